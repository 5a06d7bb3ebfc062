/-! The class's state: a 0: scalars (0 node 1 networkState 2 beatCount 3 count 4 lostCount 5 busOn 6 into 7 nextWord 8 state 9 resetBitBefore 10 demand 11 armed 12 watch count 13 sent 14 ticksAgo 15 lastLength 16 syncs); a 1 values, a 2 identifiers, a 3 lengths, a 4 bank 0, a 5 bank 1, a 6 saved; c.2.1 contents, c.2.2 lastData -/
abbrev cs_S : Type := (Nat → Nat → Int32) × (Nat → Int64) × Int64
def up2 (a : Nat → Nat → Int32) (i k : Nat) (x : Int32) : Nat → Nat → Int32 := fun j => if j = i then upd (a i) k x else a j
def cs_u (c : cs_S) (i k : Nat) (x : Int32) : cs_S := (up2 c.1 i k x, c.2)
def cs_l (c : cs_S) (k : Nat) (x : Int64) : cs_S := (c.1, vp_updL c.2.1 k x, c.2.2)
def cs_d (c : cs_S) (x : Int64) : cs_S := (c.1, c.2.1, x)
def cs_H (c : cs_S) (rest : ab_H) : ab_H :=
  .inr (0, [.int (c.1 0 0), .ref 9, .ref 10, .ref 14, .ref 19, .ref 20, .ref 21, .ref 22, .int (c.1 0 1), .int (c.1 0 2)]) ::
  .inl (0, 30, .inl (c.1 1)) ::
  .inr (1, [.ref 11, .ref 12, .ref 13, .int (c.1 0 3), .int (c.1 0 4), .int (c.1 0 5)]) ::
  .inl (0, 12, .inl (c.1 2)) ::
  .inl (0, 12, .inl (c.1 3)) ::
  .inl (1, 12, .inr (.inl c.2.1)) ::
  .inr (2, [.ref 15, .ref 18, .int (c.1 0 6), .int (c.1 0 7)]) ::
  .inl (2, 2, .inr (.inr (.inr (.inr (fun k => if k = 0 then some 16 else if k = 1 then some 17 else none))))) ::
  .inl (0, 22, .inl (c.1 4)) ::
  .inl (0, 22, .inl (c.1 5)) ::
  .inl (0, 22, .inl (c.1 6)) ::
  .inr (3, [.int (c.1 0 8), .int (c.1 0 9)]) ::
  .inr (4, [.ref 9, .int (c.1 0 10)]) ::
  .inr (5, [.int (c.1 0 11), .int (c.1 0 12)]) ::
  .inr (6, [.int (c.1 0 13), .int (c.1 0 14), .long c.2.2, .int (c.1 0 15), .int (c.1 0 16)]) ::
  rest
def tabL : List Int32 := [1048832, 1, 0, 0, 0, 255, 1052673, 4, 1, 0, (-2147483648), 2147483647, 1052929, 4, 1, 0, (-2147483648), 2147483647, 1054209, 4, 2, 0, 0, 8388607, 1054464, 2, 2, 0, 0, 65535, 1441792, 1, 4, 1, 0, 3, 1441793, 4, 4, 1614807056, (-2147483648), 2147483647, 1441794, 4, 4, 0, (-2147483648), 2147483647, 1441795, 4, 4, 0, (-2147483648), 2147483647, 1572866, 1, 2, 255, 0, 255, 1572867, 2, 2, 0, 0, 65535, 1572869, 2, 2, 0, 0, 65535, 1703936, 1, 4, 1, 0, 3, 1703937, 4, 4, 1614872592, (-2147483648), 2147483647, 1703938, 4, 4, 0, (-2147483648), 2147483647, 1703939, 4, 4, 0, (-2147483648), 2147483647, 6307840, 2, 2, 0, 0, 65535, 6308096, 2, 0, 0, 0, 65535, 6316032, 1, 2, 1, 1, 3, 6317056, 4, 0, 0, (-2147483648), 2147483647, 6317312, 4, 3, 100000, 0, 100000, 6318848, 4, 0, 0, (-2147483648), 2147483647, 6322688, 4, 2, 0, (-100000), 100000, 6323457, 4, 3, (-100000), (-100000), 100000, 6323458, 4, 3, 100000, (-100000), 100000, 6323968, 4, 3, 1000, 1, 1000, 6324480, 4, 2, 100, 1, 1000, 6324992, 4, 3, 10, 1, 1000, 6325504, 4, 3, 50, 1, 1000, 6356736, 4, 2, 0, (-1000), 1000]
def tabF (j : Nat) : Int32 := tabL.getD j 0
def keptL : List Int32 := [3, 4, 5, 6, 7, 8, 9, 10, 11, 12, 13, 14, 15, 18, 20, 23, 24, 25, 26, 27, 28]
def keptF (j : Nat) : Int32 := keptL.getD j 0
def statL : List Int32 := [0, 64, 33, 35, 39, 7, 15, 8]
def statF (j : Nat) : Int32 := statL.getD j 0
/-- the three tables of the class, as the Statement gives them -/
def cs_X (X : ab_C) : Prop := X.2.2.2.2.2[0]? = some (180, tabF) ∧ X.2.2.2.2.2[1]? = some (21, keptF) ∧ X.2.2.2.2.2[2]? = some (8, statF)
theorem ab_no {α : Type} {o : Option α} {v : α} {P : Prop} (hv : o = some v) (h : o = none) : P := by rw [h] at hv; cases hv
def ab_z01 (x : Int32) : Bool := x == 0 || x == 1
theorem ab_z01_ok {x : Int32} (h : ab_z01 x = true) : x = 0 ∨ x = 1 := by
  unfold ab_z01 at h
  simpa using h
theorem ab_fitB {x : Int32} (h : x = 0 ∨ x = 1) : narrow .boolean (.int x) = .int x ∧ fits .boolean (.int x) = true := by
  rcases h with rfl | rfl
  · exact ⟨by decide, by decide⟩
  · exact ⟨by decide, by decide⟩
def ab_bd {α β : Type} (o : Option α) (k : α → Option β) : Option β := match o with
  | none => none
  | some a => k a
theorem ab_bd_n {α β : Type} (k : α → Option β) : ab_bd none k = none := rfl
theorem ab_bd_s {α β : Type} (a : α) (k : α → Option β) : ab_bd (some a) k = k a := rfl
def i_abs (x : Int32) : Int32 := if 0 ≤ x then x else 0 - x
def i_max (x y : Int32) : Int32 := if x < y then y else x
def i_min (x y : Int32) : Int32 := if y < x then y else x
