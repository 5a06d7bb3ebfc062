/-! The class's state: a 0: scalars (0 node 1 networkState 2 beatCount 3 count 4 lostCount 5 busOn 6 into 7 nextWord 8 state 9 resetBitBefore 10 demand 11 armed 12 watch count 13 sent 14 ticksAgo 15 lastLength 16 syncs); a 1 values, a 2 identifiers, a 3 lengths, a 4 bank 0, a 5 bank 1, a 6 saved; l contents, l 12 lastData -/
abbrev cs_S : Type := (Nat → Nat → Int32) × (Nat → Int64)
def up2 (a : Nat → Nat → Int32) (i k : Nat) (x : Int32) : Nat → Nat → Int32 := fun j => if j = i then upd (a i) k x else a j
def cs_u (c : cs_S) (i k : Nat) (x : Int32) : cs_S := (up2 c.1 i k x, c.2)
def cs_l (c : cs_S) (k : Nat) (x : Int64) : cs_S := (c.1, vp_updL c.2 k x)
def cs_H (c : cs_S) (rest : ab_H) : ab_H :=
  .inr (0, [.int (c.1 0 0), .ref 9, .ref 10, .ref 14, .ref 19, .ref 20, .ref 21, .ref 22, .int (c.1 0 1), .int (c.1 0 2)]) ::
  .inl (0, 30, .inl (c.1 1)) ::
  .inr (1, [.ref 11, .ref 12, .ref 13, .int (c.1 0 3), .int (c.1 0 4), .int (c.1 0 5)]) ::
  .inl (0, 12, .inl (c.1 2)) ::
  .inl (0, 12, .inl (c.1 3)) ::
  .inl (1, 12, .inr (.inl c.2)) ::
  .inr (2, [.ref 15, .ref 18, .int (c.1 0 6), .int (c.1 0 7)]) ::
  .inl (2, 2, .inr (.inr (.inr (.inr (fun k => if k = 0 then some 16 else if k = 1 then some 17 else none))))) ::
  .inl (0, 22, .inl (c.1 4)) ::
  .inl (0, 22, .inl (c.1 5)) ::
  .inl (0, 22, .inl (c.1 6)) ::
  .inr (3, [.int (c.1 0 8), .int (c.1 0 9)]) ::
  .inr (4, [.ref 9, .int (c.1 0 10)]) ::
  .inr (5, [.int (c.1 0 11), .int (c.1 0 12)]) ::
  .inr (6, [.int (c.1 0 13), .int (c.1 0 14), .long (c.2 12), .int (c.1 0 15), .int (c.1 0 16)]) ::
  rest
section CST
variable {X : ab_C} {d : Nat} {c : cs_S} {rest : ab_H}
theorem tB_size : ab_M X mB_size d 0 0 [.ref 10] (cs_H c rest) (fun r h => r = some (.int (c.1 0 3)) ∧ h = cs_H c rest) := by
  refine ab_entry (by decide) (by decide) ?_
  refine ab_go 9 [] ckB_size rfl ?_
  exact ab_iret ckB_size rfl rfl ⟨rfl, rfl⟩
theorem tB_clear : ab_M X mB_clear d 0 0 [.ref 10] (cs_H c rest) (fun r h => r = none ∧ h = cs_H (cs_u c 0 3 0) rest) := by
  refine ab_entry (by decide) (by decide) ?_
  refine ab_go 9 [] ckB_clear rfl ?_
  exact ab_vret ckB_clear rfl rfl ⟨rfl, rfl⟩
theorem tB_first : ab_M X mB_firstIdentifier d 0 0 [.ref 10] (cs_H c rest) (fun r h => r = some (.int (if c.1 0 3 = 0 then -1 else c.1 2 0)) ∧ h = cs_H c rest) := by
  refine ab_entry (by decide) (by decide) ?_
  refine ab_go 9 [] ckB_firstIdentifier rfl ?_
  refine ab_if_ne ckB_firstIdentifier rfl (fun h1 => ?_) (fun h1 => ?_)
  · refine ab_go 9 [] ckB_firstIdentifier rfl ?_
    exact ab_iret ckB_firstIdentifier rfl rfl ⟨by rw [if_neg h1]; rfl, rfl⟩
  · refine ab_go 9 [] ckB_firstIdentifier rfl ?_
    exact ab_iret ckB_firstIdentifier rfl rfl ⟨by rw [if_pos h1], rfl⟩
end CST
