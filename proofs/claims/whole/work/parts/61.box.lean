/-! Mailboxes as lists: the class keeps its frames sorted (stably), the reference in the order of sending -/
abbrev bx_E : Type := Int32 × Int32 × Int64
def bx_in (e : bx_E) : List bx_E → List bx_E
  | [] => [e]
  | x :: l => if e.1 < x.1 then e :: x :: l else x :: bx_in e l
def bx_fr (e : bx_E) : List bx_E → List bx_E
  | [] => [e]
  | y :: l => if y.1 < e.1 then y :: bx_fr e l else e :: y :: l
def bx_st : List bx_E → List bx_E
  | [] => []
  | x :: l => bx_fr x (bx_st l)
def bx_so : List bx_E → Prop
  | [] => True
  | x :: l => (∀ y ∈ l, x.1 ≤ y.1) ∧ bx_so l
theorem bx_comm (x e : bx_E) : ∀ l : List bx_E, bx_fr x (bx_in e l) = bx_in e (bx_fr x l)
  | [] => by
    simp only [bx_in, bx_fr]
  | y :: l => by
    have ih := bx_comm x e l
    by_cases h1 : e.1 < y.1 <;> by_cases h2 : y.1 < x.1
    · have h3 : e.1 < x.1 := by rw [Int32.lt_iff_toInt_lt] at *; omega
      simp [bx_in, bx_fr, h1, h2, h3]
    · by_cases h3 : e.1 < x.1 <;> simp [bx_in, bx_fr, h1, h2, h3]
    · simp [bx_in, bx_fr, h1, h2, ih]
    · have h3 : ¬ e.1 < x.1 := by rw [Int32.lt_iff_toInt_lt] at *; omega
      simp [bx_in, bx_fr, h1, h2, h3]
theorem bx_snoc (e : bx_E) : ∀ l : List bx_E, bx_st (l ++ [e]) = bx_in e (bx_st l)
  | [] => rfl
  | x :: l => by
    show bx_fr x (bx_st (l ++ [e])) = bx_in e (bx_fr x (bx_st l))
    rw [bx_snoc e l, bx_comm]
theorem bx_fr_mem {x y : bx_E} : ∀ {l : List bx_E}, y ∈ bx_fr x l → y = x ∨ y ∈ l
  | [], h => by simp [bx_fr] at h; exact Or.inl h
  | z :: l, h => by
    unfold bx_fr at h
    split at h
    · rcases List.mem_cons.mp h with rfl | h
      · exact Or.inr List.mem_cons_self
      · rcases bx_fr_mem h with h | h
        · exact Or.inl h
        · exact Or.inr (List.mem_cons_of_mem _ h)
    · rcases List.mem_cons.mp h with h | h
      · exact Or.inl h
      · exact Or.inr h
theorem bx_fr_so (x : bx_E) : ∀ l : List bx_E, bx_so l → bx_so (bx_fr x l)
  | [], _ => ⟨fun y h => (by cases h), trivial⟩
  | z :: l, h => by
    obtain ⟨h1, h2⟩ := h
    unfold bx_fr
    split
    · rename_i hz
      refine ⟨fun y hy => ?_, bx_fr_so x l h2⟩
      rcases bx_fr_mem hy with rfl | hy
      · rw [Int32.lt_iff_toInt_lt] at hz; rw [Int32.le_iff_toInt_le]; omega
      · exact h1 y hy
    · rename_i hz
      refine ⟨fun y hy => ?_, h1, h2⟩
      have hxz : x.1 ≤ z.1 := by rw [Int32.lt_iff_toInt_lt] at hz; rw [Int32.le_iff_toInt_le]; omega
      rcases List.mem_cons.mp hy with rfl | hy
      · exact hxz
      · have := h1 y hy
        rw [Int32.le_iff_toInt_le] at *; omega
theorem bx_st_so : ∀ l : List bx_E, bx_so (bx_st l)
  | [] => trivial
  | x :: l => bx_fr_so x _ (bx_st_so l)
theorem bx_fr_len (x : bx_E) : ∀ l : List bx_E, (bx_fr x l).length = l.length + 1
  | [] => rfl
  | z :: l => by
    unfold bx_fr
    split
    · simp [bx_fr_len x l]
    · rfl
theorem bx_st_len : ∀ l : List bx_E, (bx_st l).length = l.length
  | [] => rfl
  | x :: l => by show (bx_fr x (bx_st l)).length = _; rw [bx_fr_len, bx_st_len l]; rfl
/-- inserting where all before aren't greater and all behind are -/
theorem bx_in_at (e : bx_E) : ∀ (a b : List bx_E), (∀ y ∈ a, ¬ e.1 < y.1) → (∀ y ∈ b, e.1 < y.1) → bx_in e (a ++ b) = a ++ e :: b
  | [], [], _, _ => rfl
  | [], y :: b, _, h => by
    show bx_in e (y :: b) = e :: y :: b
    simp [bx_in, h y List.mem_cons_self]
  | x :: a, b, h1, h2 => by
    show bx_in e (x :: (a ++ b)) = x :: (a ++ e :: b)
    have h3 := h1 x List.mem_cons_self
    simp [bx_in, h3, bx_in_at e a b (fun y hy => h1 y (List.mem_cons_of_mem _ hy)) h2]
/-- the first n frames of three arrays -/
def bx_e (s : cs_S) (j : Nat) : bx_E := (s.1 2 j, s.1 3 j, s.2.1 j)
def bx_l (f : Nat → bx_E) (n : Nat) : List bx_E := (List.range n).map f
theorem bx_l_get (f : Nat → bx_E) (n j : Nat) : (bx_l f n)[j]? = if j < n then some (f j) else none := by
  unfold bx_l
  by_cases h : j < n
  · simp [h]
  · simp [h]
theorem bx_so_get {f : Nat → bx_E} {n : Nat} (h : bx_so (bx_l f n)) : ∀ (i j : Nat), i ≤ j → j < n → (f i).1 ≤ (f j).1 := by
  have key : ∀ (l : List bx_E), bx_so l → ∀ (i j : Nat) (x y : bx_E), i < j → l[i]? = some x → l[j]? = some y → x.1 ≤ y.1 := by
    intro l
    induction l with
    | nil => intro _ i j x y _ h; simp at h
    | cons z l ih =>
      intro hs i j x y hij hi hj
      cases j with
      | zero => omega
      | succ j =>
        simp at hj
        cases i with
        | zero =>
          simp at hi
          subst hi
          exact hs.1 y (List.mem_of_getElem? hj)
        | succ i =>
          simp at hi
          exact ih hs.2 i j x y (by omega) hi hj
  intro i j hij hj
  by_cases he : i = j
  · subst he; rw [Int32.le_iff_toInt_le]; omega
  · exact key _ h i j _ _ (by omega) (by rw [bx_l_get, if_pos (by omega)]) (by rw [bx_l_get, if_pos hj])
/-- what the class's send makes of its arrays -/
def bx_ins (f : Nat → bx_E) (p q : Nat) (e : bx_E) (j : Nat) : bx_E := if j < p then f j else if j = p then e else if j ≤ q then f (j - 1) else f j
def bx_pos (f : Nat → bx_E) (i : Int32) : Nat → Nat
  | 0 => 0
  | q + 1 => if i < (f q).1 then bx_pos f i q else q + 1
theorem bx_pos_le (f : Nat → bx_E) (i : Int32) : ∀ q, bx_pos f i q ≤ q
  | 0 => Nat.le_refl _
  | q + 1 => by
    unfold bx_pos
    split
    · exact Nat.le_trans (bx_pos_le f i q) (Nat.le_succ q)
    · exact Nat.le_refl _
theorem bx_pos_hi (f : Nat → bx_E) (i : Int32) : ∀ q j, bx_pos f i q ≤ j → j < q → i < (f j).1
  | 0, j, _, h => by omega
  | q + 1, j, h1, h2 => by
    unfold bx_pos at h1
    split at h1
    · rename_i hq
      by_cases e : j = q
      · subst e; exact hq
      · exact bx_pos_hi f i q j h1 (by omega)
    · omega
theorem bx_pos_lo (f : Nat → bx_E) (i : Int32) : ∀ q, bx_pos f i q = 0 ∨ ¬ i < (f (bx_pos f i q - 1)).1
  | 0 => Or.inl rfl
  | q + 1 => by
    unfold bx_pos
    split
    · exact bx_pos_lo f i q
    · rename_i hq
      exact Or.inr hq
theorem bx_ins_list {f : Nat → bx_E} {n : Nat} {e : bx_E} (h : bx_so (bx_l f n)) : bx_l (bx_ins f (bx_pos f e.1 n) n e) (n + 1) = bx_in e (bx_l f n) := by
  have hp := bx_pos_le f e.1 n
  have hs := bx_so_get h
  have es : bx_l f n = bx_l f (bx_pos f e.1 n) ++ (bx_l f n).drop (bx_pos f e.1 n) := by
    apply List.ext_getElem?
    intro j
    by_cases hj : j < bx_pos f e.1 n
    · rw [List.getElem?_append_left (by simp [bx_l]; exact hj), bx_l_get, bx_l_get, if_pos (by omega), if_pos hj]
    · rw [List.getElem?_append_right (by simp [bx_l]; omega), List.getElem?_drop]
      congr 1
      simp [bx_l]; omega
  rw [es, bx_in_at]
  · apply List.ext_getElem?
    intro j
    rw [bx_l_get]
    by_cases hj : j < bx_pos f e.1 n
    · rw [List.getElem?_append_left (by simp [bx_l]; exact hj), bx_l_get, if_pos (by omega), if_pos hj]
      simp [bx_ins, hj]
    · rw [List.getElem?_append_right (by simp [bx_l]; omega)]
      have hl : (bx_l f (bx_pos f e.1 n)).length = bx_pos f e.1 n := by simp [bx_l]
      rw [hl]
      by_cases he : j = bx_pos f e.1 n
      · rw [if_pos (by omega), he, Nat.sub_self]
        simp [bx_ins]
      · rw [show j - bx_pos f e.1 n = (j - 1 - bx_pos f e.1 n) + 1 by omega, List.getElem?_cons_succ, List.getElem?_drop, show bx_pos f e.1 n + (j - 1 - bx_pos f e.1 n) = j - 1 by omega, bx_l_get]
        by_cases hn : j < n + 1
        · rw [if_pos hn, if_pos (by omega)]
          simp [bx_ins, hj, he, show j ≤ n by omega]
        · rw [if_neg hn, if_neg (by omega)]
  · intro y hy
    obtain ⟨j, hj, rfl⟩ := List.mem_map.mp hy
    have hj : j < bx_pos f e.1 n := List.mem_range.mp hj
    rcases bx_pos_lo f e.1 n with h0 | h0
    · omega
    · have := hs j (bx_pos f e.1 n - 1) (by omega) (by omega)
      rw [Int32.le_iff_toInt_le] at this
      rw [Int32.lt_iff_toInt_lt] at *
      omega
  · intro y hy
    obtain ⟨j, hj⟩ := List.getElem?_of_mem hy
    rw [List.getElem?_drop, bx_l_get] at hj
    split at hj
    · cases hj
      exact bx_pos_hi f e.1 n _ (by omega) (by assumption)
    · cases hj
theorem cs_u_1 (c : cs_S) (i k : Nat) (x : Int32) (j q : Nat) : (cs_u c i k x).1 j q = if j = i then (if q = k then x else c.1 j q) else c.1 j q := by
  show up2 c.1 i k x j q = _
  unfold up2
  by_cases h : j = i
  · subst h
    rw [if_pos rfl, if_pos rfl]
    rfl
  · rw [if_neg h, if_neg h]
theorem cs_u_2 (c : cs_S) (i k : Nat) (x : Int32) : (cs_u c i k x).2 = c.2 := rfl
theorem cs_l_1 (c : cs_S) (k : Nat) (x : Int64) : (cs_l c k x).1 = c.1 := rfl
theorem cs_l_2 (c : cs_S) (k : Nat) (x : Int64) (q : Nat) : (cs_l c k x).2.1 q = if q = k then x else c.2.1 q := rfl
theorem cs_l_3 (c : cs_S) (k : Nat) (x : Int64) : (cs_l c k x).2.2 = c.2.2 := rfl
theorem cs_d_1 (c : cs_S) (x : Int64) : (cs_d c x).1 = c.1 := rfl
theorem cs_d_2 (c : cs_S) (x : Int64) : (cs_d c x).2.1 = c.2.1 := rfl
theorem cs_d_3 (c : cs_S) (x : Int64) : (cs_d c x).2.2 = x := rfl
theorem inb_nI {n N : Nat} (h : n < N) (hN : N < 2 ^ 31) : ab_inb (nI n) N = true := by
  have := vp_in_iff.mp (vp_in_nI h hN)
  unfold ab_inb
  simp [this.1, this.2]
/-- nothing but the mailbox's arrays and its count (scalar z) differ -/
def bx_fm (z : Nat) (c c' : cs_S) : Prop := (∀ i, i ≠ 0 → i ≠ 2 → i ≠ 3 → c'.1 i = c.1 i) ∧ (∀ k, k ≠ z → c'.1 0 k = c.1 0 k) ∧ c'.2.2 = c.2.2
theorem bx_fm.rf (z : Nat) (c : cs_S) : bx_fm z c c := ⟨fun _ _ _ _ => rfl, fun _ _ => rfl, rfl⟩
theorem bx_fm.tr {z : Nat} {a b c : cs_S} (h : bx_fm z a b) (g : bx_fm z b c) : bx_fm z a c := ⟨fun i h1 h2 h3 => (g.1 i h1 h2 h3).trans (h.1 i h1 h2 h3), fun k hk => (g.2.1 k hk).trans (h.2.1 k hk), g.2.2.trans h.2.2⟩
def bx_put (c : cs_S) (q : Nat) (i l : Int32) (d : Int64) : cs_S := cs_l (cs_u (cs_u c 2 q i) 3 q l) q d
theorem bx_put_e (c : cs_S) (q : Nat) (i l : Int32) (d : Int64) (j : Nat) : bx_e (bx_put c q i l d) j = if j = q then (i, l, d) else bx_e c j := by
  unfold bx_put bx_e
  simp only [cs_l_1, cs_l_2, cs_u_1, cs_u_2]
  by_cases h : j = q <;> simp [h]
theorem bx_put_fm (z : Nat) (c : cs_S) (q : Nat) (i l : Int32) (d : Int64) : bx_fm z c (bx_put c q i l d) := by
  refine ⟨fun a h0 h2 h3 => ?_, fun k hk => ?_, rfl⟩
  · funext k
    simp only [bx_put, cs_l_1, cs_u_1, if_neg h2, if_neg h3]
  · rfl
theorem bx_put_0 (c : cs_S) (q : Nat) (i l : Int32) (d : Int64) (k : Nat) : (bx_put c q i l d).1 0 k = c.1 0 k := rfl
theorem bx_cnt_fm (z : Nat) (c : cs_S) (x : Int32) : bx_fm z c (cs_u c 0 z x) := by
  refine ⟨fun a h0 h2 h3 => ?_, fun k hk => ?_, rfl⟩
  · funext k
    simp only [cs_u_1, if_neg h0]
  · simp only [cs_u_1, if_neg hk, if_true]
theorem bx_cnt_e (c : cs_S) (z : Nat) (x : Int32) : bx_e (cs_u c 0 z x) = bx_e c := rfl
theorem bx_pos_cg {f g : Nat → bx_E} {i : Int32} : ∀ q, (∀ j, j < q → f j = g j) → bx_pos f i q = bx_pos g i q
  | 0, _ => rfl
  | q + 1, h => by
    unfold bx_pos
    rw [h q (by omega), bx_pos_cg q (fun j hj => h j (by omega))]
theorem bx_l_cg {f g : Nat → bx_E} {n : Nat} (h : ∀ j, j < n → f j = g j) : bx_l f n = bx_l g n := by
  unfold bx_l
  exact List.map_congr_left (fun j hj => h j (List.mem_range.mp hj))
theorem bx_stop (c : cs_S) (q : Nat) (i l : Int32) (d : Int64) : ∃ c', some (cs_u (bx_put c q i l d) 0 3 (c.1 0 3 + 1)) = some c' ∧ bx_fm 3 c c' ∧ c'.1 0 3 = c.1 0 3 + 1 ∧ ∀ j, bx_e c' j = bx_ins (bx_e c) q q (i, l, d) j := by
  refine ⟨_, rfl, (bx_put_fm 3 c q i l d).tr (bx_cnt_fm 3 _ _), ?_, fun j => ?_⟩
  · simp [cs_u_1]
  · rw [bx_cnt_e, bx_put_e]
    unfold bx_ins
    by_cases h1 : j = q
    · subst h1; simp
    · by_cases h2 : j < q
      · simp [h1, h2]
      · simp [h1, h2, show ¬ j ≤ q by omega]
theorem bx_sendL (i : Int32) (l : Int32) (d : Int64) : ∀ (q : Nat) (fu : Nat) (c : cs_S), q ≤ 11 → q < fu → ∃ c', fB_send_33 fu c i l d (nI q) = some c' ∧ bx_fm 3 c c' ∧ c'.1 0 3 = c.1 0 3 + 1 ∧ ∀ j, bx_e c' j = bx_ins (bx_e c) (bx_pos (bx_e c) i q) q (i, l, d) j := by
  intro q
  induction q with
  | zero =>
    intro fu c hq hf
    obtain ⟨fu, rfl⟩ : ∃ z, fu = z + 1 := ⟨fu - 1, by omega⟩
    have h1 : nI 0 ≤ (0 : Int32) := by decide
    have h2 : ab_inb (nI 0) 12 = true := by decide
    unfold fB_send_33
    rw [if_pos h1, if_pos h2]
    exact bx_stop c 0 i l d
  | succ q ih =>
    intro fu c hq hf
    obtain ⟨fu, rfl⟩ : ∃ z, fu = z + 1 := ⟨fu - 1, by omega⟩
    unfold fB_send_33
    rw [if_neg (nI_nle (by omega) (by omega)), nI_pred, if_pos (inb_nI (by omega) (by omega)), if_pos (inb_nI (by omega) (by omega)), pk_m1, nI_clamp (n := q) (by omega), nI_clamp (n := q + 1) (by omega)]
    by_cases hc : c.1 2 q ≤ i
    · rw [if_pos hc]
      have hp : bx_pos (bx_e c) i (q + 1) = q + 1 := by
        unfold bx_pos
        have : ¬ i < (bx_e c q).1 := by
          show ¬ i < c.1 2 q
          rw [Int32.lt_iff_toInt_lt]; rw [Int32.le_iff_toInt_le] at hc; omega
        rw [if_neg this]
      rw [hp]
      exact bx_stop c (q + 1) i l d
    · rw [if_neg hc, if_pos (inb_nI (by omega) (by omega))]
      have hp : bx_pos (bx_e c) i (q + 1) = bx_pos (bx_e c) i q := by
        show (if i < (bx_e c q).1 then bx_pos (bx_e c) i q else q + 1) = _
        have : i < (bx_e c q).1 := by
          show i < c.1 2 q
          rw [Int32.lt_iff_toInt_lt]; rw [Int32.le_iff_toInt_le] at hc; omega
        rw [if_pos this]
      rw [hp]
      obtain ⟨c', e1, e2, e3, e4⟩ := ih fu (bx_put c (q + 1) (c.1 2 q) (c.1 3 q) (c.2.1 q)) (by omega) (by omega)
      refine ⟨c', e1, (bx_put_fm 3 _ _ _ _ _).tr e2, e3, fun j => ?_⟩
      rw [e4]
      have hpp : bx_pos (bx_e (bx_put c (q + 1) (c.1 2 q) (c.1 3 q) (c.2.1 q))) i q = bx_pos (bx_e c) i q := bx_pos_cg q (fun j hj => by rw [bx_put_e, if_neg (by omega)])
      rw [hpp]
      have hle := bx_pos_le (bx_e c) i q
      generalize bx_pos (bx_e c) i q = p at hle
      unfold bx_ins
      by_cases h1 : j < p
      · rw [if_pos h1, if_pos h1, bx_put_e, if_neg (by omega)]
      · rw [if_neg h1, if_neg h1]
        by_cases h2 : j = p
        · rw [if_pos h2, if_pos h2]
        · rw [if_neg h2, if_neg h2]
          by_cases h3 : j ≤ q
          · rw [if_pos h3, if_pos (by omega), bx_put_e, if_neg (by omega)]
          · rw [if_neg h3]
            by_cases h4 : j = q + 1
            · rw [if_pos (by omega), bx_put_e, if_pos h4, h4]
              rfl
            · rw [if_neg (by omega), bx_put_e, if_neg h4]
theorem bx_l_succ (f : Nat → bx_E) (n : Nat) : bx_l f (n + 1) = bx_l f n ++ [f n] := by
  unfold bx_l
  rw [List.range_succ, List.map_append]
  rfl
theorem bx_l_cons (f : Nat → bx_E) (n : Nat) : bx_l f (n + 1) = f 0 :: bx_l (fun j => f (j + 1)) n := by
  unfold bx_l
  rw [List.range_succ_eq_map, List.map_cons, List.map_map]
  rfl
/-- the two mailboxes: n frames wait in each, the class's sorted -/
def BX (n : Nat) (c r : cs_S) : Prop := n ≤ 12 ∧ c.1 0 3 = nI n ∧ r.1 0 0 = nI n ∧ bx_l (bx_e c) n = bx_st (bx_l (bx_e r) n)
theorem BX_send {n : Nat} {c r : cs_S} (h : BX n c r) (hb : c.1 0 5 = r.1 0 8) (i l : Int32) (d : Int64) : ∃ c' r' m, fB_send c i l d = some c' ∧ fR_send r i l d = some r' ∧ BX m c' r' ∧ ((bx_fm 3 c c' ∧ bx_fm 0 r r') ∨ (c' = cs_u c 0 4 (c.1 0 4 + 1) ∧ r' = cs_u r 0 1 (r.1 0 1 + 1))) := by
  obtain ⟨h1, h2, h3, h4⟩ := h
  unfold fB_send fR_send
  rw [hb]
  by_cases h0 : r.1 0 8 = 0
  · rw [if_pos h0, if_pos h0]
    exact ⟨_, _, n, rfl, rfl, ⟨h1, h2, h3, h4⟩, Or.inr ⟨rfl, rfl⟩⟩
  · rw [if_neg h0, if_neg h0, h2, h3]
    by_cases hn : n = 12
    · subst hn
      rw [if_neg (by decide), if_pos (by decide)]
      exact ⟨_, _, 12, rfl, rfl, ⟨h1, h2, h3, h4⟩, Or.inr ⟨rfl, rfl⟩⟩
    · have g1 : nI n < (12 : Int32) := nI_lt (b := 12) (by omega) (by decide)
      have g2 : ¬ nI n = (12 : Int32) := fun z => hn ((nI_eq (b := 12) (by omega) (by decide)).mp z)
      rw [if_pos g1, if_neg g2, if_pos (inb_nI (by omega) (by decide)), nI_clamp (by omega)]
      obtain ⟨c', e1, e2, e3, e4⟩ := bx_sendL i l d n 40 c (by omega) (by omega)
      refine ⟨c', cs_u (bx_put r n i l d) 0 0 (nI n + 1), n + 1, e1, rfl, ⟨by omega, ?_, ?_, ?_⟩, Or.inl ⟨e2, (bx_put_fm 0 _ _ _ _ _).tr (bx_cnt_fm 0 _ _)⟩⟩
      · rw [e3, h2, nI_1]
      · simp [cs_u_1, nI_1]
      · have so : bx_so (bx_l (bx_e c) n) := by rw [h4]; exact bx_st_so _
        have q1 : bx_l (bx_e c') (n + 1) = bx_in (i, l, d) (bx_l (bx_e c) n) := by
          rw [← bx_ins_list so]
          exact bx_l_cg (fun j _ => e4 j)
        have q2 : bx_l (bx_e (cs_u (bx_put r n i l d) 0 0 (nI n + 1))) (n + 1) = bx_l (bx_e r) n ++ [(i, l, d)] := by
          rw [bx_cnt_e, bx_l_succ, bx_put_e, if_pos rfl]
          congr 1
          exact bx_l_cg (fun j hj => by rw [bx_put_e, if_neg (by omega)])
        rw [q1, q2, bx_snoc, h4]
/-! the first of the least -/
def bx_best (f : Nat → bx_E) : Nat → Nat
  | 0 => 0
  | j + 1 => if (f j).1 < (f (bx_best f j)).1 then j else bx_best f j
def bx_rem (f : Nat → bx_E) (k j : Nat) : bx_E := if j < k then f j else f (j + 1)
theorem bx_best_lt (f : Nat → bx_E) : ∀ n, bx_best f (n + 1) ≤ n
  | 0 => by
    unfold bx_best
    split
    · exact Nat.le_refl _
    · exact Nat.le_refl _
  | n + 1 => by
    have := bx_best_lt f n
    show (if (f (n + 1)).1 < (f (bx_best f (n + 1))).1 then n + 1 else bx_best f (n + 1)) ≤ n + 1
    split <;> omega
theorem bx_min (f : Nat → bx_E) : ∀ n, bx_st (bx_l f (n + 1)) = f (bx_best f (n + 1)) :: bx_st (bx_l (bx_rem f (bx_best f (n + 1))) n)
  | 0 => by
    have : bx_best f 1 = 0 := Nat.le_zero.mp (bx_best_lt f 0)
    rw [this]
    rfl
  | n + 1 => by
    have ih := bx_min f n
    have hb := bx_best_lt f n
    rw [bx_l_succ, bx_snoc, ih]
    have e : bx_best f (n + 1 + 1) = if (f (n + 1)).1 < (f (bx_best f (n + 1))).1 then n + 1 else bx_best f (n + 1) := rfl
    rw [e]
    by_cases hc : (f (n + 1)).1 < (f (bx_best f (n + 1))).1
    · rw [if_pos hc]
      have : bx_l (bx_rem f (n + 1)) (n + 1) = bx_l f (n + 1) := bx_l_cg (fun j hj => by unfold bx_rem; rw [if_pos hj])
      rw [this, ih]
      unfold bx_in
      rw [if_pos hc]
    · rw [if_neg hc]
      unfold bx_in
      rw [if_neg hc, bx_l_succ (bx_rem f (bx_best f (n + 1))), bx_snoc]
      congr 2
      unfold bx_rem
      rw [if_neg (by omega)]
theorem bx_nextL {r : cs_S} {n : Nat} (hn : r.1 0 0 = nI n) (h12 : n ≤ 12) : ∀ (s j fu : Nat), j + 1 + s = n → s < fu → fR_next_4 fu r (nI (bx_best (bx_e r) (j + 1))) (nI (j + 1)) = some (nI (bx_best (bx_e r) n))
  | 0, j, fu, hj, hf => by
    obtain ⟨fu, rfl⟩ : ∃ z, fu = z + 1 := ⟨fu - 1, by omega⟩
    unfold fR_next_4
    have : n = j + 1 := by omega
    rw [hn, this, if_pos (nI_le (Nat.le_refl _) (by omega))]
  | s + 1, j, fu, hj, hf => by
    obtain ⟨fu, rfl⟩ : ∃ z, fu = z + 1 := ⟨fu - 1, by omega⟩
    have hb := bx_best_lt (bx_e r) j
    have ih := bx_nextL hn h12 s (j + 1) fu (by omega) (by omega)
    unfold fR_next_4
    rw [hn, if_neg (nI_ge (by omega) (by omega)), if_neg (nI_pos (by omega)), if_pos (inb_nI (by omega) (by omega)), if_pos (inb_nI (by omega) (by omega)), nI_clamp (by omega), nI_clamp (by omega), nI_1]
    have e : bx_best (bx_e r) (j + 1 + 1) = if (bx_e r (j + 1)).1 < (bx_e r (bx_best (bx_e r) (j + 1))).1 then j + 1 else bx_best (bx_e r) (j + 1) := rfl
    rw [e] at ih
    by_cases hc : (bx_e r (j + 1)).1 < (bx_e r (bx_best (bx_e r) (j + 1))).1
    · rw [if_pos hc] at ih
      rw [if_neg (by rw [Int32.le_iff_toInt_le]; rw [Int32.lt_iff_toInt_lt] at hc; exact fun z => absurd (show (bx_e r (j + 1)).1.toInt < (bx_e r (bx_best (bx_e r) (j + 1))).1.toInt from hc) (by show ¬ (r.1 2 (j + 1)).toInt < (r.1 2 (bx_best (bx_e r) (j + 1))).toInt; omega))]
      exact ih
    · rw [if_neg hc] at ih
      rw [if_pos (by rw [Int32.le_iff_toInt_le]; rw [Int32.lt_iff_toInt_lt] at hc; have hc : ¬ (r.1 2 (j + 1)).toInt < (r.1 2 (bx_best (bx_e r) (j + 1))).toInt := hc; omega)]
      exact ih
theorem bx_next {r : cs_S} {n : Nat} (hn : r.1 0 0 = nI (n + 1)) (h12 : n + 1 ≤ 12) : fR_next r = some (nI (bx_best (bx_e r) (n + 1))) := by
  unfold fR_next
  have hb : bx_best (bx_e r) 1 = 0 := Nat.le_zero.mp (bx_best_lt _ 0)
  have := bx_nextL hn h12 n 0 39 (by omega) (by omega)
  rw [show (40 : Nat) = 39 + 1 from rfl]
  unfold fR_next_4
  rw [hn, if_neg (show ¬ nI (n + 1) ≤ 0 from nI_nle (by omega) (by omega)), if_pos (by decide)]
  rw [hb] at this
  exact this
theorem bx_next0 {r : cs_S} (hn : r.1 0 0 = 0) : fR_next r = some (-1) := by
  unfold fR_next
  rw [show (40 : Nat) = 39 + 1 from rfl]
  unfold fR_next_4
  rw [hn, if_pos (by decide)]
theorem bx_dropL {m : Nat} (h11 : m ≤ 11) : ∀ (s y fu : Nat) (c : cs_S), y + s = m → s < fu → c.1 0 3 = nI m → ∃ c', fB_dropFirst_21 fu c (nI y) = some (1, c') ∧ bx_fm 3 c c' ∧ c'.1 0 3 = nI m ∧ ∀ j, bx_e c' j = if y ≤ j ∧ j < m then bx_e c (j + 1) else bx_e c j
  | 0, y, fu, c, hy, hf, hn => by
    obtain ⟨fu, rfl⟩ : ∃ z, fu = z + 1 := ⟨fu - 1, by omega⟩
    unfold fB_dropFirst_21
    have : m = y := by omega
    rw [hn, this, if_pos (nI_le (Nat.le_refl _) (by omega))]
    exact ⟨c, rfl, bx_fm.rf _ _, by rw [hn, this], fun j => by rw [if_neg (by omega)]⟩
  | s + 1, y, fu, c, hy, hf, hn => by
    obtain ⟨fu, rfl⟩ : ∃ z, fu = z + 1 := ⟨fu - 1, by omega⟩
    unfold fB_dropFirst_21
    rw [hn, if_neg (nI_ge (by omega) (by omega)), nI_1, if_pos (inb_nI (by omega) (by omega)), if_pos (inb_nI (by omega) (by omega)), nI_clamp (by omega), nI_clamp (by omega)]
    obtain ⟨c', e1, e2, e3, e4⟩ := bx_dropL h11 s (y + 1) fu (bx_put c y (c.1 2 (y + 1)) (c.1 3 (y + 1)) (c.2.1 (y + 1))) (by omega) (by omega) hn
    refine ⟨c', e1, (bx_put_fm 3 _ _ _ _ _).tr e2, e3, fun j => ?_⟩
    rw [e4, bx_put_e, bx_put_e]
    by_cases h1 : j = y
    · subst h1
      rw [if_neg (by omega), if_pos rfl, if_pos (by omega)]
      rfl
    · by_cases h2 : y + 1 ≤ j ∧ j < m
      · rw [if_pos h2, if_neg (by omega), if_pos (by omega)]
      · rw [if_neg h2, if_neg h1, if_neg (by omega)]
theorem bx_takeL {n : Nat} (h12 : n ≤ 12) : ∀ (s q fu : Nat) (r : cs_S), q + 1 + s = n → s < fu → r.1 0 0 = nI n → ∃ r', fR_take_15 fu r (nI (q + 1)) = some (1, r') ∧ bx_fm 0 r r' ∧ r'.1 0 0 = nI (n - 1) ∧ ∀ j, bx_e r' j = if q ≤ j ∧ j + 1 < n then bx_e r (j + 1) else bx_e r j
  | 0, q, fu, r, hy, hf, hn => by
    obtain ⟨fu, rfl⟩ : ∃ z, fu = z + 1 := ⟨fu - 1, by omega⟩
    unfold fR_take_15
    have : n = q + 1 := by omega
    rw [hn, this, if_pos (nI_le (Nat.le_refl _) (by omega)), nI_pred]
    refine ⟨_, rfl, bx_cnt_fm 0 _ _, by simp [cs_u_1], fun j => ?_⟩
    rw [bx_cnt_e, if_neg (by omega)]
  | s + 1, q, fu, r, hy, hf, hn => by
    obtain ⟨fu, rfl⟩ : ∃ z, fu = z + 1 := ⟨fu - 1, by omega⟩
    unfold fR_take_15
    rw [hn, if_neg (nI_ge (by omega) (by omega)), nI_pred, nI_1, if_pos (inb_nI (by omega) (by omega)), if_pos (inb_nI (by omega) (by omega)), nI_clamp (by omega), nI_clamp (by omega)]
    obtain ⟨r', e1, e2, e3, e4⟩ := bx_takeL h12 s (q + 1) fu (bx_put r q (r.1 2 (q + 1)) (r.1 3 (q + 1)) (r.2.1 (q + 1))) (by omega) (by omega) hn
    refine ⟨r', e1, (bx_put_fm 0 _ _ _ _ _).tr e2, e3, fun j => ?_⟩
    rw [e4, bx_put_e, bx_put_e]
    by_cases h1 : j = q
    · subst h1
      rw [if_neg (by omega), if_pos rfl, if_pos (by omega)]
      rfl
    · by_cases h2 : q + 1 ≤ j ∧ j + 1 < n
      · rw [if_pos h2, if_neg (by omega), if_pos (by omega)]
      · rw [if_neg h2, if_neg h1, if_neg (by omega)]
/-- what lies first in both -/
theorem BX_first {n : Nat} {c r : cs_S} (h : BX (n + 1) c r) : bx_e c 0 = bx_e r (bx_best (bx_e r) (n + 1)) ∧ bx_l (fun j => bx_e c (j + 1)) n = bx_st (bx_l (bx_rem (bx_e r) (bx_best (bx_e r) (n + 1))) n) := by
  obtain ⟨h1, h2, h3, h4⟩ := h
  rw [bx_l_cons, bx_min] at h4
  exact ⟨(List.cons.inj h4).1, (List.cons.inj h4).2⟩
theorem BX_take {n : Nat} {c r : cs_S} (h : BX n c r) : ∃ v c' r' m, fS_take c = some (v, c') ∧ fR_take r = some (v, r') ∧ BX m c' r' ∧ bx_fm 3 c c' ∧ bx_fm 0 r r' := by
  cases n with
  | zero =>
    have h2 : c.1 0 3 = 0 := h.2.1
    have h3 : r.1 0 0 = 0 := h.2.2.1
    refine ⟨0, c, r, 0, ?_, ?_, h, bx_fm.rf _ _, bx_fm.rf _ _⟩
    · unfold fS_take fB_dropFirst
      rw [if_pos h2, ab_bd_s, if_pos (show ab_z01 0 = true from rfl)]
    · unfold fR_take
      rw [bx_next0 h3, ab_bd_s, if_neg (by decide)]
  | succ n =>
    obtain ⟨b1, b2⟩ := BX_first h
    obtain ⟨h1, h2, h3, h4⟩ := h
    have hb := bx_best_lt (bx_e r) n
    obtain ⟨c', e1, e2, e3, e4⟩ := bx_dropL (m := n) (by omega) n 0 40 (cs_u c 0 3 (nI n)) (by omega) (by omega) (by simp [cs_u_1])
    obtain ⟨r', d1, d2, d3, d4⟩ := bx_takeL (n := n + 1) h1 (n - bx_best (bx_e r) (n + 1)) (bx_best (bx_e r) (n + 1)) 40 r (by omega) (by omega) h3
    refine ⟨1, c', r', n, ?_, ?_, ⟨by omega, e3, d3, ?_⟩, (bx_cnt_fm 3 _ _).tr e2, d2⟩
    · unfold fS_take fB_dropFirst
      rw [h2, if_neg (nI_ne0 (by omega) (by omega)), nI_pred]
      rw [show (0 : Int32) = nI 0 from rfl, e1, ab_bd_s, if_pos (show ab_z01 1 = true from rfl)]
    · unfold fR_take
      rw [bx_next h3 h1, ab_bd_s, if_pos (nI_pos' (by omega)), nI_1, d1]
    · have q1 : bx_l (bx_e c') n = bx_l (fun j => bx_e c (j + 1)) n := bx_l_cg (fun j hj => by rw [e4, if_pos (by omega)]; rfl)
      have q2 : bx_l (bx_e r') n = bx_l (bx_rem (bx_e r) (bx_best (bx_e r) (n + 1))) n := bx_l_cg (fun j hj => by
        rw [d4]
        unfold bx_rem
        by_cases hk : j < bx_best (bx_e r) (n + 1)
        · rw [if_neg (by omega), if_pos hk]
        · rw [if_pos (by omega), if_neg hk])
      rw [q1, q2, b2]
theorem BX_next {n : Nat} {c r : cs_S} (h : BX n c r) : fR_nextIdentifier r = some (fS_nextIdentifier c) ∧ fR_nextLength r = some (fS_nextLength c) ∧ ∃ v, fS_nextData c = some v ∧ fR_nextData r = some v := by
  cases n with
  | zero =>
    have h2 : c.1 0 3 = 0 := h.2.1
    have h3 : r.1 0 0 = 0 := h.2.2.1
    unfold fR_nextIdentifier fR_nextLength fR_nextData fS_nextIdentifier fS_nextLength fS_nextData fB_firstIdentifier fB_firstLength fB_firstData
    rw [bx_next0 h3, if_pos h2, if_pos h2, if_pos h2]
    exact ⟨rfl, rfl, 0, rfl, rfl⟩
  | succ n =>
    obtain ⟨b1, b2⟩ := BX_first h
    obtain ⟨h1, h2, h3, h4⟩ := h
    have hb := bx_best_lt (bx_e r) n
    unfold fR_nextIdentifier fR_nextLength fR_nextData fS_nextIdentifier fS_nextLength fS_nextData fB_firstIdentifier fB_firstLength fB_firstData
    have h0 : ¬ c.1 0 3 = 0 := by rw [h2]; exact nI_ne0 (by omega) (by omega)
    have a1 : c.1 2 0 = r.1 2 (bx_best (bx_e r) (n + 1)) := congrArg (·.1) b1
    have a2 : c.1 3 0 = r.1 3 (bx_best (bx_e r) (n + 1)) := congrArg (·.2.1) b1
    have a3 : c.2.1 0 = r.2.1 (bx_best (bx_e r) (n + 1)) := congrArg (·.2.2) b1
    rw [bx_next h3 h1, if_neg h0, if_neg h0, if_neg h0, ab_bd_s, ab_bd_s, ab_bd_s, ab_bd_s, if_pos (nI_pos' (by omega)), if_pos (nI_pos' (by omega)), if_pos (nI_pos' (by omega)), if_pos (inb_nI (by omega) (by omega)), if_pos (inb_nI (by omega) (by omega)), if_pos (inb_nI (by omega) (by omega)), nI_clamp (by omega), a1, a2, a3]
    exact ⟨rfl, rfl, _, rfl, rfl⟩
