/-! Runs of plain instructions, branches, arrays, ends, calls -/
abbrev ab_Cd : Type := List (Nat × ab_J)
def ab_fetch (code : ab_Cd) (pc : Nat) : Option ab_J := match code with
  | [] => none
  | q :: r => if q.1 = pc then some q.2 else ab_fetch r pc
def ab_ckp (y : MethodName) (pc : Nat) (j : ab_J) : Bool := match j.1 with
  | .goto off => j.2.1 == 3 && decide ((pc : Int) + off = (j.2.2.2.2 : Int))
  | .ifCond _ off => j.2.1 == 3 && decide ((pc : Int) + off = (j.2.2.2.2 : Int))
  | .if_icmp _ off => j.2.1 == 3 && decide ((pc : Int) + off = (j.2.2.2.2 : Int))
  | .invokestatic _ => j.2.1 == 3
  | .invokevirtual _ => j.2.1 == 3
  | .invokespecial _ => j.2.1 == 3
  | .new _ => j.2.1 == 3
  | .newarray _ => j.2.1 == 2
  | .multianewarray _ _ => j.2.1 == 4
  | .tableswitch _ _ _ _ => true
  | .lookupswitch _ _ => true
  | _ => ab_ck1 y j
def ab_ckM (M : ab_Mt) (code : ab_Cd) : Bool := code.all (fun q => decide (decode M.2.1 q.1 = .ok (q.2.1, q.2.2.1)) && ab_ckp M.1 q.1 q.2)
theorem ab_fetch_mem {code : ab_Cd} {pc : Nat} {j : ab_J} (h : ab_fetch code pc = some j) : (pc, j) ∈ code := by
  induction code with
  | nil => cases h
  | cons q r ih =>
    unfold ab_fetch at h
    split at h
    · rename_i hq
      cases h
      subst hq
      exact List.mem_cons_self
    · exact List.mem_cons_of_mem _ (ih h)
theorem ab_ck_at {M : ab_Mt} {code : ab_Cd} {pc : Nat} {j : ab_J} (hck : ab_ckM M code = true) (h : ab_fetch code pc = some j) : decode M.2.1 pc = .ok (j.1, j.2.1) ∧ ab_ckp M.1 pc j = true := by
  have h1 := List.all_eq_true.mp hck _ (ab_fetch_mem h)
  simp only [Bool.and_eq_true, decide_eq_true_eq] at h1
  exact h1
/-- a plain instruction or a jump -/
def ab_next (pc : Nat) (j : ab_J) (lo : ab_Lo) (st : List Value) (h : ab_H) : Option (Nat × ab_Lo × List Value × ab_H) := match j.1 with
  | .goto _ => some (j.2.2.2.2, lo, st, h)
  | _ => match ab_step j lo st h with
    | some r => some (pc + j.2.1, r)
    | none => none
def ab_run (n : Nat) (stops : List Nat) (code : ab_Cd) (pc : Nat) (lo : ab_Lo) (st : List Value) (h : ab_H) : Option (Nat × ab_Lo × List Value × ab_H) := match n with
  | 0 => some (pc, lo, st, h)
  | n + 1 => match ab_fetch code pc with
    | some j => match ab_next pc j lo st h with
      | some (pc', lo', st', h') => if stops.contains pc' = true then some (pc', lo', st', h') else ab_run n stops code pc' lo' st' h'
      | none => some (pc, lo, st, h)
    | none => none
section ABR
variable {X : ab_C} {M : ab_Mt} {code : ab_Cd} {d bc bs pc : Nat} {lo : ab_Lo} {st : List Value} {h : ab_H} {Q : Option Value → ab_H → Prop}
theorem ab_ck1_of {y : MethodName} {pc : Nat} {j : ab_J} {lo lo' : ab_Lo} {st st' : List Value} {h h' : ab_H} (hs : ab_step j lo st h = some (lo', st', h')) (hc : ab_ckp y pc j = true) : ab_ck1 y j = true := by
  obtain ⟨ins, len, cv, ci, kf⟩ := j
  cases ins with
  | goto off => exact absurd (show none = some (lo', st', h') from hs) (fun q => by cases q)
  | ifCond c off => exact absurd (show none = some (lo', st', h') from hs) (fun q => by cases q)
  | if_icmp c off => exact absurd (show none = some (lo', st', h') from hs) (fun q => by cases q)
  | invokestatic i => exact absurd (show none = some (lo', st', h') from hs) (fun q => by cases q)
  | invokevirtual i => exact absurd (show none = some (lo', st', h') from hs) (fun q => by cases q)
  | invokespecial i => exact absurd (show none = some (lo', st', h') from hs) (fun q => by cases q)
  | new i => exact absurd (show none = some (lo', st', h') from hs) (fun q => by cases q)
  | newarray i => exact absurd (show none = some (lo', st', h') from hs) (fun q => by cases q)
  | multianewarray i n => exact absurd (show none = some (lo', st', h') from hs) (fun q => by cases q)
  | tableswitch a b c2 d2 => exact absurd (show none = some (lo', st', h') from hs) (fun q => by cases q)
  | lookupswitch a b => exact absurd (show none = some (lo', st', h') from hs) (fun q => by cases q)
  | _ => exact hc
theorem ab_goto {off : Int} (hd : decode M.2.1 pc = .ok (.goto off, 3)) {tgt : Nat} (ht : (pc : Int) + off = (tgt : Int)) (k : ab_W X M d bc bs tgt lo st h Q) : ab_W X M d bc bs pc lo st h Q := by
  intro p e R s m args below meth c H locs cells slots ls F V
  exact lv_goto F.1 F.2.1 hd ht (k p e R s m args below meth c H locs cells slots ls F V)
theorem ab_next_ok {pc' : Nat} {j : ab_J} {lo' : ab_Lo} {st' : List Value} {h' : ab_H} (hd : decode M.2.1 pc = .ok (j.1, j.2.1)) (hc : ab_ckp M.1 pc j = true) (hs : ab_next pc j lo st h = some (pc', lo', st', h')) (k : ab_W X M d bc bs pc' lo' st' h' Q) : ab_W X M d bc bs pc lo st h Q := by
  unfold ab_next at hs
  split at hs
  · rename_i off hj
    cases hs
    obtain ⟨ins, len, cv, ci, kf⟩ := j
    dsimp only at hj
    subst hj
    have hc : (len == 3 && decide ((pc : Int) + off = (kf : Int))) = true := hc
    simp only [Bool.and_eq_true, beq_iff_eq, decide_eq_true_eq] at hc
    obtain ⟨rfl, ht⟩ := hc
    exact ab_goto hd ht k
  · split at hs
    · rename_i r hr
      obtain ⟨l2, s2, h2⟩ := r
      cases hs
      exact ab_step_ok hd (ab_ck1_of hr hc) hr k
    · cases hs
/-- plain instructions, up to n, up to the first that isn't plain, or to a stop: they are computed -/
theorem ab_go (n : Nat) (stops : List Nat) {pc' : Nat} {lo' : ab_Lo} {st' : List Value} {h' : ab_H} (hck : ab_ckM M code = true) (hs : ab_run n stops code pc lo st h = some (pc', lo', st', h')) (k : ab_W X M d bc bs pc' lo' st' h' Q) : ab_W X M d bc bs pc lo st h Q := by
  induction n generalizing pc lo st h with
  | zero =>
    unfold ab_run at hs
    cases hs
    exact k
  | succ n ih =>
    unfold ab_run at hs
    split at hs
    · rename_i j hj
      split at hs
      · rename_i pc2 lo2 st2 h2 hn
        obtain ⟨hd, hc⟩ := ab_ck_at hck hj
        refine ab_next_ok hd hc hn ?_
        split at hs
        · cases hs
          exact k
        · exact ih hs
      · cases hs
        exact k
    · cases hs
theorem ab_if_eq {x : Int32} {off : Int} {len ci tgt : Nat} {cv : Value} (hck : ab_ckM M code = true) (hf : ab_fetch code pc = some (.ifCond .eq off, len, cv, ci, tgt)) (kt : x = 0 → ab_W X M d bc bs tgt lo st h Q) (kf : ¬ x = 0 → ab_W X M d bc bs (pc + 3) lo st h Q) : ab_W X M d bc bs pc lo (.int x :: st) h Q := by
  obtain ⟨hd, hc⟩ := ab_ck_at hck hf
  have hc : (len == 3 && decide ((pc : Int) + off = (tgt : Int))) = true := hc
  simp only [Bool.and_eq_true, beq_iff_eq, decide_eq_true_eq] at hc
  obtain ⟨rfl, ht⟩ := hc
  intro p e R s m args below meth c H locs cells slots ls F V
  exact lv_if_eq F.1 F.2.1 hd ht (fun g => kt g p e R s m args below meth c H locs cells slots ls F V) (fun g => kf g p e R s m args below meth c H locs cells slots ls F V)
theorem ab_icmp_eq {x y : Int32} {off : Int} {len ci tgt : Nat} {cv : Value} (hck : ab_ckM M code = true) (hf : ab_fetch code pc = some (.if_icmp .eq off, len, cv, ci, tgt)) (kt : x = y → ab_W X M d bc bs tgt lo st h Q) (kf : ¬ x = y → ab_W X M d bc bs (pc + 3) lo st h Q) : ab_W X M d bc bs pc lo (.int y :: .int x :: st) h Q := by
  obtain ⟨hd, hc⟩ := ab_ck_at hck hf
  have hc : (len == 3 && decide ((pc : Int) + off = (tgt : Int))) = true := hc
  simp only [Bool.and_eq_true, beq_iff_eq, decide_eq_true_eq] at hc
  obtain ⟨rfl, ht⟩ := hc
  intro p e R s m args below meth c H locs cells slots ls F V
  exact lv_icmp_eq F.1 F.2.1 hd ht (fun g => kt g p e R s m args below meth c H locs cells slots ls F V) (fun g => kf g p e R s m args below meth c H locs cells slots ls F V)
theorem ab_if_ne {x : Int32} {off : Int} {len ci tgt : Nat} {cv : Value} (hck : ab_ckM M code = true) (hf : ab_fetch code pc = some (.ifCond .ne off, len, cv, ci, tgt)) (kt : ¬ x = 0 → ab_W X M d bc bs tgt lo st h Q) (kf : x = 0 → ab_W X M d bc bs (pc + 3) lo st h Q) : ab_W X M d bc bs pc lo (.int x :: st) h Q := by
  obtain ⟨hd, hc⟩ := ab_ck_at hck hf
  have hc : (len == 3 && decide ((pc : Int) + off = (tgt : Int))) = true := hc
  simp only [Bool.and_eq_true, beq_iff_eq, decide_eq_true_eq] at hc
  obtain ⟨rfl, ht⟩ := hc
  intro p e R s m args below meth c H locs cells slots ls F V
  exact lv_if_ne F.1 F.2.1 hd ht (fun g => kt g p e R s m args below meth c H locs cells slots ls F V) (fun g => kf g p e R s m args below meth c H locs cells slots ls F V)
theorem ab_icmp_ne {x y : Int32} {off : Int} {len ci tgt : Nat} {cv : Value} (hck : ab_ckM M code = true) (hf : ab_fetch code pc = some (.if_icmp .ne off, len, cv, ci, tgt)) (kt : ¬ x = y → ab_W X M d bc bs tgt lo st h Q) (kf : x = y → ab_W X M d bc bs (pc + 3) lo st h Q) : ab_W X M d bc bs pc lo (.int y :: .int x :: st) h Q := by
  obtain ⟨hd, hc⟩ := ab_ck_at hck hf
  have hc : (len == 3 && decide ((pc : Int) + off = (tgt : Int))) = true := hc
  simp only [Bool.and_eq_true, beq_iff_eq, decide_eq_true_eq] at hc
  obtain ⟨rfl, ht⟩ := hc
  intro p e R s m args below meth c H locs cells slots ls F V
  exact lv_icmp_ne F.1 F.2.1 hd ht (fun g => kt g p e R s m args below meth c H locs cells slots ls F V) (fun g => kf g p e R s m args below meth c H locs cells slots ls F V)
theorem ab_if_lt {x : Int32} {off : Int} {len ci tgt : Nat} {cv : Value} (hck : ab_ckM M code = true) (hf : ab_fetch code pc = some (.ifCond .lt off, len, cv, ci, tgt)) (kt : x < 0 → ab_W X M d bc bs tgt lo st h Q) (kf : ¬ x < 0 → ab_W X M d bc bs (pc + 3) lo st h Q) : ab_W X M d bc bs pc lo (.int x :: st) h Q := by
  obtain ⟨hd, hc⟩ := ab_ck_at hck hf
  have hc : (len == 3 && decide ((pc : Int) + off = (tgt : Int))) = true := hc
  simp only [Bool.and_eq_true, beq_iff_eq, decide_eq_true_eq] at hc
  obtain ⟨rfl, ht⟩ := hc
  intro p e R s m args below meth c H locs cells slots ls F V
  exact lv_if_lt F.1 F.2.1 hd ht (fun g => kt g p e R s m args below meth c H locs cells slots ls F V) (fun g => kf g p e R s m args below meth c H locs cells slots ls F V)
theorem ab_icmp_lt {x y : Int32} {off : Int} {len ci tgt : Nat} {cv : Value} (hck : ab_ckM M code = true) (hf : ab_fetch code pc = some (.if_icmp .lt off, len, cv, ci, tgt)) (kt : x < y → ab_W X M d bc bs tgt lo st h Q) (kf : ¬ x < y → ab_W X M d bc bs (pc + 3) lo st h Q) : ab_W X M d bc bs pc lo (.int y :: .int x :: st) h Q := by
  obtain ⟨hd, hc⟩ := ab_ck_at hck hf
  have hc : (len == 3 && decide ((pc : Int) + off = (tgt : Int))) = true := hc
  simp only [Bool.and_eq_true, beq_iff_eq, decide_eq_true_eq] at hc
  obtain ⟨rfl, ht⟩ := hc
  intro p e R s m args below meth c H locs cells slots ls F V
  exact lv_icmp_lt F.1 F.2.1 hd ht (fun g => kt g p e R s m args below meth c H locs cells slots ls F V) (fun g => kf g p e R s m args below meth c H locs cells slots ls F V)
theorem ab_if_ge {x : Int32} {off : Int} {len ci tgt : Nat} {cv : Value} (hck : ab_ckM M code = true) (hf : ab_fetch code pc = some (.ifCond .ge off, len, cv, ci, tgt)) (kt : 0 ≤ x → ab_W X M d bc bs tgt lo st h Q) (kf : ¬ 0 ≤ x → ab_W X M d bc bs (pc + 3) lo st h Q) : ab_W X M d bc bs pc lo (.int x :: st) h Q := by
  obtain ⟨hd, hc⟩ := ab_ck_at hck hf
  have hc : (len == 3 && decide ((pc : Int) + off = (tgt : Int))) = true := hc
  simp only [Bool.and_eq_true, beq_iff_eq, decide_eq_true_eq] at hc
  obtain ⟨rfl, ht⟩ := hc
  intro p e R s m args below meth c H locs cells slots ls F V
  exact lv_if_ge F.1 F.2.1 hd ht (fun g => kt g p e R s m args below meth c H locs cells slots ls F V) (fun g => kf g p e R s m args below meth c H locs cells slots ls F V)
theorem ab_icmp_ge {x y : Int32} {off : Int} {len ci tgt : Nat} {cv : Value} (hck : ab_ckM M code = true) (hf : ab_fetch code pc = some (.if_icmp .ge off, len, cv, ci, tgt)) (kt : y ≤ x → ab_W X M d bc bs tgt lo st h Q) (kf : ¬ y ≤ x → ab_W X M d bc bs (pc + 3) lo st h Q) : ab_W X M d bc bs pc lo (.int y :: .int x :: st) h Q := by
  obtain ⟨hd, hc⟩ := ab_ck_at hck hf
  have hc : (len == 3 && decide ((pc : Int) + off = (tgt : Int))) = true := hc
  simp only [Bool.and_eq_true, beq_iff_eq, decide_eq_true_eq] at hc
  obtain ⟨rfl, ht⟩ := hc
  intro p e R s m args below meth c H locs cells slots ls F V
  exact lv_icmp_ge F.1 F.2.1 hd ht (fun g => kt g p e R s m args below meth c H locs cells slots ls F V) (fun g => kf g p e R s m args below meth c H locs cells slots ls F V)
theorem ab_if_gt {x : Int32} {off : Int} {len ci tgt : Nat} {cv : Value} (hck : ab_ckM M code = true) (hf : ab_fetch code pc = some (.ifCond .gt off, len, cv, ci, tgt)) (kt : 0 < x → ab_W X M d bc bs tgt lo st h Q) (kf : ¬ 0 < x → ab_W X M d bc bs (pc + 3) lo st h Q) : ab_W X M d bc bs pc lo (.int x :: st) h Q := by
  obtain ⟨hd, hc⟩ := ab_ck_at hck hf
  have hc : (len == 3 && decide ((pc : Int) + off = (tgt : Int))) = true := hc
  simp only [Bool.and_eq_true, beq_iff_eq, decide_eq_true_eq] at hc
  obtain ⟨rfl, ht⟩ := hc
  intro p e R s m args below meth c H locs cells slots ls F V
  exact lv_if_gt F.1 F.2.1 hd ht (fun g => kt g p e R s m args below meth c H locs cells slots ls F V) (fun g => kf g p e R s m args below meth c H locs cells slots ls F V)
theorem ab_icmp_gt {x y : Int32} {off : Int} {len ci tgt : Nat} {cv : Value} (hck : ab_ckM M code = true) (hf : ab_fetch code pc = some (.if_icmp .gt off, len, cv, ci, tgt)) (kt : y < x → ab_W X M d bc bs tgt lo st h Q) (kf : ¬ y < x → ab_W X M d bc bs (pc + 3) lo st h Q) : ab_W X M d bc bs pc lo (.int y :: .int x :: st) h Q := by
  obtain ⟨hd, hc⟩ := ab_ck_at hck hf
  have hc : (len == 3 && decide ((pc : Int) + off = (tgt : Int))) = true := hc
  simp only [Bool.and_eq_true, beq_iff_eq, decide_eq_true_eq] at hc
  obtain ⟨rfl, ht⟩ := hc
  intro p e R s m args below meth c H locs cells slots ls F V
  exact lv_icmp_gt F.1 F.2.1 hd ht (fun g => kt g p e R s m args below meth c H locs cells slots ls F V) (fun g => kf g p e R s m args below meth c H locs cells slots ls F V)
theorem ab_if_le {x : Int32} {off : Int} {len ci tgt : Nat} {cv : Value} (hck : ab_ckM M code = true) (hf : ab_fetch code pc = some (.ifCond .le off, len, cv, ci, tgt)) (kt : x ≤ 0 → ab_W X M d bc bs tgt lo st h Q) (kf : ¬ x ≤ 0 → ab_W X M d bc bs (pc + 3) lo st h Q) : ab_W X M d bc bs pc lo (.int x :: st) h Q := by
  obtain ⟨hd, hc⟩ := ab_ck_at hck hf
  have hc : (len == 3 && decide ((pc : Int) + off = (tgt : Int))) = true := hc
  simp only [Bool.and_eq_true, beq_iff_eq, decide_eq_true_eq] at hc
  obtain ⟨rfl, ht⟩ := hc
  intro p e R s m args below meth c H locs cells slots ls F V
  exact lv_if_le F.1 F.2.1 hd ht (fun g => kt g p e R s m args below meth c H locs cells slots ls F V) (fun g => kf g p e R s m args below meth c H locs cells slots ls F V)
theorem ab_icmp_le {x y : Int32} {off : Int} {len ci tgt : Nat} {cv : Value} (hck : ab_ckM M code = true) (hf : ab_fetch code pc = some (.if_icmp .le off, len, cv, ci, tgt)) (kt : x ≤ y → ab_W X M d bc bs tgt lo st h Q) (kf : ¬ x ≤ y → ab_W X M d bc bs (pc + 3) lo st h Q) : ab_W X M d bc bs pc lo (.int y :: .int x :: st) h Q := by
  obtain ⟨hd, hc⟩ := ab_ck_at hck hf
  have hc : (len == 3 && decide ((pc : Int) + off = (tgt : Int))) = true := hc
  simp only [Bool.and_eq_true, beq_iff_eq, decide_eq_true_eq] at hc
  obtain ⟨rfl, ht⟩ := hc
  intro p e R s m args below meth c H locs cells slots ls F V
  exact lv_icmp_le F.1 F.2.1 hd ht (fun g => kt g p e R s m args below meth c H locs cells slots ls F V) (fun g => kf g p e R s m args below meth c H locs cells slots ls F V)
theorem ab_iald {a n : Nat} {f : Nat → Int32} {i : Int32} {len ci kf : Nat} {cv : Value} (hck : ab_ckM M code = true) (hf : ab_fetch code pc = some (.iaload, len, cv, ci, kf)) (hc0 : ab_at h a = some (.inl (0, n, .inl f))) (hin : vp_in i n) (k : ab_W X M d bc bs (pc + 1) lo (.int (f i.toNatClampNeg) :: st) h Q) : ab_W X M d bc bs pc lo (.int i :: .ref a :: st) h Q := by
  obtain ⟨hd, hc⟩ := ab_ck_at hck hf
  obtain rfl : len = 1 := eq_of_beq (show (len == 1) = true from hc)
  obtain ⟨ha, hc1⟩ := ab_at_own hc0
  intro p e R s m args below meth c H locs cells slots ls F V
  have hkk := k p e R s m args below meth c H locs cells slots ls F V
  obtain ⟨hx, hb, hr, hml, hown, hts, hlk, hnm, hok, hfr, hlo⟩ := F
  obtain ⟨v1, v2, hS, hRel, hLR⟩ := V
  show W _ _ _ _ _ _ _ _ _ _ _ _ _ _ _ (F0 m pc ls (.int i :: ab_v X (.ref a) :: st.map (ab_v X)))
  rw [ab_ad_own ha]
  exact va_iald hx hb hok.1 hRel.2 (a - ab_NT) 0 (ab_ws_at hc1) rfl hin hd hkk
theorem ab_lald {a n : Nat} {f : Nat → Int64} {i : Int32} {len ci kf : Nat} {cv : Value} (hck : ab_ckM M code = true) (hf : ab_fetch code pc = some (.laload, len, cv, ci, kf)) (hc0 : ab_at h a = some (.inl (1, n, .inr (.inl f)))) (hin : vp_in i n) (k : ab_W X M d bc bs (pc + 1) lo (.long (f i.toNatClampNeg) :: st) h Q) : ab_W X M d bc bs pc lo (.int i :: .ref a :: st) h Q := by
  obtain ⟨hd, hc⟩ := ab_ck_at hck hf
  obtain rfl : len = 1 := eq_of_beq (show (len == 1) = true from hc)
  obtain ⟨ha, hc1⟩ := ab_at_own hc0
  intro p e R s m args below meth c H locs cells slots ls F V
  have hkk := k p e R s m args below meth c H locs cells slots ls F V
  obtain ⟨hx, hb, hr, hml, hown, hts, hlk, hnm, hok, hfr, hlo⟩ := F
  obtain ⟨v1, v2, hS, hRel, hLR⟩ := V
  show W _ _ _ _ _ _ _ _ _ _ _ _ _ _ _ (F0 m pc ls (.int i :: ab_v X (.ref a) :: st.map (ab_v X)))
  rw [ab_ad_own ha]
  exact va_lald hx hb hok.1 hRel.2 (a - ab_NT) 1 (ab_ws_at hc1) rfl hin hd hkk
/-- a place of a table that was there before -/
theorem ab_tald {a n : Nat} {f : Nat → Int32} {i : Int32} {len ci kf : Nat} {cv : Value} (hck : ab_ckM M code = true) (hf : ab_fetch code pc = some (.iaload, len, cv, ci, kf)) (ha : a < ab_NT) (hc0 : X.2.2.2.2.2[a]? = some (n, f)) (hin : vp_in i n) (k : ab_W X M d bc bs (pc + 1) lo (.int (f i.toNatClampNeg) :: st) h Q) : ab_W X M d bc bs pc lo (.int i :: .ref a :: st) h Q := by
  obtain ⟨hd, hc⟩ := ab_ck_at hck hf
  obtain rfl : len = 1 := eq_of_beq (show (len == 1) = true from hc)
  intro p e R s m args below meth c H locs cells slots ls F V
  have hkk := k p e R s m args below meth c H locs cells slots ls F V
  obtain ⟨hx, hb, hr, hml, hown, hts, hlk, hnm, hok, hfr, hlo⟩ := F
  obtain ⟨v1, v2, hS, hRel, hLR⟩ := V
  show W _ _ _ _ _ _ _ _ _ _ _ _ _ _ _ (F0 m pc ls (.int i :: ab_v X (.ref a) :: st.map (ab_v X)))
  rw [ab_ad_tab ha]
  exact va_ti hx hb (hok.2.1 a n f hc0) hS hin rfl hd hkk
theorem ab_iast {a n : Nat} {f : Nat → Int32} {i x : Int32} {len ci kf : Nat} {cv : Value} (hck : ab_ckM M code = true) (hf : ab_fetch code pc = some (.iastore, len, cv, ci, kf)) (hc0 : ab_at h a = some (.inl (0, n, .inl f))) (hin : vp_in i n) (k : ab_W X M d bc bs (pc + 1) lo st (h.set (a - ab_NT) (.inl (0, n, .inl (upd f i.toNatClampNeg x)))) Q) : ab_W X M d bc bs pc lo (.int x :: .int i :: .ref a :: st) h Q := by
  obtain ⟨hd, hc⟩ := ab_ck_at hck hf
  obtain rfl : len = 1 := eq_of_beq (show (len == 1) = true from hc)
  obtain ⟨ha, hc1⟩ := ab_at_own hc0
  intro p e R s m args below meth c H locs cells slots ls F V
  have hkk := fun H locs V => k p e R s m args below meth c H locs cells slots ls F V
  obtain ⟨hx, hb, hr, hml, hown, hts, hlk, hnm, hok, hfr, hlo⟩ := F
  obtain ⟨v1, v2, hS, hRel, hLR⟩ := V
  show W _ _ _ _ _ _ _ _ _ _ _ _ _ _ _ (F0 m pc ls (.int x :: .int i :: ab_v X (.ref a) :: st.map (ab_v X)))
  rw [ab_ad_own ha]
  exact ab_Wiast hx hb hok.1 hRel hS hc1 hin hd (fun H1 locs1 hR1 hS1 => hkk H1 locs1 ⟨v1, v2, hS1, hR1, hLR⟩)
theorem ab_last {a n : Nat} {f : Nat → Int64} {i : Int32} {x : Int64} {len ci kf : Nat} {cv : Value} (hck : ab_ckM M code = true) (hf : ab_fetch code pc = some (.lastore, len, cv, ci, kf)) (hc0 : ab_at h a = some (.inl (1, n, .inr (.inl f)))) (hin : vp_in i n) (k : ab_W X M d bc bs (pc + 1) lo st (h.set (a - ab_NT) (.inl (1, n, .inr (.inl (vp_updL f i.toNatClampNeg x))))) Q) : ab_W X M d bc bs pc lo (.long x :: .int i :: .ref a :: st) h Q := by
  obtain ⟨hd, hc⟩ := ab_ck_at hck hf
  obtain rfl : len = 1 := eq_of_beq (show (len == 1) = true from hc)
  obtain ⟨ha, hc1⟩ := ab_at_own hc0
  intro p e R s m args below meth c H locs cells slots ls F V
  have hkk := fun H locs V => k p e R s m args below meth c H locs cells slots ls F V
  obtain ⟨hx, hb, hr, hml, hown, hts, hlk, hnm, hok, hfr, hlo⟩ := F
  obtain ⟨v1, v2, hS, hRel, hLR⟩ := V
  show W _ _ _ _ _ _ _ _ _ _ _ _ _ _ _ (F0 m pc ls (.long x :: .int i :: ab_v X (.ref a) :: st.map (ab_v X)))
  rw [ab_ad_own ha]
  exact ab_Wlast hx hb hok.1 hRel hS hc1 hin hd (fun H1 locs1 hR1 hS1 => hkk H1 locs1 ⟨v1, v2, hS1, hR1, hLR⟩)
theorem ab_aald {a n : Nat} {f : Nat → Option Nat} {i : Int32} {q len ci kf : Nat} {cv : Value} (hck : ab_ckM M code = true) (hf : ab_fetch code pc = some (.aaload, len, cv, ci, kf)) (hc0 : ab_at h a = some (.inl (2, n, .inr (.inr (.inr (.inr f)))))) (hin : vp_in i n) (hq : f i.toNatClampNeg = some q) (k : ab_W X M d bc bs (pc + 1) lo (.ref q :: st) h Q) : ab_W X M d bc bs pc lo (.int i :: .ref a :: st) h Q := by
  obtain ⟨hd, hc⟩ := ab_ck_at hck hf
  obtain rfl : len = 1 := eq_of_beq (show (len == 1) = true from hc)
  obtain ⟨ha, hc1⟩ := ab_at_own hc0
  intro p e R s m args below meth c H locs cells slots ls F V
  have hkk := k p e R s m args below meth c H locs cells slots ls F V
  obtain ⟨hx, hb, hr, hml, hown, hts, hlk, hnm, hok, hfr, hlo⟩ := F
  obtain ⟨v1, v2, hS, hRel, hLR⟩ := V
  show W _ _ _ _ _ _ _ _ _ _ _ _ _ _ _ (F0 m pc ls (.int i :: ab_v X (.ref a) :: st.map (ab_v X)))
  rw [ab_ad_own ha]
  exact ab_Waald hx hb hok.1 hRel hc1 hin hq hd hkk
/-- putfield of a value that fits by a proof -/
theorem ab_putfR {a idx len ci kf : Nat} {cv v : Value} {fs : List Value} (hck : ab_ckM M code = true) (hf : ab_fetch code pc = some (.putfield idx, len, cv, ci, kf)) (hc0 : ab_at h a = some (.inr (ci, fs))) (hkl : kf < fs.length) (hfit : narrow (ab_fty ci kf) v = v ∧ fits (ab_fty ci kf) v = true) (hv : ∀ q, v ≠ .ref q) (k : ab_W X M d bc bs (pc + 3) lo st (h.set (a - ab_NT) (.inr (ci, fs.set kf v))) Q) : ab_W X M d bc bs pc lo (v :: .ref a :: st) h Q := by
  obtain ⟨hd, hc⟩ := ab_ck_at hck hf
  have hc : (len == 3 && ab_pf M.1 idx ci kf (ab_ti cv)) = true := hc
  simp only [Bool.and_eq_true, beq_iff_eq] at hc
  obtain ⟨rfl, hc⟩ := hc
  obtain ⟨ha, hc1⟩ := ab_at_own hc0
  intro p e R s m args below meth c H locs cells slots ls F V
  have hkk := fun H locs V => k p e R s m args below meth c H locs cells slots ls F V
  obtain ⟨hx, hb, hr, hml, hown, hts, hlk, hnm, hok, hfr, hlo⟩ := F
  obtain ⟨v1, v2, hS, hRel, hLR⟩ := V
  have hvv : ab_v X v = v := by
    cases v with
    | ref q => exact absurd rfl (hv q)
    | _ => rfl
  show W _ _ _ _ _ _ _ _ _ _ _ _ _ _ _ (F0 m pc ls (ab_v X v :: ab_v X (.ref a) :: st.map (ab_v X)))
  rw [ab_ad_own ha]
  exact ab_putf hx hb hts hown hnm hok.1 hRel hS hc1 hc hkl (fun ty e => by subst e; rw [hvv]; exact hfit) hd (fun H1 locs1 hR1 hS1 => hkk H1 locs1 ⟨v1, v2, hS1, hR1, hLR⟩)
theorem ab_idiv {x y : Int32} {len ci kf : Nat} {cv : Value} (hck : ab_ckM M code = true) (hf : ab_fetch code pc = some (.idiv, len, cv, ci, kf)) (hy : ¬ y = 0) (k : ab_W X M d bc bs (pc + 1) lo (.int (x / y) :: st) h Q) : ab_W X M d bc bs pc lo (.int y :: .int x :: st) h Q := by
  obtain ⟨hd, hc⟩ := ab_ck_at hck hf
  obtain rfl : len = 1 := eq_of_beq (show (len == 1) = true from hc)
  intro p e R s m args below meth c H locs cells slots ls F V
  exact lv_idiv F.1 F.2.1 hd hy (k p e R s m args below meth c H locs cells slots ls F V)
theorem ab_irem {x y : Int32} {len ci kf : Nat} {cv : Value} (hck : ab_ckM M code = true) (hf : ab_fetch code pc = some (.irem, len, cv, ci, kf)) (hy : ¬ y = 0) (k : ab_W X M d bc bs (pc + 1) lo (.int (x - x / y * y) :: st) h Q) : ab_W X M d bc bs pc lo (.int y :: .int x :: st) h Q := by
  obtain ⟨hd, hc⟩ := ab_ck_at hck hf
  obtain rfl : len = 1 := eq_of_beq (show (len == 1) = true from hc)
  intro p e R s m args below meth c H locs cells slots ls F V
  exact lv_irem F.1 F.2.1 hd hy (k p e R s m args below meth c H locs cells slots ls F V)
/-! ends -/
theorem ab_iret {x : Int32} {len ci kf : Nat} {cv : Value} (hck : ab_ckM M code = true) (hf : ab_fetch code pc = some (.ireturn, len, cv, ci, kf)) (hr : M.2.2.2 = some .int) (hq : Q (some (.int x)) h) : ab_W X M d bc bs pc lo [.int x] h Q := by
  obtain ⟨hd, hc⟩ := ab_ck_at hck hf
  obtain rfl : len = 1 := eq_of_beq (show (len == 1) = true from hc)
  intro p e R s m args below meth c H locs cells slots ls F V
  obtain ⟨hx, hb, hr0, hml, hown, hts, hlk, hnm, hok, hfr, hlo⟩ := F
  obtain ⟨v1, v2, hS, hRel, hLR⟩ := V
  refine W.widen (k := R.cells) (n := R.slots) (by omega) (by omega) ?_
  exact W.iret (v := x) hx hb (hr0.trans hr) (fun t ht hW => ⟨some (.int x), h, rfl, hq, by rw [ht]; exact hRel, hS.F ht⟩) hS.2.2 hd
theorem ab_zret {x : Int32} {len ci kf : Nat} {cv : Value} (hck : ab_ckM M code = true) (hf : ab_fetch code pc = some (.ireturn, len, cv, ci, kf)) (hr : M.2.2.2 = some .boolean) (hx01 : x = 0 ∨ x = 1) (hq : Q (some (.int x)) h) : ab_W X M d bc bs pc lo [.int x] h Q := by
  obtain ⟨hd, hc⟩ := ab_ck_at hck hf
  obtain rfl : len = 1 := eq_of_beq (show (len == 1) = true from hc)
  intro p e R s m args below meth c H locs cells slots ls F V
  obtain ⟨hx, hb, hr0, hml, hown, hts, hlk, hnm, hok, hfr, hlo⟩ := F
  obtain ⟨v1, v2, hS, hRel, hLR⟩ := V
  refine W.widen (k := R.cells) (n := R.slots) (by omega) (by omega) ?_
  exact W.zret (v := x) hx hb (hr0.trans hr) (by rcases hx01 with rfl | rfl <;> decide) (fun t ht hW => ⟨some (.int x), h, rfl, hq, by rw [ht]; exact hRel, hS.F ht⟩) hS.2.2 hd
theorem ab_lret {x : Int64} {len ci kf : Nat} {cv : Value} (hck : ab_ckM M code = true) (hf : ab_fetch code pc = some (.lreturn, len, cv, ci, kf)) (hr : M.2.2.2 = some .long) (hq : Q (some (.long x)) h) : ab_W X M d bc bs pc lo [.long x] h Q := by
  obtain ⟨hd, hc⟩ := ab_ck_at hck hf
  obtain rfl : len = 1 := eq_of_beq (show (len == 1) = true from hc)
  intro p e R s m args below meth c H locs cells slots ls F V
  obtain ⟨hx, hb, hr0, hml, hown, hts, hlk, hnm, hok, hfr, hlo⟩ := F
  obtain ⟨v1, v2, hS, hRel, hLR⟩ := V
  refine W.widen (k := R.cells) (n := R.slots) (by omega) (by omega) ?_
  exact W.lret (v := x) hx hb (hr0.trans hr) (fun t ht hW => ⟨some (.long x), h, rfl, hq, by rw [ht]; exact hRel, hS.F ht⟩) hS.2.2 hd
theorem ab_vret {len ci kf : Nat} {cv : Value} (hck : ab_ckM M code = true) (hf : ab_fetch code pc = some (.return_, len, cv, ci, kf)) (hr : M.2.2.2 = none) (hq : Q none h) : ab_W X M d bc bs pc lo [] h Q := by
  obtain ⟨hd, hc⟩ := ab_ck_at hck hf
  obtain rfl : len = 1 := eq_of_beq (show (len == 1) = true from hc)
  intro p e R s m args below meth c H locs cells slots ls F V
  obtain ⟨hx, hb, hr0, hml, hown, hts, hlk, hnm, hok, hfr, hlo⟩ := F
  obtain ⟨v1, v2, hS, hRel, hLR⟩ := V
  refine W.widen (k := R.cells) (n := R.slots) (by omega) (by omega) ?_
  exact W.vret hx hb (hr0.trans hr) (fun t ht hW => ⟨none, h, rfl, hq, by rw [ht]; exact hRel, hS.F ht⟩) hS.2.2 hd
theorem ab_W.mono {Q' : Option Value → ab_H → Prop} (hq : ∀ r h, Q r h → Q' r h) (k : ab_W X M d bc bs pc lo st h Q) : ab_W X M d bc bs pc lo st h Q' := by
  intro p e R s m args below meth c H locs cells slots ls F V T hT Z
  obtain ⟨t, a1, o, b1, b2, ⟨r, h', c1, c2, c3⟩, b4⟩ := k p e R s m args below meth c H locs cells slots ls F V T hT Z
  exact ⟨t, a1, o, b1, b2, ⟨r, h', c1, hq _ _ c2, c3⟩, b4⟩
end ABR
