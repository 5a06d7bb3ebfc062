/-! The plain instructions keep the machine in step -/
def ab_tyq (q : vw_C) (k : Nat) : FieldType := (parseFieldDescriptor (q.2.1 k).2.2.1).getD .int
def ab_clsB (q : vw_C) : Bool := (u_ws q.1 q.2.1 q.2.2).all (fun w => decide (w ∈ lw_tbl) && goodWord w) && ((List.range q.2.2).all (fun k => decide (parseFieldDescriptor (q.2.1 k).2.2.1 = some (ab_tyq q k))) && (List.range q.2.2).all (fun a => (List.range q.2.2).all (fun b => decide (a = b) || decide ((q.2.1 a).2.1 ≠ (q.2.1 b).2.1))))
theorem ab_clsB_ok : vwCl.all ab_clsB = true := by decide +kernel
theorem ab_cls {ci : Nat} {C : String} {T : u_T} {N : Nat} (h : vwCl[ci]? = some (C, T, N)) : (∀ w ∈ u_ws C T N, w ∈ ab_tb) ∧ (∀ k, k < N → parseFieldDescriptor (T k).2.2.1 = some (ab_tyq (C, T, N) k)) ∧ (∀ a, a < N → ∀ b, b < N → a ≠ b → (T a).2.1 ≠ (T b).2.1) := by
  have h1 := List.all_eq_true.mp ab_clsB_ok _ (List.mem_of_getElem? h)
  unfold ab_clsB at h1
  simp only [Bool.and_eq_true, List.all_eq_true, decide_eq_true_eq, List.mem_range, Bool.or_eq_true] at h1
  exact ⟨fun w hw => ab_in (h1.1 w hw).1 (h1.1 w hw).2, h1.2.1, fun a ha b hb hne => (h1.2.2 a ha b hb).resolve_left hne⟩
theorem ab_fl_inv {own : String} {idx ci k ti : Nat} (h : ab_fl own idx ci k ti = true) : ∃ (C : String) (T : u_T) (N : Nat), vwCl[ci]? = some (C, T, N) ∧ k < N ∧ Cond.fieldLink own idx (T k).1 (T k).2.1 (T k).2.2.1 ∈ lw_tbl := by
  unfold ab_fl at h
  split at h
  · rename_i q hq
    obtain ⟨C, T, N⟩ := q
    simp only [Bool.and_eq_true, decide_eq_true_eq] at h
    exact ⟨C, T, N, hq, h.1, ab_wd_in h.2⟩
  · cases h
theorem ab_ad_own {X : ab_C} {a : Nat} (ha : ¬ a < ab_NT) : ab_v X (.ref a) = .ref (ab_b X + (a - ab_NT)) := by
  show Value.ref (ab_ad X a) = _
  unfold ab_ad
  rw [if_neg ha]
/-- an object's cell, and a field of it -/
theorem ab_obj {X : ab_C} {h : ab_H} {H : Heap} {s : State} (hK : va_K X.2.1 vwCl (ab_tys X) s) (hRel : ab_Rel X h H) {k ci : Nat} {fs : List Value} (hc0 : h[k]? = some (.inr (ci, fs))) {C : String} {T : u_T} {N : Nat} (hcl : vwCl[ci]? = some (C, T, N)) :
    ∃ cell : Cell, H[ab_b X + k]? = some cell ∧ cell.cls = X.2.1.1 ci ∧ cell.vm = .none ∧ (∀ j, j < N → cell.slots[X.2.1.2 ci j]? = some (vp_V (fs.map (ab_v X)) j)) := by
  have h0 : va_at X.2.1 vwCl (ab_b X + k, .inr (ci, fs.map (ab_v X))) H := hRel.2 k _ (ab_ws_at hc0)
  obtain ⟨r, h1, cell, q1, q2, q3, q4⟩ := h0
  have hr : r = (C, T, N) := Option.some.inj (h1.symm.trans hcl)
  subst hr
  exact ⟨cell, q1, q2, q3, q4⟩
/-- a cell changed, all others as they were -/
theorem ab_Rel.set {X : ab_C} {h : ab_H} {H H1 : Heap} (hRel : ab_Rel X h H) {k : Nat} {c0 c1 : va_E} (hc0 : h[k]? = some c0) (he : va_at X.2.1 vwCl (ab_b X + k, ab_c X c1) H1) (hz : H1.size = H.size) (oq : ∀ q : Nat, q ≠ ab_b X + k → H1[q]? = H[q]?) : ab_Rel X (h.set k c1) H1 := by
  refine ⟨by rw [hz, List.length_set]; exact hRel.1, ?_⟩
  rw [← ab_ws_set]
  exact hRel.2.set (ab_ws_D X h) (ab_ws_at hc0) he oq
theorem ab_pf_inv {y : MethodName} {idx ci k ti : Nat} (h : ab_pf y idx ci k ti = true) : ∃ (C : String) (T : u_T) (N : Nat), vwCl[ci]? = some (C, T, N) ∧ k < N ∧ (((T k).2.2.2 = true ∧ y.name = "<init>" ∧ (T k).1 = y.cls ∧ Cond.fieldLink y.cls idx (T k).1 (T k).2.1 (T k).2.2.1 ∈ lw_tbl) ∨ ((T k).2.2.2 = false ∧ Cond.fieldLink y.cls idx (T k).1 (T k).2.1 (T k).2.2.1 ∈ lw_tbl)) := by
  unfold ab_pf at h
  split at h
  · rename_i q hq
    obtain ⟨C, T, N⟩ := q
    split at h
    · rename_i hf
      simp only [Bool.and_eq_true, decide_eq_true_eq, beq_iff_eq] at h
      exact ⟨C, T, N, hq, h.1.1.1, Or.inl ⟨hf, h.1.1.2, h.1.2, ab_wd_in h.2⟩⟩
    · rename_i hf
      obtain ⟨C', T', N', hq', hk, hl⟩ := ab_fl_inv h
      have e : (C', T', N') = (C, T, N) := Option.some.inj (hq'.symm.trans hq)
      cases e
      exact ⟨C, T, N, hq, hk, Or.inr ⟨by simpa using hf, hl⟩⟩
  · cases h
section ABP
variable {p : Program} {l : Launch} {e : Env} {R : Room} {s : State} {m : MethodId} {args : Array Value} {below : List Frame} {meth : Method} {c : Code} {H : Heap} {locs : List Loc} {cells slots : Nat} {Q : State → Prop}
variable {cc : ByteArray} {pc : Nat} {ls : Array Slot} {rest : List Value}
/-- putfield, the three ways that a field is linked -/
theorem ab_putf {X : ab_C} {h : ab_H} {y : MethodName} (hx : p.tables.exec = Jvm.exec) (hb : c.code = cc) (hts : ∀ w ∈ ab_tb, w.before args s = true) (hown : s.vm.findClass y.cls = some m.cls) (hnm : y.name = "<init>" → meth.name = "<init>") (hK : va_K X.2.1 vwCl (ab_tys X) s) (hRel : ab_Rel X h H) (hS : va_S (ab_A X) s.heap H locs)
    {k ci idx kf ti : Nat} {fs : List Value} {v : Value} (hc0 : h[k]? = some (.inr (ci, fs))) (hck : ab_pf y idx ci kf ti = true) (hkl : kf < fs.length) (hfit : ∀ ty, ty = ab_fty ci kf → narrow ty (ab_v X v) = ab_v X v ∧ fits ty (ab_v X v) = true) (hdg : decode cc pc = .ok (.putfield idx, 3))
    (kk : ∀ (H1 : Heap) (locs1 : List Loc), ab_Rel X (h.set k (.inr (ci, fs.set kf v))) H1 → va_S (ab_A X) s.heap H1 locs1 → W p l e R s m args below meth c H1 locs1 cells slots Q (F0 m (pc + 3) ls rest)) : W p l e R s m args below meth c H locs cells slots Q (F0 m pc ls (ab_v X v :: .ref (ab_b X + k) :: rest)) := by
  obtain ⟨C, T, N, hcl, hkN, hl⟩ := ab_pf_inv hck
  obtain ⟨hin, hty, hnms⟩ := ab_cls hcl
  obtain ⟨cell, q1, q2, q3, q4⟩ := ab_obj hK hRel hc0 hcl
  obtain ⟨hSl, hfc, kC, hkC, hkind⟩ := hK.1 ci _ hcl
  obtain ⟨cf, kc, fi, f, hi, hsl⟩ := hSl kf hkN
  have hap := va_apart (own := y.cls) hts hin (ab_tyq (C, T, N)) hty hnms hK hcl
  have hst := (u_facts hfc hkC (u_lays hts hin hkN) hi).1
  have htyE : ab_fty ci kf = ab_tyq (C, T, N) kf := by unfold ab_fty; rw [hcl]; rfl
  obtain ⟨hn, hf⟩ := hfit _ htyE.symm
  have hd := hty kf hkN
  have fin : ∀ H' : Heap, H'[ab_b X + k]? = some (cell.setSlot f.slot (ab_v X v)) → H'.size = H.size → (∀ q, q ≠ ab_b X + k → H'[q]? = H[q]?) → W p l e R s m args below meth c H' (locs ++ [⟨ab_b X + k, f.slot⟩]) cells slots Q (F0 m (pc + 3) ls rest) := by
    intro H' e1 e2 e3
    rw [hsl] at e1 ⊢
    refine kk H' _ (hRel.set hc0 ⟨_, hcl, ?_⟩ e2 e3) (hS.put e2 e3 (Nat.le_add_right _ _))
    refine t_OB.to (V := updV (vp_V (fs.map (ab_v X))) kf (ab_v X v)) ⟨_, e1, q2, q3, t_set q4 hap hkN (ab_v X v)⟩ (fun j _ => ?_)
    rw [vp_updV_set (by rw [List.length_map]; exact hkl), ← List.map_set]
  rcases hl with ⟨hfin, hyn, hyc, hlk⟩ | ⟨hfin, hlk⟩
  · have hlay := hts _ (hin _ (u_in_lay hkN))
    unfold u_lay at hlay
    rw [if_pos hfin] at hlay
    have hcf : m.cls = cf := by
      obtain ⟨_, _, c', _, _, _, -, -, hf', -, -, -, hown2, -⟩ := Cond.laysFinal_spec hlay
      have e1 : c' = cf := by have := hi.symm.trans hf'; simp at this; exact this.1.symm
      rw [hyc] at hown2
      rw [← e1]; exact Option.some.inj (hown.symm.trans hown2)
    exact W.putFinK hx hb hown (hts _ (ab_in hlk rfl)) hi hst hcf (hnm hyn) (by rw [q2]; exact u_fits hfc hkC hkind (Or.inr hlay) hi hd hn hf) q1 q3 (by rw [hsl]; exact k2_hasslot (q4 kf hkN)) rfl rfl hdg fin
  · have hlay := hts _ (hin _ (u_in_lay hkN))
    unfold u_lay at hlay
    rw [if_neg (by rw [hfin]; decide)] at hlay
    have h6 := u_store hfc hkC hkind hlay hi hd hn hf
    exact W.putK hx hb (f := f) ⟨hown, hts _ (ab_in hlk rfl), ⟨_, _, _, hi⟩, hst⟩ (by rw [q2]; exact h6) q1 q3 (by rw [hsl]; exact k2_hasslot (q4 kf hkN)) rfl rfl hdg fin
theorem ab_Wiast {X : ab_C} {h : ab_H} (hx : p.tables.exec = Jvm.exec) (hb : c.code = cc) (hK : va_K X.2.1 vwCl (ab_tys X) s) (hRel : ab_Rel X h H) (hS : va_S (ab_A X) s.heap H locs) {k n : Nat} {f : Nat → Int32} {i x : Int32} (hc1 : h[k]? = some (.inl (0, n, .inl f))) (hin : vp_in i n) (hd : decode cc pc = .ok (.iastore, 1))
    (kk : ∀ (H1 : Heap) (locs1 : List Loc), ab_Rel X (h.set k (.inl (0, n, .inl (upd f i.toNatClampNeg x)))) H1 → va_S (ab_A X) s.heap H1 locs1 → W p l e R s m args below meth c H1 locs1 cells slots Q (F0 m (pc + 1) ls rest)) : W p l e R s m args below meth c H locs cells slots Q (F0 m pc ls (.int x :: .int i :: .ref (ab_b X + k) :: rest)) := by
  have hcell : H[ab_b X + k]? = some (arrV (X.2.2.1 0) n (fun j => .int (f j))) := hRel.2 _ _ (ab_ws_at hc1)
  refine W.iast hx hb hcell ((hK.2 0 _ rfl).1 n (fun j => .int (f j))) (fun q => by cases q) (by rw [arrV_size]; exact hin) rfl rfl hd fun H1 e1 z oq => ?_
  refine kk H1 _ (hRel.set hc1 ?_ z oq) (hS.put z oq (Nat.le_add_right _ _))
  show H1[ab_b X + k]? = some (arrV (X.2.2.1 0) n (fun j => .int (upd f i.toNatClampNeg x j)))
  rw [e1, arrV_store]
  congr 2
  funext q
  by_cases hq : q = i.toNatClampNeg <;> simp [updV, upd, hq]
theorem ab_Wlast {X : ab_C} {h : ab_H} (hx : p.tables.exec = Jvm.exec) (hb : c.code = cc) (hK : va_K X.2.1 vwCl (ab_tys X) s) (hRel : ab_Rel X h H) (hS : va_S (ab_A X) s.heap H locs) {k n : Nat} {f : Nat → Int64} {i : Int32} {x : Int64} (hc1 : h[k]? = some (.inl (1, n, .inr (.inl f)))) (hin : vp_in i n) (hd : decode cc pc = .ok (.lastore, 1))
    (kk : ∀ (H1 : Heap) (locs1 : List Loc), ab_Rel X (h.set k (.inl (1, n, .inr (.inl (vp_updL f i.toNatClampNeg x))))) H1 → va_S (ab_A X) s.heap H1 locs1 → W p l e R s m args below meth c H1 locs1 cells slots Q (F0 m (pc + 1) ls rest)) : W p l e R s m args below meth c H locs cells slots Q (F0 m pc ls (.long x :: .int i :: .ref (ab_b X + k) :: rest)) := by
  have hcell : H[ab_b X + k]? = some (arrV (X.2.2.1 1) n (fun j => .long (f j))) := hRel.2 _ _ (ab_ws_at hc1)
  refine W.last hx hb hcell ((hK.2 1 _ rfl).1 n (fun j => .long (f j))) (fun q => by cases q) (by rw [arrV_size]; exact hin) rfl rfl hd fun H1 e1 z oq => ?_
  refine kk H1 _ (hRel.set hc1 ?_ z oq) (hS.put z oq (Nat.le_add_right _ _))
  show H1[ab_b X + k]? = some (arrV (X.2.2.1 1) n (fun j => .long (vp_updL f i.toNatClampNeg x j)))
  rw [e1, arrV_store]
  congr 2
  funext q
  by_cases hq : q = i.toNatClampNeg <;> simp [updV, vp_updL, hq]
theorem ab_Waald {X : ab_C} {h : ab_H} (hx : p.tables.exec = Jvm.exec) (hb : c.code = cc) (hK : va_K X.2.1 vwCl (ab_tys X) s) (hRel : ab_Rel X h H) {k n : Nat} {f : Nat → Option Nat} {i : Int32} (hc1 : h[k]? = some (.inl (2, n, .inr (.inr (.inr (.inr f)))))) (hin : vp_in i n) {q : Nat} (hq : f i.toNatClampNeg = some q) (hd : decode cc pc = .ok (.aaload, 1))
    (kk : W p l e R s m args below meth c H locs cells slots Q (F0 m (pc + 1) ls (ab_v X (.ref q) :: rest))) : W p l e R s m args below meth c H locs cells slots Q (F0 m pc ls (.int i :: .ref (ab_b X + k) :: rest)) := by
  have hcell : H[ab_b X + k]? = some (arrV (X.2.2.1 2) n (fun j => va_rf ((f j).map (ab_ad X)))) := hRel.2 _ _ (ab_ws_at hc1)
  have hlt : i.toNatClampNeg < n := Nat.not_le.mp fun q => hin (Or.inr q)
  refine W.aald (v := ab_v X (.ref q)) (ty := .array .int) hx hb hcell ((hK.2 2 _ rfl).1 n _) rfl (fun q => by cases q) (by rw [arrV_size]; exact hin) (by rw [arrV_read _ _ hlt, hq]; rfl) rfl rfl hd kk
end ABP

set_option maxHeartbeats 4000000 in
theorem ab_step_ok {X : ab_C} {M : ab_Mt} {d bc bs pc : Nat} {lo lo' : ab_Lo} {st st' : List Value} {h h' : ab_H} {Q : Option Value → ab_H → Prop} {j : ab_J} (hd : decode M.2.1 pc = .ok (j.1, j.2.1)) (hc : ab_ck1 M.1 j = true) (hs : ab_step j lo st h = some (lo', st', h')) (k : ab_W X M d bc bs (pc + j.2.1) lo' st' h' Q) : ab_W X M d bc bs pc lo st h Q := by
  obtain ⟨ins, len, cv, ci, kf⟩ := j
  intro p e R s m args below meth c H locs cells slots ls F V
  have k := fun H locs ls V => k p e R s m args below meth c H locs cells slots ls F V
  obtain ⟨hx, hb, hr, hml, hown, hts, hlk, hnm, hok, hfr, hlo⟩ := F
  obtain ⟨v1, v2, hS, hRel, hLR⟩ := V
  dsimp only at hd
  cases ins with
  | iconst n =>
    have hs : some (lo, cv :: st, h) = some (lo', st', h') := hs
    cases hs
    have hc : (len == 1 && decide (cv = .int (Int32.ofInt n))) = true := hc
    simp only [Bool.and_eq_true, beq_iff_eq, decide_eq_true_eq] at hc
    obtain ⟨rfl, rfl⟩ := hc
    exact lv_iconst hx hb hd rfl (k H locs ls ⟨v1, v2, hS, hRel, hLR⟩)
  | bipush n =>
    have hs : some (lo, cv :: st, h) = some (lo', st', h') := hs
    cases hs
    have hc : (len == 2 && decide (cv = .int (Int8.ofInt n).toInt32)) = true := hc
    simp only [Bool.and_eq_true, beq_iff_eq, decide_eq_true_eq] at hc
    obtain ⟨rfl, rfl⟩ := hc
    exact lv_bipush hx hb hd rfl (k H locs ls ⟨v1, v2, hS, hRel, hLR⟩)
  | sipush n =>
    have hs : some (lo, cv :: st, h) = some (lo', st', h') := hs
    cases hs
    have hc : (len == 3 && decide (cv = .int (Int16.ofInt n).toInt32)) = true := hc
    simp only [Bool.and_eq_true, beq_iff_eq, decide_eq_true_eq] at hc
    obtain ⟨rfl, rfl⟩ := hc
    exact lv_sipush hx hb hd rfl (k H locs ls ⟨v1, v2, hS, hRel, hLR⟩)
  | lconst n =>
    have hs : some (lo, cv :: st, h) = some (lo', st', h') := hs
    cases hs
    have hc : (len == 1 && decide (cv = .long (Int64.ofNat n.val))) = true := hc
    simp only [Bool.and_eq_true, beq_iff_eq, decide_eq_true_eq] at hc
    obtain ⟨rfl, rfl⟩ := hc
    exact lv_lconst hx hb hd rfl (k H locs ls ⟨v1, v2, hS, hRel, hLR⟩)
  | ldc i =>
    have hs : some (lo, cv :: st, h) = some (lo', st', h') := hs
    cases hs
    have hc : (len == 2 && ab_cI M.1.cls i cv kf) = true := hc
    simp only [Bool.and_eq_true, beq_iff_eq] at hc
    obtain ⟨rfl, hc⟩ := hc
    obtain ⟨v, rfl, hcm⟩ := ab_cI_inv hc
    exact lv_ldc hx hb hown (hts _ (ab_in hcm rfl)) hd (k H locs ls ⟨v1, v2, hS, hRel, hLR⟩)
  | ldc_w i =>
    have hs : some (lo, cv :: st, h) = some (lo', st', h') := hs
    cases hs
    have hc : (len == 3 && ab_cI M.1.cls i cv kf) = true := hc
    simp only [Bool.and_eq_true, beq_iff_eq] at hc
    obtain ⟨rfl, hc⟩ := hc
    obtain ⟨v, rfl, hcm⟩ := ab_cI_inv hc
    exact lv_ldcw hx hb hown (hts _ (ab_in hcm rfl)) hd (k H locs ls ⟨v1, v2, hS, hRel, hLR⟩)
  | ldc2_w i =>
    have hs : some (lo, cv :: st, h) = some (lo', st', h') := hs
    cases hs
    have hc : (len == 3 && ab_cL M.1.cls i cv kf) = true := hc
    simp only [Bool.and_eq_true, beq_iff_eq] at hc
    obtain ⟨rfl, hc⟩ := hc
    obtain ⟨v, rfl, hcm⟩ := ab_cL_inv hc
    exact lv_ldc2 hx hb hown (hts _ (ab_in hcm rfl)) hd (k H locs ls ⟨v1, v2, hS, hRel, hLR⟩)
  | iload_n i =>
    obtain ⟨x, hx0, rfl, rfl, rfl⟩ := ab_ldI_inv (i := i.val) hs
    obtain rfl : len = 1 := eq_of_beq (show (len == 1) = true from hc)
    exact lv_iload_n hx hb hd rfl (hLR.get hx0) (k H locs ls ⟨v1, v2, hS, hRel, hLR⟩)
  | iload i =>
    obtain ⟨x, hx0, rfl, rfl, rfl⟩ := ab_ldI_inv (i := i) hs
    obtain rfl : len = 2 := eq_of_beq (show (len == 2) = true from hc)
    exact lv_iload hx hb hd (hLR.get hx0) (k H locs ls ⟨v1, v2, hS, hRel, hLR⟩)
  | lload_n i =>
    obtain ⟨x, hx0, rfl, rfl, rfl⟩ := ab_ldL_inv (i := i.val) hs
    obtain rfl : len = 1 := eq_of_beq (show (len == 1) = true from hc)
    exact lv_lload_n hx hb hd rfl (hLR.get hx0) (k H locs ls ⟨v1, v2, hS, hRel, hLR⟩)
  | lload i =>
    obtain ⟨x, hx0, rfl, rfl, rfl⟩ := ab_ldL_inv (i := i) hs
    obtain rfl : len = 2 := eq_of_beq (show (len == 2) = true from hc)
    exact lv_lload hx hb hd (hLR.get hx0) (k H locs ls ⟨v1, v2, hS, hRel, hLR⟩)
  | aload_n i =>
    obtain ⟨x, hx0, rfl, rfl, rfl⟩ := ab_ldA_inv (i := i.val) hs
    obtain rfl : len = 1 := eq_of_beq (show (len == 1) = true from hc)
    exact lv_aload_n hx hb hd rfl (hLR.get hx0) (k H locs ls ⟨v1, v2, hS, hRel, hLR⟩)
  | aload i =>
    obtain ⟨x, hx0, rfl, rfl, rfl⟩ := ab_ldA_inv (i := i) hs
    obtain rfl : len = 2 := eq_of_beq (show (len == 2) = true from hc)
    exact lv_aload hx hb hd (hLR.get hx0) (k H locs ls ⟨v1, v2, hS, hRel, hLR⟩)
  | istore_n i =>
    obtain ⟨x, rfl, hi, rfl, rfl⟩ := ab_stI_inv (i := i.val) hs
    obtain rfl : len = 1 := eq_of_beq (show (len == 1) = true from hc)
    obtain ⟨hn, lv, h1, h2⟩ := hLR
    exact lv_istore_n hx hb hd rfl h1 (by omega) rfl (fun ls' g => k H locs ls' ⟨v1, v2, hS, hRel, ab_LR.of1 (v := .int x) hn h2 hi g⟩)
  | istore i =>
    obtain ⟨x, rfl, hi, rfl, rfl⟩ := ab_stI_inv (i := i) hs
    obtain rfl : len = 2 := eq_of_beq (show (len == 2) = true from hc)
    obtain ⟨hn, lv, h1, h2⟩ := hLR
    exact lv_istore hx hb hd h1 (by omega) rfl (fun ls' g => k H locs ls' ⟨v1, v2, hS, hRel, ab_LR.of1 (v := .int x) hn h2 hi g⟩)
  | lstore_n i =>
    obtain ⟨x, rfl, hi, rfl, rfl⟩ := ab_stL_inv (i := i.val) hs
    obtain rfl : len = 1 := eq_of_beq (show (len == 1) = true from hc)
    obtain ⟨hn, lv, h1, h2⟩ := hLR
    exact lv_lstore_n hx hb hd rfl h1 (by omega) rfl (fun ls' g => k H locs ls' ⟨v1, v2, hS, hRel, ab_LR.of2 (v := .long x) hn h2 hi g⟩)
  | lstore i =>
    obtain ⟨x, rfl, hi, rfl, rfl⟩ := ab_stL_inv (i := i) hs
    obtain rfl : len = 2 := eq_of_beq (show (len == 2) = true from hc)
    obtain ⟨hn, lv, h1, h2⟩ := hLR
    exact lv_lstore hx hb hd h1 (by omega) rfl (fun ls' g => k H locs ls' ⟨v1, v2, hS, hRel, ab_LR.of2 (v := .long x) hn h2 hi g⟩)
  | astore_n i =>
    obtain ⟨x, rfl, hi, rfl, rfl⟩ := ab_stA_inv (i := i.val) hs
    obtain rfl : len = 1 := eq_of_beq (show (len == 1) = true from hc)
    obtain ⟨hn, lv, h1, h2⟩ := hLR
    exact lv_astore_n hx hb hd rfl h1 (by omega) rfl (fun ls' g => k H locs ls' ⟨v1, v2, hS, hRel, ab_LR.of1 (v := .ref x) hn h2 hi g⟩)
  | astore i =>
    obtain ⟨x, rfl, hi, rfl, rfl⟩ := ab_stA_inv (i := i) hs
    obtain rfl : len = 2 := eq_of_beq (show (len == 2) = true from hc)
    obtain ⟨hn, lv, h1, h2⟩ := hLR
    exact lv_astore hx hb hd h1 (by omega) rfl (fun ls' g => k H locs ls' ⟨v1, v2, hS, hRel, ab_LR.of1 (v := .ref x) hn h2 hi g⟩)
  | iinc i n =>
    obtain ⟨x, y, hx0, rfl, hi, rfl, rfl, rfl⟩ := ab_inc_inv (i := i) hs
    have hc : ((len == 3 || len == 6) && decide (Value.int y = .int (Int32.ofInt n))) = true := hc
    simp only [Bool.and_eq_true, Bool.or_eq_true, beq_iff_eq, decide_eq_true_eq, Value.int.injEq] at hc
    obtain ⟨hlen, rfl⟩ := hc
    obtain ⟨hn, lv, h1, h2⟩ := hLR
    obtain ⟨kk, hkk⟩ := List.getElem?_of_mem (h2 i _ hx0)
    rcases hlen with rfl | rfl
    · exact lv_iinc hx hb hd h1 hkk rfl (by omega) rfl (fun ls' g => k H locs ls' ⟨v1, v2, hS, hRel, ab_LR.of1 (v := .int (x + Int32.ofInt n)) hn h2 hi g⟩)
    · exact lv_iincW hx hb hd h1 hkk rfl (by omega) rfl (fun ls' g => k H locs ls' ⟨v1, v2, hS, hRel, ab_LR.of1 (v := .int (x + Int32.ofInt n)) hn h2 hi g⟩)
  | iadd =>
    obtain ⟨x, y, r, rfl, rfl, rfl, rfl⟩ := ab_i2_inv hs
    obtain rfl : len = 1 := eq_of_beq (show (len == 1) = true from hc)
    exact lv_iadd hx hb hd (k H locs ls ⟨v1, v2, hS, hRel, hLR⟩)
  | isub =>
    obtain ⟨x, y, r, rfl, rfl, rfl, rfl⟩ := ab_i2_inv hs
    obtain rfl : len = 1 := eq_of_beq (show (len == 1) = true from hc)
    exact lv_isub hx hb hd (k H locs ls ⟨v1, v2, hS, hRel, hLR⟩)
  | imul =>
    obtain ⟨x, y, r, rfl, rfl, rfl, rfl⟩ := ab_i2_inv hs
    obtain rfl : len = 1 := eq_of_beq (show (len == 1) = true from hc)
    exact lv_imul hx hb hd (k H locs ls ⟨v1, v2, hS, hRel, hLR⟩)
  | iand =>
    obtain ⟨x, y, r, rfl, rfl, rfl, rfl⟩ := ab_i2_inv hs
    obtain rfl : len = 1 := eq_of_beq (show (len == 1) = true from hc)
    exact lv_iand hx hb hd (k H locs ls ⟨v1, v2, hS, hRel, hLR⟩)
  | ior =>
    obtain ⟨x, y, r, rfl, rfl, rfl, rfl⟩ := ab_i2_inv hs
    obtain rfl : len = 1 := eq_of_beq (show (len == 1) = true from hc)
    exact lv_ior hx hb hd (k H locs ls ⟨v1, v2, hS, hRel, hLR⟩)
  | ixor =>
    obtain ⟨x, y, r, rfl, rfl, rfl, rfl⟩ := ab_i2_inv hs
    obtain rfl : len = 1 := eq_of_beq (show (len == 1) = true from hc)
    exact lv_ixor hx hb hd (k H locs ls ⟨v1, v2, hS, hRel, hLR⟩)
  | ishl =>
    obtain ⟨x, y, r, rfl, rfl, rfl, rfl⟩ := ab_i2_inv hs
    obtain rfl : len = 1 := eq_of_beq (show (len == 1) = true from hc)
    exact lv_ishl hx hb hd (k H locs ls ⟨v1, v2, hS, hRel, hLR⟩)
  | ishr =>
    obtain ⟨x, y, r, rfl, rfl, rfl, rfl⟩ := ab_i2_inv hs
    obtain rfl : len = 1 := eq_of_beq (show (len == 1) = true from hc)
    exact lv_ishr hx hb hd (k H locs ls ⟨v1, v2, hS, hRel, hLR⟩)
  | iushr =>
    obtain ⟨x, y, r, rfl, rfl, rfl, rfl⟩ := ab_i2_inv hs
    obtain rfl : len = 1 := eq_of_beq (show (len == 1) = true from hc)
    exact lv_iushr hx hb hd rfl (k H locs ls ⟨v1, v2, hS, hRel, hLR⟩)
  | ladd =>
    obtain ⟨x, y, r, rfl, rfl, rfl, rfl⟩ := ab_l2_inv hs
    obtain rfl : len = 1 := eq_of_beq (show (len == 1) = true from hc)
    exact lv_ladd hx hb hd (k H locs ls ⟨v1, v2, hS, hRel, hLR⟩)
  | lsub =>
    obtain ⟨x, y, r, rfl, rfl, rfl, rfl⟩ := ab_l2_inv hs
    obtain rfl : len = 1 := eq_of_beq (show (len == 1) = true from hc)
    exact lv_lsub hx hb hd (k H locs ls ⟨v1, v2, hS, hRel, hLR⟩)
  | lmul =>
    obtain ⟨x, y, r, rfl, rfl, rfl, rfl⟩ := ab_l2_inv hs
    obtain rfl : len = 1 := eq_of_beq (show (len == 1) = true from hc)
    exact lv_lmul hx hb hd (k H locs ls ⟨v1, v2, hS, hRel, hLR⟩)
  | land =>
    obtain ⟨x, y, r, rfl, rfl, rfl, rfl⟩ := ab_l2_inv hs
    obtain rfl : len = 1 := eq_of_beq (show (len == 1) = true from hc)
    exact lv_land hx hb hd (k H locs ls ⟨v1, v2, hS, hRel, hLR⟩)
  | lor =>
    obtain ⟨x, y, r, rfl, rfl, rfl, rfl⟩ := ab_l2_inv hs
    obtain rfl : len = 1 := eq_of_beq (show (len == 1) = true from hc)
    exact lv_lor hx hb hd (k H locs ls ⟨v1, v2, hS, hRel, hLR⟩)
  | lxor =>
    obtain ⟨x, y, r, rfl, rfl, rfl, rfl⟩ := ab_l2_inv hs
    obtain rfl : len = 1 := eq_of_beq (show (len == 1) = true from hc)
    exact lv_lxor hx hb hd (k H locs ls ⟨v1, v2, hS, hRel, hLR⟩)
  | lshl =>
    obtain ⟨x, y, r, rfl, rfl, rfl, rfl⟩ := ab_ls_inv hs
    obtain rfl : len = 1 := eq_of_beq (show (len == 1) = true from hc)
    exact lv_lshl hx hb hd rfl (k H locs ls ⟨v1, v2, hS, hRel, hLR⟩)
  | lshr =>
    obtain ⟨x, y, r, rfl, rfl, rfl, rfl⟩ := ab_ls_inv hs
    obtain rfl : len = 1 := eq_of_beq (show (len == 1) = true from hc)
    exact lv_lshr hx hb hd rfl (k H locs ls ⟨v1, v2, hS, hRel, hLR⟩)
  | lushr =>
    obtain ⟨x, y, r, rfl, rfl, rfl, rfl⟩ := ab_ls_inv hs
    obtain rfl : len = 1 := eq_of_beq (show (len == 1) = true from hc)
    exact lv_lushr hx hb hd rfl (k H locs ls ⟨v1, v2, hS, hRel, hLR⟩)
  | ineg =>
    obtain ⟨x, r, rfl, rfl, rfl, rfl⟩ := ab_i1_inv hs
    obtain rfl : len = 1 := eq_of_beq (show (len == 1) = true from hc)
    exact lv_ineg hx hb hd (k H locs ls ⟨v1, v2, hS, hRel, hLR⟩)
  | i2l =>
    obtain ⟨x, r, rfl, rfl, rfl, rfl⟩ := ab_i1_inv hs
    obtain rfl : len = 1 := eq_of_beq (show (len == 1) = true from hc)
    exact lv_i2l hx hb hd rfl (k H locs ls ⟨v1, v2, hS, hRel, hLR⟩)
  | i2b =>
    obtain ⟨x, r, rfl, rfl, rfl, rfl⟩ := ab_i1_inv hs
    obtain rfl : len = 1 := eq_of_beq (show (len == 1) = true from hc)
    exact lv_i2b hx hb hd rfl (k H locs ls ⟨v1, v2, hS, hRel, hLR⟩)
  | i2s =>
    obtain ⟨x, r, rfl, rfl, rfl, rfl⟩ := ab_i1_inv hs
    obtain rfl : len = 1 := eq_of_beq (show (len == 1) = true from hc)
    exact lv_i2s hx hb hd rfl (k H locs ls ⟨v1, v2, hS, hRel, hLR⟩)
  | i2c =>
    obtain ⟨x, r, rfl, rfl, rfl, rfl⟩ := ab_i1_inv hs
    obtain rfl : len = 1 := eq_of_beq (show (len == 1) = true from hc)
    exact lv_i2c hx hb hd rfl (k H locs ls ⟨v1, v2, hS, hRel, hLR⟩)
  | lneg =>
    obtain ⟨x, r, rfl, rfl, rfl, rfl⟩ := ab_l1_inv hs
    obtain rfl : len = 1 := eq_of_beq (show (len == 1) = true from hc)
    exact lv_lneg hx hb hd (k H locs ls ⟨v1, v2, hS, hRel, hLR⟩)
  | l2i =>
    obtain ⟨x, r, rfl, rfl, rfl, rfl⟩ := ab_l1_inv hs
    obtain rfl : len = 1 := eq_of_beq (show (len == 1) = true from hc)
    exact lv_l2i hx hb hd rfl (k H locs ls ⟨v1, v2, hS, hRel, hLR⟩)
  | lcmp =>
    obtain ⟨x, y, r, rfl, rfl, rfl, rfl⟩ := ab_lc_inv hs
    obtain rfl : len = 1 := eq_of_beq (show (len == 1) = true from hc)
    exact W.lcmp hx hb hd (k H locs ls ⟨v1, v2, hS, hRel, hLR⟩)
  | dup =>
    obtain rfl : len = 1 := eq_of_beq (show (len == 1) = true from hc)
    have hs2 : ab_dup lo st h = some (lo', st', h') := hs
    clear hs
    unfold ab_dup at hs2
    split at hs2
    · cases hs2
      exact lv_dup hx hb hd rfl (k H locs ls ⟨v1, v2, hS, hRel, hLR⟩)
    · cases hs2
      exact lv_dup hx hb hd rfl (k H locs ls ⟨v1, v2, hS, hRel, hLR⟩)
    · cases hs2
  | dup2 =>
    obtain rfl : len = 1 := eq_of_beq (show (len == 1) = true from hc)
    have hs2 : ab_dup2 lo st h = some (lo', st', h') := hs
    clear hs
    unfold ab_dup2 at hs2
    split at hs2
    · cases hs2
      exact lv_dup2_11 hx hb hd rfl rfl (k H locs ls ⟨v1, v2, hS, hRel, hLR⟩)
    · cases hs2
      exact lv_dup2_11 hx hb hd rfl rfl (k H locs ls ⟨v1, v2, hS, hRel, hLR⟩)
    · cases hs2
  | dup_x1 =>
    obtain rfl : len = 1 := eq_of_beq (show (len == 1) = true from hc)
    have hs2 : ab_dupx1 lo st h = some (lo', st', h') := hs
    clear hs
    unfold ab_dupx1 at hs2
    split at hs2
    · cases hs2
      exact lv_dup_x1 hx hb hd rfl rfl (k H locs ls ⟨v1, v2, hS, hRel, hLR⟩)
    · cases hs2
      exact lv_dup_x1 hx hb hd rfl rfl (k H locs ls ⟨v1, v2, hS, hRel, hLR⟩)
    · cases hs2
  | dup_x2 =>
    obtain rfl : len = 1 := eq_of_beq (show (len == 1) = true from hc)
    have hs2 : ab_dupx2 lo st h = some (lo', st', h') := hs
    clear hs
    unfold ab_dupx2 at hs2
    split at hs2
    · cases hs2
      exact lv_dup_x2 hx hb hd rfl rfl rfl (k H locs ls ⟨v1, v2, hS, hRel, hLR⟩)
    · cases hs2
  | pop =>
    obtain rfl : len = 1 := eq_of_beq (show (len == 1) = true from hc)
    have hs2 : ab_pop lo st h = some (lo', st', h') := hs
    clear hs
    unfold ab_pop at hs2
    split at hs2
    · cases hs2
      exact lv_pop hx hb hd rfl (k H locs ls ⟨v1, v2, hS, hRel, hLR⟩)
    · cases hs2
      exact lv_pop hx hb hd rfl (k H locs ls ⟨v1, v2, hS, hRel, hLR⟩)
    · cases hs2
  | getfield i =>
    obtain ⟨a, r, fs, v, rfl, ha, hc0, hv, rfl, rfl, rfl⟩ := ab_gf_inv (ci := ci) (k := kf) hs
    have hc : (len == 3 && ab_fl M.1.cls i ci kf (ab_ti cv)) = true := hc
    simp only [Bool.and_eq_true, beq_iff_eq] at hc
    obtain ⟨rfl, hc⟩ := hc
    obtain ⟨C, T, N, hcl, hkN, hl⟩ := ab_fl_inv hc
    have hkk := k H locs ls ⟨v1, v2, hS, hRel, hLR⟩
    show W _ _ _ _ _ _ _ _ _ _ _ _ _ _ _ (F0 m pc ls (ab_v X (.ref a) :: r.map (ab_v X)))
    rw [ab_ad_own ha]
    have hv' : (fs.map (ab_v X))[kf]? = some (ab_v X v) := by rw [List.getElem?_map, hv]; rfl
    exact va_get hx hb hts (ab_cls hcl).1 hown hok.1 hRel.2 (a - ab_NT) (ab_ws_at hc0) hcl kf hkN (hts _ (ab_in hl rfl)) (fun _ h9 => h9) hv' hd hkk
  | putfield i =>
    have hs2 : ab_pu lo st h ci kf = some (lo', st', h') := by
      cases cv with
      | retAddr q => exact absurd (show none = some (lo', st', h') from hs) (fun q => by cases q)
      | _ => exact hs
    clear hs
    obtain ⟨a, fs, v, rfl, ha, hc0, hkl, hfit, rfl, rfl⟩ := ab_pu_inv (ci := ci) (k := kf) hs2
    have hc : (len == 3 && ab_pf M.1 i ci kf (ab_ti cv)) = true := hc
    simp only [Bool.and_eq_true, beq_iff_eq] at hc
    obtain ⟨rfl, hc⟩ := hc
    show W _ _ _ _ _ _ _ _ _ _ _ _ _ _ _ (F0 m pc ls (ab_v X v :: ab_v X (.ref a) :: st'.map (ab_v X)))
    rw [ab_ad_own ha]
    exact ab_putf hx hb hts hown hnm hok.1 hRel hS hc0 hc hkl (fun ty e => by subst e; exact ab_fit_ok hfit) hd (fun H1 locs1 hR1 hS1 => k H1 locs1 ls ⟨v1, v2, hS1, hR1, hLR⟩)
  | getstatic i =>
    have hs : (if kf < ab_NT then some (lo, .ref kf :: st, h) else none) = some (lo', st', h') := hs
    split at hs
    · rename_i hkf
      cases hs
      have hc : (len == 3 && ab_sts.any (fun q => q.2.2.2 == kf && ab_wd (ab_ti cv) (Cond.fieldLink M.1.cls i q.1 q.2.1 q.2.2.1))) = true := hc
      simp only [Bool.and_eq_true, beq_iff_eq, List.any_eq_true, Bool.or_eq_true, decide_eq_true_eq] at hc
      obtain ⟨rfl, q, hq, hqk, hl⟩ := hc
      have hl := ab_wd_in hl
      have hkk := k H locs ls ⟨v1, v2, hS, hRel, hLR⟩
      have hZ := hok.2.2.1 q hq
      rw [hqk] at hZ
      have hv : ab_v X (.ref kf) = .ref (X.2.2.2.2.1 kf) := by
        show Value.ref (ab_ad X kf) = _
        unfold ab_ad
        rw [if_pos hkf]
      have hkk : W p X.1 e R s m args below meth c H locs cells slots (MQ below (ab_Q X Q) args s R.cells R.slots (ab_A X)) (F0 m (pc + 3) ls (ab_v X (.ref kf) :: st.map (ab_v X))) := hkk
      rw [hv] at hkk
      exact va_gets hx hb hZ hS hown (hts _ (ab_in hl rfl)) (fun _ h9 => h9) hd hkk
    · cases hs
  | iaload =>
    have hs : (if ci = 1 then ab_ial lo st h else none) = some (lo', st', h') := hs
    split at hs
    · obtain ⟨i, a, r, n, f, rfl, hc0, hin, rfl, rfl, rfl⟩ := ab_ial_inv hs
      obtain rfl : len = 1 := eq_of_beq (show (len == 1) = true from hc)
      obtain ⟨ha, hc1⟩ := ab_at_own hc0
      show W _ _ _ _ _ _ _ _ _ _ _ _ _ _ _ (F0 m pc ls (.int i :: ab_v X (.ref a) :: r.map (ab_v X)))
      rw [ab_ad_own ha]
      exact va_iald hx hb hok.1 hRel.2 (a - ab_NT) 0 (ab_ws_at hc1) rfl hin hd (k H locs ls ⟨v1, v2, hS, hRel, hLR⟩)
    · cases hs
  | iastore =>
    have hs : (if ci = 1 then ab_ias lo st h else none) = some (lo', st', h') := hs
    split at hs
    · obtain ⟨i, x, a, n, f, rfl, hc0, hin, rfl, rfl⟩ := ab_ias_inv hs
      obtain rfl : len = 1 := eq_of_beq (show (len == 1) = true from hc)
      obtain ⟨ha, hc1⟩ := ab_at_own hc0
      show W _ _ _ _ _ _ _ _ _ _ _ _ _ _ _ (F0 m pc ls (.int x :: .int i :: ab_v X (.ref a) :: st'.map (ab_v X)))
      rw [ab_ad_own ha]
      exact ab_Wiast hx hb hok.1 hRel hS hc1 hin hd (fun H1 locs1 hR1 hS1 => k H1 locs1 ls ⟨v1, v2, hS1, hR1, hLR⟩)
    · cases hs
  | aaload =>
    have hs : (if ci = 1 then ab_aal lo st h else none) = some (lo', st', h') := hs
    split at hs
    · obtain ⟨i, a, r, n, f, q, rfl, hc0, hin, hq, rfl, rfl, rfl⟩ := ab_aal_inv hs
      obtain rfl : len = 1 := eq_of_beq (show (len == 1) = true from hc)
      obtain ⟨ha, hc1⟩ := ab_at_own hc0
      show W _ _ _ _ _ _ _ _ _ _ _ _ _ _ _ (F0 m pc ls (.int i :: ab_v X (.ref a) :: r.map (ab_v X)))
      rw [ab_ad_own ha]
      exact ab_Waald hx hb hok.1 hRel hc1 hin hq hd (k H locs ls ⟨v1, v2, hS, hRel, hLR⟩)
    · cases hs
  | idiv =>
    have hs : (if ci = 1 then ab_div lo st h else none) = some (lo', st', h') := hs
    split at hs
    · obtain ⟨x, y, r, rfl, hy, rfl, rfl, rfl⟩ := ab_div_inv hs
      obtain rfl : len = 1 := eq_of_beq (show (len == 1) = true from hc)
      exact lv_idiv hx hb hd hy (k H locs ls ⟨v1, v2, hS, hRel, hLR⟩)
    · cases hs
  | irem =>
    have hs : (if ci = 1 then ab_rem lo st h else none) = some (lo', st', h') := hs
    split at hs
    · obtain ⟨x, y, r, rfl, hy, rfl, rfl, rfl⟩ := ab_rem_inv hs
      obtain rfl : len = 1 := eq_of_beq (show (len == 1) = true from hc)
      exact lv_irem hx hb hd hy (k H locs ls ⟨v1, v2, hS, hRel, hLR⟩)
    · cases hs
  | _ => exact absurd (show none = some (lo', st', h') from hs) (fun q => by cases q)
