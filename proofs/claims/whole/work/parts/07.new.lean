/-! New cells, Object's constructor, Math, switches -/
theorem ab_Rel.push {X : ab_C} {h : ab_H} {H H1 : Heap} (hRel : ab_Rel X h H) {c1 : va_E} (he : va_at X.2.1 vwCl (ab_b X + h.length, ab_c X c1) H1) (hz : H1.size = H.size + 1) (oq : ∀ q : Nat, q < H.size → H1[q]? = H[q]?) : ab_Rel X (h ++ [c1]) H1 := by
  refine ⟨by rw [hz, List.length_append, hRel.1]; simp; omega, ?_⟩
  rw [← ab_ws_push]
  refine va_P.app (hRel.2.kept (fun k q hk => oq q.1 (hRel.2 k q hk).lt)) (fun k q hk => ?_)
  have hz : k < 1 := (List.getElem?_eq_some_iff.mp hk).1
  rw [show k = 0 by omega] at hk
  cases hk
  exact he
def ab_dfl (ci : Nat) : List Value := match vwCl[ci]? with
  | some q => (List.range q.2.2).map (fun k => defaultValue (ab_tyq q k))
  | none => []
def ab_ckn (own : String) (idx ci : Nat) : Bool := match vwCl[ci]? with
  | some q => decide (Cond.classLink own idx q.1 ∈ lw_tbl) && decide (Cond.instantiable q.1 q.2.2 ∈ lw_tbl) && decide (Cond.initialized q.1 ∈ lw_tbl)
  | none => false
theorem ab_dv (X : ab_C) (ty : FieldType) : ab_v X (defaultValue ty) = defaultValue ty := by cases ty <;> rfl
section ABN
variable {X : ab_C} {M : ab_Mt} {code : ab_Cd} {d bc bs bc2 bs2 pc : Nat} {lo : ab_Lo} {st : List Value} {h : ab_H} {Q : Option Value → ab_H → Prop} {idx len ci kf : Nat} {cv : Value}
theorem ab_new (hck : ab_ckM M code = true) (hf : ab_fetch code pc = some (.new idx, len, cv, ci, kf)) (hw : ab_ckn M.1.cls idx ci = true) (hb1 : 1 + bc2 ≤ bc ∧ (ab_dfl ci).length + bs2 ≤ bs) (k : ab_W X M d bc2 bs2 (pc + 3) lo (.ref (ab_NT + h.length) :: st) (h ++ [.inr (ci, ab_dfl ci)]) Q) : ab_W X M d bc bs pc lo st h Q := by
  obtain ⟨hdc, hc⟩ := ab_ck_at hck hf
  obtain rfl : len = 3 := eq_of_beq (show (len == 3) = true from hc)
  intro p e R s m args below meth c H locs cells slots ls F V
  have hk := fun H V => k p e R s m args below meth c H locs (cells + 1) (slots + (ab_dfl ci).length) ls F V
  obtain ⟨hx, hb, hr, hml, hown, hts, hlk, hnm, hok, hfr, hlo⟩ := F
  obtain ⟨v1, v2, hS, hRel, hLR⟩ := V
  unfold ab_ckn at hw
  split at hw
  · rename_i q hq
    obtain ⟨C, T, N⟩ := q
    simp only [Bool.and_eq_true, decide_eq_true_eq] at hw
    obtain ⟨⟨w1, w2⟩, w3⟩ := hw
    have hdf : ab_dfl ci = (List.range N).map (fun k => defaultValue (ab_tyq (C, T, N) k)) := by unfold ab_dfl; rw [hq]
    have hlen : (ab_dfl ci).length = N := by rw [hdf]; simp
    rw [hlen] at hb1 hk
    obtain ⟨hin, hty, hnms⟩ := ab_cls hq
    have hKn := hok.1.1 ci _ hq
    refine W.newcK hx hb hown (hts _ (ab_in w1 rfl)) (hts _ (ab_in w2 rfl)) (hts _ (ab_in w3 rfl)) rfl hdc (by omega) (by omega) hKn.2.1 rfl fun H1 kC hkC e1 z1 o1 => ?_
    have e0 : ab_v X (.ref (ab_NT + h.length)) = .ref H.size := by
      rw [ab_ad_own (by omega), hRel.1]
      congr 2
      omega
    have hkk := hk H1 ⟨by omega, by omega, ⟨Nat.le_trans hS.1 (by omega), fun x h1 h2 => (o1 x (Nat.lt_of_lt_of_le h1 hS.1)).trans (hS.2.1 x h1 h2), hS.2.2⟩, hRel.push ?_ z1 o1, hLR⟩
    · rw [List.map_cons, e0] at hkk
      exact hkk
    · refine ⟨_, hq, (u_born (ab_tyq (C, T, N)) hts hin hKn hkC (by rw [← hRel.1]; exact e1) hty).to (fun j hj => ?_)⟩
      show defaultValue (ab_tyq (C, T, N) j) = vp_V ((ab_dfl ci).map (ab_v X)) j
      rw [hdf]
      simp [vp_V, hj, ab_dv]
  · cases hw
theorem ab_newaI {n : Int32} (N : Nat) (hck : ab_ckM M code = true) (hf : ab_fetch code pc = some (.newarray .int, len, cv, ci, kf)) (hw : decide (Cond.arrayClass .int ∈ lw_tbl) = true) (hn : ¬ n < 0) (hN : n.toNatClampNeg = N) (hN2 : N ≤ 100000) (hb1 : 1 + bc2 ≤ bc ∧ N + bs2 ≤ bs) (k : ab_W X M d bc2 bs2 (pc + 2) lo (.ref (ab_NT + h.length) :: st) (h ++ [.inl (0, N, .inl (fun _ => 0))]) Q) : ab_W X M d bc bs pc lo (.int n :: st) h Q := by
  obtain ⟨hdc, hc⟩ := ab_ck_at hck hf
  obtain rfl : len = 2 := eq_of_beq (show (len == 2) = true from hc)
  intro p e R s m args below meth c H locs cells slots ls F V
  have hk := fun H V => k p e R s m args below meth c H locs (cells + 1) (slots + N) ls F V
  obtain ⟨hx, hb, hr, hml, hown, hts, hlk, hnm, hok, hfr, hlo⟩ := F
  obtain ⟨v1, v2, hS, hRel, hLR⟩ := V
  have w := hts _ (ab_in (of_decide_eq_true hw) rfl)
  refine va_newaK hx hb (atype := .int) w rfl hdc rfl hn hN (by show N * 4 ≤ 536870912; omega) (by omega) (by omega) rfl fun H1 cA e1 z1 o1 hAr hNm => ?_
  have hcA : cA = X.2.2.1 0 := by
    have h2 : s.vm.findClass ("[" ++ FieldType.int.toString) = some (X.2.2.1 0) := (hok.1.2 0 _ rfl).2
    exact Option.some.inj (hNm.symm.trans h2)
  subst hcA
  have e0 : ab_v X (.ref (ab_NT + h.length)) = .ref H.size := by
    rw [ab_ad_own (by omega), hRel.1]
    congr 2
    omega
  have hkk := hk H1 ⟨by omega, by omega, ⟨Nat.le_trans hS.1 (by omega), fun x h1 h2 => (o1 x (Nat.lt_of_lt_of_le h1 hS.1)).trans (hS.2.1 x h1 h2), hS.2.2⟩, hRel.push (by show H1[_]? = _; rw [← hRel.1]; exact e1) z1 o1, hLR⟩
  rw [List.map_cons, e0] at hkk
  exact hkk
theorem ab_newaL {n : Int32} (N : Nat) (hck : ab_ckM M code = true) (hf : ab_fetch code pc = some (.newarray .long, len, cv, ci, kf)) (hw : decide (Cond.arrayClass .long ∈ lw_tbl) = true) (hn : ¬ n < 0) (hN : n.toNatClampNeg = N) (hN2 : N ≤ 100000) (hb1 : 1 + bc2 ≤ bc ∧ N + bs2 ≤ bs) (k : ab_W X M d bc2 bs2 (pc + 2) lo (.ref (ab_NT + h.length) :: st) (h ++ [.inl (1, N, .inr (.inl (fun _ => 0)))]) Q) : ab_W X M d bc bs pc lo (.int n :: st) h Q := by
  obtain ⟨hdc, hc⟩ := ab_ck_at hck hf
  obtain rfl : len = 2 := eq_of_beq (show (len == 2) = true from hc)
  intro p e R s m args below meth c H locs cells slots ls F V
  have hk := fun H V => k p e R s m args below meth c H locs (cells + 1) (slots + N) ls F V
  obtain ⟨hx, hb, hr, hml, hown, hts, hlk, hnm, hok, hfr, hlo⟩ := F
  obtain ⟨v1, v2, hS, hRel, hLR⟩ := V
  have w := hts _ (ab_in (of_decide_eq_true hw) rfl)
  refine va_newaK hx hb (atype := .long) w rfl hdc rfl hn hN (by show N * 8 ≤ 536870912; omega) (by omega) (by omega) rfl fun H1 cA e1 z1 o1 hAr hNm => ?_
  have hcA : cA = X.2.2.1 1 := by
    have h2 : s.vm.findClass ("[" ++ FieldType.long.toString) = some (X.2.2.1 1) := (hok.1.2 1 _ rfl).2
    exact Option.some.inj (hNm.symm.trans h2)
  subst hcA
  have e0 : ab_v X (.ref (ab_NT + h.length)) = .ref H.size := by
    rw [ab_ad_own (by omega), hRel.1]
    congr 2
    omega
  have hkk := hk H1 ⟨by omega, by omega, ⟨Nat.le_trans hS.1 (by omega), fun x h1 h2 => (o1 x (Nat.lt_of_lt_of_le h1 hS.1)).trans (hS.2.1 x h1 h2), hS.2.2⟩, hRel.push (by show H1[_]? = _; rw [← hRel.1]; exact e1) z1 o1, hLR⟩
  rw [List.map_cons, e0] at hkk
  exact hkk
def ab_cko (own : String) (idx : Nat) : Bool := decide (Cond.methodLink own idx objectInit ∈ lw_tbl)
theorem ab_objW : Cond.instanceMethod objectInit ∈ lw_tbl ∧ Cond.code objectInit ⟨#[0xb1]⟩ 1 none ∈ lw_tbl := by decide +kernel
theorem ab_objInit {a : Nat} (hck : ab_ckM M code = true) (hf : ab_fetch code pc = some (.invokespecial idx, len, cv, ci, kf)) (hw : ab_cko M.1.cls idx = true) (hd : 1 ≤ d) (hrest : (st.map fun v => v.category).sum ≤ 8) (k : ab_W X M d bc bs (pc + 3) lo st h Q) : ab_W X M d bc bs pc lo (.ref a :: st) h Q := by
  obtain ⟨hdc, hc⟩ := ab_ck_at hck hf
  obtain rfl : len = 3 := eq_of_beq (show (len == 3) = true from hc)
  intro p e R s m args below meth c H locs cells slots ls F V
  have hkk := k p e R s m args below meth c H locs cells slots ls F V
  obtain ⟨hx, hb, hr, hml, hown, hts, hlk, hnm, hok, hfr, hlo⟩ := F
  obtain ⟨v1, v2, hS, hRel, hLR⟩ := V
  have hsz : ls.size = M.2.2.1 := by obtain ⟨-, lv, g, -⟩ := hLR; exact g.1
  have hroom : 2 * (F0 m pc ls ((Value.ref a :: st).map (ab_v X))).monitorRoom + ((st.map (ab_v X)).map fun v => v.category).sum ≤ 8 := lv_room (by rw [ab_cat_sum]; exact hrest)
  exact W.objInit hx hb hown (hts _ (ab_in (of_decide_eq_true hw) rfl)) (hts _ (ab_in ab_objW.1 rfl)) (hts _ (ab_in ab_objW.2 rfl)) rfl (hsz.trans hml.symm) rfl hdc (by omega) (by omega) hkk
end ABN
