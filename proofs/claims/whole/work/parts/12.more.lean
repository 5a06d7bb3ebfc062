/-! Switches and Math over the abstract state -/
section ABS
variable {X : ab_C} {M : ab_Mt} {code : ab_Cd} {d bc bs pc : Nat} {lo : ab_Lo} {st : List Value} {h : ab_H} {Q : Option Value → ab_H → Prop} {len ci kf idx : Nat} {cv : Value}
theorem ab_tswI {x v : Int32} {dflt a b off : Int} {offs : Array Int} {tgt : Nat} (hck : ab_ckM M code = true) (hf : ab_fetch code pc = some (.tableswitch dflt a b offs, len, cv, ci, kf)) (hv : x = v) (h1 : ¬ v.toInt < a) (h2 : ¬ b < v.toInt) (ho : offs[(v.toInt - a).toNat]? = some off) (ht : (pc : Int) + off = (tgt : Int)) (k : ab_W X M d bc bs tgt lo st h Q) : ab_W X M d bc bs pc lo (.int x :: st) h Q := by
  subst hv
  obtain ⟨hd, -⟩ := ab_ck_at hck hf
  intro p e R s m args below meth c H locs cells slots ls F V
  exact lv_tableIn F.1 F.2.1 hd h1 h2 ho ht (k p e R s m args below meth c H locs cells slots ls F V)
theorem ab_tswO {x : Int32} {dflt a b : Int} {offs : Array Int} {tgt : Nat} (hck : ab_ckM M code = true) (hf : ab_fetch code pc = some (.tableswitch dflt a b offs, len, cv, ci, kf)) (h1 : x.toInt < a ∨ b < x.toInt) (ht : (pc : Int) + dflt = (tgt : Int)) (k : ab_W X M d bc bs tgt lo st h Q) : ab_W X M d bc bs pc lo (.int x :: st) h Q := by
  obtain ⟨hd, -⟩ := ab_ck_at hck hf
  intro p e R s m args below meth c H locs cells slots ls F V
  exact lv_tableOut F.1 F.2.1 hd h1 ht (k p e R s m args below meth c H locs cells slots ls F V)
theorem ab_lsw {x : Int32} {dflt off : Int} {ps : Array (Int × Int)} {tgt : Nat} (hck : ab_ckM M code = true) (hf : ab_fetch code pc = some (.lookupswitch dflt ps, len, cv, ci, kf)) (hp : (ps.toList.zip (ps.toList.drop 1)).all (fun (a, next) => a.1 < next.1) = true) (ho : Op.lookupswitch.offset ps.toList dflt x.toInt = off) (ht : (pc : Int) + off = (tgt : Int)) (k : ab_W X M d bc bs tgt lo st h Q) : ab_W X M d bc bs pc lo (.int x :: st) h Q := by
  obtain ⟨hd, -⟩ := ab_ck_at hck hf
  intro p e R s m args below meth c H locs cells slots ls F V
  exact lv_lookup F.1 F.2.1 hd hp ho ht (k p e R s m args below meth c H locs cells slots ls F V)
theorem ab_mathW : Cond.static Lib.Math.max.name ∈ lw_tbl ∧ Cond.static Lib.Math.min.name ∈ lw_tbl ∧ Cond.static Lib.Math.abs.name ∈ lw_tbl ∧ Cond.initialized "java/lang/Math" ∈ lw_tbl := by decide +kernel
theorem ab_mathC : Cond.code Lib.Math.max.name Lib.Math.max.code 2 (some .int) ∈ lw_tbl ∧ Cond.code Lib.Math.min.name Lib.Math.min.code 2 (some .int) ∈ lw_tbl ∧ Cond.code Lib.Math.abs.name Lib.Math.abs.code 1 (some .int) ∈ lw_tbl := by decide +kernel
theorem ab_mmax {x y : Int32} (hck : ab_ckM M code = true) (hf : ab_fetch code pc = some (.invokestatic idx, len, cv, ci, kf)) (hw : ab_wd (ab_ti cv) (Cond.methodLink M.1.cls idx Lib.Math.max.name) = true) (hd1 : 1 ≤ d) (hrest : (st.map fun v => v.category).sum ≤ 8) (k : ab_W X M d bc bs (pc + 3) lo (.int (if x < y then y else x) :: st) h Q) : ab_W X M d bc bs pc lo (.int y :: .int x :: st) h Q := by
  obtain ⟨hdc, hc⟩ := ab_ck_at hck hf
  obtain rfl : len = 3 := eq_of_beq (show (len == 3) = true from hc)
  intro p e R s m args below meth c H locs cells slots ls F V
  have hkk := k p e R s m args below meth c H locs cells slots ls F V
  obtain ⟨hx, hb, hr, hml, hown, hts, hlk, hnm, hok, hfr, hlo⟩ := F
  obtain ⟨v1, v2, hS, hRel, hLR⟩ := V
  have hsz : ls.size = M.2.2.1 := by obtain ⟨-, lv, g, -⟩ := hLR; exact g.1
  have hcs := ab_cat_sum X st
  exact va_mmax hx hb (hml.trans hsz.symm) hown (hts _ (ab_in (ab_wd_in hw) rfl)) (hts _ (ab_in ab_mathW.1 rfl)) (hts _ (ab_in ab_mathW.2.2.2 rfl)) (hts _ (ab_in ab_mathC.1 rfl)) (by omega) (by omega) (by omega) (by omega) hdc hkk
theorem ab_mmin {x y : Int32} (hck : ab_ckM M code = true) (hf : ab_fetch code pc = some (.invokestatic idx, len, cv, ci, kf)) (hw : ab_wd (ab_ti cv) (Cond.methodLink M.1.cls idx Lib.Math.min.name) = true) (hd1 : 1 ≤ d) (hrest : (st.map fun v => v.category).sum ≤ 8) (k : ab_W X M d bc bs (pc + 3) lo (.int (if y < x then y else x) :: st) h Q) : ab_W X M d bc bs pc lo (.int y :: .int x :: st) h Q := by
  obtain ⟨hdc, hc⟩ := ab_ck_at hck hf
  obtain rfl : len = 3 := eq_of_beq (show (len == 3) = true from hc)
  intro p e R s m args below meth c H locs cells slots ls F V
  have hkk := k p e R s m args below meth c H locs cells slots ls F V
  obtain ⟨hx, hb, hr, hml, hown, hts, hlk, hnm, hok, hfr, hlo⟩ := F
  obtain ⟨v1, v2, hS, hRel, hLR⟩ := V
  have hsz : ls.size = M.2.2.1 := by obtain ⟨-, lv, g, -⟩ := hLR; exact g.1
  have hcs := ab_cat_sum X st
  exact va_mmin hx hb (hml.trans hsz.symm) hown (hts _ (ab_in (ab_wd_in hw) rfl)) (hts _ (ab_in ab_mathW.2.1 rfl)) (hts _ (ab_in ab_mathW.2.2.2 rfl)) (hts _ (ab_in ab_mathC.2.1 rfl)) (by omega) (by omega) (by omega) (by omega) hdc hkk
theorem ab_mabs {x : Int32} (hck : ab_ckM M code = true) (hf : ab_fetch code pc = some (.invokestatic idx, len, cv, ci, kf)) (hw : ab_wd (ab_ti cv) (Cond.methodLink M.1.cls idx Lib.Math.abs.name) = true) (hd1 : 1 ≤ d) (hrest : (st.map fun v => v.category).sum ≤ 8) (k : ab_W X M d bc bs (pc + 3) lo (.int (if 0 ≤ x then x else 0 - x) :: st) h Q) : ab_W X M d bc bs pc lo (.int x :: st) h Q := by
  obtain ⟨hdc, hc⟩ := ab_ck_at hck hf
  obtain rfl : len = 3 := eq_of_beq (show (len == 3) = true from hc)
  intro p e R s m args below meth c H locs cells slots ls F V
  have hkk := k p e R s m args below meth c H locs cells slots ls F V
  obtain ⟨hx, hb, hr, hml, hown, hts, hlk, hnm, hok, hfr, hlo⟩ := F
  obtain ⟨v1, v2, hS, hRel, hLR⟩ := V
  have hsz : ls.size = M.2.2.1 := by obtain ⟨-, lv, g, -⟩ := hLR; exact g.1
  have hcs := ab_cat_sum X st
  exact va_mabs hx hb (hml.trans hsz.symm) hown (hts _ (ab_in (ab_wd_in hw) rfl)) (hts _ (ab_in ab_mathW.2.2.1 rfl)) (hts _ (ab_in ab_mathW.2.2.2 rfl)) (hts _ (ab_in ab_mathC.2.2 rfl)) (by omega) (by omega) (by omega) (by omega) hdc hkk
end ABS
/-- locals of which less is said -/
def ab_le : ab_Lo → ab_Lo → Prop
  | [], [] => True
  | none :: a, _ :: b => ab_le a b
  | some x :: a, y :: b => y = some x ∧ ab_le a b
  | _, _ => False
theorem ab_le_ok : ∀ (a b : ab_Lo), ab_le a b → a.length = b.length ∧ ∀ (i : Nat) (v : Value), a[i]? = some (some v) → b[i]? = some (some v)
  | [], [], _ => ⟨rfl, fun i v h => h⟩
  | [], _ :: _, h => by simp [ab_le] at h
  | none :: a, [], h => by simp [ab_le] at h
  | some x :: a, [], h => by simp [ab_le] at h
  | none :: a, y :: b, h => by
    have ih := ab_le_ok a b h
    refine ⟨by simp [ih.1], fun i v hi => ?_⟩
    cases i with
    | zero => simp at hi
    | succ i => simp at hi ⊢; exact ih.2 i v hi
  | some x :: a, y :: b, h => by
    obtain ⟨rfl, h⟩ : y = some x ∧ ab_le a b := h
    have ih := ab_le_ok a b h
    refine ⟨by simp [ih.1], fun i v hi => ?_⟩
    cases i with
    | zero => exact hi
    | succ i => simp at hi ⊢; exact ih.2 i v hi
theorem ab_W.weak {X : ab_C} {M : ab_Mt} {d bc bs pc : Nat} {lo lo' : ab_Lo} {st : List Value} {h : ab_H} {Q : Option Value → ab_H → Prop} (k : ab_W X M d bc bs pc lo' st h Q) (hle : ab_le lo' lo) : ab_W X M d bc bs pc lo st h Q := by
  obtain ⟨h1, h2⟩ := ab_le_ok _ _ hle
  intro p e R s m args below meth c H locs cells slots ls F V
  refine k p e R s m args below meth c H locs cells slots ls F ?_
  obtain ⟨v1, v2, hS, hRel, hn, lv, g1, g2⟩ := V
  exact ⟨v1, v2, hS, hRel, h1.trans hn, lv, g1, fun i v hi => g2 i v (h2 i v hi)⟩
