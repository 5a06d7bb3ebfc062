/-! The store: loading, beginning, writing on; the invariants of values and banks -/
def wdL : List Nat := [0, 0, 0, 1, 2, 3, 4, 5, 6, 7, 8, 9, 10, 11, 12, 13, 0, 0, 14, 0, 15, 0, 0, 16, 17, 18, 19, 20, 21, 0]
def wd (k : Nat) : Nat := wdL.getD k 0
def wkL : List Nat := [1, 1, 1, 1, 2, 3, 4, 5, 6, 7, 8, 9, 10, 11, 12, 13, 14, 14, 14, 15, 15, 16, 16, 16, 17, 18, 19, 20, 21, 22, 22]
def wk (k : Nat) : Nat := wkL.getD k 0
def kp (j : Nat) : Nat := (keptF j).toNatClampNeg
theorem kp_in : ∀ j, j < 21 → keptF j = nI (kp j) ∧ kp j < 30 := by decide +kernel
theorem kp_wd : ∀ k, k < 30 → ∀ w, w < 22 → 1 ≤ w → (k = kp (w - 1) ↔ wd k = w) := by decide +kernel
theorem wd_kind : ∀ k, k < 30 → (mdKind k < 8 → wd k = 0 ∧ wk (k + 1) = wk k) ∧ (¬ mdKind k < 8 → wd k = wk k ∧ wk (k + 1) = wk k + 1 ∧ 1 ≤ wk k ∧ wk k ≤ 21 ∧ k ≠ 19) := by decide +kernel
theorem wd_le : ∀ k, k < 30 → wd k ≤ 21 := by decide +kernel
theorem wd_inj : ∀ k, k < 30 → ∀ j, j < 30 → wd k ≠ 0 → wd k = wd j → k = j := by decide +kernel
/-- nothing but row p differs -/
def fmr (p : Nat) (c c' : cs_S) : Prop := (∀ i, i ≠ p → c'.1 i = c.1 i) ∧ c'.2 = c.2
theorem fmr.rf (p : Nat) (c : cs_S) : fmr p c c := ⟨fun _ _ => rfl, rfl⟩
theorem fmr.u {p : Nat} {c c' : cs_S} {k : Nat} {x : Int32} (h : fmr p (cs_u c p k x) c') : fmr p c c' := by
  refine ⟨fun i hi => (h.1 i hi).trans ?_, h.2⟩
  funext j
  rw [cs_u_1, if_neg hi]
theorem cs_u_r (c : cs_S) (i k : Nat) (x : Int32) (q : Nat) : (cs_u c i k x).1 i q = if q = k then x else c.1 i q := by rw [cs_u_1, if_pos rfl]
theorem ld2 : ∀ (s k fu : Nat) (c : cs_S), k + s = 30 → s < fu → ∃ c', fmr 1 c c' ∧ (∀ j, c'.1 1 j = if k ≤ j ∧ j < 30 then mdStart j else c.1 1 j) ∧ fT_load_2 fu c (nI k) = fT_load_2 (fu - s) c' (nI 30)
  | 0, k, fu, c, hk, hf => by
    obtain rfl : k = 30 := by omega
    exact ⟨c, fmr.rf _ _, fun j => by rw [if_neg (by omega)], rfl⟩
  | s + 1, k, fu, c, hk, hf => by
    obtain ⟨fu, rfl⟩ : ∃ z, fu = z + 1 := ⟨fu - 1, by omega⟩
    obtain ⟨c', e1, e2, e3⟩ := ld2 s (k + 1) fu (cs_u c 1 k (mdStart k)) (by omega) (by omega)
    refine ⟨c', e1.u, fun j => ?_, ?_⟩
    · rw [e2, cs_u_r]
      by_cases h : j = k
      · subst h; rw [if_neg (by omega), if_pos rfl, if_pos (by omega)]
      · rw [if_neg h]
        by_cases h2 : k + 1 ≤ j ∧ j < 30
        · rw [if_pos h2, if_pos (by omega)]
        · rw [if_neg h2, if_neg (by omega)]
    · rw [show fu + 1 - (s + 1) = fu - s by omega, ← e3]
      conv => lhs; unfold fT_load_2
      rw [if_neg (nI_30 (by omega)), cC_start k (by omega), ab_bd_s, if_pos (inb_nI (by omega) (by decide)), nI_clamp (by omega), nI_1]
theorem ld60 {b : Nat} (hb : b = 0 ∨ b = 1) : ∀ (s w fu : Nat) (c : cs_S), w + s = 22 → 1 ≤ w → s < fu → ∃ c', fmr 1 c c' ∧ (∀ k, k < 30 → c'.1 1 k = if w ≤ wd k then c.1 (4 + b) (wd k) else c.1 1 k) ∧ fT_load_60 fu c (nI b) (nI w) = some c'
  | 0, w, fu, c, hk, h1, hf => by
    obtain ⟨fu, rfl⟩ : ∃ z, fu = z + 1 := ⟨fu - 1, by omega⟩
    obtain rfl : w = 22 := by omega
    refine ⟨c, fmr.rf _ _, fun k hk => by rw [if_neg (by have := wd_le k hk; omega)], ?_⟩
    unfold fT_load_60
    rw [if_pos (by decide)]
  | s + 1, w, fu, c, hk, h1, hf => by
    obtain ⟨fu, rfl⟩ : ∃ z, fu = z + 1 := ⟨fu - 1, by omega⟩
    have hkp := kp_in (w - 1) (by omega)
    obtain ⟨c', e1, e2, e3⟩ := ld60 hb s (w + 1) fu (cs_u c 1 (kp (w - 1)) (c.1 (4 + b) w)) (by omega) (by omega) (by omega)
    have hrow : ∀ q, (cs_u c 1 (kp (w - 1)) (c.1 (4 + b) w)).1 (4 + b) q = c.1 (4 + b) q := fun q => by rw [cs_u_1, if_neg (by omega)]
    refine ⟨c', e1.u, fun k hk => ?_, ?_⟩
    · rw [e2 k hk, hrow, cs_u_r]
      have hw := kp_wd k hk w (by omega) h1
      by_cases h : k = kp (w - 1)
      · rw [if_pos h]
        have := hw.mp h
        rw [if_neg (by omega), if_pos (by omega), this]
      · rw [if_neg h]
        have : wd k ≠ w := fun z => h (hw.mpr z)
        by_cases h2 : w + 1 ≤ wd k
        · rw [if_pos h2, if_pos (by omega)]
        · rw [if_neg h2, if_neg (by omega)]
    · rw [← e3]
      conv => lhs; unfold fT_load_60
      have hcl : fC_kept (nI w - 1) = some (nI (kp (w - 1))) := by
        unfold fC_kept
        rw [show (1 : Int32) = nI 1 from rfl, pk_sub h1, if_pos (inb_nI (by omega) (by decide)), nI_clamp (by omega), hkp.1]
      rw [if_neg (show ¬ (22 : Int32) ≤ nI w from nI_ge (b := 22) (by omega) (by decide)), hcl, ab_bd_s]
      rcases hb with rfl | rfl
      · rw [if_pos (by decide), if_pos (inb_nI (by omega) (by decide)), if_pos (inb_nI hkp.2 (by decide)), nI_clamp (by omega), nI_clamp (by omega), nI_1]
      · rw [if_neg (by decide), if_pos (by decide), if_pos (inb_nI (by omega) (by decide)), if_pos (inb_nI hkp.2 (by decide)), nI_clamp (by omega), nI_clamp (by omega), nI_1]
/-- the bank that is loaded: none if the greater serial is 0 -/
def lb (w : Nat → Int32) : Option Nat := if w 22 ≤ w 0 then (if w 0 = 0 then none else some 0) else (if w 22 = 0 then none else some 1)
def lv (w : Nat → Int32) (k : Nat) : Int32 := match lb w with
  | none => mdStart k
  | some b => if 1 ≤ wd k then w (22 * b + wd k) else mdStart k
/-- the banks are alike -/
def BK (c r : cs_S) : Prop := (∀ j, j < 22 → c.1 4 j = r.1 4 j) ∧ (∀ j, j < 22 → c.1 5 j = r.1 4 (22 + j))
theorem loadC {c r : cs_S} (hb : BK c r) : ∃ c', fmr 1 c c' ∧ (∀ k, k < 30 → c'.1 1 k = lv (r.1 4) k) ∧ fT_load c = some c' := by
  obtain ⟨b0, b1⟩ := hb
  obtain ⟨c1, e1, e2, e3⟩ := ld2 30 0 40 c (by omega) (by omega)
  have h4 : c1.1 4 = c.1 4 := e1.1 4 (by omega)
  have h5 : c1.1 5 = c.1 5 := e1.1 5 (by omega)
  have g0 : c.1 4 0 = r.1 4 0 := b0 0 (by omega)
  have g1 : c.1 5 0 = r.1 4 22 := b1 0 (by omega)
  have fin : ∀ (b : Nat), b = 0 ∨ b = 1 → lb (r.1 4) = some b → ∃ c', fmr 1 c c' ∧ (∀ k, k < 30 → c'.1 1 k = lv (r.1 4) k) ∧ fT_load_60 40 c1 (nI b) 1 = some c' := by
    intro b hb hl
    obtain ⟨c2, d1, d2, d3⟩ := ld60 hb 21 1 40 c1 (by omega) (by omega) (by omega)
    refine ⟨c2, ⟨fun i hi => (d1.1 i hi).trans (e1.1 i hi), d1.2.trans e1.2⟩, fun k hk => ?_, d3⟩
    have hwl := wd_le k hk
    rw [d2 k hk]
    unfold lv
    rw [hl]
    dsimp only
    by_cases hw : 1 ≤ wd k
    · rw [if_pos hw, if_pos hw]
      rcases hb with rfl | rfl
      · show c1.1 4 (wd k) = _
        rw [h4, b0 (wd k) (by omega), Nat.mul_zero, Nat.zero_add]
      · show c1.1 5 (wd k) = _
        rw [h5, b1 (wd k) (by omega)]
    · rw [if_neg hw, if_neg hw, e2, if_pos (by omega)]
  have fin0 : lb (r.1 4) = none → ∃ c', fmr 1 c c' ∧ (∀ k, k < 30 → c'.1 1 k = lv (r.1 4) k) ∧ some c1 = some c' := by
    intro hl
    refine ⟨c1, e1, fun k hk => ?_, rfl⟩
    unfold lv
    rw [hl, e2, if_pos (by omega)]
  unfold fT_load
  rw [show (0 : Int32) = nI 0 from rfl, e3, show 40 - 30 = 9 + 1 from rfl]
  unfold fT_load_2
  rw [if_pos (by decide), h4, h5, g0, g1]
  unfold lb at fin fin0
  by_cases h : r.1 4 22 ≤ r.1 4 0
  · rw [if_pos h]
    rw [if_pos h] at fin fin0
    by_cases hz : r.1 4 0 = 0
    · rw [if_pos hz]
      rw [if_pos hz] at fin0
      exact fin0 rfl
    · rw [if_neg hz]
      rw [if_neg hz] at fin
      exact fin 0 (Or.inl rfl) rfl
  · rw [if_neg h]
    rw [if_neg h] at fin fin0
    by_cases hz : r.1 4 22 = 0
    · rw [if_pos hz]
      rw [if_pos hz] at fin0
      exact fin0 rfl
    · rw [if_neg hz]
      rw [if_neg hz] at fin
      exact fin 1 (Or.inr rfl) rfl
/-! the reference's restart, to the end of its loop -/
def rvl (w : Nat → Int32) (o : Option Nat) (k : Nat) : Int32 := match o with
  | none => mdStart k
  | some b => if 1 ≤ wd k then w (22 * b + wd k) else mdStart k
theorem rs46 {o : Option Nat} (ho : ∀ b, o = some b → b ≤ 1) {y1 : Int32} (hy : y1 = io o) : ∀ (s k fu : Nat) (r : cs_S), k + s = 30 → s < fu → ∃ r', fmr 1 r r' ∧ (∀ j, j < 30 → r'.1 1 j = if k ≤ j ∧ j ≠ 19 then rvl (r.1 4) o j else r.1 1 j) ∧ fR_restart_46 fu r y1 (nI (wk k)) (nI k) = fR_restart_46 (fu - s) r' y1 (nI 22) (nI 30)
  | 0, k, fu, r, hk, hf => by
    obtain rfl : k = 30 := by omega
    exact ⟨r, fmr.rf _ _, fun j hj => by rw [if_neg (by omega)], rfl⟩
  | s + 1, k, fu, r, hk, hf => by
    obtain ⟨fu, rfl⟩ : ∃ z, fu = z + 1 := ⟨fu - 1, by omega⟩
    obtain ⟨g1, g2⟩ := wd_kind k (by omega)
    have hset : ∀ x, rvl (r.1 4) o k = x → k ≠ 19 → ∃ r', fmr 1 r r' ∧ (∀ j, j < 30 → r'.1 1 j = if k ≤ j ∧ j ≠ 19 then rvl (r.1 4) o j else r.1 1 j) ∧ fR_restart_46 fu (cs_u r 1 k x) y1 (nI (wk (k + 1))) (nI (k + 1)) = fR_restart_46 (fu + 1 - (s + 1)) r' y1 (nI 22) (nI 30) := by
      intro x hx h19
      obtain ⟨r', e1, e2, e3⟩ := rs46 ho hy s (k + 1) fu (cs_u r 1 k x) (by omega) (by omega)
      refine ⟨r', e1.u, fun j hj => ?_, by rw [e3, show fu + 1 - (s + 1) = fu - s by omega]⟩
      have h4 : (cs_u r 1 k x).1 4 = r.1 4 := rfl
      rw [e2 j hj, h4, cs_u_r]
      by_cases h : j = k
      · subst h
        rw [if_neg (by omega), if_pos rfl, if_pos ⟨by omega, h19⟩, hx]
      · rw [if_neg h]
        by_cases h2 : k + 1 ≤ j ∧ j ≠ 19
        · rw [if_pos h2, if_pos ⟨by omega, h2.2⟩]
        · rw [if_neg h2, if_neg (by omega)]
    have hskip : k = 19 → ∃ r', fmr 1 r r' ∧ (∀ j, j < 30 → r'.1 1 j = if k ≤ j ∧ j ≠ 19 then rvl (r.1 4) o j else r.1 1 j) ∧ fR_restart_46 fu r y1 (nI (wk (k + 1))) (nI (k + 1)) = fR_restart_46 (fu + 1 - (s + 1)) r' y1 (nI 22) (nI 30) := by
      intro h19
      obtain ⟨r', e1, e2, e3⟩ := rs46 ho hy s (k + 1) fu r (by omega) (by omega)
      refine ⟨r', e1, fun j hj => ?_, by rw [e3, show fu + 1 - (s + 1) = fu - s by omega]⟩
      rw [e2 j hj]
      by_cases h2 : k + 1 ≤ j ∧ j ≠ 19
      · rw [if_pos h2, if_pos ⟨by omega, h2.2⟩]
      · rw [if_neg h2, if_neg (by omega)]
    conv => enter [1, r', 2, 2, 1]; unfold fR_restart_46
    rw [if_neg (nI_30 (by omega)), if_pos (inb_nI (by omega) (by decide)), nI_clamp (n := k) (by omega), nI_1 k]
    by_cases hkd : mdKind k < 8
    · rw [if_pos hkd]
      obtain ⟨q1, q2⟩ := g1 hkd
      rw [q2] at hset hskip
      by_cases h19 : nI k = 19
      · rw [if_pos h19]
        exact hskip ((nI_eq (b := 19) (by omega) (by decide)).mp h19)
      · rw [if_neg h19]
        refine hset _ ?_ (fun z => h19 (by rw [z]; rfl))
        unfold rvl
        split
        · rfl
        · rw [if_neg (by omega)]
    · rw [if_neg hkd]
      obtain ⟨q1, q2, q3, q4, q5⟩ := g2 hkd
      rw [q2] at hset
      rw [if_neg (show ¬ nI k = 19 from fun z => q5 ((nI_eq (b := 19) (by omega) (by decide)).mp z)), nI_1]
      cases o with
      | none =>
        rw [hy, if_pos (by decide)]
        rw [hy] at hset
        exact hset _ rfl q5
      | some b =>
        have hb := ho b rfl
        rw [hy, show io (some b) = nI b from rfl, if_neg (nI_pos (by omega)), show (22 : Int32) = nI 22 from rfl, pk_mul, nI_add, if_pos (inb_nI (by omega) (by decide)), nI_clamp (n := 22 * b + wk k) (by omega)]
        rw [hy, show io (some b) = nI b from rfl] at hset
        refine hset _ ?_ q5
        unfold rvl
        dsimp only
        rw [if_pos (by omega), q1]
/-! begin -/
theorem bgS : ∀ (s w fu : Nat) (c : cs_S), w + s = 22 → 1 ≤ w → s < fu → ∃ c', fmr 6 c c' ∧ (∀ j, c'.1 6 j = if w ≤ j ∧ j < 22 then c.1 1 (kp (j - 1)) else c.1 6 j) ∧ fT_beginSave_2 fu c (nI w) = some (fT_begin c')
  | 0, w, fu, c, hk, h1, hf => by
    obtain ⟨fu, rfl⟩ : ∃ z, fu = z + 1 := ⟨fu - 1, by omega⟩
    obtain rfl : w = 22 := by omega
    refine ⟨c, fmr.rf _ _, fun j => by rw [if_neg (by omega)], ?_⟩
    unfold fT_beginSave_2
    rw [if_pos (by decide)]
  | s + 1, w, fu, c, hk, h1, hf => by
    obtain ⟨fu, rfl⟩ : ∃ z, fu = z + 1 := ⟨fu - 1, by omega⟩
    have hkp := kp_in (w - 1) (by omega)
    obtain ⟨c', e1, e2, e3⟩ := bgS s (w + 1) fu (cs_u c 6 w (c.1 1 (kp (w - 1)))) (by omega) (by omega) (by omega)
    have hrow : ∀ q, (cs_u c 6 w (c.1 1 (kp (w - 1)))).1 1 q = c.1 1 q := fun q => rfl
    refine ⟨c', e1.u, fun j => ?_, ?_⟩
    · rw [e2, hrow, cs_u_r]
      by_cases h : j = w
      · subst h; rw [if_neg (by omega), if_pos rfl, if_pos (by omega)]
      · rw [if_neg h]
        by_cases h2 : w + 1 ≤ j ∧ j < 22
        · rw [if_pos h2, if_pos (by omega)]
        · rw [if_neg h2, if_neg (by omega)]
    · rw [← e3]
      conv => lhs; unfold fT_beginSave_2
      have hcl : fC_kept (nI w - 1) = some (nI (kp (w - 1))) := by
        unfold fC_kept
        rw [show (1 : Int32) = nI 1 from rfl, pk_sub h1, if_pos (inb_nI (by omega) (by decide)), nI_clamp (by omega), hkp.1]
      rw [if_neg (show ¬ (22 : Int32) ≤ nI w from nI_ge (b := 22) (by omega) (by decide)), hcl, ab_bd_s, if_pos (inb_nI hkp.2 (by decide)), if_pos (inb_nI (by omega) (by decide)), nI_clamp (by omega), nI_clamp (by omega), nI_1]
theorem bgR : ∀ (s w fu : Nat) (c : cs_S), w + s = 22 → 1 ≤ w → s < fu → ∃ c', fmr 6 c c' ∧ (∀ j, c'.1 6 j = if w ≤ j ∧ j < 22 then mdStart (kp (j - 1)) else c.1 6 j) ∧ fT_beginRestore_2 fu c (nI w) = some (fT_begin c')
  | 0, w, fu, c, hk, h1, hf => by
    obtain ⟨fu, rfl⟩ : ∃ z, fu = z + 1 := ⟨fu - 1, by omega⟩
    obtain rfl : w = 22 := by omega
    refine ⟨c, fmr.rf _ _, fun j => by rw [if_neg (by omega)], ?_⟩
    unfold fT_beginRestore_2
    rw [if_pos (by decide)]
  | s + 1, w, fu, c, hk, h1, hf => by
    obtain ⟨fu, rfl⟩ : ∃ z, fu = z + 1 := ⟨fu - 1, by omega⟩
    have hkp := kp_in (w - 1) (by omega)
    obtain ⟨c', e1, e2, e3⟩ := bgR s (w + 1) fu (cs_u c 6 w (mdStart (kp (w - 1)))) (by omega) (by omega) (by omega)
    refine ⟨c', e1.u, fun j => ?_, ?_⟩
    · rw [e2, cs_u_r]
      by_cases h : j = w
      · subst h; rw [if_neg (by omega), if_pos rfl, if_pos (by omega)]
      · rw [if_neg h]
        by_cases h2 : w + 1 ≤ j ∧ j < 22
        · rw [if_pos h2, if_pos (by omega)]
        · rw [if_neg h2, if_neg (by omega)]
    · rw [← e3]
      conv => lhs; unfold fT_beginRestore_2
      have hcl : fC_kept (nI w - 1) = some (nI (kp (w - 1))) := by
        unfold fC_kept
        rw [show (1 : Int32) = nI 1 from rfl, pk_sub h1, if_pos (inb_nI (by omega) (by decide)), nI_clamp (by omega), hkp.1]
      rw [if_neg (show ¬ (22 : Int32) ≤ nI w from nI_ge (b := 22) (by omega) (by decide)), hcl, ab_bd_s, cC_start _ hkp.2, ab_bd_s, if_pos (inb_nI (by omega) (by decide)), nI_clamp (by omega), nI_1]
theorem bg35 (y1 : Int32) : ∀ (s k fu : Nat) (r : cs_S), k + s = 30 → s < fu → ∃ r', fmr 5 r r' ∧ (∀ j, 1 ≤ j → j < 22 → r'.1 5 j = if wk k ≤ j then (if y1 = 0 then mdStart (kp (j - 1)) else r.1 1 (kp (j - 1))) else r.1 5 j) ∧ fR_begin_35 fu r y1 (nI (wk k)) (nI k) = some r'
  | 0, k, fu, r, hk, hf => by
    obtain ⟨fu, rfl⟩ : ∃ z, fu = z + 1 := ⟨fu - 1, by omega⟩
    obtain rfl : k = 30 := by omega
    refine ⟨r, fmr.rf _ _, fun j h1 h2 => by rw [if_neg (show ¬ wk 30 ≤ j by show ¬ 22 ≤ j; omega)], ?_⟩
    unfold fR_begin_35
    rw [if_pos (by decide)]
  | s + 1, k, fu, r, hk, hf => by
    obtain ⟨fu, rfl⟩ : ∃ z, fu = z + 1 := ⟨fu - 1, by omega⟩
    obtain ⟨g1, g2⟩ := wd_kind k (by omega)
    conv => enter [1, r', 2, 2, 1]; unfold fR_begin_35
    rw [if_neg (nI_30 (by omega)), if_pos (inb_nI (by omega) (by decide)), nI_clamp (n := k) (by omega), nI_1 k]
    by_cases hkd : mdKind k < 8
    · rw [if_pos hkd]
      obtain ⟨q1, q2⟩ := g1 hkd
      obtain ⟨r', e1, e2, e3⟩ := bg35 y1 s (k + 1) fu r (by omega) (by omega)
      rw [q2] at e2 e3
      exact ⟨r', e1, e2, e3⟩
    · rw [if_neg hkd]
      obtain ⟨q1, q2, q3, q4, q5⟩ := g2 hkd
      have hkk : k = kp (wk k - 1) := (kp_wd k (by omega) (wk k) (by omega) q3).mpr q1
      have fin : ∀ x, x = (if y1 = 0 then mdStart k else r.1 1 k) → ∃ r', fmr 5 r r' ∧ (∀ j, 1 ≤ j → j < 22 → r'.1 5 j = if wk k ≤ j then (if y1 = 0 then mdStart (kp (j - 1)) else r.1 1 (kp (j - 1))) else r.1 5 j) ∧ fR_begin_35 fu (cs_u r 5 (wk k) x) y1 (nI (wk k + 1)) (nI (k + 1)) = some r' := by
        intro x hx
        obtain ⟨r', e1, e2, e3⟩ := bg35 y1 s (k + 1) fu (cs_u r 5 (wk k) x) (by omega) (by omega)
        rw [q2] at e2 e3
        refine ⟨r', e1.u, fun j h1 h2 => ?_, e3⟩
        have hr1 : (cs_u r 5 (wk k) x).1 1 = r.1 1 := rfl
        rw [e2 j h1 h2, hr1, cs_u_r]
        by_cases h : j = wk k
        · rw [if_neg (by omega), if_pos h, if_pos (by omega), hx, h, ← hkk]
        · rw [if_neg h]
          by_cases h3 : wk k + 1 ≤ j
          · rw [if_pos h3, if_pos (show wk k ≤ j by omega)]
          · rw [if_neg h3, if_neg (show ¬ wk k ≤ j by omega)]
      rw [if_pos (inb_nI (by omega) (by decide)), nI_clamp (n := wk k) (by omega), nI_1 (wk k)]
      by_cases hy : y1 = 0
      · rw [if_pos hy]
        exact fin _ (by rw [if_pos hy])
      · rw [if_neg hy, if_pos (inb_nI (by omega) (by decide))]
        exact fin _ (by rw [if_neg hy])
