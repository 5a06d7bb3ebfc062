/-! The trajectory: the stopping way, its greatest speed found by strides and by a table -/
def tw (b w : Nat) : Nat := if h : b < w ∧ 0 < b then w + tw b (w - b) else w
termination_by w
decreasing_by omega
theorem tw_le {b w : Nat} (h : w ≤ b) : tw b w = w := by
  rw [tw, dif_neg (by omega)]
theorem tw_gt {b w : Nat} (h : b < w) (hb : 0 < b) : tw b w = w + tw b (w - b) := by
  conv => lhs; rw [tw, dif_pos ⟨h, hb⟩]
theorem tri_s (t : Nat) : (t + 1 + 1) * (t + 1) / 2 = (t + 1) * t / 2 + (t + 1) := by
  have : (t + 1 + 1) * (t + 1) = (t + 1) * t + (t + 1) * 2 := by
    rw [← Nat.mul_add, Nat.mul_comm]
  rw [this, Nat.add_mul_div_right _ _ (by decide)]
theorem tw_cl {b : Nat} (hb : 0 < b) : ∀ t w, t * b < w → w ≤ (t + 1) * b → (t + 1) * w = tw b w + b * ((t + 1) * t / 2)
  | 0, w, h1, h2 => by
    rw [tw_le (by omega)]
    simp
  | t + 1, w, h1, h2 => by
    have e1 : (t + 1) * b = t * b + b := Nat.succ_mul t b
    have e2 : (t + 1 + 1) * b = (t + 1) * b + b := Nat.succ_mul (t + 1) b
    have ih := tw_cl hb t (w - b) (by omega) (by omega)
    rw [tw_gt (by omega) hb, tri_s, Nat.mul_add, Nat.succ_mul]
    rw [Nat.mul_sub] at ih
    have e3 : (t + 1) * b ≤ (t + 1) * w := Nat.mul_le_mul_left _ (by omega)
    have e4 : b * (t + 1) = (t + 1) * b := Nat.mul_comm _ _
    omega
theorem tw_t {b w : Nat} (hb : 0 < b) (hw : 0 < w) : ∃ t, (w + b - 1) / b = t + 1 ∧ t * b < w ∧ w ≤ (t + 1) * b := by
  have h1 := Nat.div_add_mod (w + b - 1) b
  have h2 := Nat.mod_lt (w + b - 1) hb
  have h3 : 1 ≤ (w + b - 1) / b := (Nat.le_div_iff_mul_le hb).mpr (by omega)
  obtain ⟨t, ht⟩ : ∃ t, (w + b - 1) / b = t + 1 := ⟨(w + b - 1) / b - 1, by omega⟩
  rw [ht] at h1
  refine ⟨t, ht, ?_, ?_⟩
  · have : b * (t + 1) = t * b + b := by rw [Nat.mul_comm, Nat.succ_mul]
    omega
  · have : b * (t + 1) = (t + 1) * b := Nat.mul_comm _ _
    omega
theorem tw_mono1 {b : Nat} (hb : 0 < b) : ∀ n w, w ≤ n → tw b w ≤ tw b (w + 1)
  | 0, w, h => by
    obtain rfl : w = 0 := by omega
    rw [tw_le (by omega)]
    omega
  | n + 1, w, h => by
    by_cases h1 : w + 1 ≤ b
    · rw [tw_le (by omega), tw_le h1]; omega
    · rw [tw_gt (w := w + 1) (by omega) hb]
      by_cases h2 : w ≤ b
      · rw [tw_le h2]; omega
      · rw [tw_gt (w := w) (by omega) hb]
        have := tw_mono1 hb n (w - b) (by omega)
        rw [show w + 1 - b = w - b + 1 by omega]
        omega
theorem tw_mono {b : Nat} (hb : 0 < b) {w w' : Nat} (h : w ≤ w') : tw b w ≤ tw b w' := by
  obtain ⟨d, rfl⟩ : ∃ d, w' = w + d := ⟨w' - w, by omega⟩
  clear h
  induction d with
  | zero => exact Nat.le_refl _
  | succ d ih => exact Nat.le_trans ih (tw_mono1 hb (w + d) (w + d) (Nat.le_refl _))
theorem tw_bd {b w : Nat} (hb : 0 < b) (hw : w ≤ 1000) : tw b w ≤ 1000000 := by
  by_cases h0 : w = 0
  · subst h0; rw [tw_le (by omega)]; omega
  · obtain ⟨t, _, h1, h2⟩ := tw_t hb (show 0 < w by omega)
    have h3 := tw_cl hb t w h1 h2
    have h4 : t ≤ t * b := Nat.le_mul_of_pos_right t hb
    have h5 : (t + 1) * w ≤ 1000 * 1000 := Nat.mul_le_mul (by omega) hw
    omega
theorem tw_stop {b w : Nat} (hb : 0 < b) (hb2 : b ≤ 1000) (hw : 0 < w) (hw2 : w ≤ 1000) : fV_stoppingWay (nI w) (nI b) = some (nI (tw b w)) := by
  obtain ⟨t, ht, h1, h2⟩ := tw_t hb hw
  have h3 := tw_cl hb t w h1 h2
  have h4 : t ≤ t * b := Nat.le_mul_of_pos_right t hb
  have h5 : (t + 1) * t ≤ 1000 * 1000 := Nat.mul_le_mul (by omega) (by omega)
  unfold fV_stoppingWay
  rw [if_neg (nI_ne0 hb (by omega)), nI_add, show (1 : Int32) = nI 1 from rfl, pk_sub (by omega), pk_div (by omega) hb (by omega), ht, pk_sub (by omega), Nat.add_sub_cancel, pk_mul, pk_mul, show (2 : Int32) = nI 2 from rfl, pk_div (by omega) (by omega) (by omega), pk_mul, pk_sub (by omega), h3, Nat.add_sub_cancel]
/-- the greatest that keeps both bounds -/
def gr (b mo d g : Nat) : Prop := g ≤ mo ∧ tw b g ≤ d ∧ ∀ w, w ≤ mo → tw b w ≤ d → w ≤ g
theorem gr_uq {b mo d g g' : Nat} (h : gr b mo d g) (h' : gr b mo d g') : g = g' := Nat.le_antisymm (h'.2.2 g h.1 h.2.1) (h.2.2 g' h'.1 h'.2.1)
def st2 : Nat → Nat
  | 0 => 0
  | j + 1 => 2 ^ j
theorem fast_loop (c : cs_S) {b mo d : Nat} (hb : 0 < b) (hb2 : b ≤ 1000) (hm : mo ≤ 1000) (hd : d < 2 ^ 31) : ∀ (j fo fu : Nat), j ≤ 10 → j < fu → fo + 2 ^ j ≤ 1024 → fo ≤ mo → tw b fo ≤ d → ∃ g, fV_fastestThatStops_30 fu c (nI mo) (nI d) (nI b) (nI fo) (nI (st2 j)) = some (nI g) ∧ g ≤ mo ∧ tw b g ≤ d ∧ ∀ w, w < fo + 2 ^ j → w ≤ mo → tw b w ≤ d → w ≤ g
  | 0, fo, fu, hj, hf, h10, h1, h2 => by
    obtain ⟨fu, rfl⟩ : ∃ z, fu = z + 1 := ⟨fu - 1, by omega⟩
    unfold fV_fastestThatStops_30
    rw [show nI (st2 0) = 0 from rfl, if_pos (by decide)]
    exact ⟨fo, rfl, h1, h2, fun w hw _ _ => by rw [Nat.pow_zero] at hw; omega⟩
  | j + 1, fo, fu, hj, hf, h10, h1, h2 => by
    obtain ⟨fu, rfl⟩ : ∃ z, fu = z + 1 := ⟨fu - 1, by omega⟩
    have hp : 2 ^ (j + 1) = 2 ^ j + 2 ^ j := by rw [Nat.pow_succ]; omega
    have hpos : 0 < 2 ^ j := Nat.two_pow_pos j
    have hst : st2 (j + 1) = 2 ^ j := rfl
    have hhalf : nI (2 ^ j) / 2 = nI (st2 j) := by
      rw [show (2 : Int32) = nI 2 from rfl, pk_div (by omega) (by omega) (by omega)]
      congr 1
      cases j with
      | zero => rfl
      | succ j => rw [Nat.pow_succ, Nat.mul_div_cancel _ (by decide)]; rfl
    unfold fV_fastestThatStops_30
    rw [hst, if_neg (nI_nle hpos (by omega)), nI_add, hhalf]
    by_cases hc : mo < fo + 2 ^ j
    · rw [if_pos (nI_lt hc (by omega))]
      obtain ⟨g, e1, e2, e3, e4⟩ := fast_loop c hb hb2 hm hd j fo fu (by omega) (by omega) (by omega) h1 h2
      exact ⟨g, e1, e2, e3, fun w hw hw2 hw3 => e4 w (by omega) hw2 hw3⟩
    · have htb := tw_bd (b := b) (w := fo + 2 ^ j) hb (by omega)
      rw [if_neg (nI_nlt (by omega) (by omega)), tw_stop hb hb2 (by omega) (by omega), ab_bd_s]
      by_cases hc2 : d < tw b (fo + 2 ^ j)
      · rw [if_pos (nI_lt hc2 (by omega))]
        obtain ⟨g, e1, e2, e3, e4⟩ := fast_loop c hb hb2 hm hd j fo fu (by omega) (by omega) (by omega) h1 h2
        refine ⟨g, e1, e2, e3, fun w hw hw2 hw3 => ?_⟩
        by_cases hlt : w < fo + 2 ^ j
        · exact e4 w hlt hw2 hw3
        · have := tw_mono hb (show fo + 2 ^ j ≤ w by omega)
          omega
      · rw [if_neg (nI_nlt (by omega) (by omega))]
        obtain ⟨g, e1, e2, e3, e4⟩ := fast_loop c hb hb2 hm hd j (fo + 2 ^ j) fu (by omega) (by omega) (by omega) (by omega) (by omega)
        exact ⟨g, e1, e2, e3, fun w hw hw2 hw3 => e4 w (by omega) hw2 hw3⟩
theorem fast_gr (c : cs_S) {ra qu mo d : Nat} (h27 : c.1 1 27 = nI ra) (h28 : c.1 1 28 = nI qu) (hra : 1 ≤ ra ∧ ra ≤ 1000) (hqu : 1 ≤ qu ∧ qu ≤ 1000) (hm : mo ≤ 1000) (hd : d < 2 ^ 31) : ∃ g, fV_fastestThatStops c (nI mo) (nI d) = some (nI g) ∧ gr (min ra qu) mo d g := by
  have hmin : i_max (1 : Int32) (i_min (c.1 1 27) (c.1 1 28)) = nI (min ra qu) := by
    rw [h27, h28, show (1 : Int32) = nI 1 from rfl]
    unfold i_min
    by_cases h : qu < ra
    · rw [if_pos (nI_lt h (by omega)), Nat.min_eq_right (by omega)]
      unfold i_max
      by_cases h1 : 1 < qu
      · rw [if_pos (nI_lt (a := 1) h1 (by omega))]
      · rw [if_neg (nI_nlt (b := qu) (a := 1) (by omega) (by omega)), show qu = 1 by omega]
    · rw [if_neg (nI_nlt (by omega) (by omega)), Nat.min_eq_left (by omega)]
      unfold i_max
      by_cases h1 : 1 < ra
      · rw [if_pos (nI_lt (a := 1) h1 (by omega))]
      · rw [if_neg (nI_nlt (b := ra) (a := 1) (by omega) (by omega)), show ra = 1 by omega]
  unfold fV_fastestThatStops
  rw [hmin]
  have hb : 0 < min ra qu := by omega
  obtain ⟨g, e1, e2, e3, e4⟩ := fast_loop c hb (show min ra qu ≤ 1000 by omega) hm hd 10 0 40 (by omega) (by omega) (by omega) (by omega) (by rw [tw_le (by omega)]; omega)
  exact ⟨g, e1, e2, e3, fun w h1 h2 => e4 w (by omega) h1 h2⟩
/-- nothing but the table of ways differs -/
def wy_fm (r r' : cs_S) : Prop := (∀ i, i ≠ 6 → r'.1 i = r.1 i) ∧ r'.2 = r.2
theorem wy_fm.rf (r : cs_S) : wy_fm r r := ⟨fun _ _ => rfl, rfl⟩
theorem wy_fm.u {r r' : cs_S} {k : Nat} {x : Int32} (h : wy_fm (cs_u r 6 k x) r') : wy_fm r r' := by
  refine ⟨fun i hi => (h.1 i hi).trans ?_, h.2⟩
  funext j
  rw [cs_u_1, if_neg hi]
theorem tow_loop {b ca far now ra : Nat} (y1 : Int32) (hb : 0 < b) (hb2 : b ≤ 1000) (hc : ca ≤ 1000) (hf : far < 2 ^ 31) (hn : now ≤ 1000) (hra : ra ≤ 1000) : ∀ (s w fu be : Nat) (r : cs_S), w + s = ca + 1 → s < fu → r.1 1 27 = nI ra → (∀ j, j < w → r.1 6 j = nI (tw b j)) → be ≤ ca → be ≤ now + ra → tw b be ≤ far → (∀ x, x < w → x ≤ now + ra → tw b x ≤ far → x ≤ be) → ∃ g r', fR_towards_143 fu r y1 (nI ca) (nI far) (nI now) (nI b) (nI be) (nI w) = some ((if r.1 0 7 ≤ y1 then fR_greater (nI g) (nI now - nI ra) else -(fR_greater (nI g) (nI now - nI ra))), r') ∧ wy_fm r r' ∧ gr b (min (now + ra) ca) far g
  | 0, w, fu, be, r, hw, hfu, h27, ht, h1, h2, h3, h4 => by
    obtain ⟨fu, rfl⟩ : ∃ z, fu = z + 1 := ⟨fu - 1, by omega⟩
    refine ⟨be, r, ?_, wy_fm.rf r, by omega, h3, fun x g1 g2 => h4 x (by omega) (by omega) g2⟩
    unfold fR_towards_143
    rw [if_pos (nI_lt (by omega) (by omega)), h27]
    split <;> rfl
  | s + 1, w, fu, be, r, hw, hfu, h27, ht, h1, h2, h3, h4 => by
    obtain ⟨fu, rfl⟩ : ∃ z, fu = z + 1 := ⟨fu - 1, by omega⟩
    have htb := tw_bd (b := b) (w := w) hb (by omega)
    have step : ∀ be', be' ≤ ca → be' ≤ now + ra → tw b be' ≤ far → (∀ x, x < w + 1 → x ≤ now + ra → tw b x ≤ far → x ≤ be') → ∃ g r', fR_towards_143 fu (cs_u r 6 w (nI (tw b w))) y1 (nI ca) (nI far) (nI now) (nI b) (nI be') (nI (w + 1)) = some ((if r.1 0 7 ≤ y1 then fR_greater (nI g) (nI now - nI ra) else -(fR_greater (nI g) (nI now - nI ra))), r') ∧ wy_fm r r' ∧ gr b (min (now + ra) ca) far g := by
      intro be' k1 k2 k3 k4
      obtain ⟨g, r', e1, e2, e3⟩ := tow_loop y1 hb hb2 hc hf hn hra s (w + 1) fu be' (cs_u r 6 w (nI (tw b w))) (by omega) (by omega) h27 (fun j hj => by
        rw [cs_u_1, if_pos rfl]
        by_cases hjw : j = w
        · rw [if_pos hjw, hjw]
        · rw [if_neg hjw, ht j (by omega)]) k1 k2 k3 k4
      exact ⟨g, r', e1, e2.u, e3⟩
    have fin : ∃ g r', (if nI now + nI ra < nI w then fR_towards_143 fu (cs_u r 6 w (nI (tw b w))) y1 (nI ca) (nI far) (nI now) (nI b) (nI be) (nI (w + 1)) else if nI far < (cs_u r 6 w (nI (tw b w))).1 6 w then fR_towards_143 fu (cs_u r 6 w (nI (tw b w))) y1 (nI ca) (nI far) (nI now) (nI b) (nI be) (nI (w + 1)) else fR_towards_143 fu (cs_u r 6 w (nI (tw b w))) y1 (nI ca) (nI far) (nI now) (nI b) (nI w) (nI (w + 1))) = some ((if r.1 0 7 ≤ y1 then fR_greater (nI g) (nI now - nI ra) else -(fR_greater (nI g) (nI now - nI ra))), r') ∧ wy_fm r r' ∧ gr b (min (now + ra) ca) far g := by
      rw [nI_add, show (cs_u r 6 w (nI (tw b w))).1 6 w = nI (tw b w) by rw [cs_u_1, if_pos rfl, if_pos rfl]]
      by_cases c1 : now + ra < w
      · rw [if_pos (nI_lt c1 (by omega))]
        exact step be h1 h2 h3 (fun x g1 g2 g3 => h4 x (by omega) g2 g3)
      · rw [if_neg (nI_nlt (by omega) (by omega))]
        by_cases c2 : far < tw b w
        · rw [if_pos (nI_lt c2 (by omega))]
          refine step be h1 h2 h3 (fun x g1 g2 g3 => ?_)
          by_cases hx : x = w
          · subst hx; omega
          · exact h4 x (by omega) g2 g3
        · rw [if_neg (nI_nlt (by omega) (by omega))]
          exact step w (by omega) (by omega) (by omega) (fun x g1 _ _ => by omega)
    unfold fR_towards_143
    rw [if_neg (nI_nlt (by omega) (by omega)), h27, nI_clamp (n := w) (by omega), nI_1]
    by_cases hwb : w ≤ b
    · rw [if_pos (nI_le hwb (by omega)), if_pos (inb_nI (by omega) (by omega))]
      rw [tw_le hwb] at fin
      exact fin
    · rw [if_neg (nI_ge (by omega) (by omega)), pk_sub (by omega), if_pos (inb_nI (by omega) (by omega)), if_pos (inb_nI (by omega) (by omega)), nI_clamp (n := w - b) (by omega), ht (w - b) (by omega), nI_add w (tw b (w - b)), ← tw_gt (w := w) (by omega) hb]
      exact fin
