/-! The relation between the two, and what the store does to it -/
def KVs (v : Nat → Int32) : Prop := MP 5 v ∧ MP 12 v ∧ rg (v 18) 0 255 ∧ rg (v 20) 0 100000 ∧ rg (v 23) (-100000) 100000 ∧ rg (v 24) (-100000) 100000 ∧ rg (v 25) 1 1000 ∧ rg (v 26) 1 1000 ∧ rg (v 27) 1 1000 ∧ rg (v 28) 1 1000
def IV (v : Nat → Int32) : Prop := KVs v ∧ rg (v 16) 0 65535 ∧ rg (v 21) (-1000) 1000 ∧ rg (v 22) (-100000) 100000 ∧ rg (v 29) (-1000) 1000
theorem KVs_cg {v w : Nat → Int32} (h : KVs v) (e : ∀ k, k < 30 → wd k ≠ 0 → v k = w k) : KVs w := by
  obtain ⟨h1, h2, h3, h4, h5, h6, h7, h8, h9, h10⟩ := h
  refine ⟨MP_cg h1 (fun j hj => ?_), MP_cg h2 (fun j hj => ?_), ?_, ?_, ?_, ?_, ?_, ?_, ?_, ?_⟩
  · have : wd (5 + j) ≠ 0 := by
      have : ∀ j, j < 4 → wd (5 + j) ≠ 0 := by decide
      exact this j (by omega)
    exact e _ (by omega) this
  · have : wd (12 + j) ≠ 0 := by
      have : ∀ j, j < 4 → wd (12 + j) ≠ 0 := by decide
      exact this j (by omega)
    exact e _ (by omega) this
  · rw [← e 18 (by decide) (by decide)]; exact h3
  · rw [← e 20 (by decide) (by decide)]; exact h4
  · rw [← e 23 (by decide) (by decide)]; exact h5
  · rw [← e 24 (by decide) (by decide)]; exact h6
  · rw [← e 25 (by decide) (by decide)]; exact h7
  · rw [← e 26 (by decide) (by decide)]; exact h8
  · rw [← e 27 (by decide) (by decide)]; exact h9
  · rw [← e 28 (by decide) (by decide)]; exact h10
theorem KVs_start : KVs mdStart := by
  refine ⟨⟨1, by decide, by decide, by decide +kernel⟩, ⟨1, by decide, by decide, by decide +kernel⟩, ?_, ?_, ?_, ?_, ?_, ?_, ?_, ?_⟩ <;> exact ⟨by decide, by decide⟩
theorem IV_start : IV mdStart := ⟨KVs_start, ⟨by decide, by decide⟩, ⟨by decide, by decide⟩, ⟨by decide, by decide⟩, ⟨by decide, by decide⟩⟩
def KV (f : Nat → Int32) : Prop := KVs (fun k => f (wd k))
theorem KV_cg {f g : Nat → Int32} (h : KV f) (e : ∀ j, 1 ≤ j → j < 22 → f j = g j) : KV g := KVs_cg h (fun k hk hw => e _ (by omega) (by have := wd_le k hk; omega))
def SI (t : Nat) (w : Nat → Int32) : Prop := rg (w 0) 0 t ∧ rg (w 22) 0 t ∧ (w 0 = w 22 → w 0 = 0) ∧ (w 0 ≠ 0 → KV w) ∧ (w 22 ≠ 0 → KV (fun j => w (22 + j)))
def BZ (c r : cs_S) : Prop := (c.1 0 7 = -1 ∧ r.1 0 2 = 0) ∨ (∃ w b, w ≤ 22 ∧ b ≤ 1 ∧ c.1 0 7 = nI w ∧ r.1 0 2 = nI (23 - w) ∧ c.1 0 6 = nI b ∧ r.1 0 3 = nI b ∧ (r.1 4 (22 * b)).toInt ≤ (r.1 4 (22 - 22 * b)).toInt ∧ (1 ≤ w → r.1 4 (22 * b) = 0) ∧ (∀ j, 1 ≤ j → j < w → r.1 4 (22 * b + j) = r.1 5 j) ∧ (∀ j, 1 ≤ j → j < 22 → c.1 6 j = r.1 5 j) ∧ KV (r.1 5))
def ST (t : Nat) (c r : cs_S) : Prop := BK c r ∧ SI t (r.1 4) ∧ BZ c r
theorem rg_w {x : Int32} {a b a' b' : Int} (h : rg x a b) (h1 : a' ≤ a) (h2 : b ≤ b') : rg x a' b' := ⟨Int.le_trans h1 h.1, Int.le_trans h.2 h2⟩
theorem SI_w {t : Nat} {w : Nat → Int32} (h : SI t w) : SI (t + 1) w := ⟨rg_w h.1 (by omega) (by omega), rg_w h.2.1 (by omega) (by omega), h.2.2⟩
theorem ST_w {t : Nat} {c r : cs_S} (h : ST t c r) : ST (t + 1) c r := ⟨h.1, SI_w h.2.1, h.2.2⟩
theorem BK_u {c r : cs_S} (h : BK c r) {b p : Nat} (hb : b ≤ 1) (hp : p < 22) (x y z : Int32) : BK (cs_u (cs_u c (4 + b) p x) 0 7 y) (cs_u (cs_u r 0 2 z) 4 (22 * b + p) x) := by
  obtain ⟨h1, h2⟩ := h
  rcases Nat.le_one_iff_eq_zero_or_eq_one.mp hb with rfl | rfl
  · refine ⟨fun j hj => ?_, fun j hj => ?_⟩
    · show (cs_u c 4 p x).1 4 j = (cs_u r 4 (22 * 0 + p) x).1 4 j
      rw [cs_u_r, cs_u_r, h1 j hj]
      by_cases e : j = p
      · rw [if_pos e, if_pos (by omega)]
      · rw [if_neg e, if_neg (by omega)]
    · show c.1 5 j = (cs_u r 4 (22 * 0 + p) x).1 4 (22 + j)
      rw [cs_u_r, if_neg (by omega), h2 j hj]
  · refine ⟨fun j hj => ?_, fun j hj => ?_⟩
    · show c.1 4 j = (cs_u r 4 (22 * 1 + p) x).1 4 j
      rw [cs_u_r, if_neg (by omega), h1 j hj]
    · show (cs_u c 5 p x).1 5 j = (cs_u r 4 (22 * 1 + p) x).1 4 (22 + j)
      rw [cs_u_r, cs_u_r, h2 j hj]
      by_cases e : j = p
      · rw [if_pos e, if_pos (by omega)]
      · rw [if_neg e, if_neg (by omega)]
/-- what the store's step leaves as it was -/
def sf (c c' r r' : cs_S) : Prop := ((∀ k, k ≠ 6 → k ≠ 7 → c'.1 0 k = c.1 0 k) ∧ c'.1 1 = c.1 1 ∧ c'.1 2 = c.1 2 ∧ c'.1 3 = c.1 3 ∧ c'.2 = c.2) ∧ ((∀ k, k ≠ 2 → k ≠ 3 → r'.1 0 k = r.1 0 k) ∧ r'.1 1 = r.1 1 ∧ r'.1 2 = r.1 2 ∧ r'.1 3 = r.1 3 ∧ r'.2 = r.2)
theorem sf.rf (c r : cs_S) : sf c c r r := ⟨⟨fun _ _ _ => rfl, rfl, rfl, rfl, rfl⟩, ⟨fun _ _ _ => rfl, rfl, rfl, rfl, rfl⟩⟩
theorem sf_u (c r : cs_S) {b p : Nat} (hb : b ≤ 1) (x y z : Int32) : sf c (cs_u (cs_u c (4 + b) p x) 0 7 y) r (cs_u (cs_u r 0 2 z) 4 (22 * b + p) x) := by
  have e : ∀ i, i ≠ 4 → i ≠ 5 → (cs_u c (4 + b) p x).1 i = c.1 i := fun i h1 h2 => by
    funext q
    rw [cs_u_1, if_neg (by omega)]
  refine ⟨⟨fun k h1 h2 => ?_, e 1 (by decide) (by decide), e 2 (by decide) (by decide), e 3 (by decide) (by decide), rfl⟩, ⟨fun k h1 h2 => ?_, rfl, rfl, rfl, rfl⟩⟩
  · rw [cs_u_r, if_neg h2, e 0 (by decide) (by decide)]
  · show (cs_u r 0 2 z).1 0 k = _
    rw [cs_u_r, if_neg h1]
theorem SI_at {t : Nat} {r : cs_S} {b p : Nat} {z x : Int32} : (cs_u (cs_u r 0 2 z) 4 (22 * b + p) x).1 4 = fun q => if q = 22 * b + p then x else r.1 4 q := by
  funext q
  rw [cs_u_r]
  rfl
theorem ST_go {t : Nat} {c r : cs_S} (ht : t ≤ 1000000) (h : ST t c r) : ∃ c' r', fT_goOn c = some c' ∧ fR_writeWord r = some r' ∧ ST (t + 1) c' r' ∧ sf c c' r r' := by
  obtain ⟨hk, hs, hz⟩ := h
  rcases hz with ⟨z1, z2⟩ | ⟨w, b, hw, hb, z1, z2, z3, z4, z5, z6, z7, z8, z9⟩
  · refine ⟨c, r, ?_, ?_, ST_w ⟨hk, hs, Or.inl ⟨z1, z2⟩⟩, sf.rf c r⟩
    · unfold fT_goOn
      rw [if_pos z1]
    · unfold fR_writeWord
      rw [if_pos z2]
  · obtain ⟨s1, s2, s3, s4, s5⟩ := hs
    have n1 : ¬ nI w = -1 := nI_m1 (by omega)
    have nz : ¬ nI (23 - w) = 0 := nI_ne0 (by omega) (by omega)
    have h23 : (23 : Int32) - nI (23 - w) = nI w := by
      rw [show (23 : Int32) = nI 23 from rfl, pk_sub (by omega)]
      congr 1
      omega
    have h22 : (22 : Int32) * nI b = nI (22 * b) := by rw [show (22 : Int32) = nI 22 from rfl, pk_mul]
    have h22' : (22 : Int32) - nI (22 * b) = nI (22 - 22 * b) := by rw [show (22 : Int32) = nI 22 from rfl, pk_sub (by omega)]
    have hp1 : nI (23 - w) - 1 = nI (22 - w) := by
      rw [show (1 : Int32) = nI 1 from rfl, pk_sub (by omega)]
      congr 1
      omega
    by_cases w22 : w = 22
    · subst w22
      have ho : c.1 (4 + (1 - b)) 0 = r.1 4 (22 - 22 * b) := by
        rcases Nat.le_one_iff_eq_zero_or_eq_one.mp hb with rfl | rfl
        · exact hk.2 0 (by omega)
        · exact hk.1 0 (by omega)
      have g1 : fT_goOn c = some (cs_u (cs_u c (4 + b) 0 (r.1 4 (22 - 22 * b) + 1)) 0 7 (-1)) := by
        rw [← ho]
        unfold fT_goOn
        rw [z1, if_neg n1, if_pos (by decide), z3]
        rcases Nat.le_one_iff_eq_zero_or_eq_one.mp hb with rfl | rfl
        · rw [if_pos (by decide), if_neg (by decide), if_pos (by decide)]
        · rw [if_neg (by decide), if_pos (by decide), if_pos (by decide)]
      have g2 : fR_writeWord r = some (cs_u (cs_u r 0 2 (nI (22 - 22))) 4 (22 * b + 0) (r.1 4 (22 - 22 * b) + 1)) := by
        unfold fR_writeWord
        rw [z2, if_neg nz, h23, if_neg (by decide), if_pos (by decide), z4, h22, h22', if_pos (inb_nI (by omega) (by decide)), if_pos (inb_nI (by omega) (by decide)), nI_clamp (by omega), nI_clamp (by omega), hp1]
        rfl
      refine ⟨_, _, g1, g2, ⟨BK_u hk hb (by omega) _ _ _, ?_, Or.inl ⟨rfl, rfl⟩⟩, sf_u c r hb _ _ _⟩
      rw [SI_at (t := t)]
      have kvb : KV (fun j => r.1 4 (22 * b + j)) := KV_cg z9 (fun j h1 h2 => (z7 j h1 h2).symm)
      rcases Nat.le_one_iff_eq_zero_or_eq_one.mp hb with rfl | rfl
      · have ha : (r.1 4 22 + 1).toInt = (r.1 4 22).toInt + 1 := ia_add (by have := s2.1; have := s2.2; rw [show (1 : Int32).toInt = 1 by decide]; omega) (by have := s2.1; have := s2.2; rw [show (1 : Int32).toInt = 1 by decide]; omega)
        have s21 := s2.1
        have s22 := s2.2
        refine ⟨?_, ?_, ?_, fun _ => ?_, fun hh => ?_⟩
        · show rg (r.1 4 22 + 1) 0 _
          exact ⟨by omega, by omega⟩
        · show rg (r.1 4 22) 0 _
          exact ⟨by omega, by omega⟩
        · show r.1 4 22 + 1 = r.1 4 22 → _
          intro e
          rw [e] at ha
          omega
        · refine KV_cg kvb (fun j h1 h2 => ?_)
          rw [if_neg (by omega), Nat.mul_zero, Nat.zero_add]
        · refine KV_cg (s5 hh) (fun j h1 h2 => ?_)
          try dsimp only
          rw [if_neg (by omega)]
      · have ha : (r.1 4 0 + 1).toInt = (r.1 4 0).toInt + 1 := ia_add (by have := s1.1; have := s1.2; rw [show (1 : Int32).toInt = 1 by decide]; omega) (by have := s1.1; have := s1.2; rw [show (1 : Int32).toInt = 1 by decide]; omega)
        have s21 := s1.1
        have s22 := s1.2
        refine ⟨?_, ?_, ?_, fun hh => ?_, fun _ => ?_⟩
        · show rg (r.1 4 0) 0 _
          exact ⟨by omega, by omega⟩
        · show rg (r.1 4 0 + 1) 0 _
          exact ⟨by omega, by omega⟩
        · show r.1 4 0 = r.1 4 0 + 1 → _
          intro e
          rw [← e] at ha
          omega
        · refine KV_cg (s4 hh) (fun j h1 h2 => ?_)
          try dsimp only
          rw [if_neg (by omega)]
        · refine KV_cg kvb (fun j h1 h2 => ?_)
          try dsimp only
          rw [if_neg (by omega)]
    · have n22 : ¬ nI w = 22 := fun e => w22 ((nI_eq (b := 22) (by omega) (by decide)).mp e)
      obtain ⟨x, hx0, hxw⟩ : ∃ x : Int32, (w = 0 → x = 0) ∧ (w ≠ 0 → x = r.1 5 w) := by
        by_cases e : w = 0
        · exact ⟨0, fun _ => rfl, fun n => absurd e n⟩
        · exact ⟨r.1 5 w, fun n => absurd n e, fun _ => rfl⟩
      have g1 : fT_goOn c = some (cs_u (cs_u c (4 + b) w x) 0 7 (nI (w + 1))) := by
        unfold fT_goOn
        rw [z1, if_neg n1, if_neg n22, z3, nI_clamp (by omega), nI_1]
        by_cases e : w = 0
        · subst e
          rw [hx0 rfl]
          rcases Nat.le_one_iff_eq_zero_or_eq_one.mp hb with rfl | rfl
          · rw [if_pos (by decide), if_pos (by decide), if_pos (by decide)]
          · rw [if_neg (by decide), if_pos (by decide), if_pos (by decide), if_pos (by decide)]
        · rw [hxw e, ← z8 w (by omega) (by omega)]
          have nw0 : ¬ nI w = 0 := nI_ne0 (by omega) (by omega)
          rcases Nat.le_one_iff_eq_zero_or_eq_one.mp hb with rfl | rfl
          · rw [if_pos (show nI 0 = (0 : Int32) by decide), if_neg nw0, if_pos (inb_nI (by omega) (by decide))]
          · rw [if_neg (show ¬ nI 1 = (0 : Int32) by decide), if_pos (show nI 1 = (1 : Int32) by decide), if_neg nw0, if_pos (inb_nI (by omega) (by decide))]
      have g2 : fR_writeWord r = some (cs_u (cs_u r 0 2 (nI (22 - w))) 4 (22 * b + w) x) := by
        unfold fR_writeWord
        rw [z2, if_neg nz, h23, z4, h22, hp1]
        by_cases e : w = 0
        · subst e
          rw [hx0 rfl, if_pos (by decide), if_pos (inb_nI (by omega) (by decide)), nI_clamp (by omega)]
          rfl
        · rw [hxw e, if_neg (nI_ne0 (by omega) (by omega)), if_neg n22, if_pos (inb_nI (by omega) (by decide)), nI_add, if_pos (inb_nI (by omega) (by decide)), nI_clamp (by omega), nI_clamp (by omega)]
      refine ⟨_, _, g1, g2, ⟨BK_u hk hb (by omega) _ _ _, ?_, Or.inr ⟨w + 1, b, by omega, hb, rfl, ?_, by rw [cs_u_r, if_neg (by decide), cs_u_1, if_neg (by omega)]; exact z3, z4, ?_, ?_, ?_, ?_, z9⟩⟩, sf_u c r hb _ _ _⟩
      · rw [SI_at (t := t)]
        by_cases e : w = 0
        · subst e
          rw [hx0 rfl]
          rcases Nat.le_one_iff_eq_zero_or_eq_one.mp hb with rfl | rfl
          · refine ⟨⟨by show (0 : Int) ≤ (0 : Int32).toInt; decide, by show (0 : Int32).toInt ≤ _; rw [i0]; omega⟩, rg_w s2 (by omega) (by omega), fun _ => rfl, fun hh => absurd rfl hh, fun hh => ?_⟩
            refine KV_cg (s5 hh) (fun j h1 h2 => ?_)
            try dsimp only
            rw [if_neg (by omega)]
          · refine ⟨rg_w s1 (by omega) (by omega), ⟨by show (0 : Int) ≤ (0 : Int32).toInt; decide, by show (0 : Int32).toInt ≤ _; rw [i0]; omega⟩, fun hh => hh, fun hh => ?_, fun hh => absurd rfl hh⟩
            refine KV_cg (s4 hh) (fun j h1 h2 => ?_)
            try dsimp only
            rw [if_neg (by omega)]
        · have zb := z6 (by omega)
          rcases Nat.le_one_iff_eq_zero_or_eq_one.mp hb with rfl | rfl
          · unfold SI
            dsimp only
            rw [if_neg (show ¬ 0 = 22 * 0 + w by omega), if_neg (show ¬ 22 = 22 * 0 + w by omega)]
            refine ⟨rg_w s1 (by omega) (by omega), rg_w s2 (by omega) (by omega), s3, fun hh => absurd zb hh, fun hh => ?_⟩
            refine KV_cg (s5 hh) (fun j h1 h2 => ?_)
            try dsimp only
            rw [if_neg (by omega)]
          · unfold SI
            dsimp only
            rw [if_neg (show ¬ 0 = 22 * 1 + w by omega), if_neg (show ¬ 22 = 22 * 1 + w by omega)]
            refine ⟨rg_w s1 (by omega) (by omega), rg_w s2 (by omega) (by omega), s3, fun hh => ?_, fun hh => absurd zb hh⟩
            refine KV_cg (s4 hh) (fun j h1 h2 => ?_)
            try dsimp only
            rw [if_neg (by omega)]
      · show (cs_u r 0 2 (nI (22 - w))).1 0 2 = _
        rw [cs_u_r, if_pos rfl, show 23 - (w + 1) = 22 - w by omega]
      · rw [SI_at (t := t)]
        dsimp only
        rw [if_neg (show ¬ 22 - 22 * b = 22 * b + w by omega)]
        by_cases e : w = 0
        · rw [if_pos (by omega), hx0 e, i0]
          rcases Nat.le_one_iff_eq_zero_or_eq_one.mp hb with rfl | rfl
          · exact s2.1
          · exact s1.1
        · rw [if_neg (by omega)]
          exact z5
      · intro _
        rw [SI_at (t := t)]
        dsimp only
        by_cases e : w = 0
        · rw [if_pos (by omega), hx0 e]
        · rw [if_neg (by omega)]
          exact z6 (by omega)
      · intro j h1 h2
        rw [SI_at (t := t)]
        dsimp only
        show _ = r.1 5 j
        by_cases e : j = w
        · rw [if_pos (by omega), hxw (by omega), e]
        · rw [if_neg (by omega)]
          exact z7 j h1 (by omega)
      · intro j h1 h2
        have : (cs_u c (4 + b) w x).1 6 = c.1 6 := by
          funext q
          rw [cs_u_1, if_neg (by omega)]
        show (cs_u c (4 + b) w x).1 6 j = r.1 5 j
        rw [this]
        exact z8 j h1 h2
/-- both begin to save, or to restore -/
theorem ST_bg {t : Nat} {c r c1 : cs_S} (h : ST t c r) (y1 : Int32) (src : Nat → Int32) (hsrc : ∀ j, j < 21 → (if y1 = 0 then mdStart (kp j) else r.1 1 (kp j)) = src (kp j)) (hkv : KVs src) (e1 : fmr 6 c c1) (e2 : ∀ j, 1 ≤ j → j < 22 → c1.1 6 j = src (kp (j - 1))) : ∃ r', fR_begin r y1 = some r' ∧ ST t (fT_begin c1) r' ∧ sf c (fT_begin c1) r r' := by
  obtain ⟨hk, hs, hz⟩ := h
  have h4 : c1.1 4 = c.1 4 := e1.1 4 (by decide)
  have h5 : c1.1 5 = c.1 5 := e1.1 5 (by decide)
  obtain ⟨b, hb, b1, b2, b3⟩ : ∃ b, b ≤ 1 ∧ fT_begin c1 = cs_u (cs_u c1 0 6 (nI b)) 0 7 0 ∧ (fR_begin r y1 = fR_begin_35 40 (cs_u (cs_u r 0 3 (nI b)) 0 2 23) y1 (nI 1) (nI 0)) ∧ (r.1 4 (22 * b)).toInt ≤ (r.1 4 (22 - 22 * b)).toInt := by
    have g0 : c.1 4 0 = r.1 4 0 := hk.1 0 (by omega)
    have g1 : c.1 5 0 = r.1 4 22 := hk.2 0 (by omega)
    unfold fT_begin fR_begin
    rw [h4, h5, g0, g1]
    by_cases e : r.1 4 0 ≤ r.1 4 22
    · refine ⟨0, by omega, ?_, ?_, ?_⟩
      · rw [if_pos e]; rfl
      · rw [if_pos e]; rfl
      · rw [Int32.le_iff_toInt_le] at e
        exact e
    · refine ⟨1, by omega, ?_, ?_, ?_⟩
      · rw [if_neg e]; rfl
      · rw [if_neg e]; rfl
      · rw [Int32.le_iff_toInt_le] at e
        show (r.1 4 22).toInt ≤ (r.1 4 0).toInt
        omega
  obtain ⟨r', d1, d2, d3⟩ := bg35 y1 30 0 40 (cs_u (cs_u r 0 3 (nI b)) 0 2 23) (by omega) (by omega)
  have hw0 : wk 0 = 1 := rfl
  rw [hw0, ← b2] at d3
  rw [hw0] at d2
  have row1 : (cs_u (cs_u r 0 3 (nI b)) 0 2 23).1 1 = r.1 1 := rfl
  rw [row1] at d2
  have r4 : r'.1 4 = r.1 4 := d1.1 4 (by decide)
  have r5 : ∀ j, 1 ≤ j → j < 22 → r'.1 5 j = src (kp (j - 1)) := fun j h1 h2 => by
    rw [d2 j h1 h2, if_pos h1]
    exact hsrc _ (by omega)
  have r0 : ∀ k, r'.1 0 k = if k = 2 then 23 else if k = 3 then nI b else r.1 0 k := fun k => by
    rw [d1.1 0 (by decide), cs_u_r, cs_u_r]
  rw [b1]
  have z2 : r'.1 0 2 = nI (23 - 0) := by rw [r0, if_pos rfl]; rfl
  have z4 : r'.1 0 3 = nI b := by rw [r0, if_neg (by decide), if_pos rfl]
  refine ⟨r', d3, ⟨⟨fun j hj => ?_, fun j hj => ?_⟩, by rw [r4]; exact hs, Or.inr ⟨0, b, by omega, hb, rfl, z2, rfl, z4, by rw [r4]; exact b3, fun z => by omega, fun j h1 h2 => by omega, fun j h1 h2 => ?_, ?_⟩⟩, ⟨⟨fun k h1 h2 => ?_, e1.1 1 (by decide), e1.1 2 (by decide), e1.1 3 (by decide), e1.2⟩, ⟨fun k h1 h2 => ?_, d1.1 1 (by decide), d1.1 2 (by decide), d1.1 3 (by decide), d1.2⟩⟩⟩
  · rw [r4]
    show c1.1 4 j = _
    rw [h4]
    exact hk.1 j hj
  · rw [r4]
    show c1.1 5 j = _
    rw [h5]
    exact hk.2 j hj
  · rw [r5 j h1 h2]
    exact e2 j h1 h2
  · refine KVs_cg hkv (fun k hk hw => ?_)
    have hwl := wd_le k hk
    have hkk : k = kp (wd k - 1) := (kp_wd k hk (wd k) (by omega) (by omega)).mpr rfl
    rw [r5 (wd k) (by omega) (by omega), ← hkk]
  · rw [cs_u_r, if_neg h2, cs_u_r, if_neg h1, e1.1 0 (by decide)]
  · rw [r0, if_neg h1, if_neg h2]
theorem kp_17 : ∀ j, j < 21 → kp j ≠ 17 := by decide +kernel
theorem ST_save {t : Nat} {c r : cs_S} (h : ST t c r) (hv : VE c r) (hkv : KVs (r.1 1)) : ∃ c' r', fT_beginSave c = some c' ∧ fR_begin r 1 = some r' ∧ ST t c' r' ∧ sf c c' r r' := by
  obtain ⟨c1, e1, e2, e3⟩ := bgS 21 1 40 c (by omega) (by omega) (by omega)
  obtain ⟨r', d1, d2, d3⟩ := ST_bg h 1 (r.1 1) (fun j hj => by rw [if_neg (by decide)]) hkv e1 (fun j h1 h2 => by
    have hkp := kp_in (j - 1) (by omega)
    rw [e2, if_pos (by omega)]
    exact hv _ hkp.2 (kp_17 _ (by omega)))
  exact ⟨fT_begin c1, r', e3, d1, d2, d3⟩
theorem ST_restore {t : Nat} {c r : cs_S} (h : ST t c r) : ∃ c' r', fT_beginRestore c = some c' ∧ fR_begin r 0 = some r' ∧ ST t c' r' ∧ sf c c' r r' := by
  obtain ⟨c1, e1, e2, e3⟩ := bgR 21 1 40 c (by omega) (by omega) (by omega)
  obtain ⟨r', d1, d2, d3⟩ := ST_bg h 0 mdStart (fun j hj => by rw [if_pos rfl]) KVs_start e1 (fun j h1 h2 => by
    rw [e2, if_pos (by omega)])
  exact ⟨fT_begin c1, r', e3, d1, d2, d3⟩
