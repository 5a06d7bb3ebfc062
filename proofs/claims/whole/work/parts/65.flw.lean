/-! The trajectory: the class's approach and the reference's towards -/
theorem ia_add {a b : Int32} (h1 : -2147483648 ≤ a.toInt + b.toInt) (h2 : a.toInt + b.toInt ≤ 2147483647) : (a + b).toInt = a.toInt + b.toInt := by
  rw [Int32.toInt_add, Int.bmod_eq_of_le (by omega) (by omega)]
theorem ia_sub {a b : Int32} (h1 : -2147483648 ≤ a.toInt - b.toInt) (h2 : a.toInt - b.toInt ≤ 2147483647) : (a - b).toInt = a.toInt - b.toInt := by
  rw [Int32.toInt_sub, Int.bmod_eq_of_le (by omega) (by omega)]
theorem ia_neg {a : Int32} (h1 : -2147483647 ≤ a.toInt) : (-a).toInt = -a.toInt := by
  have := a.toInt_lt
  rw [Int32.toInt_neg, Int.bmod_eq_of_le (by omega) (by omega)]
theorem ia_nI {x : Int32} {n : Nat} (hn : n < 2 ^ 31) (h : x.toInt = n) : x = nI n := Int32.toInt_inj.mp (by rw [h, nI_toInt hn])
theorem ia_eq {x y : Int32} (h : x.toInt = y.toInt) : x = y := Int32.toInt_inj.mp h
theorem i0 : (0 : Int32).toInt = 0 := by decide
theorem i_abs_nI {x : Int32} (h : -2147483647 ≤ x.toInt) : i_abs x = nI x.toInt.natAbs := by
  have h2 := x.toInt_lt
  unfold i_abs
  by_cases h0 : 0 ≤ x
  · rw [if_pos h0]
    rw [Int32.le_iff_toInt_le, i0] at h0
    exact ia_nI (by omega) (by omega)
  · rw [if_neg h0]
    rw [Int32.le_iff_toInt_le, i0] at h0
    refine ia_nI (by omega) ?_
    rw [ia_sub (by rw [i0]; omega) (by rw [i0]; omega), i0]
    omega
theorem size0_nI {x : Int32} (h : -2147483647 ≤ x.toInt) : fR_size0 x = nI x.toInt.natAbs := by
  have h2 := x.toInt_lt
  unfold fR_size0
  by_cases h0 : 0 ≤ x
  · rw [if_pos h0]
    rw [Int32.le_iff_toInt_le, i0] at h0
    exact ia_nI (by omega) (by omega)
  · rw [if_neg h0]
    rw [Int32.le_iff_toInt_le, i0] at h0
    refine ia_nI (by omega) ?_
    rw [ia_neg h]
    omega
theorem i_min_le (x y : Int32) : i_min x y = fR_lesser x y := by
  unfold i_min fR_lesser
  by_cases h : y < x
  · rw [if_pos h, if_pos (by rw [Int32.lt_iff_toInt_lt] at h; rw [Int32.le_iff_toInt_le]; omega)]
  · rw [if_neg h]
    by_cases h2 : y ≤ x
    · rw [if_pos h2]
      apply ia_eq
      rw [Int32.lt_iff_toInt_lt] at h
      rw [Int32.le_iff_toInt_le] at h2
      omega
    · rw [if_neg h2]
theorem i_max_ge (x y : Int32) : i_max x y = fR_greater x y := by
  unfold i_max fR_greater
  by_cases h : x < y
  · rw [if_pos h, if_pos (by rw [Int32.lt_iff_toInt_lt] at h; rw [Int32.le_iff_toInt_le]; omega)]
  · rw [if_neg h]
    by_cases h2 : x ≤ y
    · rw [if_pos h2]
      apply ia_eq
      rw [Int32.lt_iff_toInt_lt] at h
      rw [Int32.le_iff_toInt_le] at h2
      omega
    · rw [if_neg h2]
theorem i_min_t (x y : Int32) : (i_min x y).toInt = min x.toInt y.toInt := by
  unfold i_min
  split
  · rename_i h
    rw [Int32.lt_iff_toInt_lt] at h
    omega
  · rename_i h
    rw [Int32.lt_iff_toInt_lt] at h
    omega
theorem i_max_t (x y : Int32) : (i_max x y).toInt = max x.toInt y.toInt := by
  unfold i_max
  split
  · rename_i h
    rw [Int32.lt_iff_toInt_lt] at h
    omega
  · rename_i h
    rw [Int32.lt_iff_toInt_lt] at h
    omega
theorem slow_eq {x b : Int32} (hx : -1000 ≤ x.toInt ∧ x.toInt ≤ 1000) (hb : 0 ≤ b.toInt ∧ b.toInt ≤ 1000) : fV_slower x b = fR_slower x b ∧ -1000 ≤ (fV_slower x b).toInt ∧ (fV_slower x b).toInt ≤ 1000 := by
  have a1 : (x + b).toInt = x.toInt + b.toInt := ia_add (by omega) (by omega)
  have a2 : (x - b).toInt = x.toInt - b.toInt := ia_sub (by omega) (by omega)
  have a3 : (-b).toInt = -b.toInt := ia_neg (by omega)
  unfold fV_slower fR_slower
  by_cases h0 : x ≤ 0
  · rw [if_pos h0]
    rw [Int32.le_iff_toInt_le, i0] at h0
    have m := i_min_t (x + b) 0
    rw [i0] at m
    rw [if_pos (show x ≤ b by rw [Int32.le_iff_toInt_le]; omega)]
    by_cases h1 : -b ≤ x
    · rw [if_pos h1]
      rw [Int32.le_iff_toInt_le] at h1
      exact ⟨ia_eq (by rw [m, i0]; omega), by omega, by omega⟩
    · rw [if_neg h1]
      rw [Int32.le_iff_toInt_le] at h1
      exact ⟨ia_eq (by rw [m]; omega), by omega, by omega⟩
  · rw [if_neg h0]
    rw [Int32.le_iff_toInt_le, i0] at h0
    have m := i_max_t (x - b) 0
    rw [i0] at m
    by_cases h1 : x ≤ b
    · rw [if_pos h1]
      rw [Int32.le_iff_toInt_le] at h1
      rw [if_pos (show -b ≤ x by rw [Int32.le_iff_toInt_le]; omega)]
      exact ⟨ia_eq (by rw [m, i0]; omega), by omega, by omega⟩
    · rw [if_neg h1]
      rw [Int32.le_iff_toInt_le] at h1
      exact ⟨ia_eq (by rw [m]; omega), by omega, by omega⟩
/-- what the two do when they don't leave the aim, and when they do -/
theorem apr {c r : cs_S} {x1 : Int32} {ca ra qu : Nat} (hs : c.1 1 21 = r.1 1 21) (c27 : c.1 1 27 = nI ra) (r27 : r.1 1 27 = nI ra) (c28 : c.1 1 28 = nI qu) (r28 : r.1 1 28 = nI qu) (hra : 1 ≤ ra ∧ ra ≤ 1000) (hqu : 1 ≤ qu ∧ qu ≤ 1000) (hp : c.1 0 10 = r.1 0 7) (hca : ca ≤ 1000) (hsp : -1000 ≤ (r.1 1 21).toInt ∧ (r.1 1 21).toInt ≤ 1000) (hpl : -500000000 ≤ (r.1 0 7).toInt ∧ (r.1 0 7).toInt ≤ 500000000) (hai : -500000000 ≤ x1.toInt ∧ x1.toInt ≤ 500000000) (T : Option (Int32 × cs_S)) (hT : T = (if (r.1 1 21) = 0 then (fR_towards_143 1003 r x1 (nI ca) (fR_size0 (x1 - (r.1 0 7))) (fR_size0 (r.1 1 21)) (fR_lesser (r.1 1 27) (r.1 1 28)) 0 0) else if (r.1 1 21) ≤ 0 then (if x1 < (r.1 0 7) then (fR_towards_143 1003 r x1 (nI ca) (fR_size0 (x1 - (r.1 0 7))) (fR_size0 (r.1 1 21)) (fR_lesser (r.1 1 27) (r.1 1 28)) 0 0) else (some ((fR_slower (r.1 1 21) (r.1 1 27)), r))) else (if x1 ≤ (r.1 0 7) then (some ((fR_slower (r.1 1 21) (r.1 1 27)), r)) else (fR_towards_143 1003 r x1 (nI ca) (fR_size0 (x1 - (r.1 0 7))) (fR_size0 (r.1 1 21)) (fR_lesser (r.1 1 27) (r.1 1 28)) 0 0)))) : ∃ x r', fV_approach c x1 (nI ca) = some (fV_moveWith c x) ∧ T = some (x, r') ∧ wy_fm r r' ∧ -1000 ≤ x.toInt ∧ x.toInt ≤ 1000 := by
  have hw : (x1 - r.1 0 7).toInt = x1.toInt - (r.1 0 7).toInt := ia_sub (by omega) (by omega)
  obtain ⟨now, hnow⟩ : ∃ n : Nat, n = (r.1 1 21).toInt.natAbs := ⟨_, rfl⟩
  obtain ⟨d, hd⟩ : ∃ n : Nat, n = (x1 - r.1 0 7).toInt.natAbs := ⟨_, rfl⟩
  have a1 : i_abs (r.1 1 21) = nI now := by rw [hnow]; exact i_abs_nI (by omega)
  have a2 : fR_size0 (r.1 1 21) = nI now := by rw [hnow]; exact size0_nI (by omega)
  have a3 : i_abs (x1 - r.1 0 7) = nI d := by rw [hd]; exact i_abs_nI (by omega)
  have a4 : fR_size0 (x1 - r.1 0 7) = nI d := by rw [hd]; exact size0_nI (by omega)
  have a5 : fR_lesser (nI ra) (nI qu) = nI (min ra qu) := by
    rw [← i_min_le]
    refine ia_nI (by omega) ?_
    rw [i_min_t, nI_toInt (by omega), nI_toInt (by omega)]
    omega
  have a6 : i_min (nI now + nI ra) (nI ca) = nI (min (now + ra) ca) := by
    refine ia_nI (by omega) ?_
    rw [i_min_t, nI_add, nI_toInt (by omega), nI_toInt (by omega)]
    omega
  have hnowB : now ≤ 1000 := by omega
  have hdB : d < 2 ^ 31 := by omega
  obtain ⟨g, f1, f2⟩ := fast_gr c (mo := min (now + ra) ca) (d := d) c27 c28 hra hqu (by omega) hdB
  obtain ⟨g', r', t1, t2, t3⟩ := tow_loop (b := min ra qu) (ca := ca) (far := d) (now := now) (ra := ra) x1 (by omega) (by omega) hca hdB hnowB hra.2 (ca + 1) 0 1003 0 r (by omega) (by omega) r27 (fun j hj => by omega) (by omega) (by omega) (by rw [tw_le (by omega)]; omega) (fun x hx => by omega)
  obtain rfl : g = g' := gr_uq f2 t3
  have hg : g ≤ ca := by have := f2.1; omega
  have my : (i_max (nI g) (nI now - nI ra)).toInt = max (g : Int) ((now : Int) - ra) := by
    rw [i_max_t, nI_toInt (by omega), ia_sub (by rw [nI_toInt (by omega), nI_toInt (by omega)]; omega) (by rw [nI_toInt (by omega), nI_toInt (by omega)]; omega), nI_toInt (by omega), nI_toInt (by omega)]
  have mn : (-(i_max (nI g) (nI now - nI ra))).toInt = -max (g : Int) ((now : Int) - ra) := by
    rw [ia_neg (by omega), my]
  have rest : ∃ x r', (ab_bd (fV_fastestThatStops c (i_min ((i_abs (c.1 1 21)) + (c.1 1 27)) (nI ca)) (i_abs (x1 - (c.1 0 10)))) (fun p1 => (if 0 ≤ (x1 - (c.1 0 10)) then (let p2 := fV_moveWith c (i_max p1 ((i_abs (c.1 1 21)) - (c.1 1 27))); (some p2)) else (let p3 := fV_moveWith c (-(i_max p1 ((i_abs (c.1 1 21)) - (c.1 1 27)))); (some p3))))) = some (fV_moveWith c x) ∧ (fR_towards_143 1003 r x1 (nI ca) (fR_size0 (x1 - (r.1 0 7))) (fR_size0 (r.1 1 21)) (fR_lesser (r.1 1 27) (r.1 1 28)) 0 0) = some (x, r') ∧ wy_fm r r' ∧ -1000 ≤ x.toInt ∧ x.toInt ≤ 1000 := by
    rw [hs, hp, a1, c27, a6, a3, f1, ab_bd_s, a4, a2, r27, r28, a5]
    change ∃ x r'', _ ∧ fR_towards_143 1003 r x1 (nI ca) (nI d) (nI now) (nI (min ra qu)) (nI 0) (nI 0) = some (x, r'') ∧ _
    rw [t1]
    by_cases hc : r.1 0 7 ≤ x1
    · have h0 : (0 : Int32) ≤ x1 - r.1 0 7 := by
        rw [Int32.le_iff_toInt_le] at hc ⊢
        rw [i0, hw]; omega
      rw [if_pos hc, if_pos h0, ← i_max_ge]
      exact ⟨_, r', rfl, rfl, t2, by omega, by omega⟩
    · have h0 : ¬ (0 : Int32) ≤ x1 - r.1 0 7 := by
        rw [Int32.le_iff_toInt_le] at hc ⊢
        rw [i0, hw]; omega
      rw [if_neg hc, if_neg h0, ← i_max_ge]
      exact ⟨_, r', rfl, rfl, t2, by omega, by omega⟩
  have slow : ∃ x r', (let p7 := fV_moveWith c (fV_slower (c.1 1 21) (c.1 1 27)); (some p7)) = some (fV_moveWith c x) ∧ (some ((fR_slower (r.1 1 21) (r.1 1 27)), r)) = some (x, r') ∧ wy_fm r r' ∧ -1000 ≤ x.toInt ∧ x.toInt ≤ 1000 := by
    obtain ⟨s1, s2, s3⟩ := slow_eq (x := r.1 1 21) (b := nI ra) hsp (by rw [nI_toInt (by omega)]; omega)
    rw [hs, c27, r27]
    exact ⟨_, r, rfl, by rw [s1], wy_fm.rf r, s2, s3⟩
  subst hT
  unfold fV_approach
  rw [hs, hp] at *
  have w1 : (x1 - r.1 0 7 < 0) ↔ x1 < r.1 0 7 := by
    rw [Int32.lt_iff_toInt_lt, Int32.lt_iff_toInt_lt, hw, i0]; omega
  have w2 : (x1 - r.1 0 7 ≤ 0) ↔ x1 ≤ r.1 0 7 := by
    rw [Int32.le_iff_toInt_le, Int32.le_iff_toInt_le, hw, i0]; omega
  by_cases s0 : r.1 1 21 = 0
  · have e1 : r.1 1 21 ≤ 0 := by rw [s0]; decide
    have e2 : 0 ≤ r.1 1 21 := by rw [s0]; decide
    rw [if_pos e1, if_pos e2, if_pos s0]
    exact rest
  · rw [if_neg s0]
    by_cases e1 : r.1 1 21 ≤ 0
    · have e2 : ¬ 0 ≤ r.1 1 21 := by
        intro z
        apply s0
        apply ia_eq
        rw [Int32.le_iff_toInt_le, i0] at e1 z
        rw [i0]; omega
      rw [if_pos e1, if_neg e2, if_pos e1]
      by_cases h : x1 < r.1 0 7
      · rw [if_pos (w1.mpr h), if_pos h]
        exact rest
      · rw [if_neg (fun z => h (w1.mp z)), if_neg h]
        exact slow
    · have e2 : 0 ≤ r.1 1 21 := by
        rw [Int32.le_iff_toInt_le, i0] at e1
        rw [Int32.le_iff_toInt_le, i0]
        omega
      rw [if_neg e1, if_neg e1]
      by_cases h : x1 ≤ r.1 0 7
      · rw [if_pos (w2.mpr h), if_pos h]
        exact slow
      · rw [if_neg (fun z => h (w2.mp z)), if_neg h, if_pos e2]
        exact rest
/-- the tree of the reference's towards, cut down -/
theorem tow_tree {r : cs_S} {x1 : Int32} {k : Int32} (hk : (if r.1 1 18 = 1 then fR_lesser (r.1 1 26) (r.1 1 25) else fR_lesser (fR_size0 (r.1 1 29)) (r.1 1 25)) = k) : fR_towards r x1 = (if (r.1 1 21) = 0 then (fR_towards_143 1003 r x1 k (fR_size0 (x1 - (r.1 0 7))) (fR_size0 (r.1 1 21)) (fR_lesser (r.1 1 27) (r.1 1 28)) 0 0) else if (r.1 1 21) ≤ 0 then (if x1 < (r.1 0 7) then (fR_towards_143 1003 r x1 k (fR_size0 (x1 - (r.1 0 7))) (fR_size0 (r.1 1 21)) (fR_lesser (r.1 1 27) (r.1 1 28)) 0 0) else (some ((fR_slower (r.1 1 21) (r.1 1 27)), r))) else (if x1 ≤ (r.1 0 7) then (some ((fR_slower (r.1 1 21) (r.1 1 27)), r)) else (fR_towards_143 1003 r x1 k (fR_size0 (x1 - (r.1 0 7))) (fR_size0 (r.1 1 21)) (fR_lesser (r.1 1 27) (r.1 1 28)) 0 0))) := by
  have hL : (if (r.1 1 18) = (1 : Int32) then fR_towards_143 1003 r x1 (fR_lesser (r.1 1 26) (r.1 1 25)) (fR_size0 (x1 - (r.1 0 7))) (fR_size0 (r.1 1 21)) (fR_lesser (r.1 1 27) (r.1 1 28)) (0 : Int32) (0 : Int32) else fR_towards_143 1003 r x1 (fR_lesser (fR_size0 (r.1 1 29)) (r.1 1 25)) (fR_size0 (x1 - (r.1 0 7))) (fR_size0 (r.1 1 21)) (fR_lesser (r.1 1 27) (r.1 1 28)) (0 : Int32) (0 : Int32)) = fR_towards_143 1003 r x1 k (fR_size0 (x1 - (r.1 0 7))) (fR_size0 (r.1 1 21)) (fR_lesser (r.1 1 27) (r.1 1 28)) 0 0 := by
    rw [← hk]
    split <;> rfl
  unfold fR_towards
  rw [hL]
  by_cases s0 : r.1 1 21 = 0
  · have e1 : r.1 1 21 ≤ 0 := by rw [s0]; decide
    have e2 : 0 ≤ r.1 1 21 := by rw [s0]; decide
    rw [if_pos s0, if_pos e1, if_pos e2, if_pos s0]
  · rw [if_neg s0, if_neg s0]
    by_cases e1 : r.1 1 21 ≤ 0
    · have e2 : ¬ 0 ≤ r.1 1 21 := by
        intro z
        apply s0
        apply ia_eq
        rw [Int32.le_iff_toInt_le, i0] at e1 z
        rw [i0]; omega
      rw [if_pos e1, if_neg e2, if_pos e1]
      by_cases h : x1 = r.1 0 7
      · rw [if_pos h, if_neg (show ¬ x1 < r.1 0 7 by rw [h, Int32.lt_iff_toInt_lt]; omega)]
      · rw [if_neg h]
        have hne : x1.toInt ≠ (r.1 0 7).toInt := fun z => h (ia_eq z)
        by_cases h2 : x1 < r.1 0 7
        · rw [if_pos h2, if_pos (show x1 ≤ r.1 0 7 by rw [Int32.lt_iff_toInt_lt] at h2; rw [Int32.le_iff_toInt_le]; omega)]
        · rw [if_neg h2, if_neg (show ¬ x1 ≤ r.1 0 7 by rw [Int32.lt_iff_toInt_lt] at h2; rw [Int32.le_iff_toInt_le]; omega)]
    · have e2 : 0 ≤ r.1 1 21 := by
        rw [Int32.le_iff_toInt_le, i0] at e1
        rw [Int32.le_iff_toInt_le, i0]
        omega
      rw [if_neg e1, if_neg e1]
      by_cases h : x1 = r.1 0 7
      · rw [if_pos h, if_pos (show x1 ≤ r.1 0 7 by rw [h, Int32.le_iff_toInt_le]; omega)]
      · rw [if_neg h]
        have hne : x1.toInt ≠ (r.1 0 7).toInt := fun z => h (ia_eq z)
        by_cases h2 : x1 < r.1 0 7
        · rw [if_pos h2, if_pos (show x1 ≤ r.1 0 7 by rw [Int32.lt_iff_toInt_lt] at h2; rw [Int32.le_iff_toInt_le]; omega)]
        · rw [if_neg h2, if_pos e2, if_neg (show ¬ x1 ≤ r.1 0 7 by rw [Int32.lt_iff_toInt_lt] at h2; rw [Int32.le_iff_toInt_le]; omega)]
def rg (x : Int32) (a b : Int) : Prop := a ≤ x.toInt ∧ x.toInt ≤ b
/-- what the trajectory wants of the values -/
def TV (v : Nat → Int32) : Prop := rg (v 21) (-1000) 1000 ∧ rg (v 22) (-100000) 100000 ∧ rg (v 23) (-100000) 100000 ∧ rg (v 24) (-100000) 100000 ∧ rg (v 25) 1 1000 ∧ rg (v 26) 1 1000 ∧ rg (v 27) 1 1000 ∧ rg (v 28) 1 1000 ∧ rg (v 29) (-1000) 1000
def VE (c r : cs_S) : Prop := ∀ k, k < 30 → k ≠ 17 → c.1 1 k = r.1 1 k
theorem aim_eq {c r : cs_S} (hv : VE c r) (hp : c.1 0 10 = r.1 0 7) : fR_aim r = (if r.1 1 18 = 1 then fV_positionAim c else fV_speedAim c) := by
  unfold fR_aim fV_positionAim fV_speedAim
  rw [hv 22 (by decide) (by decide), hv 23 (by decide) (by decide), hv 24 (by decide) (by decide), hv 29 (by decide) (by decide), hp, ← i_min_le, ← i_max_ge, ← i_min_le, ← i_max_ge]
  by_cases h : r.1 1 18 = 1
  · rw [if_pos h, if_pos h]
  · rw [if_neg h, if_neg h]
    by_cases h0 : r.1 1 29 = 0
    · rw [if_pos h0, if_pos (by rw [h0]; decide), if_pos (by rw [h0]; decide)]
    · rw [if_neg h0]
      have hne : (r.1 1 29).toInt ≠ 0 := fun z => h0 (ia_eq (by rw [z, i0]))
      by_cases h1 : r.1 1 29 ≤ 0
      · rw [if_pos h1, if_pos h1, if_neg (by rw [Int32.le_iff_toInt_le, i0] at h1; rw [Int32.le_iff_toInt_le, i0]; omega)]
      · rw [if_neg h1, if_neg h1]
theorem nI_of_rg {x : Int32} {b : Int} (h : rg x 1 b) (hb : b ≤ 100000) : ∃ n : Nat, x = nI n ∧ 1 ≤ n ∧ (n : Int) ≤ b ∧ x.toInt = n := by
  obtain ⟨h1, h2⟩ := h
  exact ⟨x.toInt.toNat, ia_nI (by omega) (by omega), by omega, by omega, by omega⟩
theorem flw {c r : cs_S} (hv : VE c r) (tv : TV (r.1 1)) (hp : c.1 0 10 = r.1 0 7) (hpl : -400000000 ≤ (r.1 0 7).toInt ∧ (r.1 0 7).toInt ≤ 400000000) : ∃ x r', fV_follow c = some (fV_moveWith c x) ∧ fR_towards r (fR_aim r) = some (x, r') ∧ wy_fm r r' ∧ -1000 ≤ x.toInt ∧ x.toInt ≤ 1000 := by
  obtain ⟨t21, t22, t23, t24, t25, t26, t27, t28, t29⟩ := tv
  obtain ⟨ra, e27, ra1, ra2, _⟩ := nI_of_rg t27 (by decide)
  obtain ⟨qu, e28, qu1, qu2, _⟩ := nI_of_rg t28 (by decide)
  have c27 := (hv 27 (by decide) (by decide)).trans e27
  have c28 := (hv 28 (by decide) (by decide)).trans e28
  have hs := hv 21 (by decide) (by decide)
  have hA := aim_eq hv hp
  unfold rg at t21 t22 t23 t24 t25 t26 t29
  have hB : -500000000 ≤ (fR_aim r).toInt ∧ (fR_aim r).toInt ≤ 500000000 := by
    rw [hA]
    have p1 : (fV_positionAim c).toInt = max (min (r.1 1 22).toInt (r.1 1 24).toInt) (r.1 1 23).toInt := by
      unfold fV_positionAim
      rw [i_max_t, i_min_t, hv 22 (by decide) (by decide), hv 23 (by decide) (by decide), hv 24 (by decide) (by decide)]
    have p2 : -500000000 ≤ (fV_speedAim c).toInt ∧ (fV_speedAim c).toInt ≤ 500000000 := by
      unfold fV_speedAim
      rw [hv 23 (by decide) (by decide), hv 24 (by decide) (by decide), hp]
      split
      · omega
      · split
        · rw [i_min_t]; omega
        · rw [i_max_t]; omega
    split
    · rw [p1]; omega
    · exact p2
  by_cases h18 : r.1 1 18 = 1
  · rw [if_pos h18] at hA
    obtain ⟨ca, hca, hca2⟩ : ∃ n : Nat, fR_lesser (r.1 1 26) (r.1 1 25) = nI n ∧ n ≤ 1000 := by
      refine ⟨(min (r.1 1 26).toInt (r.1 1 25).toInt).toNat, ?_, by omega⟩
      rw [← i_min_le]
      refine ia_nI (by omega) ?_
      rw [i_min_t]; omega
    obtain ⟨x, r', e1, e2, e3, e4, e5⟩ := apr (x1 := fR_aim r) hs c27 e27 c28 e28 ⟨ra1, by omega⟩ ⟨qu1, by omega⟩ hp hca2 t21 (by omega) hB (fR_towards r (fR_aim r)) (tow_tree (by rw [if_pos h18, hca]))
    refine ⟨x, r', ?_, e2, e3, e4, e5⟩
    unfold fV_follow
    rw [hv 18 (by decide) (by decide), if_pos h18, hv 26 (by decide) (by decide), hv 25 (by decide) (by decide), i_min_le, hca, ← hA, e1, ab_bd_s]
  · rw [if_neg h18] at hA
    obtain ⟨ca, hca, hca2⟩ : ∃ n : Nat, fR_lesser (fR_size0 (r.1 1 29)) (r.1 1 25) = nI n ∧ n ≤ 1000 := by
      refine ⟨(min ((r.1 1 29).toInt.natAbs : Int) (r.1 1 25).toInt).toNat, ?_, by omega⟩
      rw [← i_min_le, size0_nI (by omega)]
      refine ia_nI (by omega) ?_
      rw [i_min_t, nI_toInt (by omega)]; omega
    obtain ⟨x, r', e1, e2, e3, e4, e5⟩ := apr (x1 := fR_aim r) hs c27 e27 c28 e28 ⟨ra1, by omega⟩ ⟨qu1, by omega⟩ hp hca2 t21 (by omega) hB (fR_towards r (fR_aim r)) (tow_tree (by rw [if_neg h18, hca]))
    refine ⟨x, r', ?_, e2, e3, e4, e5⟩
    unfold fV_follow
    rw [hv 18 (by decide) (by decide), if_neg h18, hv 29 (by decide) (by decide), hv 25 (by decide) (by decide), i_abs_nI (by omega), ← size0_nI (by omega), i_min_le, hca, ← hA, e1, ab_bd_s]
