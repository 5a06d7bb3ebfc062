/-! The law: bus, the loop, the start -/
section LAW2
variable {X : ab_C} {d : Nat}
set_option maxHeartbeats 4000000 in
set_option maxRecDepth 20000 in
theorem lw_c_bus (hX : cs_X X) {L : Nat} {xs : Nat → Int32} (hL : L ≤ 2561) (hS : X.2.2.2.2.2[3]? = some (L, xs)) {LR : Nat → cs_S → cs_S → Prop} (hok : lw_ok_bus LR) {k : Nat} {c r : cs_S} (hk : k ≤ 600) (h6 : 5 * k + 6 ≤ L) (hR : LR k c r) (ih : ∀ c1 r1, LR (k + 1) c1 r1 → ab_W X mL_law (d + 8) 0 0 488 [some (.ref 3), some (.ref 8), some (.ref 23), some (.int (nI (5 * k + 1)))] [] (cs_H c1 (rs_T r1)) (fun r9 h9 => r9 = some (Value.int 1))) : ab_W X mL_law (d + 8) 0 0 243 [some (.ref 3), some (.ref 8), some (.ref 23), some (.int (nI (5 * k + 1)))] [] (cs_H c (rs_T r)) (fun r9 h9 => r9 = some (Value.int 1)) := by
  refine ab_go 5 [] (pc' := 248) (lo' := [some (.ref 3), some (.ref 8), some (.ref 23), some (.int (nI (5 * k + 1)))]) (st' := [.int ((nI (5 * k + 1)) + 1), .ref 3, .ref 8]) (h' := cs_H c (rs_T r)) ckL_law rfl ?_
  refine ab_tald ckL_law rfl (by decide) hS (lw_vp (j := 1) hL h6 (by decide)) ?_
  refine ab_go 0 [] (pc' := 249) (lo' := [some (.ref 3), some (.ref 8), some (.ref 23), some (.int (nI (5 * k + 1)))]) (st' := [.int (xs (nI (5 * k + 1) + 1).toNatClampNeg), .ref 8]) (h' := cs_H c (rs_T r)) ckL_law rfl ?_
  by_cases hz : (xs (nI (5 * k + 1) + 1).toNatClampNeg) = 0
  · obtain ⟨c', r', e1, e2, hn⟩ := hok k c r hk hR 0 (Or.inl rfl)
    refine ab_if_eq ckL_law rfl (fun _ => ?_) (fun hh => absurd hz hh)
    refine ab_go 1 [] (pc' := 257) (lo' := [some (.ref 3), some (.ref 8), some (.ref 23), some (.int (nI (5 * k + 1)))]) (st' := [.int 0, .ref 8]) (h' := cs_H c (rs_T r)) ckL_law rfl ?_
    refine ab_callV (bc2 := 0) (bs2 := 0) (as := [_]) (rest := []) ckL_law rfl (by decide +kernel) wS_bus (tS_bus (d := d + 4) (x1 := 0) (c := c) (v := c') e1) rfl rfl (by omega) ⟨Nat.le_refl _, Nat.le_refl _⟩ (Nat.le_of_ble_eq_true rfl) ?_
    rintro _ _ ⟨rfl, rfl⟩
    refine ab_go 0 [] (pc' := 260) (lo' := [some (.ref 3), some (.ref 8), some (.ref 23), some (.int (nI (5 * k + 1)))]) (st' := []) (h' := cs_H c' (rs_T r)) ckL_law rfl ?_
    refine ab_go 5 [] (pc' := 265) (lo' := [some (.ref 3), some (.ref 8), some (.ref 23), some (.int (nI (5 * k + 1)))]) (st' := [.int ((nI (5 * k + 1)) + 1), .ref 3, .ref 23]) (h' := cs_H c' (rs_T r)) ckL_law rfl ?_
    refine ab_tald ckL_law rfl (by decide) hS (lw_vp (j := 1) hL h6 (by decide)) ?_
    refine ab_go 0 [] (pc' := 266) (lo' := [some (.ref 3), some (.ref 8), some (.ref 23), some (.int (nI (5 * k + 1)))]) (st' := [.int (xs (nI (5 * k + 1) + 1).toNatClampNeg), .ref 23]) (h' := cs_H c' (rs_T r)) ckL_law rfl ?_
    refine ab_if_eq ckL_law rfl (fun _ => ?_) (fun hh => absurd hz hh)
    refine ab_go 1 [] (pc' := 274) (lo' := [some (.ref 3), some (.ref 8), some (.ref 23), some (.int (nI (5 * k + 1)))]) (st' := [.int 0, .ref 23]) (h' := rs_H (cs_p c') r []) ckL_law rfl ?_
    refine ab_callV (bc2 := 0) (bs2 := 0) (as := [_]) (rest := []) ckL_law rfl (by decide +kernel) wR_bus (tR_bus (d := d + 4) (pf := cs_p c') (x1 := 0) (r := r) (v := r') e2) rfl rfl (by omega) ⟨Nat.le_refl _, Nat.le_refl _⟩ (Nat.le_of_ble_eq_true rfl) ?_
    rintro _ _ ⟨rfl, rfl⟩
    refine ab_go 1 [] (pc' := 488) (lo' := [some (.ref 3), some (.ref 8), some (.ref 23), some (.int (nI (5 * k + 1)))]) (st' := []) (h' := cs_H c' (rs_T r')) ckL_law rfl ?_
    exact ih _ _ hn
  · obtain ⟨c', r', e1, e2, hn⟩ := hok k c r hk hR 1 (Or.inr rfl)
    refine ab_if_eq ckL_law rfl (fun hh => absurd hh hz) (fun _ => ?_)
    refine ab_go 2 [] (pc' := 257) (lo' := [some (.ref 3), some (.ref 8), some (.ref 23), some (.int (nI (5 * k + 1)))]) (st' := [.int 1, .ref 8]) (h' := cs_H c (rs_T r)) ckL_law rfl ?_
    refine ab_callV (bc2 := 0) (bs2 := 0) (as := [_]) (rest := []) ckL_law rfl (by decide +kernel) wS_bus (tS_bus (d := d + 4) (x1 := 1) (c := c) (v := c') e1) rfl rfl (by omega) ⟨Nat.le_refl _, Nat.le_refl _⟩ (Nat.le_of_ble_eq_true rfl) ?_
    rintro _ _ ⟨rfl, rfl⟩
    refine ab_go 0 [] (pc' := 260) (lo' := [some (.ref 3), some (.ref 8), some (.ref 23), some (.int (nI (5 * k + 1)))]) (st' := []) (h' := cs_H c' (rs_T r)) ckL_law rfl ?_
    refine ab_go 5 [] (pc' := 265) (lo' := [some (.ref 3), some (.ref 8), some (.ref 23), some (.int (nI (5 * k + 1)))]) (st' := [.int ((nI (5 * k + 1)) + 1), .ref 3, .ref 23]) (h' := cs_H c' (rs_T r)) ckL_law rfl ?_
    refine ab_tald ckL_law rfl (by decide) hS (lw_vp (j := 1) hL h6 (by decide)) ?_
    refine ab_go 0 [] (pc' := 266) (lo' := [some (.ref 3), some (.ref 8), some (.ref 23), some (.int (nI (5 * k + 1)))]) (st' := [.int (xs (nI (5 * k + 1) + 1).toNatClampNeg), .ref 23]) (h' := cs_H c' (rs_T r)) ckL_law rfl ?_
    refine ab_if_eq ckL_law rfl (fun hh => absurd hh hz) (fun _ => ?_)
    refine ab_go 2 [] (pc' := 274) (lo' := [some (.ref 3), some (.ref 8), some (.ref 23), some (.int (nI (5 * k + 1)))]) (st' := [.int 1, .ref 23]) (h' := rs_H (cs_p c') r []) ckL_law rfl ?_
    refine ab_callV (bc2 := 0) (bs2 := 0) (as := [_]) (rest := []) ckL_law rfl (by decide +kernel) wR_bus (tR_bus (d := d + 4) (pf := cs_p c') (x1 := 1) (r := r) (v := r') e2) rfl rfl (by omega) ⟨Nat.le_refl _, Nat.le_refl _⟩ (Nat.le_of_ble_eq_true rfl) ?_
    rintro _ _ ⟨rfl, rfl⟩
    refine ab_go 1 [] (pc' := 488) (lo' := [some (.ref 3), some (.ref 8), some (.ref 23), some (.int (nI (5 * k + 1)))]) (st' := []) (h' := cs_H c' (rs_T r')) ckL_law rfl ?_
    exact ih _ _ hn
set_option maxHeartbeats 4000000 in
set_option maxRecDepth 20000 in
theorem lw_loop (hX : cs_X X) {L : Nat} {xs : Nat → Int32} (hL : L ≤ 2561) (hS : X.2.2.2.2.2[3]? = some (L, xs)) {LR : Nat → cs_S → cs_S → Prop} (hok : lw_ok LR) (m : Nat) : ∀ (k : Nat) (c r : cs_S), L ≤ 5 * (k + m) + 5 → k ≤ 600 → LR k c r → ab_W X mL_law (d + 8) 0 0 28 [some (.ref 3), some (.ref 8), some (.ref 23), some (.int (nI (5 * k + 1)))] [] (cs_H c (rs_T r)) (fun r9 h9 => r9 = some (Value.int 1)) := by
  obtain ⟨-, hmono, g0, g1, g2, g3, g4, g5, g6, g7, g8, g9, g10, g11, g12, g13, g14, g15, g16⟩ := hok
  induction m with
  | zero =>
    intro k c r hm hk hR
    refine ab_go 2 [] (pc' := 30) (lo' := [some (.ref 3), some (.ref 8), some (.ref 23), some (.int (nI (5 * k + 1)))]) (st' := [.ref 3, .int (nI (5 * k + 1))]) (h' := cs_H c (rs_T r)) ckL_law rfl ?_
    refine ab_tlen ckL_law rfl (by decide) hS ?_
    refine ab_go 2 [] (pc' := 33) (lo' := [some (.ref 3), some (.ref 8), some (.ref 23), some (.int (nI (5 * k + 1)))]) (st' := [.int (nI L - 5), .int (nI (5 * k + 1))]) (h' := cs_H c (rs_T r)) ckL_law rfl ?_
    refine ab_icmp_gt ckL_law rfl (fun (hc : nI L - 5 < nI (5 * k + 1)) => ?_) (fun (hc : ¬ nI L - 5 < nI (5 * k + 1)) => ?_)
    · refine ab_go 1 [] (pc' := 495) (lo' := [some (.ref 3), some (.ref 8), some (.ref 23), some (.int (nI (5 * k + 1)))]) (st' := [.int 1]) (h' := cs_H c (rs_T r)) ckL_law rfl ?_
      exact ab_zret ckL_law rfl rfl (Or.inr rfl) rfl
    have h6 : 5 * k + 6 ≤ L := by rw [lw_cmp hL hk] at hc; omega
    exact absurd h6 (by omega)
  | succ m ih =>
    intro k c r hm hk hR
    refine ab_go 2 [] (pc' := 30) (lo' := [some (.ref 3), some (.ref 8), some (.ref 23), some (.int (nI (5 * k + 1)))]) (st' := [.ref 3, .int (nI (5 * k + 1))]) (h' := cs_H c (rs_T r)) ckL_law rfl ?_
    refine ab_tlen ckL_law rfl (by decide) hS ?_
    refine ab_go 2 [] (pc' := 33) (lo' := [some (.ref 3), some (.ref 8), some (.ref 23), some (.int (nI (5 * k + 1)))]) (st' := [.int (nI L - 5), .int (nI (5 * k + 1))]) (h' := cs_H c (rs_T r)) ckL_law rfl ?_
    refine ab_icmp_gt ckL_law rfl (fun (hc : nI L - 5 < nI (5 * k + 1)) => ?_) (fun (hc : ¬ nI L - 5 < nI (5 * k + 1)) => ?_)
    · refine ab_go 1 [] (pc' := 495) (lo' := [some (.ref 3), some (.ref 8), some (.ref 23), some (.int (nI (5 * k + 1)))]) (st' := [.int 1]) (h' := cs_H c (rs_T r)) ckL_law rfl ?_
      exact ab_zret ckL_law rfl rfl (Or.inr rfl) rfl
    have h6 : 5 * k + 6 ≤ L := by rw [lw_cmp hL hk] at hc; omega
    have back : ∀ c1 r1, LR (k + 1) c1 r1 → ab_W X mL_law (d + 8) 0 0 488 [some (.ref 3), some (.ref 8), some (.ref 23), some (.int (nI (5 * k + 1)))] [] (cs_H c1 (rs_T r1)) (fun r9 h9 => r9 = some (Value.int 1)) := by
      intro c1 r1 h1
      refine ab_go 2 [] (pc' := 28) (lo' := [some (.ref 3), some (.ref 8), some (.ref 23), some (.int (nI (5 * k + 1) + 5))]) (st' := []) (h' := cs_H c1 (rs_T r1)) ckL_law rfl ?_
      rw [lw_i5]
      exact ih (k + 1) c1 r1 (by omega) (by omega) h1
    refine ab_go 2 [] (pc' := 38) (lo' := [some (.ref 3), some (.ref 8), some (.ref 23), some (.int (nI (5 * k + 1)))]) (st' := [.int (nI (5 * k + 1)), .ref 3]) (h' := cs_H c (rs_T r)) ckL_law rfl ?_
    refine ab_tald ckL_law rfl (by decide) hS (lw_vp0 hL h6) ?_
    refine ab_go 2 [] (pc' := 42) (lo' := [some (.ref 3), some (.ref 8), some (.ref 23), some (.int (nI (5 * k + 1)))]) (st' := [.int ((xs (nI (5 * k + 1)).toNatClampNeg) &&& 31)]) (h' := cs_H c (rs_T r)) ckL_law rfl ?_
    by_cases w0 : ((xs (nI (5 * k + 1)).toNatClampNeg) &&& 31) = 0
    · refine ab_tswI (tgt := 124) (off := 82) ckL_law rfl w0 (by decide) (by decide) rfl (by decide) ?_
      exact lw_c_receive hX hL hS g0 hk h6 hR back
    by_cases w1 : ((xs (nI (5 * k + 1)).toNatClampNeg) &&& 31) = 1
    · refine ab_tswI (tgt := 197) (off := 155) ckL_law rfl w1 (by decide) (by decide) rfl (by decide) ?_
      exact lw_c_tick hX hL hS g1 hk h6 hR back
    by_cases w2 : ((xs (nI (5 * k + 1)).toNatClampNeg) &&& 31) = 2
    · refine ab_tswI (tgt := 220) (off := 178) ckL_law rfl w2 (by decide) (by decide) rfl (by decide) ?_
      exact lw_c_run hX hL hS g2 hk h6 hR back
    by_cases w3 : ((xs (nI (5 * k + 1)).toNatClampNeg) &&& 31) = 3
    · refine ab_tswI (tgt := 243) (off := 201) ckL_law rfl w3 (by decide) (by decide) rfl (by decide) ?_
      exact lw_c_bus hX hL hS g3 hk h6 hR back
    by_cases w4 : ((xs (nI (5 * k + 1)).toNatClampNeg) &&& 31) = 4
    · refine ab_tswI (tgt := 280) (off := 238) ckL_law rfl w4 (by decide) (by decide) rfl (by decide) ?_
      exact lw_c_restart hX hL hS g4 hk h6 hR back
    by_cases w5 : ((xs (nI (5 * k + 1)).toNatClampNeg) &&& 31) = 5
    · refine ab_tswI (tgt := 291) (off := 249) ckL_law rfl w5 (by decide) (by decide) rfl (by decide) ?_
      exact lw_c_nextIdentifier hX hL hS g5 hk h6 hR back
    by_cases w6 : ((xs (nI (5 * k + 1)).toNatClampNeg) &&& 31) = 6
    · refine ab_tswI (tgt := 304) (off := 262) ckL_law rfl w6 (by decide) (by decide) rfl (by decide) ?_
      exact lw_c_nextLength hX hL hS g6 hk h6 hR back
    by_cases w7 : ((xs (nI (5 * k + 1)).toNatClampNeg) &&& 31) = 7
    · refine ab_tswI (tgt := 317) (off := 275) ckL_law rfl w7 (by decide) (by decide) rfl (by decide) ?_
      exact lw_c_nextData hX hL hS g7 hk h6 hR back
    by_cases w8 : ((xs (nI (5 * k + 1)).toNatClampNeg) &&& 31) = 8
    · refine ab_tswI (tgt := 331) (off := 289) ckL_law rfl w8 (by decide) (by decide) rfl (by decide) ?_
      exact lw_c_take hX hL hS g8 hk h6 hR back
    by_cases w9 : ((xs (nI (5 * k + 1)).toNatClampNeg) &&& 31) = 9
    · refine ab_tswI (tgt := 344) (off := 302) ckL_law rfl w9 (by decide) (by decide) rfl (by decide) ?_
      exact lw_c_waiting hX hL hS g9 hk h6 hR back
    by_cases w10 : ((xs (nI (5 * k + 1)).toNatClampNeg) &&& 31) = 10
    · refine ab_tswI (tgt := 357) (off := 315) ckL_law rfl w10 (by decide) (by decide) rfl (by decide) ?_
      exact lw_c_lost hX hL hS g10 hk h6 hR back
    by_cases w11 : ((xs (nI (5 * k + 1)).toNatClampNeg) &&& 31) = 11
    · refine ab_tswI (tgt := 370) (off := 328) ckL_law rfl w11 (by decide) (by decide) rfl (by decide) ?_
      exact lw_c_object hX hL hS g11 hk h6 hR back
    by_cases w12 : ((xs (nI (5 * k + 1)).toNatClampNeg) &&& 31) = 12
    · refine ab_tswI (tgt := 403) (off := 361) ckL_law rfl w12 (by decide) (by decide) rfl (by decide) ?_
      exact lw_c_network hX hL hS g12 hk h6 hR back
    by_cases w13 : ((xs (nI (5 * k + 1)).toNatClampNeg) &&& 31) = 13
    · refine ab_tswI (tgt := 416) (off := 374) ckL_law rfl w13 (by decide) (by decide) rfl (by decide) ?_
      exact lw_c_power hX hL hS g13 hk h6 hR back
    by_cases w14 : ((xs (nI (5 * k + 1)).toNatClampNeg) &&& 31) = 14
    · refine ab_tswI (tgt := 429) (off := 387) ckL_law rfl w14 (by decide) (by decide) rfl (by decide) ?_
      exact lw_c_speed hX hL hS g14 hk h6 hR back
    by_cases w15 : ((xs (nI (5 * k + 1)).toNatClampNeg) &&& 31) = 15
    · refine ab_tswI (tgt := 442) (off := 400) ckL_law rfl w15 (by decide) (by decide) rfl (by decide) ?_
      exact lw_c_position hX hL hS g15 hk h6 hR back
    by_cases w16 : ((xs (nI (5 * k + 1)).toNatClampNeg) &&& 31) = 16
    · refine ab_tswI (tgt := 455) (off := 413) ckL_law rfl w16 (by decide) (by decide) rfl (by decide) ?_
      exact lw_c_word hX hL hS g16 hk h6 hR back
    refine ab_tswO (tgt := 488) ckL_law rfl (by have a0 := lv_neT w0 (show (0 : Int32).toInt = 0 by decide); have a1 := lv_neT w1 (show (1 : Int32).toInt = 1 by decide); have a2 := lv_neT w2 (show (2 : Int32).toInt = 2 by decide); have a3 := lv_neT w3 (show (3 : Int32).toInt = 3 by decide); have a4 := lv_neT w4 (show (4 : Int32).toInt = 4 by decide); have a5 := lv_neT w5 (show (5 : Int32).toInt = 5 by decide); have a6 := lv_neT w6 (show (6 : Int32).toInt = 6 by decide); have a7 := lv_neT w7 (show (7 : Int32).toInt = 7 by decide); have a8 := lv_neT w8 (show (8 : Int32).toInt = 8 by decide); have a9 := lv_neT w9 (show (9 : Int32).toInt = 9 by decide); have a10 := lv_neT w10 (show (10 : Int32).toInt = 10 by decide); have a11 := lv_neT w11 (show (11 : Int32).toInt = 11 by decide); have a12 := lv_neT w12 (show (12 : Int32).toInt = 12 by decide); have a13 := lv_neT w13 (show (13 : Int32).toInt = 13 by decide); have a14 := lv_neT w14 (show (14 : Int32).toInt = 14 by decide); have a15 := lv_neT w15 (show (15 : Int32).toInt = 15 by decide); have a16 := lv_neT w16 (show (16 : Int32).toInt = 16 by decide); omega) (by decide) ?_
    exact back c r (hmono k c r hR)
theorem lw_z_in {L : Nat} (hL : L ≤ 2561) (h : ¬ nI L ≤ 0) : vp_in 0 L := by
  have h0 : 0 < L := by
    apply Decidable.byContradiction
    intro q
    have : L = 0 := by omega
    subst this
    exact h (by decide)
  exact vp_in_nI (n := 0) h0 (by omega)
/-- the script's first int, or 0 -/
def lw_z (L : Nat) (xs : Nat → Int32) : Int32 := if nI L ≤ 0 then 0 else xs (0 : Int32).toNatClampNeg
theorem tL_cell {L : Nat} {xs : Nat → Int32} (hL : L ≤ 2561) (hS : X.2.2.2.2.2[3]? = some (L, xs)) {hp : ab_H} : ab_M X mL_cell d 0 0 [.ref 3, .int 0] hp (fun r9 h9 => r9 = some (Value.int (lw_z L xs)) ∧ h9 = hp) := by
  refine ab_entry (by decide) (Nat.le_of_ble_eq_true rfl) ?_
  refine ab_go 2 [] (pc' := 2) (lo' := [some (.ref 3), some (.int 0)]) (st' := [.ref 3, .int 0]) (h' := hp) ckL_cell rfl ?_
  refine ab_tlen ckL_cell rfl (by decide) hS ?_
  refine ab_icmp_ge ckL_cell rfl (fun (h1 : nI L ≤ 0) => ?_) (fun (h1 : ¬ nI L ≤ 0) => ?_)
  · refine ab_go 1 [] (pc' := 13) (lo' := [some (.ref 3), some (.int 0)]) (st' := [.int 0]) (h' := hp) ckL_cell rfl ?_
    exact ab_iret ckL_cell rfl rfl ⟨by rw [lw_z, if_pos h1], rfl⟩
  · refine ab_go 2 [] (pc' := 8) (lo' := [some (.ref 3), some (.int 0)]) (st' := [.int 0, .ref 3]) (h' := hp) ckL_cell rfl ?_
    refine ab_tald ckL_cell rfl (by decide) hS (lw_z_in hL h1) ?_
    refine ab_go 1 [] (pc' := 13) (lo' := [some (.ref 3), some (.int 0)]) (st' := [.int (xs (0 : Int32).toNatClampNeg)]) (h' := hp) ckL_cell rfl ?_
    exact ab_iret ckL_cell rfl rfl ⟨by rw [lw_z, if_neg h1], rfl⟩
set_option maxHeartbeats 8000000 in
set_option maxRecDepth 20000 in
theorem lw_begin (hX : cs_X X) {L : Nat} {xs : Nat → Int32} (hL : L ≤ 2561) (hS : X.2.2.2.2.2[3]? = some (L, xs)) {LR : Nat → cs_S → cs_S → Prop} (hok : lw_ok LR) : ab_W X mL_law (d + 8) 29 1509 0 [some (.ref 3), none, none, none] [] [] (fun r9 h9 => r9 = some (Value.int 1)) := by
  obtain ⟨c, r, e1, e2, h0⟩ := hok.1 (lw_z L xs)
  refine ab_new (bc2 := 28) (bs2 := 1499) ckL_law rfl (by decide +kernel) ⟨Nat.le_refl _, by decide⟩ ?_
  refine ab_go 0 [] (pc' := 3) (lo' := [some (.ref 3), none, none, none]) (st' := [.ref 8]) (h' := [.inr (0, [.int 0, .null, .null, .null, .null, .null, .null, .null, .int 0, .int 0])]) ckL_law rfl ?_
  refine ab_go 3 [] (pc' := 6) (lo' := [some (.ref 3), none, none, none]) (st' := [.int 0, .ref 3, .ref 8, .ref 8]) (h' := [.inr (0, [.int 0, .null, .null, .null, .null, .null, .null, .null, .int 0, .int 0])]) ckL_law rfl ?_
  refine ab_callS (bc2 := 28) (bs2 := 1499) (as := [_, _]) (rest := [_, _]) ckL_law rfl (by decide +kernel) wL_cell (tL_cell (d := d + 7) hL hS) (by omega) ⟨by decide, by decide⟩ (Nat.le_of_ble_eq_true rfl) ?_
  rintro _ _ ⟨rfl, rfl⟩
  refine ab_go 0 [] (pc' := 9) (lo' := [some (.ref 3), none, none, none]) (st' := [.int (lw_z L xs), .ref 8, .ref 8]) (h' := [.inr (0, [.int 0, .null, .null, .null, .null, .null, .null, .null, .int 0, .int 0])]) ckL_law rfl ?_
  refine ab_callI (bc2 := 14) (bs2 := 1344) (as := [_]) (rest := [_]) ckL_law rfl (by decide +kernel) wS_init rfl (tS_init (d := d + 3) (x := lw_z L xs) hX (v := c) e1) (by decide) (by omega) ⟨by decide, by decide⟩ (Nat.le_of_ble_eq_true rfl) ?_
  rintro _ _ ⟨rfl, rfl⟩
  refine ab_go 1 [] (pc' := 13) (lo' := [some (.ref 3), some (.ref 8), none, none]) (st' := []) (h' := cs_H c []) ckL_law rfl ?_
  refine ab_new (bc2 := 13) (bs2 := 1313) ckL_law rfl (by decide +kernel) ⟨by decide, by decide⟩ ?_
  refine ab_go 0 [] (pc' := 16) (lo' := [some (.ref 3), some (.ref 8), none, none]) (st' := [.ref 23]) (h' := [cs_p c 0, cs_p c 1, cs_p c 2, cs_p c 3, cs_p c 4, cs_p c 5, cs_p c 6, cs_p c 7, cs_p c 8, cs_p c 9, cs_p c 10, cs_p c 11, cs_p c 12, cs_p c 13, cs_p c 14, .inr (7, [.null, .null, .null, .null, .null, .null, .null, .null, .null, .null, .int 0, .int 0, .null, .null, .int 0, .int 0, .null, .int 0, .int 0, .int 0, .int 0, .int 0, .int 0, .int 0, .int 0, .int 0, .int 0, .int 0, .int 0, .int 0, .long 0])]) ckL_law rfl ?_
  refine ab_go 3 [] (pc' := 19) (lo' := [some (.ref 3), some (.ref 8), none, none]) (st' := [.int 0, .ref 3, .ref 23, .ref 23]) (h' := [cs_p c 0, cs_p c 1, cs_p c 2, cs_p c 3, cs_p c 4, cs_p c 5, cs_p c 6, cs_p c 7, cs_p c 8, cs_p c 9, cs_p c 10, cs_p c 11, cs_p c 12, cs_p c 13, cs_p c 14, .inr (7, [.null, .null, .null, .null, .null, .null, .null, .null, .null, .null, .int 0, .int 0, .null, .null, .int 0, .int 0, .null, .int 0, .int 0, .int 0, .int 0, .int 0, .int 0, .int 0, .int 0, .int 0, .int 0, .int 0, .int 0, .int 0, .long 0])]) ckL_law rfl ?_
  refine ab_callS (bc2 := 13) (bs2 := 1313) (as := [_, _]) (rest := [_, _]) ckL_law rfl (by decide +kernel) wL_cell (tL_cell (d := d + 7) hL hS) (by omega) ⟨by decide, by decide⟩ (Nat.le_of_ble_eq_true rfl) ?_
  rintro _ _ ⟨rfl, rfl⟩
  refine ab_go 0 [] (pc' := 22) (lo' := [some (.ref 3), some (.ref 8), none, none]) (st' := [.int (lw_z L xs), .ref 23, .ref 23]) (h' := [cs_p c 0, cs_p c 1, cs_p c 2, cs_p c 3, cs_p c 4, cs_p c 5, cs_p c 6, cs_p c 7, cs_p c 8, cs_p c 9, cs_p c 10, cs_p c 11, cs_p c 12, cs_p c 13, cs_p c 14, .inr (7, [.null, .null, .null, .null, .null, .null, .null, .null, .null, .null, .int 0, .int 0, .null, .null, .int 0, .int 0, .null, .int 0, .int 0, .int 0, .int 0, .int 0, .int 0, .int 0, .int 0, .int 0, .int 0, .int 0, .int 0, .int 0, .long 0])]) ckL_law rfl ?_
  refine ab_callI (bc2 := 0) (bs2 := 0) (as := [_]) (rest := [_]) ckL_law rfl (by decide +kernel) wR_init rfl (tR_init (d := d + 5) (pf := cs_p c) (x := lw_z L xs) (v := r) e2) (by decide) (by omega) ⟨by decide, by decide⟩ (Nat.le_of_ble_eq_true rfl) ?_
  rintro _ _ ⟨rfl, rfl⟩
  refine ab_go 3 [] (pc' := 28) (lo' := [some (.ref 3), some (.ref 8), some (.ref 23), some (.int (nI (5 * 0 + 1)))]) (st' := []) (h' := cs_H c (rs_T r)) ckL_law rfl ?_
  exact lw_loop hX hL hS hok 600 0 c r (by omega) (by omega) h0
end LAW2
