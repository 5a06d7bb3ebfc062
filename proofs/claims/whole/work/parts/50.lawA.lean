/-! The law: its walk, over what must be known of the two (lw_ok: pure) -/
theorem ab_tlen {X : ab_C} {M : ab_Mt} {code : ab_Cd} {d bc bs pc : Nat} {lo : ab_Lo} {st : List Value} {h : ab_H} {Q : Option Value → ab_H → Prop} {a n : Nat} {f : Nat → Int32} {len ci kf : Nat} {cv : Value} (hck : ab_ckM M code = true) (hf : ab_fetch code pc = some (.arraylength, len, cv, ci, kf)) (ha : a < ab_NT) (hc0 : X.2.2.2.2.2[a]? = some (n, f)) (k : ab_W X M d bc bs (pc + 1) lo (.int (nI n) :: st) h Q) : ab_W X M d bc bs pc lo (.ref a :: st) h Q := by
  obtain ⟨hd, hc⟩ := ab_ck_at hck hf
  obtain rfl : len = 1 := eq_of_beq (show (len == 1) = true from hc)
  intro p e R s m args below meth c H locs cells slots ls F V
  have hkk := k p e R s m args below meth c H locs cells slots ls F V
  obtain ⟨hx, hb, hr, hml, hown, hts, hlk, hnm, hok, hfr, hlo⟩ := F
  obtain ⟨v1, v2, hS, hRel, hLR⟩ := V
  show W _ _ _ _ _ _ _ _ _ _ _ _ _ _ _ (F0 m pc ls (ab_v X (.ref a) :: st.map (ab_v X)))
  rw [ab_ad_tab ha]
  exact va_tlen hx hb (hok.2.1 a n f hc0) hS rfl hd hkk
def rs_T (r : cs_S) : ab_H := (rs_H (fun _ => .inr (0, [])) r []).drop 15
def cs_p (c : cs_S) (k : Nat) : va_E := (cs_H c []).getD k (.inr (0, []))
/-- what the pure part owes: at the start, and at every call, the two answer alike and stay alike (n: calls so far) -/
def lw_ok0 (LR : Nat → cs_S → cs_S → Prop) : Prop := ∀ x : Int32, ∃ (c r : cs_S), fS_comeUp (cs_0 (cs_node x)) = some c ∧ fR_restart (rs_0 (cs_node x)) = some r ∧ LR 0 c r
def lw_ok_receive (LR : Nat → cs_S → cs_S → Prop) : Prop := ∀ (n : Nat) (c r : cs_S), n ≤ 600 → LR n c r → (∀ a1 : Int32, ∀ a2 : Int32, ∀ a3 : Int64, ∃ (v : Int32) (c' : cs_S) (r' : cs_S), fS_receive c a1 a2 a3 = some (v, c') ∧ fR_receive r a1 a2 a3 = some (v, r') ∧ LR (n + 1) c' r')
def lw_ok_tick (LR : Nat → cs_S → cs_S → Prop) : Prop := ∀ (n : Nat) (c r : cs_S), n ≤ 600 → LR n c r → (∀ a1 : Int32, ∃ (v : Int32) (c' : cs_S) (r' : cs_S), fS_tick c a1 = some (v, c') ∧ fR_tick r a1 = some (v, r') ∧ LR (n + 1) c' r')
def lw_ok_run (LR : Nat → cs_S → cs_S → Prop) : Prop := ∀ (n : Nat) (c r : cs_S), n ≤ 600 → LR n c r → (∀ a1 : Int32, ∃ (v : Int32) (c' : cs_S) (r' : cs_S), fS_run c a1 = some (v, c') ∧ fR_run r a1 = some (v, r') ∧ LR (n + 1) c' r')
def lw_ok_bus (LR : Nat → cs_S → cs_S → Prop) : Prop := ∀ (n : Nat) (c r : cs_S), n ≤ 600 → LR n c r → (∀ a1 : Int32, a1 = 0 ∨ a1 = 1 → ∃ (c' : cs_S) (r' : cs_S), fS_bus c a1 = some c' ∧ fR_bus r a1 = some r' ∧ LR (n + 1) c' r')
def lw_ok_restart (LR : Nat → cs_S → cs_S → Prop) : Prop := ∀ (n : Nat) (c r : cs_S), n ≤ 600 → LR n c r → (∃ (c' : cs_S) (r' : cs_S), fS_restart c = some c' ∧ fR_restart r = some r' ∧ LR (n + 1) c' r')
def lw_ok_nextIdentifier (LR : Nat → cs_S → cs_S → Prop) : Prop := ∀ (n : Nat) (c r : cs_S), n ≤ 600 → LR n c r → (∃ (v : Int32), fS_nextIdentifier c = v ∧ fR_nextIdentifier r = some v ∧ LR (n + 1) c r)
def lw_ok_nextLength (LR : Nat → cs_S → cs_S → Prop) : Prop := ∀ (n : Nat) (c r : cs_S), n ≤ 600 → LR n c r → (∃ (v : Int32), fS_nextLength c = v ∧ fR_nextLength r = some v ∧ LR (n + 1) c r)
def lw_ok_nextData (LR : Nat → cs_S → cs_S → Prop) : Prop := ∀ (n : Nat) (c r : cs_S), n ≤ 600 → LR n c r → (∃ (v : Int64), fS_nextData c = some v ∧ fR_nextData r = some v ∧ LR (n + 1) c r)
def lw_ok_take (LR : Nat → cs_S → cs_S → Prop) : Prop := ∀ (n : Nat) (c r : cs_S), n ≤ 600 → LR n c r → (∃ (v : Int32) (c' : cs_S) (r' : cs_S), fS_take c = some (v, c') ∧ fR_take r = some (v, r') ∧ LR (n + 1) c' r')
def lw_ok_waiting (LR : Nat → cs_S → cs_S → Prop) : Prop := ∀ (n : Nat) (c r : cs_S), n ≤ 600 → LR n c r → (∃ (v : Int32), fS_waiting c = v ∧ fR_waiting r = v ∧ LR (n + 1) c r)
def lw_ok_lost (LR : Nat → cs_S → cs_S → Prop) : Prop := ∀ (n : Nat) (c r : cs_S), n ≤ 600 → LR n c r → (∃ (v : Int32), fS_lost c = v ∧ fR_lost r = v ∧ LR (n + 1) c r)
def lw_ok_object (LR : Nat → cs_S → cs_S → Prop) : Prop := ∀ (n : Nat) (c r : cs_S), n ≤ 600 → LR n c r → (∀ a1 : Int32, ∀ a2 : Int32, ∃ (v : Int32) (c' : cs_S), fS_object c a1 a2 = some (v, c') ∧ fR_object r a1 a2 = some v ∧ LR (n + 1) c' r)
def lw_ok_network (LR : Nat → cs_S → cs_S → Prop) : Prop := ∀ (n : Nat) (c r : cs_S), n ≤ 600 → LR n c r → (∃ (v : Int32), fS_network c = v ∧ fR_network r = v ∧ LR (n + 1) c r)
def lw_ok_power (LR : Nat → cs_S → cs_S → Prop) : Prop := ∀ (n : Nat) (c r : cs_S), n ≤ 600 → LR n c r → (∃ (v : Int32), fS_power c = v ∧ fR_power r = v ∧ LR (n + 1) c r)
def lw_ok_speed (LR : Nat → cs_S → cs_S → Prop) : Prop := ∀ (n : Nat) (c r : cs_S), n ≤ 600 → LR n c r → (∃ (v : Int32), fS_speed c = v ∧ fR_speed r = v ∧ LR (n + 1) c r)
def lw_ok_position (LR : Nat → cs_S → cs_S → Prop) : Prop := ∀ (n : Nat) (c r : cs_S), n ≤ 600 → LR n c r → (∃ (v : Int32), fS_position c = v ∧ fR_position r = v ∧ LR (n + 1) c r)
def lw_ok_word (LR : Nat → cs_S → cs_S → Prop) : Prop := ∀ (n : Nat) (c r : cs_S), n ≤ 600 → LR n c r → (∀ a1 : Int32, ∀ a2 : Int32, ∃ (v : Int32), fS_word c a1 a2 = some v ∧ fR_word r a1 a2 = some v ∧ LR (n + 1) c r)
def lw_ok (LR : Nat → cs_S → cs_S → Prop) : Prop := lw_ok0 LR ∧ (∀ (n : Nat) (c r : cs_S), LR n c r → LR (n + 1) c r) ∧ lw_ok_receive LR ∧ lw_ok_tick LR ∧ lw_ok_run LR ∧ lw_ok_bus LR ∧ lw_ok_restart LR ∧ lw_ok_nextIdentifier LR ∧ lw_ok_nextLength LR ∧ lw_ok_nextData LR ∧ lw_ok_take LR ∧ lw_ok_waiting LR ∧ lw_ok_lost LR ∧ lw_ok_object LR ∧ lw_ok_network LR ∧ lw_ok_power LR ∧ lw_ok_speed LR ∧ lw_ok_position LR ∧ lw_ok_word LR
theorem lw_n1 (k j : Nat) : nI (5 * k + 1) + nI j = nI (5 * k + 1 + j) := nI_add _ _
theorem lw_vp {L k j : Nat} (hL : L ≤ 2561) (h : 5 * k + 6 ≤ L) (hj : j ≤ 4) : vp_in (nI (5 * k + 1) + nI j) L := by
  rw [lw_n1]
  exact vp_in_nI (by omega) (by omega)
theorem lw_vp0 {L k : Nat} (hL : L ≤ 2561) (h : 5 * k + 6 ≤ L) : vp_in (nI (5 * k + 1)) L := vp_in_nI (by omega) (by omega)
theorem lw_cmp {L k : Nat} (hL : L ≤ 2561) (hk : k ≤ 600) : (nI L - 5 < nI (5 * k + 1)) ↔ L < 5 * k + 6 := by
  have h5 : (nI L - 5).toInt = (L : Int) - 5 := pk_sub_toInt (a := L) (b := 5) (by omega) (by omega)
  rw [Int32.lt_iff_toInt_lt, h5, nI_toInt (by omega)]
  omega
theorem lw_i5 (k : Nat) : nI (5 * k + 1) + 5 = nI (5 * (k + 1) + 1) := by
  rw [show (5 : Int32) = nI 5 from rfl, nI_add]
  congr 1
section LAW
variable {X : ab_C} {d : Nat}
set_option maxHeartbeats 4000000 in
set_option maxRecDepth 20000 in
theorem lw_c_receive (hX : cs_X X) {L : Nat} {xs : Nat → Int32} (hL : L ≤ 2561) (hS : X.2.2.2.2.2[3]? = some (L, xs)) {LR : Nat → cs_S → cs_S → Prop} (hok : lw_ok_receive LR) {k : Nat} {c r : cs_S} (hk : k ≤ 600) (h6 : 5 * k + 6 ≤ L) (hR : LR k c r) (ih : ∀ c1 r1, LR (k + 1) c1 r1 → ab_W X mL_law (d + 8) 0 0 488 [some (.ref 3), some (.ref 8), some (.ref 23), some (.int (nI (5 * k + 1)))] [] (cs_H c1 (rs_T r1)) (fun r9 h9 => r9 = some (Value.int 1))) : ab_W X mL_law (d + 8) 0 0 124 [some (.ref 3), some (.ref 8), some (.ref 23), some (.int (nI (5 * k + 1)))] [] (cs_H c (rs_T r)) (fun r9 h9 => r9 = some (Value.int 1)) := by
  obtain ⟨v, c', r', e1, e2, hn⟩ := hok k c r hk hR (xs (nI (5 * k + 1) + 1).toNatClampNeg) (xs (nI (5 * k + 1) + 2).toNatClampNeg) ((((xs (nI (5 * k + 1) + 3).toNatClampNeg)).toInt64 <<< ((32 : Int32).toInt64 &&& 63)) ||| (((xs (nI (5 * k + 1) + 4).toNatClampNeg)).toInt64 &&& 4294967295))
  refine ab_go 5 [] (pc' := 129) (lo' := [some (.ref 3), some (.ref 8), some (.ref 23), some (.int (nI (5 * k + 1)))]) (st' := [.int ((nI (5 * k + 1)) + 1), .ref 3, .ref 8]) (h' := cs_H c (rs_T r)) ckL_law rfl ?_
  refine ab_tald ckL_law rfl (by decide) hS (lw_vp (j := 1) hL h6 (by decide)) ?_
  refine ab_go 4 [] (pc' := 134) (lo' := [some (.ref 3), some (.ref 8), some (.ref 23), some (.int (nI (5 * k + 1)))]) (st' := [.int ((nI (5 * k + 1)) + 2), .ref 3, .int (xs (nI (5 * k + 1) + 1).toNatClampNeg), .ref 8]) (h' := cs_H c (rs_T r)) ckL_law rfl ?_
  refine ab_tald ckL_law rfl (by decide) hS (lw_vp (j := 2) hL h6 (by decide)) ?_
  refine ab_go 4 [] (pc' := 139) (lo' := [some (.ref 3), some (.ref 8), some (.ref 23), some (.int (nI (5 * k + 1)))]) (st' := [.int ((nI (5 * k + 1)) + 3), .ref 3, .int (xs (nI (5 * k + 1) + 2).toNatClampNeg), .int (xs (nI (5 * k + 1) + 1).toNatClampNeg), .ref 8]) (h' := cs_H c (rs_T r)) ckL_law rfl ?_
  refine ab_tald ckL_law rfl (by decide) hS (lw_vp (j := 3) hL h6 (by decide)) ?_
  refine ab_go 7 [] (pc' := 148) (lo' := [some (.ref 3), some (.ref 8), some (.ref 23), some (.int (nI (5 * k + 1)))]) (st' := [.int ((nI (5 * k + 1)) + 4), .ref 3, .long (((xs (nI (5 * k + 1) + 3).toNatClampNeg)).toInt64 <<< ((32 : Int32).toInt64 &&& 63)), .int (xs (nI (5 * k + 1) + 2).toNatClampNeg), .int (xs (nI (5 * k + 1) + 1).toNatClampNeg), .ref 8]) (h' := cs_H c (rs_T r)) ckL_law rfl ?_
  refine ab_tald ckL_law rfl (by decide) hS (lw_vp (j := 4) hL h6 (by decide)) ?_
  refine ab_go 4 [] (pc' := 155) (lo' := [some (.ref 3), some (.ref 8), some (.ref 23), some (.int (nI (5 * k + 1)))]) (st' := [.long ((((xs (nI (5 * k + 1) + 3).toNatClampNeg)).toInt64 <<< ((32 : Int32).toInt64 &&& 63)) ||| (((xs (nI (5 * k + 1) + 4).toNatClampNeg)).toInt64 &&& 4294967295)), .int (xs (nI (5 * k + 1) + 2).toNatClampNeg), .int (xs (nI (5 * k + 1) + 1).toNatClampNeg), .ref 8]) (h' := cs_H c (rs_T r)) ckL_law rfl ?_
  refine ab_callV (bc2 := 0) (bs2 := 0) (as := [_, _, _]) (rest := []) ckL_law rfl (by decide +kernel) wS_receive (tS_receive (d := d + 1) (x1 := (xs (nI (5 * k + 1) + 1).toNatClampNeg)) (x2 := (xs (nI (5 * k + 1) + 2).toNatClampNeg)) (x3 := ((((xs (nI (5 * k + 1) + 3).toNatClampNeg)).toInt64 <<< ((32 : Int32).toInt64 &&& 63)) ||| (((xs (nI (5 * k + 1) + 4).toNatClampNeg)).toInt64 &&& 4294967295))) (c := c) hX (v := (v, c')) e1) rfl rfl (by omega) ⟨Nat.le_refl _, Nat.le_refl _⟩ (Nat.le_of_ble_eq_true rfl) ?_
  rintro _ _ ⟨rfl, rfl⟩
  refine ab_go 0 [] (pc' := 158) (lo' := [some (.ref 3), some (.ref 8), some (.ref 23), some (.int (nI (5 * k + 1)))]) (st' := [.int v]) (h' := cs_H c' (rs_T r)) ckL_law rfl ?_
  refine ab_go 5 [] (pc' := 163) (lo' := [some (.ref 3), some (.ref 8), some (.ref 23), some (.int (nI (5 * k + 1)))]) (st' := [.int ((nI (5 * k + 1)) + 1), .ref 3, .ref 23, .int v]) (h' := cs_H c' (rs_T r)) ckL_law rfl ?_
  refine ab_tald ckL_law rfl (by decide) hS (lw_vp (j := 1) hL h6 (by decide)) ?_
  refine ab_go 4 [] (pc' := 168) (lo' := [some (.ref 3), some (.ref 8), some (.ref 23), some (.int (nI (5 * k + 1)))]) (st' := [.int ((nI (5 * k + 1)) + 2), .ref 3, .int (xs (nI (5 * k + 1) + 1).toNatClampNeg), .ref 23, .int v]) (h' := cs_H c' (rs_T r)) ckL_law rfl ?_
  refine ab_tald ckL_law rfl (by decide) hS (lw_vp (j := 2) hL h6 (by decide)) ?_
  refine ab_go 4 [] (pc' := 173) (lo' := [some (.ref 3), some (.ref 8), some (.ref 23), some (.int (nI (5 * k + 1)))]) (st' := [.int ((nI (5 * k + 1)) + 3), .ref 3, .int (xs (nI (5 * k + 1) + 2).toNatClampNeg), .int (xs (nI (5 * k + 1) + 1).toNatClampNeg), .ref 23, .int v]) (h' := cs_H c' (rs_T r)) ckL_law rfl ?_
  refine ab_tald ckL_law rfl (by decide) hS (lw_vp (j := 3) hL h6 (by decide)) ?_
  refine ab_go 7 [] (pc' := 182) (lo' := [some (.ref 3), some (.ref 8), some (.ref 23), some (.int (nI (5 * k + 1)))]) (st' := [.int ((nI (5 * k + 1)) + 4), .ref 3, .long (((xs (nI (5 * k + 1) + 3).toNatClampNeg)).toInt64 <<< ((32 : Int32).toInt64 &&& 63)), .int (xs (nI (5 * k + 1) + 2).toNatClampNeg), .int (xs (nI (5 * k + 1) + 1).toNatClampNeg), .ref 23, .int v]) (h' := cs_H c' (rs_T r)) ckL_law rfl ?_
  refine ab_tald ckL_law rfl (by decide) hS (lw_vp (j := 4) hL h6 (by decide)) ?_
  refine ab_go 4 [] (pc' := 189) (lo' := [some (.ref 3), some (.ref 8), some (.ref 23), some (.int (nI (5 * k + 1)))]) (st' := [.long ((((xs (nI (5 * k + 1) + 3).toNatClampNeg)).toInt64 <<< ((32 : Int32).toInt64 &&& 63)) ||| (((xs (nI (5 * k + 1) + 4).toNatClampNeg)).toInt64 &&& 4294967295)), .int (xs (nI (5 * k + 1) + 2).toNatClampNeg), .int (xs (nI (5 * k + 1) + 1).toNatClampNeg), .ref 23, .int v]) (h' := rs_H (cs_p c') r []) ckL_law rfl ?_
  refine ab_callV (bc2 := 0) (bs2 := 0) (as := [_, _, _]) (rest := [_]) ckL_law rfl (by decide +kernel) wR_receive (tR_receive (d := d + 1) (pf := cs_p c') (x1 := (xs (nI (5 * k + 1) + 1).toNatClampNeg)) (x2 := (xs (nI (5 * k + 1) + 2).toNatClampNeg)) (x3 := ((((xs (nI (5 * k + 1) + 3).toNatClampNeg)).toInt64 <<< ((32 : Int32).toInt64 &&& 63)) ||| (((xs (nI (5 * k + 1) + 4).toNatClampNeg)).toInt64 &&& 4294967295))) (r := r) (v := (v, r')) e2) rfl rfl (by omega) ⟨Nat.le_refl _, Nat.le_refl _⟩ (Nat.le_of_ble_eq_true rfl) ?_
  rintro _ _ ⟨rfl, rfl⟩
  refine ab_go 0 [] (pc' := 192) (lo' := [some (.ref 3), some (.ref 8), some (.ref 23), some (.int (nI (5 * k + 1)))]) (st' := [.int v, .int v]) (h' := cs_H c' (rs_T r')) ckL_law rfl ?_
  refine ab_go 0 [] (pc' := 192) (lo' := [some (.ref 3), some (.ref 8), some (.ref 23), some (.int (nI (5 * k + 1)))]) (st' := [.int v, .int v]) (h' := cs_H c' (rs_T r')) ckL_law rfl ?_
  refine ab_icmp_eq ckL_law rfl (fun _ => ?_) (fun hh => absurd rfl hh)
  exact ih _ _ hn
set_option maxHeartbeats 4000000 in
set_option maxRecDepth 20000 in
theorem lw_c_tick (hX : cs_X X) {L : Nat} {xs : Nat → Int32} (hL : L ≤ 2561) (hS : X.2.2.2.2.2[3]? = some (L, xs)) {LR : Nat → cs_S → cs_S → Prop} (hok : lw_ok_tick LR) {k : Nat} {c r : cs_S} (hk : k ≤ 600) (h6 : 5 * k + 6 ≤ L) (hR : LR k c r) (ih : ∀ c1 r1, LR (k + 1) c1 r1 → ab_W X mL_law (d + 8) 0 0 488 [some (.ref 3), some (.ref 8), some (.ref 23), some (.int (nI (5 * k + 1)))] [] (cs_H c1 (rs_T r1)) (fun r9 h9 => r9 = some (Value.int 1))) : ab_W X mL_law (d + 8) 0 0 197 [some (.ref 3), some (.ref 8), some (.ref 23), some (.int (nI (5 * k + 1)))] [] (cs_H c (rs_T r)) (fun r9 h9 => r9 = some (Value.int 1)) := by
  obtain ⟨v, c', r', e1, e2, hn⟩ := hok k c r hk hR (xs (nI (5 * k + 1) + 1).toNatClampNeg)
  refine ab_go 5 [] (pc' := 202) (lo' := [some (.ref 3), some (.ref 8), some (.ref 23), some (.int (nI (5 * k + 1)))]) (st' := [.int ((nI (5 * k + 1)) + 1), .ref 3, .ref 8]) (h' := cs_H c (rs_T r)) ckL_law rfl ?_
  refine ab_tald ckL_law rfl (by decide) hS (lw_vp (j := 1) hL h6 (by decide)) ?_
  refine ab_go 0 [] (pc' := 203) (lo' := [some (.ref 3), some (.ref 8), some (.ref 23), some (.int (nI (5 * k + 1)))]) (st' := [.int (xs (nI (5 * k + 1) + 1).toNatClampNeg), .ref 8]) (h' := cs_H c (rs_T r)) ckL_law rfl ?_
  refine ab_callV (bc2 := 0) (bs2 := 0) (as := [_]) (rest := []) ckL_law rfl (by decide +kernel) wS_tick (tS_tick (d := d + 1) (x1 := (xs (nI (5 * k + 1) + 1).toNatClampNeg)) (c := c) hX (v := (v, c')) e1) rfl rfl (by omega) ⟨Nat.le_refl _, Nat.le_refl _⟩ (Nat.le_of_ble_eq_true rfl) ?_
  rintro _ _ ⟨rfl, rfl⟩
  refine ab_go 0 [] (pc' := 206) (lo' := [some (.ref 3), some (.ref 8), some (.ref 23), some (.int (nI (5 * k + 1)))]) (st' := [.int v]) (h' := cs_H c' (rs_T r)) ckL_law rfl ?_
  refine ab_go 5 [] (pc' := 211) (lo' := [some (.ref 3), some (.ref 8), some (.ref 23), some (.int (nI (5 * k + 1)))]) (st' := [.int ((nI (5 * k + 1)) + 1), .ref 3, .ref 23, .int v]) (h' := cs_H c' (rs_T r)) ckL_law rfl ?_
  refine ab_tald ckL_law rfl (by decide) hS (lw_vp (j := 1) hL h6 (by decide)) ?_
  refine ab_go 0 [] (pc' := 212) (lo' := [some (.ref 3), some (.ref 8), some (.ref 23), some (.int (nI (5 * k + 1)))]) (st' := [.int (xs (nI (5 * k + 1) + 1).toNatClampNeg), .ref 23, .int v]) (h' := rs_H (cs_p c') r []) ckL_law rfl ?_
  refine ab_callV (bc2 := 0) (bs2 := 0) (as := [_]) (rest := [_]) ckL_law rfl (by decide +kernel) wR_tick (tR_tick (d := d + 0) (pf := cs_p c') (x1 := (xs (nI (5 * k + 1) + 1).toNatClampNeg)) (r := r) (v := (v, r')) e2) rfl rfl (by omega) ⟨Nat.le_refl _, Nat.le_refl _⟩ (Nat.le_of_ble_eq_true rfl) ?_
  rintro _ _ ⟨rfl, rfl⟩
  refine ab_go 0 [] (pc' := 215) (lo' := [some (.ref 3), some (.ref 8), some (.ref 23), some (.int (nI (5 * k + 1)))]) (st' := [.int v, .int v]) (h' := cs_H c' (rs_T r')) ckL_law rfl ?_
  refine ab_go 0 [] (pc' := 215) (lo' := [some (.ref 3), some (.ref 8), some (.ref 23), some (.int (nI (5 * k + 1)))]) (st' := [.int v, .int v]) (h' := cs_H c' (rs_T r')) ckL_law rfl ?_
  refine ab_icmp_eq ckL_law rfl (fun _ => ?_) (fun hh => absurd rfl hh)
  exact ih _ _ hn
set_option maxHeartbeats 4000000 in
set_option maxRecDepth 20000 in
theorem lw_c_run (hX : cs_X X) {L : Nat} {xs : Nat → Int32} (hL : L ≤ 2561) (hS : X.2.2.2.2.2[3]? = some (L, xs)) {LR : Nat → cs_S → cs_S → Prop} (hok : lw_ok_run LR) {k : Nat} {c r : cs_S} (hk : k ≤ 600) (h6 : 5 * k + 6 ≤ L) (hR : LR k c r) (ih : ∀ c1 r1, LR (k + 1) c1 r1 → ab_W X mL_law (d + 8) 0 0 488 [some (.ref 3), some (.ref 8), some (.ref 23), some (.int (nI (5 * k + 1)))] [] (cs_H c1 (rs_T r1)) (fun r9 h9 => r9 = some (Value.int 1))) : ab_W X mL_law (d + 8) 0 0 220 [some (.ref 3), some (.ref 8), some (.ref 23), some (.int (nI (5 * k + 1)))] [] (cs_H c (rs_T r)) (fun r9 h9 => r9 = some (Value.int 1)) := by
  obtain ⟨v, c', r', e1, e2, hn⟩ := hok k c r hk hR (xs (nI (5 * k + 1) + 1).toNatClampNeg)
  refine ab_go 5 [] (pc' := 225) (lo' := [some (.ref 3), some (.ref 8), some (.ref 23), some (.int (nI (5 * k + 1)))]) (st' := [.int ((nI (5 * k + 1)) + 1), .ref 3, .ref 8]) (h' := cs_H c (rs_T r)) ckL_law rfl ?_
  refine ab_tald ckL_law rfl (by decide) hS (lw_vp (j := 1) hL h6 (by decide)) ?_
  refine ab_go 0 [] (pc' := 226) (lo' := [some (.ref 3), some (.ref 8), some (.ref 23), some (.int (nI (5 * k + 1)))]) (st' := [.int (xs (nI (5 * k + 1) + 1).toNatClampNeg), .ref 8]) (h' := cs_H c (rs_T r)) ckL_law rfl ?_
  refine ab_callV (bc2 := 0) (bs2 := 0) (as := [_]) (rest := []) ckL_law rfl (by decide +kernel) wS_run (tS_run (d := d + 1) (x1 := (xs (nI (5 * k + 1) + 1).toNatClampNeg)) (c := c) hX (v := (v, c')) e1) rfl rfl (by omega) ⟨Nat.le_refl _, Nat.le_refl _⟩ (Nat.le_of_ble_eq_true rfl) ?_
  rintro _ _ ⟨rfl, rfl⟩
  refine ab_go 0 [] (pc' := 229) (lo' := [some (.ref 3), some (.ref 8), some (.ref 23), some (.int (nI (5 * k + 1)))]) (st' := [.int v]) (h' := cs_H c' (rs_T r)) ckL_law rfl ?_
  refine ab_go 5 [] (pc' := 234) (lo' := [some (.ref 3), some (.ref 8), some (.ref 23), some (.int (nI (5 * k + 1)))]) (st' := [.int ((nI (5 * k + 1)) + 1), .ref 3, .ref 23, .int v]) (h' := cs_H c' (rs_T r)) ckL_law rfl ?_
  refine ab_tald ckL_law rfl (by decide) hS (lw_vp (j := 1) hL h6 (by decide)) ?_
  refine ab_go 0 [] (pc' := 235) (lo' := [some (.ref 3), some (.ref 8), some (.ref 23), some (.int (nI (5 * k + 1)))]) (st' := [.int (xs (nI (5 * k + 1) + 1).toNatClampNeg), .ref 23, .int v]) (h' := rs_H (cs_p c') r []) ckL_law rfl ?_
  refine ab_callV (bc2 := 0) (bs2 := 0) (as := [_]) (rest := [_]) ckL_law rfl (by decide +kernel) wR_run (tR_run (d := d + 0) (pf := cs_p c') (x1 := (xs (nI (5 * k + 1) + 1).toNatClampNeg)) (r := r) (v := (v, r')) e2) rfl rfl (by omega) ⟨Nat.le_refl _, Nat.le_refl _⟩ (Nat.le_of_ble_eq_true rfl) ?_
  rintro _ _ ⟨rfl, rfl⟩
  refine ab_go 0 [] (pc' := 238) (lo' := [some (.ref 3), some (.ref 8), some (.ref 23), some (.int (nI (5 * k + 1)))]) (st' := [.int v, .int v]) (h' := cs_H c' (rs_T r')) ckL_law rfl ?_
  refine ab_go 0 [] (pc' := 238) (lo' := [some (.ref 3), some (.ref 8), some (.ref 23), some (.int (nI (5 * k + 1)))]) (st' := [.int v, .int v]) (h' := cs_H c' (rs_T r')) ckL_law rfl ?_
  refine ab_icmp_eq ckL_law rfl (fun _ => ?_) (fun hh => absurd rfl hh)
  exact ih _ _ hn
set_option maxHeartbeats 4000000 in
set_option maxRecDepth 20000 in
theorem lw_c_restart (hX : cs_X X) {L : Nat} {xs : Nat → Int32} (hL : L ≤ 2561) (hS : X.2.2.2.2.2[3]? = some (L, xs)) {LR : Nat → cs_S → cs_S → Prop} (hok : lw_ok_restart LR) {k : Nat} {c r : cs_S} (hk : k ≤ 600) (h6 : 5 * k + 6 ≤ L) (hR : LR k c r) (ih : ∀ c1 r1, LR (k + 1) c1 r1 → ab_W X mL_law (d + 8) 0 0 488 [some (.ref 3), some (.ref 8), some (.ref 23), some (.int (nI (5 * k + 1)))] [] (cs_H c1 (rs_T r1)) (fun r9 h9 => r9 = some (Value.int 1))) : ab_W X mL_law (d + 8) 0 0 280 [some (.ref 3), some (.ref 8), some (.ref 23), some (.int (nI (5 * k + 1)))] [] (cs_H c (rs_T r)) (fun r9 h9 => r9 = some (Value.int 1)) := by
  obtain ⟨c', r', e1, e2, hn⟩ := hok k c r hk hR 
  refine ab_go 1 [] (pc' := 281) (lo' := [some (.ref 3), some (.ref 8), some (.ref 23), some (.int (nI (5 * k + 1)))]) (st' := [.ref 8]) (h' := cs_H c (rs_T r)) ckL_law rfl ?_
  refine ab_callV (bc2 := 0) (bs2 := 0) (as := []) (rest := []) ckL_law rfl (by decide +kernel) wS_restart (tS_restart (d := d + 4) (c := c) hX (v := c') e1) rfl rfl (by omega) ⟨Nat.le_refl _, Nat.le_refl _⟩ (Nat.le_of_ble_eq_true rfl) ?_
  rintro _ _ ⟨rfl, rfl⟩
  refine ab_go 0 [] (pc' := 284) (lo' := [some (.ref 3), some (.ref 8), some (.ref 23), some (.int (nI (5 * k + 1)))]) (st' := []) (h' := cs_H c' (rs_T r)) ckL_law rfl ?_
  refine ab_go 1 [] (pc' := 285) (lo' := [some (.ref 3), some (.ref 8), some (.ref 23), some (.int (nI (5 * k + 1)))]) (st' := [.ref 23]) (h' := rs_H (cs_p c') r []) ckL_law rfl ?_
  refine ab_callV (bc2 := 0) (bs2 := 0) (as := []) (rest := []) ckL_law rfl (by decide +kernel) wR_restart (tR_restart (d := d + 6) (pf := cs_p c') (r := r) (v := r') e2) rfl rfl (by omega) ⟨Nat.le_refl _, Nat.le_refl _⟩ (Nat.le_of_ble_eq_true rfl) ?_
  rintro _ _ ⟨rfl, rfl⟩
  refine ab_go 0 [] (pc' := 288) (lo' := [some (.ref 3), some (.ref 8), some (.ref 23), some (.int (nI (5 * k + 1)))]) (st' := []) (h' := cs_H c' (rs_T r')) ckL_law rfl ?_
  refine ab_go 1 [] (pc' := 488) (lo' := [some (.ref 3), some (.ref 8), some (.ref 23), some (.int (nI (5 * k + 1)))]) (st' := []) (h' := cs_H c' (rs_T r')) ckL_law rfl ?_
  exact ih _ _ hn
set_option maxHeartbeats 4000000 in
set_option maxRecDepth 20000 in
theorem lw_c_nextIdentifier (hX : cs_X X) {L : Nat} {xs : Nat → Int32} (hL : L ≤ 2561) (hS : X.2.2.2.2.2[3]? = some (L, xs)) {LR : Nat → cs_S → cs_S → Prop} (hok : lw_ok_nextIdentifier LR) {k : Nat} {c r : cs_S} (hk : k ≤ 600) (h6 : 5 * k + 6 ≤ L) (hR : LR k c r) (ih : ∀ c1 r1, LR (k + 1) c1 r1 → ab_W X mL_law (d + 8) 0 0 488 [some (.ref 3), some (.ref 8), some (.ref 23), some (.int (nI (5 * k + 1)))] [] (cs_H c1 (rs_T r1)) (fun r9 h9 => r9 = some (Value.int 1))) : ab_W X mL_law (d + 8) 0 0 291 [some (.ref 3), some (.ref 8), some (.ref 23), some (.int (nI (5 * k + 1)))] [] (cs_H c (rs_T r)) (fun r9 h9 => r9 = some (Value.int 1)) := by
  obtain ⟨v, e1, e2, hn⟩ := hok k c r hk hR 
  refine ab_go 1 [] (pc' := 292) (lo' := [some (.ref 3), some (.ref 8), some (.ref 23), some (.int (nI (5 * k + 1)))]) (st' := [.ref 8]) (h' := cs_H c (rs_T r)) ckL_law rfl ?_
  refine ab_callV (bc2 := 0) (bs2 := 0) (as := []) (rest := []) ckL_law rfl (by decide +kernel) wS_nextIdentifier (tS_nextIdentifier (d := d + 6) (c := c)) rfl rfl (by omega) ⟨Nat.le_refl _, Nat.le_refl _⟩ (Nat.le_of_ble_eq_true rfl) ?_
  rintro _ _ ⟨rfl, rfl⟩
  rw [e1]
  refine ab_go 0 [] (pc' := 295) (lo' := [some (.ref 3), some (.ref 8), some (.ref 23), some (.int (nI (5 * k + 1)))]) (st' := [.int v]) (h' := cs_H c (rs_T r)) ckL_law rfl ?_
  refine ab_go 1 [] (pc' := 296) (lo' := [some (.ref 3), some (.ref 8), some (.ref 23), some (.int (nI (5 * k + 1)))]) (st' := [.ref 23, .int v]) (h' := rs_H (cs_p c) r []) ckL_law rfl ?_
  refine ab_callV (bc2 := 0) (bs2 := 0) (as := []) (rest := [_]) ckL_law rfl (by decide +kernel) wR_nextIdentifier (tR_nextIdentifier (d := d + 6) (pf := cs_p c) (r := r) (v := v) e2) rfl rfl (by omega) ⟨Nat.le_refl _, Nat.le_refl _⟩ (Nat.le_of_ble_eq_true rfl) ?_
  rintro _ _ ⟨rfl, rfl⟩
  refine ab_go 0 [] (pc' := 299) (lo' := [some (.ref 3), some (.ref 8), some (.ref 23), some (.int (nI (5 * k + 1)))]) (st' := [.int v, .int v]) (h' := cs_H c (rs_T r)) ckL_law rfl ?_
  refine ab_go 0 [] (pc' := 299) (lo' := [some (.ref 3), some (.ref 8), some (.ref 23), some (.int (nI (5 * k + 1)))]) (st' := [.int v, .int v]) (h' := cs_H c (rs_T r)) ckL_law rfl ?_
  refine ab_icmp_eq ckL_law rfl (fun _ => ?_) (fun hh => absurd rfl hh)
  exact ih _ _ hn
set_option maxHeartbeats 4000000 in
set_option maxRecDepth 20000 in
theorem lw_c_nextLength (hX : cs_X X) {L : Nat} {xs : Nat → Int32} (hL : L ≤ 2561) (hS : X.2.2.2.2.2[3]? = some (L, xs)) {LR : Nat → cs_S → cs_S → Prop} (hok : lw_ok_nextLength LR) {k : Nat} {c r : cs_S} (hk : k ≤ 600) (h6 : 5 * k + 6 ≤ L) (hR : LR k c r) (ih : ∀ c1 r1, LR (k + 1) c1 r1 → ab_W X mL_law (d + 8) 0 0 488 [some (.ref 3), some (.ref 8), some (.ref 23), some (.int (nI (5 * k + 1)))] [] (cs_H c1 (rs_T r1)) (fun r9 h9 => r9 = some (Value.int 1))) : ab_W X mL_law (d + 8) 0 0 304 [some (.ref 3), some (.ref 8), some (.ref 23), some (.int (nI (5 * k + 1)))] [] (cs_H c (rs_T r)) (fun r9 h9 => r9 = some (Value.int 1)) := by
  obtain ⟨v, e1, e2, hn⟩ := hok k c r hk hR 
  refine ab_go 1 [] (pc' := 305) (lo' := [some (.ref 3), some (.ref 8), some (.ref 23), some (.int (nI (5 * k + 1)))]) (st' := [.ref 8]) (h' := cs_H c (rs_T r)) ckL_law rfl ?_
  refine ab_callV (bc2 := 0) (bs2 := 0) (as := []) (rest := []) ckL_law rfl (by decide +kernel) wS_nextLength (tS_nextLength (d := d + 6) (c := c)) rfl rfl (by omega) ⟨Nat.le_refl _, Nat.le_refl _⟩ (Nat.le_of_ble_eq_true rfl) ?_
  rintro _ _ ⟨rfl, rfl⟩
  rw [e1]
  refine ab_go 0 [] (pc' := 308) (lo' := [some (.ref 3), some (.ref 8), some (.ref 23), some (.int (nI (5 * k + 1)))]) (st' := [.int v]) (h' := cs_H c (rs_T r)) ckL_law rfl ?_
  refine ab_go 1 [] (pc' := 309) (lo' := [some (.ref 3), some (.ref 8), some (.ref 23), some (.int (nI (5 * k + 1)))]) (st' := [.ref 23, .int v]) (h' := rs_H (cs_p c) r []) ckL_law rfl ?_
  refine ab_callV (bc2 := 0) (bs2 := 0) (as := []) (rest := [_]) ckL_law rfl (by decide +kernel) wR_nextLength (tR_nextLength (d := d + 6) (pf := cs_p c) (r := r) (v := v) e2) rfl rfl (by omega) ⟨Nat.le_refl _, Nat.le_refl _⟩ (Nat.le_of_ble_eq_true rfl) ?_
  rintro _ _ ⟨rfl, rfl⟩
  refine ab_go 0 [] (pc' := 312) (lo' := [some (.ref 3), some (.ref 8), some (.ref 23), some (.int (nI (5 * k + 1)))]) (st' := [.int v, .int v]) (h' := cs_H c (rs_T r)) ckL_law rfl ?_
  refine ab_go 0 [] (pc' := 312) (lo' := [some (.ref 3), some (.ref 8), some (.ref 23), some (.int (nI (5 * k + 1)))]) (st' := [.int v, .int v]) (h' := cs_H c (rs_T r)) ckL_law rfl ?_
  refine ab_icmp_eq ckL_law rfl (fun _ => ?_) (fun hh => absurd rfl hh)
  exact ih _ _ hn
set_option maxHeartbeats 4000000 in
set_option maxRecDepth 20000 in
theorem lw_c_nextData (hX : cs_X X) {L : Nat} {xs : Nat → Int32} (hL : L ≤ 2561) (hS : X.2.2.2.2.2[3]? = some (L, xs)) {LR : Nat → cs_S → cs_S → Prop} (hok : lw_ok_nextData LR) {k : Nat} {c r : cs_S} (hk : k ≤ 600) (h6 : 5 * k + 6 ≤ L) (hR : LR k c r) (ih : ∀ c1 r1, LR (k + 1) c1 r1 → ab_W X mL_law (d + 8) 0 0 488 [some (.ref 3), some (.ref 8), some (.ref 23), some (.int (nI (5 * k + 1)))] [] (cs_H c1 (rs_T r1)) (fun r9 h9 => r9 = some (Value.int 1))) : ab_W X mL_law (d + 8) 0 0 317 [some (.ref 3), some (.ref 8), some (.ref 23), some (.int (nI (5 * k + 1)))] [] (cs_H c (rs_T r)) (fun r9 h9 => r9 = some (Value.int 1)) := by
  obtain ⟨v, e1, e2, hn⟩ := hok k c r hk hR 
  refine ab_go 1 [] (pc' := 318) (lo' := [some (.ref 3), some (.ref 8), some (.ref 23), some (.int (nI (5 * k + 1)))]) (st' := [.ref 8]) (h' := cs_H c (rs_T r)) ckL_law rfl ?_
  refine ab_callV (bc2 := 0) (bs2 := 0) (as := []) (rest := []) ckL_law rfl (by decide +kernel) wS_nextData (tS_nextData (d := d + 6) (c := c) (v := v) e1) rfl rfl (by omega) ⟨Nat.le_refl _, Nat.le_refl _⟩ (Nat.le_of_ble_eq_true rfl) ?_
  rintro _ _ ⟨rfl, rfl⟩
  refine ab_go 0 [] (pc' := 321) (lo' := [some (.ref 3), some (.ref 8), some (.ref 23), some (.int (nI (5 * k + 1)))]) (st' := [.long v]) (h' := cs_H c (rs_T r)) ckL_law rfl ?_
  refine ab_go 1 [] (pc' := 322) (lo' := [some (.ref 3), some (.ref 8), some (.ref 23), some (.int (nI (5 * k + 1)))]) (st' := [.ref 23, .long v]) (h' := rs_H (cs_p c) r []) ckL_law rfl ?_
  refine ab_callV (bc2 := 0) (bs2 := 0) (as := []) (rest := [_]) ckL_law rfl (by decide +kernel) wR_nextData (tR_nextData (d := d + 6) (pf := cs_p c) (r := r) (v := v) e2) rfl rfl (by omega) ⟨Nat.le_refl _, Nat.le_refl _⟩ (Nat.le_of_ble_eq_true rfl) ?_
  rintro _ _ ⟨rfl, rfl⟩
  refine ab_go 0 [] (pc' := 325) (lo' := [some (.ref 3), some (.ref 8), some (.ref 23), some (.int (nI (5 * k + 1)))]) (st' := [.long v, .long v]) (h' := cs_H c (rs_T r)) ckL_law rfl ?_
  refine ab_go 0 [] (pc' := 325) (lo' := [some (.ref 3), some (.ref 8), some (.ref 23), some (.int (nI (5 * k + 1)))]) (st' := [.long v, .long v]) (h' := cs_H c (rs_T r)) ckL_law rfl ?_
  refine ab_go 1 [] (pc' := 326) (lo' := [some (.ref 3), some (.ref 8), some (.ref 23), some (.int (nI (5 * k + 1)))]) (st' := [.int (lg_cmp v v)]) (h' := cs_H c (rs_T r)) ckL_law rfl ?_
  have ev : lg_cmp v v = 0 := by simp [lg_cmp]
  refine ab_if_eq ckL_law rfl (fun _ => ?_) (fun hh => absurd ev hh)
  exact ih _ _ hn
set_option maxHeartbeats 4000000 in
set_option maxRecDepth 20000 in
theorem lw_c_take (hX : cs_X X) {L : Nat} {xs : Nat → Int32} (hL : L ≤ 2561) (hS : X.2.2.2.2.2[3]? = some (L, xs)) {LR : Nat → cs_S → cs_S → Prop} (hok : lw_ok_take LR) {k : Nat} {c r : cs_S} (hk : k ≤ 600) (h6 : 5 * k + 6 ≤ L) (hR : LR k c r) (ih : ∀ c1 r1, LR (k + 1) c1 r1 → ab_W X mL_law (d + 8) 0 0 488 [some (.ref 3), some (.ref 8), some (.ref 23), some (.int (nI (5 * k + 1)))] [] (cs_H c1 (rs_T r1)) (fun r9 h9 => r9 = some (Value.int 1))) : ab_W X mL_law (d + 8) 0 0 331 [some (.ref 3), some (.ref 8), some (.ref 23), some (.int (nI (5 * k + 1)))] [] (cs_H c (rs_T r)) (fun r9 h9 => r9 = some (Value.int 1)) := by
  obtain ⟨v, c', r', e1, e2, hn⟩ := hok k c r hk hR 
  refine ab_go 1 [] (pc' := 332) (lo' := [some (.ref 3), some (.ref 8), some (.ref 23), some (.int (nI (5 * k + 1)))]) (st' := [.ref 8]) (h' := cs_H c (rs_T r)) ckL_law rfl ?_
  refine ab_callV (bc2 := 0) (bs2 := 0) (as := []) (rest := []) ckL_law rfl (by decide +kernel) wS_take (tS_take (d := d + 6) (c := c) (v := (v, c')) e1) rfl rfl (by omega) ⟨Nat.le_refl _, Nat.le_refl _⟩ (Nat.le_of_ble_eq_true rfl) ?_
  rintro _ _ ⟨rfl, rfl⟩
  refine ab_go 0 [] (pc' := 335) (lo' := [some (.ref 3), some (.ref 8), some (.ref 23), some (.int (nI (5 * k + 1)))]) (st' := [.int v]) (h' := cs_H c' (rs_T r)) ckL_law rfl ?_
  refine ab_go 1 [] (pc' := 336) (lo' := [some (.ref 3), some (.ref 8), some (.ref 23), some (.int (nI (5 * k + 1)))]) (st' := [.ref 23, .int v]) (h' := rs_H (cs_p c') r []) ckL_law rfl ?_
  refine ab_callV (bc2 := 0) (bs2 := 0) (as := []) (rest := [_]) ckL_law rfl (by decide +kernel) wR_take (tR_take (d := d + 6) (pf := cs_p c') (r := r) (v := (v, r')) e2) rfl rfl (by omega) ⟨Nat.le_refl _, Nat.le_refl _⟩ (Nat.le_of_ble_eq_true rfl) ?_
  rintro _ _ ⟨rfl, rfl⟩
  refine ab_go 0 [] (pc' := 339) (lo' := [some (.ref 3), some (.ref 8), some (.ref 23), some (.int (nI (5 * k + 1)))]) (st' := [.int v, .int v]) (h' := cs_H c' (rs_T r')) ckL_law rfl ?_
  refine ab_go 0 [] (pc' := 339) (lo' := [some (.ref 3), some (.ref 8), some (.ref 23), some (.int (nI (5 * k + 1)))]) (st' := [.int v, .int v]) (h' := cs_H c' (rs_T r')) ckL_law rfl ?_
  refine ab_icmp_eq ckL_law rfl (fun _ => ?_) (fun hh => absurd rfl hh)
  exact ih _ _ hn
set_option maxHeartbeats 4000000 in
set_option maxRecDepth 20000 in
theorem lw_c_waiting (hX : cs_X X) {L : Nat} {xs : Nat → Int32} (hL : L ≤ 2561) (hS : X.2.2.2.2.2[3]? = some (L, xs)) {LR : Nat → cs_S → cs_S → Prop} (hok : lw_ok_waiting LR) {k : Nat} {c r : cs_S} (hk : k ≤ 600) (h6 : 5 * k + 6 ≤ L) (hR : LR k c r) (ih : ∀ c1 r1, LR (k + 1) c1 r1 → ab_W X mL_law (d + 8) 0 0 488 [some (.ref 3), some (.ref 8), some (.ref 23), some (.int (nI (5 * k + 1)))] [] (cs_H c1 (rs_T r1)) (fun r9 h9 => r9 = some (Value.int 1))) : ab_W X mL_law (d + 8) 0 0 344 [some (.ref 3), some (.ref 8), some (.ref 23), some (.int (nI (5 * k + 1)))] [] (cs_H c (rs_T r)) (fun r9 h9 => r9 = some (Value.int 1)) := by
  obtain ⟨v, e1, e2, hn⟩ := hok k c r hk hR 
  refine ab_go 1 [] (pc' := 345) (lo' := [some (.ref 3), some (.ref 8), some (.ref 23), some (.int (nI (5 * k + 1)))]) (st' := [.ref 8]) (h' := cs_H c (rs_T r)) ckL_law rfl ?_
  refine ab_callV (bc2 := 0) (bs2 := 0) (as := []) (rest := []) ckL_law rfl (by decide +kernel) wS_waiting (tS_waiting (d := d + 6) (c := c)) rfl rfl (by omega) ⟨Nat.le_refl _, Nat.le_refl _⟩ (Nat.le_of_ble_eq_true rfl) ?_
  rintro _ _ ⟨rfl, rfl⟩
  rw [e1]
  refine ab_go 0 [] (pc' := 348) (lo' := [some (.ref 3), some (.ref 8), some (.ref 23), some (.int (nI (5 * k + 1)))]) (st' := [.int v]) (h' := cs_H c (rs_T r)) ckL_law rfl ?_
  refine ab_go 1 [] (pc' := 349) (lo' := [some (.ref 3), some (.ref 8), some (.ref 23), some (.int (nI (5 * k + 1)))]) (st' := [.ref 23, .int v]) (h' := rs_H (cs_p c) r []) ckL_law rfl ?_
  refine ab_callV (bc2 := 0) (bs2 := 0) (as := []) (rest := [_]) ckL_law rfl (by decide +kernel) wR_waiting (tR_waiting (d := d + 7) (pf := cs_p c) (r := r)) rfl rfl (by omega) ⟨Nat.le_refl _, Nat.le_refl _⟩ (Nat.le_of_ble_eq_true rfl) ?_
  rintro _ _ ⟨rfl, rfl⟩
  rw [e2]
  refine ab_go 0 [] (pc' := 352) (lo' := [some (.ref 3), some (.ref 8), some (.ref 23), some (.int (nI (5 * k + 1)))]) (st' := [.int v, .int v]) (h' := cs_H c (rs_T r)) ckL_law rfl ?_
  refine ab_go 0 [] (pc' := 352) (lo' := [some (.ref 3), some (.ref 8), some (.ref 23), some (.int (nI (5 * k + 1)))]) (st' := [.int v, .int v]) (h' := cs_H c (rs_T r)) ckL_law rfl ?_
  refine ab_icmp_eq ckL_law rfl (fun _ => ?_) (fun hh => absurd rfl hh)
  exact ih _ _ hn
set_option maxHeartbeats 4000000 in
set_option maxRecDepth 20000 in
theorem lw_c_lost (hX : cs_X X) {L : Nat} {xs : Nat → Int32} (hL : L ≤ 2561) (hS : X.2.2.2.2.2[3]? = some (L, xs)) {LR : Nat → cs_S → cs_S → Prop} (hok : lw_ok_lost LR) {k : Nat} {c r : cs_S} (hk : k ≤ 600) (h6 : 5 * k + 6 ≤ L) (hR : LR k c r) (ih : ∀ c1 r1, LR (k + 1) c1 r1 → ab_W X mL_law (d + 8) 0 0 488 [some (.ref 3), some (.ref 8), some (.ref 23), some (.int (nI (5 * k + 1)))] [] (cs_H c1 (rs_T r1)) (fun r9 h9 => r9 = some (Value.int 1))) : ab_W X mL_law (d + 8) 0 0 357 [some (.ref 3), some (.ref 8), some (.ref 23), some (.int (nI (5 * k + 1)))] [] (cs_H c (rs_T r)) (fun r9 h9 => r9 = some (Value.int 1)) := by
  obtain ⟨v, e1, e2, hn⟩ := hok k c r hk hR 
  refine ab_go 1 [] (pc' := 358) (lo' := [some (.ref 3), some (.ref 8), some (.ref 23), some (.int (nI (5 * k + 1)))]) (st' := [.ref 8]) (h' := cs_H c (rs_T r)) ckL_law rfl ?_
  refine ab_callV (bc2 := 0) (bs2 := 0) (as := []) (rest := []) ckL_law rfl (by decide +kernel) wS_lost (tS_lost (d := d + 6) (c := c)) rfl rfl (by omega) ⟨Nat.le_refl _, Nat.le_refl _⟩ (Nat.le_of_ble_eq_true rfl) ?_
  rintro _ _ ⟨rfl, rfl⟩
  rw [e1]
  refine ab_go 0 [] (pc' := 361) (lo' := [some (.ref 3), some (.ref 8), some (.ref 23), some (.int (nI (5 * k + 1)))]) (st' := [.int v]) (h' := cs_H c (rs_T r)) ckL_law rfl ?_
  refine ab_go 1 [] (pc' := 362) (lo' := [some (.ref 3), some (.ref 8), some (.ref 23), some (.int (nI (5 * k + 1)))]) (st' := [.ref 23, .int v]) (h' := rs_H (cs_p c) r []) ckL_law rfl ?_
  refine ab_callV (bc2 := 0) (bs2 := 0) (as := []) (rest := [_]) ckL_law rfl (by decide +kernel) wR_lost (tR_lost (d := d + 7) (pf := cs_p c) (r := r)) rfl rfl (by omega) ⟨Nat.le_refl _, Nat.le_refl _⟩ (Nat.le_of_ble_eq_true rfl) ?_
  rintro _ _ ⟨rfl, rfl⟩
  rw [e2]
  refine ab_go 0 [] (pc' := 365) (lo' := [some (.ref 3), some (.ref 8), some (.ref 23), some (.int (nI (5 * k + 1)))]) (st' := [.int v, .int v]) (h' := cs_H c (rs_T r)) ckL_law rfl ?_
  refine ab_go 0 [] (pc' := 365) (lo' := [some (.ref 3), some (.ref 8), some (.ref 23), some (.int (nI (5 * k + 1)))]) (st' := [.int v, .int v]) (h' := cs_H c (rs_T r)) ckL_law rfl ?_
  refine ab_icmp_eq ckL_law rfl (fun _ => ?_) (fun hh => absurd rfl hh)
  exact ih _ _ hn
set_option maxHeartbeats 4000000 in
set_option maxRecDepth 20000 in
theorem lw_c_object (hX : cs_X X) {L : Nat} {xs : Nat → Int32} (hL : L ≤ 2561) (hS : X.2.2.2.2.2[3]? = some (L, xs)) {LR : Nat → cs_S → cs_S → Prop} (hok : lw_ok_object LR) {k : Nat} {c r : cs_S} (hk : k ≤ 600) (h6 : 5 * k + 6 ≤ L) (hR : LR k c r) (ih : ∀ c1 r1, LR (k + 1) c1 r1 → ab_W X mL_law (d + 8) 0 0 488 [some (.ref 3), some (.ref 8), some (.ref 23), some (.int (nI (5 * k + 1)))] [] (cs_H c1 (rs_T r1)) (fun r9 h9 => r9 = some (Value.int 1))) : ab_W X mL_law (d + 8) 0 0 370 [some (.ref 3), some (.ref 8), some (.ref 23), some (.int (nI (5 * k + 1)))] [] (cs_H c (rs_T r)) (fun r9 h9 => r9 = some (Value.int 1)) := by
  obtain ⟨v, c', e1, e2, hn⟩ := hok k c r hk hR (xs (nI (5 * k + 1) + 1).toNatClampNeg) (xs (nI (5 * k + 1) + 2).toNatClampNeg)
  refine ab_go 5 [] (pc' := 375) (lo' := [some (.ref 3), some (.ref 8), some (.ref 23), some (.int (nI (5 * k + 1)))]) (st' := [.int ((nI (5 * k + 1)) + 1), .ref 3, .ref 8]) (h' := cs_H c (rs_T r)) ckL_law rfl ?_
  refine ab_tald ckL_law rfl (by decide) hS (lw_vp (j := 1) hL h6 (by decide)) ?_
  refine ab_go 4 [] (pc' := 380) (lo' := [some (.ref 3), some (.ref 8), some (.ref 23), some (.int (nI (5 * k + 1)))]) (st' := [.int ((nI (5 * k + 1)) + 2), .ref 3, .int (xs (nI (5 * k + 1) + 1).toNatClampNeg), .ref 8]) (h' := cs_H c (rs_T r)) ckL_law rfl ?_
  refine ab_tald ckL_law rfl (by decide) hS (lw_vp (j := 2) hL h6 (by decide)) ?_
  refine ab_go 0 [] (pc' := 381) (lo' := [some (.ref 3), some (.ref 8), some (.ref 23), some (.int (nI (5 * k + 1)))]) (st' := [.int (xs (nI (5 * k + 1) + 2).toNatClampNeg), .int (xs (nI (5 * k + 1) + 1).toNatClampNeg), .ref 8]) (h' := cs_H c (rs_T r)) ckL_law rfl ?_
  refine ab_callV (bc2 := 0) (bs2 := 0) (as := [_, _]) (rest := []) ckL_law rfl (by decide +kernel) wS_object (tS_object (d := d + 3) (x1 := (xs (nI (5 * k + 1) + 1).toNatClampNeg)) (x2 := (xs (nI (5 * k + 1) + 2).toNatClampNeg)) (c := c) hX (v := (v, c')) e1) rfl rfl (by omega) ⟨Nat.le_refl _, Nat.le_refl _⟩ (Nat.le_of_ble_eq_true rfl) ?_
  rintro _ _ ⟨rfl, rfl⟩
  refine ab_go 0 [] (pc' := 384) (lo' := [some (.ref 3), some (.ref 8), some (.ref 23), some (.int (nI (5 * k + 1)))]) (st' := [.int v]) (h' := cs_H c' (rs_T r)) ckL_law rfl ?_
  refine ab_go 5 [] (pc' := 389) (lo' := [some (.ref 3), some (.ref 8), some (.ref 23), some (.int (nI (5 * k + 1)))]) (st' := [.int ((nI (5 * k + 1)) + 1), .ref 3, .ref 23, .int v]) (h' := cs_H c' (rs_T r)) ckL_law rfl ?_
  refine ab_tald ckL_law rfl (by decide) hS (lw_vp (j := 1) hL h6 (by decide)) ?_
  refine ab_go 4 [] (pc' := 394) (lo' := [some (.ref 3), some (.ref 8), some (.ref 23), some (.int (nI (5 * k + 1)))]) (st' := [.int ((nI (5 * k + 1)) + 2), .ref 3, .int (xs (nI (5 * k + 1) + 1).toNatClampNeg), .ref 23, .int v]) (h' := cs_H c' (rs_T r)) ckL_law rfl ?_
  refine ab_tald ckL_law rfl (by decide) hS (lw_vp (j := 2) hL h6 (by decide)) ?_
  refine ab_go 0 [] (pc' := 395) (lo' := [some (.ref 3), some (.ref 8), some (.ref 23), some (.int (nI (5 * k + 1)))]) (st' := [.int (xs (nI (5 * k + 1) + 2).toNatClampNeg), .int (xs (nI (5 * k + 1) + 1).toNatClampNeg), .ref 23, .int v]) (h' := rs_H (cs_p c') r []) ckL_law rfl ?_
  refine ab_callV (bc2 := 0) (bs2 := 0) (as := [_, _]) (rest := [_]) ckL_law rfl (by decide +kernel) wR_object (tR_object (d := d + 4) (pf := cs_p c') (x1 := (xs (nI (5 * k + 1) + 1).toNatClampNeg)) (x2 := (xs (nI (5 * k + 1) + 2).toNatClampNeg)) (r := r) (v := v) e2) rfl rfl (by omega) ⟨Nat.le_refl _, Nat.le_refl _⟩ (Nat.le_of_ble_eq_true rfl) ?_
  rintro _ _ ⟨rfl, rfl⟩
  refine ab_go 0 [] (pc' := 398) (lo' := [some (.ref 3), some (.ref 8), some (.ref 23), some (.int (nI (5 * k + 1)))]) (st' := [.int v, .int v]) (h' := cs_H c' (rs_T r)) ckL_law rfl ?_
  refine ab_go 0 [] (pc' := 398) (lo' := [some (.ref 3), some (.ref 8), some (.ref 23), some (.int (nI (5 * k + 1)))]) (st' := [.int v, .int v]) (h' := cs_H c' (rs_T r)) ckL_law rfl ?_
  refine ab_icmp_eq ckL_law rfl (fun _ => ?_) (fun hh => absurd rfl hh)
  exact ih _ _ hn
set_option maxHeartbeats 4000000 in
set_option maxRecDepth 20000 in
theorem lw_c_network (hX : cs_X X) {L : Nat} {xs : Nat → Int32} (hL : L ≤ 2561) (hS : X.2.2.2.2.2[3]? = some (L, xs)) {LR : Nat → cs_S → cs_S → Prop} (hok : lw_ok_network LR) {k : Nat} {c r : cs_S} (hk : k ≤ 600) (h6 : 5 * k + 6 ≤ L) (hR : LR k c r) (ih : ∀ c1 r1, LR (k + 1) c1 r1 → ab_W X mL_law (d + 8) 0 0 488 [some (.ref 3), some (.ref 8), some (.ref 23), some (.int (nI (5 * k + 1)))] [] (cs_H c1 (rs_T r1)) (fun r9 h9 => r9 = some (Value.int 1))) : ab_W X mL_law (d + 8) 0 0 403 [some (.ref 3), some (.ref 8), some (.ref 23), some (.int (nI (5 * k + 1)))] [] (cs_H c (rs_T r)) (fun r9 h9 => r9 = some (Value.int 1)) := by
  obtain ⟨v, e1, e2, hn⟩ := hok k c r hk hR 
  refine ab_go 1 [] (pc' := 404) (lo' := [some (.ref 3), some (.ref 8), some (.ref 23), some (.int (nI (5 * k + 1)))]) (st' := [.ref 8]) (h' := cs_H c (rs_T r)) ckL_law rfl ?_
  refine ab_callV (bc2 := 0) (bs2 := 0) (as := []) (rest := []) ckL_law rfl (by decide +kernel) wS_network (tS_network (d := d + 7) (c := c)) rfl rfl (by omega) ⟨Nat.le_refl _, Nat.le_refl _⟩ (Nat.le_of_ble_eq_true rfl) ?_
  rintro _ _ ⟨rfl, rfl⟩
  rw [e1]
  refine ab_go 0 [] (pc' := 407) (lo' := [some (.ref 3), some (.ref 8), some (.ref 23), some (.int (nI (5 * k + 1)))]) (st' := [.int v]) (h' := cs_H c (rs_T r)) ckL_law rfl ?_
  refine ab_go 1 [] (pc' := 408) (lo' := [some (.ref 3), some (.ref 8), some (.ref 23), some (.int (nI (5 * k + 1)))]) (st' := [.ref 23, .int v]) (h' := rs_H (cs_p c) r []) ckL_law rfl ?_
  refine ab_callV (bc2 := 0) (bs2 := 0) (as := []) (rest := [_]) ckL_law rfl (by decide +kernel) wR_network (tR_network (d := d + 7) (pf := cs_p c) (r := r)) rfl rfl (by omega) ⟨Nat.le_refl _, Nat.le_refl _⟩ (Nat.le_of_ble_eq_true rfl) ?_
  rintro _ _ ⟨rfl, rfl⟩
  rw [e2]
  refine ab_go 0 [] (pc' := 411) (lo' := [some (.ref 3), some (.ref 8), some (.ref 23), some (.int (nI (5 * k + 1)))]) (st' := [.int v, .int v]) (h' := cs_H c (rs_T r)) ckL_law rfl ?_
  refine ab_go 0 [] (pc' := 411) (lo' := [some (.ref 3), some (.ref 8), some (.ref 23), some (.int (nI (5 * k + 1)))]) (st' := [.int v, .int v]) (h' := cs_H c (rs_T r)) ckL_law rfl ?_
  refine ab_icmp_eq ckL_law rfl (fun _ => ?_) (fun hh => absurd rfl hh)
  exact ih _ _ hn
set_option maxHeartbeats 4000000 in
set_option maxRecDepth 20000 in
theorem lw_c_power (hX : cs_X X) {L : Nat} {xs : Nat → Int32} (hL : L ≤ 2561) (hS : X.2.2.2.2.2[3]? = some (L, xs)) {LR : Nat → cs_S → cs_S → Prop} (hok : lw_ok_power LR) {k : Nat} {c r : cs_S} (hk : k ≤ 600) (h6 : 5 * k + 6 ≤ L) (hR : LR k c r) (ih : ∀ c1 r1, LR (k + 1) c1 r1 → ab_W X mL_law (d + 8) 0 0 488 [some (.ref 3), some (.ref 8), some (.ref 23), some (.int (nI (5 * k + 1)))] [] (cs_H c1 (rs_T r1)) (fun r9 h9 => r9 = some (Value.int 1))) : ab_W X mL_law (d + 8) 0 0 416 [some (.ref 3), some (.ref 8), some (.ref 23), some (.int (nI (5 * k + 1)))] [] (cs_H c (rs_T r)) (fun r9 h9 => r9 = some (Value.int 1)) := by
  obtain ⟨v, e1, e2, hn⟩ := hok k c r hk hR 
  refine ab_go 1 [] (pc' := 417) (lo' := [some (.ref 3), some (.ref 8), some (.ref 23), some (.int (nI (5 * k + 1)))]) (st' := [.ref 8]) (h' := cs_H c (rs_T r)) ckL_law rfl ?_
  refine ab_callV (bc2 := 0) (bs2 := 0) (as := []) (rest := []) ckL_law rfl (by decide +kernel) wS_power (tS_power (d := d + 6) (c := c)) rfl rfl (by omega) ⟨Nat.le_refl _, Nat.le_refl _⟩ (Nat.le_of_ble_eq_true rfl) ?_
  rintro _ _ ⟨rfl, rfl⟩
  rw [e1]
  refine ab_go 0 [] (pc' := 420) (lo' := [some (.ref 3), some (.ref 8), some (.ref 23), some (.int (nI (5 * k + 1)))]) (st' := [.int v]) (h' := cs_H c (rs_T r)) ckL_law rfl ?_
  refine ab_go 1 [] (pc' := 421) (lo' := [some (.ref 3), some (.ref 8), some (.ref 23), some (.int (nI (5 * k + 1)))]) (st' := [.ref 23, .int v]) (h' := rs_H (cs_p c) r []) ckL_law rfl ?_
  refine ab_callV (bc2 := 0) (bs2 := 0) (as := []) (rest := [_]) ckL_law rfl (by decide +kernel) wR_power (tR_power (d := d + 7) (pf := cs_p c) (r := r)) rfl rfl (by omega) ⟨Nat.le_refl _, Nat.le_refl _⟩ (Nat.le_of_ble_eq_true rfl) ?_
  rintro _ _ ⟨rfl, rfl⟩
  rw [e2]
  refine ab_go 0 [] (pc' := 424) (lo' := [some (.ref 3), some (.ref 8), some (.ref 23), some (.int (nI (5 * k + 1)))]) (st' := [.int v, .int v]) (h' := cs_H c (rs_T r)) ckL_law rfl ?_
  refine ab_go 0 [] (pc' := 424) (lo' := [some (.ref 3), some (.ref 8), some (.ref 23), some (.int (nI (5 * k + 1)))]) (st' := [.int v, .int v]) (h' := cs_H c (rs_T r)) ckL_law rfl ?_
  refine ab_icmp_eq ckL_law rfl (fun _ => ?_) (fun hh => absurd rfl hh)
  exact ih _ _ hn
set_option maxHeartbeats 4000000 in
set_option maxRecDepth 20000 in
theorem lw_c_speed (hX : cs_X X) {L : Nat} {xs : Nat → Int32} (hL : L ≤ 2561) (hS : X.2.2.2.2.2[3]? = some (L, xs)) {LR : Nat → cs_S → cs_S → Prop} (hok : lw_ok_speed LR) {k : Nat} {c r : cs_S} (hk : k ≤ 600) (h6 : 5 * k + 6 ≤ L) (hR : LR k c r) (ih : ∀ c1 r1, LR (k + 1) c1 r1 → ab_W X mL_law (d + 8) 0 0 488 [some (.ref 3), some (.ref 8), some (.ref 23), some (.int (nI (5 * k + 1)))] [] (cs_H c1 (rs_T r1)) (fun r9 h9 => r9 = some (Value.int 1))) : ab_W X mL_law (d + 8) 0 0 429 [some (.ref 3), some (.ref 8), some (.ref 23), some (.int (nI (5 * k + 1)))] [] (cs_H c (rs_T r)) (fun r9 h9 => r9 = some (Value.int 1)) := by
  obtain ⟨v, e1, e2, hn⟩ := hok k c r hk hR 
  refine ab_go 1 [] (pc' := 430) (lo' := [some (.ref 3), some (.ref 8), some (.ref 23), some (.int (nI (5 * k + 1)))]) (st' := [.ref 8]) (h' := cs_H c (rs_T r)) ckL_law rfl ?_
  refine ab_callV (bc2 := 0) (bs2 := 0) (as := []) (rest := []) ckL_law rfl (by decide +kernel) wS_speed (tS_speed (d := d + 7) (c := c)) rfl rfl (by omega) ⟨Nat.le_refl _, Nat.le_refl _⟩ (Nat.le_of_ble_eq_true rfl) ?_
  rintro _ _ ⟨rfl, rfl⟩
  rw [e1]
  refine ab_go 0 [] (pc' := 433) (lo' := [some (.ref 3), some (.ref 8), some (.ref 23), some (.int (nI (5 * k + 1)))]) (st' := [.int v]) (h' := cs_H c (rs_T r)) ckL_law rfl ?_
  refine ab_go 1 [] (pc' := 434) (lo' := [some (.ref 3), some (.ref 8), some (.ref 23), some (.int (nI (5 * k + 1)))]) (st' := [.ref 23, .int v]) (h' := rs_H (cs_p c) r []) ckL_law rfl ?_
  refine ab_callV (bc2 := 0) (bs2 := 0) (as := []) (rest := [_]) ckL_law rfl (by decide +kernel) wR_speed (tR_speed (d := d + 7) (pf := cs_p c) (r := r)) rfl rfl (by omega) ⟨Nat.le_refl _, Nat.le_refl _⟩ (Nat.le_of_ble_eq_true rfl) ?_
  rintro _ _ ⟨rfl, rfl⟩
  rw [e2]
  refine ab_go 0 [] (pc' := 437) (lo' := [some (.ref 3), some (.ref 8), some (.ref 23), some (.int (nI (5 * k + 1)))]) (st' := [.int v, .int v]) (h' := cs_H c (rs_T r)) ckL_law rfl ?_
  refine ab_go 0 [] (pc' := 437) (lo' := [some (.ref 3), some (.ref 8), some (.ref 23), some (.int (nI (5 * k + 1)))]) (st' := [.int v, .int v]) (h' := cs_H c (rs_T r)) ckL_law rfl ?_
  refine ab_icmp_eq ckL_law rfl (fun _ => ?_) (fun hh => absurd rfl hh)
  exact ih _ _ hn
set_option maxHeartbeats 4000000 in
set_option maxRecDepth 20000 in
theorem lw_c_position (hX : cs_X X) {L : Nat} {xs : Nat → Int32} (hL : L ≤ 2561) (hS : X.2.2.2.2.2[3]? = some (L, xs)) {LR : Nat → cs_S → cs_S → Prop} (hok : lw_ok_position LR) {k : Nat} {c r : cs_S} (hk : k ≤ 600) (h6 : 5 * k + 6 ≤ L) (hR : LR k c r) (ih : ∀ c1 r1, LR (k + 1) c1 r1 → ab_W X mL_law (d + 8) 0 0 488 [some (.ref 3), some (.ref 8), some (.ref 23), some (.int (nI (5 * k + 1)))] [] (cs_H c1 (rs_T r1)) (fun r9 h9 => r9 = some (Value.int 1))) : ab_W X mL_law (d + 8) 0 0 442 [some (.ref 3), some (.ref 8), some (.ref 23), some (.int (nI (5 * k + 1)))] [] (cs_H c (rs_T r)) (fun r9 h9 => r9 = some (Value.int 1)) := by
  obtain ⟨v, e1, e2, hn⟩ := hok k c r hk hR 
  refine ab_go 1 [] (pc' := 443) (lo' := [some (.ref 3), some (.ref 8), some (.ref 23), some (.int (nI (5 * k + 1)))]) (st' := [.ref 8]) (h' := cs_H c (rs_T r)) ckL_law rfl ?_
  refine ab_callV (bc2 := 0) (bs2 := 0) (as := []) (rest := []) ckL_law rfl (by decide +kernel) wS_position (tS_position (d := d + 6) (c := c)) rfl rfl (by omega) ⟨Nat.le_refl _, Nat.le_refl _⟩ (Nat.le_of_ble_eq_true rfl) ?_
  rintro _ _ ⟨rfl, rfl⟩
  rw [e1]
  refine ab_go 0 [] (pc' := 446) (lo' := [some (.ref 3), some (.ref 8), some (.ref 23), some (.int (nI (5 * k + 1)))]) (st' := [.int v]) (h' := cs_H c (rs_T r)) ckL_law rfl ?_
  refine ab_go 1 [] (pc' := 447) (lo' := [some (.ref 3), some (.ref 8), some (.ref 23), some (.int (nI (5 * k + 1)))]) (st' := [.ref 23, .int v]) (h' := rs_H (cs_p c) r []) ckL_law rfl ?_
  refine ab_callV (bc2 := 0) (bs2 := 0) (as := []) (rest := [_]) ckL_law rfl (by decide +kernel) wR_position (tR_position (d := d + 7) (pf := cs_p c) (r := r)) rfl rfl (by omega) ⟨Nat.le_refl _, Nat.le_refl _⟩ (Nat.le_of_ble_eq_true rfl) ?_
  rintro _ _ ⟨rfl, rfl⟩
  rw [e2]
  refine ab_go 0 [] (pc' := 450) (lo' := [some (.ref 3), some (.ref 8), some (.ref 23), some (.int (nI (5 * k + 1)))]) (st' := [.int v, .int v]) (h' := cs_H c (rs_T r)) ckL_law rfl ?_
  refine ab_go 0 [] (pc' := 450) (lo' := [some (.ref 3), some (.ref 8), some (.ref 23), some (.int (nI (5 * k + 1)))]) (st' := [.int v, .int v]) (h' := cs_H c (rs_T r)) ckL_law rfl ?_
  refine ab_icmp_eq ckL_law rfl (fun _ => ?_) (fun hh => absurd rfl hh)
  exact ih _ _ hn
set_option maxHeartbeats 4000000 in
set_option maxRecDepth 20000 in
theorem lw_c_word (hX : cs_X X) {L : Nat} {xs : Nat → Int32} (hL : L ≤ 2561) (hS : X.2.2.2.2.2[3]? = some (L, xs)) {LR : Nat → cs_S → cs_S → Prop} (hok : lw_ok_word LR) {k : Nat} {c r : cs_S} (hk : k ≤ 600) (h6 : 5 * k + 6 ≤ L) (hR : LR k c r) (ih : ∀ c1 r1, LR (k + 1) c1 r1 → ab_W X mL_law (d + 8) 0 0 488 [some (.ref 3), some (.ref 8), some (.ref 23), some (.int (nI (5 * k + 1)))] [] (cs_H c1 (rs_T r1)) (fun r9 h9 => r9 = some (Value.int 1))) : ab_W X mL_law (d + 8) 0 0 455 [some (.ref 3), some (.ref 8), some (.ref 23), some (.int (nI (5 * k + 1)))] [] (cs_H c (rs_T r)) (fun r9 h9 => r9 = some (Value.int 1)) := by
  obtain ⟨v, e1, e2, hn⟩ := hok k c r hk hR (xs (nI (5 * k + 1) + 1).toNatClampNeg) (xs (nI (5 * k + 1) + 2).toNatClampNeg)
  refine ab_go 5 [] (pc' := 460) (lo' := [some (.ref 3), some (.ref 8), some (.ref 23), some (.int (nI (5 * k + 1)))]) (st' := [.int ((nI (5 * k + 1)) + 1), .ref 3, .ref 8]) (h' := cs_H c (rs_T r)) ckL_law rfl ?_
  refine ab_tald ckL_law rfl (by decide) hS (lw_vp (j := 1) hL h6 (by decide)) ?_
  refine ab_go 4 [] (pc' := 465) (lo' := [some (.ref 3), some (.ref 8), some (.ref 23), some (.int (nI (5 * k + 1)))]) (st' := [.int ((nI (5 * k + 1)) + 2), .ref 3, .int (xs (nI (5 * k + 1) + 1).toNatClampNeg), .ref 8]) (h' := cs_H c (rs_T r)) ckL_law rfl ?_
  refine ab_tald ckL_law rfl (by decide) hS (lw_vp (j := 2) hL h6 (by decide)) ?_
  refine ab_go 0 [] (pc' := 466) (lo' := [some (.ref 3), some (.ref 8), some (.ref 23), some (.int (nI (5 * k + 1)))]) (st' := [.int (xs (nI (5 * k + 1) + 2).toNatClampNeg), .int (xs (nI (5 * k + 1) + 1).toNatClampNeg), .ref 8]) (h' := cs_H c (rs_T r)) ckL_law rfl ?_
  refine ab_callV (bc2 := 0) (bs2 := 0) (as := [_, _]) (rest := []) ckL_law rfl (by decide +kernel) wS_word (tS_word (d := d + 6) (x1 := (xs (nI (5 * k + 1) + 1).toNatClampNeg)) (x2 := (xs (nI (5 * k + 1) + 2).toNatClampNeg)) (c := c) (v := v) e1) rfl rfl (by omega) ⟨Nat.le_refl _, Nat.le_refl _⟩ (Nat.le_of_ble_eq_true rfl) ?_
  rintro _ _ ⟨rfl, rfl⟩
  refine ab_go 0 [] (pc' := 469) (lo' := [some (.ref 3), some (.ref 8), some (.ref 23), some (.int (nI (5 * k + 1)))]) (st' := [.int v]) (h' := cs_H c (rs_T r)) ckL_law rfl ?_
  refine ab_go 5 [] (pc' := 474) (lo' := [some (.ref 3), some (.ref 8), some (.ref 23), some (.int (nI (5 * k + 1)))]) (st' := [.int ((nI (5 * k + 1)) + 1), .ref 3, .ref 23, .int v]) (h' := cs_H c (rs_T r)) ckL_law rfl ?_
  refine ab_tald ckL_law rfl (by decide) hS (lw_vp (j := 1) hL h6 (by decide)) ?_
  refine ab_go 4 [] (pc' := 479) (lo' := [some (.ref 3), some (.ref 8), some (.ref 23), some (.int (nI (5 * k + 1)))]) (st' := [.int ((nI (5 * k + 1)) + 2), .ref 3, .int (xs (nI (5 * k + 1) + 1).toNatClampNeg), .ref 23, .int v]) (h' := cs_H c (rs_T r)) ckL_law rfl ?_
  refine ab_tald ckL_law rfl (by decide) hS (lw_vp (j := 2) hL h6 (by decide)) ?_
  refine ab_go 0 [] (pc' := 480) (lo' := [some (.ref 3), some (.ref 8), some (.ref 23), some (.int (nI (5 * k + 1)))]) (st' := [.int (xs (nI (5 * k + 1) + 2).toNatClampNeg), .int (xs (nI (5 * k + 1) + 1).toNatClampNeg), .ref 23, .int v]) (h' := rs_H (cs_p c) r []) ckL_law rfl ?_
  refine ab_callV (bc2 := 0) (bs2 := 0) (as := [_, _]) (rest := [_]) ckL_law rfl (by decide +kernel) wR_word (tR_word (d := d + 7) (pf := cs_p c) (x1 := (xs (nI (5 * k + 1) + 1).toNatClampNeg)) (x2 := (xs (nI (5 * k + 1) + 2).toNatClampNeg)) (r := r) (v := v) e2) rfl rfl (by omega) ⟨Nat.le_refl _, Nat.le_refl _⟩ (Nat.le_of_ble_eq_true rfl) ?_
  rintro _ _ ⟨rfl, rfl⟩
  refine ab_go 0 [] (pc' := 483) (lo' := [some (.ref 3), some (.ref 8), some (.ref 23), some (.int (nI (5 * k + 1)))]) (st' := [.int v, .int v]) (h' := cs_H c (rs_T r)) ckL_law rfl ?_
  refine ab_go 0 [] (pc' := 483) (lo' := [some (.ref 3), some (.ref 8), some (.ref 23), some (.int (nI (5 * k + 1)))]) (st' := [.int v, .int v]) (h' := cs_H c (rs_T r)) ckL_law rfl ?_
  refine ab_icmp_eq ckL_law rfl (fun _ => ?_) (fun hh => absurd rfl hh)
  exact ih _ _ hn
end LAW
