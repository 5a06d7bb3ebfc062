/-! contracts, by program (wip/gen/walk.py, gen_cls.py) -/
section LEAF
variable {X : ab_C} {d : Nat} {r : cs_S} {rest hp : ab_H} {pf : Nat → va_E}
def fR_restart_46 : Nat → cs_S → Int32 → Int32 → Int32 → Option (cs_S)
  | 0, _, _, _, _ => none
  | n + 1, r, y1, y2, y3 => (if (30 : Int32) ≤ y3 then (ab_bd (fR_send (cs_u (cs_u (cs_u (cs_u (cs_u (cs_u (cs_u (cs_u (cs_u (cs_u (cs_u (cs_u r 0 0 (0 : Int32)) 0 2 (0 : Int32)) 0 5 (127 : Int32)) 0 6 (1 : Int32)) 0 7 (r.1 1 19)) 0 8 (1 : Int32)) 0 9 (0 : Int32)) 0 10 (0 : Int32)) 0 11 (0 : Int32)) 0 12 (0 : Int32)) 0 13 (0 : Int32)) 0 14 (0 : Int32)) ((1792 : Int32) + (r.1 0 4)) (1 : Int32) (0 : Int64)) (fun p1 => (some p1))) else (if ab_inb y3 30 = true then (if (mdKind (y3).toNatClampNeg) < (8 : Int32) then (if y3 = (19 : Int32) then fR_restart_46 n r y1 y2 (y3 + (1 : Int32)) else fR_restart_46 n (cs_u r 1 (y3).toNatClampNeg (mdStart (y3).toNatClampNeg)) y1 y2 (y3 + (1 : Int32))) else (if y3 = (19 : Int32) then fR_restart_46 n r y1 (y2 + (1 : Int32)) (y3 + (1 : Int32)) else (if y1 < 0 then fR_restart_46 n (cs_u r 1 (y3).toNatClampNeg (mdStart (y3).toNatClampNeg)) y1 (y2 + (1 : Int32)) (y3 + (1 : Int32)) else (if ab_inb (((22 : Int32) * y1) + y2) 44 = true then fR_restart_46 n (cs_u r 1 (y3).toNatClampNeg (r.1 4 ((((22 : Int32) * y1) + y2)).toNatClampNeg)) y1 (y2 + (1 : Int32)) (y3 + (1 : Int32)) else none)))) else none))
def fR_restart (r : cs_S)  : Option (cs_S) := (if (r.1 4 0) ≤ (r.1 4 22) then (if (r.1 4 22) ≤ (r.1 4 0) then fR_restart_46 40 r (-1 : Int32) (1 : Int32) (0 : Int32) else fR_restart_46 40 r (1 : Int32) (1 : Int32) (0 : Int32)) else fR_restart_46 40 r (0 : Int32) (1 : Int32) (0 : Int32))
set_option maxRecDepth 20000 in
set_option maxHeartbeats 4000000 in
theorem tR_restart_46 (n : Nat)   : ∀ (r : cs_S) (y1 : Int32) (y2 : Int32) (y3 : Int32)  (v : cs_S) (hv : fR_restart_46 n r y1 y2 y3 = some v), ab_W X mR_restart (d + 1) 0 0 46 [some (.ref 23), some (.int y1), some (.int y2), some (.int y3), none] [] (rs_H pf r rest) (fun r9 h9 => r9 = none ∧ h9 = rs_H pf v rest) := by
  induction n with
  | zero =>
    intro r y1 y2 y3 v hv
    cases hv
  | succ n ih =>
    intro r y1 y2 y3 v hv
    refine ab_go 2 [46] (pc' := 49) (lo' := [some (.ref 23), some (.int y1), some (.int y2), some (.int y3), none]) (st' := [.int (30 : Int32), .int y3]) (h' := rs_H pf r rest) ckR_restart rfl ?_
    refine ab_icmp_ge ckR_restart rfl (fun (h1 : (30 : Int32) ≤ y3) => ?_) (fun (h1 : ¬ ((30 : Int32) ≤ y3)) => ?_)
    · refine ab_go 12 [46] (pc' := 151) (lo' := [some (.ref 23), some (.int y1), some (.int y2), some (.int y3), none]) (st' := []) (h' := rs_H pf (cs_u (cs_u (cs_u (cs_u r 0 0 (0 : Int32)) 0 2 (0 : Int32)) 0 5 (127 : Int32)) 0 6 (1 : Int32)) rest) ckR_restart rfl ?_
      refine ab_go 12 [46] (pc' := 172) (lo' := [some (.ref 23), some (.int y1), some (.int y2), some (.int y3), none]) (st' := []) (h' := rs_H pf (cs_u (cs_u (cs_u (cs_u (cs_u (cs_u (cs_u r 0 0 (0 : Int32)) 0 2 (0 : Int32)) 0 5 (127 : Int32)) 0 6 (1 : Int32)) 0 7 (r.1 1 19)) 0 8 (1 : Int32)) 0 9 (0 : Int32)) rest) ckR_restart rfl ?_
      refine ab_go 12 [46] (pc' := 192) (lo' := [some (.ref 23), some (.int y1), some (.int y2), some (.int y3), none]) (st' := []) (h' := rs_H pf (cs_u (cs_u (cs_u (cs_u (cs_u (cs_u (cs_u (cs_u (cs_u (cs_u (cs_u r 0 0 (0 : Int32)) 0 2 (0 : Int32)) 0 5 (127 : Int32)) 0 6 (1 : Int32)) 0 7 (r.1 1 19)) 0 8 (1 : Int32)) 0 9 (0 : Int32)) 0 10 (0 : Int32)) 0 11 (0 : Int32)) 0 12 (0 : Int32)) 0 13 (0 : Int32)) rest) ckR_restart rfl ?_
      refine ab_go 10 [46] (pc' := 208) (lo' := [some (.ref 23), some (.int y1), some (.int y2), some (.int y3), none]) (st' := [.long (0 : Int64), .int (1 : Int32), .int ((1792 : Int32) + (r.1 0 4)), .ref 23]) (h' := rs_H pf (cs_u (cs_u (cs_u (cs_u (cs_u (cs_u (cs_u (cs_u (cs_u (cs_u (cs_u (cs_u r 0 0 (0 : Int32)) 0 2 (0 : Int32)) 0 5 (127 : Int32)) 0 6 (1 : Int32)) 0 7 (r.1 1 19)) 0 8 (1 : Int32)) 0 9 (0 : Int32)) 0 10 (0 : Int32)) 0 11 (0 : Int32)) 0 12 (0 : Int32)) 0 13 (0 : Int32)) 0 14 (0 : Int32)) rest) ckR_restart rfl ?_
      rcases e1 : fR_send (cs_u (cs_u (cs_u (cs_u (cs_u (cs_u (cs_u (cs_u (cs_u (cs_u (cs_u (cs_u r 0 0 (0 : Int32)) 0 2 (0 : Int32)) 0 5 (127 : Int32)) 0 6 (1 : Int32)) 0 7 (r.1 1 19)) 0 8 (1 : Int32)) 0 9 (0 : Int32)) 0 10 (0 : Int32)) 0 11 (0 : Int32)) 0 12 (0 : Int32)) 0 13 (0 : Int32)) 0 14 (0 : Int32)) ((1792 : Int32) + (r.1 0 4)) (1 : Int32) (0 : Int64) with _ | p1
      · exact ab_no hv (by simp only [fR_restart_46, if_pos h1, e1, ab_bd_n])
      refine ab_callV (bc2 := 0) (bs2 := 0) (as := [_, _, _]) (rest := []) ckR_restart rfl (by decide +kernel) wR_send (tR_send (d := d) (x1 := ((1792 : Int32) + (r.1 0 4))) (x2 := (1 : Int32)) (x3 := (0 : Int64)) (r := (cs_u (cs_u (cs_u (cs_u (cs_u (cs_u (cs_u (cs_u (cs_u (cs_u (cs_u (cs_u r 0 0 (0 : Int32)) 0 2 (0 : Int32)) 0 5 (127 : Int32)) 0 6 (1 : Int32)) 0 7 (r.1 1 19)) 0 8 (1 : Int32)) 0 9 (0 : Int32)) 0 10 (0 : Int32)) 0 11 (0 : Int32)) 0 12 (0 : Int32)) 0 13 (0 : Int32)) 0 14 (0 : Int32))) (v := p1) e1) rfl rfl (by omega) ⟨Nat.le_refl _, Nat.le_refl _⟩ (Nat.le_of_ble_eq_true rfl) ?_
      rintro _ _ ⟨rfl, rfl⟩
      have e : fR_restart_46 (n + 1) r y1 y2 y3 = some p1 := by simp only [fR_restart_46, if_pos h1, e1, ab_bd_s]
      obtain rfl := Option.some.inj (e.symm.trans hv)
      exact ab_vret ckR_restart rfl rfl ⟨rfl, rfl⟩
    · refine ab_go 3 [46] (pc' := 57) (lo' := [some (.ref 23), some (.int y1), some (.int y2), some (.int y3), none]) (st' := [.int y3, .ref 26]) (h' := rs_H pf r rest) ckR_restart rfl ?_
      by_cases h2 : ab_inb y3 30 = true
      case neg => exact ab_no hv (by simp only [fR_restart_46, if_neg h1, if_neg h2])
      refine ab_iald ckR_restart rfl rfl (ab_inb_ok h2) ?_
      refine ab_go 1 [46] (pc' := 60) (lo' := [some (.ref 23), some (.int y1), some (.int y2), some (.int y3), none]) (st' := [.int (8 : Int32), .int (mdKind (y3).toNatClampNeg)]) (h' := rs_H pf r rest) ckR_restart rfl ?_
      refine ab_icmp_lt ckR_restart rfl (fun (h3 : (mdKind (y3).toNatClampNeg) < (8 : Int32)) => ?_) (fun (h3 : ¬ ((mdKind (y3).toNatClampNeg) < (8 : Int32))) => ?_)
      · refine ab_go 4 [46] (pc' := 73) (lo' := [some (.ref 23), some (.int y1), some (.int y2), some (.int y3), some (.int (0 : Int32))]) (st' := [.int (19 : Int32), .int y3]) (h' := rs_H pf r rest) ckR_restart rfl ?_
        refine ab_icmp_eq ckR_restart rfl (fun (h4 : y3 = (19 : Int32)) => ?_) (fun (h4 : ¬ (y3 = (19 : Int32))) => ?_)
        · refine ab_go 1 [46] (pc' := 113) (lo' := [some (.ref 23), some (.int y1), some (.int y2), some (.int y3), some (.int (0 : Int32))]) (st' := [.int (0 : Int32)]) (h' := rs_H pf r rest) ckR_restart rfl ?_
          refine ab_if_eq ckR_restart rfl (fun _ => ?_) (fun hh => absurd hh (by decide))
          refine ab_go 4 [46] (pc' := 46) (lo' := [some (.ref 23), some (.int y1), some (.int y2), some (.int (y3 + (1 : Int32))), some (.int (0 : Int32))]) (st' := []) (h' := rs_H pf r rest) ckR_restart rfl ?_
          have e : fR_restart_46 (n + 1) r y1 y2 y3 = fR_restart_46 n r y1 y2 (y3 + (1 : Int32)) := by simp only [fR_restart_46, if_neg h1, if_pos h2, if_pos h3, if_pos h4]
          exact ab_W.weak (ih r y1 y2 (y3 + (1 : Int32)) v (e.symm.trans hv)) ⟨rfl, rfl, rfl, rfl, trivial⟩
        · refine ab_go 4 [46] (pc' := 83) (lo' := [some (.ref 23), some (.int y1), some (.int y2), some (.int y3), some (.int (0 : Int32))]) (st' := [.int (0 : Int32), .int y3, .ref 30]) (h' := rs_H pf r rest) ckR_restart rfl ?_
          refine ab_if_eq ckR_restart rfl (fun _ => ?_) (fun hh => absurd hh (by decide))
          refine ab_go 3 [46] (pc' := 109) (lo' := [some (.ref 23), some (.int y1), some (.int y2), some (.int y3), some (.int (0 : Int32))]) (st' := [.int y3, .ref 27, .int y3, .ref 30]) (h' := rs_H pf r rest) ckR_restart rfl ?_
          refine ab_iald ckR_restart rfl rfl (ab_inb_ok h2) ?_
          refine ab_iast ckR_restart rfl rfl (ab_inb_ok h2) ?_
          refine ab_go 1 [46] (pc' := 113) (lo' := [some (.ref 23), some (.int y1), some (.int y2), some (.int y3), some (.int (0 : Int32))]) (st' := [.int (0 : Int32)]) (h' := rs_H pf (cs_u r 1 (y3).toNatClampNeg (mdStart (y3).toNatClampNeg)) rest) ckR_restart rfl ?_
          refine ab_if_eq ckR_restart rfl (fun _ => ?_) (fun hh => absurd hh (by decide))
          refine ab_go 4 [46] (pc' := 46) (lo' := [some (.ref 23), some (.int y1), some (.int y2), some (.int (y3 + (1 : Int32))), some (.int (0 : Int32))]) (st' := []) (h' := rs_H pf (cs_u r 1 (y3).toNatClampNeg (mdStart (y3).toNatClampNeg)) rest) ckR_restart rfl ?_
          have e : fR_restart_46 (n + 1) r y1 y2 y3 = fR_restart_46 n (cs_u r 1 (y3).toNatClampNeg (mdStart (y3).toNatClampNeg)) y1 y2 (y3 + (1 : Int32)) := by simp only [fR_restart_46, if_neg h1, if_pos h2, if_pos h3, if_neg h4]
          exact ab_W.weak (ih (cs_u r 1 (y3).toNatClampNeg (mdStart (y3).toNatClampNeg)) y1 y2 (y3 + (1 : Int32)) v (e.symm.trans hv)) ⟨rfl, rfl, rfl, rfl, trivial⟩
      · refine ab_go 5 [46] (pc' := 73) (lo' := [some (.ref 23), some (.int y1), some (.int y2), some (.int y3), some (.int (1 : Int32))]) (st' := [.int (19 : Int32), .int y3]) (h' := rs_H pf r rest) ckR_restart rfl ?_
        refine ab_icmp_eq ckR_restart rfl (fun (h5 : y3 = (19 : Int32)) => ?_) (fun (h5 : ¬ (y3 = (19 : Int32))) => ?_)
        · refine ab_go 1 [46] (pc' := 113) (lo' := [some (.ref 23), some (.int y1), some (.int y2), some (.int y3), some (.int (1 : Int32))]) (st' := [.int (1 : Int32)]) (h' := rs_H pf r rest) ckR_restart rfl ?_
          refine ab_if_eq ckR_restart rfl (fun hh => absurd hh (by decide)) (fun _ => ?_)
          refine ab_go 7 [46] (pc' := 46) (lo' := [some (.ref 23), some (.int y1), some (.int (y2 + (1 : Int32))), some (.int (y3 + (1 : Int32))), some (.int (1 : Int32))]) (st' := []) (h' := rs_H pf r rest) ckR_restart rfl ?_
          have e : fR_restart_46 (n + 1) r y1 y2 y3 = fR_restart_46 n r y1 (y2 + (1 : Int32)) (y3 + (1 : Int32)) := by simp only [fR_restart_46, if_neg h1, if_pos h2, if_neg h3, if_pos h5]
          exact ab_W.weak (ih r y1 (y2 + (1 : Int32)) (y3 + (1 : Int32)) v (e.symm.trans hv)) ⟨rfl, rfl, rfl, rfl, trivial⟩
        · refine ab_go 4 [46] (pc' := 83) (lo' := [some (.ref 23), some (.int y1), some (.int y2), some (.int y3), some (.int (1 : Int32))]) (st' := [.int (1 : Int32), .int y3, .ref 30]) (h' := rs_H pf r rest) ckR_restart rfl ?_
          refine ab_if_eq ckR_restart rfl (fun hh => absurd hh (by decide)) (fun _ => ?_)
          refine ab_go 1 [46] (pc' := 87) (lo' := [some (.ref 23), some (.int y1), some (.int y2), some (.int y3), some (.int (1 : Int32))]) (st' := [.int y1, .int y3, .ref 30]) (h' := rs_H pf r rest) ckR_restart rfl ?_
          refine ab_if_lt ckR_restart rfl (fun (h6 : y1 < 0) => ?_) (fun (h6 : ¬ (y1 < 0)) => ?_)
          · refine ab_go 3 [46] (pc' := 109) (lo' := [some (.ref 23), some (.int y1), some (.int y2), some (.int y3), some (.int (1 : Int32))]) (st' := [.int y3, .ref 27, .int y3, .ref 30]) (h' := rs_H pf r rest) ckR_restart rfl ?_
            refine ab_iald ckR_restart rfl rfl (ab_inb_ok h2) ?_
            refine ab_iast ckR_restart rfl rfl (ab_inb_ok h2) ?_
            refine ab_go 1 [46] (pc' := 113) (lo' := [some (.ref 23), some (.int y1), some (.int y2), some (.int y3), some (.int (1 : Int32))]) (st' := [.int (1 : Int32)]) (h' := rs_H pf (cs_u r 1 (y3).toNatClampNeg (mdStart (y3).toNatClampNeg)) rest) ckR_restart rfl ?_
            refine ab_if_eq ckR_restart rfl (fun hh => absurd hh (by decide)) (fun _ => ?_)
            refine ab_go 7 [46] (pc' := 46) (lo' := [some (.ref 23), some (.int y1), some (.int (y2 + (1 : Int32))), some (.int (y3 + (1 : Int32))), some (.int (1 : Int32))]) (st' := []) (h' := rs_H pf (cs_u r 1 (y3).toNatClampNeg (mdStart (y3).toNatClampNeg)) rest) ckR_restart rfl ?_
            have e : fR_restart_46 (n + 1) r y1 y2 y3 = fR_restart_46 n (cs_u r 1 (y3).toNatClampNeg (mdStart (y3).toNatClampNeg)) y1 (y2 + (1 : Int32)) (y3 + (1 : Int32)) := by simp only [fR_restart_46, if_neg h1, if_pos h2, if_neg h3, if_neg h5, if_pos h6]
            exact ab_W.weak (ih (cs_u r 1 (y3).toNatClampNeg (mdStart (y3).toNatClampNeg)) y1 (y2 + (1 : Int32)) (y3 + (1 : Int32)) v (e.symm.trans hv)) ⟨rfl, rfl, rfl, rfl, trivial⟩
          · refine ab_go 7 [46] (pc' := 100) (lo' := [some (.ref 23), some (.int y1), some (.int y2), some (.int y3), some (.int (1 : Int32))]) (st' := [.int (((22 : Int32) * y1) + y2), .ref 34, .int y3, .ref 30]) (h' := rs_H pf r rest) ckR_restart rfl ?_
            by_cases h7 : ab_inb (((22 : Int32) * y1) + y2) 44 = true
            case neg => exact ab_no hv (by simp only [fR_restart_46, if_neg h1, if_pos h2, if_neg h3, if_neg h5, if_neg h6, if_neg h7])
            refine ab_iald ckR_restart rfl rfl (ab_inb_ok h7) ?_
            refine ab_go 1 [46] (pc' := 110) (lo' := [some (.ref 23), some (.int y1), some (.int y2), some (.int y3), some (.int (1 : Int32))]) (st' := [.int (r.1 4 ((((22 : Int32) * y1) + y2)).toNatClampNeg), .int y3, .ref 30]) (h' := rs_H pf r rest) ckR_restart rfl ?_
            refine ab_iast ckR_restart rfl rfl (ab_inb_ok h2) ?_
            refine ab_go 1 [46] (pc' := 113) (lo' := [some (.ref 23), some (.int y1), some (.int y2), some (.int y3), some (.int (1 : Int32))]) (st' := [.int (1 : Int32)]) (h' := rs_H pf (cs_u r 1 (y3).toNatClampNeg (r.1 4 ((((22 : Int32) * y1) + y2)).toNatClampNeg)) rest) ckR_restart rfl ?_
            refine ab_if_eq ckR_restart rfl (fun hh => absurd hh (by decide)) (fun _ => ?_)
            refine ab_go 7 [46] (pc' := 46) (lo' := [some (.ref 23), some (.int y1), some (.int (y2 + (1 : Int32))), some (.int (y3 + (1 : Int32))), some (.int (1 : Int32))]) (st' := []) (h' := rs_H pf (cs_u r 1 (y3).toNatClampNeg (r.1 4 ((((22 : Int32) * y1) + y2)).toNatClampNeg)) rest) ckR_restart rfl ?_
            have e : fR_restart_46 (n + 1) r y1 y2 y3 = fR_restart_46 n (cs_u r 1 (y3).toNatClampNeg (r.1 4 ((((22 : Int32) * y1) + y2)).toNatClampNeg)) y1 (y2 + (1 : Int32)) (y3 + (1 : Int32)) := by simp only [fR_restart_46, if_neg h1, if_pos h2, if_neg h3, if_neg h5, if_neg h6, if_pos h7]
            exact ab_W.weak (ih (cs_u r 1 (y3).toNatClampNeg (r.1 4 ((((22 : Int32) * y1) + y2)).toNatClampNeg)) y1 (y2 + (1 : Int32)) (y3 + (1 : Int32)) v (e.symm.trans hv)) ⟨rfl, rfl, rfl, rfl, trivial⟩
set_option maxRecDepth 20000 in
set_option maxHeartbeats 4000000 in
theorem tR_restart {v : cs_S} (hv : fR_restart r = some v) : ab_M X mR_restart (d + 1) 0 0 [.ref 23] (rs_H pf r rest) (fun r9 h9 => r9 = none ∧ h9 = rs_H pf v rest) := by
  refine ab_entry (by decide) (Nat.le_of_ble_eq_true rfl) ?_
  refine ab_go 8 [46] (pc' := 13) (lo' := [some (.ref 23), none, none, none, none]) (st' := [.int (r.1 4 22), .int (r.1 4 0)]) (h' := rs_H pf r rest) ckR_restart rfl ?_
  refine ab_icmp_le ckR_restart rfl (fun (h1 : (r.1 4 0) ≤ (r.1 4 22)) => ?_) (fun (h1 : ¬ ((r.1 4 0) ≤ (r.1 4 22))) => ?_)
  · refine ab_go 8 [46] (pc' := 33) (lo' := [some (.ref 23), none, none, none, none]) (st' := [.int (r.1 4 0), .int (r.1 4 22)]) (h' := rs_H pf r rest) ckR_restart rfl ?_
    refine ab_icmp_le ckR_restart rfl (fun (h2 : (r.1 4 22) ≤ (r.1 4 0)) => ?_) (fun (h2 : ¬ ((r.1 4 22) ≤ (r.1 4 0))) => ?_)
    · refine ab_go 6 [46] (pc' := 46) (lo' := [some (.ref 23), some (.int (-1 : Int32)), some (.int (1 : Int32)), some (.int (0 : Int32)), none]) (st' := []) (h' := rs_H pf r rest) ckR_restart rfl ?_
      have e : fR_restart r = fR_restart_46 40 r (-1 : Int32) (1 : Int32) (0 : Int32) := by simp only [fR_restart, if_pos h1, if_pos h2]
      exact ab_W.weak (tR_restart_46 40 r (-1 : Int32) (1 : Int32) (0 : Int32) v (e.symm.trans hv)) ⟨rfl, rfl, rfl, rfl, trivial⟩
    · refine ab_go 7 [46] (pc' := 46) (lo' := [some (.ref 23), some (.int (1 : Int32)), some (.int (1 : Int32)), some (.int (0 : Int32)), none]) (st' := []) (h' := rs_H pf r rest) ckR_restart rfl ?_
      have e : fR_restart r = fR_restart_46 40 r (1 : Int32) (1 : Int32) (0 : Int32) := by simp only [fR_restart, if_pos h1, if_neg h2]
      exact ab_W.weak (tR_restart_46 40 r (1 : Int32) (1 : Int32) (0 : Int32) v (e.symm.trans hv)) ⟨rfl, rfl, rfl, rfl, trivial⟩
  · refine ab_go 7 [46] (pc' := 46) (lo' := [some (.ref 23), some (.int (0 : Int32)), some (.int (1 : Int32)), some (.int (0 : Int32)), none]) (st' := []) (h' := rs_H pf r rest) ckR_restart rfl ?_
    have e : fR_restart r = fR_restart_46 40 r (0 : Int32) (1 : Int32) (0 : Int32) := by simp only [fR_restart, if_neg h1]
    exact ab_W.weak (tR_restart_46 40 r (0 : Int32) (1 : Int32) (0 : Int32) v (e.symm.trans hv)) ⟨rfl, rfl, rfl, rfl, trivial⟩
def fR_outByTime (r : cs_S)  : Option (cs_S) := (if (r.1 0 5) = (5 : Int32) then (if (r.1 1 9) < (241 : Int32) then (some r) else (if (r.1 1 12) = 0 then (some r) else (if (r.1 0 11) = 0 then (ab_bd (fR_out r) (fun p1 => (some p1))) else (ab_bd (fR_gathered r) (fun p2 => (if (lg_cmp p2 (r.2.2)) = 0 then (ab_bd (fR_size r (12 : Int32)) (fun p4 => (if p4 = (r.1 0 16) then (if (r.1 1 11) ≤ 0 then (if (r.1 1 10) ≤ (r.1 0 15) then (some r) else (some r)) else (if (r.1 0 15) < (r.1 1 11) then (if (r.1 1 10) ≤ (r.1 0 15) then (some r) else (some r)) else (if (r.1 1 10) ≤ (r.1 0 15) then (ab_bd (fR_out r) (fun p6 => (some p6))) else (some r)))) else (if (r.1 1 10) ≤ (r.1 0 15) then (ab_bd (fR_out r) (fun p5 => (some p5))) else (some r))))) else (if (r.1 1 10) ≤ (r.1 0 15) then (ab_bd (fR_out r) (fun p3 => (some p3))) else (some r)))))))) else (some r))
set_option maxRecDepth 20000 in
set_option maxHeartbeats 4000000 in
theorem tR_outByTime {v : cs_S} (hv : fR_outByTime r = some v) : ab_M X mR_outByTime (d + 5) 0 0 [.ref 23] (rs_H pf r rest) (fun r9 h9 => r9 = none ∧ h9 = rs_H pf v rest) := by
  refine ab_entry (by decide) (Nat.le_of_ble_eq_true rfl) ?_
  refine ab_go 3 [] (pc' := 5) (lo' := [some (.ref 23), none, none]) (st' := [.int (5 : Int32), .int (r.1 0 5)]) (h' := rs_H pf r rest) ckR_outByTime rfl ?_
  refine ab_icmp_ne ckR_outByTime rfl (fun (h1 : ¬ ((r.1 0 5) = (5 : Int32))) => ?_) (fun (h1 : (r.1 0 5) = (5 : Int32)) => ?_)
  · have e : fR_outByTime r = some r := by simp only [fR_outByTime, if_neg h1]
    obtain rfl := Option.some.inj (e.symm.trans hv)
    exact ab_vret ckR_outByTime rfl rfl ⟨rfl, rfl⟩
  · refine ab_go 5 [] (pc' := 18) (lo' := [some (.ref 23), none, none]) (st' := [.int (241 : Int32), .int (r.1 1 9)]) (h' := rs_H pf r rest) ckR_outByTime rfl ?_
    refine ab_icmp_lt ckR_outByTime rfl (fun (h2 : (r.1 1 9) < (241 : Int32)) => ?_) (fun (h2 : ¬ ((r.1 1 9) < (241 : Int32))) => ?_)
    · have e : fR_outByTime r = some r := by simp only [fR_outByTime, if_pos h1, if_pos h2]
      obtain rfl := Option.some.inj (e.symm.trans hv)
      exact ab_vret ckR_outByTime rfl rfl ⟨rfl, rfl⟩
    · refine ab_go 4 [] (pc' := 28) (lo' := [some (.ref 23), none, none]) (st' := [.int (r.1 1 12)]) (h' := rs_H pf r rest) ckR_outByTime rfl ?_
      refine ab_if_ne ckR_outByTime rfl (fun (h3 : ¬ ((r.1 1 12) = 0)) => ?_) (fun (h3 : (r.1 1 12) = 0) => ?_)
      · refine ab_go 2 [] (pc' := 36) (lo' := [some (.ref 23), none, none]) (st' := [.int (r.1 0 11)]) (h' := rs_H pf r rest) ckR_outByTime rfl ?_
        refine ab_if_eq ckR_outByTime rfl (fun (h4 : (r.1 0 11) = 0) => ?_) (fun (h4 : ¬ ((r.1 0 11) = 0)) => ?_)
        · refine ab_go 5 [] (pc' := 98) (lo' := [some (.ref 23), some (.int (1 : Int32)), none]) (st' := [.int (r.1 0 11)]) (h' := rs_H pf r rest) ckR_outByTime rfl ?_
          refine ab_if_eq ckR_outByTime rfl (fun _ => ?_) (fun hh => absurd h4 hh)
          refine ab_go 3 [] (pc' := 122) (lo' := [some (.ref 23), some (.int (1 : Int32)), some (.int (0 : Int32))]) (st' := [.int (1 : Int32)]) (h' := rs_H pf r rest) ckR_outByTime rfl ?_
          refine ab_if_eq ckR_outByTime rfl (fun hh => absurd hh (by decide)) (fun _ => ?_)
          refine ab_go 1 [] (pc' := 126) (lo' := [some (.ref 23), some (.int (1 : Int32)), some (.int (0 : Int32))]) (st' := [.int (0 : Int32)]) (h' := rs_H pf r rest) ckR_outByTime rfl ?_
          refine ab_if_ne ckR_outByTime rfl (fun hh => absurd hh (by decide)) (fun _ => ?_)
          refine ab_go 1 [] (pc' := 130) (lo' := [some (.ref 23), some (.int (1 : Int32)), some (.int (0 : Int32))]) (st' := [.ref 23]) (h' := rs_H pf r rest) ckR_outByTime rfl ?_
          rcases e1 : fR_out r with _ | p1
          · exact ab_no hv (by simp only [fR_outByTime, if_pos h1, if_neg h2, if_neg h3, if_pos h4, e1, ab_bd_n])
          refine ab_callV (bc2 := 0) (bs2 := 0) (as := []) (rest := []) ckR_outByTime rfl (by decide +kernel) wR_out (tR_out (d := d) (r := r) (v := p1) e1) rfl rfl (by omega) ⟨Nat.le_refl _, Nat.le_refl _⟩ (Nat.le_of_ble_eq_true rfl) ?_
          rintro _ _ ⟨rfl, rfl⟩
          have e : fR_outByTime r = some p1 := by simp only [fR_outByTime, if_pos h1, if_neg h2, if_neg h3, if_pos h4, e1, ab_bd_s]
          obtain rfl := Option.some.inj (e.symm.trans hv)
          exact ab_vret ckR_outByTime rfl rfl ⟨rfl, rfl⟩
        · refine ab_go 1 [] (pc' := 40) (lo' := [some (.ref 23), none, none]) (st' := [.ref 23]) (h' := rs_H pf r rest) ckR_outByTime rfl ?_
          rcases e2 : fR_gathered r with _ | p2
          · exact ab_no hv (by simp only [fR_outByTime, if_pos h1, if_neg h2, if_neg h3, if_neg h4, e2, ab_bd_n])
          refine ab_callV (bc2 := 0) (bs2 := 0) (as := []) (rest := []) ckR_outByTime rfl (by decide +kernel) wR_gathered (tR_gathered (d := d + 1) (r := r) (v := p2) e2) rfl rfl (by omega) ⟨Nat.le_refl _, Nat.le_refl _⟩ (Nat.le_of_ble_eq_true rfl) ?_
          rintro _ _ ⟨rfl, rfl⟩
          refine ab_go 3 [] (pc' := 48) (lo' := [some (.ref 23), none, none]) (st' := [.int (lg_cmp p2 (r.2.2))]) (h' := rs_H pf r rest) ckR_outByTime rfl ?_
          refine ab_if_ne ckR_outByTime rfl (fun (h5 : ¬ ((lg_cmp p2 (r.2.2)) = 0)) => ?_) (fun (h5 : (lg_cmp p2 (r.2.2)) = 0) => ?_)
          · refine ab_go 5 [] (pc' := 98) (lo' := [some (.ref 23), some (.int (1 : Int32)), none]) (st' := [.int (r.1 0 11)]) (h' := rs_H pf r rest) ckR_outByTime rfl ?_
            refine ab_if_eq ckR_outByTime rfl (fun hh => absurd hh h4) (fun _ => ?_)
            refine ab_go 6 [] (pc' := 112) (lo' := [some (.ref 23), some (.int (1 : Int32)), none]) (st' := [.int (r.1 1 10), .int (r.1 0 15)]) (h' := rs_H pf r rest) ckR_outByTime rfl ?_
            refine ab_icmp_ge ckR_outByTime rfl (fun (h6 : (r.1 1 10) ≤ (r.1 0 15)) => ?_) (fun (h6 : ¬ ((r.1 1 10) ≤ (r.1 0 15))) => ?_)
            · refine ab_go 3 [] (pc' := 122) (lo' := [some (.ref 23), some (.int (1 : Int32)), some (.int (0 : Int32))]) (st' := [.int (1 : Int32)]) (h' := rs_H pf r rest) ckR_outByTime rfl ?_
              refine ab_if_eq ckR_outByTime rfl (fun hh => absurd hh (by decide)) (fun _ => ?_)
              refine ab_go 1 [] (pc' := 126) (lo' := [some (.ref 23), some (.int (1 : Int32)), some (.int (0 : Int32))]) (st' := [.int (0 : Int32)]) (h' := rs_H pf r rest) ckR_outByTime rfl ?_
              refine ab_if_ne ckR_outByTime rfl (fun hh => absurd hh (by decide)) (fun _ => ?_)
              refine ab_go 1 [] (pc' := 130) (lo' := [some (.ref 23), some (.int (1 : Int32)), some (.int (0 : Int32))]) (st' := [.ref 23]) (h' := rs_H pf r rest) ckR_outByTime rfl ?_
              rcases e3 : fR_out r with _ | p3
              · exact ab_no hv (by simp only [fR_outByTime, if_pos h1, if_neg h2, if_neg h3, if_neg h4, e2, ab_bd_s, if_neg h5, if_pos h6, e3, ab_bd_n])
              refine ab_callV (bc2 := 0) (bs2 := 0) (as := []) (rest := []) ckR_outByTime rfl (by decide +kernel) wR_out (tR_out (d := d) (r := r) (v := p3) e3) rfl rfl (by omega) ⟨Nat.le_refl _, Nat.le_refl _⟩ (Nat.le_of_ble_eq_true rfl) ?_
              rintro _ _ ⟨rfl, rfl⟩
              have e : fR_outByTime r = some p3 := by simp only [fR_outByTime, if_pos h1, if_neg h2, if_neg h3, if_neg h4, e2, ab_bd_s, if_neg h5, if_pos h6, e3, ab_bd_s]
              obtain rfl := Option.some.inj (e.symm.trans hv)
              exact ab_vret ckR_outByTime rfl rfl ⟨rfl, rfl⟩
            · refine ab_go 4 [] (pc' := 122) (lo' := [some (.ref 23), some (.int (1 : Int32)), some (.int (1 : Int32))]) (st' := [.int (1 : Int32)]) (h' := rs_H pf r rest) ckR_outByTime rfl ?_
              refine ab_if_eq ckR_outByTime rfl (fun hh => absurd hh (by decide)) (fun _ => ?_)
              refine ab_go 1 [] (pc' := 126) (lo' := [some (.ref 23), some (.int (1 : Int32)), some (.int (1 : Int32))]) (st' := [.int (1 : Int32)]) (h' := rs_H pf r rest) ckR_outByTime rfl ?_
              refine ab_if_ne ckR_outByTime rfl (fun _ => ?_) (fun hh => absurd hh (by decide))
              have e : fR_outByTime r = some r := by simp only [fR_outByTime, if_pos h1, if_neg h2, if_neg h3, if_neg h4, e2, ab_bd_s, if_neg h5, if_neg h6]
              obtain rfl := Option.some.inj (e.symm.trans hv)
              exact ab_vret ckR_outByTime rfl rfl ⟨rfl, rfl⟩
          · refine ab_go 2 [] (pc' := 54) (lo' := [some (.ref 23), none, none]) (st' := [.int (12 : Int32), .ref 23]) (h' := rs_H pf r rest) ckR_outByTime rfl ?_
            rcases e4 : fR_size r (12 : Int32) with _ | p4
            · exact ab_no hv (by simp only [fR_outByTime, if_pos h1, if_neg h2, if_neg h3, if_neg h4, e2, ab_bd_s, if_pos h5, e4, ab_bd_n])
            refine ab_callV (bc2 := 0) (bs2 := 0) (as := [_]) (rest := []) ckR_outByTime rfl (by decide +kernel) wR_size (tR_size (d := d + 3) (x1 := (12 : Int32)) (r := r) (v := p4) e4) rfl rfl (by omega) ⟨Nat.le_refl _, Nat.le_refl _⟩ (Nat.le_of_ble_eq_true rfl) ?_
            rintro _ _ ⟨rfl, rfl⟩
            refine ab_go 2 [] (pc' := 61) (lo' := [some (.ref 23), none, none]) (st' := [.int (r.1 0 16), .int p4]) (h' := rs_H pf r rest) ckR_outByTime rfl ?_
            refine ab_icmp_ne ckR_outByTime rfl (fun (h7 : ¬ (p4 = (r.1 0 16))) => ?_) (fun (h7 : p4 = (r.1 0 16)) => ?_)
            · refine ab_go 5 [] (pc' := 98) (lo' := [some (.ref 23), some (.int (1 : Int32)), none]) (st' := [.int (r.1 0 11)]) (h' := rs_H pf r rest) ckR_outByTime rfl ?_
              refine ab_if_eq ckR_outByTime rfl (fun hh => absurd hh h4) (fun _ => ?_)
              refine ab_go 6 [] (pc' := 112) (lo' := [some (.ref 23), some (.int (1 : Int32)), none]) (st' := [.int (r.1 1 10), .int (r.1 0 15)]) (h' := rs_H pf r rest) ckR_outByTime rfl ?_
              refine ab_icmp_ge ckR_outByTime rfl (fun (h8 : (r.1 1 10) ≤ (r.1 0 15)) => ?_) (fun (h8 : ¬ ((r.1 1 10) ≤ (r.1 0 15))) => ?_)
              · refine ab_go 3 [] (pc' := 122) (lo' := [some (.ref 23), some (.int (1 : Int32)), some (.int (0 : Int32))]) (st' := [.int (1 : Int32)]) (h' := rs_H pf r rest) ckR_outByTime rfl ?_
                refine ab_if_eq ckR_outByTime rfl (fun hh => absurd hh (by decide)) (fun _ => ?_)
                refine ab_go 1 [] (pc' := 126) (lo' := [some (.ref 23), some (.int (1 : Int32)), some (.int (0 : Int32))]) (st' := [.int (0 : Int32)]) (h' := rs_H pf r rest) ckR_outByTime rfl ?_
                refine ab_if_ne ckR_outByTime rfl (fun hh => absurd hh (by decide)) (fun _ => ?_)
                refine ab_go 1 [] (pc' := 130) (lo' := [some (.ref 23), some (.int (1 : Int32)), some (.int (0 : Int32))]) (st' := [.ref 23]) (h' := rs_H pf r rest) ckR_outByTime rfl ?_
                rcases e5 : fR_out r with _ | p5
                · exact ab_no hv (by simp only [fR_outByTime, if_pos h1, if_neg h2, if_neg h3, if_neg h4, e2, ab_bd_s, if_pos h5, e4, ab_bd_s, if_neg h7, if_pos h8, e5, ab_bd_n])
                refine ab_callV (bc2 := 0) (bs2 := 0) (as := []) (rest := []) ckR_outByTime rfl (by decide +kernel) wR_out (tR_out (d := d) (r := r) (v := p5) e5) rfl rfl (by omega) ⟨Nat.le_refl _, Nat.le_refl _⟩ (Nat.le_of_ble_eq_true rfl) ?_
                rintro _ _ ⟨rfl, rfl⟩
                have e : fR_outByTime r = some p5 := by simp only [fR_outByTime, if_pos h1, if_neg h2, if_neg h3, if_neg h4, e2, ab_bd_s, if_pos h5, e4, ab_bd_s, if_neg h7, if_pos h8, e5, ab_bd_s]
                obtain rfl := Option.some.inj (e.symm.trans hv)
                exact ab_vret ckR_outByTime rfl rfl ⟨rfl, rfl⟩
              · refine ab_go 4 [] (pc' := 122) (lo' := [some (.ref 23), some (.int (1 : Int32)), some (.int (1 : Int32))]) (st' := [.int (1 : Int32)]) (h' := rs_H pf r rest) ckR_outByTime rfl ?_
                refine ab_if_eq ckR_outByTime rfl (fun hh => absurd hh (by decide)) (fun _ => ?_)
                refine ab_go 1 [] (pc' := 126) (lo' := [some (.ref 23), some (.int (1 : Int32)), some (.int (1 : Int32))]) (st' := [.int (1 : Int32)]) (h' := rs_H pf r rest) ckR_outByTime rfl ?_
                refine ab_if_ne ckR_outByTime rfl (fun _ => ?_) (fun hh => absurd hh (by decide))
                have e : fR_outByTime r = some r := by simp only [fR_outByTime, if_pos h1, if_neg h2, if_neg h3, if_neg h4, e2, ab_bd_s, if_pos h5, e4, ab_bd_s, if_neg h7, if_neg h8]
                obtain rfl := Option.some.inj (e.symm.trans hv)
                exact ab_vret ckR_outByTime rfl rfl ⟨rfl, rfl⟩
            · refine ab_go 4 [] (pc' := 71) (lo' := [some (.ref 23), none, none]) (st' := [.int (r.1 1 11)]) (h' := rs_H pf r rest) ckR_outByTime rfl ?_
              refine ab_if_le ckR_outByTime rfl (fun (h9 : (r.1 1 11) ≤ 0) => ?_) (fun (h9 : ¬ ((r.1 1 11) ≤ 0)) => ?_)
              · refine ab_go 4 [] (pc' := 98) (lo' := [some (.ref 23), some (.int (0 : Int32)), none]) (st' := [.int (r.1 0 11)]) (h' := rs_H pf r rest) ckR_outByTime rfl ?_
                refine ab_if_eq ckR_outByTime rfl (fun hh => absurd hh h4) (fun _ => ?_)
                refine ab_go 6 [] (pc' := 112) (lo' := [some (.ref 23), some (.int (0 : Int32)), none]) (st' := [.int (r.1 1 10), .int (r.1 0 15)]) (h' := rs_H pf r rest) ckR_outByTime rfl ?_
                refine ab_icmp_ge ckR_outByTime rfl (fun (h10 : (r.1 1 10) ≤ (r.1 0 15)) => ?_) (fun (h10 : ¬ ((r.1 1 10) ≤ (r.1 0 15))) => ?_)
                · refine ab_go 3 [] (pc' := 122) (lo' := [some (.ref 23), some (.int (0 : Int32)), some (.int (0 : Int32))]) (st' := [.int (0 : Int32)]) (h' := rs_H pf r rest) ckR_outByTime rfl ?_
                  refine ab_if_eq ckR_outByTime rfl (fun _ => ?_) (fun hh => absurd hh (by decide))
                  have e : fR_outByTime r = some r := by simp only [fR_outByTime, if_pos h1, if_neg h2, if_neg h3, if_neg h4, e2, ab_bd_s, if_pos h5, e4, ab_bd_s, if_pos h7, if_pos h9, if_pos h10]
                  obtain rfl := Option.some.inj (e.symm.trans hv)
                  exact ab_vret ckR_outByTime rfl rfl ⟨rfl, rfl⟩
                · refine ab_go 4 [] (pc' := 122) (lo' := [some (.ref 23), some (.int (0 : Int32)), some (.int (1 : Int32))]) (st' := [.int (0 : Int32)]) (h' := rs_H pf r rest) ckR_outByTime rfl ?_
                  refine ab_if_eq ckR_outByTime rfl (fun _ => ?_) (fun hh => absurd hh (by decide))
                  have e : fR_outByTime r = some r := by simp only [fR_outByTime, if_pos h1, if_neg h2, if_neg h3, if_neg h4, e2, ab_bd_s, if_pos h5, e4, ab_bd_s, if_pos h7, if_pos h9, if_neg h10]
                  obtain rfl := Option.some.inj (e.symm.trans hv)
                  exact ab_vret ckR_outByTime rfl rfl ⟨rfl, rfl⟩
              · refine ab_go 6 [] (pc' := 85) (lo' := [some (.ref 23), none, none]) (st' := [.int (r.1 1 11), .int (r.1 0 15)]) (h' := rs_H pf r rest) ckR_outByTime rfl ?_
                refine ab_icmp_lt ckR_outByTime rfl (fun (h11 : (r.1 0 15) < (r.1 1 11)) => ?_) (fun (h11 : ¬ ((r.1 0 15) < (r.1 1 11))) => ?_)
                · refine ab_go 4 [] (pc' := 98) (lo' := [some (.ref 23), some (.int (0 : Int32)), none]) (st' := [.int (r.1 0 11)]) (h' := rs_H pf r rest) ckR_outByTime rfl ?_
                  refine ab_if_eq ckR_outByTime rfl (fun hh => absurd hh h4) (fun _ => ?_)
                  refine ab_go 6 [] (pc' := 112) (lo' := [some (.ref 23), some (.int (0 : Int32)), none]) (st' := [.int (r.1 1 10), .int (r.1 0 15)]) (h' := rs_H pf r rest) ckR_outByTime rfl ?_
                  refine ab_icmp_ge ckR_outByTime rfl (fun (h12 : (r.1 1 10) ≤ (r.1 0 15)) => ?_) (fun (h12 : ¬ ((r.1 1 10) ≤ (r.1 0 15))) => ?_)
                  · refine ab_go 3 [] (pc' := 122) (lo' := [some (.ref 23), some (.int (0 : Int32)), some (.int (0 : Int32))]) (st' := [.int (0 : Int32)]) (h' := rs_H pf r rest) ckR_outByTime rfl ?_
                    refine ab_if_eq ckR_outByTime rfl (fun _ => ?_) (fun hh => absurd hh (by decide))
                    have e : fR_outByTime r = some r := by simp only [fR_outByTime, if_pos h1, if_neg h2, if_neg h3, if_neg h4, e2, ab_bd_s, if_pos h5, e4, ab_bd_s, if_pos h7, if_neg h9, if_pos h11, if_pos h12]
                    obtain rfl := Option.some.inj (e.symm.trans hv)
                    exact ab_vret ckR_outByTime rfl rfl ⟨rfl, rfl⟩
                  · refine ab_go 4 [] (pc' := 122) (lo' := [some (.ref 23), some (.int (0 : Int32)), some (.int (1 : Int32))]) (st' := [.int (0 : Int32)]) (h' := rs_H pf r rest) ckR_outByTime rfl ?_
                    refine ab_if_eq ckR_outByTime rfl (fun _ => ?_) (fun hh => absurd hh (by decide))
                    have e : fR_outByTime r = some r := by simp only [fR_outByTime, if_pos h1, if_neg h2, if_neg h3, if_neg h4, e2, ab_bd_s, if_pos h5, e4, ab_bd_s, if_pos h7, if_neg h9, if_pos h11, if_neg h12]
                    obtain rfl := Option.some.inj (e.symm.trans hv)
                    exact ab_vret ckR_outByTime rfl rfl ⟨rfl, rfl⟩
                · refine ab_go 5 [] (pc' := 98) (lo' := [some (.ref 23), some (.int (1 : Int32)), none]) (st' := [.int (r.1 0 11)]) (h' := rs_H pf r rest) ckR_outByTime rfl ?_
                  refine ab_if_eq ckR_outByTime rfl (fun hh => absurd hh h4) (fun _ => ?_)
                  refine ab_go 6 [] (pc' := 112) (lo' := [some (.ref 23), some (.int (1 : Int32)), none]) (st' := [.int (r.1 1 10), .int (r.1 0 15)]) (h' := rs_H pf r rest) ckR_outByTime rfl ?_
                  refine ab_icmp_ge ckR_outByTime rfl (fun (h13 : (r.1 1 10) ≤ (r.1 0 15)) => ?_) (fun (h13 : ¬ ((r.1 1 10) ≤ (r.1 0 15))) => ?_)
                  · refine ab_go 3 [] (pc' := 122) (lo' := [some (.ref 23), some (.int (1 : Int32)), some (.int (0 : Int32))]) (st' := [.int (1 : Int32)]) (h' := rs_H pf r rest) ckR_outByTime rfl ?_
                    refine ab_if_eq ckR_outByTime rfl (fun hh => absurd hh (by decide)) (fun _ => ?_)
                    refine ab_go 1 [] (pc' := 126) (lo' := [some (.ref 23), some (.int (1 : Int32)), some (.int (0 : Int32))]) (st' := [.int (0 : Int32)]) (h' := rs_H pf r rest) ckR_outByTime rfl ?_
                    refine ab_if_ne ckR_outByTime rfl (fun hh => absurd hh (by decide)) (fun _ => ?_)
                    refine ab_go 1 [] (pc' := 130) (lo' := [some (.ref 23), some (.int (1 : Int32)), some (.int (0 : Int32))]) (st' := [.ref 23]) (h' := rs_H pf r rest) ckR_outByTime rfl ?_
                    rcases e6 : fR_out r with _ | p6
                    · exact ab_no hv (by simp only [fR_outByTime, if_pos h1, if_neg h2, if_neg h3, if_neg h4, e2, ab_bd_s, if_pos h5, e4, ab_bd_s, if_pos h7, if_neg h9, if_neg h11, if_pos h13, e6, ab_bd_n])
                    refine ab_callV (bc2 := 0) (bs2 := 0) (as := []) (rest := []) ckR_outByTime rfl (by decide +kernel) wR_out (tR_out (d := d) (r := r) (v := p6) e6) rfl rfl (by omega) ⟨Nat.le_refl _, Nat.le_refl _⟩ (Nat.le_of_ble_eq_true rfl) ?_
                    rintro _ _ ⟨rfl, rfl⟩
                    have e : fR_outByTime r = some p6 := by simp only [fR_outByTime, if_pos h1, if_neg h2, if_neg h3, if_neg h4, e2, ab_bd_s, if_pos h5, e4, ab_bd_s, if_pos h7, if_neg h9, if_neg h11, if_pos h13, e6, ab_bd_s]
                    obtain rfl := Option.some.inj (e.symm.trans hv)
                    exact ab_vret ckR_outByTime rfl rfl ⟨rfl, rfl⟩
                  · refine ab_go 4 [] (pc' := 122) (lo' := [some (.ref 23), some (.int (1 : Int32)), some (.int (1 : Int32))]) (st' := [.int (1 : Int32)]) (h' := rs_H pf r rest) ckR_outByTime rfl ?_
                    refine ab_if_eq ckR_outByTime rfl (fun hh => absurd hh (by decide)) (fun _ => ?_)
                    refine ab_go 1 [] (pc' := 126) (lo' := [some (.ref 23), some (.int (1 : Int32)), some (.int (1 : Int32))]) (st' := [.int (1 : Int32)]) (h' := rs_H pf r rest) ckR_outByTime rfl ?_
                    refine ab_if_ne ckR_outByTime rfl (fun _ => ?_) (fun hh => absurd hh (by decide))
                    have e : fR_outByTime r = some r := by simp only [fR_outByTime, if_pos h1, if_neg h2, if_neg h3, if_neg h4, e2, ab_bd_s, if_pos h5, e4, ab_bd_s, if_pos h7, if_neg h9, if_neg h11, if_neg h13]
                    obtain rfl := Option.some.inj (e.symm.trans hv)
                    exact ab_vret ckR_outByTime rfl rfl ⟨rfl, rfl⟩
      · have e : fR_outByTime r = some r := by simp only [fR_outByTime, if_pos h1, if_neg h2, if_pos h3]
        obtain rfl := Option.some.inj (e.symm.trans hv)
        exact ab_vret ckR_outByTime rfl rfl ⟨rfl, rfl⟩
def fR_state (r : cs_S) (x1 : Int32) (x2 : Int32) : Option (Int32 × cs_S) := (if x2 = 0 then (if x1 = (129 : Int32) then (ab_bd (fR_restart r) (fun p1 => (some ((1 : Int32), p1)))) else (if x1 = (1 : Int32) then (if (r.1 0 11) = 0 then (some ((1 : Int32), (cs_u (cs_u r 0 11 (0 : Int32)) 0 5 (5 : Int32)))) else (if (r.1 0 5) = (5 : Int32) then (some ((1 : Int32), (cs_u (cs_u r 0 11 (1 : Int32)) 0 5 (5 : Int32)))) else (some ((1 : Int32), (cs_u (cs_u r 0 11 (0 : Int32)) 0 5 (5 : Int32)))))) else (if x1 = (2 : Int32) then (some ((1 : Int32), (cs_u r 0 5 (4 : Int32)))) else (if x1 = (128 : Int32) then (some ((1 : Int32), (cs_u r 0 5 (127 : Int32)))) else (some ((0 : Int32), r)))))) else (if x2 = (r.1 0 4) then (if x1 = (129 : Int32) then (ab_bd (fR_restart r) (fun p2 => (some ((1 : Int32), p2)))) else (if x1 = (1 : Int32) then (if (r.1 0 11) = 0 then (some ((1 : Int32), (cs_u (cs_u r 0 11 (0 : Int32)) 0 5 (5 : Int32)))) else (if (r.1 0 5) = (5 : Int32) then (some ((1 : Int32), (cs_u (cs_u r 0 11 (1 : Int32)) 0 5 (5 : Int32)))) else (some ((1 : Int32), (cs_u (cs_u r 0 11 (0 : Int32)) 0 5 (5 : Int32)))))) else (if x1 = (2 : Int32) then (some ((1 : Int32), (cs_u r 0 5 (4 : Int32)))) else (if x1 = (128 : Int32) then (some ((1 : Int32), (cs_u r 0 5 (127 : Int32)))) else (some ((0 : Int32), r)))))) else (some ((0 : Int32), r))))
theorem tR_state {x1 : Int32} {x2 : Int32} {v : Int32 × cs_S} (hv : fR_state r x1 x2 = some v) : ab_M X mR_state (d + 2) 0 0 [.ref 23, .int x1, .int x2] (rs_H pf r rest) (fun r9 h9 => r9 = some (Value.int v.1) ∧ h9 = rs_H pf v.2 rest) := by
  refine ab_entry (by decide) (Nat.le_of_ble_eq_true rfl) ?_
  refine ab_go 1 [] (pc' := 1) (lo' := [some (.ref 23), some (.int x1), some (.int x2)]) (st' := [.int x2]) (h' := rs_H pf r rest) ckR_state rfl ?_
  refine ab_if_eq ckR_state rfl (fun (h1 : x2 = 0) => ?_) (fun (h1 : ¬ (x2 = 0)) => ?_)
  · refine ab_go 2 [] (pc' := 18) (lo' := [some (.ref 23), some (.int x1), some (.int x2)]) (st' := [.int (129 : Int32), .int x1]) (h' := rs_H pf r rest) ckR_state rfl ?_
    refine ab_icmp_ne ckR_state rfl (fun (h2 : ¬ (x1 = (129 : Int32))) => ?_) (fun (h2 : x1 = (129 : Int32)) => ?_)
    · refine ab_go 2 [] (pc' := 30) (lo' := [some (.ref 23), some (.int x1), some (.int x2)]) (st' := [.int (1 : Int32), .int x1]) (h' := rs_H pf r rest) ckR_state rfl ?_
      refine ab_icmp_ne ckR_state rfl (fun (h3 : ¬ (x1 = (1 : Int32))) => ?_) (fun (h3 : x1 = (1 : Int32)) => ?_)
      · refine ab_go 2 [] (pc' := 67) (lo' := [some (.ref 23), some (.int x1), some (.int x2)]) (st' := [.int (2 : Int32), .int x1]) (h' := rs_H pf r rest) ckR_state rfl ?_
        refine ab_icmp_ne ckR_state rfl (fun (h4 : ¬ (x1 = (2 : Int32))) => ?_) (fun (h4 : x1 = (2 : Int32)) => ?_)
        · refine ab_go 2 [] (pc' := 82) (lo' := [some (.ref 23), some (.int x1), some (.int x2)]) (st' := [.int (128 : Int32), .int x1]) (h' := rs_H pf r rest) ckR_state rfl ?_
          refine ab_icmp_ne ckR_state rfl (fun (h5 : ¬ (x1 = (128 : Int32))) => ?_) (fun (h5 : x1 = (128 : Int32)) => ?_)
          · refine ab_go 1 [] (pc' := 95) (lo' := [some (.ref 23), some (.int x1), some (.int x2)]) (st' := [.int (0 : Int32)]) (h' := rs_H pf r rest) ckR_state rfl ?_
            have e : fR_state r x1 x2 = some ((0 : Int32), r) := by simp only [fR_state, if_pos h1, if_neg h2, if_neg h3, if_neg h4, if_neg h5]
            obtain rfl := Option.some.inj (e.symm.trans hv)
            exact ab_iret ckR_state rfl rfl ⟨rfl, rfl⟩
          · refine ab_go 5 [] (pc' := 97) (lo' := [some (.ref 23), some (.int x1), some (.int x2)]) (st' := [.int (1 : Int32)]) (h' := rs_H pf (cs_u r 0 5 (127 : Int32)) rest) ckR_state rfl ?_
            have e : fR_state r x1 x2 = some ((1 : Int32), (cs_u r 0 5 (127 : Int32))) := by simp only [fR_state, if_pos h1, if_neg h2, if_neg h3, if_neg h4, if_pos h5]
            obtain rfl := Option.some.inj (e.symm.trans hv)
            exact ab_iret ckR_state rfl rfl ⟨rfl, rfl⟩
        · refine ab_go 5 [] (pc' := 97) (lo' := [some (.ref 23), some (.int x1), some (.int x2)]) (st' := [.int (1 : Int32)]) (h' := rs_H pf (cs_u r 0 5 (4 : Int32)) rest) ckR_state rfl ?_
          have e : fR_state r x1 x2 = some ((1 : Int32), (cs_u r 0 5 (4 : Int32))) := by simp only [fR_state, if_pos h1, if_neg h2, if_neg h3, if_pos h4]
          obtain rfl := Option.some.inj (e.symm.trans hv)
          exact ab_iret ckR_state rfl rfl ⟨rfl, rfl⟩
      · refine ab_go 3 [] (pc' := 38) (lo' := [some (.ref 23), some (.int x1), some (.int x2)]) (st' := [.int (r.1 0 11), .ref 23]) (h' := rs_H pf r rest) ckR_state rfl ?_
        refine ab_if_eq ckR_state rfl (fun (h6 : (r.1 0 11) = 0) => ?_) (fun (h6 : ¬ ((r.1 0 11) = 0)) => ?_)
        · refine ab_go 1 [] (pc' := 54) (lo' := [some (.ref 23), some (.int x1), some (.int x2)]) (st' := [.int (0 : Int32), .ref 23]) (h' := rs_H pf r rest) ckR_state rfl ?_
          refine ab_putfR ckR_state rfl rfl (Nat.le_of_ble_eq_true rfl) (ab_fitB (Or.inl rfl)) (fun q z => by cases z) ?_
          refine ab_go 5 [] (pc' := 97) (lo' := [some (.ref 23), some (.int x1), some (.int x2)]) (st' := [.int (1 : Int32)]) (h' := rs_H pf (cs_u (cs_u r 0 11 (0 : Int32)) 0 5 (5 : Int32)) rest) ckR_state rfl ?_
          have e : fR_state r x1 x2 = some ((1 : Int32), (cs_u (cs_u r 0 11 (0 : Int32)) 0 5 (5 : Int32))) := by simp only [fR_state, if_pos h1, if_neg h2, if_pos h3, if_pos h6]
          obtain rfl := Option.some.inj (e.symm.trans hv)
          exact ab_iret ckR_state rfl rfl ⟨rfl, rfl⟩
        · refine ab_go 3 [] (pc' := 46) (lo' := [some (.ref 23), some (.int x1), some (.int x2)]) (st' := [.int (5 : Int32), .int (r.1 0 5), .ref 23]) (h' := rs_H pf r rest) ckR_state rfl ?_
          refine ab_icmp_ne ckR_state rfl (fun (h7 : ¬ ((r.1 0 5) = (5 : Int32))) => ?_) (fun (h7 : (r.1 0 5) = (5 : Int32)) => ?_)
          · refine ab_go 1 [] (pc' := 54) (lo' := [some (.ref 23), some (.int x1), some (.int x2)]) (st' := [.int (0 : Int32), .ref 23]) (h' := rs_H pf r rest) ckR_state rfl ?_
            refine ab_putfR ckR_state rfl rfl (Nat.le_of_ble_eq_true rfl) (ab_fitB (Or.inl rfl)) (fun q z => by cases z) ?_
            refine ab_go 5 [] (pc' := 97) (lo' := [some (.ref 23), some (.int x1), some (.int x2)]) (st' := [.int (1 : Int32)]) (h' := rs_H pf (cs_u (cs_u r 0 11 (0 : Int32)) 0 5 (5 : Int32)) rest) ckR_state rfl ?_
            have e : fR_state r x1 x2 = some ((1 : Int32), (cs_u (cs_u r 0 11 (0 : Int32)) 0 5 (5 : Int32))) := by simp only [fR_state, if_pos h1, if_neg h2, if_pos h3, if_neg h6, if_neg h7]
            obtain rfl := Option.some.inj (e.symm.trans hv)
            exact ab_iret ckR_state rfl rfl ⟨rfl, rfl⟩
          · refine ab_go 2 [] (pc' := 54) (lo' := [some (.ref 23), some (.int x1), some (.int x2)]) (st' := [.int (1 : Int32), .ref 23]) (h' := rs_H pf r rest) ckR_state rfl ?_
            refine ab_putfR ckR_state rfl rfl (Nat.le_of_ble_eq_true rfl) (ab_fitB (Or.inr rfl)) (fun q z => by cases z) ?_
            refine ab_go 5 [] (pc' := 97) (lo' := [some (.ref 23), some (.int x1), some (.int x2)]) (st' := [.int (1 : Int32)]) (h' := rs_H pf (cs_u (cs_u r 0 11 (1 : Int32)) 0 5 (5 : Int32)) rest) ckR_state rfl ?_
            have e : fR_state r x1 x2 = some ((1 : Int32), (cs_u (cs_u r 0 11 (1 : Int32)) 0 5 (5 : Int32))) := by simp only [fR_state, if_pos h1, if_neg h2, if_pos h3, if_neg h6, if_pos h7]
            obtain rfl := Option.some.inj (e.symm.trans hv)
            exact ab_iret ckR_state rfl rfl ⟨rfl, rfl⟩
    · refine ab_go 1 [] (pc' := 22) (lo' := [some (.ref 23), some (.int x1), some (.int x2)]) (st' := [.ref 23]) (h' := rs_H pf r rest) ckR_state rfl ?_
      rcases e1 : fR_restart r with _ | p1
      · exact ab_no hv (by simp only [fR_state, if_pos h1, if_pos h2, e1, ab_bd_n])
      refine ab_callV (bc2 := 0) (bs2 := 0) (as := []) (rest := []) ckR_state rfl (by decide +kernel) wR_restart (tR_restart (d := d) (r := r) (v := p1) e1) rfl rfl (by omega) ⟨Nat.le_refl _, Nat.le_refl _⟩ (Nat.le_of_ble_eq_true rfl) ?_
      rintro _ _ ⟨rfl, rfl⟩
      refine ab_go 2 [] (pc' := 97) (lo' := [some (.ref 23), some (.int x1), some (.int x2)]) (st' := [.int (1 : Int32)]) (h' := rs_H pf p1 rest) ckR_state rfl ?_
      have e : fR_state r x1 x2 = some ((1 : Int32), p1) := by simp only [fR_state, if_pos h1, if_pos h2, e1, ab_bd_s]
      obtain rfl := Option.some.inj (e.symm.trans hv)
      exact ab_iret ckR_state rfl rfl ⟨rfl, rfl⟩
  · refine ab_go 3 [] (pc' := 9) (lo' := [some (.ref 23), some (.int x1), some (.int x2)]) (st' := [.int (r.1 0 4), .int x2]) (h' := rs_H pf r rest) ckR_state rfl ?_
    refine ab_icmp_eq ckR_state rfl (fun (h8 : x2 = (r.1 0 4)) => ?_) (fun (h8 : ¬ (x2 = (r.1 0 4))) => ?_)
    · refine ab_go 2 [] (pc' := 18) (lo' := [some (.ref 23), some (.int x1), some (.int x2)]) (st' := [.int (129 : Int32), .int x1]) (h' := rs_H pf r rest) ckR_state rfl ?_
      refine ab_icmp_ne ckR_state rfl (fun (h9 : ¬ (x1 = (129 : Int32))) => ?_) (fun (h9 : x1 = (129 : Int32)) => ?_)
      · refine ab_go 2 [] (pc' := 30) (lo' := [some (.ref 23), some (.int x1), some (.int x2)]) (st' := [.int (1 : Int32), .int x1]) (h' := rs_H pf r rest) ckR_state rfl ?_
        refine ab_icmp_ne ckR_state rfl (fun (h10 : ¬ (x1 = (1 : Int32))) => ?_) (fun (h10 : x1 = (1 : Int32)) => ?_)
        · refine ab_go 2 [] (pc' := 67) (lo' := [some (.ref 23), some (.int x1), some (.int x2)]) (st' := [.int (2 : Int32), .int x1]) (h' := rs_H pf r rest) ckR_state rfl ?_
          refine ab_icmp_ne ckR_state rfl (fun (h11 : ¬ (x1 = (2 : Int32))) => ?_) (fun (h11 : x1 = (2 : Int32)) => ?_)
          · refine ab_go 2 [] (pc' := 82) (lo' := [some (.ref 23), some (.int x1), some (.int x2)]) (st' := [.int (128 : Int32), .int x1]) (h' := rs_H pf r rest) ckR_state rfl ?_
            refine ab_icmp_ne ckR_state rfl (fun (h12 : ¬ (x1 = (128 : Int32))) => ?_) (fun (h12 : x1 = (128 : Int32)) => ?_)
            · refine ab_go 1 [] (pc' := 95) (lo' := [some (.ref 23), some (.int x1), some (.int x2)]) (st' := [.int (0 : Int32)]) (h' := rs_H pf r rest) ckR_state rfl ?_
              have e : fR_state r x1 x2 = some ((0 : Int32), r) := by simp only [fR_state, if_neg h1, if_pos h8, if_neg h9, if_neg h10, if_neg h11, if_neg h12]
              obtain rfl := Option.some.inj (e.symm.trans hv)
              exact ab_iret ckR_state rfl rfl ⟨rfl, rfl⟩
            · refine ab_go 5 [] (pc' := 97) (lo' := [some (.ref 23), some (.int x1), some (.int x2)]) (st' := [.int (1 : Int32)]) (h' := rs_H pf (cs_u r 0 5 (127 : Int32)) rest) ckR_state rfl ?_
              have e : fR_state r x1 x2 = some ((1 : Int32), (cs_u r 0 5 (127 : Int32))) := by simp only [fR_state, if_neg h1, if_pos h8, if_neg h9, if_neg h10, if_neg h11, if_pos h12]
              obtain rfl := Option.some.inj (e.symm.trans hv)
              exact ab_iret ckR_state rfl rfl ⟨rfl, rfl⟩
          · refine ab_go 5 [] (pc' := 97) (lo' := [some (.ref 23), some (.int x1), some (.int x2)]) (st' := [.int (1 : Int32)]) (h' := rs_H pf (cs_u r 0 5 (4 : Int32)) rest) ckR_state rfl ?_
            have e : fR_state r x1 x2 = some ((1 : Int32), (cs_u r 0 5 (4 : Int32))) := by simp only [fR_state, if_neg h1, if_pos h8, if_neg h9, if_neg h10, if_pos h11]
            obtain rfl := Option.some.inj (e.symm.trans hv)
            exact ab_iret ckR_state rfl rfl ⟨rfl, rfl⟩
        · refine ab_go 3 [] (pc' := 38) (lo' := [some (.ref 23), some (.int x1), some (.int x2)]) (st' := [.int (r.1 0 11), .ref 23]) (h' := rs_H pf r rest) ckR_state rfl ?_
          refine ab_if_eq ckR_state rfl (fun (h13 : (r.1 0 11) = 0) => ?_) (fun (h13 : ¬ ((r.1 0 11) = 0)) => ?_)
          · refine ab_go 1 [] (pc' := 54) (lo' := [some (.ref 23), some (.int x1), some (.int x2)]) (st' := [.int (0 : Int32), .ref 23]) (h' := rs_H pf r rest) ckR_state rfl ?_
            refine ab_putfR ckR_state rfl rfl (Nat.le_of_ble_eq_true rfl) (ab_fitB (Or.inl rfl)) (fun q z => by cases z) ?_
            refine ab_go 5 [] (pc' := 97) (lo' := [some (.ref 23), some (.int x1), some (.int x2)]) (st' := [.int (1 : Int32)]) (h' := rs_H pf (cs_u (cs_u r 0 11 (0 : Int32)) 0 5 (5 : Int32)) rest) ckR_state rfl ?_
            have e : fR_state r x1 x2 = some ((1 : Int32), (cs_u (cs_u r 0 11 (0 : Int32)) 0 5 (5 : Int32))) := by simp only [fR_state, if_neg h1, if_pos h8, if_neg h9, if_pos h10, if_pos h13]
            obtain rfl := Option.some.inj (e.symm.trans hv)
            exact ab_iret ckR_state rfl rfl ⟨rfl, rfl⟩
          · refine ab_go 3 [] (pc' := 46) (lo' := [some (.ref 23), some (.int x1), some (.int x2)]) (st' := [.int (5 : Int32), .int (r.1 0 5), .ref 23]) (h' := rs_H pf r rest) ckR_state rfl ?_
            refine ab_icmp_ne ckR_state rfl (fun (h14 : ¬ ((r.1 0 5) = (5 : Int32))) => ?_) (fun (h14 : (r.1 0 5) = (5 : Int32)) => ?_)
            · refine ab_go 1 [] (pc' := 54) (lo' := [some (.ref 23), some (.int x1), some (.int x2)]) (st' := [.int (0 : Int32), .ref 23]) (h' := rs_H pf r rest) ckR_state rfl ?_
              refine ab_putfR ckR_state rfl rfl (Nat.le_of_ble_eq_true rfl) (ab_fitB (Or.inl rfl)) (fun q z => by cases z) ?_
              refine ab_go 5 [] (pc' := 97) (lo' := [some (.ref 23), some (.int x1), some (.int x2)]) (st' := [.int (1 : Int32)]) (h' := rs_H pf (cs_u (cs_u r 0 11 (0 : Int32)) 0 5 (5 : Int32)) rest) ckR_state rfl ?_
              have e : fR_state r x1 x2 = some ((1 : Int32), (cs_u (cs_u r 0 11 (0 : Int32)) 0 5 (5 : Int32))) := by simp only [fR_state, if_neg h1, if_pos h8, if_neg h9, if_pos h10, if_neg h13, if_neg h14]
              obtain rfl := Option.some.inj (e.symm.trans hv)
              exact ab_iret ckR_state rfl rfl ⟨rfl, rfl⟩
            · refine ab_go 2 [] (pc' := 54) (lo' := [some (.ref 23), some (.int x1), some (.int x2)]) (st' := [.int (1 : Int32), .ref 23]) (h' := rs_H pf r rest) ckR_state rfl ?_
              refine ab_putfR ckR_state rfl rfl (Nat.le_of_ble_eq_true rfl) (ab_fitB (Or.inr rfl)) (fun q z => by cases z) ?_
              refine ab_go 5 [] (pc' := 97) (lo' := [some (.ref 23), some (.int x1), some (.int x2)]) (st' := [.int (1 : Int32)]) (h' := rs_H pf (cs_u (cs_u r 0 11 (1 : Int32)) 0 5 (5 : Int32)) rest) ckR_state rfl ?_
              have e : fR_state r x1 x2 = some ((1 : Int32), (cs_u (cs_u r 0 11 (1 : Int32)) 0 5 (5 : Int32))) := by simp only [fR_state, if_neg h1, if_pos h8, if_neg h9, if_pos h10, if_neg h13, if_pos h14]
              obtain rfl := Option.some.inj (e.symm.trans hv)
              exact ab_iret ckR_state rfl rfl ⟨rfl, rfl⟩
      · refine ab_go 1 [] (pc' := 22) (lo' := [some (.ref 23), some (.int x1), some (.int x2)]) (st' := [.ref 23]) (h' := rs_H pf r rest) ckR_state rfl ?_
        rcases e2 : fR_restart r with _ | p2
        · exact ab_no hv (by simp only [fR_state, if_neg h1, if_pos h8, if_pos h9, e2, ab_bd_n])
        refine ab_callV (bc2 := 0) (bs2 := 0) (as := []) (rest := []) ckR_state rfl (by decide +kernel) wR_restart (tR_restart (d := d) (r := r) (v := p2) e2) rfl rfl (by omega) ⟨Nat.le_refl _, Nat.le_refl _⟩ (Nat.le_of_ble_eq_true rfl) ?_
        rintro _ _ ⟨rfl, rfl⟩
        refine ab_go 2 [] (pc' := 97) (lo' := [some (.ref 23), some (.int x1), some (.int x2)]) (st' := [.int (1 : Int32)]) (h' := rs_H pf p2 rest) ckR_state rfl ?_
        have e : fR_state r x1 x2 = some ((1 : Int32), p2) := by simp only [fR_state, if_neg h1, if_pos h8, if_pos h9, e2, ab_bd_s]
        obtain rfl := Option.some.inj (e.symm.trans hv)
        exact ab_iret ckR_state rfl rfl ⟨rfl, rfl⟩
    · refine ab_go 1 [] (pc' := 13) (lo' := [some (.ref 23), some (.int x1), some (.int x2)]) (st' := [.int (0 : Int32)]) (h' := rs_H pf r rest) ckR_state rfl ?_
      have e : fR_state r x1 x2 = some ((0 : Int32), r) := by simp only [fR_state, if_neg h1, if_neg h8]
      obtain rfl := Option.some.inj (e.symm.trans hv)
      exact ab_iret ckR_state rfl rfl ⟨rfl, rfl⟩
def fR_sync (r : cs_S)  : Option (Int32 × cs_S) := (if (r.1 0 5) = (5 : Int32) then (if (r.1 1 9) < (1 : Int32) then (some ((2 : Int32), r)) else (if (r.1 1 9) ≤ (240 : Int32) then (if ((r.1 0 14) + (1 : Int32)) < (r.1 1 9) then (some ((2 : Int32), (cs_u r 0 14 ((r.1 0 14) + (1 : Int32))))) else (ab_bd (fR_out (cs_u (cs_u r 0 14 ((r.1 0 14) + (1 : Int32))) 0 14 (0 : Int32))) (fun p1 => (some ((2 : Int32), p1))))) else (some ((2 : Int32), r)))) else (some ((0 : Int32), r)))
theorem tR_sync {v : Int32 × cs_S} (hv : fR_sync r = some v) : ab_M X mR_sync (d + 5) 0 0 [.ref 23] (rs_H pf r rest) (fun r9 h9 => r9 = some (Value.int v.1) ∧ h9 = rs_H pf v.2 rest) := by
  refine ab_entry (by decide) (Nat.le_of_ble_eq_true rfl) ?_
  refine ab_go 3 [] (pc' := 5) (lo' := [some (.ref 23)]) (st' := [.int (5 : Int32), .int (r.1 0 5)]) (h' := rs_H pf r rest) ckR_sync rfl ?_
  refine ab_icmp_eq ckR_sync rfl (fun (h1 : (r.1 0 5) = (5 : Int32)) => ?_) (fun (h1 : ¬ ((r.1 0 5) = (5 : Int32))) => ?_)
  · refine ab_go 5 [] (pc' := 18) (lo' := [some (.ref 23)]) (st' := [.int (1 : Int32), .int (r.1 1 9)]) (h' := rs_H pf r rest) ckR_sync rfl ?_
    refine ab_icmp_lt ckR_sync rfl (fun (h2 : (r.1 1 9) < (1 : Int32)) => ?_) (fun (h2 : ¬ ((r.1 1 9) < (1 : Int32))) => ?_)
    · refine ab_go 1 [] (pc' := 35) (lo' := [some (.ref 23)]) (st' := [.int (2 : Int32)]) (h' := rs_H pf r rest) ckR_sync rfl ?_
      have e : fR_sync r = some ((2 : Int32), r) := by simp only [fR_sync, if_pos h1, if_pos h2]
      obtain rfl := Option.some.inj (e.symm.trans hv)
      exact ab_iret ckR_sync rfl rfl ⟨rfl, rfl⟩
    · refine ab_go 5 [] (pc' := 31) (lo' := [some (.ref 23)]) (st' := [.int (240 : Int32), .int (r.1 1 9)]) (h' := rs_H pf r rest) ckR_sync rfl ?_
      refine ab_icmp_le ckR_sync rfl (fun (h3 : (r.1 1 9) ≤ (240 : Int32)) => ?_) (fun (h3 : ¬ ((r.1 1 9) ≤ (240 : Int32))) => ?_)
      · refine ab_go 12 [] (pc' := 57) (lo' := [some (.ref 23)]) (st' := [.int (r.1 1 9), .int ((r.1 0 14) + (1 : Int32))]) (h' := rs_H pf (cs_u r 0 14 ((r.1 0 14) + (1 : Int32))) rest) ckR_sync rfl ?_
        refine ab_icmp_lt ckR_sync rfl (fun (h4 : ((r.1 0 14) + (1 : Int32)) < (r.1 1 9)) => ?_) (fun (h4 : ¬ (((r.1 0 14) + (1 : Int32)) < (r.1 1 9))) => ?_)
        · refine ab_go 1 [] (pc' := 70) (lo' := [some (.ref 23)]) (st' := [.int (2 : Int32)]) (h' := rs_H pf (cs_u r 0 14 ((r.1 0 14) + (1 : Int32))) rest) ckR_sync rfl ?_
          have e : fR_sync r = some ((2 : Int32), (cs_u r 0 14 ((r.1 0 14) + (1 : Int32)))) := by simp only [fR_sync, if_pos h1, if_neg h2, if_pos h3, if_pos h4]
          obtain rfl := Option.some.inj (e.symm.trans hv)
          exact ab_iret ckR_sync rfl rfl ⟨rfl, rfl⟩
        · refine ab_go 4 [] (pc' := 66) (lo' := [some (.ref 23)]) (st' := [.ref 23]) (h' := rs_H pf (cs_u (cs_u r 0 14 ((r.1 0 14) + (1 : Int32))) 0 14 (0 : Int32)) rest) ckR_sync rfl ?_
          rcases e1 : fR_out (cs_u (cs_u r 0 14 ((r.1 0 14) + (1 : Int32))) 0 14 (0 : Int32)) with _ | p1
          · exact ab_no hv (by simp only [fR_sync, if_pos h1, if_neg h2, if_pos h3, if_neg h4, e1, ab_bd_n])
          refine ab_callV (bc2 := 0) (bs2 := 0) (as := []) (rest := []) ckR_sync rfl (by decide +kernel) wR_out (tR_out (d := d) (r := (cs_u (cs_u r 0 14 ((r.1 0 14) + (1 : Int32))) 0 14 (0 : Int32))) (v := p1) e1) rfl rfl (by omega) ⟨Nat.le_refl _, Nat.le_refl _⟩ (Nat.le_of_ble_eq_true rfl) ?_
          rintro _ _ ⟨rfl, rfl⟩
          refine ab_go 1 [] (pc' := 70) (lo' := [some (.ref 23)]) (st' := [.int (2 : Int32)]) (h' := rs_H pf p1 rest) ckR_sync rfl ?_
          have e : fR_sync r = some ((2 : Int32), p1) := by simp only [fR_sync, if_pos h1, if_neg h2, if_pos h3, if_neg h4, e1, ab_bd_s]
          obtain rfl := Option.some.inj (e.symm.trans hv)
          exact ab_iret ckR_sync rfl rfl ⟨rfl, rfl⟩
      · refine ab_go 1 [] (pc' := 35) (lo' := [some (.ref 23)]) (st' := [.int (2 : Int32)]) (h' := rs_H pf r rest) ckR_sync rfl ?_
        have e : fR_sync r = some ((2 : Int32), r) := by simp only [fR_sync, if_pos h1, if_neg h2, if_neg h3]
        obtain rfl := Option.some.inj (e.symm.trans hv)
        exact ab_iret ckR_sync rfl rfl ⟨rfl, rfl⟩
  · refine ab_go 1 [] (pc' := 9) (lo' := [some (.ref 23)]) (st' := [.int (0 : Int32)]) (h' := rs_H pf r rest) ckR_sync rfl ?_
    have e : fR_sync r = some ((0 : Int32), r) := by simp only [fR_sync, if_neg h1]
    obtain rfl := Option.some.inj (e.symm.trans hv)
    exact ab_iret ckR_sync rfl rfl ⟨rfl, rfl⟩
def fR_mapped_38 : Nat → cs_S → Int64 → Int32 → Int32 → Option (Int32 × cs_S)
  | 0, _, _, _, _ => none
  | n + 1, r, y2, y5, y6 => (if (r.1 1 5) < y6 then (some ((3 : Int32), r)) else (if ab_inb ((5 : Int32) + y6) 30 = true then (ab_bd (fR_find r (((r.1 1 (((5 : Int32) + y6)).toNatClampNeg)).toUInt32 >>> (((8 : Int32)).toUInt32 &&& Int32.toUInt32 31)).toInt32) (fun p1 => (if ab_inb p1 30 = true then (if (fR_cut (((y2).toUInt64 >>> ((((8 : Int32) * y5)).toInt64.toUInt64 &&& Int64.toUInt64 63)).toInt64).toInt32 (mdBytes (p1).toNatClampNeg)) < (mdLeast (p1).toNatClampNeg) then fR_mapped_38 n r y2 (y5 + (mdBytes (p1).toNatClampNeg)) (y6 + (1 : Int32)) else (if (mdMost (p1).toNatClampNeg) < (fR_cut (((y2).toUInt64 >>> ((((8 : Int32) * y5)).toInt64.toUInt64 &&& Int64.toUInt64 63)).toInt64).toInt32 (mdBytes (p1).toNatClampNeg)) then fR_mapped_38 n r y2 (y5 + (mdBytes (p1).toNatClampNeg)) (y6 + (1 : Int32)) else (if p1 = (18 : Int32) then (if (fR_cut (((y2).toUInt64 >>> ((((8 : Int32) * y5)).toInt64.toUInt64 &&& Int64.toUInt64 63)).toInt64).toInt32 (mdBytes (p1).toNatClampNeg)) = (2 : Int32) then fR_mapped_38 n r y2 (y5 + (mdBytes (p1).toNatClampNeg)) (y6 + (1 : Int32)) else fR_mapped_38 n (cs_u r 1 (p1).toNatClampNeg (fR_cut (((y2).toUInt64 >>> ((((8 : Int32) * y5)).toInt64.toUInt64 &&& Int64.toUInt64 63)).toInt64).toInt32 (mdBytes (p1).toNatClampNeg))) y2 (y5 + (mdBytes (p1).toNatClampNeg)) (y6 + (1 : Int32))) else fR_mapped_38 n (cs_u r 1 (p1).toNatClampNeg (fR_cut (((y2).toUInt64 >>> ((((8 : Int32) * y5)).toInt64.toUInt64 &&& Int64.toUInt64 63)).toInt64).toInt32 (mdBytes (p1).toNatClampNeg))) y2 (y5 + (mdBytes (p1).toNatClampNeg)) (y6 + (1 : Int32))))) else none))) else none))
def fR_mapped (r : cs_S) (x1 : Int32) (x2 : Int64) : Option (Int32 × cs_S) := (ab_bd (fR_size r (5 : Int32)) (fun p1 => (if (r.1 0 5) = (5 : Int32) then (if (r.1 1 5) = 0 then (some ((0 : Int32), r)) else (if p1 ≤ x1 then fR_mapped_38 40 r x2 (0 : Int32) (1 : Int32) else (some ((0 : Int32), r)))) else (some ((0 : Int32), r)))))
set_option maxRecDepth 20000 in
set_option maxHeartbeats 4000000 in
theorem tR_mapped_38 (n : Nat)   : ∀ (r : cs_S) (y2 : Int64) (y5 : Int32) (y6 : Int32)  (v : Int32 × cs_S) (hv : fR_mapped_38 n r y2 y5 y6 = some v), ab_W X mR_mapped (d + 2) 0 0 38 [some (.ref 23), none, some (.long y2), none, none, some (.int y5), some (.int y6), none, none] [] (rs_H pf r rest) (fun r9 h9 => r9 = some (Value.int v.1) ∧ h9 = rs_H pf v.2 rest) := by
  induction n with
  | zero =>
    intro r y2 y5 y6 v hv
    cases hv
  | succ n ih =>
    intro r y2 y5 y6 v hv
    refine ab_go 5 [38] (pc' := 46) (lo' := [some (.ref 23), none, some (.long y2), none, none, some (.int y5), some (.int y6), none, none]) (st' := [.int (r.1 1 5), .int y6]) (h' := rs_H pf r rest) ckR_mapped rfl ?_
    refine ab_icmp_gt ckR_mapped rfl (fun (h1 : (r.1 1 5) < y6) => ?_) (fun (h1 : ¬ ((r.1 1 5) < y6)) => ?_)
    · refine ab_go 1 [38] (pc' := 152) (lo' := [some (.ref 23), none, some (.long y2), none, none, some (.int y5), some (.int y6), none, none]) (st' := [.int (3 : Int32)]) (h' := rs_H pf r rest) ckR_mapped rfl ?_
      have e : fR_mapped_38 (n + 1) r y2 y5 y6 = some ((3 : Int32), r) := by simp only [fR_mapped_38, if_pos h1]
      obtain rfl := Option.some.inj (e.symm.trans hv)
      exact ab_iret ckR_mapped rfl rfl ⟨rfl, rfl⟩
    · refine ab_go 6 [38] (pc' := 58) (lo' := [some (.ref 23), none, some (.long y2), none, none, some (.int y5), some (.int y6), none, none]) (st' := [.int ((5 : Int32) + y6), .ref 30, .ref 23]) (h' := rs_H pf r rest) ckR_mapped rfl ?_
      by_cases h2 : ab_inb ((5 : Int32) + y6) 30 = true
      case neg => exact ab_no hv (by simp only [fR_mapped_38, if_neg h1, if_neg h2])
      refine ab_iald ckR_mapped rfl rfl (ab_inb_ok h2) ?_
      refine ab_go 2 [38] (pc' := 62) (lo' := [some (.ref 23), none, some (.long y2), none, none, some (.int y5), some (.int y6), none, none]) (st' := [.int (((r.1 1 (((5 : Int32) + y6)).toNatClampNeg)).toUInt32 >>> (((8 : Int32)).toUInt32 &&& Int32.toUInt32 31)).toInt32, .ref 23]) (h' := rs_H pf r rest) ckR_mapped rfl ?_
      rcases e1 : fR_find r (((r.1 1 (((5 : Int32) + y6)).toNatClampNeg)).toUInt32 >>> (((8 : Int32)).toUInt32 &&& Int32.toUInt32 31)).toInt32 with _ | p1
      · exact ab_no hv (by simp only [fR_mapped_38, if_neg h1, if_pos h2, e1, ab_bd_n])
      refine ab_callV (bc2 := 0) (bs2 := 0) (as := [_]) (rest := []) ckR_mapped rfl (by decide +kernel) wR_find (tR_find (d := d + 1) (x1 := (((r.1 1 (((5 : Int32) + y6)).toNatClampNeg)).toUInt32 >>> (((8 : Int32)).toUInt32 &&& Int32.toUInt32 31)).toInt32) (r := r) (v := p1) e1) rfl rfl (by omega) ⟨Nat.le_refl _, Nat.le_refl _⟩ (Nat.le_of_ble_eq_true rfl) ?_
      rintro _ _ ⟨rfl, rfl⟩
      refine ab_go 10 [38] (pc' := 81) (lo' := [some (.ref 23), none, some (.long y2), none, none, some (.int y5), some (.int y6), some (.int p1), none]) (st' := [.int p1, .ref 25, .int (((y2).toUInt64 >>> ((((8 : Int32) * y5)).toInt64.toUInt64 &&& Int64.toUInt64 63)).toInt64).toInt32]) (h' := rs_H pf r rest) ckR_mapped rfl ?_
      by_cases h3 : ab_inb p1 30 = true
      case neg => exact ab_no hv (by simp only [fR_mapped_38, if_neg h1, if_pos h2, e1, ab_bd_s, if_neg h3])
      refine ab_iald ckR_mapped rfl rfl (ab_inb_ok h3) ?_
      refine ab_callS (bc2 := 0) (bs2 := 0) (as := [_, _]) (rest := []) ckR_mapped rfl (by decide +kernel) wR_cut (tR_cut (d := d + 1) (x1 := (((y2).toUInt64 >>> ((((8 : Int32) * y5)).toInt64.toUInt64 &&& Int64.toUInt64 63)).toInt64).toInt32) (x2 := (mdBytes (p1).toNatClampNeg))) (by omega) ⟨Nat.le_refl _, Nat.le_refl _⟩ (Nat.le_of_ble_eq_true rfl) ?_
      rintro _ _ ⟨rfl, rfl⟩
      refine ab_go 5 [38] (pc' := 95) (lo' := [some (.ref 23), none, some (.long y2), none, none, some (.int y5), some (.int y6), some (.int p1), some (.int (fR_cut (((y2).toUInt64 >>> ((((8 : Int32) * y5)).toInt64.toUInt64 &&& Int64.toUInt64 63)).toInt64).toInt32 (mdBytes (p1).toNatClampNeg)))]) (st' := [.int p1, .ref 25, .int y5]) (h' := rs_H pf r rest) ckR_mapped rfl ?_
      refine ab_iald ckR_mapped rfl rfl (ab_inb_ok h3) ?_
      refine ab_go 6 [38] (pc' := 107) (lo' := [some (.ref 23), none, some (.long y2), none, none, some (.int (y5 + (mdBytes (p1).toNatClampNeg))), some (.int y6), some (.int p1), some (.int (fR_cut (((y2).toUInt64 >>> ((((8 : Int32) * y5)).toInt64.toUInt64 &&& Int64.toUInt64 63)).toInt64).toInt32 (mdBytes (p1).toNatClampNeg)))]) (st' := [.int p1, .ref 28, .int (fR_cut (((y2).toUInt64 >>> ((((8 : Int32) * y5)).toInt64.toUInt64 &&& Int64.toUInt64 63)).toInt64).toInt32 (mdBytes (p1).toNatClampNeg))]) (h' := rs_H pf r rest) ckR_mapped rfl ?_
      refine ab_iald ckR_mapped rfl rfl (ab_inb_ok h3) ?_
      refine ab_icmp_lt ckR_mapped rfl (fun (h4 : (fR_cut (((y2).toUInt64 >>> ((((8 : Int32) * y5)).toInt64.toUInt64 &&& Int64.toUInt64 63)).toInt64).toInt32 (mdBytes (p1).toNatClampNeg)) < (mdLeast (p1).toNatClampNeg)) => ?_) (fun (h4 : ¬ ((fR_cut (((y2).toUInt64 >>> ((((8 : Int32) * y5)).toInt64.toUInt64 &&& Int64.toUInt64 63)).toInt64).toInt32 (mdBytes (p1).toNatClampNeg)) < (mdLeast (p1).toNatClampNeg))) => ?_)
      · refine ab_go 2 [38] (pc' := 38) (lo' := [some (.ref 23), none, some (.long y2), none, none, some (.int (y5 + (mdBytes (p1).toNatClampNeg))), some (.int (y6 + (1 : Int32))), some (.int p1), some (.int (fR_cut (((y2).toUInt64 >>> ((((8 : Int32) * y5)).toInt64.toUInt64 &&& Int64.toUInt64 63)).toInt64).toInt32 (mdBytes (p1).toNatClampNeg)))]) (st' := []) (h' := rs_H pf r rest) ckR_mapped rfl ?_
        have e : fR_mapped_38 (n + 1) r y2 y5 y6 = fR_mapped_38 n r y2 (y5 + (mdBytes (p1).toNatClampNeg)) (y6 + (1 : Int32)) := by simp only [fR_mapped_38, if_neg h1, if_pos h2, e1, ab_bd_s, if_pos h3, if_pos h4]
        exact ab_W.weak (ih r y2 (y5 + (mdBytes (p1).toNatClampNeg)) (y6 + (1 : Int32)) v (e.symm.trans hv)) ⟨rfl, rfl, rfl, rfl, trivial⟩
      · refine ab_go 4 [38] (pc' := 119) (lo' := [some (.ref 23), none, some (.long y2), none, none, some (.int (y5 + (mdBytes (p1).toNatClampNeg))), some (.int y6), some (.int p1), some (.int (fR_cut (((y2).toUInt64 >>> ((((8 : Int32) * y5)).toInt64.toUInt64 &&& Int64.toUInt64 63)).toInt64).toInt32 (mdBytes (p1).toNatClampNeg)))]) (st' := [.int p1, .ref 29, .int (fR_cut (((y2).toUInt64 >>> ((((8 : Int32) * y5)).toInt64.toUInt64 &&& Int64.toUInt64 63)).toInt64).toInt32 (mdBytes (p1).toNatClampNeg))]) (h' := rs_H pf r rest) ckR_mapped rfl ?_
        refine ab_iald ckR_mapped rfl rfl (ab_inb_ok h3) ?_
        refine ab_icmp_gt ckR_mapped rfl (fun (h5 : (mdMost (p1).toNatClampNeg) < (fR_cut (((y2).toUInt64 >>> ((((8 : Int32) * y5)).toInt64.toUInt64 &&& Int64.toUInt64 63)).toInt64).toInt32 (mdBytes (p1).toNatClampNeg))) => ?_) (fun (h5 : ¬ ((mdMost (p1).toNatClampNeg) < (fR_cut (((y2).toUInt64 >>> ((((8 : Int32) * y5)).toInt64.toUInt64 &&& Int64.toUInt64 63)).toInt64).toInt32 (mdBytes (p1).toNatClampNeg)))) => ?_)
        · refine ab_go 2 [38] (pc' := 38) (lo' := [some (.ref 23), none, some (.long y2), none, none, some (.int (y5 + (mdBytes (p1).toNatClampNeg))), some (.int (y6 + (1 : Int32))), some (.int p1), some (.int (fR_cut (((y2).toUInt64 >>> ((((8 : Int32) * y5)).toInt64.toUInt64 &&& Int64.toUInt64 63)).toInt64).toInt32 (mdBytes (p1).toNatClampNeg)))]) (st' := []) (h' := rs_H pf r rest) ckR_mapped rfl ?_
          have e : fR_mapped_38 (n + 1) r y2 y5 y6 = fR_mapped_38 n r y2 (y5 + (mdBytes (p1).toNatClampNeg)) (y6 + (1 : Int32)) := by simp only [fR_mapped_38, if_neg h1, if_pos h2, e1, ab_bd_s, if_pos h3, if_neg h4, if_pos h5]
          exact ab_W.weak (ih r y2 (y5 + (mdBytes (p1).toNatClampNeg)) (y6 + (1 : Int32)) v (e.symm.trans hv)) ⟨rfl, rfl, rfl, rfl, trivial⟩
        · refine ab_go 2 [38] (pc' := 127) (lo' := [some (.ref 23), none, some (.long y2), none, none, some (.int (y5 + (mdBytes (p1).toNatClampNeg))), some (.int y6), some (.int p1), some (.int (fR_cut (((y2).toUInt64 >>> ((((8 : Int32) * y5)).toInt64.toUInt64 &&& Int64.toUInt64 63)).toInt64).toInt32 (mdBytes (p1).toNatClampNeg)))]) (st' := [.int (18 : Int32), .int p1]) (h' := rs_H pf r rest) ckR_mapped rfl ?_
          refine ab_icmp_ne ckR_mapped rfl (fun (h6 : ¬ (p1 = (18 : Int32))) => ?_) (fun (h6 : p1 = (18 : Int32)) => ?_)
          · refine ab_go 4 [38] (pc' := 144) (lo' := [some (.ref 23), none, some (.long y2), none, none, some (.int (y5 + (mdBytes (p1).toNatClampNeg))), some (.int y6), some (.int p1), some (.int (fR_cut (((y2).toUInt64 >>> ((((8 : Int32) * y5)).toInt64.toUInt64 &&& Int64.toUInt64 63)).toInt64).toInt32 (mdBytes (p1).toNatClampNeg)))]) (st' := [.int (fR_cut (((y2).toUInt64 >>> ((((8 : Int32) * y5)).toInt64.toUInt64 &&& Int64.toUInt64 63)).toInt64).toInt32 (mdBytes (p1).toNatClampNeg)), .int p1, .ref 30]) (h' := rs_H pf r rest) ckR_mapped rfl ?_
            refine ab_iast ckR_mapped rfl rfl (ab_inb_ok h3) ?_
            refine ab_go 2 [38] (pc' := 38) (lo' := [some (.ref 23), none, some (.long y2), none, none, some (.int (y5 + (mdBytes (p1).toNatClampNeg))), some (.int (y6 + (1 : Int32))), some (.int p1), some (.int (fR_cut (((y2).toUInt64 >>> ((((8 : Int32) * y5)).toInt64.toUInt64 &&& Int64.toUInt64 63)).toInt64).toInt32 (mdBytes (p1).toNatClampNeg)))]) (st' := []) (h' := rs_H pf (cs_u r 1 (p1).toNatClampNeg (fR_cut (((y2).toUInt64 >>> ((((8 : Int32) * y5)).toInt64.toUInt64 &&& Int64.toUInt64 63)).toInt64).toInt32 (mdBytes (p1).toNatClampNeg))) rest) ckR_mapped rfl ?_
            have e : fR_mapped_38 (n + 1) r y2 y5 y6 = fR_mapped_38 n (cs_u r 1 (p1).toNatClampNeg (fR_cut (((y2).toUInt64 >>> ((((8 : Int32) * y5)).toInt64.toUInt64 &&& Int64.toUInt64 63)).toInt64).toInt32 (mdBytes (p1).toNatClampNeg))) y2 (y5 + (mdBytes (p1).toNatClampNeg)) (y6 + (1 : Int32)) := by simp only [fR_mapped_38, if_neg h1, if_pos h2, e1, ab_bd_s, if_pos h3, if_neg h4, if_neg h5, if_neg h6]
            exact ab_W.weak (ih (cs_u r 1 (p1).toNatClampNeg (fR_cut (((y2).toUInt64 >>> ((((8 : Int32) * y5)).toInt64.toUInt64 &&& Int64.toUInt64 63)).toInt64).toInt32 (mdBytes (p1).toNatClampNeg))) y2 (y5 + (mdBytes (p1).toNatClampNeg)) (y6 + (1 : Int32)) v (e.symm.trans hv)) ⟨rfl, rfl, rfl, rfl, trivial⟩
          · refine ab_go 2 [38] (pc' := 133) (lo' := [some (.ref 23), none, some (.long y2), none, none, some (.int (y5 + (mdBytes (p1).toNatClampNeg))), some (.int y6), some (.int p1), some (.int (fR_cut (((y2).toUInt64 >>> ((((8 : Int32) * y5)).toInt64.toUInt64 &&& Int64.toUInt64 63)).toInt64).toInt32 (mdBytes (p1).toNatClampNeg)))]) (st' := [.int (2 : Int32), .int (fR_cut (((y2).toUInt64 >>> ((((8 : Int32) * y5)).toInt64.toUInt64 &&& Int64.toUInt64 63)).toInt64).toInt32 (mdBytes (p1).toNatClampNeg))]) (h' := rs_H pf r rest) ckR_mapped rfl ?_
            refine ab_icmp_eq ckR_mapped rfl (fun (h7 : (fR_cut (((y2).toUInt64 >>> ((((8 : Int32) * y5)).toInt64.toUInt64 &&& Int64.toUInt64 63)).toInt64).toInt32 (mdBytes (p1).toNatClampNeg)) = (2 : Int32)) => ?_) (fun (h7 : ¬ ((fR_cut (((y2).toUInt64 >>> ((((8 : Int32) * y5)).toInt64.toUInt64 &&& Int64.toUInt64 63)).toInt64).toInt32 (mdBytes (p1).toNatClampNeg)) = (2 : Int32))) => ?_)
            · refine ab_go 2 [38] (pc' := 38) (lo' := [some (.ref 23), none, some (.long y2), none, none, some (.int (y5 + (mdBytes (p1).toNatClampNeg))), some (.int (y6 + (1 : Int32))), some (.int p1), some (.int (fR_cut (((y2).toUInt64 >>> ((((8 : Int32) * y5)).toInt64.toUInt64 &&& Int64.toUInt64 63)).toInt64).toInt32 (mdBytes (p1).toNatClampNeg)))]) (st' := []) (h' := rs_H pf r rest) ckR_mapped rfl ?_
              have e : fR_mapped_38 (n + 1) r y2 y5 y6 = fR_mapped_38 n r y2 (y5 + (mdBytes (p1).toNatClampNeg)) (y6 + (1 : Int32)) := by simp only [fR_mapped_38, if_neg h1, if_pos h2, e1, ab_bd_s, if_pos h3, if_neg h4, if_neg h5, if_pos h6, if_pos h7]
              exact ab_W.weak (ih r y2 (y5 + (mdBytes (p1).toNatClampNeg)) (y6 + (1 : Int32)) v (e.symm.trans hv)) ⟨rfl, rfl, rfl, rfl, trivial⟩
            · refine ab_go 4 [38] (pc' := 144) (lo' := [some (.ref 23), none, some (.long y2), none, none, some (.int (y5 + (mdBytes (p1).toNatClampNeg))), some (.int y6), some (.int p1), some (.int (fR_cut (((y2).toUInt64 >>> ((((8 : Int32) * y5)).toInt64.toUInt64 &&& Int64.toUInt64 63)).toInt64).toInt32 (mdBytes (p1).toNatClampNeg)))]) (st' := [.int (fR_cut (((y2).toUInt64 >>> ((((8 : Int32) * y5)).toInt64.toUInt64 &&& Int64.toUInt64 63)).toInt64).toInt32 (mdBytes (p1).toNatClampNeg)), .int p1, .ref 30]) (h' := rs_H pf r rest) ckR_mapped rfl ?_
              refine ab_iast ckR_mapped rfl rfl (ab_inb_ok h3) ?_
              refine ab_go 2 [38] (pc' := 38) (lo' := [some (.ref 23), none, some (.long y2), none, none, some (.int (y5 + (mdBytes (p1).toNatClampNeg))), some (.int (y6 + (1 : Int32))), some (.int p1), some (.int (fR_cut (((y2).toUInt64 >>> ((((8 : Int32) * y5)).toInt64.toUInt64 &&& Int64.toUInt64 63)).toInt64).toInt32 (mdBytes (p1).toNatClampNeg)))]) (st' := []) (h' := rs_H pf (cs_u r 1 (p1).toNatClampNeg (fR_cut (((y2).toUInt64 >>> ((((8 : Int32) * y5)).toInt64.toUInt64 &&& Int64.toUInt64 63)).toInt64).toInt32 (mdBytes (p1).toNatClampNeg))) rest) ckR_mapped rfl ?_
              have e : fR_mapped_38 (n + 1) r y2 y5 y6 = fR_mapped_38 n (cs_u r 1 (p1).toNatClampNeg (fR_cut (((y2).toUInt64 >>> ((((8 : Int32) * y5)).toInt64.toUInt64 &&& Int64.toUInt64 63)).toInt64).toInt32 (mdBytes (p1).toNatClampNeg))) y2 (y5 + (mdBytes (p1).toNatClampNeg)) (y6 + (1 : Int32)) := by simp only [fR_mapped_38, if_neg h1, if_pos h2, e1, ab_bd_s, if_pos h3, if_neg h4, if_neg h5, if_pos h6, if_neg h7]
              exact ab_W.weak (ih (cs_u r 1 (p1).toNatClampNeg (fR_cut (((y2).toUInt64 >>> ((((8 : Int32) * y5)).toInt64.toUInt64 &&& Int64.toUInt64 63)).toInt64).toInt32 (mdBytes (p1).toNatClampNeg))) y2 (y5 + (mdBytes (p1).toNatClampNeg)) (y6 + (1 : Int32)) v (e.symm.trans hv)) ⟨rfl, rfl, rfl, rfl, trivial⟩
set_option maxRecDepth 20000 in
set_option maxHeartbeats 4000000 in
theorem tR_mapped {x1 : Int32} {x2 : Int64} {v : Int32 × cs_S} (hv : fR_mapped r x1 x2 = some v) : ab_M X mR_mapped (d + 2) 0 0 [.ref 23, .int x1, .long x2] (rs_H pf r rest) (fun r9 h9 => r9 = some (Value.int v.1) ∧ h9 = rs_H pf v.2 rest) := by
  refine ab_entry (by decide) (Nat.le_of_ble_eq_true rfl) ?_
  refine ab_go 2 [38] (pc' := 2) (lo' := [some (.ref 23), some (.int x1), some (.long x2), none, none, none, none, none, none]) (st' := [.int (5 : Int32), .ref 23]) (h' := rs_H pf r rest) ckR_mapped rfl ?_
  rcases e1 : fR_size r (5 : Int32) with _ | p1
  · exact ab_no hv (by simp only [fR_mapped, e1, ab_bd_n])
  refine ab_callV (bc2 := 0) (bs2 := 0) (as := [_]) (rest := []) ckR_mapped rfl (by decide +kernel) wR_size (tR_size (d := d) (x1 := (5 : Int32)) (r := r) (v := p1) e1) rfl rfl (by omega) ⟨Nat.le_refl _, Nat.le_refl _⟩ (Nat.le_of_ble_eq_true rfl) ?_
  rintro _ _ ⟨rfl, rfl⟩
  refine ab_go 4 [38] (pc' := 12) (lo' := [some (.ref 23), some (.int x1), some (.long x2), none, some (.int p1), none, none, none, none]) (st' := [.int (5 : Int32), .int (r.1 0 5)]) (h' := rs_H pf r rest) ckR_mapped rfl ?_
  refine ab_icmp_ne ckR_mapped rfl (fun (h1 : ¬ ((r.1 0 5) = (5 : Int32))) => ?_) (fun (h1 : (r.1 0 5) = (5 : Int32)) => ?_)
  · refine ab_go 1 [38] (pc' := 31) (lo' := [some (.ref 23), some (.int x1), some (.long x2), none, some (.int p1), none, none, none, none]) (st' := [.int (0 : Int32)]) (h' := rs_H pf r rest) ckR_mapped rfl ?_
    have e : fR_mapped r x1 x2 = some ((0 : Int32), r) := by simp only [fR_mapped, e1, ab_bd_s, if_neg h1]
    obtain rfl := Option.some.inj (e.symm.trans hv)
    exact ab_iret ckR_mapped rfl rfl ⟨rfl, rfl⟩
  · refine ab_go 4 [38] (pc' := 21) (lo' := [some (.ref 23), some (.int x1), some (.long x2), none, some (.int p1), none, none, none, none]) (st' := [.int (r.1 1 5)]) (h' := rs_H pf r rest) ckR_mapped rfl ?_
    refine ab_if_eq ckR_mapped rfl (fun (h2 : (r.1 1 5) = 0) => ?_) (fun (h2 : ¬ ((r.1 1 5) = 0)) => ?_)
    · refine ab_go 1 [38] (pc' := 31) (lo' := [some (.ref 23), some (.int x1), some (.long x2), none, some (.int p1), none, none, none, none]) (st' := [.int (0 : Int32)]) (h' := rs_H pf r rest) ckR_mapped rfl ?_
      have e : fR_mapped r x1 x2 = some ((0 : Int32), r) := by simp only [fR_mapped, e1, ab_bd_s, if_pos h1, if_pos h2]
      obtain rfl := Option.some.inj (e.symm.trans hv)
      exact ab_iret ckR_mapped rfl rfl ⟨rfl, rfl⟩
    · refine ab_go 2 [38] (pc' := 27) (lo' := [some (.ref 23), some (.int x1), some (.long x2), none, some (.int p1), none, none, none, none]) (st' := [.int p1, .int x1]) (h' := rs_H pf r rest) ckR_mapped rfl ?_
      refine ab_icmp_ge ckR_mapped rfl (fun (h3 : p1 ≤ x1) => ?_) (fun (h3 : ¬ (p1 ≤ x1)) => ?_)
      · refine ab_go 4 [38] (pc' := 38) (lo' := [some (.ref 23), some (.int x1), some (.long x2), none, some (.int p1), some (.int (0 : Int32)), some (.int (1 : Int32)), none, none]) (st' := []) (h' := rs_H pf r rest) ckR_mapped rfl ?_
        have e : fR_mapped r x1 x2 = fR_mapped_38 40 r x2 (0 : Int32) (1 : Int32) := by simp only [fR_mapped, e1, ab_bd_s, if_pos h1, if_neg h2, if_pos h3]
        exact ab_W.weak (tR_mapped_38 40 r x2 (0 : Int32) (1 : Int32) v (e.symm.trans hv)) ⟨rfl, rfl, rfl, rfl, trivial⟩
      · refine ab_go 1 [38] (pc' := 31) (lo' := [some (.ref 23), some (.int x1), some (.long x2), none, some (.int p1), none, none, none, none]) (st' := [.int (0 : Int32)]) (h' := rs_H pf r rest) ckR_mapped rfl ?_
        have e : fR_mapped r x1 x2 = some ((0 : Int32), r) := by simp only [fR_mapped, e1, ab_bd_s, if_pos h1, if_neg h2, if_neg h3]
        obtain rfl := Option.some.inj (e.symm.trans hv)
        exact ab_iret ckR_mapped rfl rfl ⟨rfl, rfl⟩
def fR_write (r : cs_S) (x1 : Int32) (x2 : Int32) : Option (cs_S) := (if x1 = (1 : Int32) then (ab_bd (fR_begin r (1 : Int32)) (fun p1 => (some p1))) else (if x1 = (2 : Int32) then (ab_bd (fR_begin r (0 : Int32)) (fun p2 => (some p2))) else (if ab_inb x1 30 = true then (if x1 = (3 : Int32) then (if x1 = (4 : Int32) then (if x1 = (9 : Int32) then (some (cs_u (cs_u (cs_u (cs_u r 1 (x1).toNatClampNeg x2) 0 9 (0 : Int32)) 0 12 (0 : Int32)) 0 14 (0 : Int32))) else (some (cs_u (cs_u (cs_u r 1 (x1).toNatClampNeg x2) 0 9 (0 : Int32)) 0 12 (0 : Int32)))) else (if x1 = (9 : Int32) then (some (cs_u (cs_u (cs_u r 1 (x1).toNatClampNeg x2) 0 9 (0 : Int32)) 0 14 (0 : Int32))) else (some (cs_u (cs_u r 1 (x1).toNatClampNeg x2) 0 9 (0 : Int32))))) else (if x1 = (4 : Int32) then (if x1 = (9 : Int32) then (some (cs_u (cs_u (cs_u r 1 (x1).toNatClampNeg x2) 0 12 (0 : Int32)) 0 14 (0 : Int32))) else (some (cs_u (cs_u r 1 (x1).toNatClampNeg x2) 0 12 (0 : Int32)))) else (if x1 = (9 : Int32) then (some (cs_u (cs_u r 1 (x1).toNatClampNeg x2) 0 14 (0 : Int32))) else (some (cs_u r 1 (x1).toNatClampNeg x2))))) else none)))
theorem tR_write {x1 : Int32} {x2 : Int32} {v : cs_S} (hv : fR_write r x1 x2 = some v) : ab_M X mR_write (d + 1) 0 0 [.ref 23, .int x1, .int x2] (rs_H pf r rest) (fun r9 h9 => r9 = none ∧ h9 = rs_H pf v rest) := by
  refine ab_entry (by decide) (Nat.le_of_ble_eq_true rfl) ?_
  refine ab_go 2 [] (pc' := 2) (lo' := [some (.ref 23), some (.int x1), some (.int x2)]) (st' := [.int (1 : Int32), .int x1]) (h' := rs_H pf r rest) ckR_write rfl ?_
  refine ab_icmp_eq ckR_write rfl (fun (h1 : x1 = (1 : Int32)) => ?_) (fun (h1 : ¬ (x1 = (1 : Int32))) => ?_)
  · refine ab_go 3 [] (pc' := 13) (lo' := [some (.ref 23), some (.int x1), some (.int x2)]) (st' := [.int (1 : Int32), .int x1, .ref 23]) (h' := rs_H pf r rest) ckR_write rfl ?_
    refine ab_icmp_ne ckR_write rfl (fun hh => absurd h1 hh) (fun _ => ?_)
    refine ab_go 2 [] (pc' := 21) (lo' := [some (.ref 23), some (.int x1), some (.int x2)]) (st' := [.int (1 : Int32), .ref 23]) (h' := rs_H pf r rest) ckR_write rfl ?_
    rcases e1 : fR_begin r (1 : Int32) with _ | p1
    · exact ab_no hv (by simp only [fR_write, if_pos h1, e1, ab_bd_n])
    refine ab_callV (bc2 := 0) (bs2 := 0) (as := [_]) (rest := []) ckR_write rfl (by decide +kernel) wR_begin (tR_begin (d := d) (x1 := (1 : Int32)) (r := r) (v := p1) e1) rfl rfl (by omega) ⟨Nat.le_refl _, Nat.le_refl _⟩ (Nat.le_of_ble_eq_true rfl) ?_
    rintro _ _ ⟨rfl, rfl⟩
    have e : fR_write r x1 x2 = some p1 := by simp only [fR_write, if_pos h1, e1, ab_bd_s]
    obtain rfl := Option.some.inj (e.symm.trans hv)
    exact ab_vret ckR_write rfl rfl ⟨rfl, rfl⟩
  · refine ab_go 2 [] (pc' := 7) (lo' := [some (.ref 23), some (.int x1), some (.int x2)]) (st' := [.int (2 : Int32), .int x1]) (h' := rs_H pf r rest) ckR_write rfl ?_
    refine ab_icmp_ne ckR_write rfl (fun (h2 : ¬ (x1 = (2 : Int32))) => ?_) (fun (h2 : x1 = (2 : Int32)) => ?_)
    · refine ab_go 4 [] (pc' := 31) (lo' := [some (.ref 23), some (.int x1), some (.int x2)]) (st' := [.int x2, .int x1, .ref 30]) (h' := rs_H pf r rest) ckR_write rfl ?_
      by_cases h3 : ab_inb x1 30 = true
      case neg => exact ab_no hv (by simp only [fR_write, if_neg h1, if_neg h2, if_neg h3])
      refine ab_iast ckR_write rfl rfl (ab_inb_ok h3) ?_
      refine ab_go 2 [] (pc' := 34) (lo' := [some (.ref 23), some (.int x1), some (.int x2)]) (st' := [.int (3 : Int32), .int x1]) (h' := rs_H pf (cs_u r 1 (x1).toNatClampNeg x2) rest) ckR_write rfl ?_
      refine ab_icmp_ne ckR_write rfl (fun (h4 : ¬ (x1 = (3 : Int32))) => ?_) (fun (h4 : x1 = (3 : Int32)) => ?_)
      · refine ab_go 2 [] (pc' := 44) (lo' := [some (.ref 23), some (.int x1), some (.int x2)]) (st' := [.int (4 : Int32), .int x1]) (h' := rs_H pf (cs_u r 1 (x1).toNatClampNeg x2) rest) ckR_write rfl ?_
        refine ab_icmp_ne ckR_write rfl (fun (h5 : ¬ (x1 = (4 : Int32))) => ?_) (fun (h5 : x1 = (4 : Int32)) => ?_)
        · refine ab_go 2 [] (pc' := 55) (lo' := [some (.ref 23), some (.int x1), some (.int x2)]) (st' := [.int (9 : Int32), .int x1]) (h' := rs_H pf (cs_u r 1 (x1).toNatClampNeg x2) rest) ckR_write rfl ?_
          refine ab_icmp_ne ckR_write rfl (fun (h6 : ¬ (x1 = (9 : Int32))) => ?_) (fun (h6 : x1 = (9 : Int32)) => ?_)
          · have e : fR_write r x1 x2 = some (cs_u r 1 (x1).toNatClampNeg x2) := by simp only [fR_write, if_neg h1, if_neg h2, if_pos h3, if_neg h4, if_neg h5, if_neg h6]
            obtain rfl := Option.some.inj (e.symm.trans hv)
            exact ab_vret ckR_write rfl rfl ⟨rfl, rfl⟩
          · refine ab_go 3 [] (pc' := 63) (lo' := [some (.ref 23), some (.int x1), some (.int x2)]) (st' := []) (h' := rs_H pf (cs_u (cs_u r 1 (x1).toNatClampNeg x2) 0 14 (0 : Int32)) rest) ckR_write rfl ?_
            have e : fR_write r x1 x2 = some (cs_u (cs_u r 1 (x1).toNatClampNeg x2) 0 14 (0 : Int32)) := by simp only [fR_write, if_neg h1, if_neg h2, if_pos h3, if_neg h4, if_neg h5, if_pos h6]
            obtain rfl := Option.some.inj (e.symm.trans hv)
            exact ab_vret ckR_write rfl rfl ⟨rfl, rfl⟩
        · refine ab_go 5 [] (pc' := 55) (lo' := [some (.ref 23), some (.int x1), some (.int x2)]) (st' := [.int (9 : Int32), .int x1]) (h' := rs_H pf (cs_u (cs_u r 1 (x1).toNatClampNeg x2) 0 12 (0 : Int32)) rest) ckR_write rfl ?_
          refine ab_icmp_ne ckR_write rfl (fun (h7 : ¬ (x1 = (9 : Int32))) => ?_) (fun (h7 : x1 = (9 : Int32)) => ?_)
          · have e : fR_write r x1 x2 = some (cs_u (cs_u r 1 (x1).toNatClampNeg x2) 0 12 (0 : Int32)) := by simp only [fR_write, if_neg h1, if_neg h2, if_pos h3, if_neg h4, if_pos h5, if_neg h7]
            obtain rfl := Option.some.inj (e.symm.trans hv)
            exact ab_vret ckR_write rfl rfl ⟨rfl, rfl⟩
          · refine ab_go 3 [] (pc' := 63) (lo' := [some (.ref 23), some (.int x1), some (.int x2)]) (st' := []) (h' := rs_H pf (cs_u (cs_u (cs_u r 1 (x1).toNatClampNeg x2) 0 12 (0 : Int32)) 0 14 (0 : Int32)) rest) ckR_write rfl ?_
            have e : fR_write r x1 x2 = some (cs_u (cs_u (cs_u r 1 (x1).toNatClampNeg x2) 0 12 (0 : Int32)) 0 14 (0 : Int32)) := by simp only [fR_write, if_neg h1, if_neg h2, if_pos h3, if_neg h4, if_pos h5, if_pos h7]
            obtain rfl := Option.some.inj (e.symm.trans hv)
            exact ab_vret ckR_write rfl rfl ⟨rfl, rfl⟩
      · refine ab_go 5 [] (pc' := 44) (lo' := [some (.ref 23), some (.int x1), some (.int x2)]) (st' := [.int (4 : Int32), .int x1]) (h' := rs_H pf (cs_u (cs_u r 1 (x1).toNatClampNeg x2) 0 9 (0 : Int32)) rest) ckR_write rfl ?_
        refine ab_icmp_ne ckR_write rfl (fun (h8 : ¬ (x1 = (4 : Int32))) => ?_) (fun (h8 : x1 = (4 : Int32)) => ?_)
        · refine ab_go 2 [] (pc' := 55) (lo' := [some (.ref 23), some (.int x1), some (.int x2)]) (st' := [.int (9 : Int32), .int x1]) (h' := rs_H pf (cs_u (cs_u r 1 (x1).toNatClampNeg x2) 0 9 (0 : Int32)) rest) ckR_write rfl ?_
          refine ab_icmp_ne ckR_write rfl (fun (h9 : ¬ (x1 = (9 : Int32))) => ?_) (fun (h9 : x1 = (9 : Int32)) => ?_)
          · have e : fR_write r x1 x2 = some (cs_u (cs_u r 1 (x1).toNatClampNeg x2) 0 9 (0 : Int32)) := by simp only [fR_write, if_neg h1, if_neg h2, if_pos h3, if_pos h4, if_neg h8, if_neg h9]
            obtain rfl := Option.some.inj (e.symm.trans hv)
            exact ab_vret ckR_write rfl rfl ⟨rfl, rfl⟩
          · refine ab_go 3 [] (pc' := 63) (lo' := [some (.ref 23), some (.int x1), some (.int x2)]) (st' := []) (h' := rs_H pf (cs_u (cs_u (cs_u r 1 (x1).toNatClampNeg x2) 0 9 (0 : Int32)) 0 14 (0 : Int32)) rest) ckR_write rfl ?_
            have e : fR_write r x1 x2 = some (cs_u (cs_u (cs_u r 1 (x1).toNatClampNeg x2) 0 9 (0 : Int32)) 0 14 (0 : Int32)) := by simp only [fR_write, if_neg h1, if_neg h2, if_pos h3, if_pos h4, if_neg h8, if_pos h9]
            obtain rfl := Option.some.inj (e.symm.trans hv)
            exact ab_vret ckR_write rfl rfl ⟨rfl, rfl⟩
        · refine ab_go 5 [] (pc' := 55) (lo' := [some (.ref 23), some (.int x1), some (.int x2)]) (st' := [.int (9 : Int32), .int x1]) (h' := rs_H pf (cs_u (cs_u (cs_u r 1 (x1).toNatClampNeg x2) 0 9 (0 : Int32)) 0 12 (0 : Int32)) rest) ckR_write rfl ?_
          refine ab_icmp_ne ckR_write rfl (fun (h10 : ¬ (x1 = (9 : Int32))) => ?_) (fun (h10 : x1 = (9 : Int32)) => ?_)
          · have e : fR_write r x1 x2 = some (cs_u (cs_u (cs_u r 1 (x1).toNatClampNeg x2) 0 9 (0 : Int32)) 0 12 (0 : Int32)) := by simp only [fR_write, if_neg h1, if_neg h2, if_pos h3, if_pos h4, if_pos h8, if_neg h10]
            obtain rfl := Option.some.inj (e.symm.trans hv)
            exact ab_vret ckR_write rfl rfl ⟨rfl, rfl⟩
          · refine ab_go 3 [] (pc' := 63) (lo' := [some (.ref 23), some (.int x1), some (.int x2)]) (st' := []) (h' := rs_H pf (cs_u (cs_u (cs_u (cs_u r 1 (x1).toNatClampNeg x2) 0 9 (0 : Int32)) 0 12 (0 : Int32)) 0 14 (0 : Int32)) rest) ckR_write rfl ?_
            have e : fR_write r x1 x2 = some (cs_u (cs_u (cs_u (cs_u r 1 (x1).toNatClampNeg x2) 0 9 (0 : Int32)) 0 12 (0 : Int32)) 0 14 (0 : Int32)) := by simp only [fR_write, if_neg h1, if_neg h2, if_pos h3, if_pos h4, if_pos h8, if_pos h10]
            obtain rfl := Option.some.inj (e.symm.trans hv)
            exact ab_vret ckR_write rfl rfl ⟨rfl, rfl⟩
    · refine ab_go 3 [] (pc' := 13) (lo' := [some (.ref 23), some (.int x1), some (.int x2)]) (st' := [.int (1 : Int32), .int x1, .ref 23]) (h' := rs_H pf r rest) ckR_write rfl ?_
      refine ab_icmp_ne ckR_write rfl (fun _ => ?_) (fun hh => absurd hh h1)
      refine ab_go 1 [] (pc' := 21) (lo' := [some (.ref 23), some (.int x1), some (.int x2)]) (st' := [.int (0 : Int32), .ref 23]) (h' := rs_H pf r rest) ckR_write rfl ?_
      rcases e2 : fR_begin r (0 : Int32) with _ | p2
      · exact ab_no hv (by simp only [fR_write, if_neg h1, if_pos h2, e2, ab_bd_n])
      refine ab_callV (bc2 := 0) (bs2 := 0) (as := [_]) (rest := []) ckR_write rfl (by decide +kernel) wR_begin (tR_begin (d := d) (x1 := (0 : Int32)) (r := r) (v := p2) e2) rfl rfl (by omega) ⟨Nat.le_refl _, Nat.le_refl _⟩ (Nat.le_of_ble_eq_true rfl) ?_
      rintro _ _ ⟨rfl, rfl⟩
      have e : fR_write r x1 x2 = some p2 := by simp only [fR_write, if_neg h1, if_pos h2, e2, ab_bd_s]
      obtain rfl := Option.some.inj (e.symm.trans hv)
      exact ab_vret ckR_write rfl rfl ⟨rfl, rfl⟩
end LEAF
