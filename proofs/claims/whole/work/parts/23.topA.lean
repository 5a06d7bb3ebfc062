/-! contracts, by program (wip/gen/walk.py, gen_cls.py) -/
section LEAF
variable {X : ab_C} {d : Nat} {c : cs_S} {rest hp : ab_H}
def fS_refreshStatus (c : cs_S)  : Option (cs_S) := (ab_bd (fP_statusBits c) (fun p1 => (if (c.1 0 1) = (5 : Int32) then (if (fP_isEnabled c) = 0 then (some (cs_u c 1 17 (p1 ||| (512 : Int32)))) else (if (fV_isArrived c) = 0 then (some (cs_u c 1 17 (p1 ||| (512 : Int32)))) else (some (cs_u c 1 17 ((p1 ||| (512 : Int32)) ||| (1024 : Int32)))))) else (if (fP_isEnabled c) = 0 then (some (cs_u c 1 17 p1)) else (if (fV_isArrived c) = 0 then (some (cs_u c 1 17 p1)) else (some (cs_u c 1 17 (p1 ||| (1024 : Int32)))))))))
theorem tS_refreshStatus (hX : cs_X X) {v : cs_S} (hv : fS_refreshStatus c = some v) : ab_M X mS_refreshStatus (d + 3) 0 0 [.ref 8] (cs_H c rest) (fun r9 h9 => r9 = none ∧ h9 = cs_H v rest) := by
  refine ab_entry (by decide) (Nat.le_of_ble_eq_true rfl) ?_
  refine ab_go 2 [] (pc' := 4) (lo' := [some (.ref 8), none]) (st' := [.ref 19]) (h' := cs_H c rest) ckS_refreshStatus rfl ?_
  rcases e1 : fP_statusBits c with _ | p1
  · exact ab_no hv (by simp only [fS_refreshStatus, e1, ab_bd_n])
  refine ab_callV (bc2 := 0) (bs2 := 0) (as := []) (rest := []) ckS_refreshStatus rfl (by decide +kernel) wP_statusBits (tP_statusBits (d := d + 2) (c := c) hX (v := p1) e1) rfl rfl (by omega) ⟨Nat.le_refl _, Nat.le_refl _⟩ (Nat.le_of_ble_eq_true rfl) ?_
  rintro _ _ ⟨rfl, rfl⟩
  refine ab_go 4 [] (pc' := 13) (lo' := [some (.ref 8), some (.int p1)]) (st' := [.int (5 : Int32), .int (c.1 0 1)]) (h' := cs_H c rest) ckS_refreshStatus rfl ?_
  refine ab_icmp_ne ckS_refreshStatus rfl (fun (h1 : ¬ ((c.1 0 1) = (5 : Int32))) => ?_) (fun (h1 : (c.1 0 1) = (5 : Int32)) => ?_)
  · refine ab_go 2 [] (pc' := 26) (lo' := [some (.ref 8), some (.int p1)]) (st' := [.ref 19]) (h' := cs_H c rest) ckS_refreshStatus rfl ?_
    refine ab_callV (bc2 := 0) (bs2 := 0) (as := []) (rest := []) ckS_refreshStatus rfl (by decide +kernel) wP_isEnabled (tP_isEnabled (d := d + 2) (c := c)) rfl rfl (by omega) ⟨Nat.le_refl _, Nat.le_refl _⟩ (Nat.le_of_ble_eq_true rfl) ?_
    rintro _ _ ⟨rfl, rfl⟩
    refine ab_if_eq ckS_refreshStatus rfl (fun (h2 : (fP_isEnabled c) = 0) => ?_) (fun (h2 : ¬ ((fP_isEnabled c) = 0)) => ?_)
    · refine ab_go 5 [] (pc' := 56) (lo' := [some (.ref 8), some (.int p1)]) (st' := []) (h' := cs_H (cs_u c 1 17 p1) rest) ckS_refreshStatus rfl ?_
      have e : fS_refreshStatus c = some (cs_u c 1 17 p1) := by simp only [fS_refreshStatus, e1, ab_bd_s, if_neg h1, if_pos h2]
      obtain rfl := Option.some.inj (e.symm.trans hv)
      exact ab_vret ckS_refreshStatus rfl rfl ⟨rfl, rfl⟩
    · refine ab_go 2 [] (pc' := 36) (lo' := [some (.ref 8), some (.int p1)]) (st' := [.ref 20]) (h' := cs_H c rest) ckS_refreshStatus rfl ?_
      refine ab_callV (bc2 := 0) (bs2 := 0) (as := []) (rest := []) ckS_refreshStatus rfl (by decide +kernel) wV_isArrived (tV_isArrived (d := d) (c := c)) rfl rfl (by omega) ⟨Nat.le_refl _, Nat.le_refl _⟩ (Nat.le_of_ble_eq_true rfl) ?_
      rintro _ _ ⟨rfl, rfl⟩
      refine ab_if_eq ckS_refreshStatus rfl (fun (h3 : (fV_isArrived c) = 0) => ?_) (fun (h3 : ¬ ((fV_isArrived c) = 0)) => ?_)
      · refine ab_go 5 [] (pc' := 56) (lo' := [some (.ref 8), some (.int p1)]) (st' := []) (h' := cs_H (cs_u c 1 17 p1) rest) ckS_refreshStatus rfl ?_
        have e : fS_refreshStatus c = some (cs_u c 1 17 p1) := by simp only [fS_refreshStatus, e1, ab_bd_s, if_neg h1, if_neg h2, if_pos h3]
        obtain rfl := Option.some.inj (e.symm.trans hv)
        exact ab_vret ckS_refreshStatus rfl rfl ⟨rfl, rfl⟩
      · refine ab_go 9 [] (pc' := 56) (lo' := [some (.ref 8), some (.int (p1 ||| (1024 : Int32)))]) (st' := []) (h' := cs_H (cs_u c 1 17 (p1 ||| (1024 : Int32))) rest) ckS_refreshStatus rfl ?_
        have e : fS_refreshStatus c = some (cs_u c 1 17 (p1 ||| (1024 : Int32))) := by simp only [fS_refreshStatus, e1, ab_bd_s, if_neg h1, if_neg h2, if_neg h3]
        obtain rfl := Option.some.inj (e.symm.trans hv)
        exact ab_vret ckS_refreshStatus rfl rfl ⟨rfl, rfl⟩
  · refine ab_go 6 [] (pc' := 26) (lo' := [some (.ref 8), some (.int (p1 ||| (512 : Int32)))]) (st' := [.ref 19]) (h' := cs_H c rest) ckS_refreshStatus rfl ?_
    refine ab_callV (bc2 := 0) (bs2 := 0) (as := []) (rest := []) ckS_refreshStatus rfl (by decide +kernel) wP_isEnabled (tP_isEnabled (d := d + 2) (c := c)) rfl rfl (by omega) ⟨Nat.le_refl _, Nat.le_refl _⟩ (Nat.le_of_ble_eq_true rfl) ?_
    rintro _ _ ⟨rfl, rfl⟩
    refine ab_if_eq ckS_refreshStatus rfl (fun (h4 : (fP_isEnabled c) = 0) => ?_) (fun (h4 : ¬ ((fP_isEnabled c) = 0)) => ?_)
    · refine ab_go 5 [] (pc' := 56) (lo' := [some (.ref 8), some (.int (p1 ||| (512 : Int32)))]) (st' := []) (h' := cs_H (cs_u c 1 17 (p1 ||| (512 : Int32))) rest) ckS_refreshStatus rfl ?_
      have e : fS_refreshStatus c = some (cs_u c 1 17 (p1 ||| (512 : Int32))) := by simp only [fS_refreshStatus, e1, ab_bd_s, if_pos h1, if_pos h4]
      obtain rfl := Option.some.inj (e.symm.trans hv)
      exact ab_vret ckS_refreshStatus rfl rfl ⟨rfl, rfl⟩
    · refine ab_go 2 [] (pc' := 36) (lo' := [some (.ref 8), some (.int (p1 ||| (512 : Int32)))]) (st' := [.ref 20]) (h' := cs_H c rest) ckS_refreshStatus rfl ?_
      refine ab_callV (bc2 := 0) (bs2 := 0) (as := []) (rest := []) ckS_refreshStatus rfl (by decide +kernel) wV_isArrived (tV_isArrived (d := d) (c := c)) rfl rfl (by omega) ⟨Nat.le_refl _, Nat.le_refl _⟩ (Nat.le_of_ble_eq_true rfl) ?_
      rintro _ _ ⟨rfl, rfl⟩
      refine ab_if_eq ckS_refreshStatus rfl (fun (h5 : (fV_isArrived c) = 0) => ?_) (fun (h5 : ¬ ((fV_isArrived c) = 0)) => ?_)
      · refine ab_go 5 [] (pc' := 56) (lo' := [some (.ref 8), some (.int (p1 ||| (512 : Int32)))]) (st' := []) (h' := cs_H (cs_u c 1 17 (p1 ||| (512 : Int32))) rest) ckS_refreshStatus rfl ?_
        have e : fS_refreshStatus c = some (cs_u c 1 17 (p1 ||| (512 : Int32))) := by simp only [fS_refreshStatus, e1, ab_bd_s, if_pos h1, if_neg h4, if_pos h5]
        obtain rfl := Option.some.inj (e.symm.trans hv)
        exact ab_vret ckS_refreshStatus rfl rfl ⟨rfl, rfl⟩
      · refine ab_go 9 [] (pc' := 56) (lo' := [some (.ref 8), some (.int ((p1 ||| (512 : Int32)) ||| (1024 : Int32)))]) (st' := []) (h' := cs_H (cs_u c 1 17 ((p1 ||| (512 : Int32)) ||| (1024 : Int32))) rest) ckS_refreshStatus rfl ?_
        have e : fS_refreshStatus c = some (cs_u c 1 17 ((p1 ||| (512 : Int32)) ||| (1024 : Int32))) := by simp only [fS_refreshStatus, e1, ab_bd_s, if_pos h1, if_neg h4, if_neg h5]
        obtain rfl := Option.some.inj (e.symm.trans hv)
        exact ab_vret ckS_refreshStatus rfl rfl ⟨rfl, rfl⟩
def fS_sendEmergency (c : cs_S) (x1 : Int32) : Option (cs_S) := (if (c.1 0 1) = (4 : Int32) then (some c) else (ab_bd (fB_send c ((128 : Int32) + (c.1 0 0)) (8 : Int32) ((x1).toInt64 ||| (((c.1 1 0)).toInt64 <<< (((16 : Int32)).toInt64 &&& 63)))) (fun p1 => (some p1))))
theorem tS_sendEmergency {x1 : Int32} {v : cs_S} (hv : fS_sendEmergency c x1 = some v) : ab_M X mS_sendEmergency (d + 1) 0 0 [.ref 8, .int x1] (cs_H c rest) (fun r9 h9 => r9 = none ∧ h9 = cs_H v rest) := by
  refine ab_entry (by decide) (Nat.le_of_ble_eq_true rfl) ?_
  refine ab_go 3 [] (pc' := 5) (lo' := [some (.ref 8), some (.int x1)]) (st' := [.int (4 : Int32), .int (c.1 0 1)]) (h' := cs_H c rest) ckS_sendEmergency rfl ?_
  refine ab_icmp_eq ckS_sendEmergency rfl (fun (h1 : (c.1 0 1) = (4 : Int32)) => ?_) (fun (h1 : ¬ ((c.1 0 1) = (4 : Int32))) => ?_)
  · have e : fS_sendEmergency c x1 = some c := by simp only [fS_sendEmergency, if_pos h1]
    obtain rfl := Option.some.inj (e.symm.trans hv)
    exact ab_vret ckS_sendEmergency rfl rfl ⟨rfl, rfl⟩
  · refine ab_go 12 [] (pc' := 29) (lo' := [some (.ref 8), some (.int x1)]) (st' := [.int (0 : Int32), .ref 9, .long (x1).toInt64, .int (8 : Int32), .int ((128 : Int32) + (c.1 0 0)), .ref 10]) (h' := cs_H c rest) ckS_sendEmergency rfl ?_
    refine ab_go 5 [] (pc' := 35) (lo' := [some (.ref 8), some (.int x1)]) (st' := [.long ((x1).toInt64 ||| (((c.1 1 0)).toInt64 <<< (((16 : Int32)).toInt64 &&& 63))), .int (8 : Int32), .int ((128 : Int32) + (c.1 0 0)), .ref 10]) (h' := cs_H c rest) ckS_sendEmergency rfl ?_
    rcases e1 : fB_send c ((128 : Int32) + (c.1 0 0)) (8 : Int32) ((x1).toInt64 ||| (((c.1 1 0)).toInt64 <<< (((16 : Int32)).toInt64 &&& 63))) with _ | p1
    · exact ab_no hv (by simp only [fS_sendEmergency, if_neg h1, e1, ab_bd_n])
    refine ab_callV (bc2 := 0) (bs2 := 0) (as := [_, _, _]) (rest := []) ckS_sendEmergency rfl (by decide +kernel) wB_send (tB_send (d := d) (x1 := ((128 : Int32) + (c.1 0 0))) (x2 := (8 : Int32)) (x3 := ((x1).toInt64 ||| (((c.1 1 0)).toInt64 <<< (((16 : Int32)).toInt64 &&& 63)))) (c := c) (v := p1) e1) rfl rfl (by omega) ⟨Nat.le_refl _, Nat.le_refl _⟩ (Nat.le_of_ble_eq_true rfl) ?_
    rintro _ _ ⟨rfl, rfl⟩
    have e : fS_sendEmergency c x1 = some p1 := by simp only [fS_sendEmergency, if_neg h1, e1, ab_bd_s]
    obtain rfl := Option.some.inj (e.symm.trans hv)
    exact ab_vret ckS_sendEmergency rfl rfl ⟨rfl, rfl⟩
def fS_fault (c : cs_S) (x1 : Int32) : Option (cs_S) := (let p1 := fP_fail c; (if p1.1 = 0 then (some p1.2) else (if x1 = (34321 : Int32) then (ab_bd (fS_sendEmergency (cs_u p1.2 1 0 (33 : Int32)) x1) (fun p3 => (some p3))) else (ab_bd (fS_sendEmergency (cs_u p1.2 1 0 (17 : Int32)) x1) (fun p2 => (some p2))))))
theorem tS_fault {x1 : Int32} {v : cs_S} (hv : fS_fault c x1 = some v) : ab_M X mS_fault (d + 2) 0 0 [.ref 8, .int x1] (cs_H c rest) (fun r9 h9 => r9 = none ∧ h9 = cs_H v rest) := by
  refine ab_entry (by decide) (Nat.le_of_ble_eq_true rfl) ?_
  refine ab_go 2 [] (pc' := 4) (lo' := [some (.ref 8), some (.int x1)]) (st' := [.ref 19]) (h' := cs_H c rest) ckS_fault rfl ?_
  refine ab_callV (bc2 := 0) (bs2 := 0) (as := []) (rest := []) ckS_fault rfl (by decide +kernel) wP_fail (tP_fail (d := d) (c := c)) rfl rfl (by omega) ⟨Nat.le_refl _, Nat.le_refl _⟩ (Nat.le_of_ble_eq_true rfl) ?_
  rintro _ _ ⟨rfl, rfl⟩
  generalize e1 : fP_fail c = p1
  refine ab_if_ne ckS_fault rfl (fun (h1 : ¬ (p1.1 = 0)) => ?_) (fun (h1 : p1.1 = 0) => ?_)
  · refine ab_go 5 [] (pc' := 20) (lo' := [some (.ref 8), some (.int x1)]) (st' := [.int (34321 : Int32), .int x1, .int (0 : Int32), .ref 9]) (h' := cs_H p1.2 rest) ckS_fault rfl ?_
    refine ab_icmp_ne ckS_fault rfl (fun (h2 : ¬ (x1 = (34321 : Int32))) => ?_) (fun (h2 : x1 = (34321 : Int32)) => ?_)
    · refine ab_go 1 [] (pc' := 30) (lo' := [some (.ref 8), some (.int x1)]) (st' := [.int (17 : Int32), .int (0 : Int32), .ref 9]) (h' := cs_H p1.2 rest) ckS_fault rfl ?_
      refine ab_iast ckS_fault rfl rfl (ab_inb_ok (by decide)) ?_
      refine ab_go 2 [] (pc' := 33) (lo' := [some (.ref 8), some (.int x1)]) (st' := [.int x1, .ref 8]) (h' := cs_H (cs_u p1.2 1 0 (17 : Int32)) rest) ckS_fault rfl ?_
      rcases e2 : fS_sendEmergency (cs_u p1.2 1 0 (17 : Int32)) x1 with _ | p2
      · exact ab_no hv (by simp only [fS_fault, e1, if_neg h1, if_neg h2, e2, ab_bd_n])
      refine ab_callV (bc2 := 0) (bs2 := 0) (as := [_]) (rest := []) ckS_fault rfl (by decide +kernel) wS_sendEmergency (tS_sendEmergency (d := d) (x1 := x1) (c := (cs_u p1.2 1 0 (17 : Int32))) (v := p2) e2) rfl rfl (by omega) ⟨Nat.le_refl _, Nat.le_refl _⟩ (Nat.le_of_ble_eq_true rfl) ?_
      rintro _ _ ⟨rfl, rfl⟩
      have e : fS_fault c x1 = some p2 := by simp only [fS_fault, e1, if_neg h1, if_neg h2, e2, ab_bd_s]
      obtain rfl := Option.some.inj (e.symm.trans hv)
      exact ab_vret ckS_fault rfl rfl ⟨rfl, rfl⟩
    · refine ab_go 2 [] (pc' := 30) (lo' := [some (.ref 8), some (.int x1)]) (st' := [.int (33 : Int32), .int (0 : Int32), .ref 9]) (h' := cs_H p1.2 rest) ckS_fault rfl ?_
      refine ab_iast ckS_fault rfl rfl (ab_inb_ok (by decide)) ?_
      refine ab_go 2 [] (pc' := 33) (lo' := [some (.ref 8), some (.int x1)]) (st' := [.int x1, .ref 8]) (h' := cs_H (cs_u p1.2 1 0 (33 : Int32)) rest) ckS_fault rfl ?_
      rcases e3 : fS_sendEmergency (cs_u p1.2 1 0 (33 : Int32)) x1 with _ | p3
      · exact ab_no hv (by simp only [fS_fault, e1, if_neg h1, if_pos h2, e3, ab_bd_n])
      refine ab_callV (bc2 := 0) (bs2 := 0) (as := [_]) (rest := []) ckS_fault rfl (by decide +kernel) wS_sendEmergency (tS_sendEmergency (d := d) (x1 := x1) (c := (cs_u p1.2 1 0 (33 : Int32))) (v := p3) e3) rfl rfl (by omega) ⟨Nat.le_refl _, Nat.le_refl _⟩ (Nat.le_of_ble_eq_true rfl) ?_
      rintro _ _ ⟨rfl, rfl⟩
      have e : fS_fault c x1 = some p3 := by simp only [fS_fault, e1, if_neg h1, if_pos h2, e3, ab_bd_s]
      obtain rfl := Option.some.inj (e.symm.trans hv)
      exact ab_vret ckS_fault rfl rfl ⟨rfl, rfl⟩
  · have e : fS_fault c x1 = some p1.2 := by simp only [fS_fault, e1, if_pos h1]
    obtain rfl := Option.some.inj (e.symm.trans hv)
    exact ab_vret ckS_fault rfl rfl ⟨rfl, rfl⟩
def fS_sendOut (c : cs_S) (x1 : Int64) (x2 : Int32) : Option (cs_S) := (let p1 := fO_noteSent c x1 x2; (ab_bd (fB_send p1 ((384 : Int32) + (p1.1 0 0)) x2 x1) (fun p2 => (some p2))))
theorem tS_sendOut {x1 : Int64} {x2 : Int32} {v : cs_S} (hv : fS_sendOut c x1 x2 = some v) : ab_M X mS_sendOut (d + 1) 0 0 [.ref 8, .long x1, .int x2] (cs_H c rest) (fun r9 h9 => r9 = none ∧ h9 = cs_H v rest) := by
  refine ab_entry (by decide) (Nat.le_of_ble_eq_true rfl) ?_
  refine ab_go 4 [] (pc' := 6) (lo' := [some (.ref 8), some (.long x1), none, some (.int x2)]) (st' := [.int x2, .long x1, .ref 22]) (h' := cs_H c rest) ckS_sendOut rfl ?_
  refine ab_callV (bc2 := 0) (bs2 := 0) (as := [_, _]) (rest := []) ckS_sendOut rfl (by decide +kernel) wO_noteSent (tO_noteSent (d := d) (x1 := x1) (x2 := x2) (c := c)) rfl rfl (by omega) ⟨Nat.le_refl _, Nat.le_refl _⟩ (Nat.le_of_ble_eq_true rfl) ?_
  rintro _ _ ⟨rfl, rfl⟩
  generalize e1 : fO_noteSent c x1 x2 = p1
  refine ab_go 8 [] (pc' := 23) (lo' := [some (.ref 8), some (.long x1), none, some (.int x2)]) (st' := [.long x1, .int x2, .int ((384 : Int32) + (p1.1 0 0)), .ref 10]) (h' := cs_H p1 rest) ckS_sendOut rfl ?_
  rcases e2 : fB_send p1 ((384 : Int32) + (p1.1 0 0)) x2 x1 with _ | p2
  · exact ab_no hv (by simp only [fS_sendOut, e1, e2, ab_bd_n])
  refine ab_callV (bc2 := 0) (bs2 := 0) (as := [_, _, _]) (rest := []) ckS_sendOut rfl (by decide +kernel) wB_send (tB_send (d := d) (x1 := ((384 : Int32) + (p1.1 0 0))) (x2 := x2) (x3 := x1) (c := p1) (v := p2) e2) rfl rfl (by omega) ⟨Nat.le_refl _, Nat.le_refl _⟩ (Nat.le_of_ble_eq_true rfl) ?_
  rintro _ _ ⟨rfl, rfl⟩
  have e : fS_sendOut c x1 x2 = some p2 := by simp only [fS_sendOut, e1, e2, ab_bd_s]
  obtain rfl := Option.some.inj (e.symm.trans hv)
  exact ab_vret ckS_sendOut rfl rfl ⟨rfl, rfl⟩
def fS_sendOutWhenDue (c : cs_S)  : Option (cs_S) := (if (c.1 0 1) = (5 : Int32) then (if (c.1 1 9) ≤ (240 : Int32) then (some c) else (if (c.1 1 12) = 0 then (some c) else (if (fO_isHeld c (c.1 1 10)) = 0 then (ab_bd (fS_refreshStatus c) (fun p1 => (ab_bd (fG_pack p1) (fun p2 => (ab_bd (fG_totalBytes p1 (12 : Int32)) (fun p3 => (if (fO_isDue p1 p2 p3 (p1.1 1 11)) = 0 then (some p1) else (ab_bd (fS_sendOut p1 p2 p3) (fun p4 => (some p4)))))))))) else (some c)))) else (some c))
theorem tS_sendOutWhenDue (hX : cs_X X) {v : cs_S} (hv : fS_sendOutWhenDue c = some v) : ab_M X mS_sendOutWhenDue (d + 4) 0 0 [.ref 8] (cs_H c rest) (fun r9 h9 => r9 = none ∧ h9 = cs_H v rest) := by
  refine ab_entry (by decide) (Nat.le_of_ble_eq_true rfl) ?_
  refine ab_go 3 [] (pc' := 5) (lo' := [some (.ref 8), none, none, none]) (st' := [.int (5 : Int32), .int (c.1 0 1)]) (h' := cs_H c rest) ckS_sendOutWhenDue rfl ?_
  refine ab_icmp_ne ckS_sendOutWhenDue rfl (fun (h1 : ¬ ((c.1 0 1) = (5 : Int32))) => ?_) (fun (h1 : (c.1 0 1) = (5 : Int32)) => ?_)
  · have e : fS_sendOutWhenDue c = some c := by simp only [fS_sendOutWhenDue, if_neg h1]
    obtain rfl := Option.some.inj (e.symm.trans hv)
    exact ab_vret ckS_sendOutWhenDue rfl rfl ⟨rfl, rfl⟩
  · refine ab_go 5 [] (pc' := 18) (lo' := [some (.ref 8), none, none, none]) (st' := [.int (240 : Int32), .int (c.1 1 9)]) (h' := cs_H c rest) ckS_sendOutWhenDue rfl ?_
    refine ab_icmp_le ckS_sendOutWhenDue rfl (fun (h2 : (c.1 1 9) ≤ (240 : Int32)) => ?_) (fun (h2 : ¬ ((c.1 1 9) ≤ (240 : Int32))) => ?_)
    · have e : fS_sendOutWhenDue c = some c := by simp only [fS_sendOutWhenDue, if_pos h1, if_pos h2]
      obtain rfl := Option.some.inj (e.symm.trans hv)
      exact ab_vret ckS_sendOutWhenDue rfl rfl ⟨rfl, rfl⟩
    · refine ab_go 4 [] (pc' := 28) (lo' := [some (.ref 8), none, none, none]) (st' := [.int (c.1 1 12)]) (h' := cs_H c rest) ckS_sendOutWhenDue rfl ?_
      refine ab_if_eq ckS_sendOutWhenDue rfl (fun (h3 : (c.1 1 12) = 0) => ?_) (fun (h3 : ¬ ((c.1 1 12) = 0)) => ?_)
      · have e : fS_sendOutWhenDue c = some c := by simp only [fS_sendOutWhenDue, if_pos h1, if_neg h2, if_pos h3]
        obtain rfl := Option.some.inj (e.symm.trans hv)
        exact ab_vret ckS_sendOutWhenDue rfl rfl ⟨rfl, rfl⟩
      · refine ab_go 6 [] (pc' := 42) (lo' := [some (.ref 8), none, none, none]) (st' := [.int (c.1 1 10), .ref 22]) (h' := cs_H c rest) ckS_sendOutWhenDue rfl ?_
        refine ab_callV (bc2 := 0) (bs2 := 0) (as := [_]) (rest := []) ckS_sendOutWhenDue rfl (by decide +kernel) wO_isHeld (tO_isHeld (d := d + 3) (x1 := (c.1 1 10)) (c := c)) rfl rfl (by omega) ⟨Nat.le_refl _, Nat.le_refl _⟩ (Nat.le_of_ble_eq_true rfl) ?_
        rintro _ _ ⟨rfl, rfl⟩
        refine ab_if_eq ckS_sendOutWhenDue rfl (fun (h4 : (fO_isHeld c (c.1 1 10)) = 0) => ?_) (fun (h4 : ¬ ((fO_isHeld c (c.1 1 10)) = 0)) => ?_)
        · refine ab_go 1 [] (pc' := 50) (lo' := [some (.ref 8), none, none, none]) (st' := [.ref 8]) (h' := cs_H c rest) ckS_sendOutWhenDue rfl ?_
          rcases e1 : fS_refreshStatus c with _ | p1
          · exact ab_no hv (by simp only [fS_sendOutWhenDue, if_pos h1, if_neg h2, if_neg h3, if_pos h4, e1, ab_bd_n])
          refine ab_callV (bc2 := 0) (bs2 := 0) (as := []) (rest := []) ckS_sendOutWhenDue rfl (by decide +kernel) wS_refreshStatus (tS_refreshStatus (d := d) (c := c) hX (v := p1) e1) rfl rfl (by omega) ⟨Nat.le_refl _, Nat.le_refl _⟩ (Nat.le_of_ble_eq_true rfl) ?_
          rintro _ _ ⟨rfl, rfl⟩
          refine ab_go 2 [] (pc' := 57) (lo' := [some (.ref 8), none, none, none]) (st' := [.ref 9]) (h' := cs_H p1 rest) ckS_sendOutWhenDue rfl ?_
          rcases e2 : fG_pack p1 with _ | p2
          · exact ab_no hv (by simp only [fS_sendOutWhenDue, if_pos h1, if_neg h2, if_neg h3, if_pos h4, e1, ab_bd_s, e2, ab_bd_n])
          refine ab_callS (bc2 := 0) (bs2 := 0) (as := [_]) (rest := []) ckS_sendOutWhenDue rfl (by decide +kernel) wG_pack (tG_pack (d := d + 1) (c := p1) hX (v := p2) e2) (by omega) ⟨Nat.le_refl _, Nat.le_refl _⟩ (Nat.le_of_ble_eq_true rfl) ?_
          rintro _ _ ⟨rfl, rfl⟩
          refine ab_go 4 [] (pc' := 67) (lo' := [some (.ref 8), some (.long p2), none, none]) (st' := [.int (12 : Int32), .ref 9]) (h' := cs_H p1 rest) ckS_sendOutWhenDue rfl ?_
          rcases e3 : fG_totalBytes p1 (12 : Int32) with _ | p3
          · exact ab_no hv (by simp only [fS_sendOutWhenDue, if_pos h1, if_neg h2, if_neg h3, if_pos h4, e1, ab_bd_s, e2, ab_bd_s, e3, ab_bd_n])
          refine ab_callS (bc2 := 0) (bs2 := 0) (as := [_, _]) (rest := []) ckS_sendOutWhenDue rfl (by decide +kernel) wG_totalBytes (tG_totalBytes (d := d + 3) (x2 := (12 : Int32)) (c := p1) (v := p3) e3) (by omega) ⟨Nat.le_refl _, Nat.le_refl _⟩ (Nat.le_of_ble_eq_true rfl) ?_
          rintro _ _ ⟨rfl, rfl⟩
          refine ab_go 9 [] (pc' := 84) (lo' := [some (.ref 8), some (.long p2), none, some (.int p3)]) (st' := [.int (p1.1 1 11), .int p3, .long p2, .ref 22]) (h' := cs_H p1 rest) ckS_sendOutWhenDue rfl ?_
          refine ab_callV (bc2 := 0) (bs2 := 0) (as := [_, _, _]) (rest := []) ckS_sendOutWhenDue rfl (by decide +kernel) wO_isDue (tO_isDue (d := d + 3) (x1 := p2) (x2 := p3) (x3 := (p1.1 1 11)) (c := p1)) rfl rfl (by omega) ⟨Nat.le_refl _, Nat.le_refl _⟩ (Nat.le_of_ble_eq_true rfl) ?_
          rintro _ _ ⟨rfl, rfl⟩
          refine ab_if_eq ckS_sendOutWhenDue rfl (fun (h5 : (fO_isDue p1 p2 p3 (p1.1 1 11)) = 0) => ?_) (fun (h5 : ¬ ((fO_isDue p1 p2 p3 (p1.1 1 11)) = 0)) => ?_)
          · have e : fS_sendOutWhenDue c = some p1 := by simp only [fS_sendOutWhenDue, if_pos h1, if_neg h2, if_neg h3, if_pos h4, e1, ab_bd_s, e2, ab_bd_s, e3, ab_bd_s, if_pos h5]
            obtain rfl := Option.some.inj (e.symm.trans hv)
            exact ab_vret ckS_sendOutWhenDue rfl rfl ⟨rfl, rfl⟩
          · refine ab_go 3 [] (pc' := 93) (lo' := [some (.ref 8), some (.long p2), none, some (.int p3)]) (st' := [.int p3, .long p2, .ref 8]) (h' := cs_H p1 rest) ckS_sendOutWhenDue rfl ?_
            rcases e4 : fS_sendOut p1 p2 p3 with _ | p4
            · exact ab_no hv (by simp only [fS_sendOutWhenDue, if_pos h1, if_neg h2, if_neg h3, if_pos h4, e1, ab_bd_s, e2, ab_bd_s, e3, ab_bd_s, if_neg h5, e4, ab_bd_n])
            refine ab_callV (bc2 := 0) (bs2 := 0) (as := [_, _]) (rest := []) ckS_sendOutWhenDue rfl (by decide +kernel) wS_sendOut (tS_sendOut (d := d + 2) (x1 := p2) (x2 := p3) (c := p1) (v := p4) e4) rfl rfl (by omega) ⟨Nat.le_refl _, Nat.le_refl _⟩ (Nat.le_of_ble_eq_true rfl) ?_
            rintro _ _ ⟨rfl, rfl⟩
            have e : fS_sendOutWhenDue c = some p4 := by simp only [fS_sendOutWhenDue, if_pos h1, if_neg h2, if_neg h3, if_pos h4, e1, ab_bd_s, e2, ab_bd_s, e3, ab_bd_s, if_neg h5, e4, ab_bd_s]
            obtain rfl := Option.some.inj (e.symm.trans hv)
            exact ab_vret ckS_sendOutWhenDue rfl rfl ⟨rfl, rfl⟩
        · have e : fS_sendOutWhenDue c = some c := by simp only [fS_sendOutWhenDue, if_pos h1, if_neg h2, if_neg h3, if_neg h4]
          obtain rfl := Option.some.inj (e.symm.trans hv)
          exact ab_vret ckS_sendOutWhenDue rfl rfl ⟨rfl, rfl⟩
def fS_move (c : cs_S) (x1 : Int32) : Option (cs_S) := (if (fP_isEnabled c) = 0 then (if (fP_isStageOn c) = 0 then (let p1 := fV_rest c x1; (some p1)) else (let p2 := fV_brake c; (some p2))) else (ab_bd (fV_follow c) (fun p3 => (some p3))))
theorem tS_move {x1 : Int32} {v : cs_S} (hv : fS_move c x1 = some v) : ab_M X mS_move (d + 4) 0 0 [.ref 8, .int x1] (cs_H c rest) (fun r9 h9 => r9 = none ∧ h9 = cs_H v rest) := by
  refine ab_entry (by decide) (Nat.le_of_ble_eq_true rfl) ?_
  refine ab_go 2 [] (pc' := 4) (lo' := [some (.ref 8), some (.int x1)]) (st' := [.ref 19]) (h' := cs_H c rest) ckS_move rfl ?_
  refine ab_callV (bc2 := 0) (bs2 := 0) (as := []) (rest := []) ckS_move rfl (by decide +kernel) wP_isEnabled (tP_isEnabled (d := d + 3) (c := c)) rfl rfl (by omega) ⟨Nat.le_refl _, Nat.le_refl _⟩ (Nat.le_of_ble_eq_true rfl) ?_
  rintro _ _ ⟨rfl, rfl⟩
  refine ab_if_eq ckS_move rfl (fun (h1 : (fP_isEnabled c) = 0) => ?_) (fun (h1 : ¬ ((fP_isEnabled c) = 0)) => ?_)
  · refine ab_go 2 [] (pc' := 24) (lo' := [some (.ref 8), some (.int x1)]) (st' := [.ref 19]) (h' := cs_H c rest) ckS_move rfl ?_
    refine ab_callV (bc2 := 0) (bs2 := 0) (as := []) (rest := []) ckS_move rfl (by decide +kernel) wP_isStageOn (tP_isStageOn (d := d + 3) (c := c)) rfl rfl (by omega) ⟨Nat.le_refl _, Nat.le_refl _⟩ (Nat.le_of_ble_eq_true rfl) ?_
    rintro _ _ ⟨rfl, rfl⟩
    refine ab_if_eq ckS_move rfl (fun (h2 : (fP_isStageOn c) = 0) => ?_) (fun (h2 : ¬ ((fP_isStageOn c) = 0)) => ?_)
    · refine ab_go 3 [] (pc' := 45) (lo' := [some (.ref 8), some (.int x1)]) (st' := [.int x1, .ref 20]) (h' := cs_H c rest) ckS_move rfl ?_
      refine ab_callV (bc2 := 0) (bs2 := 0) (as := [_]) (rest := []) ckS_move rfl (by decide +kernel) wV_rest (tV_rest (d := d + 3) (x1 := x1) (c := c)) rfl rfl (by omega) ⟨Nat.le_refl _, Nat.le_refl _⟩ (Nat.le_of_ble_eq_true rfl) ?_
      rintro _ _ ⟨rfl, rfl⟩
      generalize e1 : fV_rest c x1 = p1
      have e : fS_move c x1 = some p1 := by simp only [fS_move, if_pos h1, if_pos h2, e1]
      obtain rfl := Option.some.inj (e.symm.trans hv)
      exact ab_vret ckS_move rfl rfl ⟨rfl, rfl⟩
    · refine ab_go 2 [] (pc' := 34) (lo' := [some (.ref 8), some (.int x1)]) (st' := [.ref 20]) (h' := cs_H c rest) ckS_move rfl ?_
      refine ab_callV (bc2 := 0) (bs2 := 0) (as := []) (rest := []) ckS_move rfl (by decide +kernel) wV_brake (tV_brake (d := d + 1) (c := c)) rfl rfl (by omega) ⟨Nat.le_refl _, Nat.le_refl _⟩ (Nat.le_of_ble_eq_true rfl) ?_
      rintro _ _ ⟨rfl, rfl⟩
      generalize e2 : fV_brake c = p2
      refine ab_go 1 [] (pc' := 48) (lo' := [some (.ref 8), some (.int x1)]) (st' := []) (h' := cs_H p2 rest) ckS_move rfl ?_
      have e : fS_move c x1 = some p2 := by simp only [fS_move, if_pos h1, if_neg h2, e2]
      obtain rfl := Option.some.inj (e.symm.trans hv)
      exact ab_vret ckS_move rfl rfl ⟨rfl, rfl⟩
  · refine ab_go 2 [] (pc' := 14) (lo' := [some (.ref 8), some (.int x1)]) (st' := [.ref 20]) (h' := cs_H c rest) ckS_move rfl ?_
    rcases e3 : fV_follow c with _ | p3
    · exact ab_no hv (by simp only [fS_move, if_neg h1, e3, ab_bd_n])
    refine ab_callV (bc2 := 0) (bs2 := 0) (as := []) (rest := []) ckS_move rfl (by decide +kernel) wV_follow (tV_follow (d := d) (c := c) (v := p3) e3) rfl rfl (by omega) ⟨Nat.le_refl _, Nat.le_refl _⟩ (Nat.le_of_ble_eq_true rfl) ?_
    rintro _ _ ⟨rfl, rfl⟩
    refine ab_go 1 [] (pc' := 48) (lo' := [some (.ref 8), some (.int x1)]) (st' := []) (h' := cs_H p3 rest) ckS_move rfl ?_
    have e : fS_move c x1 = some p3 := by simp only [fS_move, if_neg h1, e3, ab_bd_s]
    obtain rfl := Option.some.inj (e.symm.trans hv)
    exact ab_vret ckS_move rfl rfl ⟨rfl, rfl⟩
def fS_obeyControl (c : cs_S)  : Option (cs_S) := (ab_bd (fP_orderOf c (c.1 1 16)) (fun p1 => (if (p1.2.1 1 21) = 0 then (let p4 := fP_obey p1.2 p1.1 (1 : Int32); (if p4.1 = 0 then (some p4.2) else (ab_bd (fS_sendEmergency (cs_u p4.2 1 0 (0 : Int32)) (0 : Int32)) (fun p5 => (some p5))))) else (let p2 := fP_obey p1.2 p1.1 (0 : Int32); (if p2.1 = 0 then (some p2.2) else (ab_bd (fS_sendEmergency (cs_u p2.2 1 0 (0 : Int32)) (0 : Int32)) (fun p3 => (some p3))))))))
theorem tS_obeyControl {v : cs_S} (hv : fS_obeyControl c = some v) : ab_M X mS_obeyControl (d + 3) 0 0 [.ref 8] (cs_H c rest) (fun r9 h9 => r9 = none ∧ h9 = cs_H v rest) := by
  refine ab_entry (by decide) (Nat.le_of_ble_eq_true rfl) ?_
  refine ab_go 6 [] (pc' := 11) (lo' := [some (.ref 8), none]) (st' := [.int (c.1 1 16), .ref 19]) (h' := cs_H c rest) ckS_obeyControl rfl ?_
  rcases e1 : fP_orderOf c (c.1 1 16) with _ | p1
  · exact ab_no hv (by simp only [fS_obeyControl, e1, ab_bd_n])
  refine ab_callV (bc2 := 0) (bs2 := 0) (as := [_]) (rest := []) ckS_obeyControl rfl (by decide +kernel) wP_orderOf (tP_orderOf (d := d + 2) (x1 := (c.1 1 16)) (c := c) (v := p1) e1) rfl rfl (by omega) ⟨Nat.le_refl _, Nat.le_refl _⟩ (Nat.le_of_ble_eq_true rfl) ?_
  rintro _ _ ⟨rfl, rfl⟩
  refine ab_go 8 [] (pc' := 27) (lo' := [some (.ref 8), some (.int p1.1)]) (st' := [.int (p1.2.1 1 21), .int p1.1, .ref 19]) (h' := cs_H p1.2 rest) ckS_obeyControl rfl ?_
  refine ab_if_ne ckS_obeyControl rfl (fun (h1 : ¬ ((p1.2.1 1 21) = 0)) => ?_) (fun (h1 : (p1.2.1 1 21) = 0) => ?_)
  · refine ab_go 1 [] (pc' := 35) (lo' := [some (.ref 8), some (.int p1.1)]) (st' := [.int (0 : Int32), .int p1.1, .ref 19]) (h' := cs_H p1.2 rest) ckS_obeyControl rfl ?_
    refine ab_callV (bc2 := 0) (bs2 := 0) (as := [_, _]) (rest := []) ckS_obeyControl rfl (by decide +kernel) wP_obey (tP_obey (d := d) (x1 := p1.1) (x2 := (0 : Int32)) (c := p1.2)) rfl rfl (by omega) ⟨Nat.le_refl _, Nat.le_refl _⟩ (Nat.le_of_ble_eq_true rfl) ?_
    rintro _ _ ⟨rfl, rfl⟩
    generalize e2 : fP_obey p1.2 p1.1 (0 : Int32) = p2
    refine ab_if_eq ckS_obeyControl rfl (fun (h2 : p2.1 = 0) => ?_) (fun (h2 : ¬ (p2.1 = 0)) => ?_)
    · have e : fS_obeyControl c = some p2.2 := by simp only [fS_obeyControl, e1, ab_bd_s, if_neg h1, e2, if_pos h2]
      obtain rfl := Option.some.inj (e.symm.trans hv)
      exact ab_vret ckS_obeyControl rfl rfl ⟨rfl, rfl⟩
    · refine ab_go 7 [] (pc' := 50) (lo' := [some (.ref 8), some (.int p1.1)]) (st' := [.int (0 : Int32), .ref 8]) (h' := cs_H (cs_u p2.2 1 0 (0 : Int32)) rest) ckS_obeyControl rfl ?_
      rcases e3 : fS_sendEmergency (cs_u p2.2 1 0 (0 : Int32)) (0 : Int32) with _ | p3
      · exact ab_no hv (by simp only [fS_obeyControl, e1, ab_bd_s, if_neg h1, e2, if_neg h2, e3, ab_bd_n])
      refine ab_callV (bc2 := 0) (bs2 := 0) (as := [_]) (rest := []) ckS_obeyControl rfl (by decide +kernel) wS_sendEmergency (tS_sendEmergency (d := d + 1) (x1 := (0 : Int32)) (c := (cs_u p2.2 1 0 (0 : Int32))) (v := p3) e3) rfl rfl (by omega) ⟨Nat.le_refl _, Nat.le_refl _⟩ (Nat.le_of_ble_eq_true rfl) ?_
      rintro _ _ ⟨rfl, rfl⟩
      have e : fS_obeyControl c = some p3 := by simp only [fS_obeyControl, e1, ab_bd_s, if_neg h1, e2, if_neg h2, e3, ab_bd_s]
      obtain rfl := Option.some.inj (e.symm.trans hv)
      exact ab_vret ckS_obeyControl rfl rfl ⟨rfl, rfl⟩
  · refine ab_go 2 [] (pc' := 35) (lo' := [some (.ref 8), some (.int p1.1)]) (st' := [.int (1 : Int32), .int p1.1, .ref 19]) (h' := cs_H p1.2 rest) ckS_obeyControl rfl ?_
    refine ab_callV (bc2 := 0) (bs2 := 0) (as := [_, _]) (rest := []) ckS_obeyControl rfl (by decide +kernel) wP_obey (tP_obey (d := d) (x1 := p1.1) (x2 := (1 : Int32)) (c := p1.2)) rfl rfl (by omega) ⟨Nat.le_refl _, Nat.le_refl _⟩ (Nat.le_of_ble_eq_true rfl) ?_
    rintro _ _ ⟨rfl, rfl⟩
    generalize e4 : fP_obey p1.2 p1.1 (1 : Int32) = p4
    refine ab_if_eq ckS_obeyControl rfl (fun (h3 : p4.1 = 0) => ?_) (fun (h3 : ¬ (p4.1 = 0)) => ?_)
    · have e : fS_obeyControl c = some p4.2 := by simp only [fS_obeyControl, e1, ab_bd_s, if_pos h1, e4, if_pos h3]
      obtain rfl := Option.some.inj (e.symm.trans hv)
      exact ab_vret ckS_obeyControl rfl rfl ⟨rfl, rfl⟩
    · refine ab_go 7 [] (pc' := 50) (lo' := [some (.ref 8), some (.int p1.1)]) (st' := [.int (0 : Int32), .ref 8]) (h' := cs_H (cs_u p4.2 1 0 (0 : Int32)) rest) ckS_obeyControl rfl ?_
      rcases e5 : fS_sendEmergency (cs_u p4.2 1 0 (0 : Int32)) (0 : Int32) with _ | p5
      · exact ab_no hv (by simp only [fS_obeyControl, e1, ab_bd_s, if_pos h1, e4, if_neg h3, e5, ab_bd_n])
      refine ab_callV (bc2 := 0) (bs2 := 0) (as := [_]) (rest := []) ckS_obeyControl rfl (by decide +kernel) wS_sendEmergency (tS_sendEmergency (d := d + 1) (x1 := (0 : Int32)) (c := (cs_u p4.2 1 0 (0 : Int32))) (v := p5) e5) rfl rfl (by omega) ⟨Nat.le_refl _, Nat.le_refl _⟩ (Nat.le_of_ble_eq_true rfl) ?_
      rintro _ _ ⟨rfl, rfl⟩
      have e : fS_obeyControl c = some p5 := by simp only [fS_obeyControl, e1, ab_bd_s, if_pos h1, e4, if_neg h3, e5, ab_bd_s]
      obtain rfl := Option.some.inj (e.symm.trans hv)
      exact ab_vret ckS_obeyControl rfl rfl ⟨rfl, rfl⟩
def fS_beat (c : cs_S)  : Option (cs_S) := (if (c.1 1 4) ≤ 0 then (some (cs_u c 0 2 ((c.1 0 2) + (1 : Int32)))) else (if ((c.1 0 2) + (1 : Int32)) < (c.1 1 4) then (some (cs_u c 0 2 ((c.1 0 2) + (1 : Int32)))) else (ab_bd (fB_send (cs_u (cs_u c 0 2 ((c.1 0 2) + (1 : Int32))) 0 2 (0 : Int32)) ((1792 : Int32) + (c.1 0 0)) (1 : Int32) ((c.1 0 1)).toInt64) (fun p1 => (some p1)))))
theorem tS_beat {v : cs_S} (hv : fS_beat c = some v) : ab_M X mS_beat (d + 1) 0 0 [.ref 8] (cs_H c rest) (fun r9 h9 => r9 = none ∧ h9 = cs_H v rest) := by
  refine ab_entry (by decide) (Nat.le_of_ble_eq_true rfl) ?_
  refine ab_go 12 [] (pc' := 18) (lo' := [some (.ref 8), some (.int (c.1 1 4))]) (st' := [.int (c.1 1 4)]) (h' := cs_H (cs_u c 0 2 ((c.1 0 2) + (1 : Int32))) rest) ckS_beat rfl ?_
  refine ab_if_le ckS_beat rfl (fun (h1 : (c.1 1 4) ≤ 0) => ?_) (fun (h1 : ¬ ((c.1 1 4) ≤ 0)) => ?_)
  · have e : fS_beat c = some (cs_u c 0 2 ((c.1 0 2) + (1 : Int32))) := by simp only [fS_beat, if_pos h1]
    obtain rfl := Option.some.inj (e.symm.trans hv)
    exact ab_vret ckS_beat rfl rfl ⟨rfl, rfl⟩
  · refine ab_go 3 [] (pc' := 26) (lo' := [some (.ref 8), some (.int (c.1 1 4))]) (st' := [.int (c.1 1 4), .int ((c.1 0 2) + (1 : Int32))]) (h' := cs_H (cs_u c 0 2 ((c.1 0 2) + (1 : Int32))) rest) ckS_beat rfl ?_
    refine ab_icmp_lt ckS_beat rfl (fun (h2 : ((c.1 0 2) + (1 : Int32)) < (c.1 1 4)) => ?_) (fun (h2 : ¬ (((c.1 0 2) + (1 : Int32)) < (c.1 1 4))) => ?_)
    · have e : fS_beat c = some (cs_u c 0 2 ((c.1 0 2) + (1 : Int32))) := by simp only [fS_beat, if_neg h1, if_pos h2]
      obtain rfl := Option.some.inj (e.symm.trans hv)
      exact ab_vret ckS_beat rfl rfl ⟨rfl, rfl⟩
    · refine ab_go 12 [] (pc' := 51) (lo' := [some (.ref 8), some (.int (c.1 1 4))]) (st' := [.int (c.1 0 1), .int (1 : Int32), .int ((1792 : Int32) + (c.1 0 0)), .ref 10]) (h' := cs_H (cs_u (cs_u c 0 2 ((c.1 0 2) + (1 : Int32))) 0 2 (0 : Int32)) rest) ckS_beat rfl ?_
      refine ab_go 1 [] (pc' := 52) (lo' := [some (.ref 8), some (.int (c.1 1 4))]) (st' := [.long ((c.1 0 1)).toInt64, .int (1 : Int32), .int ((1792 : Int32) + (c.1 0 0)), .ref 10]) (h' := cs_H (cs_u (cs_u c 0 2 ((c.1 0 2) + (1 : Int32))) 0 2 (0 : Int32)) rest) ckS_beat rfl ?_
      rcases e1 : fB_send (cs_u (cs_u c 0 2 ((c.1 0 2) + (1 : Int32))) 0 2 (0 : Int32)) ((1792 : Int32) + (c.1 0 0)) (1 : Int32) ((c.1 0 1)).toInt64 with _ | p1
      · exact ab_no hv (by simp only [fS_beat, if_neg h1, if_neg h2, e1, ab_bd_n])
      refine ab_callV (bc2 := 0) (bs2 := 0) (as := [_, _, _]) (rest := []) ckS_beat rfl (by decide +kernel) wB_send (tB_send (d := d) (x1 := ((1792 : Int32) + (c.1 0 0))) (x2 := (1 : Int32)) (x3 := ((c.1 0 1)).toInt64) (c := (cs_u (cs_u c 0 2 ((c.1 0 2) + (1 : Int32))) 0 2 (0 : Int32))) (v := p1) e1) rfl rfl (by omega) ⟨Nat.le_refl _, Nat.le_refl _⟩ (Nat.le_of_ble_eq_true rfl) ?_
      rintro _ _ ⟨rfl, rfl⟩
      have e : fS_beat c = some p1 := by simp only [fS_beat, if_neg h1, if_neg h2, e1, ab_bd_s]
      obtain rfl := Option.some.inj (e.symm.trans hv)
      exact ab_vret ckS_beat rfl rfl ⟨rfl, rfl⟩
def fS_watchTime (c : cs_S)  : Int32 := ((c.1 1 3) &&& (65535 : Int32))
theorem tS_watchTime : ab_M X mS_watchTime (d) 0 0 [.ref 8] (cs_H c rest) (fun r9 h9 => r9 = some (Value.int (fS_watchTime c)) ∧ h9 = cs_H c rest) := by
  refine ab_entry (by decide) (Nat.le_of_ble_eq_true rfl) ?_
  refine ab_go 6 [] (pc' := 9) (lo' := [some (.ref 8)]) (st' := [.int ((c.1 1 3) &&& (65535 : Int32))]) (h' := cs_H c rest) ckS_watchTime rfl ?_
  have e : fS_watchTime c = ((c.1 1 3) &&& (65535 : Int32)) := by simp only [fS_watchTime]
  exact ab_iret ckS_watchTime rfl rfl ⟨(congrArg (fun q : Int32 => some (Value.int q)) e).symm, rfl⟩
def fS_makeTick (c : cs_S) (x1 : Int32) : Option (cs_S) := (if (fP_isStageOn (cs_u c 1 19 x1)) = 0 then (let p31 := fV_rest (cs_u c 1 19 x1) x1; (ab_bd (fT_goOn p31) (fun p32 => (ab_bd (fS_beat p32) (fun p33 => (let p34 := fH_runsOut p33 (fS_watchTime p33); (if p34.1 = 0 then (if (fP_isEnabled p34.2) = 0 then (ab_bd (fS_obeyControl p34.2) (fun p35 => (ab_bd (fS_move p35 x1) (fun p36 => (let p37 := fO_countTick p36; (ab_bd (fS_sendOutWhenDue p37) (fun p38 => (some p38)))))))) else (if (i_abs (x1 - (fV_demanded p34.2))) ≤ (p34.2.1 1 20) then (ab_bd (fS_obeyControl p34.2) (fun p39 => (ab_bd (fS_move p39 x1) (fun p40 => (let p41 := fO_countTick p40; (ab_bd (fS_sendOutWhenDue p41) (fun p42 => (some p42)))))))) else (ab_bd (fS_fault p34.2 (34321 : Int32)) (fun p43 => (ab_bd (fS_obeyControl p43) (fun p44 => (ab_bd (fS_move p44 x1) (fun p45 => (let p46 := fO_countTick p45; (ab_bd (fS_sendOutWhenDue p46) (fun p47 => (some p47)))))))))))) else (ab_bd (fS_fault p34.2 (33072 : Int32)) (fun p48 => (if (fP_isEnabled p48) = 0 then (ab_bd (fS_obeyControl p48) (fun p49 => (ab_bd (fS_move p49 x1) (fun p50 => (let p51 := fO_countTick p50; (ab_bd (fS_sendOutWhenDue p51) (fun p52 => (some p52)))))))) else (if (i_abs (x1 - (fV_demanded p48))) ≤ (p48.1 1 20) then (ab_bd (fS_obeyControl p48) (fun p53 => (ab_bd (fS_move p53 x1) (fun p54 => (let p55 := fO_countTick p54; (ab_bd (fS_sendOutWhenDue p55) (fun p56 => (some p56)))))))) else (ab_bd (fS_fault p48 (34321 : Int32)) (fun p57 => (ab_bd (fS_obeyControl p57) (fun p58 => (ab_bd (fS_move p58 x1) (fun p59 => (let p60 := fO_countTick p59; (ab_bd (fS_sendOutWhenDue p60) (fun p61 => (some p61))))))))))))))))))))) else (ab_bd (fT_goOn (cs_u c 1 19 x1)) (fun p1 => (ab_bd (fS_beat p1) (fun p2 => (let p3 := fH_runsOut p2 (fS_watchTime p2); (if p3.1 = 0 then (if (fP_isEnabled p3.2) = 0 then (ab_bd (fS_obeyControl p3.2) (fun p4 => (ab_bd (fS_move p4 x1) (fun p5 => (let p6 := fO_countTick p5; (ab_bd (fS_sendOutWhenDue p6) (fun p7 => (some p7)))))))) else (if (i_abs (x1 - (fV_demanded p3.2))) ≤ (p3.2.1 1 20) then (ab_bd (fS_obeyControl p3.2) (fun p8 => (ab_bd (fS_move p8 x1) (fun p9 => (let p10 := fO_countTick p9; (ab_bd (fS_sendOutWhenDue p10) (fun p11 => (some p11)))))))) else (ab_bd (fS_fault p3.2 (34321 : Int32)) (fun p12 => (ab_bd (fS_obeyControl p12) (fun p13 => (ab_bd (fS_move p13 x1) (fun p14 => (let p15 := fO_countTick p14; (ab_bd (fS_sendOutWhenDue p15) (fun p16 => (some p16)))))))))))) else (ab_bd (fS_fault p3.2 (33072 : Int32)) (fun p17 => (if (fP_isEnabled p17) = 0 then (ab_bd (fS_obeyControl p17) (fun p18 => (ab_bd (fS_move p18 x1) (fun p19 => (let p20 := fO_countTick p19; (ab_bd (fS_sendOutWhenDue p20) (fun p21 => (some p21)))))))) else (if (i_abs (x1 - (fV_demanded p17))) ≤ (p17.1 1 20) then (ab_bd (fS_obeyControl p17) (fun p22 => (ab_bd (fS_move p22 x1) (fun p23 => (let p24 := fO_countTick p23; (ab_bd (fS_sendOutWhenDue p24) (fun p25 => (some p25)))))))) else (ab_bd (fS_fault p17 (34321 : Int32)) (fun p26 => (ab_bd (fS_obeyControl p26) (fun p27 => (ab_bd (fS_move p27 x1) (fun p28 => (let p29 := fO_countTick p28; (ab_bd (fS_sendOutWhenDue p29) (fun p30 => (some p30)))))))))))))))))))))
theorem tS_makeTick {x1 : Int32} (hX : cs_X X) {v : cs_S} (hv : fS_makeTick c x1 = some v) : ab_M X mS_makeTick (d + 5) 0 0 [.ref 8, .int x1] (cs_H c rest) (fun r9 h9 => r9 = none ∧ h9 = cs_H v rest) := by
  refine ab_entry (by decide) (Nat.le_of_ble_eq_true rfl) ?_
  refine ab_go 7 [] (pc' := 12) (lo' := [some (.ref 8), some (.int x1)]) (st' := [.ref 19]) (h' := cs_H (cs_u c 1 19 x1) rest) ckS_makeTick rfl ?_
  refine ab_callV (bc2 := 0) (bs2 := 0) (as := []) (rest := []) ckS_makeTick rfl (by decide +kernel) wP_isStageOn (tP_isStageOn (d := d + 4) (c := (cs_u c 1 19 x1))) rfl rfl (by omega) ⟨Nat.le_refl _, Nat.le_refl _⟩ (Nat.le_of_ble_eq_true rfl) ?_
  rintro _ _ ⟨rfl, rfl⟩
  refine ab_if_ne ckS_makeTick rfl (fun (h1 : ¬ ((fP_isStageOn (cs_u c 1 19 x1)) = 0)) => ?_) (fun (h1 : (fP_isStageOn (cs_u c 1 19 x1)) = 0) => ?_)
  · refine ab_go 2 [] (pc' := 30) (lo' := [some (.ref 8), some (.int x1)]) (st' := [.ref 14]) (h' := cs_H (cs_u c 1 19 x1) rest) ckS_makeTick rfl ?_
    rcases e1 : fT_goOn (cs_u c 1 19 x1) with _ | p1
    · exact ab_no hv (by simp only [fS_makeTick, if_neg h1, e1, ab_bd_n])
    refine ab_callV (bc2 := 0) (bs2 := 0) (as := []) (rest := []) ckS_makeTick rfl (by decide +kernel) wT_goOn (tT_goOn (d := d + 4) (c := (cs_u c 1 19 x1)) (v := p1) e1) rfl rfl (by omega) ⟨Nat.le_refl _, Nat.le_refl _⟩ (Nat.le_of_ble_eq_true rfl) ?_
    rintro _ _ ⟨rfl, rfl⟩
    refine ab_go 1 [] (pc' := 34) (lo' := [some (.ref 8), some (.int x1)]) (st' := [.ref 8]) (h' := cs_H p1 rest) ckS_makeTick rfl ?_
    rcases e2 : fS_beat p1 with _ | p2
    · exact ab_no hv (by simp only [fS_makeTick, if_neg h1, e1, ab_bd_s, e2, ab_bd_n])
    refine ab_callV (bc2 := 0) (bs2 := 0) (as := []) (rest := []) ckS_makeTick rfl (by decide +kernel) wS_beat (tS_beat (d := d + 3) (c := p1) (v := p2) e2) rfl rfl (by omega) ⟨Nat.le_refl _, Nat.le_refl _⟩ (Nat.le_of_ble_eq_true rfl) ?_
    rintro _ _ ⟨rfl, rfl⟩
    refine ab_go 3 [] (pc' := 42) (lo' := [some (.ref 8), some (.int x1)]) (st' := [.ref 8, .ref 21]) (h' := cs_H p2 rest) ckS_makeTick rfl ?_
    refine ab_callV (bc2 := 0) (bs2 := 0) (as := []) (rest := [_]) ckS_makeTick rfl (by decide +kernel) wS_watchTime (tS_watchTime (d := d + 4) (c := p2)) rfl rfl (by omega) ⟨Nat.le_refl _, Nat.le_refl _⟩ (Nat.le_of_ble_eq_true rfl) ?_
    rintro _ _ ⟨rfl, rfl⟩
    refine ab_callV (bc2 := 0) (bs2 := 0) (as := [_]) (rest := []) ckS_makeTick rfl (by decide +kernel) wH_runsOut (tH_runsOut (d := d + 3) (x1 := (fS_watchTime p2)) (c := p2)) rfl rfl (by omega) ⟨Nat.le_refl _, Nat.le_refl _⟩ (Nat.le_of_ble_eq_true rfl) ?_
    rintro _ _ ⟨rfl, rfl⟩
    generalize e3 : fH_runsOut p2 (fS_watchTime p2) = p3
    refine ab_if_eq ckS_makeTick rfl (fun (h2 : p3.1 = 0) => ?_) (fun (h2 : ¬ (p3.1 = 0)) => ?_)
    · refine ab_go 2 [] (pc' := 62) (lo' := [some (.ref 8), some (.int x1)]) (st' := [.ref 19]) (h' := cs_H p3.2 rest) ckS_makeTick rfl ?_
      refine ab_callV (bc2 := 0) (bs2 := 0) (as := []) (rest := []) ckS_makeTick rfl (by decide +kernel) wP_isEnabled (tP_isEnabled (d := d + 4) (c := p3.2)) rfl rfl (by omega) ⟨Nat.le_refl _, Nat.le_refl _⟩ (Nat.le_of_ble_eq_true rfl) ?_
      rintro _ _ ⟨rfl, rfl⟩
      refine ab_if_eq ckS_makeTick rfl (fun (h3 : (fP_isEnabled p3.2) = 0) => ?_) (fun (h3 : ¬ ((fP_isEnabled p3.2) = 0)) => ?_)
      · refine ab_go 1 [] (pc' := 98) (lo' := [some (.ref 8), some (.int x1)]) (st' := [.ref 8]) (h' := cs_H p3.2 rest) ckS_makeTick rfl ?_
        rcases e4 : fS_obeyControl p3.2 with _ | p4
        · exact ab_no hv (by simp only [fS_makeTick, if_neg h1, e1, ab_bd_s, e2, ab_bd_s, e3, if_pos h2, if_pos h3, e4, ab_bd_n])
        refine ab_callV (bc2 := 0) (bs2 := 0) (as := []) (rest := []) ckS_makeTick rfl (by decide +kernel) wS_obeyControl (tS_obeyControl (d := d + 1) (c := p3.2) (v := p4) e4) rfl rfl (by omega) ⟨Nat.le_refl _, Nat.le_refl _⟩ (Nat.le_of_ble_eq_true rfl) ?_
        rintro _ _ ⟨rfl, rfl⟩
        refine ab_go 2 [] (pc' := 103) (lo' := [some (.ref 8), some (.int x1)]) (st' := [.int x1, .ref 8]) (h' := cs_H p4 rest) ckS_makeTick rfl ?_
        rcases e5 : fS_move p4 x1 with _ | p5
        · exact ab_no hv (by simp only [fS_makeTick, if_neg h1, e1, ab_bd_s, e2, ab_bd_s, e3, if_pos h2, if_pos h3, e4, ab_bd_s, e5, ab_bd_n])
        refine ab_callV (bc2 := 0) (bs2 := 0) (as := [_]) (rest := []) ckS_makeTick rfl (by decide +kernel) wS_move (tS_move (d := d) (x1 := x1) (c := p4) (v := p5) e5) rfl rfl (by omega) ⟨Nat.le_refl _, Nat.le_refl _⟩ (Nat.le_of_ble_eq_true rfl) ?_
        rintro _ _ ⟨rfl, rfl⟩
        refine ab_go 2 [] (pc' := 110) (lo' := [some (.ref 8), some (.int x1)]) (st' := [.ref 22]) (h' := cs_H p5 rest) ckS_makeTick rfl ?_
        refine ab_callV (bc2 := 0) (bs2 := 0) (as := []) (rest := []) ckS_makeTick rfl (by decide +kernel) wO_countTick (tO_countTick (d := d + 4) (c := p5)) rfl rfl (by omega) ⟨Nat.le_refl _, Nat.le_refl _⟩ (Nat.le_of_ble_eq_true rfl) ?_
        rintro _ _ ⟨rfl, rfl⟩
        generalize e6 : fO_countTick p5 = p6
        refine ab_go 1 [] (pc' := 114) (lo' := [some (.ref 8), some (.int x1)]) (st' := [.ref 8]) (h' := cs_H p6 rest) ckS_makeTick rfl ?_
        rcases e7 : fS_sendOutWhenDue p6 with _ | p7
        · exact ab_no hv (by simp only [fS_makeTick, if_neg h1, e1, ab_bd_s, e2, ab_bd_s, e3, if_pos h2, if_pos h3, e4, ab_bd_s, e5, ab_bd_s, e6, e7, ab_bd_n])
        refine ab_callV (bc2 := 0) (bs2 := 0) (as := []) (rest := []) ckS_makeTick rfl (by decide +kernel) wS_sendOutWhenDue (tS_sendOutWhenDue (d := d) (c := p6) hX (v := p7) e7) rfl rfl (by omega) ⟨Nat.le_refl _, Nat.le_refl _⟩ (Nat.le_of_ble_eq_true rfl) ?_
        rintro _ _ ⟨rfl, rfl⟩
        have e : fS_makeTick c x1 = some p7 := by simp only [fS_makeTick, if_neg h1, e1, ab_bd_s, e2, ab_bd_s, e3, if_pos h2, if_pos h3, e4, ab_bd_s, e5, ab_bd_s, e6, e7, ab_bd_s]
        obtain rfl := Option.some.inj (e.symm.trans hv)
        exact ab_vret ckS_makeTick rfl rfl ⟨rfl, rfl⟩
      · refine ab_go 3 [] (pc' := 73) (lo' := [some (.ref 8), some (.int x1)]) (st' := [.ref 20, .int x1]) (h' := cs_H p3.2 rest) ckS_makeTick rfl ?_
        refine ab_callV (bc2 := 0) (bs2 := 0) (as := []) (rest := [_]) ckS_makeTick rfl (by decide +kernel) wV_demanded (tV_demanded (d := d + 4) (c := p3.2)) rfl rfl (by omega) ⟨Nat.le_refl _, Nat.le_refl _⟩ (Nat.le_of_ble_eq_true rfl) ?_
        rintro _ _ ⟨rfl, rfl⟩
        refine ab_go 1 [] (pc' := 77) (lo' := [some (.ref 8), some (.int x1)]) (st' := [.int (x1 - (fV_demanded p3.2))]) (h' := cs_H p3.2 rest) ckS_makeTick rfl ?_
        refine ab_mabs ckS_makeTick rfl (by decide +kernel) (by omega) (Nat.le_of_ble_eq_true rfl) ?_
        refine ab_go 4 [] (pc' := 87) (lo' := [some (.ref 8), some (.int x1)]) (st' := [.int (p3.2.1 1 20), .int (i_abs (x1 - (fV_demanded p3.2)))]) (h' := cs_H p3.2 rest) ckS_makeTick rfl ?_
        refine ab_icmp_le ckS_makeTick rfl (fun (h4 : (i_abs (x1 - (fV_demanded p3.2))) ≤ (p3.2.1 1 20)) => ?_) (fun (h4 : ¬ ((i_abs (x1 - (fV_demanded p3.2))) ≤ (p3.2.1 1 20))) => ?_)
        · refine ab_go 1 [] (pc' := 98) (lo' := [some (.ref 8), some (.int x1)]) (st' := [.ref 8]) (h' := cs_H p3.2 rest) ckS_makeTick rfl ?_
          rcases e8 : fS_obeyControl p3.2 with _ | p8
          · exact ab_no hv (by simp only [fS_makeTick, if_neg h1, e1, ab_bd_s, e2, ab_bd_s, e3, if_pos h2, if_neg h3, if_pos h4, e8, ab_bd_n])
          refine ab_callV (bc2 := 0) (bs2 := 0) (as := []) (rest := []) ckS_makeTick rfl (by decide +kernel) wS_obeyControl (tS_obeyControl (d := d + 1) (c := p3.2) (v := p8) e8) rfl rfl (by omega) ⟨Nat.le_refl _, Nat.le_refl _⟩ (Nat.le_of_ble_eq_true rfl) ?_
          rintro _ _ ⟨rfl, rfl⟩
          refine ab_go 2 [] (pc' := 103) (lo' := [some (.ref 8), some (.int x1)]) (st' := [.int x1, .ref 8]) (h' := cs_H p8 rest) ckS_makeTick rfl ?_
          rcases e9 : fS_move p8 x1 with _ | p9
          · exact ab_no hv (by simp only [fS_makeTick, if_neg h1, e1, ab_bd_s, e2, ab_bd_s, e3, if_pos h2, if_neg h3, if_pos h4, e8, ab_bd_s, e9, ab_bd_n])
          refine ab_callV (bc2 := 0) (bs2 := 0) (as := [_]) (rest := []) ckS_makeTick rfl (by decide +kernel) wS_move (tS_move (d := d) (x1 := x1) (c := p8) (v := p9) e9) rfl rfl (by omega) ⟨Nat.le_refl _, Nat.le_refl _⟩ (Nat.le_of_ble_eq_true rfl) ?_
          rintro _ _ ⟨rfl, rfl⟩
          refine ab_go 2 [] (pc' := 110) (lo' := [some (.ref 8), some (.int x1)]) (st' := [.ref 22]) (h' := cs_H p9 rest) ckS_makeTick rfl ?_
          refine ab_callV (bc2 := 0) (bs2 := 0) (as := []) (rest := []) ckS_makeTick rfl (by decide +kernel) wO_countTick (tO_countTick (d := d + 4) (c := p9)) rfl rfl (by omega) ⟨Nat.le_refl _, Nat.le_refl _⟩ (Nat.le_of_ble_eq_true rfl) ?_
          rintro _ _ ⟨rfl, rfl⟩
          generalize e10 : fO_countTick p9 = p10
          refine ab_go 1 [] (pc' := 114) (lo' := [some (.ref 8), some (.int x1)]) (st' := [.ref 8]) (h' := cs_H p10 rest) ckS_makeTick rfl ?_
          rcases e11 : fS_sendOutWhenDue p10 with _ | p11
          · exact ab_no hv (by simp only [fS_makeTick, if_neg h1, e1, ab_bd_s, e2, ab_bd_s, e3, if_pos h2, if_neg h3, if_pos h4, e8, ab_bd_s, e9, ab_bd_s, e10, e11, ab_bd_n])
          refine ab_callV (bc2 := 0) (bs2 := 0) (as := []) (rest := []) ckS_makeTick rfl (by decide +kernel) wS_sendOutWhenDue (tS_sendOutWhenDue (d := d) (c := p10) hX (v := p11) e11) rfl rfl (by omega) ⟨Nat.le_refl _, Nat.le_refl _⟩ (Nat.le_of_ble_eq_true rfl) ?_
          rintro _ _ ⟨rfl, rfl⟩
          have e : fS_makeTick c x1 = some p11 := by simp only [fS_makeTick, if_neg h1, e1, ab_bd_s, e2, ab_bd_s, e3, if_pos h2, if_neg h3, if_pos h4, e8, ab_bd_s, e9, ab_bd_s, e10, e11, ab_bd_s]
          obtain rfl := Option.some.inj (e.symm.trans hv)
          exact ab_vret ckS_makeTick rfl rfl ⟨rfl, rfl⟩
        · refine ab_go 2 [] (pc' := 94) (lo' := [some (.ref 8), some (.int x1)]) (st' := [.int (34321 : Int32), .ref 8]) (h' := cs_H p3.2 rest) ckS_makeTick rfl ?_
          rcases e12 : fS_fault p3.2 (34321 : Int32) with _ | p12
          · exact ab_no hv (by simp only [fS_makeTick, if_neg h1, e1, ab_bd_s, e2, ab_bd_s, e3, if_pos h2, if_neg h3, if_neg h4, e12, ab_bd_n])
          refine ab_callV (bc2 := 0) (bs2 := 0) (as := [_]) (rest := []) ckS_makeTick rfl (by decide +kernel) wS_fault (tS_fault (d := d + 2) (x1 := (34321 : Int32)) (c := p3.2) (v := p12) e12) rfl rfl (by omega) ⟨Nat.le_refl _, Nat.le_refl _⟩ (Nat.le_of_ble_eq_true rfl) ?_
          rintro _ _ ⟨rfl, rfl⟩
          refine ab_go 1 [] (pc' := 98) (lo' := [some (.ref 8), some (.int x1)]) (st' := [.ref 8]) (h' := cs_H p12 rest) ckS_makeTick rfl ?_
          rcases e13 : fS_obeyControl p12 with _ | p13
          · exact ab_no hv (by simp only [fS_makeTick, if_neg h1, e1, ab_bd_s, e2, ab_bd_s, e3, if_pos h2, if_neg h3, if_neg h4, e12, ab_bd_s, e13, ab_bd_n])
          refine ab_callV (bc2 := 0) (bs2 := 0) (as := []) (rest := []) ckS_makeTick rfl (by decide +kernel) wS_obeyControl (tS_obeyControl (d := d + 1) (c := p12) (v := p13) e13) rfl rfl (by omega) ⟨Nat.le_refl _, Nat.le_refl _⟩ (Nat.le_of_ble_eq_true rfl) ?_
          rintro _ _ ⟨rfl, rfl⟩
          refine ab_go 2 [] (pc' := 103) (lo' := [some (.ref 8), some (.int x1)]) (st' := [.int x1, .ref 8]) (h' := cs_H p13 rest) ckS_makeTick rfl ?_
          rcases e14 : fS_move p13 x1 with _ | p14
          · exact ab_no hv (by simp only [fS_makeTick, if_neg h1, e1, ab_bd_s, e2, ab_bd_s, e3, if_pos h2, if_neg h3, if_neg h4, e12, ab_bd_s, e13, ab_bd_s, e14, ab_bd_n])
          refine ab_callV (bc2 := 0) (bs2 := 0) (as := [_]) (rest := []) ckS_makeTick rfl (by decide +kernel) wS_move (tS_move (d := d) (x1 := x1) (c := p13) (v := p14) e14) rfl rfl (by omega) ⟨Nat.le_refl _, Nat.le_refl _⟩ (Nat.le_of_ble_eq_true rfl) ?_
          rintro _ _ ⟨rfl, rfl⟩
          refine ab_go 2 [] (pc' := 110) (lo' := [some (.ref 8), some (.int x1)]) (st' := [.ref 22]) (h' := cs_H p14 rest) ckS_makeTick rfl ?_
          refine ab_callV (bc2 := 0) (bs2 := 0) (as := []) (rest := []) ckS_makeTick rfl (by decide +kernel) wO_countTick (tO_countTick (d := d + 4) (c := p14)) rfl rfl (by omega) ⟨Nat.le_refl _, Nat.le_refl _⟩ (Nat.le_of_ble_eq_true rfl) ?_
          rintro _ _ ⟨rfl, rfl⟩
          generalize e15 : fO_countTick p14 = p15
          refine ab_go 1 [] (pc' := 114) (lo' := [some (.ref 8), some (.int x1)]) (st' := [.ref 8]) (h' := cs_H p15 rest) ckS_makeTick rfl ?_
          rcases e16 : fS_sendOutWhenDue p15 with _ | p16
          · exact ab_no hv (by simp only [fS_makeTick, if_neg h1, e1, ab_bd_s, e2, ab_bd_s, e3, if_pos h2, if_neg h3, if_neg h4, e12, ab_bd_s, e13, ab_bd_s, e14, ab_bd_s, e15, e16, ab_bd_n])
          refine ab_callV (bc2 := 0) (bs2 := 0) (as := []) (rest := []) ckS_makeTick rfl (by decide +kernel) wS_sendOutWhenDue (tS_sendOutWhenDue (d := d) (c := p15) hX (v := p16) e16) rfl rfl (by omega) ⟨Nat.le_refl _, Nat.le_refl _⟩ (Nat.le_of_ble_eq_true rfl) ?_
          rintro _ _ ⟨rfl, rfl⟩
          have e : fS_makeTick c x1 = some p16 := by simp only [fS_makeTick, if_neg h1, e1, ab_bd_s, e2, ab_bd_s, e3, if_pos h2, if_neg h3, if_neg h4, e12, ab_bd_s, e13, ab_bd_s, e14, ab_bd_s, e15, e16, ab_bd_s]
          obtain rfl := Option.some.inj (e.symm.trans hv)
          exact ab_vret ckS_makeTick rfl rfl ⟨rfl, rfl⟩
    · refine ab_go 2 [] (pc' := 55) (lo' := [some (.ref 8), some (.int x1)]) (st' := [.int (33072 : Int32), .ref 8]) (h' := cs_H p3.2 rest) ckS_makeTick rfl ?_
      rcases e17 : fS_fault p3.2 (33072 : Int32) with _ | p17
      · exact ab_no hv (by simp only [fS_makeTick, if_neg h1, e1, ab_bd_s, e2, ab_bd_s, e3, if_neg h2, e17, ab_bd_n])
      refine ab_callV (bc2 := 0) (bs2 := 0) (as := [_]) (rest := []) ckS_makeTick rfl (by decide +kernel) wS_fault (tS_fault (d := d + 2) (x1 := (33072 : Int32)) (c := p3.2) (v := p17) e17) rfl rfl (by omega) ⟨Nat.le_refl _, Nat.le_refl _⟩ (Nat.le_of_ble_eq_true rfl) ?_
      rintro _ _ ⟨rfl, rfl⟩
      refine ab_go 2 [] (pc' := 62) (lo' := [some (.ref 8), some (.int x1)]) (st' := [.ref 19]) (h' := cs_H p17 rest) ckS_makeTick rfl ?_
      refine ab_callV (bc2 := 0) (bs2 := 0) (as := []) (rest := []) ckS_makeTick rfl (by decide +kernel) wP_isEnabled (tP_isEnabled (d := d + 4) (c := p17)) rfl rfl (by omega) ⟨Nat.le_refl _, Nat.le_refl _⟩ (Nat.le_of_ble_eq_true rfl) ?_
      rintro _ _ ⟨rfl, rfl⟩
      refine ab_if_eq ckS_makeTick rfl (fun (h5 : (fP_isEnabled p17) = 0) => ?_) (fun (h5 : ¬ ((fP_isEnabled p17) = 0)) => ?_)
      · refine ab_go 1 [] (pc' := 98) (lo' := [some (.ref 8), some (.int x1)]) (st' := [.ref 8]) (h' := cs_H p17 rest) ckS_makeTick rfl ?_
        rcases e18 : fS_obeyControl p17 with _ | p18
        · exact ab_no hv (by simp only [fS_makeTick, if_neg h1, e1, ab_bd_s, e2, ab_bd_s, e3, if_neg h2, e17, ab_bd_s, if_pos h5, e18, ab_bd_n])
        refine ab_callV (bc2 := 0) (bs2 := 0) (as := []) (rest := []) ckS_makeTick rfl (by decide +kernel) wS_obeyControl (tS_obeyControl (d := d + 1) (c := p17) (v := p18) e18) rfl rfl (by omega) ⟨Nat.le_refl _, Nat.le_refl _⟩ (Nat.le_of_ble_eq_true rfl) ?_
        rintro _ _ ⟨rfl, rfl⟩
        refine ab_go 2 [] (pc' := 103) (lo' := [some (.ref 8), some (.int x1)]) (st' := [.int x1, .ref 8]) (h' := cs_H p18 rest) ckS_makeTick rfl ?_
        rcases e19 : fS_move p18 x1 with _ | p19
        · exact ab_no hv (by simp only [fS_makeTick, if_neg h1, e1, ab_bd_s, e2, ab_bd_s, e3, if_neg h2, e17, ab_bd_s, if_pos h5, e18, ab_bd_s, e19, ab_bd_n])
        refine ab_callV (bc2 := 0) (bs2 := 0) (as := [_]) (rest := []) ckS_makeTick rfl (by decide +kernel) wS_move (tS_move (d := d) (x1 := x1) (c := p18) (v := p19) e19) rfl rfl (by omega) ⟨Nat.le_refl _, Nat.le_refl _⟩ (Nat.le_of_ble_eq_true rfl) ?_
        rintro _ _ ⟨rfl, rfl⟩
        refine ab_go 2 [] (pc' := 110) (lo' := [some (.ref 8), some (.int x1)]) (st' := [.ref 22]) (h' := cs_H p19 rest) ckS_makeTick rfl ?_
        refine ab_callV (bc2 := 0) (bs2 := 0) (as := []) (rest := []) ckS_makeTick rfl (by decide +kernel) wO_countTick (tO_countTick (d := d + 4) (c := p19)) rfl rfl (by omega) ⟨Nat.le_refl _, Nat.le_refl _⟩ (Nat.le_of_ble_eq_true rfl) ?_
        rintro _ _ ⟨rfl, rfl⟩
        generalize e20 : fO_countTick p19 = p20
        refine ab_go 1 [] (pc' := 114) (lo' := [some (.ref 8), some (.int x1)]) (st' := [.ref 8]) (h' := cs_H p20 rest) ckS_makeTick rfl ?_
        rcases e21 : fS_sendOutWhenDue p20 with _ | p21
        · exact ab_no hv (by simp only [fS_makeTick, if_neg h1, e1, ab_bd_s, e2, ab_bd_s, e3, if_neg h2, e17, ab_bd_s, if_pos h5, e18, ab_bd_s, e19, ab_bd_s, e20, e21, ab_bd_n])
        refine ab_callV (bc2 := 0) (bs2 := 0) (as := []) (rest := []) ckS_makeTick rfl (by decide +kernel) wS_sendOutWhenDue (tS_sendOutWhenDue (d := d) (c := p20) hX (v := p21) e21) rfl rfl (by omega) ⟨Nat.le_refl _, Nat.le_refl _⟩ (Nat.le_of_ble_eq_true rfl) ?_
        rintro _ _ ⟨rfl, rfl⟩
        have e : fS_makeTick c x1 = some p21 := by simp only [fS_makeTick, if_neg h1, e1, ab_bd_s, e2, ab_bd_s, e3, if_neg h2, e17, ab_bd_s, if_pos h5, e18, ab_bd_s, e19, ab_bd_s, e20, e21, ab_bd_s]
        obtain rfl := Option.some.inj (e.symm.trans hv)
        exact ab_vret ckS_makeTick rfl rfl ⟨rfl, rfl⟩
      · refine ab_go 3 [] (pc' := 73) (lo' := [some (.ref 8), some (.int x1)]) (st' := [.ref 20, .int x1]) (h' := cs_H p17 rest) ckS_makeTick rfl ?_
        refine ab_callV (bc2 := 0) (bs2 := 0) (as := []) (rest := [_]) ckS_makeTick rfl (by decide +kernel) wV_demanded (tV_demanded (d := d + 4) (c := p17)) rfl rfl (by omega) ⟨Nat.le_refl _, Nat.le_refl _⟩ (Nat.le_of_ble_eq_true rfl) ?_
        rintro _ _ ⟨rfl, rfl⟩
        refine ab_go 1 [] (pc' := 77) (lo' := [some (.ref 8), some (.int x1)]) (st' := [.int (x1 - (fV_demanded p17))]) (h' := cs_H p17 rest) ckS_makeTick rfl ?_
        refine ab_mabs ckS_makeTick rfl (by decide +kernel) (by omega) (Nat.le_of_ble_eq_true rfl) ?_
        refine ab_go 4 [] (pc' := 87) (lo' := [some (.ref 8), some (.int x1)]) (st' := [.int (p17.1 1 20), .int (i_abs (x1 - (fV_demanded p17)))]) (h' := cs_H p17 rest) ckS_makeTick rfl ?_
        refine ab_icmp_le ckS_makeTick rfl (fun (h6 : (i_abs (x1 - (fV_demanded p17))) ≤ (p17.1 1 20)) => ?_) (fun (h6 : ¬ ((i_abs (x1 - (fV_demanded p17))) ≤ (p17.1 1 20))) => ?_)
        · refine ab_go 1 [] (pc' := 98) (lo' := [some (.ref 8), some (.int x1)]) (st' := [.ref 8]) (h' := cs_H p17 rest) ckS_makeTick rfl ?_
          rcases e22 : fS_obeyControl p17 with _ | p22
          · exact ab_no hv (by simp only [fS_makeTick, if_neg h1, e1, ab_bd_s, e2, ab_bd_s, e3, if_neg h2, e17, ab_bd_s, if_neg h5, if_pos h6, e22, ab_bd_n])
          refine ab_callV (bc2 := 0) (bs2 := 0) (as := []) (rest := []) ckS_makeTick rfl (by decide +kernel) wS_obeyControl (tS_obeyControl (d := d + 1) (c := p17) (v := p22) e22) rfl rfl (by omega) ⟨Nat.le_refl _, Nat.le_refl _⟩ (Nat.le_of_ble_eq_true rfl) ?_
          rintro _ _ ⟨rfl, rfl⟩
          refine ab_go 2 [] (pc' := 103) (lo' := [some (.ref 8), some (.int x1)]) (st' := [.int x1, .ref 8]) (h' := cs_H p22 rest) ckS_makeTick rfl ?_
          rcases e23 : fS_move p22 x1 with _ | p23
          · exact ab_no hv (by simp only [fS_makeTick, if_neg h1, e1, ab_bd_s, e2, ab_bd_s, e3, if_neg h2, e17, ab_bd_s, if_neg h5, if_pos h6, e22, ab_bd_s, e23, ab_bd_n])
          refine ab_callV (bc2 := 0) (bs2 := 0) (as := [_]) (rest := []) ckS_makeTick rfl (by decide +kernel) wS_move (tS_move (d := d) (x1 := x1) (c := p22) (v := p23) e23) rfl rfl (by omega) ⟨Nat.le_refl _, Nat.le_refl _⟩ (Nat.le_of_ble_eq_true rfl) ?_
          rintro _ _ ⟨rfl, rfl⟩
          refine ab_go 2 [] (pc' := 110) (lo' := [some (.ref 8), some (.int x1)]) (st' := [.ref 22]) (h' := cs_H p23 rest) ckS_makeTick rfl ?_
          refine ab_callV (bc2 := 0) (bs2 := 0) (as := []) (rest := []) ckS_makeTick rfl (by decide +kernel) wO_countTick (tO_countTick (d := d + 4) (c := p23)) rfl rfl (by omega) ⟨Nat.le_refl _, Nat.le_refl _⟩ (Nat.le_of_ble_eq_true rfl) ?_
          rintro _ _ ⟨rfl, rfl⟩
          generalize e24 : fO_countTick p23 = p24
          refine ab_go 1 [] (pc' := 114) (lo' := [some (.ref 8), some (.int x1)]) (st' := [.ref 8]) (h' := cs_H p24 rest) ckS_makeTick rfl ?_
          rcases e25 : fS_sendOutWhenDue p24 with _ | p25
          · exact ab_no hv (by simp only [fS_makeTick, if_neg h1, e1, ab_bd_s, e2, ab_bd_s, e3, if_neg h2, e17, ab_bd_s, if_neg h5, if_pos h6, e22, ab_bd_s, e23, ab_bd_s, e24, e25, ab_bd_n])
          refine ab_callV (bc2 := 0) (bs2 := 0) (as := []) (rest := []) ckS_makeTick rfl (by decide +kernel) wS_sendOutWhenDue (tS_sendOutWhenDue (d := d) (c := p24) hX (v := p25) e25) rfl rfl (by omega) ⟨Nat.le_refl _, Nat.le_refl _⟩ (Nat.le_of_ble_eq_true rfl) ?_
          rintro _ _ ⟨rfl, rfl⟩
          have e : fS_makeTick c x1 = some p25 := by simp only [fS_makeTick, if_neg h1, e1, ab_bd_s, e2, ab_bd_s, e3, if_neg h2, e17, ab_bd_s, if_neg h5, if_pos h6, e22, ab_bd_s, e23, ab_bd_s, e24, e25, ab_bd_s]
          obtain rfl := Option.some.inj (e.symm.trans hv)
          exact ab_vret ckS_makeTick rfl rfl ⟨rfl, rfl⟩
        · refine ab_go 2 [] (pc' := 94) (lo' := [some (.ref 8), some (.int x1)]) (st' := [.int (34321 : Int32), .ref 8]) (h' := cs_H p17 rest) ckS_makeTick rfl ?_
          rcases e26 : fS_fault p17 (34321 : Int32) with _ | p26
          · exact ab_no hv (by simp only [fS_makeTick, if_neg h1, e1, ab_bd_s, e2, ab_bd_s, e3, if_neg h2, e17, ab_bd_s, if_neg h5, if_neg h6, e26, ab_bd_n])
          refine ab_callV (bc2 := 0) (bs2 := 0) (as := [_]) (rest := []) ckS_makeTick rfl (by decide +kernel) wS_fault (tS_fault (d := d + 2) (x1 := (34321 : Int32)) (c := p17) (v := p26) e26) rfl rfl (by omega) ⟨Nat.le_refl _, Nat.le_refl _⟩ (Nat.le_of_ble_eq_true rfl) ?_
          rintro _ _ ⟨rfl, rfl⟩
          refine ab_go 1 [] (pc' := 98) (lo' := [some (.ref 8), some (.int x1)]) (st' := [.ref 8]) (h' := cs_H p26 rest) ckS_makeTick rfl ?_
          rcases e27 : fS_obeyControl p26 with _ | p27
          · exact ab_no hv (by simp only [fS_makeTick, if_neg h1, e1, ab_bd_s, e2, ab_bd_s, e3, if_neg h2, e17, ab_bd_s, if_neg h5, if_neg h6, e26, ab_bd_s, e27, ab_bd_n])
          refine ab_callV (bc2 := 0) (bs2 := 0) (as := []) (rest := []) ckS_makeTick rfl (by decide +kernel) wS_obeyControl (tS_obeyControl (d := d + 1) (c := p26) (v := p27) e27) rfl rfl (by omega) ⟨Nat.le_refl _, Nat.le_refl _⟩ (Nat.le_of_ble_eq_true rfl) ?_
          rintro _ _ ⟨rfl, rfl⟩
          refine ab_go 2 [] (pc' := 103) (lo' := [some (.ref 8), some (.int x1)]) (st' := [.int x1, .ref 8]) (h' := cs_H p27 rest) ckS_makeTick rfl ?_
          rcases e28 : fS_move p27 x1 with _ | p28
          · exact ab_no hv (by simp only [fS_makeTick, if_neg h1, e1, ab_bd_s, e2, ab_bd_s, e3, if_neg h2, e17, ab_bd_s, if_neg h5, if_neg h6, e26, ab_bd_s, e27, ab_bd_s, e28, ab_bd_n])
          refine ab_callV (bc2 := 0) (bs2 := 0) (as := [_]) (rest := []) ckS_makeTick rfl (by decide +kernel) wS_move (tS_move (d := d) (x1 := x1) (c := p27) (v := p28) e28) rfl rfl (by omega) ⟨Nat.le_refl _, Nat.le_refl _⟩ (Nat.le_of_ble_eq_true rfl) ?_
          rintro _ _ ⟨rfl, rfl⟩
          refine ab_go 2 [] (pc' := 110) (lo' := [some (.ref 8), some (.int x1)]) (st' := [.ref 22]) (h' := cs_H p28 rest) ckS_makeTick rfl ?_
          refine ab_callV (bc2 := 0) (bs2 := 0) (as := []) (rest := []) ckS_makeTick rfl (by decide +kernel) wO_countTick (tO_countTick (d := d + 4) (c := p28)) rfl rfl (by omega) ⟨Nat.le_refl _, Nat.le_refl _⟩ (Nat.le_of_ble_eq_true rfl) ?_
          rintro _ _ ⟨rfl, rfl⟩
          generalize e29 : fO_countTick p28 = p29
          refine ab_go 1 [] (pc' := 114) (lo' := [some (.ref 8), some (.int x1)]) (st' := [.ref 8]) (h' := cs_H p29 rest) ckS_makeTick rfl ?_
          rcases e30 : fS_sendOutWhenDue p29 with _ | p30
          · exact ab_no hv (by simp only [fS_makeTick, if_neg h1, e1, ab_bd_s, e2, ab_bd_s, e3, if_neg h2, e17, ab_bd_s, if_neg h5, if_neg h6, e26, ab_bd_s, e27, ab_bd_s, e28, ab_bd_s, e29, e30, ab_bd_n])
          refine ab_callV (bc2 := 0) (bs2 := 0) (as := []) (rest := []) ckS_makeTick rfl (by decide +kernel) wS_sendOutWhenDue (tS_sendOutWhenDue (d := d) (c := p29) hX (v := p30) e30) rfl rfl (by omega) ⟨Nat.le_refl _, Nat.le_refl _⟩ (Nat.le_of_ble_eq_true rfl) ?_
          rintro _ _ ⟨rfl, rfl⟩
          have e : fS_makeTick c x1 = some p30 := by simp only [fS_makeTick, if_neg h1, e1, ab_bd_s, e2, ab_bd_s, e3, if_neg h2, e17, ab_bd_s, if_neg h5, if_neg h6, e26, ab_bd_s, e27, ab_bd_s, e28, ab_bd_s, e29, e30, ab_bd_s]
          obtain rfl := Option.some.inj (e.symm.trans hv)
          exact ab_vret ckS_makeTick rfl rfl ⟨rfl, rfl⟩
  · refine ab_go 3 [] (pc' := 23) (lo' := [some (.ref 8), some (.int x1)]) (st' := [.int x1, .ref 20]) (h' := cs_H (cs_u c 1 19 x1) rest) ckS_makeTick rfl ?_
    refine ab_callV (bc2 := 0) (bs2 := 0) (as := [_]) (rest := []) ckS_makeTick rfl (by decide +kernel) wV_rest (tV_rest (d := d + 4) (x1 := x1) (c := (cs_u c 1 19 x1))) rfl rfl (by omega) ⟨Nat.le_refl _, Nat.le_refl _⟩ (Nat.le_of_ble_eq_true rfl) ?_
    rintro _ _ ⟨rfl, rfl⟩
    generalize e31 : fV_rest (cs_u c 1 19 x1) x1 = p31
    refine ab_go 2 [] (pc' := 30) (lo' := [some (.ref 8), some (.int x1)]) (st' := [.ref 14]) (h' := cs_H p31 rest) ckS_makeTick rfl ?_
    rcases e32 : fT_goOn p31 with _ | p32
    · exact ab_no hv (by simp only [fS_makeTick, if_pos h1, e31, e32, ab_bd_n])
    refine ab_callV (bc2 := 0) (bs2 := 0) (as := []) (rest := []) ckS_makeTick rfl (by decide +kernel) wT_goOn (tT_goOn (d := d + 4) (c := p31) (v := p32) e32) rfl rfl (by omega) ⟨Nat.le_refl _, Nat.le_refl _⟩ (Nat.le_of_ble_eq_true rfl) ?_
    rintro _ _ ⟨rfl, rfl⟩
    refine ab_go 1 [] (pc' := 34) (lo' := [some (.ref 8), some (.int x1)]) (st' := [.ref 8]) (h' := cs_H p32 rest) ckS_makeTick rfl ?_
    rcases e33 : fS_beat p32 with _ | p33
    · exact ab_no hv (by simp only [fS_makeTick, if_pos h1, e31, e32, ab_bd_s, e33, ab_bd_n])
    refine ab_callV (bc2 := 0) (bs2 := 0) (as := []) (rest := []) ckS_makeTick rfl (by decide +kernel) wS_beat (tS_beat (d := d + 3) (c := p32) (v := p33) e33) rfl rfl (by omega) ⟨Nat.le_refl _, Nat.le_refl _⟩ (Nat.le_of_ble_eq_true rfl) ?_
    rintro _ _ ⟨rfl, rfl⟩
    refine ab_go 3 [] (pc' := 42) (lo' := [some (.ref 8), some (.int x1)]) (st' := [.ref 8, .ref 21]) (h' := cs_H p33 rest) ckS_makeTick rfl ?_
    refine ab_callV (bc2 := 0) (bs2 := 0) (as := []) (rest := [_]) ckS_makeTick rfl (by decide +kernel) wS_watchTime (tS_watchTime (d := d + 4) (c := p33)) rfl rfl (by omega) ⟨Nat.le_refl _, Nat.le_refl _⟩ (Nat.le_of_ble_eq_true rfl) ?_
    rintro _ _ ⟨rfl, rfl⟩
    refine ab_callV (bc2 := 0) (bs2 := 0) (as := [_]) (rest := []) ckS_makeTick rfl (by decide +kernel) wH_runsOut (tH_runsOut (d := d + 3) (x1 := (fS_watchTime p33)) (c := p33)) rfl rfl (by omega) ⟨Nat.le_refl _, Nat.le_refl _⟩ (Nat.le_of_ble_eq_true rfl) ?_
    rintro _ _ ⟨rfl, rfl⟩
    generalize e34 : fH_runsOut p33 (fS_watchTime p33) = p34
    refine ab_if_eq ckS_makeTick rfl (fun (h7 : p34.1 = 0) => ?_) (fun (h7 : ¬ (p34.1 = 0)) => ?_)
    · refine ab_go 2 [] (pc' := 62) (lo' := [some (.ref 8), some (.int x1)]) (st' := [.ref 19]) (h' := cs_H p34.2 rest) ckS_makeTick rfl ?_
      refine ab_callV (bc2 := 0) (bs2 := 0) (as := []) (rest := []) ckS_makeTick rfl (by decide +kernel) wP_isEnabled (tP_isEnabled (d := d + 4) (c := p34.2)) rfl rfl (by omega) ⟨Nat.le_refl _, Nat.le_refl _⟩ (Nat.le_of_ble_eq_true rfl) ?_
      rintro _ _ ⟨rfl, rfl⟩
      refine ab_if_eq ckS_makeTick rfl (fun (h8 : (fP_isEnabled p34.2) = 0) => ?_) (fun (h8 : ¬ ((fP_isEnabled p34.2) = 0)) => ?_)
      · refine ab_go 1 [] (pc' := 98) (lo' := [some (.ref 8), some (.int x1)]) (st' := [.ref 8]) (h' := cs_H p34.2 rest) ckS_makeTick rfl ?_
        rcases e35 : fS_obeyControl p34.2 with _ | p35
        · exact ab_no hv (by simp only [fS_makeTick, if_pos h1, e31, e32, ab_bd_s, e33, ab_bd_s, e34, if_pos h7, if_pos h8, e35, ab_bd_n])
        refine ab_callV (bc2 := 0) (bs2 := 0) (as := []) (rest := []) ckS_makeTick rfl (by decide +kernel) wS_obeyControl (tS_obeyControl (d := d + 1) (c := p34.2) (v := p35) e35) rfl rfl (by omega) ⟨Nat.le_refl _, Nat.le_refl _⟩ (Nat.le_of_ble_eq_true rfl) ?_
        rintro _ _ ⟨rfl, rfl⟩
        refine ab_go 2 [] (pc' := 103) (lo' := [some (.ref 8), some (.int x1)]) (st' := [.int x1, .ref 8]) (h' := cs_H p35 rest) ckS_makeTick rfl ?_
        rcases e36 : fS_move p35 x1 with _ | p36
        · exact ab_no hv (by simp only [fS_makeTick, if_pos h1, e31, e32, ab_bd_s, e33, ab_bd_s, e34, if_pos h7, if_pos h8, e35, ab_bd_s, e36, ab_bd_n])
        refine ab_callV (bc2 := 0) (bs2 := 0) (as := [_]) (rest := []) ckS_makeTick rfl (by decide +kernel) wS_move (tS_move (d := d) (x1 := x1) (c := p35) (v := p36) e36) rfl rfl (by omega) ⟨Nat.le_refl _, Nat.le_refl _⟩ (Nat.le_of_ble_eq_true rfl) ?_
        rintro _ _ ⟨rfl, rfl⟩
        refine ab_go 2 [] (pc' := 110) (lo' := [some (.ref 8), some (.int x1)]) (st' := [.ref 22]) (h' := cs_H p36 rest) ckS_makeTick rfl ?_
        refine ab_callV (bc2 := 0) (bs2 := 0) (as := []) (rest := []) ckS_makeTick rfl (by decide +kernel) wO_countTick (tO_countTick (d := d + 4) (c := p36)) rfl rfl (by omega) ⟨Nat.le_refl _, Nat.le_refl _⟩ (Nat.le_of_ble_eq_true rfl) ?_
        rintro _ _ ⟨rfl, rfl⟩
        generalize e37 : fO_countTick p36 = p37
        refine ab_go 1 [] (pc' := 114) (lo' := [some (.ref 8), some (.int x1)]) (st' := [.ref 8]) (h' := cs_H p37 rest) ckS_makeTick rfl ?_
        rcases e38 : fS_sendOutWhenDue p37 with _ | p38
        · exact ab_no hv (by simp only [fS_makeTick, if_pos h1, e31, e32, ab_bd_s, e33, ab_bd_s, e34, if_pos h7, if_pos h8, e35, ab_bd_s, e36, ab_bd_s, e37, e38, ab_bd_n])
        refine ab_callV (bc2 := 0) (bs2 := 0) (as := []) (rest := []) ckS_makeTick rfl (by decide +kernel) wS_sendOutWhenDue (tS_sendOutWhenDue (d := d) (c := p37) hX (v := p38) e38) rfl rfl (by omega) ⟨Nat.le_refl _, Nat.le_refl _⟩ (Nat.le_of_ble_eq_true rfl) ?_
        rintro _ _ ⟨rfl, rfl⟩
        have e : fS_makeTick c x1 = some p38 := by simp only [fS_makeTick, if_pos h1, e31, e32, ab_bd_s, e33, ab_bd_s, e34, if_pos h7, if_pos h8, e35, ab_bd_s, e36, ab_bd_s, e37, e38, ab_bd_s]
        obtain rfl := Option.some.inj (e.symm.trans hv)
        exact ab_vret ckS_makeTick rfl rfl ⟨rfl, rfl⟩
      · refine ab_go 3 [] (pc' := 73) (lo' := [some (.ref 8), some (.int x1)]) (st' := [.ref 20, .int x1]) (h' := cs_H p34.2 rest) ckS_makeTick rfl ?_
        refine ab_callV (bc2 := 0) (bs2 := 0) (as := []) (rest := [_]) ckS_makeTick rfl (by decide +kernel) wV_demanded (tV_demanded (d := d + 4) (c := p34.2)) rfl rfl (by omega) ⟨Nat.le_refl _, Nat.le_refl _⟩ (Nat.le_of_ble_eq_true rfl) ?_
        rintro _ _ ⟨rfl, rfl⟩
        refine ab_go 1 [] (pc' := 77) (lo' := [some (.ref 8), some (.int x1)]) (st' := [.int (x1 - (fV_demanded p34.2))]) (h' := cs_H p34.2 rest) ckS_makeTick rfl ?_
        refine ab_mabs ckS_makeTick rfl (by decide +kernel) (by omega) (Nat.le_of_ble_eq_true rfl) ?_
        refine ab_go 4 [] (pc' := 87) (lo' := [some (.ref 8), some (.int x1)]) (st' := [.int (p34.2.1 1 20), .int (i_abs (x1 - (fV_demanded p34.2)))]) (h' := cs_H p34.2 rest) ckS_makeTick rfl ?_
        refine ab_icmp_le ckS_makeTick rfl (fun (h9 : (i_abs (x1 - (fV_demanded p34.2))) ≤ (p34.2.1 1 20)) => ?_) (fun (h9 : ¬ ((i_abs (x1 - (fV_demanded p34.2))) ≤ (p34.2.1 1 20))) => ?_)
        · refine ab_go 1 [] (pc' := 98) (lo' := [some (.ref 8), some (.int x1)]) (st' := [.ref 8]) (h' := cs_H p34.2 rest) ckS_makeTick rfl ?_
          rcases e39 : fS_obeyControl p34.2 with _ | p39
          · exact ab_no hv (by simp only [fS_makeTick, if_pos h1, e31, e32, ab_bd_s, e33, ab_bd_s, e34, if_pos h7, if_neg h8, if_pos h9, e39, ab_bd_n])
          refine ab_callV (bc2 := 0) (bs2 := 0) (as := []) (rest := []) ckS_makeTick rfl (by decide +kernel) wS_obeyControl (tS_obeyControl (d := d + 1) (c := p34.2) (v := p39) e39) rfl rfl (by omega) ⟨Nat.le_refl _, Nat.le_refl _⟩ (Nat.le_of_ble_eq_true rfl) ?_
          rintro _ _ ⟨rfl, rfl⟩
          refine ab_go 2 [] (pc' := 103) (lo' := [some (.ref 8), some (.int x1)]) (st' := [.int x1, .ref 8]) (h' := cs_H p39 rest) ckS_makeTick rfl ?_
          rcases e40 : fS_move p39 x1 with _ | p40
          · exact ab_no hv (by simp only [fS_makeTick, if_pos h1, e31, e32, ab_bd_s, e33, ab_bd_s, e34, if_pos h7, if_neg h8, if_pos h9, e39, ab_bd_s, e40, ab_bd_n])
          refine ab_callV (bc2 := 0) (bs2 := 0) (as := [_]) (rest := []) ckS_makeTick rfl (by decide +kernel) wS_move (tS_move (d := d) (x1 := x1) (c := p39) (v := p40) e40) rfl rfl (by omega) ⟨Nat.le_refl _, Nat.le_refl _⟩ (Nat.le_of_ble_eq_true rfl) ?_
          rintro _ _ ⟨rfl, rfl⟩
          refine ab_go 2 [] (pc' := 110) (lo' := [some (.ref 8), some (.int x1)]) (st' := [.ref 22]) (h' := cs_H p40 rest) ckS_makeTick rfl ?_
          refine ab_callV (bc2 := 0) (bs2 := 0) (as := []) (rest := []) ckS_makeTick rfl (by decide +kernel) wO_countTick (tO_countTick (d := d + 4) (c := p40)) rfl rfl (by omega) ⟨Nat.le_refl _, Nat.le_refl _⟩ (Nat.le_of_ble_eq_true rfl) ?_
          rintro _ _ ⟨rfl, rfl⟩
          generalize e41 : fO_countTick p40 = p41
          refine ab_go 1 [] (pc' := 114) (lo' := [some (.ref 8), some (.int x1)]) (st' := [.ref 8]) (h' := cs_H p41 rest) ckS_makeTick rfl ?_
          rcases e42 : fS_sendOutWhenDue p41 with _ | p42
          · exact ab_no hv (by simp only [fS_makeTick, if_pos h1, e31, e32, ab_bd_s, e33, ab_bd_s, e34, if_pos h7, if_neg h8, if_pos h9, e39, ab_bd_s, e40, ab_bd_s, e41, e42, ab_bd_n])
          refine ab_callV (bc2 := 0) (bs2 := 0) (as := []) (rest := []) ckS_makeTick rfl (by decide +kernel) wS_sendOutWhenDue (tS_sendOutWhenDue (d := d) (c := p41) hX (v := p42) e42) rfl rfl (by omega) ⟨Nat.le_refl _, Nat.le_refl _⟩ (Nat.le_of_ble_eq_true rfl) ?_
          rintro _ _ ⟨rfl, rfl⟩
          have e : fS_makeTick c x1 = some p42 := by simp only [fS_makeTick, if_pos h1, e31, e32, ab_bd_s, e33, ab_bd_s, e34, if_pos h7, if_neg h8, if_pos h9, e39, ab_bd_s, e40, ab_bd_s, e41, e42, ab_bd_s]
          obtain rfl := Option.some.inj (e.symm.trans hv)
          exact ab_vret ckS_makeTick rfl rfl ⟨rfl, rfl⟩
        · refine ab_go 2 [] (pc' := 94) (lo' := [some (.ref 8), some (.int x1)]) (st' := [.int (34321 : Int32), .ref 8]) (h' := cs_H p34.2 rest) ckS_makeTick rfl ?_
          rcases e43 : fS_fault p34.2 (34321 : Int32) with _ | p43
          · exact ab_no hv (by simp only [fS_makeTick, if_pos h1, e31, e32, ab_bd_s, e33, ab_bd_s, e34, if_pos h7, if_neg h8, if_neg h9, e43, ab_bd_n])
          refine ab_callV (bc2 := 0) (bs2 := 0) (as := [_]) (rest := []) ckS_makeTick rfl (by decide +kernel) wS_fault (tS_fault (d := d + 2) (x1 := (34321 : Int32)) (c := p34.2) (v := p43) e43) rfl rfl (by omega) ⟨Nat.le_refl _, Nat.le_refl _⟩ (Nat.le_of_ble_eq_true rfl) ?_
          rintro _ _ ⟨rfl, rfl⟩
          refine ab_go 1 [] (pc' := 98) (lo' := [some (.ref 8), some (.int x1)]) (st' := [.ref 8]) (h' := cs_H p43 rest) ckS_makeTick rfl ?_
          rcases e44 : fS_obeyControl p43 with _ | p44
          · exact ab_no hv (by simp only [fS_makeTick, if_pos h1, e31, e32, ab_bd_s, e33, ab_bd_s, e34, if_pos h7, if_neg h8, if_neg h9, e43, ab_bd_s, e44, ab_bd_n])
          refine ab_callV (bc2 := 0) (bs2 := 0) (as := []) (rest := []) ckS_makeTick rfl (by decide +kernel) wS_obeyControl (tS_obeyControl (d := d + 1) (c := p43) (v := p44) e44) rfl rfl (by omega) ⟨Nat.le_refl _, Nat.le_refl _⟩ (Nat.le_of_ble_eq_true rfl) ?_
          rintro _ _ ⟨rfl, rfl⟩
          refine ab_go 2 [] (pc' := 103) (lo' := [some (.ref 8), some (.int x1)]) (st' := [.int x1, .ref 8]) (h' := cs_H p44 rest) ckS_makeTick rfl ?_
          rcases e45 : fS_move p44 x1 with _ | p45
          · exact ab_no hv (by simp only [fS_makeTick, if_pos h1, e31, e32, ab_bd_s, e33, ab_bd_s, e34, if_pos h7, if_neg h8, if_neg h9, e43, ab_bd_s, e44, ab_bd_s, e45, ab_bd_n])
          refine ab_callV (bc2 := 0) (bs2 := 0) (as := [_]) (rest := []) ckS_makeTick rfl (by decide +kernel) wS_move (tS_move (d := d) (x1 := x1) (c := p44) (v := p45) e45) rfl rfl (by omega) ⟨Nat.le_refl _, Nat.le_refl _⟩ (Nat.le_of_ble_eq_true rfl) ?_
          rintro _ _ ⟨rfl, rfl⟩
          refine ab_go 2 [] (pc' := 110) (lo' := [some (.ref 8), some (.int x1)]) (st' := [.ref 22]) (h' := cs_H p45 rest) ckS_makeTick rfl ?_
          refine ab_callV (bc2 := 0) (bs2 := 0) (as := []) (rest := []) ckS_makeTick rfl (by decide +kernel) wO_countTick (tO_countTick (d := d + 4) (c := p45)) rfl rfl (by omega) ⟨Nat.le_refl _, Nat.le_refl _⟩ (Nat.le_of_ble_eq_true rfl) ?_
          rintro _ _ ⟨rfl, rfl⟩
          generalize e46 : fO_countTick p45 = p46
          refine ab_go 1 [] (pc' := 114) (lo' := [some (.ref 8), some (.int x1)]) (st' := [.ref 8]) (h' := cs_H p46 rest) ckS_makeTick rfl ?_
          rcases e47 : fS_sendOutWhenDue p46 with _ | p47
          · exact ab_no hv (by simp only [fS_makeTick, if_pos h1, e31, e32, ab_bd_s, e33, ab_bd_s, e34, if_pos h7, if_neg h8, if_neg h9, e43, ab_bd_s, e44, ab_bd_s, e45, ab_bd_s, e46, e47, ab_bd_n])
          refine ab_callV (bc2 := 0) (bs2 := 0) (as := []) (rest := []) ckS_makeTick rfl (by decide +kernel) wS_sendOutWhenDue (tS_sendOutWhenDue (d := d) (c := p46) hX (v := p47) e47) rfl rfl (by omega) ⟨Nat.le_refl _, Nat.le_refl _⟩ (Nat.le_of_ble_eq_true rfl) ?_
          rintro _ _ ⟨rfl, rfl⟩
          have e : fS_makeTick c x1 = some p47 := by simp only [fS_makeTick, if_pos h1, e31, e32, ab_bd_s, e33, ab_bd_s, e34, if_pos h7, if_neg h8, if_neg h9, e43, ab_bd_s, e44, ab_bd_s, e45, ab_bd_s, e46, e47, ab_bd_s]
          obtain rfl := Option.some.inj (e.symm.trans hv)
          exact ab_vret ckS_makeTick rfl rfl ⟨rfl, rfl⟩
    · refine ab_go 2 [] (pc' := 55) (lo' := [some (.ref 8), some (.int x1)]) (st' := [.int (33072 : Int32), .ref 8]) (h' := cs_H p34.2 rest) ckS_makeTick rfl ?_
      rcases e48 : fS_fault p34.2 (33072 : Int32) with _ | p48
      · exact ab_no hv (by simp only [fS_makeTick, if_pos h1, e31, e32, ab_bd_s, e33, ab_bd_s, e34, if_neg h7, e48, ab_bd_n])
      refine ab_callV (bc2 := 0) (bs2 := 0) (as := [_]) (rest := []) ckS_makeTick rfl (by decide +kernel) wS_fault (tS_fault (d := d + 2) (x1 := (33072 : Int32)) (c := p34.2) (v := p48) e48) rfl rfl (by omega) ⟨Nat.le_refl _, Nat.le_refl _⟩ (Nat.le_of_ble_eq_true rfl) ?_
      rintro _ _ ⟨rfl, rfl⟩
      refine ab_go 2 [] (pc' := 62) (lo' := [some (.ref 8), some (.int x1)]) (st' := [.ref 19]) (h' := cs_H p48 rest) ckS_makeTick rfl ?_
      refine ab_callV (bc2 := 0) (bs2 := 0) (as := []) (rest := []) ckS_makeTick rfl (by decide +kernel) wP_isEnabled (tP_isEnabled (d := d + 4) (c := p48)) rfl rfl (by omega) ⟨Nat.le_refl _, Nat.le_refl _⟩ (Nat.le_of_ble_eq_true rfl) ?_
      rintro _ _ ⟨rfl, rfl⟩
      refine ab_if_eq ckS_makeTick rfl (fun (h10 : (fP_isEnabled p48) = 0) => ?_) (fun (h10 : ¬ ((fP_isEnabled p48) = 0)) => ?_)
      · refine ab_go 1 [] (pc' := 98) (lo' := [some (.ref 8), some (.int x1)]) (st' := [.ref 8]) (h' := cs_H p48 rest) ckS_makeTick rfl ?_
        rcases e49 : fS_obeyControl p48 with _ | p49
        · exact ab_no hv (by simp only [fS_makeTick, if_pos h1, e31, e32, ab_bd_s, e33, ab_bd_s, e34, if_neg h7, e48, ab_bd_s, if_pos h10, e49, ab_bd_n])
        refine ab_callV (bc2 := 0) (bs2 := 0) (as := []) (rest := []) ckS_makeTick rfl (by decide +kernel) wS_obeyControl (tS_obeyControl (d := d + 1) (c := p48) (v := p49) e49) rfl rfl (by omega) ⟨Nat.le_refl _, Nat.le_refl _⟩ (Nat.le_of_ble_eq_true rfl) ?_
        rintro _ _ ⟨rfl, rfl⟩
        refine ab_go 2 [] (pc' := 103) (lo' := [some (.ref 8), some (.int x1)]) (st' := [.int x1, .ref 8]) (h' := cs_H p49 rest) ckS_makeTick rfl ?_
        rcases e50 : fS_move p49 x1 with _ | p50
        · exact ab_no hv (by simp only [fS_makeTick, if_pos h1, e31, e32, ab_bd_s, e33, ab_bd_s, e34, if_neg h7, e48, ab_bd_s, if_pos h10, e49, ab_bd_s, e50, ab_bd_n])
        refine ab_callV (bc2 := 0) (bs2 := 0) (as := [_]) (rest := []) ckS_makeTick rfl (by decide +kernel) wS_move (tS_move (d := d) (x1 := x1) (c := p49) (v := p50) e50) rfl rfl (by omega) ⟨Nat.le_refl _, Nat.le_refl _⟩ (Nat.le_of_ble_eq_true rfl) ?_
        rintro _ _ ⟨rfl, rfl⟩
        refine ab_go 2 [] (pc' := 110) (lo' := [some (.ref 8), some (.int x1)]) (st' := [.ref 22]) (h' := cs_H p50 rest) ckS_makeTick rfl ?_
        refine ab_callV (bc2 := 0) (bs2 := 0) (as := []) (rest := []) ckS_makeTick rfl (by decide +kernel) wO_countTick (tO_countTick (d := d + 4) (c := p50)) rfl rfl (by omega) ⟨Nat.le_refl _, Nat.le_refl _⟩ (Nat.le_of_ble_eq_true rfl) ?_
        rintro _ _ ⟨rfl, rfl⟩
        generalize e51 : fO_countTick p50 = p51
        refine ab_go 1 [] (pc' := 114) (lo' := [some (.ref 8), some (.int x1)]) (st' := [.ref 8]) (h' := cs_H p51 rest) ckS_makeTick rfl ?_
        rcases e52 : fS_sendOutWhenDue p51 with _ | p52
        · exact ab_no hv (by simp only [fS_makeTick, if_pos h1, e31, e32, ab_bd_s, e33, ab_bd_s, e34, if_neg h7, e48, ab_bd_s, if_pos h10, e49, ab_bd_s, e50, ab_bd_s, e51, e52, ab_bd_n])
        refine ab_callV (bc2 := 0) (bs2 := 0) (as := []) (rest := []) ckS_makeTick rfl (by decide +kernel) wS_sendOutWhenDue (tS_sendOutWhenDue (d := d) (c := p51) hX (v := p52) e52) rfl rfl (by omega) ⟨Nat.le_refl _, Nat.le_refl _⟩ (Nat.le_of_ble_eq_true rfl) ?_
        rintro _ _ ⟨rfl, rfl⟩
        have e : fS_makeTick c x1 = some p52 := by simp only [fS_makeTick, if_pos h1, e31, e32, ab_bd_s, e33, ab_bd_s, e34, if_neg h7, e48, ab_bd_s, if_pos h10, e49, ab_bd_s, e50, ab_bd_s, e51, e52, ab_bd_s]
        obtain rfl := Option.some.inj (e.symm.trans hv)
        exact ab_vret ckS_makeTick rfl rfl ⟨rfl, rfl⟩
      · refine ab_go 3 [] (pc' := 73) (lo' := [some (.ref 8), some (.int x1)]) (st' := [.ref 20, .int x1]) (h' := cs_H p48 rest) ckS_makeTick rfl ?_
        refine ab_callV (bc2 := 0) (bs2 := 0) (as := []) (rest := [_]) ckS_makeTick rfl (by decide +kernel) wV_demanded (tV_demanded (d := d + 4) (c := p48)) rfl rfl (by omega) ⟨Nat.le_refl _, Nat.le_refl _⟩ (Nat.le_of_ble_eq_true rfl) ?_
        rintro _ _ ⟨rfl, rfl⟩
        refine ab_go 1 [] (pc' := 77) (lo' := [some (.ref 8), some (.int x1)]) (st' := [.int (x1 - (fV_demanded p48))]) (h' := cs_H p48 rest) ckS_makeTick rfl ?_
        refine ab_mabs ckS_makeTick rfl (by decide +kernel) (by omega) (Nat.le_of_ble_eq_true rfl) ?_
        refine ab_go 4 [] (pc' := 87) (lo' := [some (.ref 8), some (.int x1)]) (st' := [.int (p48.1 1 20), .int (i_abs (x1 - (fV_demanded p48)))]) (h' := cs_H p48 rest) ckS_makeTick rfl ?_
        refine ab_icmp_le ckS_makeTick rfl (fun (h11 : (i_abs (x1 - (fV_demanded p48))) ≤ (p48.1 1 20)) => ?_) (fun (h11 : ¬ ((i_abs (x1 - (fV_demanded p48))) ≤ (p48.1 1 20))) => ?_)
        · refine ab_go 1 [] (pc' := 98) (lo' := [some (.ref 8), some (.int x1)]) (st' := [.ref 8]) (h' := cs_H p48 rest) ckS_makeTick rfl ?_
          rcases e53 : fS_obeyControl p48 with _ | p53
          · exact ab_no hv (by simp only [fS_makeTick, if_pos h1, e31, e32, ab_bd_s, e33, ab_bd_s, e34, if_neg h7, e48, ab_bd_s, if_neg h10, if_pos h11, e53, ab_bd_n])
          refine ab_callV (bc2 := 0) (bs2 := 0) (as := []) (rest := []) ckS_makeTick rfl (by decide +kernel) wS_obeyControl (tS_obeyControl (d := d + 1) (c := p48) (v := p53) e53) rfl rfl (by omega) ⟨Nat.le_refl _, Nat.le_refl _⟩ (Nat.le_of_ble_eq_true rfl) ?_
          rintro _ _ ⟨rfl, rfl⟩
          refine ab_go 2 [] (pc' := 103) (lo' := [some (.ref 8), some (.int x1)]) (st' := [.int x1, .ref 8]) (h' := cs_H p53 rest) ckS_makeTick rfl ?_
          rcases e54 : fS_move p53 x1 with _ | p54
          · exact ab_no hv (by simp only [fS_makeTick, if_pos h1, e31, e32, ab_bd_s, e33, ab_bd_s, e34, if_neg h7, e48, ab_bd_s, if_neg h10, if_pos h11, e53, ab_bd_s, e54, ab_bd_n])
          refine ab_callV (bc2 := 0) (bs2 := 0) (as := [_]) (rest := []) ckS_makeTick rfl (by decide +kernel) wS_move (tS_move (d := d) (x1 := x1) (c := p53) (v := p54) e54) rfl rfl (by omega) ⟨Nat.le_refl _, Nat.le_refl _⟩ (Nat.le_of_ble_eq_true rfl) ?_
          rintro _ _ ⟨rfl, rfl⟩
          refine ab_go 2 [] (pc' := 110) (lo' := [some (.ref 8), some (.int x1)]) (st' := [.ref 22]) (h' := cs_H p54 rest) ckS_makeTick rfl ?_
          refine ab_callV (bc2 := 0) (bs2 := 0) (as := []) (rest := []) ckS_makeTick rfl (by decide +kernel) wO_countTick (tO_countTick (d := d + 4) (c := p54)) rfl rfl (by omega) ⟨Nat.le_refl _, Nat.le_refl _⟩ (Nat.le_of_ble_eq_true rfl) ?_
          rintro _ _ ⟨rfl, rfl⟩
          generalize e55 : fO_countTick p54 = p55
          refine ab_go 1 [] (pc' := 114) (lo' := [some (.ref 8), some (.int x1)]) (st' := [.ref 8]) (h' := cs_H p55 rest) ckS_makeTick rfl ?_
          rcases e56 : fS_sendOutWhenDue p55 with _ | p56
          · exact ab_no hv (by simp only [fS_makeTick, if_pos h1, e31, e32, ab_bd_s, e33, ab_bd_s, e34, if_neg h7, e48, ab_bd_s, if_neg h10, if_pos h11, e53, ab_bd_s, e54, ab_bd_s, e55, e56, ab_bd_n])
          refine ab_callV (bc2 := 0) (bs2 := 0) (as := []) (rest := []) ckS_makeTick rfl (by decide +kernel) wS_sendOutWhenDue (tS_sendOutWhenDue (d := d) (c := p55) hX (v := p56) e56) rfl rfl (by omega) ⟨Nat.le_refl _, Nat.le_refl _⟩ (Nat.le_of_ble_eq_true rfl) ?_
          rintro _ _ ⟨rfl, rfl⟩
          have e : fS_makeTick c x1 = some p56 := by simp only [fS_makeTick, if_pos h1, e31, e32, ab_bd_s, e33, ab_bd_s, e34, if_neg h7, e48, ab_bd_s, if_neg h10, if_pos h11, e53, ab_bd_s, e54, ab_bd_s, e55, e56, ab_bd_s]
          obtain rfl := Option.some.inj (e.symm.trans hv)
          exact ab_vret ckS_makeTick rfl rfl ⟨rfl, rfl⟩
        · refine ab_go 2 [] (pc' := 94) (lo' := [some (.ref 8), some (.int x1)]) (st' := [.int (34321 : Int32), .ref 8]) (h' := cs_H p48 rest) ckS_makeTick rfl ?_
          rcases e57 : fS_fault p48 (34321 : Int32) with _ | p57
          · exact ab_no hv (by simp only [fS_makeTick, if_pos h1, e31, e32, ab_bd_s, e33, ab_bd_s, e34, if_neg h7, e48, ab_bd_s, if_neg h10, if_neg h11, e57, ab_bd_n])
          refine ab_callV (bc2 := 0) (bs2 := 0) (as := [_]) (rest := []) ckS_makeTick rfl (by decide +kernel) wS_fault (tS_fault (d := d + 2) (x1 := (34321 : Int32)) (c := p48) (v := p57) e57) rfl rfl (by omega) ⟨Nat.le_refl _, Nat.le_refl _⟩ (Nat.le_of_ble_eq_true rfl) ?_
          rintro _ _ ⟨rfl, rfl⟩
          refine ab_go 1 [] (pc' := 98) (lo' := [some (.ref 8), some (.int x1)]) (st' := [.ref 8]) (h' := cs_H p57 rest) ckS_makeTick rfl ?_
          rcases e58 : fS_obeyControl p57 with _ | p58
          · exact ab_no hv (by simp only [fS_makeTick, if_pos h1, e31, e32, ab_bd_s, e33, ab_bd_s, e34, if_neg h7, e48, ab_bd_s, if_neg h10, if_neg h11, e57, ab_bd_s, e58, ab_bd_n])
          refine ab_callV (bc2 := 0) (bs2 := 0) (as := []) (rest := []) ckS_makeTick rfl (by decide +kernel) wS_obeyControl (tS_obeyControl (d := d + 1) (c := p57) (v := p58) e58) rfl rfl (by omega) ⟨Nat.le_refl _, Nat.le_refl _⟩ (Nat.le_of_ble_eq_true rfl) ?_
          rintro _ _ ⟨rfl, rfl⟩
          refine ab_go 2 [] (pc' := 103) (lo' := [some (.ref 8), some (.int x1)]) (st' := [.int x1, .ref 8]) (h' := cs_H p58 rest) ckS_makeTick rfl ?_
          rcases e59 : fS_move p58 x1 with _ | p59
          · exact ab_no hv (by simp only [fS_makeTick, if_pos h1, e31, e32, ab_bd_s, e33, ab_bd_s, e34, if_neg h7, e48, ab_bd_s, if_neg h10, if_neg h11, e57, ab_bd_s, e58, ab_bd_s, e59, ab_bd_n])
          refine ab_callV (bc2 := 0) (bs2 := 0) (as := [_]) (rest := []) ckS_makeTick rfl (by decide +kernel) wS_move (tS_move (d := d) (x1 := x1) (c := p58) (v := p59) e59) rfl rfl (by omega) ⟨Nat.le_refl _, Nat.le_refl _⟩ (Nat.le_of_ble_eq_true rfl) ?_
          rintro _ _ ⟨rfl, rfl⟩
          refine ab_go 2 [] (pc' := 110) (lo' := [some (.ref 8), some (.int x1)]) (st' := [.ref 22]) (h' := cs_H p59 rest) ckS_makeTick rfl ?_
          refine ab_callV (bc2 := 0) (bs2 := 0) (as := []) (rest := []) ckS_makeTick rfl (by decide +kernel) wO_countTick (tO_countTick (d := d + 4) (c := p59)) rfl rfl (by omega) ⟨Nat.le_refl _, Nat.le_refl _⟩ (Nat.le_of_ble_eq_true rfl) ?_
          rintro _ _ ⟨rfl, rfl⟩
          generalize e60 : fO_countTick p59 = p60
          refine ab_go 1 [] (pc' := 114) (lo' := [some (.ref 8), some (.int x1)]) (st' := [.ref 8]) (h' := cs_H p60 rest) ckS_makeTick rfl ?_
          rcases e61 : fS_sendOutWhenDue p60 with _ | p61
          · exact ab_no hv (by simp only [fS_makeTick, if_pos h1, e31, e32, ab_bd_s, e33, ab_bd_s, e34, if_neg h7, e48, ab_bd_s, if_neg h10, if_neg h11, e57, ab_bd_s, e58, ab_bd_s, e59, ab_bd_s, e60, e61, ab_bd_n])
          refine ab_callV (bc2 := 0) (bs2 := 0) (as := []) (rest := []) ckS_makeTick rfl (by decide +kernel) wS_sendOutWhenDue (tS_sendOutWhenDue (d := d) (c := p60) hX (v := p61) e61) rfl rfl (by omega) ⟨Nat.le_refl _, Nat.le_refl _⟩ (Nat.le_of_ble_eq_true rfl) ?_
          rintro _ _ ⟨rfl, rfl⟩
          have e : fS_makeTick c x1 = some p61 := by simp only [fS_makeTick, if_pos h1, e31, e32, ab_bd_s, e33, ab_bd_s, e34, if_neg h7, e48, ab_bd_s, if_neg h10, if_neg h11, e57, ab_bd_s, e58, ab_bd_s, e59, ab_bd_s, e60, e61, ab_bd_s]
          obtain rfl := Option.some.inj (e.symm.trans hv)
          exact ab_vret ckS_makeTick rfl rfl ⟨rfl, rfl⟩
def fS_write (c : cs_S) (x1 : Int32) (x2 : Int32) : Option (cs_S) := (if x1 = (1 : Int32) then (ab_bd (fT_beginSave c) (fun p1 => (some p1))) else (if x1 = (2 : Int32) then (ab_bd (fT_beginRestore c) (fun p2 => (some p2))) else (if x1 = (3 : Int32) then (let p3 := fH_disarm c; (if ab_inb x1 30 = true then (some (cs_u p3 1 (x1).toNatClampNeg x2)) else none)) else (if x1 = (4 : Int32) then (if ab_inb x1 30 = true then (some (cs_u (cs_u c 0 2 (0 : Int32)) 1 (x1).toNatClampNeg x2)) else none) else (if x1 = (5 : Int32) then (if ab_inb x1 30 = true then (some (cs_u c 1 (x1).toNatClampNeg x2)) else none) else (if x1 = (6 : Int32) then (if ab_inb x1 30 = true then (some (cs_u c 1 (x1).toNatClampNeg x2)) else none) else (if x1 = (7 : Int32) then (if ab_inb x1 30 = true then (some (cs_u c 1 (x1).toNatClampNeg x2)) else none) else (if x1 = (8 : Int32) then (if ab_inb x1 30 = true then (some (cs_u c 1 (x1).toNatClampNeg x2)) else none) else (if x1 = (9 : Int32) then (let p4 := fO_forgetSyncs c; (if ab_inb x1 30 = true then (some (cs_u p4 1 (x1).toNatClampNeg x2)) else none)) else (if ab_inb x1 30 = true then (some (cs_u c 1 (x1).toNatClampNeg x2)) else none))))))))))
theorem tS_write {x1 : Int32} {x2 : Int32} (hX : cs_X X) {v : cs_S} (hv : fS_write c x1 x2 = some v) : ab_M X mS_write (d + 2) 0 0 [.ref 8, .int x1, .int x2] (cs_H c rest) (fun r9 h9 => r9 = none ∧ h9 = cs_H v rest) := by
  refine ab_entry (by decide) (Nat.le_of_ble_eq_true rfl) ?_
  refine ab_go 1 [] (pc' := 1) (lo' := [some (.ref 8), some (.int x1), some (.int x2)]) (st' := [.int x1]) (h' := cs_H c rest) ckS_write rfl ?_
  by_cases h1 : x1 = (1 : Int32)
  · refine ab_tswI (tgt := 52) (off := 51) ckS_write rfl h1 (by decide) (by decide) rfl (by decide) ?_
    refine ab_go 4 [] (pc' := 60) (lo' := [some (.ref 8), some (.int x1), some (.int x2)]) (st' := [.ref 9, .ref 14]) (h' := cs_H c rest) ckS_write rfl ?_
    rcases e1 : fT_beginSave c with _ | p1
    · exact ab_no hv (by simp only [fS_write, if_pos h1, e1, ab_bd_n])
    refine ab_callV (bc2 := 0) (bs2 := 0) (as := [_]) (rest := []) ckS_write rfl (by decide +kernel) wT_beginSave (tT_beginSave (d := d) (c := c) hX (v := p1) e1) rfl rfl (by omega) ⟨Nat.le_refl _, Nat.le_refl _⟩ (Nat.le_of_ble_eq_true rfl) ?_
    rintro _ _ ⟨rfl, rfl⟩
    have e : fS_write c x1 x2 = some p1 := by simp only [fS_write, if_pos h1, e1, ab_bd_s]
    obtain rfl := Option.some.inj (e.symm.trans hv)
    exact ab_vret ckS_write rfl rfl ⟨rfl, rfl⟩
  by_cases h2 : x1 = (2 : Int32)
  · refine ab_tswI (tgt := 64) (off := 63) ckS_write rfl h2 (by decide) (by decide) rfl (by decide) ?_
    refine ab_go 2 [] (pc' := 68) (lo' := [some (.ref 8), some (.int x1), some (.int x2)]) (st' := [.ref 14]) (h' := cs_H c rest) ckS_write rfl ?_
    rcases e2 : fT_beginRestore c with _ | p2
    · exact ab_no hv (by simp only [fS_write, if_neg h1, if_pos h2, e2, ab_bd_n])
    refine ab_callV (bc2 := 0) (bs2 := 0) (as := []) (rest := []) ckS_write rfl (by decide +kernel) wT_beginRestore (tT_beginRestore (d := d) (c := c) hX (v := p2) e2) rfl rfl (by omega) ⟨Nat.le_refl _, Nat.le_refl _⟩ (Nat.le_of_ble_eq_true rfl) ?_
    rintro _ _ ⟨rfl, rfl⟩
    have e : fS_write c x1 x2 = some p2 := by simp only [fS_write, if_neg h1, if_pos h2, e2, ab_bd_s]
    obtain rfl := Option.some.inj (e.symm.trans hv)
    exact ab_vret ckS_write rfl rfl ⟨rfl, rfl⟩
  by_cases h3 : x1 = (3 : Int32)
  · refine ab_tswI (tgt := 72) (off := 71) ckS_write rfl h3 (by decide) (by decide) rfl (by decide) ?_
    refine ab_go 2 [] (pc' := 76) (lo' := [some (.ref 8), some (.int x1), some (.int x2)]) (st' := [.ref 21]) (h' := cs_H c rest) ckS_write rfl ?_
    refine ab_callV (bc2 := 0) (bs2 := 0) (as := []) (rest := []) ckS_write rfl (by decide +kernel) wH_disarm (tH_disarm (d := d + 1) (c := c)) rfl rfl (by omega) ⟨Nat.le_refl _, Nat.le_refl _⟩ (Nat.le_of_ble_eq_true rfl) ?_
    rintro _ _ ⟨rfl, rfl⟩
    generalize e3 : fH_disarm c = p3
    refine ab_go 5 [] (pc' := 106) (lo' := [some (.ref 8), some (.int x1), some (.int x2)]) (st' := [.int x2, .int x1, .ref 9]) (h' := cs_H p3 rest) ckS_write rfl ?_
    by_cases h4 : ab_inb x1 30 = true
    case neg => exact ab_no hv (by simp only [fS_write, if_neg h1, if_neg h2, if_pos h3, e3, if_neg h4])
    refine ab_iast ckS_write rfl rfl (ab_inb_ok h4) ?_
    have e : fS_write c x1 x2 = some (cs_u p3 1 (x1).toNatClampNeg x2) := by simp only [fS_write, if_neg h1, if_neg h2, if_pos h3, e3, if_pos h4]
    obtain rfl := Option.some.inj (e.symm.trans hv)
    exact ab_vret ckS_write rfl rfl ⟨rfl, rfl⟩
  by_cases h5 : x1 = (4 : Int32)
  · refine ab_tswI (tgt := 82) (off := 81) ckS_write rfl h5 (by decide) (by decide) rfl (by decide) ?_
    refine ab_go 8 [] (pc' := 106) (lo' := [some (.ref 8), some (.int x1), some (.int x2)]) (st' := [.int x2, .int x1, .ref 9]) (h' := cs_H (cs_u c 0 2 (0 : Int32)) rest) ckS_write rfl ?_
    by_cases h6 : ab_inb x1 30 = true
    case neg => exact ab_no hv (by simp only [fS_write, if_neg h1, if_neg h2, if_neg h3, if_pos h5, if_neg h6])
    refine ab_iast ckS_write rfl rfl (ab_inb_ok h6) ?_
    have e : fS_write c x1 x2 = some (cs_u (cs_u c 0 2 (0 : Int32)) 1 (x1).toNatClampNeg x2) := by simp only [fS_write, if_neg h1, if_neg h2, if_neg h3, if_pos h5, if_pos h6]
    obtain rfl := Option.some.inj (e.symm.trans hv)
    exact ab_vret ckS_write rfl rfl ⟨rfl, rfl⟩
  by_cases h7 : x1 = (5 : Int32)
  · refine ab_tswI (tgt := 100) (off := 99) ckS_write rfl h7 (by decide) (by decide) rfl (by decide) ?_
    refine ab_go 4 [] (pc' := 106) (lo' := [some (.ref 8), some (.int x1), some (.int x2)]) (st' := [.int x2, .int x1, .ref 9]) (h' := cs_H c rest) ckS_write rfl ?_
    by_cases h8 : ab_inb x1 30 = true
    case neg => exact ab_no hv (by simp only [fS_write, if_neg h1, if_neg h2, if_neg h3, if_neg h5, if_pos h7, if_neg h8])
    refine ab_iast ckS_write rfl rfl (ab_inb_ok h8) ?_
    have e : fS_write c x1 x2 = some (cs_u c 1 (x1).toNatClampNeg x2) := by simp only [fS_write, if_neg h1, if_neg h2, if_neg h3, if_neg h5, if_pos h7, if_pos h8]
    obtain rfl := Option.some.inj (e.symm.trans hv)
    exact ab_vret ckS_write rfl rfl ⟨rfl, rfl⟩
  by_cases h9 : x1 = (6 : Int32)
  · refine ab_tswI (tgt := 100) (off := 99) ckS_write rfl h9 (by decide) (by decide) rfl (by decide) ?_
    refine ab_go 4 [] (pc' := 106) (lo' := [some (.ref 8), some (.int x1), some (.int x2)]) (st' := [.int x2, .int x1, .ref 9]) (h' := cs_H c rest) ckS_write rfl ?_
    by_cases h10 : ab_inb x1 30 = true
    case neg => exact ab_no hv (by simp only [fS_write, if_neg h1, if_neg h2, if_neg h3, if_neg h5, if_neg h7, if_pos h9, if_neg h10])
    refine ab_iast ckS_write rfl rfl (ab_inb_ok h10) ?_
    have e : fS_write c x1 x2 = some (cs_u c 1 (x1).toNatClampNeg x2) := by simp only [fS_write, if_neg h1, if_neg h2, if_neg h3, if_neg h5, if_neg h7, if_pos h9, if_pos h10]
    obtain rfl := Option.some.inj (e.symm.trans hv)
    exact ab_vret ckS_write rfl rfl ⟨rfl, rfl⟩
  by_cases h11 : x1 = (7 : Int32)
  · refine ab_tswI (tgt := 100) (off := 99) ckS_write rfl h11 (by decide) (by decide) rfl (by decide) ?_
    refine ab_go 4 [] (pc' := 106) (lo' := [some (.ref 8), some (.int x1), some (.int x2)]) (st' := [.int x2, .int x1, .ref 9]) (h' := cs_H c rest) ckS_write rfl ?_
    by_cases h12 : ab_inb x1 30 = true
    case neg => exact ab_no hv (by simp only [fS_write, if_neg h1, if_neg h2, if_neg h3, if_neg h5, if_neg h7, if_neg h9, if_pos h11, if_neg h12])
    refine ab_iast ckS_write rfl rfl (ab_inb_ok h12) ?_
    have e : fS_write c x1 x2 = some (cs_u c 1 (x1).toNatClampNeg x2) := by simp only [fS_write, if_neg h1, if_neg h2, if_neg h3, if_neg h5, if_neg h7, if_neg h9, if_pos h11, if_pos h12]
    obtain rfl := Option.some.inj (e.symm.trans hv)
    exact ab_vret ckS_write rfl rfl ⟨rfl, rfl⟩
  by_cases h13 : x1 = (8 : Int32)
  · refine ab_tswI (tgt := 100) (off := 99) ckS_write rfl h13 (by decide) (by decide) rfl (by decide) ?_
    refine ab_go 4 [] (pc' := 106) (lo' := [some (.ref 8), some (.int x1), some (.int x2)]) (st' := [.int x2, .int x1, .ref 9]) (h' := cs_H c rest) ckS_write rfl ?_
    by_cases h14 : ab_inb x1 30 = true
    case neg => exact ab_no hv (by simp only [fS_write, if_neg h1, if_neg h2, if_neg h3, if_neg h5, if_neg h7, if_neg h9, if_neg h11, if_pos h13, if_neg h14])
    refine ab_iast ckS_write rfl rfl (ab_inb_ok h14) ?_
    have e : fS_write c x1 x2 = some (cs_u c 1 (x1).toNatClampNeg x2) := by simp only [fS_write, if_neg h1, if_neg h2, if_neg h3, if_neg h5, if_neg h7, if_neg h9, if_neg h11, if_pos h13, if_pos h14]
    obtain rfl := Option.some.inj (e.symm.trans hv)
    exact ab_vret ckS_write rfl rfl ⟨rfl, rfl⟩
  by_cases h15 : x1 = (9 : Int32)
  · refine ab_tswI (tgt := 90) (off := 89) ckS_write rfl h15 (by decide) (by decide) rfl (by decide) ?_
    refine ab_go 2 [] (pc' := 94) (lo' := [some (.ref 8), some (.int x1), some (.int x2)]) (st' := [.ref 22]) (h' := cs_H c rest) ckS_write rfl ?_
    refine ab_callV (bc2 := 0) (bs2 := 0) (as := []) (rest := []) ckS_write rfl (by decide +kernel) wO_forgetSyncs (tO_forgetSyncs (d := d + 1) (c := c)) rfl rfl (by omega) ⟨Nat.le_refl _, Nat.le_refl _⟩ (Nat.le_of_ble_eq_true rfl) ?_
    rintro _ _ ⟨rfl, rfl⟩
    generalize e4 : fO_forgetSyncs c = p4
    refine ab_go 5 [] (pc' := 106) (lo' := [some (.ref 8), some (.int x1), some (.int x2)]) (st' := [.int x2, .int x1, .ref 9]) (h' := cs_H p4 rest) ckS_write rfl ?_
    by_cases h16 : ab_inb x1 30 = true
    case neg => exact ab_no hv (by simp only [fS_write, if_neg h1, if_neg h2, if_neg h3, if_neg h5, if_neg h7, if_neg h9, if_neg h11, if_neg h13, if_pos h15, e4, if_neg h16])
    refine ab_iast ckS_write rfl rfl (ab_inb_ok h16) ?_
    have e : fS_write c x1 x2 = some (cs_u p4 1 (x1).toNatClampNeg x2) := by simp only [fS_write, if_neg h1, if_neg h2, if_neg h3, if_neg h5, if_neg h7, if_neg h9, if_neg h11, if_neg h13, if_pos h15, e4, if_pos h16]
    obtain rfl := Option.some.inj (e.symm.trans hv)
    exact ab_vret ckS_write rfl rfl ⟨rfl, rfl⟩
  refine ab_tswO (tgt := 100) ckS_write rfl (by have a0 := lv_neT h1 (show (1 : Int32).toInt = 1 by decide); have a1 := lv_neT h2 (show (2 : Int32).toInt = 2 by decide); have a2 := lv_neT h3 (show (3 : Int32).toInt = 3 by decide); have a3 := lv_neT h5 (show (4 : Int32).toInt = 4 by decide); have a4 := lv_neT h7 (show (5 : Int32).toInt = 5 by decide); have a5 := lv_neT h9 (show (6 : Int32).toInt = 6 by decide); have a6 := lv_neT h11 (show (7 : Int32).toInt = 7 by decide); have a7 := lv_neT h13 (show (8 : Int32).toInt = 8 by decide); have a8 := lv_neT h15 (show (9 : Int32).toInt = 9 by decide); omega) (by decide) ?_
  refine ab_go 4 [] (pc' := 106) (lo' := [some (.ref 8), some (.int x1), some (.int x2)]) (st' := [.int x2, .int x1, .ref 9]) (h' := cs_H c rest) ckS_write rfl ?_
  by_cases h17 : ab_inb x1 30 = true
  case neg => exact ab_no hv (by simp only [fS_write, if_neg h1, if_neg h2, if_neg h3, if_neg h5, if_neg h7, if_neg h9, if_neg h11, if_neg h13, if_neg h15, if_neg h17])
  refine ab_iast ckS_write rfl rfl (ab_inb_ok h17) ?_
  have e : fS_write c x1 x2 = some (cs_u c 1 (x1).toNatClampNeg x2) := by simp only [fS_write, if_neg h1, if_neg h2, if_neg h3, if_neg h5, if_neg h7, if_neg h9, if_neg h11, if_neg h13, if_neg h15, if_pos h17]
  obtain rfl := Option.some.inj (e.symm.trans hv)
  exact ab_vret ckS_write rfl rfl ⟨rfl, rfl⟩
def fS_refusalOfSave (c : cs_S) (x1 : Int32) (x2 : Int32) : Int32 := (if x1 = x2 then (if (fT_isBusy c) = 0 then (0 : Int32) else (134217762 : Int32)) else (134217760 : Int32))
theorem tS_refusalOfSave {x1 : Int32} {x2 : Int32} : ab_M X mS_refusalOfSave (d + 1) 0 0 [.ref 8, .int x1, .int x2] (cs_H c rest) (fun r9 h9 => r9 = some (Value.int (fS_refusalOfSave c x1 x2)) ∧ h9 = cs_H c rest) := by
  refine ab_entry (by decide) (Nat.le_of_ble_eq_true rfl) ?_
  refine ab_go 2 [] (pc' := 2) (lo' := [some (.ref 8), some (.int x1), some (.int x2)]) (st' := [.int x2, .int x1]) (h' := cs_H c rest) ckS_refusalOfSave rfl ?_
  refine ab_icmp_eq ckS_refusalOfSave rfl (fun (h1 : x1 = x2) => ?_) (fun (h1 : ¬ (x1 = x2)) => ?_)
  · refine ab_go 2 [] (pc' := 13) (lo' := [some (.ref 8), some (.int x1), some (.int x2)]) (st' := [.ref 14]) (h' := cs_H c rest) ckS_refusalOfSave rfl ?_
    refine ab_callV (bc2 := 0) (bs2 := 0) (as := []) (rest := []) ckS_refusalOfSave rfl (by decide +kernel) wT_isBusy (tT_isBusy (d := d) (c := c)) rfl rfl (by omega) ⟨Nat.le_refl _, Nat.le_refl _⟩ (Nat.le_of_ble_eq_true rfl) ?_
    rintro _ _ ⟨rfl, rfl⟩
    refine ab_if_eq ckS_refusalOfSave rfl (fun (h2 : (fT_isBusy c) = 0) => ?_) (fun (h2 : ¬ ((fT_isBusy c) = 0)) => ?_)
    · refine ab_go 1 [] (pc' := 26) (lo' := [some (.ref 8), some (.int x1), some (.int x2)]) (st' := [.int (0 : Int32)]) (h' := cs_H c rest) ckS_refusalOfSave rfl ?_
      have e : fS_refusalOfSave c x1 x2 = (0 : Int32) := by simp only [fS_refusalOfSave, if_pos h1, if_pos h2]
      exact ab_iret ckS_refusalOfSave rfl rfl ⟨(congrArg (fun q : Int32 => some (Value.int q)) e).symm, rfl⟩
    · refine ab_go 2 [] (pc' := 26) (lo' := [some (.ref 8), some (.int x1), some (.int x2)]) (st' := [.int (134217762 : Int32)]) (h' := cs_H c rest) ckS_refusalOfSave rfl ?_
      have e : fS_refusalOfSave c x1 x2 = (134217762 : Int32) := by simp only [fS_refusalOfSave, if_pos h1, if_neg h2]
      exact ab_iret ckS_refusalOfSave rfl rfl ⟨(congrArg (fun q : Int32 => some (Value.int q)) e).symm, rfl⟩
  · refine ab_go 1 [] (pc' := 8) (lo' := [some (.ref 8), some (.int x1), some (.int x2)]) (st' := [.int (134217760 : Int32)]) (h' := cs_H c rest) ckS_refusalOfSave rfl ?_
    have e : fS_refusalOfSave c x1 x2 = (134217760 : Int32) := by simp only [fS_refusalOfSave, if_neg h1]
    exact ab_iret ckS_refusalOfSave rfl rfl ⟨(congrArg (fun q : Int32 => some (Value.int q)) e).symm, rfl⟩
def fS_isWrittenNow (c : cs_S) (x1 : Int32) : Option (Int32) := (ab_bd (fC_kind x1) (fun p1 => (if p1 = (3 : Int32) then (if (fP_isStageOn c) = 0 then (some (1 : Int32)) else (some (0 : Int32))) else (if p1 = (4 : Int32) then (if (c.1 0 1) = (127 : Int32) then (if (fC_isCount x1) = 0 then (if ab_inb (fC_countOf x1) 30 = true then (if (c.1 1 ((fC_countOf x1)).toNatClampNeg) = 0 then (some (1 : Int32)) else (some (0 : Int32))) else none) else (some (1 : Int32))) else (some (0 : Int32))) else (some (1 : Int32))))))
theorem tS_isWrittenNow {x1 : Int32} (hX : cs_X X) {v : Int32} (hv : fS_isWrittenNow c x1 = some v) : ab_M X mS_isWrittenNow (d + 1) 0 0 [.ref 8, .int x1] (cs_H c rest) (fun r9 h9 => r9 = some (Value.int v) ∧ h9 = cs_H c rest) := by
  refine ab_entry (by decide) (Nat.le_of_ble_eq_true rfl) ?_
  refine ab_go 1 [] (pc' := 1) (lo' := [some (.ref 8), some (.int x1)]) (st' := [.int x1]) (h' := cs_H c rest) ckS_isWrittenNow rfl ?_
  rcases e1 : fC_kind x1 with _ | p1
  · exact ab_no hv (by simp only [fS_isWrittenNow, e1, ab_bd_n])
  refine ab_callS (bc2 := 0) (bs2 := 0) (as := [_]) (rest := []) ckS_isWrittenNow rfl (by decide +kernel) wC_kind (tC_kind (d := d) (x1 := x1) hX (v := p1) e1) (by omega) ⟨Nat.le_refl _, Nat.le_refl _⟩ (Nat.le_of_ble_eq_true rfl) ?_
  rintro _ _ ⟨rfl, rfl⟩
  by_cases h1 : p1 = (3 : Int32)
  · refine ab_lsw (tgt := 32) (off := 28) ckS_isWrittenNow rfl (by decide) (by rw [h1]; decide) (by decide) ?_
    refine ab_go 2 [] (pc' := 36) (lo' := [some (.ref 8), some (.int x1)]) (st' := [.ref 19]) (h' := cs_H c rest) ckS_isWrittenNow rfl ?_
    refine ab_callV (bc2 := 0) (bs2 := 0) (as := []) (rest := []) ckS_isWrittenNow rfl (by decide +kernel) wP_isStageOn (tP_isStageOn (d := d) (c := c)) rfl rfl (by omega) ⟨Nat.le_refl _, Nat.le_refl _⟩ (Nat.le_of_ble_eq_true rfl) ?_
    rintro _ _ ⟨rfl, rfl⟩
    refine ab_if_ne ckS_isWrittenNow rfl (fun (h2 : ¬ ((fP_isStageOn c) = 0)) => ?_) (fun (h2 : (fP_isStageOn c) = 0) => ?_)
    · refine ab_go 1 [] (pc' := 47) (lo' := [some (.ref 8), some (.int x1)]) (st' := [.int (0 : Int32)]) (h' := cs_H c rest) ckS_isWrittenNow rfl ?_
      have e : fS_isWrittenNow c x1 = some (0 : Int32) := by simp only [fS_isWrittenNow, e1, ab_bd_s, if_pos h1, if_neg h2]
      obtain rfl := Option.some.inj (e.symm.trans hv)
      exact ab_zret ckS_isWrittenNow rfl rfl (Or.inl rfl) ⟨rfl, rfl⟩
    · refine ab_go 2 [] (pc' := 47) (lo' := [some (.ref 8), some (.int x1)]) (st' := [.int (1 : Int32)]) (h' := cs_H c rest) ckS_isWrittenNow rfl ?_
      have e : fS_isWrittenNow c x1 = some (1 : Int32) := by simp only [fS_isWrittenNow, e1, ab_bd_s, if_pos h1, if_pos h2]
      obtain rfl := Option.some.inj (e.symm.trans hv)
      exact ab_zret ckS_isWrittenNow rfl rfl (Or.inr rfl) ⟨rfl, rfl⟩
  by_cases h3 : p1 = (4 : Int32)
  · refine ab_lsw (tgt := 48) (off := 44) ckS_isWrittenNow rfl (by decide) (by rw [h3]; decide) (by decide) ?_
    refine ab_go 3 [] (pc' := 54) (lo' := [some (.ref 8), some (.int x1)]) (st' := [.int (127 : Int32), .int (c.1 0 1)]) (h' := cs_H c rest) ckS_isWrittenNow rfl ?_
    refine ab_icmp_ne ckS_isWrittenNow rfl (fun (h4 : ¬ ((c.1 0 1) = (127 : Int32))) => ?_) (fun (h4 : (c.1 0 1) = (127 : Int32)) => ?_)
    · refine ab_go 1 [] (pc' := 81) (lo' := [some (.ref 8), some (.int x1)]) (st' := [.int (0 : Int32)]) (h' := cs_H c rest) ckS_isWrittenNow rfl ?_
      have e : fS_isWrittenNow c x1 = some (0 : Int32) := by simp only [fS_isWrittenNow, e1, ab_bd_s, if_neg h1, if_pos h3, if_neg h4]
      obtain rfl := Option.some.inj (e.symm.trans hv)
      exact ab_zret ckS_isWrittenNow rfl rfl (Or.inl rfl) ⟨rfl, rfl⟩
    · refine ab_go 1 [] (pc' := 58) (lo' := [some (.ref 8), some (.int x1)]) (st' := [.int x1]) (h' := cs_H c rest) ckS_isWrittenNow rfl ?_
      refine ab_callS (bc2 := 0) (bs2 := 0) (as := [_]) (rest := []) ckS_isWrittenNow rfl (by decide +kernel) wC_isCount (tC_isCount (d := d) (x1 := x1)) (by omega) ⟨Nat.le_refl _, Nat.le_refl _⟩ (Nat.le_of_ble_eq_true rfl) ?_
      rintro _ _ ⟨rfl, rfl⟩
      refine ab_if_ne ckS_isWrittenNow rfl (fun (h5 : ¬ ((fC_isCount x1) = 0)) => ?_) (fun (h5 : (fC_isCount x1) = 0) => ?_)
      · refine ab_go 2 [] (pc' := 81) (lo' := [some (.ref 8), some (.int x1)]) (st' := [.int (1 : Int32)]) (h' := cs_H c rest) ckS_isWrittenNow rfl ?_
        have e : fS_isWrittenNow c x1 = some (1 : Int32) := by simp only [fS_isWrittenNow, e1, ab_bd_s, if_neg h1, if_pos h3, if_pos h4, if_neg h5]
        obtain rfl := Option.some.inj (e.symm.trans hv)
        exact ab_zret ckS_isWrittenNow rfl rfl (Or.inr rfl) ⟨rfl, rfl⟩
      · refine ab_go 3 [] (pc' := 69) (lo' := [some (.ref 8), some (.int x1)]) (st' := [.int x1, .ref 9]) (h' := cs_H c rest) ckS_isWrittenNow rfl ?_
        refine ab_callS (bc2 := 0) (bs2 := 0) (as := [_]) (rest := [_]) ckS_isWrittenNow rfl (by decide +kernel) wC_countOf (tC_countOf (d := d) (x1 := x1)) (by omega) ⟨Nat.le_refl _, Nat.le_refl _⟩ (Nat.le_of_ble_eq_true rfl) ?_
        rintro _ _ ⟨rfl, rfl⟩
        by_cases h6 : ab_inb (fC_countOf x1) 30 = true
        case neg => exact ab_no hv (by simp only [fS_isWrittenNow, e1, ab_bd_s, if_neg h1, if_pos h3, if_pos h4, if_pos h5, if_neg h6])
        refine ab_iald ckS_isWrittenNow rfl rfl (ab_inb_ok h6) ?_
        refine ab_if_ne ckS_isWrittenNow rfl (fun (h7 : ¬ ((c.1 1 ((fC_countOf x1)).toNatClampNeg) = 0)) => ?_) (fun (h7 : (c.1 1 ((fC_countOf x1)).toNatClampNeg) = 0) => ?_)
        · refine ab_go 1 [] (pc' := 81) (lo' := [some (.ref 8), some (.int x1)]) (st' := [.int (0 : Int32)]) (h' := cs_H c rest) ckS_isWrittenNow rfl ?_
          have e : fS_isWrittenNow c x1 = some (0 : Int32) := by simp only [fS_isWrittenNow, e1, ab_bd_s, if_neg h1, if_pos h3, if_pos h4, if_pos h5, if_pos h6, if_neg h7]
          obtain rfl := Option.some.inj (e.symm.trans hv)
          exact ab_zret ckS_isWrittenNow rfl rfl (Or.inl rfl) ⟨rfl, rfl⟩
        · refine ab_go 2 [] (pc' := 81) (lo' := [some (.ref 8), some (.int x1)]) (st' := [.int (1 : Int32)]) (h' := cs_H c rest) ckS_isWrittenNow rfl ?_
          have e : fS_isWrittenNow c x1 = some (1 : Int32) := by simp only [fS_isWrittenNow, e1, ab_bd_s, if_neg h1, if_pos h3, if_pos h4, if_pos h5, if_pos h6, if_pos h7]
          obtain rfl := Option.some.inj (e.symm.trans hv)
          exact ab_zret ckS_isWrittenNow rfl rfl (Or.inr rfl) ⟨rfl, rfl⟩
  refine ab_lsw (tgt := 82) ckS_isWrittenNow rfl (by decide) (off := 78) (by show Op.lookupswitch.offset [(3, 28), (4, 44)] 78 _ = _; rw [lv_osw h1 (by decide)]; rw [lv_osw h3 (by decide)]; rfl) (by decide) ?_
  refine ab_go 1 [] (pc' := 83) (lo' := [some (.ref 8), some (.int x1)]) (st' := [.int (1 : Int32)]) (h' := cs_H c rest) ckS_isWrittenNow rfl ?_
  have e : fS_isWrittenNow c x1 = some (1 : Int32) := by simp only [fS_isWrittenNow, e1, ab_bd_s, if_neg h1, if_neg h3]
  obtain rfl := Option.some.inj (e.symm.trans hv)
  exact ab_zret ckS_isWrittenNow rfl rfl (Or.inr rfl) ⟨rfl, rfl⟩
def fS_refusalOfWrite (c : cs_S) (x1 : Int32) (x2 : Int32) (x3 : Int32) : Option (Int32) := (ab_bd (fC_kind x1) (fun p1 => (if p1 = 0 then (some (100728834 : Int32)) else (ab_bd (fC_bytes x1) (fun p2 => (if x2 = p2 then (ab_bd (fS_isWrittenNow c x1) (fun p3 => (if p3 = 0 then (some (134217762 : Int32)) else (if x1 = (1 : Int32) then (some (fS_refusalOfSave c x3 (1702257011 : Int32))) else (if x1 = (2 : Int32) then (some (fS_refusalOfSave c x3 (1684107116 : Int32))) else (ab_bd (fN_refusalOfValue x1 x3) (fun p4 => (some p4)))))))) else (some (101122064 : Int32))))))))
theorem tS_refusalOfWrite {x1 : Int32} {x2 : Int32} {x3 : Int32} (hX : cs_X X) {v : Int32} (hv : fS_refusalOfWrite c x1 x2 x3 = some v) : ab_M X mS_refusalOfWrite (d + 2) 0 0 [.ref 8, .int x1, .int x2, .int x3] (cs_H c rest) (fun r9 h9 => r9 = some (Value.int v) ∧ h9 = cs_H c rest) := by
  refine ab_entry (by decide) (Nat.le_of_ble_eq_true rfl) ?_
  refine ab_go 1 [] (pc' := 1) (lo' := [some (.ref 8), some (.int x1), some (.int x2), some (.int x3)]) (st' := [.int x1]) (h' := cs_H c rest) ckS_refusalOfWrite rfl ?_
  rcases e1 : fC_kind x1 with _ | p1
  · exact ab_no hv (by simp only [fS_refusalOfWrite, e1, ab_bd_n])
  refine ab_callS (bc2 := 0) (bs2 := 0) (as := [_]) (rest := []) ckS_refusalOfWrite rfl (by decide +kernel) wC_kind (tC_kind (d := d + 1) (x1 := x1) hX (v := p1) e1) (by omega) ⟨Nat.le_refl _, Nat.le_refl _⟩ (Nat.le_of_ble_eq_true rfl) ?_
  rintro _ _ ⟨rfl, rfl⟩
  refine ab_if_ne ckS_refusalOfWrite rfl (fun (h1 : ¬ (p1 = 0)) => ?_) (fun (h1 : p1 = 0) => ?_)
  · refine ab_go 2 [] (pc' := 12) (lo' := [some (.ref 8), some (.int x1), some (.int x2), some (.int x3)]) (st' := [.int x1, .int x2]) (h' := cs_H c rest) ckS_refusalOfWrite rfl ?_
    rcases e2 : fC_bytes x1 with _ | p2
    · exact ab_no hv (by simp only [fS_refusalOfWrite, e1, ab_bd_s, if_neg h1, e2, ab_bd_n])
    refine ab_callS (bc2 := 0) (bs2 := 0) (as := [_]) (rest := [_]) ckS_refusalOfWrite rfl (by decide +kernel) wC_bytes (tC_bytes (d := d + 1) (x1 := x1) hX (v := p2) e2) (by omega) ⟨Nat.le_refl _, Nat.le_refl _⟩ (Nat.le_of_ble_eq_true rfl) ?_
    rintro _ _ ⟨rfl, rfl⟩
    refine ab_icmp_eq ckS_refusalOfWrite rfl (fun (h2 : x2 = p2) => ?_) (fun (h2 : ¬ (x2 = p2)) => ?_)
    · refine ab_go 2 [] (pc' := 23) (lo' := [some (.ref 8), some (.int x1), some (.int x2), some (.int x3)]) (st' := [.int x1, .ref 8]) (h' := cs_H c rest) ckS_refusalOfWrite rfl ?_
      rcases e3 : fS_isWrittenNow c x1 with _ | p3
      · exact ab_no hv (by simp only [fS_refusalOfWrite, e1, ab_bd_s, if_neg h1, e2, ab_bd_s, if_pos h2, e3, ab_bd_n])
      refine ab_callV (bc2 := 0) (bs2 := 0) (as := [_]) (rest := []) ckS_refusalOfWrite rfl (by decide +kernel) wS_isWrittenNow (tS_isWrittenNow (d := d) (x1 := x1) (c := c) hX (v := p3) e3) rfl rfl (by omega) ⟨Nat.le_refl _, Nat.le_refl _⟩ (Nat.le_of_ble_eq_true rfl) ?_
      rintro _ _ ⟨rfl, rfl⟩
      refine ab_if_ne ckS_refusalOfWrite rfl (fun (h3 : ¬ (p3 = 0)) => ?_) (fun (h3 : p3 = 0) => ?_)
      · refine ab_go 2 [] (pc' := 35) (lo' := [some (.ref 8), some (.int x1), some (.int x2), some (.int x3)]) (st' := [.int (1 : Int32), .int x1]) (h' := cs_H c rest) ckS_refusalOfWrite rfl ?_
        refine ab_icmp_ne ckS_refusalOfWrite rfl (fun (h4 : ¬ (x1 = (1 : Int32))) => ?_) (fun (h4 : x1 = (1 : Int32)) => ?_)
        · refine ab_go 2 [] (pc' := 49) (lo' := [some (.ref 8), some (.int x1), some (.int x2), some (.int x3)]) (st' := [.int (2 : Int32), .int x1]) (h' := cs_H c rest) ckS_refusalOfWrite rfl ?_
          refine ab_icmp_ne ckS_refusalOfWrite rfl (fun (h5 : ¬ (x1 = (2 : Int32))) => ?_) (fun (h5 : x1 = (2 : Int32)) => ?_)
          · refine ab_go 2 [] (pc' := 63) (lo' := [some (.ref 8), some (.int x1), some (.int x2), some (.int x3)]) (st' := [.int x3, .int x1]) (h' := cs_H c rest) ckS_refusalOfWrite rfl ?_
            rcases e4 : fN_refusalOfValue x1 x3 with _ | p4
            · exact ab_no hv (by simp only [fS_refusalOfWrite, e1, ab_bd_s, if_neg h1, e2, ab_bd_s, if_pos h2, e3, ab_bd_s, if_neg h3, if_neg h4, if_neg h5, e4, ab_bd_n])
            refine ab_callS (bc2 := 0) (bs2 := 0) (as := [_, _]) (rest := []) ckS_refusalOfWrite rfl (by decide +kernel) wN_refusalOfValue (tN_refusalOfValue (d := d) (x1 := x1) (x2 := x3) hX (v := p4) e4) (by omega) ⟨Nat.le_refl _, Nat.le_refl _⟩ (Nat.le_of_ble_eq_true rfl) ?_
            rintro _ _ ⟨rfl, rfl⟩
            have e : fS_refusalOfWrite c x1 x2 x3 = some p4 := by simp only [fS_refusalOfWrite, e1, ab_bd_s, if_neg h1, e2, ab_bd_s, if_pos h2, e3, ab_bd_s, if_neg h3, if_neg h4, if_neg h5, e4, ab_bd_s]
            obtain rfl := Option.some.inj (e.symm.trans hv)
            exact ab_iret ckS_refusalOfWrite rfl rfl ⟨rfl, rfl⟩
          · refine ab_go 3 [] (pc' := 57) (lo' := [some (.ref 8), some (.int x1), some (.int x2), some (.int x3)]) (st' := [.int (1684107116 : Int32), .int x3, .ref 8]) (h' := cs_H c rest) ckS_refusalOfWrite rfl ?_
            refine ab_callV (bc2 := 0) (bs2 := 0) (as := [_, _]) (rest := []) ckS_refusalOfWrite rfl (by decide +kernel) wS_refusalOfSave (tS_refusalOfSave (d := d) (x1 := x3) (x2 := (1684107116 : Int32)) (c := c)) rfl rfl (by omega) ⟨Nat.le_refl _, Nat.le_refl _⟩ (Nat.le_of_ble_eq_true rfl) ?_
            rintro _ _ ⟨rfl, rfl⟩
            have e : fS_refusalOfWrite c x1 x2 x3 = some (fS_refusalOfSave c x3 (1684107116 : Int32)) := by simp only [fS_refusalOfWrite, e1, ab_bd_s, if_neg h1, e2, ab_bd_s, if_pos h2, e3, ab_bd_s, if_neg h3, if_neg h4, if_pos h5]
            obtain rfl := Option.some.inj (e.symm.trans hv)
            exact ab_iret ckS_refusalOfWrite rfl rfl ⟨rfl, rfl⟩
        · refine ab_go 3 [] (pc' := 43) (lo' := [some (.ref 8), some (.int x1), some (.int x2), some (.int x3)]) (st' := [.int (1702257011 : Int32), .int x3, .ref 8]) (h' := cs_H c rest) ckS_refusalOfWrite rfl ?_
          refine ab_callV (bc2 := 0) (bs2 := 0) (as := [_, _]) (rest := []) ckS_refusalOfWrite rfl (by decide +kernel) wS_refusalOfSave (tS_refusalOfSave (d := d) (x1 := x3) (x2 := (1702257011 : Int32)) (c := c)) rfl rfl (by omega) ⟨Nat.le_refl _, Nat.le_refl _⟩ (Nat.le_of_ble_eq_true rfl) ?_
          rintro _ _ ⟨rfl, rfl⟩
          have e : fS_refusalOfWrite c x1 x2 x3 = some (fS_refusalOfSave c x3 (1702257011 : Int32)) := by simp only [fS_refusalOfWrite, e1, ab_bd_s, if_neg h1, e2, ab_bd_s, if_pos h2, e3, ab_bd_s, if_neg h3, if_pos h4]
          obtain rfl := Option.some.inj (e.symm.trans hv)
          exact ab_iret ckS_refusalOfWrite rfl rfl ⟨rfl, rfl⟩
      · refine ab_go 1 [] (pc' := 32) (lo' := [some (.ref 8), some (.int x1), some (.int x2), some (.int x3)]) (st' := [.int (134217762 : Int32)]) (h' := cs_H c rest) ckS_refusalOfWrite rfl ?_
        have e : fS_refusalOfWrite c x1 x2 x3 = some (134217762 : Int32) := by simp only [fS_refusalOfWrite, e1, ab_bd_s, if_neg h1, e2, ab_bd_s, if_pos h2, e3, ab_bd_s, if_pos h3]
        obtain rfl := Option.some.inj (e.symm.trans hv)
        exact ab_iret ckS_refusalOfWrite rfl rfl ⟨rfl, rfl⟩
    · refine ab_go 1 [] (pc' := 20) (lo' := [some (.ref 8), some (.int x1), some (.int x2), some (.int x3)]) (st' := [.int (101122064 : Int32)]) (h' := cs_H c rest) ckS_refusalOfWrite rfl ?_
      have e : fS_refusalOfWrite c x1 x2 x3 = some (101122064 : Int32) := by simp only [fS_refusalOfWrite, e1, ab_bd_s, if_neg h1, e2, ab_bd_s, if_neg h2]
      obtain rfl := Option.some.inj (e.symm.trans hv)
      exact ab_iret ckS_refusalOfWrite rfl rfl ⟨rfl, rfl⟩
  · refine ab_go 1 [] (pc' := 9) (lo' := [some (.ref 8), some (.int x1), some (.int x2), some (.int x3)]) (st' := [.int (100728834 : Int32)]) (h' := cs_H c rest) ckS_refusalOfWrite rfl ?_
    have e : fS_refusalOfWrite c x1 x2 x3 = some (100728834 : Int32) := by simp only [fS_refusalOfWrite, e1, ab_bd_s, if_pos h1]
    obtain rfl := Option.some.inj (e.symm.trans hv)
    exact ab_iret ckS_refusalOfWrite rfl rfl ⟨rfl, rfl⟩
def fS_sendAnswer (c : cs_S) (x1 : Int64) (x2 : Int32) (x3 : Int32) : Option (cs_S) := (ab_bd (fB_send c ((1408 : Int32) + (c.1 0 0)) (8 : Int32) (((x2).toInt64 ||| (x1 &&& (4294967040 : Int64))) ||| ((x3).toInt64 <<< (((32 : Int32)).toInt64 &&& 63)))) (fun p1 => (some p1)))
theorem tS_sendAnswer {x1 : Int64} {x2 : Int32} {x3 : Int32} {v : cs_S} (hv : fS_sendAnswer c x1 x2 x3 = some v) : ab_M X mS_sendAnswer (d + 1) 0 0 [.ref 8, .long x1, .int x2, .int x3] (cs_H c rest) (fun r9 h9 => r9 = none ∧ h9 = cs_H v rest) := by
  refine ab_entry (by decide) (Nat.le_of_ble_eq_true rfl) ?_
  refine ab_go 12 [] (pc' := 21) (lo' := [some (.ref 8), some (.long x1), none, some (.int x2), some (.int x3)]) (st' := [.long (x1 &&& (4294967040 : Int64)), .long (x2).toInt64, .int (8 : Int32), .int ((1408 : Int32) + (c.1 0 0)), .ref 10]) (h' := cs_H c rest) ckS_sendAnswer rfl ?_
  refine ab_go 6 [] (pc' := 29) (lo' := [some (.ref 8), some (.long x1), none, some (.int x2), some (.int x3)]) (st' := [.long (((x2).toInt64 ||| (x1 &&& (4294967040 : Int64))) ||| ((x3).toInt64 <<< (((32 : Int32)).toInt64 &&& 63))), .int (8 : Int32), .int ((1408 : Int32) + (c.1 0 0)), .ref 10]) (h' := cs_H c rest) ckS_sendAnswer rfl ?_
  rcases e1 : fB_send c ((1408 : Int32) + (c.1 0 0)) (8 : Int32) (((x2).toInt64 ||| (x1 &&& (4294967040 : Int64))) ||| ((x3).toInt64 <<< (((32 : Int32)).toInt64 &&& 63))) with _ | p1
  · exact ab_no hv (by simp only [fS_sendAnswer, e1, ab_bd_n])
  refine ab_callV (bc2 := 0) (bs2 := 0) (as := [_, _, _]) (rest := []) ckS_sendAnswer rfl (by decide +kernel) wB_send (tB_send (d := d) (x1 := ((1408 : Int32) + (c.1 0 0))) (x2 := (8 : Int32)) (x3 := (((x2).toInt64 ||| (x1 &&& (4294967040 : Int64))) ||| ((x3).toInt64 <<< (((32 : Int32)).toInt64 &&& 63)))) (c := c) (v := p1) e1) rfl rfl (by omega) ⟨Nat.le_refl _, Nat.le_refl _⟩ (Nat.le_of_ble_eq_true rfl) ?_
  rintro _ _ ⟨rfl, rfl⟩
  have e : fS_sendAnswer c x1 x2 x3 = some p1 := by simp only [fS_sendAnswer, e1, ab_bd_s]
  obtain rfl := Option.some.inj (e.symm.trans hv)
  exact ab_vret ckS_sendAnswer rfl rfl ⟨rfl, rfl⟩
def fS_answerWrite (c : cs_S) (x1 : Int64) (x2 : Int32) (x3 : Int32) : Option (cs_S) := (ab_bd (fS_refusalOfWrite c x2 x3 (fG_number ((x1).toUInt64 >>> (((32 : Int32)).toInt64.toUInt64 &&& Int64.toUInt64 63)).toInt64 x3)) (fun p1 => (if p1 = 0 then (if (fC_isCount x2) = 0 then (ab_bd (fS_write c x2 (fG_number ((x1).toUInt64 >>> (((32 : Int32)).toInt64.toUInt64 &&& Int64.toUInt64 63)).toInt64 x3)) (fun p3 => (ab_bd (fS_sendAnswer p3 x1 (96 : Int32) (0 : Int32)) (fun p4 => (some p4))))) else (ab_bd (fG_refusalOfCount c x2 (fG_number ((x1).toUInt64 >>> (((32 : Int32)).toInt64.toUInt64 &&& Int64.toUInt64 63)).toInt64 x3)) (fun p5 => (if p5 = 0 then (ab_bd (fS_write c x2 (fG_number ((x1).toUInt64 >>> (((32 : Int32)).toInt64.toUInt64 &&& Int64.toUInt64 63)).toInt64 x3)) (fun p6 => (ab_bd (fS_sendAnswer p6 x1 (96 : Int32) (0 : Int32)) (fun p7 => (some p7))))) else (ab_bd (fS_sendAnswer c x1 (128 : Int32) p5) (fun p8 => (some p8))))))) else (ab_bd (fS_sendAnswer c x1 (128 : Int32) p1) (fun p2 => (some p2))))))
theorem tS_answerWrite {x1 : Int64} {x2 : Int32} {x3 : Int32} (hX : cs_X X) {v : cs_S} (hv : fS_answerWrite c x1 x2 x3 = some v) : ab_M X mS_answerWrite (d + 3) 0 0 [.ref 8, .long x1, .int x2, .int x3] (cs_H c rest) (fun r9 h9 => r9 = none ∧ h9 = cs_H v rest) := by
  refine ab_entry (by decide) (Nat.le_of_ble_eq_true rfl) ?_
  refine ab_go 4 [] (pc' := 6) (lo' := [some (.ref 8), some (.long x1), none, some (.int x2), some (.int x3), none, none]) (st' := [.int x3, .long ((x1).toUInt64 >>> (((32 : Int32)).toInt64.toUInt64 &&& Int64.toUInt64 63)).toInt64]) (h' := cs_H c rest) ckS_answerWrite rfl ?_
  refine ab_callS (bc2 := 0) (bs2 := 0) (as := [_, _]) (rest := []) ckS_answerWrite rfl (by decide +kernel) wG_number (tG_number (d := d + 2) (x1 := ((x1).toUInt64 >>> (((32 : Int32)).toInt64.toUInt64 &&& Int64.toUInt64 63)).toInt64) (x2 := x3)) (by omega) ⟨Nat.le_refl _, Nat.le_refl _⟩ (Nat.le_of_ble_eq_true rfl) ?_
  rintro _ _ ⟨rfl, rfl⟩
  refine ab_go 5 [] (pc' := 17) (lo' := [some (.ref 8), some (.long x1), none, some (.int x2), some (.int x3), some (.int (fG_number ((x1).toUInt64 >>> (((32 : Int32)).toInt64.toUInt64 &&& Int64.toUInt64 63)).toInt64 x3)), none]) (st' := [.int (fG_number ((x1).toUInt64 >>> (((32 : Int32)).toInt64.toUInt64 &&& Int64.toUInt64 63)).toInt64 x3), .int x3, .int x2, .ref 8]) (h' := cs_H c rest) ckS_answerWrite rfl ?_
  rcases e1 : fS_refusalOfWrite c x2 x3 (fG_number ((x1).toUInt64 >>> (((32 : Int32)).toInt64.toUInt64 &&& Int64.toUInt64 63)).toInt64 x3) with _ | p1
  · exact ab_no hv (by simp only [fS_answerWrite, e1, ab_bd_n])
  refine ab_callV (bc2 := 0) (bs2 := 0) (as := [_, _, _]) (rest := []) ckS_answerWrite rfl (by decide +kernel) wS_refusalOfWrite (tS_refusalOfWrite (d := d) (x1 := x2) (x2 := x3) (x3 := (fG_number ((x1).toUInt64 >>> (((32 : Int32)).toInt64.toUInt64 &&& Int64.toUInt64 63)).toInt64 x3)) (c := c) hX (v := p1) e1) rfl rfl (by omega) ⟨Nat.le_refl _, Nat.le_refl _⟩ (Nat.le_of_ble_eq_true rfl) ?_
  rintro _ _ ⟨rfl, rfl⟩
  refine ab_go 2 [] (pc' := 24) (lo' := [some (.ref 8), some (.long x1), none, some (.int x2), some (.int x3), some (.int (fG_number ((x1).toUInt64 >>> (((32 : Int32)).toInt64.toUInt64 &&& Int64.toUInt64 63)).toInt64 x3)), some (.int p1)]) (st' := [.int p1]) (h' := cs_H c rest) ckS_answerWrite rfl ?_
  refine ab_if_ne ckS_answerWrite rfl (fun (h1 : ¬ (p1 = 0)) => ?_) (fun (h1 : p1 = 0) => ?_)
  · refine ab_go 1 [] (pc' := 48) (lo' := [some (.ref 8), some (.long x1), none, some (.int x2), some (.int x3), some (.int (fG_number ((x1).toUInt64 >>> (((32 : Int32)).toInt64.toUInt64 &&& Int64.toUInt64 63)).toInt64 x3)), some (.int p1)]) (st' := [.int p1]) (h' := cs_H c rest) ckS_answerWrite rfl ?_
    refine ab_if_eq ckS_answerWrite rfl (fun hh => absurd hh h1) (fun _ => ?_)
    refine ab_go 4 [] (pc' := 58) (lo' := [some (.ref 8), some (.long x1), none, some (.int x2), some (.int x3), some (.int (fG_number ((x1).toUInt64 >>> (((32 : Int32)).toInt64.toUInt64 &&& Int64.toUInt64 63)).toInt64 x3)), some (.int p1)]) (st' := [.int p1, .int (128 : Int32), .long x1, .ref 8]) (h' := cs_H c rest) ckS_answerWrite rfl ?_
    rcases e2 : fS_sendAnswer c x1 (128 : Int32) p1 with _ | p2
    · exact ab_no hv (by simp only [fS_answerWrite, e1, ab_bd_s, if_neg h1, e2, ab_bd_n])
    refine ab_callV (bc2 := 0) (bs2 := 0) (as := [_, _, _]) (rest := []) ckS_answerWrite rfl (by decide +kernel) wS_sendAnswer (tS_sendAnswer (d := d + 1) (x1 := x1) (x2 := (128 : Int32)) (x3 := p1) (c := c) (v := p2) e2) rfl rfl (by omega) ⟨Nat.le_refl _, Nat.le_refl _⟩ (Nat.le_of_ble_eq_true rfl) ?_
    rintro _ _ ⟨rfl, rfl⟩
    have e : fS_answerWrite c x1 x2 x3 = some p2 := by simp only [fS_answerWrite, e1, ab_bd_s, if_neg h1, e2, ab_bd_s]
    obtain rfl := Option.some.inj (e.symm.trans hv)
    exact ab_vret ckS_answerWrite rfl rfl ⟨rfl, rfl⟩
  · refine ab_go 1 [] (pc' := 28) (lo' := [some (.ref 8), some (.long x1), none, some (.int x2), some (.int x3), some (.int (fG_number ((x1).toUInt64 >>> (((32 : Int32)).toInt64.toUInt64 &&& Int64.toUInt64 63)).toInt64 x3)), some (.int p1)]) (st' := [.int x2]) (h' := cs_H c rest) ckS_answerWrite rfl ?_
    refine ab_callS (bc2 := 0) (bs2 := 0) (as := [_]) (rest := []) ckS_answerWrite rfl (by decide +kernel) wC_isCount (tC_isCount (d := d + 2) (x1 := x2)) (by omega) ⟨Nat.le_refl _, Nat.le_refl _⟩ (Nat.le_of_ble_eq_true rfl) ?_
    rintro _ _ ⟨rfl, rfl⟩
    refine ab_if_eq ckS_answerWrite rfl (fun (h2 : (fC_isCount x2) = 0) => ?_) (fun (h2 : ¬ ((fC_isCount x2) = 0)) => ?_)
    · refine ab_go 1 [] (pc' := 48) (lo' := [some (.ref 8), some (.long x1), none, some (.int x2), some (.int x3), some (.int (fG_number ((x1).toUInt64 >>> (((32 : Int32)).toInt64.toUInt64 &&& Int64.toUInt64 63)).toInt64 x3)), some (.int p1)]) (st' := [.int p1]) (h' := cs_H c rest) ckS_answerWrite rfl ?_
      refine ab_if_eq ckS_answerWrite rfl (fun _ => ?_) (fun hh => absurd h1 hh)
      refine ab_go 3 [] (pc' := 66) (lo' := [some (.ref 8), some (.long x1), none, some (.int x2), some (.int x3), some (.int (fG_number ((x1).toUInt64 >>> (((32 : Int32)).toInt64.toUInt64 &&& Int64.toUInt64 63)).toInt64 x3)), some (.int p1)]) (st' := [.int (fG_number ((x1).toUInt64 >>> (((32 : Int32)).toInt64.toUInt64 &&& Int64.toUInt64 63)).toInt64 x3), .int x2, .ref 8]) (h' := cs_H c rest) ckS_answerWrite rfl ?_
      rcases e3 : fS_write c x2 (fG_number ((x1).toUInt64 >>> (((32 : Int32)).toInt64.toUInt64 &&& Int64.toUInt64 63)).toInt64 x3) with _ | p3
      · exact ab_no hv (by simp only [fS_answerWrite, e1, ab_bd_s, if_pos h1, if_pos h2, e3, ab_bd_n])
      refine ab_callV (bc2 := 0) (bs2 := 0) (as := [_, _]) (rest := []) ckS_answerWrite rfl (by decide +kernel) wS_write (tS_write (d := d) (x1 := x2) (x2 := (fG_number ((x1).toUInt64 >>> (((32 : Int32)).toInt64.toUInt64 &&& Int64.toUInt64 63)).toInt64 x3)) (c := c) hX (v := p3) e3) rfl rfl (by omega) ⟨Nat.le_refl _, Nat.le_refl _⟩ (Nat.le_of_ble_eq_true rfl) ?_
      rintro _ _ ⟨rfl, rfl⟩
      refine ab_go 4 [] (pc' := 74) (lo' := [some (.ref 8), some (.long x1), none, some (.int x2), some (.int x3), some (.int (fG_number ((x1).toUInt64 >>> (((32 : Int32)).toInt64.toUInt64 &&& Int64.toUInt64 63)).toInt64 x3)), some (.int p1)]) (st' := [.int (0 : Int32), .int (96 : Int32), .long x1, .ref 8]) (h' := cs_H p3 rest) ckS_answerWrite rfl ?_
      rcases e4 : fS_sendAnswer p3 x1 (96 : Int32) (0 : Int32) with _ | p4
      · exact ab_no hv (by simp only [fS_answerWrite, e1, ab_bd_s, if_pos h1, if_pos h2, e3, ab_bd_s, e4, ab_bd_n])
      refine ab_callV (bc2 := 0) (bs2 := 0) (as := [_, _, _]) (rest := []) ckS_answerWrite rfl (by decide +kernel) wS_sendAnswer (tS_sendAnswer (d := d + 1) (x1 := x1) (x2 := (96 : Int32)) (x3 := (0 : Int32)) (c := p3) (v := p4) e4) rfl rfl (by omega) ⟨Nat.le_refl _, Nat.le_refl _⟩ (Nat.le_of_ble_eq_true rfl) ?_
      rintro _ _ ⟨rfl, rfl⟩
      have e : fS_answerWrite c x1 x2 x3 = some p4 := by simp only [fS_answerWrite, e1, ab_bd_s, if_pos h1, if_pos h2, e3, ab_bd_s, e4, ab_bd_s]
      obtain rfl := Option.some.inj (e.symm.trans hv)
      exact ab_vret ckS_answerWrite rfl rfl ⟨rfl, rfl⟩
    · refine ab_go 4 [] (pc' := 41) (lo' := [some (.ref 8), some (.long x1), none, some (.int x2), some (.int x3), some (.int (fG_number ((x1).toUInt64 >>> (((32 : Int32)).toInt64.toUInt64 &&& Int64.toUInt64 63)).toInt64 x3)), some (.int p1)]) (st' := [.int (fG_number ((x1).toUInt64 >>> (((32 : Int32)).toInt64.toUInt64 &&& Int64.toUInt64 63)).toInt64 x3), .int x2, .ref 9]) (h' := cs_H c rest) ckS_answerWrite rfl ?_
      rcases e5 : fG_refusalOfCount c x2 (fG_number ((x1).toUInt64 >>> (((32 : Int32)).toInt64.toUInt64 &&& Int64.toUInt64 63)).toInt64 x3) with _ | p5
      · exact ab_no hv (by simp only [fS_answerWrite, e1, ab_bd_s, if_pos h1, if_neg h2, e5, ab_bd_n])
      refine ab_callS (bc2 := 0) (bs2 := 0) (as := [_, _, _]) (rest := []) ckS_answerWrite rfl (by decide +kernel) wG_refusalOfCount (tG_refusalOfCount (d := d) (x2 := x2) (x3 := (fG_number ((x1).toUInt64 >>> (((32 : Int32)).toInt64.toUInt64 &&& Int64.toUInt64 63)).toInt64 x3)) (c := c) hX (v := p5) e5) (by omega) ⟨Nat.le_refl _, Nat.le_refl _⟩ (Nat.le_of_ble_eq_true rfl) ?_
      rintro _ _ ⟨rfl, rfl⟩
      refine ab_go 2 [] (pc' := 48) (lo' := [some (.ref 8), some (.long x1), none, some (.int x2), some (.int x3), some (.int (fG_number ((x1).toUInt64 >>> (((32 : Int32)).toInt64.toUInt64 &&& Int64.toUInt64 63)).toInt64 x3)), some (.int p5)]) (st' := [.int p5]) (h' := cs_H c rest) ckS_answerWrite rfl ?_
      refine ab_if_eq ckS_answerWrite rfl (fun (h3 : p5 = 0) => ?_) (fun (h3 : ¬ (p5 = 0)) => ?_)
      · refine ab_go 3 [] (pc' := 66) (lo' := [some (.ref 8), some (.long x1), none, some (.int x2), some (.int x3), some (.int (fG_number ((x1).toUInt64 >>> (((32 : Int32)).toInt64.toUInt64 &&& Int64.toUInt64 63)).toInt64 x3)), some (.int p5)]) (st' := [.int (fG_number ((x1).toUInt64 >>> (((32 : Int32)).toInt64.toUInt64 &&& Int64.toUInt64 63)).toInt64 x3), .int x2, .ref 8]) (h' := cs_H c rest) ckS_answerWrite rfl ?_
        rcases e6 : fS_write c x2 (fG_number ((x1).toUInt64 >>> (((32 : Int32)).toInt64.toUInt64 &&& Int64.toUInt64 63)).toInt64 x3) with _ | p6
        · exact ab_no hv (by simp only [fS_answerWrite, e1, ab_bd_s, if_pos h1, if_neg h2, e5, ab_bd_s, if_pos h3, e6, ab_bd_n])
        refine ab_callV (bc2 := 0) (bs2 := 0) (as := [_, _]) (rest := []) ckS_answerWrite rfl (by decide +kernel) wS_write (tS_write (d := d) (x1 := x2) (x2 := (fG_number ((x1).toUInt64 >>> (((32 : Int32)).toInt64.toUInt64 &&& Int64.toUInt64 63)).toInt64 x3)) (c := c) hX (v := p6) e6) rfl rfl (by omega) ⟨Nat.le_refl _, Nat.le_refl _⟩ (Nat.le_of_ble_eq_true rfl) ?_
        rintro _ _ ⟨rfl, rfl⟩
        refine ab_go 4 [] (pc' := 74) (lo' := [some (.ref 8), some (.long x1), none, some (.int x2), some (.int x3), some (.int (fG_number ((x1).toUInt64 >>> (((32 : Int32)).toInt64.toUInt64 &&& Int64.toUInt64 63)).toInt64 x3)), some (.int p5)]) (st' := [.int (0 : Int32), .int (96 : Int32), .long x1, .ref 8]) (h' := cs_H p6 rest) ckS_answerWrite rfl ?_
        rcases e7 : fS_sendAnswer p6 x1 (96 : Int32) (0 : Int32) with _ | p7
        · exact ab_no hv (by simp only [fS_answerWrite, e1, ab_bd_s, if_pos h1, if_neg h2, e5, ab_bd_s, if_pos h3, e6, ab_bd_s, e7, ab_bd_n])
        refine ab_callV (bc2 := 0) (bs2 := 0) (as := [_, _, _]) (rest := []) ckS_answerWrite rfl (by decide +kernel) wS_sendAnswer (tS_sendAnswer (d := d + 1) (x1 := x1) (x2 := (96 : Int32)) (x3 := (0 : Int32)) (c := p6) (v := p7) e7) rfl rfl (by omega) ⟨Nat.le_refl _, Nat.le_refl _⟩ (Nat.le_of_ble_eq_true rfl) ?_
        rintro _ _ ⟨rfl, rfl⟩
        have e : fS_answerWrite c x1 x2 x3 = some p7 := by simp only [fS_answerWrite, e1, ab_bd_s, if_pos h1, if_neg h2, e5, ab_bd_s, if_pos h3, e6, ab_bd_s, e7, ab_bd_s]
        obtain rfl := Option.some.inj (e.symm.trans hv)
        exact ab_vret ckS_answerWrite rfl rfl ⟨rfl, rfl⟩
      · refine ab_go 4 [] (pc' := 58) (lo' := [some (.ref 8), some (.long x1), none, some (.int x2), some (.int x3), some (.int (fG_number ((x1).toUInt64 >>> (((32 : Int32)).toInt64.toUInt64 &&& Int64.toUInt64 63)).toInt64 x3)), some (.int p5)]) (st' := [.int p5, .int (128 : Int32), .long x1, .ref 8]) (h' := cs_H c rest) ckS_answerWrite rfl ?_
        rcases e8 : fS_sendAnswer c x1 (128 : Int32) p5 with _ | p8
        · exact ab_no hv (by simp only [fS_answerWrite, e1, ab_bd_s, if_pos h1, if_neg h2, e5, ab_bd_s, if_neg h3, e8, ab_bd_n])
        refine ab_callV (bc2 := 0) (bs2 := 0) (as := [_, _, _]) (rest := []) ckS_answerWrite rfl (by decide +kernel) wS_sendAnswer (tS_sendAnswer (d := d + 1) (x1 := x1) (x2 := (128 : Int32)) (x3 := p5) (c := c) (v := p8) e8) rfl rfl (by omega) ⟨Nat.le_refl _, Nat.le_refl _⟩ (Nat.le_of_ble_eq_true rfl) ?_
        rintro _ _ ⟨rfl, rfl⟩
        have e : fS_answerWrite c x1 x2 x3 = some p8 := by simp only [fS_answerWrite, e1, ab_bd_s, if_pos h1, if_neg h2, e5, ab_bd_s, if_neg h3, e8, ab_bd_s]
        obtain rfl := Option.some.inj (e.symm.trans hv)
        exact ab_vret ckS_answerWrite rfl rfl ⟨rfl, rfl⟩
def fS_answerRead (c : cs_S) (x1 : Int64) (x2 : Int32) : Option (cs_S) := (ab_bd (fC_kind x2) (fun p1 => (if p1 = (1 : Int32) then (ab_bd (fS_sendAnswer c x1 (128 : Int32) (100728833 : Int32)) (fun p5 => (some p5))) else (ab_bd (fS_refreshStatus c) (fun p2 => (ab_bd (fC_bytes x2) (fun p3 => (if ab_inb x2 30 = true then (ab_bd (fS_sendAnswer p2 x1 (fN_readAnswer p3) (p2.1 1 (x2).toNatClampNeg)) (fun p4 => (some p4))) else none))))))))
theorem tS_answerRead {x1 : Int64} {x2 : Int32} (hX : cs_X X) {v : cs_S} (hv : fS_answerRead c x1 x2 = some v) : ab_M X mS_answerRead (d + 4) 0 0 [.ref 8, .long x1, .int x2] (cs_H c rest) (fun r9 h9 => r9 = none ∧ h9 = cs_H v rest) := by
  refine ab_entry (by decide) (Nat.le_of_ble_eq_true rfl) ?_
  refine ab_go 1 [] (pc' := 1) (lo' := [some (.ref 8), some (.long x1), none, some (.int x2)]) (st' := [.int x2]) (h' := cs_H c rest) ckS_answerRead rfl ?_
  rcases e1 : fC_kind x2 with _ | p1
  · exact ab_no hv (by simp only [fS_answerRead, e1, ab_bd_n])
  refine ab_callS (bc2 := 0) (bs2 := 0) (as := [_]) (rest := []) ckS_answerRead rfl (by decide +kernel) wC_kind (tC_kind (d := d + 3) (x1 := x2) hX (v := p1) e1) (by omega) ⟨Nat.le_refl _, Nat.le_refl _⟩ (Nat.le_of_ble_eq_true rfl) ?_
  rintro _ _ ⟨rfl, rfl⟩
  refine ab_go 1 [] (pc' := 5) (lo' := [some (.ref 8), some (.long x1), none, some (.int x2)]) (st' := [.int (1 : Int32), .int p1]) (h' := cs_H c rest) ckS_answerRead rfl ?_
  refine ab_icmp_ne ckS_answerRead rfl (fun (h1 : ¬ (p1 = (1 : Int32))) => ?_) (fun (h1 : p1 = (1 : Int32)) => ?_)
  · refine ab_go 1 [] (pc' := 20) (lo' := [some (.ref 8), some (.long x1), none, some (.int x2)]) (st' := [.ref 8]) (h' := cs_H c rest) ckS_answerRead rfl ?_
    rcases e2 : fS_refreshStatus c with _ | p2
    · exact ab_no hv (by simp only [fS_answerRead, e1, ab_bd_s, if_neg h1, e2, ab_bd_n])
    refine ab_callV (bc2 := 0) (bs2 := 0) (as := []) (rest := []) ckS_answerRead rfl (by decide +kernel) wS_refreshStatus (tS_refreshStatus (d := d) (c := c) hX (v := p2) e2) rfl rfl (by omega) ⟨Nat.le_refl _, Nat.le_refl _⟩ (Nat.le_of_ble_eq_true rfl) ?_
    rintro _ _ ⟨rfl, rfl⟩
    refine ab_go 3 [] (pc' := 26) (lo' := [some (.ref 8), some (.long x1), none, some (.int x2)]) (st' := [.int x2, .long x1, .ref 8]) (h' := cs_H p2 rest) ckS_answerRead rfl ?_
    rcases e3 : fC_bytes x2 with _ | p3
    · exact ab_no hv (by simp only [fS_answerRead, e1, ab_bd_s, if_neg h1, e2, ab_bd_s, e3, ab_bd_n])
    refine ab_callS (bc2 := 0) (bs2 := 0) (as := [_]) (rest := [_, _]) ckS_answerRead rfl (by decide +kernel) wC_bytes (tC_bytes (d := d + 3) (x1 := x2) hX (v := p3) e3) (by omega) ⟨Nat.le_refl _, Nat.le_refl _⟩ (Nat.le_of_ble_eq_true rfl) ?_
    rintro _ _ ⟨rfl, rfl⟩
    refine ab_callS (bc2 := 0) (bs2 := 0) (as := [_]) (rest := [_, _]) ckS_answerRead rfl (by decide +kernel) wN_readAnswer (tN_readAnswer (d := d + 3) (x1 := p3)) (by omega) ⟨Nat.le_refl _, Nat.le_refl _⟩ (Nat.le_of_ble_eq_true rfl) ?_
    rintro _ _ ⟨rfl, rfl⟩
    refine ab_go 3 [] (pc' := 37) (lo' := [some (.ref 8), some (.long x1), none, some (.int x2)]) (st' := [.int x2, .ref 9, .int (fN_readAnswer p3), .long x1, .ref 8]) (h' := cs_H p2 rest) ckS_answerRead rfl ?_
    by_cases h2 : ab_inb x2 30 = true
    case neg => exact ab_no hv (by simp only [fS_answerRead, e1, ab_bd_s, if_neg h1, e2, ab_bd_s, e3, ab_bd_s, if_neg h2])
    refine ab_iald ckS_answerRead rfl rfl (ab_inb_ok h2) ?_
    rcases e4 : fS_sendAnswer p2 x1 (fN_readAnswer p3) (p2.1 1 (x2).toNatClampNeg) with _ | p4
    · exact ab_no hv (by simp only [fS_answerRead, e1, ab_bd_s, if_neg h1, e2, ab_bd_s, e3, ab_bd_s, if_pos h2, e4, ab_bd_n])
    refine ab_callV (bc2 := 0) (bs2 := 0) (as := [_, _, _]) (rest := []) ckS_answerRead rfl (by decide +kernel) wS_sendAnswer (tS_sendAnswer (d := d + 2) (x1 := x1) (x2 := (fN_readAnswer p3)) (x3 := (p2.1 1 (x2).toNatClampNeg)) (c := p2) (v := p4) e4) rfl rfl (by omega) ⟨Nat.le_refl _, Nat.le_refl _⟩ (Nat.le_of_ble_eq_true rfl) ?_
    rintro _ _ ⟨rfl, rfl⟩
    have e : fS_answerRead c x1 x2 = some p4 := by simp only [fS_answerRead, e1, ab_bd_s, if_neg h1, e2, ab_bd_s, e3, ab_bd_s, if_pos h2, e4, ab_bd_s]
    obtain rfl := Option.some.inj (e.symm.trans hv)
    exact ab_vret ckS_answerRead rfl rfl ⟨rfl, rfl⟩
  · refine ab_go 4 [] (pc' := 15) (lo' := [some (.ref 8), some (.long x1), none, some (.int x2)]) (st' := [.int (100728833 : Int32), .int (128 : Int32), .long x1, .ref 8]) (h' := cs_H c rest) ckS_answerRead rfl ?_
    rcases e5 : fS_sendAnswer c x1 (128 : Int32) (100728833 : Int32) with _ | p5
    · exact ab_no hv (by simp only [fS_answerRead, e1, ab_bd_s, if_pos h1, e5, ab_bd_n])
    refine ab_callV (bc2 := 0) (bs2 := 0) (as := [_, _, _]) (rest := []) ckS_answerRead rfl (by decide +kernel) wS_sendAnswer (tS_sendAnswer (d := d + 2) (x1 := x1) (x2 := (128 : Int32)) (x3 := (100728833 : Int32)) (c := c) (v := p5) e5) rfl rfl (by omega) ⟨Nat.le_refl _, Nat.le_refl _⟩ (Nat.le_of_ble_eq_true rfl) ?_
    rintro _ _ ⟨rfl, rfl⟩
    have e : fS_answerRead c x1 x2 = some p5 := by simp only [fS_answerRead, e1, ab_bd_s, if_pos h1, e5, ab_bd_s]
    obtain rfl := Option.some.inj (e.symm.trans hv)
    exact ab_vret ckS_answerRead rfl rfl ⟨rfl, rfl⟩
def fS_acceptChannel (c : cs_S) (x1 : Int32) (x2 : Int64) : Option (Int32 × cs_S) := (if x1 = (8 : Int32) then (if (c.1 0 1) = (4 : Int32) then (some ((0 : Int32), c)) else (if ((x2).toInt32 &&& (255 : Int32)) = (128 : Int32) then (some ((4 : Int32), c)) else (ab_bd (fC_find ((((x2).toUInt64 >>> (((8 : Int32)).toInt64.toUInt64 &&& Int64.toUInt64 63)).toInt64).toInt32 &&& (65535 : Int32)) ((((x2).toUInt64 >>> (((24 : Int32)).toInt64.toUInt64 &&& Int64.toUInt64 63)).toInt64).toInt32 &&& (255 : Int32))) (fun p1 => (ab_bd (fN_refusalOfAddress ((x2).toInt32 &&& (255 : Int32)) ((((x2).toUInt64 >>> (((8 : Int32)).toInt64.toUInt64 &&& Int64.toUInt64 63)).toInt64).toInt32 &&& (65535 : Int32)) p1) (fun p2 => (if p2 = 0 then (if p1 = (-1 : Int32) then (ab_bd (fS_sendAnswer c x2 (128 : Int32) p2) (fun p6 => (some ((4 : Int32), p6)))) else (if ((x2).toInt32 &&& (255 : Int32)) = (64 : Int32) then (ab_bd (fS_answerRead c x2 p1) (fun p5 => (some ((4 : Int32), p5)))) else (ab_bd (fS_answerWrite c x2 p1 (fN_bytesWritten ((x2).toInt32 &&& (255 : Int32)))) (fun p4 => (some ((4 : Int32), p4)))))) else (ab_bd (fS_sendAnswer c x2 (128 : Int32) p2) (fun p3 => (some ((4 : Int32), p3))))))))))) else (some ((0 : Int32), c)))
set_option maxRecDepth 20000 in
set_option maxHeartbeats 4000000 in
theorem tS_acceptChannel {x1 : Int32} {x2 : Int64} (hX : cs_X X) {v : Int32 × cs_S} (hv : fS_acceptChannel c x1 x2 = some v) : ab_M X mS_acceptChannel (d + 5) 0 0 [.ref 8, .int x1, .long x2] (cs_H c rest) (fun r9 h9 => r9 = some (Value.int v.1) ∧ h9 = cs_H v.2 rest) := by
  refine ab_entry (by decide) (Nat.le_of_ble_eq_true rfl) ?_
  refine ab_go 2 [] (pc' := 3) (lo' := [some (.ref 8), some (.int x1), some (.long x2), none, none, none, none, none, none]) (st' := [.int (8 : Int32), .int x1]) (h' := cs_H c rest) ckS_acceptChannel rfl ?_
  refine ab_icmp_ne ckS_acceptChannel rfl (fun (h1 : ¬ (x1 = (8 : Int32))) => ?_) (fun (h1 : x1 = (8 : Int32)) => ?_)
  · refine ab_go 1 [] (pc' := 15) (lo' := [some (.ref 8), some (.int x1), some (.long x2), none, none, none, none, none, none]) (st' := [.int (0 : Int32)]) (h' := cs_H c rest) ckS_acceptChannel rfl ?_
    have e : fS_acceptChannel c x1 x2 = some ((0 : Int32), c) := by simp only [fS_acceptChannel, if_neg h1]
    obtain rfl := Option.some.inj (e.symm.trans hv)
    exact ab_iret ckS_acceptChannel rfl rfl ⟨rfl, rfl⟩
  · refine ab_go 3 [] (pc' := 11) (lo' := [some (.ref 8), some (.int x1), some (.long x2), none, none, none, none, none, none]) (st' := [.int (4 : Int32), .int (c.1 0 1)]) (h' := cs_H c rest) ckS_acceptChannel rfl ?_
    refine ab_icmp_ne ckS_acceptChannel rfl (fun (h2 : ¬ ((c.1 0 1) = (4 : Int32))) => ?_) (fun (h2 : (c.1 0 1) = (4 : Int32)) => ?_)
    · refine ab_go 7 [] (pc' := 29) (lo' := [some (.ref 8), some (.int x1), some (.long x2), none, some (.int ((x2).toInt32 &&& (255 : Int32))), none, none, none, none]) (st' := [.int (128 : Int32), .int ((x2).toInt32 &&& (255 : Int32))]) (h' := cs_H c rest) ckS_acceptChannel rfl ?_
      refine ab_icmp_ne ckS_acceptChannel rfl (fun (h3 : ¬ (((x2).toInt32 &&& (255 : Int32)) = (128 : Int32))) => ?_) (fun (h3 : ((x2).toInt32 &&& (255 : Int32)) = (128 : Int32)) => ?_)
      · refine ab_go 12 [] (pc' := 52) (lo' := [some (.ref 8), some (.int x1), some (.long x2), none, some (.int ((x2).toInt32 &&& (255 : Int32))), some (.int ((((x2).toUInt64 >>> (((8 : Int32)).toInt64.toUInt64 &&& Int64.toUInt64 63)).toInt64).toInt32 &&& (65535 : Int32))), none, none, none]) (st' := [.int (255 : Int32), .int (((x2).toUInt64 >>> (((24 : Int32)).toInt64.toUInt64 &&& Int64.toUInt64 63)).toInt64).toInt32]) (h' := cs_H c rest) ckS_acceptChannel rfl ?_
        refine ab_go 4 [] (pc' := 59) (lo' := [some (.ref 8), some (.int x1), some (.long x2), none, some (.int ((x2).toInt32 &&& (255 : Int32))), some (.int ((((x2).toUInt64 >>> (((8 : Int32)).toInt64.toUInt64 &&& Int64.toUInt64 63)).toInt64).toInt32 &&& (65535 : Int32))), some (.int ((((x2).toUInt64 >>> (((24 : Int32)).toInt64.toUInt64 &&& Int64.toUInt64 63)).toInt64).toInt32 &&& (255 : Int32))), none, none]) (st' := [.int ((((x2).toUInt64 >>> (((24 : Int32)).toInt64.toUInt64 &&& Int64.toUInt64 63)).toInt64).toInt32 &&& (255 : Int32)), .int ((((x2).toUInt64 >>> (((8 : Int32)).toInt64.toUInt64 &&& Int64.toUInt64 63)).toInt64).toInt32 &&& (65535 : Int32))]) (h' := cs_H c rest) ckS_acceptChannel rfl ?_
        rcases e1 : fC_find ((((x2).toUInt64 >>> (((8 : Int32)).toInt64.toUInt64 &&& Int64.toUInt64 63)).toInt64).toInt32 &&& (65535 : Int32)) ((((x2).toUInt64 >>> (((24 : Int32)).toInt64.toUInt64 &&& Int64.toUInt64 63)).toInt64).toInt32 &&& (255 : Int32)) with _ | p1
        · exact ab_no hv (by simp only [fS_acceptChannel, if_pos h1, if_neg h2, if_neg h3, e1, ab_bd_n])
        refine ab_callS (bc2 := 0) (bs2 := 0) (as := [_, _]) (rest := []) ckS_acceptChannel rfl (by decide +kernel) wC_find (tC_find (d := d + 4) (x1 := ((((x2).toUInt64 >>> (((8 : Int32)).toInt64.toUInt64 &&& Int64.toUInt64 63)).toInt64).toInt32 &&& (65535 : Int32))) (x2 := ((((x2).toUInt64 >>> (((24 : Int32)).toInt64.toUInt64 &&& Int64.toUInt64 63)).toInt64).toInt32 &&& (255 : Int32))) hX (v := p1) e1) (by omega) ⟨Nat.le_refl _, Nat.le_refl _⟩ (Nat.le_of_ble_eq_true rfl) ?_
        rintro _ _ ⟨rfl, rfl⟩
        refine ab_go 4 [] (pc' := 70) (lo' := [some (.ref 8), some (.int x1), some (.long x2), none, some (.int ((x2).toInt32 &&& (255 : Int32))), some (.int ((((x2).toUInt64 >>> (((8 : Int32)).toInt64.toUInt64 &&& Int64.toUInt64 63)).toInt64).toInt32 &&& (65535 : Int32))), some (.int ((((x2).toUInt64 >>> (((24 : Int32)).toInt64.toUInt64 &&& Int64.toUInt64 63)).toInt64).toInt32 &&& (255 : Int32))), some (.int p1), none]) (st' := [.int p1, .int ((((x2).toUInt64 >>> (((8 : Int32)).toInt64.toUInt64 &&& Int64.toUInt64 63)).toInt64).toInt32 &&& (65535 : Int32)), .int ((x2).toInt32 &&& (255 : Int32))]) (h' := cs_H c rest) ckS_acceptChannel rfl ?_
        rcases e2 : fN_refusalOfAddress ((x2).toInt32 &&& (255 : Int32)) ((((x2).toUInt64 >>> (((8 : Int32)).toInt64.toUInt64 &&& Int64.toUInt64 63)).toInt64).toInt32 &&& (65535 : Int32)) p1 with _ | p2
        · exact ab_no hv (by simp only [fS_acceptChannel, if_pos h1, if_neg h2, if_neg h3, e1, ab_bd_s, e2, ab_bd_n])
        refine ab_callS (bc2 := 0) (bs2 := 0) (as := [_, _, _]) (rest := []) ckS_acceptChannel rfl (by decide +kernel) wN_refusalOfAddress (tN_refusalOfAddress (d := d + 3) (x1 := ((x2).toInt32 &&& (255 : Int32))) (x2 := ((((x2).toUInt64 >>> (((8 : Int32)).toInt64.toUInt64 &&& Int64.toUInt64 63)).toInt64).toInt32 &&& (65535 : Int32))) (x3 := p1) hX (v := p2) e2) (by omega) ⟨Nat.le_refl _, Nat.le_refl _⟩ (Nat.le_of_ble_eq_true rfl) ?_
        rintro _ _ ⟨rfl, rfl⟩
        refine ab_go 2 [] (pc' := 77) (lo' := [some (.ref 8), some (.int x1), some (.long x2), none, some (.int ((x2).toInt32 &&& (255 : Int32))), some (.int ((((x2).toUInt64 >>> (((8 : Int32)).toInt64.toUInt64 &&& Int64.toUInt64 63)).toInt64).toInt32 &&& (65535 : Int32))), some (.int ((((x2).toUInt64 >>> (((24 : Int32)).toInt64.toUInt64 &&& Int64.toUInt64 63)).toInt64).toInt32 &&& (255 : Int32))), some (.int p1), some (.int p2)]) (st' := [.int p2]) (h' := cs_H c rest) ckS_acceptChannel rfl ?_
        refine ab_if_ne ckS_acceptChannel rfl (fun (h4 : ¬ (p2 = 0)) => ?_) (fun (h4 : p2 = 0) => ?_)
        · refine ab_go 4 [] (pc' := 93) (lo' := [some (.ref 8), some (.int x1), some (.long x2), none, some (.int ((x2).toInt32 &&& (255 : Int32))), some (.int ((((x2).toUInt64 >>> (((8 : Int32)).toInt64.toUInt64 &&& Int64.toUInt64 63)).toInt64).toInt32 &&& (65535 : Int32))), some (.int ((((x2).toUInt64 >>> (((24 : Int32)).toInt64.toUInt64 &&& Int64.toUInt64 63)).toInt64).toInt32 &&& (255 : Int32))), some (.int p1), some (.int p2)]) (st' := [.int p2, .int (128 : Int32), .long x2, .ref 8]) (h' := cs_H c rest) ckS_acceptChannel rfl ?_
          rcases e3 : fS_sendAnswer c x2 (128 : Int32) p2 with _ | p3
          · exact ab_no hv (by simp only [fS_acceptChannel, if_pos h1, if_neg h2, if_neg h3, e1, ab_bd_s, e2, ab_bd_s, if_neg h4, e3, ab_bd_n])
          refine ab_callV (bc2 := 0) (bs2 := 0) (as := [_, _, _]) (rest := []) ckS_acceptChannel rfl (by decide +kernel) wS_sendAnswer (tS_sendAnswer (d := d + 3) (x1 := x2) (x2 := (128 : Int32)) (x3 := p2) (c := c) (v := p3) e3) rfl rfl (by omega) ⟨Nat.le_refl _, Nat.le_refl _⟩ (Nat.le_of_ble_eq_true rfl) ?_
          rintro _ _ ⟨rfl, rfl⟩
          refine ab_go 2 [] (pc' := 129) (lo' := [some (.ref 8), some (.int x1), some (.long x2), none, some (.int ((x2).toInt32 &&& (255 : Int32))), some (.int ((((x2).toUInt64 >>> (((8 : Int32)).toInt64.toUInt64 &&& Int64.toUInt64 63)).toInt64).toInt32 &&& (65535 : Int32))), some (.int ((((x2).toUInt64 >>> (((24 : Int32)).toInt64.toUInt64 &&& Int64.toUInt64 63)).toInt64).toInt32 &&& (255 : Int32))), some (.int p1), some (.int p2)]) (st' := [.int (4 : Int32)]) (h' := cs_H p3 rest) ckS_acceptChannel rfl ?_
          have e : fS_acceptChannel c x1 x2 = some ((4 : Int32), p3) := by simp only [fS_acceptChannel, if_pos h1, if_neg h2, if_neg h3, e1, ab_bd_s, e2, ab_bd_s, if_neg h4, e3, ab_bd_s]
          obtain rfl := Option.some.inj (e.symm.trans hv)
          exact ab_iret ckS_acceptChannel rfl rfl ⟨rfl, rfl⟩
        · refine ab_go 2 [] (pc' := 83) (lo' := [some (.ref 8), some (.int x1), some (.long x2), none, some (.int ((x2).toInt32 &&& (255 : Int32))), some (.int ((((x2).toUInt64 >>> (((8 : Int32)).toInt64.toUInt64 &&& Int64.toUInt64 63)).toInt64).toInt32 &&& (65535 : Int32))), some (.int ((((x2).toUInt64 >>> (((24 : Int32)).toInt64.toUInt64 &&& Int64.toUInt64 63)).toInt64).toInt32 &&& (255 : Int32))), some (.int p1), some (.int p2)]) (st' := [.int (-1 : Int32), .int p1]) (h' := cs_H c rest) ckS_acceptChannel rfl ?_
          refine ab_icmp_ne ckS_acceptChannel rfl (fun (h5 : ¬ (p1 = (-1 : Int32))) => ?_) (fun (h5 : p1 = (-1 : Int32)) => ?_)
          · refine ab_go 2 [] (pc' := 103) (lo' := [some (.ref 8), some (.int x1), some (.long x2), none, some (.int ((x2).toInt32 &&& (255 : Int32))), some (.int ((((x2).toUInt64 >>> (((8 : Int32)).toInt64.toUInt64 &&& Int64.toUInt64 63)).toInt64).toInt32 &&& (65535 : Int32))), some (.int ((((x2).toUInt64 >>> (((24 : Int32)).toInt64.toUInt64 &&& Int64.toUInt64 63)).toInt64).toInt32 &&& (255 : Int32))), some (.int p1), some (.int p2)]) (st' := [.int (64 : Int32), .int ((x2).toInt32 &&& (255 : Int32))]) (h' := cs_H c rest) ckS_acceptChannel rfl ?_
            refine ab_icmp_ne ckS_acceptChannel rfl (fun (h6 : ¬ (((x2).toInt32 &&& (255 : Int32)) = (64 : Int32))) => ?_) (fun (h6 : ((x2).toInt32 &&& (255 : Int32)) = (64 : Int32)) => ?_)
            · refine ab_go 4 [] (pc' := 122) (lo' := [some (.ref 8), some (.int x1), some (.long x2), none, some (.int ((x2).toInt32 &&& (255 : Int32))), some (.int ((((x2).toUInt64 >>> (((8 : Int32)).toInt64.toUInt64 &&& Int64.toUInt64 63)).toInt64).toInt32 &&& (65535 : Int32))), some (.int ((((x2).toUInt64 >>> (((24 : Int32)).toInt64.toUInt64 &&& Int64.toUInt64 63)).toInt64).toInt32 &&& (255 : Int32))), some (.int p1), some (.int p2)]) (st' := [.int ((x2).toInt32 &&& (255 : Int32)), .int p1, .long x2, .ref 8]) (h' := cs_H c rest) ckS_acceptChannel rfl ?_
              refine ab_callS (bc2 := 0) (bs2 := 0) (as := [_]) (rest := [_, _, _]) ckS_acceptChannel rfl (by decide +kernel) wN_bytesWritten (tN_bytesWritten (d := d + 4) (x1 := ((x2).toInt32 &&& (255 : Int32)))) (by omega) ⟨Nat.le_refl _, Nat.le_refl _⟩ (Nat.le_of_ble_eq_true rfl) ?_
              rintro _ _ ⟨rfl, rfl⟩
              rcases e4 : fS_answerWrite c x2 p1 (fN_bytesWritten ((x2).toInt32 &&& (255 : Int32))) with _ | p4
              · exact ab_no hv (by simp only [fS_acceptChannel, if_pos h1, if_neg h2, if_neg h3, e1, ab_bd_s, e2, ab_bd_s, if_pos h4, if_neg h5, if_neg h6, e4, ab_bd_n])
              refine ab_callV (bc2 := 0) (bs2 := 0) (as := [_, _, _]) (rest := []) ckS_acceptChannel rfl (by decide +kernel) wS_answerWrite (tS_answerWrite (d := d + 1) (x1 := x2) (x2 := p1) (x3 := (fN_bytesWritten ((x2).toInt32 &&& (255 : Int32)))) (c := c) hX (v := p4) e4) rfl rfl (by omega) ⟨Nat.le_refl _, Nat.le_refl _⟩ (Nat.le_of_ble_eq_true rfl) ?_
              rintro _ _ ⟨rfl, rfl⟩
              refine ab_go 1 [] (pc' := 129) (lo' := [some (.ref 8), some (.int x1), some (.long x2), none, some (.int ((x2).toInt32 &&& (255 : Int32))), some (.int ((((x2).toUInt64 >>> (((8 : Int32)).toInt64.toUInt64 &&& Int64.toUInt64 63)).toInt64).toInt32 &&& (65535 : Int32))), some (.int ((((x2).toUInt64 >>> (((24 : Int32)).toInt64.toUInt64 &&& Int64.toUInt64 63)).toInt64).toInt32 &&& (255 : Int32))), some (.int p1), some (.int p2)]) (st' := [.int (4 : Int32)]) (h' := cs_H p4 rest) ckS_acceptChannel rfl ?_
              have e : fS_acceptChannel c x1 x2 = some ((4 : Int32), p4) := by simp only [fS_acceptChannel, if_pos h1, if_neg h2, if_neg h3, e1, ab_bd_s, e2, ab_bd_s, if_pos h4, if_neg h5, if_neg h6, e4, ab_bd_s]
              obtain rfl := Option.some.inj (e.symm.trans hv)
              exact ab_iret ckS_acceptChannel rfl rfl ⟨rfl, rfl⟩
            · refine ab_go 3 [] (pc' := 110) (lo' := [some (.ref 8), some (.int x1), some (.long x2), none, some (.int ((x2).toInt32 &&& (255 : Int32))), some (.int ((((x2).toUInt64 >>> (((8 : Int32)).toInt64.toUInt64 &&& Int64.toUInt64 63)).toInt64).toInt32 &&& (65535 : Int32))), some (.int ((((x2).toUInt64 >>> (((24 : Int32)).toInt64.toUInt64 &&& Int64.toUInt64 63)).toInt64).toInt32 &&& (255 : Int32))), some (.int p1), some (.int p2)]) (st' := [.int p1, .long x2, .ref 8]) (h' := cs_H c rest) ckS_acceptChannel rfl ?_
              rcases e5 : fS_answerRead c x2 p1 with _ | p5
              · exact ab_no hv (by simp only [fS_acceptChannel, if_pos h1, if_neg h2, if_neg h3, e1, ab_bd_s, e2, ab_bd_s, if_pos h4, if_neg h5, if_pos h6, e5, ab_bd_n])
              refine ab_callV (bc2 := 0) (bs2 := 0) (as := [_, _]) (rest := []) ckS_acceptChannel rfl (by decide +kernel) wS_answerRead (tS_answerRead (d := d) (x1 := x2) (x2 := p1) (c := c) hX (v := p5) e5) rfl rfl (by omega) ⟨Nat.le_refl _, Nat.le_refl _⟩ (Nat.le_of_ble_eq_true rfl) ?_
              rintro _ _ ⟨rfl, rfl⟩
              refine ab_go 2 [] (pc' := 129) (lo' := [some (.ref 8), some (.int x1), some (.long x2), none, some (.int ((x2).toInt32 &&& (255 : Int32))), some (.int ((((x2).toUInt64 >>> (((8 : Int32)).toInt64.toUInt64 &&& Int64.toUInt64 63)).toInt64).toInt32 &&& (65535 : Int32))), some (.int ((((x2).toUInt64 >>> (((24 : Int32)).toInt64.toUInt64 &&& Int64.toUInt64 63)).toInt64).toInt32 &&& (255 : Int32))), some (.int p1), some (.int p2)]) (st' := [.int (4 : Int32)]) (h' := cs_H p5 rest) ckS_acceptChannel rfl ?_
              have e : fS_acceptChannel c x1 x2 = some ((4 : Int32), p5) := by simp only [fS_acceptChannel, if_pos h1, if_neg h2, if_neg h3, e1, ab_bd_s, e2, ab_bd_s, if_pos h4, if_neg h5, if_pos h6, e5, ab_bd_s]
              obtain rfl := Option.some.inj (e.symm.trans hv)
              exact ab_iret ckS_acceptChannel rfl rfl ⟨rfl, rfl⟩
          · refine ab_go 4 [] (pc' := 93) (lo' := [some (.ref 8), some (.int x1), some (.long x2), none, some (.int ((x2).toInt32 &&& (255 : Int32))), some (.int ((((x2).toUInt64 >>> (((8 : Int32)).toInt64.toUInt64 &&& Int64.toUInt64 63)).toInt64).toInt32 &&& (65535 : Int32))), some (.int ((((x2).toUInt64 >>> (((24 : Int32)).toInt64.toUInt64 &&& Int64.toUInt64 63)).toInt64).toInt32 &&& (255 : Int32))), some (.int p1), some (.int p2)]) (st' := [.int p2, .int (128 : Int32), .long x2, .ref 8]) (h' := cs_H c rest) ckS_acceptChannel rfl ?_
            rcases e6 : fS_sendAnswer c x2 (128 : Int32) p2 with _ | p6
            · exact ab_no hv (by simp only [fS_acceptChannel, if_pos h1, if_neg h2, if_neg h3, e1, ab_bd_s, e2, ab_bd_s, if_pos h4, if_pos h5, e6, ab_bd_n])
            refine ab_callV (bc2 := 0) (bs2 := 0) (as := [_, _, _]) (rest := []) ckS_acceptChannel rfl (by decide +kernel) wS_sendAnswer (tS_sendAnswer (d := d + 3) (x1 := x2) (x2 := (128 : Int32)) (x3 := p2) (c := c) (v := p6) e6) rfl rfl (by omega) ⟨Nat.le_refl _, Nat.le_refl _⟩ (Nat.le_of_ble_eq_true rfl) ?_
            rintro _ _ ⟨rfl, rfl⟩
            refine ab_go 2 [] (pc' := 129) (lo' := [some (.ref 8), some (.int x1), some (.long x2), none, some (.int ((x2).toInt32 &&& (255 : Int32))), some (.int ((((x2).toUInt64 >>> (((8 : Int32)).toInt64.toUInt64 &&& Int64.toUInt64 63)).toInt64).toInt32 &&& (65535 : Int32))), some (.int ((((x2).toUInt64 >>> (((24 : Int32)).toInt64.toUInt64 &&& Int64.toUInt64 63)).toInt64).toInt32 &&& (255 : Int32))), some (.int p1), some (.int p2)]) (st' := [.int (4 : Int32)]) (h' := cs_H p6 rest) ckS_acceptChannel rfl ?_
            have e : fS_acceptChannel c x1 x2 = some ((4 : Int32), p6) := by simp only [fS_acceptChannel, if_pos h1, if_neg h2, if_neg h3, e1, ab_bd_s, e2, ab_bd_s, if_pos h4, if_pos h5, e6, ab_bd_s]
            obtain rfl := Option.some.inj (e.symm.trans hv)
            exact ab_iret ckS_acceptChannel rfl rfl ⟨rfl, rfl⟩
      · refine ab_go 1 [] (pc' := 33) (lo' := [some (.ref 8), some (.int x1), some (.long x2), none, some (.int ((x2).toInt32 &&& (255 : Int32))), none, none, none, none]) (st' := [.int (4 : Int32)]) (h' := cs_H c rest) ckS_acceptChannel rfl ?_
        have e : fS_acceptChannel c x1 x2 = some ((4 : Int32), c) := by simp only [fS_acceptChannel, if_pos h1, if_neg h2, if_pos h3]
        obtain rfl := Option.some.inj (e.symm.trans hv)
        exact ab_iret ckS_acceptChannel rfl rfl ⟨rfl, rfl⟩
    · refine ab_go 1 [] (pc' := 15) (lo' := [some (.ref 8), some (.int x1), some (.long x2), none, none, none, none, none, none]) (st' := [.int (0 : Int32)]) (h' := cs_H c rest) ckS_acceptChannel rfl ?_
      have e : fS_acceptChannel c x1 x2 = some ((0 : Int32), c) := by simp only [fS_acceptChannel, if_pos h1, if_pos h2]
      obtain rfl := Option.some.inj (e.symm.trans hv)
      exact ab_iret ckS_acceptChannel rfl rfl ⟨rfl, rfl⟩
def fS_acceptHeartbeat (c : cs_S) (x1 : Int32) (x2 : Int32) : Int32 × cs_S := (if x2 = (1 : Int32) then (if x1 < (1 : Int32) then ((0 : Int32), c) else (if x1 = ((c.1 1 3) >>> ((16 : Int32) &&& 31)) then (if (fS_watchTime c) = 0 then ((0 : Int32), c) else (let p1 := fH_arm c; ((5 : Int32), p1))) else ((0 : Int32), c))) else ((0 : Int32), c))
theorem tS_acceptHeartbeat {x1 : Int32} {x2 : Int32} : ab_M X mS_acceptHeartbeat (d + 1) 0 0 [.ref 8, .int x1, .int x2] (cs_H c rest) (fun r9 h9 => r9 = some (Value.int (fS_acceptHeartbeat c x1 x2).1) ∧ h9 = cs_H (fS_acceptHeartbeat c x1 x2).2 rest) := by
  refine ab_entry (by decide) (Nat.le_of_ble_eq_true rfl) ?_
  refine ab_go 9 [] (pc' := 12) (lo' := [some (.ref 8), some (.int x1), some (.int x2), some (.int ((c.1 1 3) >>> ((16 : Int32) &&& 31)))]) (st' := [.int (1 : Int32), .int x2]) (h' := cs_H c rest) ckS_acceptHeartbeat rfl ?_
  refine ab_icmp_ne ckS_acceptHeartbeat rfl (fun (h1 : ¬ (x2 = (1 : Int32))) => ?_) (fun (h1 : x2 = (1 : Int32)) => ?_)
  · refine ab_go 1 [] (pc' := 33) (lo' := [some (.ref 8), some (.int x1), some (.int x2), some (.int ((c.1 1 3) >>> ((16 : Int32) &&& 31)))]) (st' := [.int (0 : Int32)]) (h' := cs_H c rest) ckS_acceptHeartbeat rfl ?_
    have e : fS_acceptHeartbeat c x1 x2 = ((0 : Int32), c) := by simp only [fS_acceptHeartbeat, if_neg h1]
    exact ab_iret ckS_acceptHeartbeat rfl rfl ⟨(congrArg (fun q : Int32 × cs_S => some (Value.int q.1)) e).symm, (congrArg (fun q : Int32 × cs_S => cs_H q.2 rest) e).symm⟩
  · refine ab_go 2 [] (pc' := 17) (lo' := [some (.ref 8), some (.int x1), some (.int x2), some (.int ((c.1 1 3) >>> ((16 : Int32) &&& 31)))]) (st' := [.int (1 : Int32), .int x1]) (h' := cs_H c rest) ckS_acceptHeartbeat rfl ?_
    refine ab_icmp_lt ckS_acceptHeartbeat rfl (fun (h2 : x1 < (1 : Int32)) => ?_) (fun (h2 : ¬ (x1 < (1 : Int32))) => ?_)
    · refine ab_go 1 [] (pc' := 33) (lo' := [some (.ref 8), some (.int x1), some (.int x2), some (.int ((c.1 1 3) >>> ((16 : Int32) &&& 31)))]) (st' := [.int (0 : Int32)]) (h' := cs_H c rest) ckS_acceptHeartbeat rfl ?_
      have e : fS_acceptHeartbeat c x1 x2 = ((0 : Int32), c) := by simp only [fS_acceptHeartbeat, if_pos h1, if_pos h2]
      exact ab_iret ckS_acceptHeartbeat rfl rfl ⟨(congrArg (fun q : Int32 × cs_S => some (Value.int q.1)) e).symm, (congrArg (fun q : Int32 × cs_S => cs_H q.2 rest) e).symm⟩
    · refine ab_go 2 [] (pc' := 22) (lo' := [some (.ref 8), some (.int x1), some (.int x2), some (.int ((c.1 1 3) >>> ((16 : Int32) &&& 31)))]) (st' := [.int ((c.1 1 3) >>> ((16 : Int32) &&& 31)), .int x1]) (h' := cs_H c rest) ckS_acceptHeartbeat rfl ?_
      refine ab_icmp_ne ckS_acceptHeartbeat rfl (fun (h3 : ¬ (x1 = ((c.1 1 3) >>> ((16 : Int32) &&& 31)))) => ?_) (fun (h3 : x1 = ((c.1 1 3) >>> ((16 : Int32) &&& 31))) => ?_)
      · refine ab_go 1 [] (pc' := 33) (lo' := [some (.ref 8), some (.int x1), some (.int x2), some (.int ((c.1 1 3) >>> ((16 : Int32) &&& 31)))]) (st' := [.int (0 : Int32)]) (h' := cs_H c rest) ckS_acceptHeartbeat rfl ?_
        have e : fS_acceptHeartbeat c x1 x2 = ((0 : Int32), c) := by simp only [fS_acceptHeartbeat, if_pos h1, if_neg h2, if_neg h3]
        exact ab_iret ckS_acceptHeartbeat rfl rfl ⟨(congrArg (fun q : Int32 × cs_S => some (Value.int q.1)) e).symm, (congrArg (fun q : Int32 × cs_S => cs_H q.2 rest) e).symm⟩
      · refine ab_go 1 [] (pc' := 26) (lo' := [some (.ref 8), some (.int x1), some (.int x2), some (.int ((c.1 1 3) >>> ((16 : Int32) &&& 31)))]) (st' := [.ref 8]) (h' := cs_H c rest) ckS_acceptHeartbeat rfl ?_
        refine ab_callV (bc2 := 0) (bs2 := 0) (as := []) (rest := []) ckS_acceptHeartbeat rfl (by decide +kernel) wS_watchTime (tS_watchTime (d := d) (c := c)) rfl rfl (by omega) ⟨Nat.le_refl _, Nat.le_refl _⟩ (Nat.le_of_ble_eq_true rfl) ?_
        rintro _ _ ⟨rfl, rfl⟩
        refine ab_if_ne ckS_acceptHeartbeat rfl (fun (h4 : ¬ ((fS_watchTime c) = 0)) => ?_) (fun (h4 : (fS_watchTime c) = 0) => ?_)
        · refine ab_go 2 [] (pc' := 38) (lo' := [some (.ref 8), some (.int x1), some (.int x2), some (.int ((c.1 1 3) >>> ((16 : Int32) &&& 31)))]) (st' := [.ref 21]) (h' := cs_H c rest) ckS_acceptHeartbeat rfl ?_
          refine ab_callV (bc2 := 0) (bs2 := 0) (as := []) (rest := []) ckS_acceptHeartbeat rfl (by decide +kernel) wH_arm (tH_arm (d := d) (c := c)) rfl rfl (by omega) ⟨Nat.le_refl _, Nat.le_refl _⟩ (Nat.le_of_ble_eq_true rfl) ?_
          rintro _ _ ⟨rfl, rfl⟩
          generalize e1 : fH_arm c = p1
          refine ab_go 1 [] (pc' := 42) (lo' := [some (.ref 8), some (.int x1), some (.int x2), some (.int ((c.1 1 3) >>> ((16 : Int32) &&& 31)))]) (st' := [.int (5 : Int32)]) (h' := cs_H p1 rest) ckS_acceptHeartbeat rfl ?_
          have e : fS_acceptHeartbeat c x1 x2 = ((5 : Int32), p1) := by simp only [fS_acceptHeartbeat, if_pos h1, if_neg h2, if_pos h3, if_neg h4, e1]
          exact ab_iret ckS_acceptHeartbeat rfl rfl ⟨(congrArg (fun q : Int32 × cs_S => some (Value.int q.1)) e).symm, (congrArg (fun q : Int32 × cs_S => cs_H q.2 rest) e).symm⟩
        · refine ab_go 1 [] (pc' := 33) (lo' := [some (.ref 8), some (.int x1), some (.int x2), some (.int ((c.1 1 3) >>> ((16 : Int32) &&& 31)))]) (st' := [.int (0 : Int32)]) (h' := cs_H c rest) ckS_acceptHeartbeat rfl ?_
          have e : fS_acceptHeartbeat c x1 x2 = ((0 : Int32), c) := by simp only [fS_acceptHeartbeat, if_pos h1, if_neg h2, if_pos h3, if_pos h4]
          exact ab_iret ckS_acceptHeartbeat rfl rfl ⟨(congrArg (fun q : Int32 × cs_S => some (Value.int q.1)) e).symm, (congrArg (fun q : Int32 × cs_S => cs_H q.2 rest) e).symm⟩
def fS_acceptIn (c : cs_S) (x1 : Int32) (x2 : Int64) : Option (Int32 × cs_S) := (if (c.1 0 1) = (5 : Int32) then (if (c.1 1 5) = 0 then (some ((0 : Int32), c)) else (ab_bd (fG_totalBytes c (5 : Int32)) (fun p1 => (if p1 ≤ x1 then (ab_bd (fG_unpack c x2) (fun p2 => (some ((3 : Int32), p2)))) else (some ((0 : Int32), c)))))) else (some ((0 : Int32), c)))
theorem tS_acceptIn {x1 : Int32} {x2 : Int64} (hX : cs_X X) {v : Int32 × cs_S} (hv : fS_acceptIn c x1 x2 = some v) : ab_M X mS_acceptIn (d + 3) 0 0 [.ref 8, .int x1, .long x2] (cs_H c rest) (fun r9 h9 => r9 = some (Value.int v.1) ∧ h9 = cs_H v.2 rest) := by
  refine ab_entry (by decide) (Nat.le_of_ble_eq_true rfl) ?_
  refine ab_go 3 [] (pc' := 5) (lo' := [some (.ref 8), some (.int x1), some (.long x2), none]) (st' := [.int (5 : Int32), .int (c.1 0 1)]) (h' := cs_H c rest) ckS_acceptIn rfl ?_
  refine ab_icmp_ne ckS_acceptIn rfl (fun (h1 : ¬ ((c.1 0 1) = (5 : Int32))) => ?_) (fun (h1 : (c.1 0 1) = (5 : Int32)) => ?_)
  · refine ab_go 1 [] (pc' := 30) (lo' := [some (.ref 8), some (.int x1), some (.long x2), none]) (st' := [.int (0 : Int32)]) (h' := cs_H c rest) ckS_acceptIn rfl ?_
    have e : fS_acceptIn c x1 x2 = some ((0 : Int32), c) := by simp only [fS_acceptIn, if_neg h1]
    obtain rfl := Option.some.inj (e.symm.trans hv)
    exact ab_iret ckS_acceptIn rfl rfl ⟨rfl, rfl⟩
  · refine ab_go 4 [] (pc' := 14) (lo' := [some (.ref 8), some (.int x1), some (.long x2), none]) (st' := [.int (c.1 1 5)]) (h' := cs_H c rest) ckS_acceptIn rfl ?_
    refine ab_if_eq ckS_acceptIn rfl (fun (h2 : (c.1 1 5) = 0) => ?_) (fun (h2 : ¬ ((c.1 1 5) = 0)) => ?_)
    · refine ab_go 1 [] (pc' := 30) (lo' := [some (.ref 8), some (.int x1), some (.long x2), none]) (st' := [.int (0 : Int32)]) (h' := cs_H c rest) ckS_acceptIn rfl ?_
      have e : fS_acceptIn c x1 x2 = some ((0 : Int32), c) := by simp only [fS_acceptIn, if_pos h1, if_pos h2]
      obtain rfl := Option.some.inj (e.symm.trans hv)
      exact ab_iret ckS_acceptIn rfl rfl ⟨rfl, rfl⟩
    · refine ab_go 4 [] (pc' := 23) (lo' := [some (.ref 8), some (.int x1), some (.long x2), none]) (st' := [.int (5 : Int32), .ref 9, .int x1]) (h' := cs_H c rest) ckS_acceptIn rfl ?_
      rcases e1 : fG_totalBytes c (5 : Int32) with _ | p1
      · exact ab_no hv (by simp only [fS_acceptIn, if_pos h1, if_neg h2, e1, ab_bd_n])
      refine ab_callS (bc2 := 0) (bs2 := 0) (as := [_, _]) (rest := [_]) ckS_acceptIn rfl (by decide +kernel) wG_totalBytes (tG_totalBytes (d := d + 2) (x2 := (5 : Int32)) (c := c) (v := p1) e1) (by omega) ⟨Nat.le_refl _, Nat.le_refl _⟩ (Nat.le_of_ble_eq_true rfl) ?_
      rintro _ _ ⟨rfl, rfl⟩
      refine ab_icmp_ge ckS_acceptIn rfl (fun (h3 : p1 ≤ x1) => ?_) (fun (h3 : ¬ (p1 ≤ x1)) => ?_)
      · refine ab_go 3 [] (pc' := 36) (lo' := [some (.ref 8), some (.int x1), some (.long x2), none]) (st' := [.long x2, .ref 9]) (h' := cs_H c rest) ckS_acceptIn rfl ?_
        rcases e2 : fG_unpack c x2 with _ | p2
        · exact ab_no hv (by simp only [fS_acceptIn, if_pos h1, if_neg h2, e1, ab_bd_s, if_pos h3, e2, ab_bd_n])
        refine ab_callS (bc2 := 0) (bs2 := 0) (as := [_, _]) (rest := []) ckS_acceptIn rfl (by decide +kernel) wG_unpack (tG_unpack (d := d) (x2 := x2) (c := c) hX (v := p2) e2) (by omega) ⟨Nat.le_refl _, Nat.le_refl _⟩ (Nat.le_of_ble_eq_true rfl) ?_
        rintro _ _ ⟨rfl, rfl⟩
        refine ab_go 1 [] (pc' := 40) (lo' := [some (.ref 8), some (.int x1), some (.long x2), none]) (st' := [.int (3 : Int32)]) (h' := cs_H p2 rest) ckS_acceptIn rfl ?_
        have e : fS_acceptIn c x1 x2 = some ((3 : Int32), p2) := by simp only [fS_acceptIn, if_pos h1, if_neg h2, e1, ab_bd_s, if_pos h3, e2, ab_bd_s]
        obtain rfl := Option.some.inj (e.symm.trans hv)
        exact ab_iret ckS_acceptIn rfl rfl ⟨rfl, rfl⟩
      · refine ab_go 1 [] (pc' := 30) (lo' := [some (.ref 8), some (.int x1), some (.long x2), none]) (st' := [.int (0 : Int32)]) (h' := cs_H c rest) ckS_acceptIn rfl ?_
        have e : fS_acceptIn c x1 x2 = some ((0 : Int32), c) := by simp only [fS_acceptIn, if_pos h1, if_neg h2, e1, ab_bd_s, if_neg h3]
        obtain rfl := Option.some.inj (e.symm.trans hv)
        exact ab_iret ckS_acceptIn rfl rfl ⟨rfl, rfl⟩
def fS_acceptSync (c : cs_S)  : Option (Int32 × cs_S) := (if (c.1 0 1) = (5 : Int32) then (if (c.1 1 9) < (1 : Int32) then (some ((2 : Int32), c)) else (if (240 : Int32) < (c.1 1 9) then (some ((2 : Int32), c)) else (let p1 := fO_countSync c (c.1 1 9); (if p1.1 = 0 then (some ((2 : Int32), p1.2)) else (if (p1.2.1 1 12) ≤ 0 then (some ((2 : Int32), p1.2)) else (ab_bd (fS_refreshStatus p1.2) (fun p2 => (ab_bd (fG_pack p2) (fun p3 => (ab_bd (fG_totalBytes p2 (12 : Int32)) (fun p4 => (ab_bd (fS_sendOut p2 p3 p4) (fun p5 => (some ((2 : Int32), p5))))))))))))))) else (some ((0 : Int32), c)))
theorem tS_acceptSync (hX : cs_X X) {v : Int32 × cs_S} (hv : fS_acceptSync c = some v) : ab_M X mS_acceptSync (d + 4) 0 0 [.ref 8] (cs_H c rest) (fun r9 h9 => r9 = some (Value.int v.1) ∧ h9 = cs_H v.2 rest) := by
  refine ab_entry (by decide) (Nat.le_of_ble_eq_true rfl) ?_
  refine ab_go 3 [] (pc' := 5) (lo' := [some (.ref 8), none]) (st' := [.int (5 : Int32), .int (c.1 0 1)]) (h' := cs_H c rest) ckS_acceptSync rfl ?_
  refine ab_icmp_eq ckS_acceptSync rfl (fun (h1 : (c.1 0 1) = (5 : Int32)) => ?_) (fun (h1 : ¬ ((c.1 0 1) = (5 : Int32))) => ?_)
  · refine ab_go 7 [] (pc' := 20) (lo' := [some (.ref 8), some (.int (c.1 1 9))]) (st' := [.int (1 : Int32), .int (c.1 1 9)]) (h' := cs_H c rest) ckS_acceptSync rfl ?_
    refine ab_icmp_lt ckS_acceptSync rfl (fun (h2 : (c.1 1 9) < (1 : Int32)) => ?_) (fun (h2 : ¬ ((c.1 1 9) < (1 : Int32))) => ?_)
    · refine ab_go 1 [] (pc' := 76) (lo' := [some (.ref 8), some (.int (c.1 1 9))]) (st' := [.int (2 : Int32)]) (h' := cs_H c rest) ckS_acceptSync rfl ?_
      have e : fS_acceptSync c = some ((2 : Int32), c) := by simp only [fS_acceptSync, if_pos h1, if_pos h2]
      obtain rfl := Option.some.inj (e.symm.trans hv)
      exact ab_iret ckS_acceptSync rfl rfl ⟨rfl, rfl⟩
    · refine ab_go 2 [] (pc' := 27) (lo' := [some (.ref 8), some (.int (c.1 1 9))]) (st' := [.int (240 : Int32), .int (c.1 1 9)]) (h' := cs_H c rest) ckS_acceptSync rfl ?_
      refine ab_icmp_gt ckS_acceptSync rfl (fun (h3 : (240 : Int32) < (c.1 1 9)) => ?_) (fun (h3 : ¬ ((240 : Int32) < (c.1 1 9))) => ?_)
      · refine ab_go 1 [] (pc' := 76) (lo' := [some (.ref 8), some (.int (c.1 1 9))]) (st' := [.int (2 : Int32)]) (h' := cs_H c rest) ckS_acceptSync rfl ?_
        have e : fS_acceptSync c = some ((2 : Int32), c) := by simp only [fS_acceptSync, if_pos h1, if_neg h2, if_pos h3]
        obtain rfl := Option.some.inj (e.symm.trans hv)
        exact ab_iret ckS_acceptSync rfl rfl ⟨rfl, rfl⟩
      · refine ab_go 3 [] (pc' := 35) (lo' := [some (.ref 8), some (.int (c.1 1 9))]) (st' := [.int (c.1 1 9), .ref 22]) (h' := cs_H c rest) ckS_acceptSync rfl ?_
        refine ab_callV (bc2 := 0) (bs2 := 0) (as := [_]) (rest := []) ckS_acceptSync rfl (by decide +kernel) wO_countSync (tO_countSync (d := d + 3) (x1 := (c.1 1 9)) (c := c)) rfl rfl (by omega) ⟨Nat.le_refl _, Nat.le_refl _⟩ (Nat.le_of_ble_eq_true rfl) ?_
        rintro _ _ ⟨rfl, rfl⟩
        generalize e1 : fO_countSync c (c.1 1 9) = p1
        refine ab_if_eq ckS_acceptSync rfl (fun (h4 : p1.1 = 0) => ?_) (fun (h4 : ¬ (p1.1 = 0)) => ?_)
        · refine ab_go 1 [] (pc' := 76) (lo' := [some (.ref 8), some (.int (c.1 1 9))]) (st' := [.int (2 : Int32)]) (h' := cs_H p1.2 rest) ckS_acceptSync rfl ?_
          have e : fS_acceptSync c = some ((2 : Int32), p1.2) := by simp only [fS_acceptSync, if_pos h1, if_neg h2, if_neg h3, e1, if_pos h4]
          obtain rfl := Option.some.inj (e.symm.trans hv)
          exact ab_iret ckS_acceptSync rfl rfl ⟨rfl, rfl⟩
        · refine ab_go 4 [] (pc' := 48) (lo' := [some (.ref 8), some (.int (c.1 1 9))]) (st' := [.int (p1.2.1 1 12)]) (h' := cs_H p1.2 rest) ckS_acceptSync rfl ?_
          refine ab_if_le ckS_acceptSync rfl (fun (h5 : (p1.2.1 1 12) ≤ 0) => ?_) (fun (h5 : ¬ ((p1.2.1 1 12) ≤ 0)) => ?_)
          · refine ab_go 1 [] (pc' := 76) (lo' := [some (.ref 8), some (.int (c.1 1 9))]) (st' := [.int (2 : Int32)]) (h' := cs_H p1.2 rest) ckS_acceptSync rfl ?_
            have e : fS_acceptSync c = some ((2 : Int32), p1.2) := by simp only [fS_acceptSync, if_pos h1, if_neg h2, if_neg h3, e1, if_neg h4, if_pos h5]
            obtain rfl := Option.some.inj (e.symm.trans hv)
            exact ab_iret ckS_acceptSync rfl rfl ⟨rfl, rfl⟩
          · refine ab_go 1 [] (pc' := 52) (lo' := [some (.ref 8), some (.int (c.1 1 9))]) (st' := [.ref 8]) (h' := cs_H p1.2 rest) ckS_acceptSync rfl ?_
            rcases e2 : fS_refreshStatus p1.2 with _ | p2
            · exact ab_no hv (by simp only [fS_acceptSync, if_pos h1, if_neg h2, if_neg h3, e1, if_neg h4, if_neg h5, e2, ab_bd_n])
            refine ab_callV (bc2 := 0) (bs2 := 0) (as := []) (rest := []) ckS_acceptSync rfl (by decide +kernel) wS_refreshStatus (tS_refreshStatus (d := d) (c := p1.2) hX (v := p2) e2) rfl rfl (by omega) ⟨Nat.le_refl _, Nat.le_refl _⟩ (Nat.le_of_ble_eq_true rfl) ?_
            rintro _ _ ⟨rfl, rfl⟩
            refine ab_go 3 [] (pc' := 60) (lo' := [some (.ref 8), some (.int (c.1 1 9))]) (st' := [.ref 9, .ref 8]) (h' := cs_H p2 rest) ckS_acceptSync rfl ?_
            rcases e3 : fG_pack p2 with _ | p3
            · exact ab_no hv (by simp only [fS_acceptSync, if_pos h1, if_neg h2, if_neg h3, e1, if_neg h4, if_neg h5, e2, ab_bd_s, e3, ab_bd_n])
            refine ab_callS (bc2 := 0) (bs2 := 0) (as := [_]) (rest := [_]) ckS_acceptSync rfl (by decide +kernel) wG_pack (tG_pack (d := d + 1) (c := p2) hX (v := p3) e3) (by omega) ⟨Nat.le_refl _, Nat.le_refl _⟩ (Nat.le_of_ble_eq_true rfl) ?_
            rintro _ _ ⟨rfl, rfl⟩
            refine ab_go 3 [] (pc' := 69) (lo' := [some (.ref 8), some (.int (c.1 1 9))]) (st' := [.int (12 : Int32), .ref 9, .long p3, .ref 8]) (h' := cs_H p2 rest) ckS_acceptSync rfl ?_
            rcases e4 : fG_totalBytes p2 (12 : Int32) with _ | p4
            · exact ab_no hv (by simp only [fS_acceptSync, if_pos h1, if_neg h2, if_neg h3, e1, if_neg h4, if_neg h5, e2, ab_bd_s, e3, ab_bd_s, e4, ab_bd_n])
            refine ab_callS (bc2 := 0) (bs2 := 0) (as := [_, _]) (rest := [_, _]) ckS_acceptSync rfl (by decide +kernel) wG_totalBytes (tG_totalBytes (d := d + 3) (x2 := (12 : Int32)) (c := p2) (v := p4) e4) (by omega) ⟨Nat.le_refl _, Nat.le_refl _⟩ (Nat.le_of_ble_eq_true rfl) ?_
            rintro _ _ ⟨rfl, rfl⟩
            rcases e5 : fS_sendOut p2 p3 p4 with _ | p5
            · exact ab_no hv (by simp only [fS_acceptSync, if_pos h1, if_neg h2, if_neg h3, e1, if_neg h4, if_neg h5, e2, ab_bd_s, e3, ab_bd_s, e4, ab_bd_s, e5, ab_bd_n])
            refine ab_callV (bc2 := 0) (bs2 := 0) (as := [_, _]) (rest := []) ckS_acceptSync rfl (by decide +kernel) wS_sendOut (tS_sendOut (d := d + 2) (x1 := p3) (x2 := p4) (c := p2) (v := p5) e5) rfl rfl (by omega) ⟨Nat.le_refl _, Nat.le_refl _⟩ (Nat.le_of_ble_eq_true rfl) ?_
            rintro _ _ ⟨rfl, rfl⟩
            refine ab_go 1 [] (pc' := 76) (lo' := [some (.ref 8), some (.int (c.1 1 9))]) (st' := [.int (2 : Int32)]) (h' := cs_H p5 rest) ckS_acceptSync rfl ?_
            have e : fS_acceptSync c = some ((2 : Int32), p5) := by simp only [fS_acceptSync, if_pos h1, if_neg h2, if_neg h3, e1, if_neg h4, if_neg h5, e2, ab_bd_s, e3, ab_bd_s, e4, ab_bd_s, e5, ab_bd_s]
            obtain rfl := Option.some.inj (e.symm.trans hv)
            exact ab_iret ckS_acceptSync rfl rfl ⟨rfl, rfl⟩
  · refine ab_go 1 [] (pc' := 9) (lo' := [some (.ref 8), none]) (st' := [.int (0 : Int32)]) (h' := cs_H c rest) ckS_acceptSync rfl ?_
    have e : fS_acceptSync c = some ((0 : Int32), c) := by simp only [fS_acceptSync, if_neg h1]
    obtain rfl := Option.some.inj (e.symm.trans hv)
    exact ab_iret ckS_acceptSync rfl rfl ⟨rfl, rfl⟩
def fS_enterOperating (c : cs_S)  : cs_S := (if (c.1 0 1) = (5 : Int32) then c else (let p1 := fO_beginOperating (cs_u c 0 1 (5 : Int32)); p1))
theorem tS_enterOperating : ab_M X mS_enterOperating (d + 1) 0 0 [.ref 8] (cs_H c rest) (fun r9 h9 => r9 = none ∧ h9 = cs_H (fS_enterOperating c) rest) := by
  refine ab_entry (by decide) (Nat.le_of_ble_eq_true rfl) ?_
  refine ab_go 3 [] (pc' := 5) (lo' := [some (.ref 8)]) (st' := [.int (5 : Int32), .int (c.1 0 1)]) (h' := cs_H c rest) ckS_enterOperating rfl ?_
  refine ab_icmp_eq ckS_enterOperating rfl (fun (h1 : (c.1 0 1) = (5 : Int32)) => ?_) (fun (h1 : ¬ ((c.1 0 1) = (5 : Int32))) => ?_)
  · have e : fS_enterOperating c = c := by simp only [fS_enterOperating, if_pos h1]
    exact ab_vret ckS_enterOperating rfl rfl ⟨rfl, (congrArg (fun q : cs_S => cs_H q rest) e).symm⟩
  · refine ab_go 5 [] (pc' := 17) (lo' := [some (.ref 8)]) (st' := [.ref 22]) (h' := cs_H (cs_u c 0 1 (5 : Int32)) rest) ckS_enterOperating rfl ?_
    refine ab_callV (bc2 := 0) (bs2 := 0) (as := []) (rest := []) ckS_enterOperating rfl (by decide +kernel) wO_beginOperating (tO_beginOperating (d := d) (c := (cs_u c 0 1 (5 : Int32)))) rfl rfl (by omega) ⟨Nat.le_refl _, Nat.le_refl _⟩ (Nat.le_of_ble_eq_true rfl) ?_
    rintro _ _ ⟨rfl, rfl⟩
    generalize e1 : fO_beginOperating (cs_u c 0 1 (5 : Int32)) = p1
    have e : fS_enterOperating c = p1 := by simp only [fS_enterOperating, if_neg h1, e1]
    exact ab_vret ckS_enterOperating rfl rfl ⟨rfl, (congrArg (fun q : cs_S => cs_H q rest) e).symm⟩
def fS_comeUp (c : cs_S)  : Option (cs_S) := (let p1 := fT_giveUp c; (ab_bd (fT_load p1) (fun p2 => (let p3 := fV_rest (cs_u p2 1 19 (c.1 1 19)) (c.1 1 19); (let p4 := fP_comeUp p3; (let p5 := fH_disarm p4; (let p6 := fO_forgetSyncs p5; (ab_bd (fB_setBus (cs_u (cs_u p6 0 1 (127 : Int32)) 0 2 (0 : Int32)) (1 : Int32)) (fun p7 => (let p8 := fB_clear p7; (ab_bd (fB_send p8 ((1792 : Int32) + (p8.1 0 0)) (1 : Int32) (0 : Int64)) (fun p9 => (some p9)))))))))))))
theorem tS_comeUp (hX : cs_X X) {v : cs_S} (hv : fS_comeUp c = some v) : ab_M X mS_comeUp (d + 2) 0 0 [.ref 8] (cs_H c rest) (fun r9 h9 => r9 = none ∧ h9 = cs_H v rest) := by
  refine ab_entry (by decide) (Nat.le_of_ble_eq_true rfl) ?_
  refine ab_go 7 [] (pc' := 12) (lo' := [some (.ref 8), some (.int (c.1 1 19))]) (st' := [.ref 14]) (h' := cs_H c rest) ckS_comeUp rfl ?_
  refine ab_callV (bc2 := 0) (bs2 := 0) (as := []) (rest := []) ckS_comeUp rfl (by decide +kernel) wT_giveUp (tT_giveUp (d := d + 1) (c := c)) rfl rfl (by omega) ⟨Nat.le_refl _, Nat.le_refl _⟩ (Nat.le_of_ble_eq_true rfl) ?_
  rintro _ _ ⟨rfl, rfl⟩
  generalize e1 : fT_giveUp c = p1
  refine ab_go 4 [] (pc' := 23) (lo' := [some (.ref 8), some (.int (c.1 1 19))]) (st' := [.ref 9, .ref 14]) (h' := cs_H p1 rest) ckS_comeUp rfl ?_
  rcases e2 : fT_load p1 with _ | p2
  · exact ab_no hv (by simp only [fS_comeUp, e1, e2, ab_bd_n])
  refine ab_callV (bc2 := 0) (bs2 := 0) (as := [_]) (rest := []) ckS_comeUp rfl (by decide +kernel) wT_load (tT_load (d := d) (c := p1) hX (v := p2) e2) rfl rfl (by omega) ⟨Nat.le_refl _, Nat.le_refl _⟩ (Nat.le_of_ble_eq_true rfl) ?_
  rintro _ _ ⟨rfl, rfl⟩
  refine ab_go 8 [] (pc' := 39) (lo' := [some (.ref 8), some (.int (c.1 1 19))]) (st' := [.int (c.1 1 19), .ref 20]) (h' := cs_H (cs_u p2 1 19 (c.1 1 19)) rest) ckS_comeUp rfl ?_
  refine ab_callV (bc2 := 0) (bs2 := 0) (as := [_]) (rest := []) ckS_comeUp rfl (by decide +kernel) wV_rest (tV_rest (d := d + 1) (x1 := (c.1 1 19)) (c := (cs_u p2 1 19 (c.1 1 19)))) rfl rfl (by omega) ⟨Nat.le_refl _, Nat.le_refl _⟩ (Nat.le_of_ble_eq_true rfl) ?_
  rintro _ _ ⟨rfl, rfl⟩
  generalize e3 : fV_rest (cs_u p2 1 19 (c.1 1 19)) (c.1 1 19) = p3
  refine ab_go 2 [] (pc' := 46) (lo' := [some (.ref 8), some (.int (c.1 1 19))]) (st' := [.ref 19]) (h' := cs_H p3 rest) ckS_comeUp rfl ?_
  refine ab_callV (bc2 := 0) (bs2 := 0) (as := []) (rest := []) ckS_comeUp rfl (by decide +kernel) wP_comeUp (tP_comeUp (d := d + 1) (c := p3)) rfl rfl (by omega) ⟨Nat.le_refl _, Nat.le_refl _⟩ (Nat.le_of_ble_eq_true rfl) ?_
  rintro _ _ ⟨rfl, rfl⟩
  generalize e4 : fP_comeUp p3 = p4
  refine ab_go 2 [] (pc' := 53) (lo' := [some (.ref 8), some (.int (c.1 1 19))]) (st' := [.ref 21]) (h' := cs_H p4 rest) ckS_comeUp rfl ?_
  refine ab_callV (bc2 := 0) (bs2 := 0) (as := []) (rest := []) ckS_comeUp rfl (by decide +kernel) wH_disarm (tH_disarm (d := d + 1) (c := p4)) rfl rfl (by omega) ⟨Nat.le_refl _, Nat.le_refl _⟩ (Nat.le_of_ble_eq_true rfl) ?_
  rintro _ _ ⟨rfl, rfl⟩
  generalize e5 : fH_disarm p4 = p5
  refine ab_go 2 [] (pc' := 60) (lo' := [some (.ref 8), some (.int (c.1 1 19))]) (st' := [.ref 22]) (h' := cs_H p5 rest) ckS_comeUp rfl ?_
  refine ab_callV (bc2 := 0) (bs2 := 0) (as := []) (rest := []) ckS_comeUp rfl (by decide +kernel) wO_forgetSyncs (tO_forgetSyncs (d := d + 1) (c := p5)) rfl rfl (by omega) ⟨Nat.le_refl _, Nat.le_refl _⟩ (Nat.le_of_ble_eq_true rfl) ?_
  rintro _ _ ⟨rfl, rfl⟩
  generalize e6 : fO_forgetSyncs p5 = p6
  refine ab_go 9 [] (pc' := 79) (lo' := [some (.ref 8), some (.int (c.1 1 19))]) (st' := [.int (1 : Int32), .ref 10]) (h' := cs_H (cs_u (cs_u p6 0 1 (127 : Int32)) 0 2 (0 : Int32)) rest) ckS_comeUp rfl ?_
  rcases e7 : fB_setBus (cs_u (cs_u p6 0 1 (127 : Int32)) 0 2 (0 : Int32)) (1 : Int32) with _ | p7
  · exact ab_no hv (by simp only [fS_comeUp, e1, e2, ab_bd_s, e3, e4, e5, e6, e7, ab_bd_n])
  refine ab_callV (bc2 := 0) (bs2 := 0) (as := [_]) (rest := []) ckS_comeUp rfl (by decide +kernel) wB_setBus (tB_setBus (d := d + 1) (x1 := (1 : Int32)) (c := (cs_u (cs_u p6 0 1 (127 : Int32)) 0 2 (0 : Int32))) (v := p7) e7) rfl rfl (by omega) ⟨Nat.le_refl _, Nat.le_refl _⟩ (Nat.le_of_ble_eq_true rfl) ?_
  rintro _ _ ⟨rfl, rfl⟩
  refine ab_go 2 [] (pc' := 86) (lo' := [some (.ref 8), some (.int (c.1 1 19))]) (st' := [.ref 10]) (h' := cs_H p7 rest) ckS_comeUp rfl ?_
  refine ab_callV (bc2 := 0) (bs2 := 0) (as := []) (rest := []) ckS_comeUp rfl (by decide +kernel) wB_clear (tB_clear (d := d + 1) (c := p7)) rfl rfl (by omega) ⟨Nat.le_refl _, Nat.le_refl _⟩ (Nat.le_of_ble_eq_true rfl) ?_
  rintro _ _ ⟨rfl, rfl⟩
  generalize e8 : fB_clear p7 = p8
  refine ab_go 8 [] (pc' := 103) (lo' := [some (.ref 8), some (.int (c.1 1 19))]) (st' := [.long (0 : Int64), .int (1 : Int32), .int ((1792 : Int32) + (p8.1 0 0)), .ref 10]) (h' := cs_H p8 rest) ckS_comeUp rfl ?_
  rcases e9 : fB_send p8 ((1792 : Int32) + (p8.1 0 0)) (1 : Int32) (0 : Int64) with _ | p9
  · exact ab_no hv (by simp only [fS_comeUp, e1, e2, ab_bd_s, e3, e4, e5, e6, e7, ab_bd_s, e8, e9, ab_bd_n])
  refine ab_callV (bc2 := 0) (bs2 := 0) (as := [_, _, _]) (rest := []) ckS_comeUp rfl (by decide +kernel) wB_send (tB_send (d := d + 1) (x1 := ((1792 : Int32) + (p8.1 0 0))) (x2 := (1 : Int32)) (x3 := (0 : Int64)) (c := p8) (v := p9) e9) rfl rfl (by omega) ⟨Nat.le_refl _, Nat.le_refl _⟩ (Nat.le_of_ble_eq_true rfl) ?_
  rintro _ _ ⟨rfl, rfl⟩
  have e : fS_comeUp c = some p9 := by simp only [fS_comeUp, e1, e2, ab_bd_s, e3, e4, e5, e6, e7, ab_bd_s, e8, e9, ab_bd_s]
  obtain rfl := Option.some.inj (e.symm.trans hv)
  exact ab_vret ckS_comeUp rfl rfl ⟨rfl, rfl⟩
def fS_acceptNetwork (c : cs_S) (x1 : Int32) (x2 : Int64) : Option (Int32 × cs_S) := (if x1 = (2 : Int32) then (if ((((x2).toUInt64 >>> (((8 : Int32)).toInt64.toUInt64 &&& Int64.toUInt64 63)).toInt64).toInt32 &&& (255 : Int32)) = 0 then (if ((x2).toInt32 &&& (255 : Int32)) = (1 : Int32) then (let p1 := fS_enterOperating c; (some ((1 : Int32), p1))) else (if ((x2).toInt32 &&& (255 : Int32)) = (2 : Int32) then (some ((1 : Int32), (cs_u c 0 1 (4 : Int32)))) else (if ((x2).toInt32 &&& (255 : Int32)) = (128 : Int32) then (some ((1 : Int32), (cs_u c 0 1 (127 : Int32)))) else (if ((x2).toInt32 &&& (255 : Int32)) = (129 : Int32) then (ab_bd (fS_comeUp c) (fun p2 => (some ((1 : Int32), p2)))) else (some ((0 : Int32), c)))))) else (if ((((x2).toUInt64 >>> (((8 : Int32)).toInt64.toUInt64 &&& Int64.toUInt64 63)).toInt64).toInt32 &&& (255 : Int32)) = (c.1 0 0) then (if ((x2).toInt32 &&& (255 : Int32)) = (1 : Int32) then (let p3 := fS_enterOperating c; (some ((1 : Int32), p3))) else (if ((x2).toInt32 &&& (255 : Int32)) = (2 : Int32) then (some ((1 : Int32), (cs_u c 0 1 (4 : Int32)))) else (if ((x2).toInt32 &&& (255 : Int32)) = (128 : Int32) then (some ((1 : Int32), (cs_u c 0 1 (127 : Int32)))) else (if ((x2).toInt32 &&& (255 : Int32)) = (129 : Int32) then (ab_bd (fS_comeUp c) (fun p4 => (some ((1 : Int32), p4)))) else (some ((0 : Int32), c)))))) else (some ((0 : Int32), c)))) else (some ((0 : Int32), c)))
theorem tS_acceptNetwork {x1 : Int32} {x2 : Int64} (hX : cs_X X) {v : Int32 × cs_S} (hv : fS_acceptNetwork c x1 x2 = some v) : ab_M X mS_acceptNetwork (d + 3) 0 0 [.ref 8, .int x1, .long x2] (cs_H c rest) (fun r9 h9 => r9 = some (Value.int v.1) ∧ h9 = cs_H v.2 rest) := by
  refine ab_entry (by decide) (Nat.le_of_ble_eq_true rfl) ?_
  refine ab_go 9 [] (pc' := 13) (lo' := [some (.ref 8), some (.int x1), some (.long x2), none, some (.int ((((x2).toUInt64 >>> (((8 : Int32)).toInt64.toUInt64 &&& Int64.toUInt64 63)).toInt64).toInt32 &&& (255 : Int32)))]) (st' := [.int (2 : Int32), .int x1]) (h' := cs_H c rest) ckS_acceptNetwork rfl ?_
  refine ab_icmp_ne ckS_acceptNetwork rfl (fun (h1 : ¬ (x1 = (2 : Int32))) => ?_) (fun (h1 : x1 = (2 : Int32)) => ?_)
  · refine ab_go 1 [] (pc' := 31) (lo' := [some (.ref 8), some (.int x1), some (.long x2), none, some (.int ((((x2).toUInt64 >>> (((8 : Int32)).toInt64.toUInt64 &&& Int64.toUInt64 63)).toInt64).toInt32 &&& (255 : Int32)))]) (st' := [.int (0 : Int32)]) (h' := cs_H c rest) ckS_acceptNetwork rfl ?_
    have e : fS_acceptNetwork c x1 x2 = some ((0 : Int32), c) := by simp only [fS_acceptNetwork, if_neg h1]
    obtain rfl := Option.some.inj (e.symm.trans hv)
    exact ab_iret ckS_acceptNetwork rfl rfl ⟨rfl, rfl⟩
  · refine ab_go 1 [] (pc' := 18) (lo' := [some (.ref 8), some (.int x1), some (.long x2), none, some (.int ((((x2).toUInt64 >>> (((8 : Int32)).toInt64.toUInt64 &&& Int64.toUInt64 63)).toInt64).toInt32 &&& (255 : Int32)))]) (st' := [.int ((((x2).toUInt64 >>> (((8 : Int32)).toInt64.toUInt64 &&& Int64.toUInt64 63)).toInt64).toInt32 &&& (255 : Int32))]) (h' := cs_H c rest) ckS_acceptNetwork rfl ?_
    refine ab_if_eq ckS_acceptNetwork rfl (fun (h2 : ((((x2).toUInt64 >>> (((8 : Int32)).toInt64.toUInt64 &&& Int64.toUInt64 63)).toInt64).toInt32 &&& (255 : Int32)) = 0) => ?_) (fun (h2 : ¬ (((((x2).toUInt64 >>> (((8 : Int32)).toInt64.toUInt64 &&& Int64.toUInt64 63)).toInt64).toInt32 &&& (255 : Int32)) = 0)) => ?_)
    · refine ab_go 4 [] (pc' := 38) (lo' := [some (.ref 8), some (.int x1), some (.long x2), none, some (.int ((((x2).toUInt64 >>> (((8 : Int32)).toInt64.toUInt64 &&& Int64.toUInt64 63)).toInt64).toInt32 &&& (255 : Int32)))]) (st' := [.int ((x2).toInt32 &&& (255 : Int32))]) (h' := cs_H c rest) ckS_acceptNetwork rfl ?_
      by_cases h3 : ((x2).toInt32 &&& (255 : Int32)) = (1 : Int32)
      · refine ab_lsw (tgt := 80) (off := 42) ckS_acceptNetwork rfl (by decide) (by rw [h3]; decide) (by decide) ?_
        refine ab_go 1 [] (pc' := 81) (lo' := [some (.ref 8), some (.int x1), some (.long x2), none, some (.int ((((x2).toUInt64 >>> (((8 : Int32)).toInt64.toUInt64 &&& Int64.toUInt64 63)).toInt64).toInt32 &&& (255 : Int32)))]) (st' := [.ref 8]) (h' := cs_H c rest) ckS_acceptNetwork rfl ?_
        refine ab_callV (bc2 := 0) (bs2 := 0) (as := []) (rest := []) ckS_acceptNetwork rfl (by decide +kernel) wS_enterOperating (tS_enterOperating (d := d + 1) (c := c)) rfl rfl (by omega) ⟨Nat.le_refl _, Nat.le_refl _⟩ (Nat.le_of_ble_eq_true rfl) ?_
        rintro _ _ ⟨rfl, rfl⟩
        generalize e1 : fS_enterOperating c = p1
        refine ab_go 1 [] (pc' := 85) (lo' := [some (.ref 8), some (.int x1), some (.long x2), none, some (.int ((((x2).toUInt64 >>> (((8 : Int32)).toInt64.toUInt64 &&& Int64.toUInt64 63)).toInt64).toInt32 &&& (255 : Int32)))]) (st' := [.int (1 : Int32)]) (h' := cs_H p1 rest) ckS_acceptNetwork rfl ?_
        have e : fS_acceptNetwork c x1 x2 = some ((1 : Int32), p1) := by simp only [fS_acceptNetwork, if_pos h1, if_pos h2, if_pos h3, e1]
        obtain rfl := Option.some.inj (e.symm.trans hv)
        exact ab_iret ckS_acceptNetwork rfl rfl ⟨rfl, rfl⟩
      by_cases h4 : ((x2).toInt32 &&& (255 : Int32)) = (2 : Int32)
      · refine ab_lsw (tgt := 86) (off := 48) ckS_acceptNetwork rfl (by decide) (by rw [h4]; decide) (by decide) ?_
        refine ab_go 4 [] (pc' := 92) (lo' := [some (.ref 8), some (.int x1), some (.long x2), none, some (.int ((((x2).toUInt64 >>> (((8 : Int32)).toInt64.toUInt64 &&& Int64.toUInt64 63)).toInt64).toInt32 &&& (255 : Int32)))]) (st' := [.int (1 : Int32)]) (h' := cs_H (cs_u c 0 1 (4 : Int32)) rest) ckS_acceptNetwork rfl ?_
        have e : fS_acceptNetwork c x1 x2 = some ((1 : Int32), (cs_u c 0 1 (4 : Int32))) := by simp only [fS_acceptNetwork, if_pos h1, if_pos h2, if_neg h3, if_pos h4]
        obtain rfl := Option.some.inj (e.symm.trans hv)
        exact ab_iret ckS_acceptNetwork rfl rfl ⟨rfl, rfl⟩
      by_cases h5 : ((x2).toInt32 &&& (255 : Int32)) = (128 : Int32)
      · refine ab_lsw (tgt := 93) (off := 55) ckS_acceptNetwork rfl (by decide) (by rw [h5]; decide) (by decide) ?_
        refine ab_go 4 [] (pc' := 100) (lo' := [some (.ref 8), some (.int x1), some (.long x2), none, some (.int ((((x2).toUInt64 >>> (((8 : Int32)).toInt64.toUInt64 &&& Int64.toUInt64 63)).toInt64).toInt32 &&& (255 : Int32)))]) (st' := [.int (1 : Int32)]) (h' := cs_H (cs_u c 0 1 (127 : Int32)) rest) ckS_acceptNetwork rfl ?_
        have e : fS_acceptNetwork c x1 x2 = some ((1 : Int32), (cs_u c 0 1 (127 : Int32))) := by simp only [fS_acceptNetwork, if_pos h1, if_pos h2, if_neg h3, if_neg h4, if_pos h5]
        obtain rfl := Option.some.inj (e.symm.trans hv)
        exact ab_iret ckS_acceptNetwork rfl rfl ⟨rfl, rfl⟩
      by_cases h6 : ((x2).toInt32 &&& (255 : Int32)) = (129 : Int32)
      · refine ab_lsw (tgt := 101) (off := 63) ckS_acceptNetwork rfl (by decide) (by rw [h6]; decide) (by decide) ?_
        refine ab_go 1 [] (pc' := 102) (lo' := [some (.ref 8), some (.int x1), some (.long x2), none, some (.int ((((x2).toUInt64 >>> (((8 : Int32)).toInt64.toUInt64 &&& Int64.toUInt64 63)).toInt64).toInt32 &&& (255 : Int32)))]) (st' := [.ref 8]) (h' := cs_H c rest) ckS_acceptNetwork rfl ?_
        rcases e2 : fS_comeUp c with _ | p2
        · exact ab_no hv (by simp only [fS_acceptNetwork, if_pos h1, if_pos h2, if_neg h3, if_neg h4, if_neg h5, if_pos h6, e2, ab_bd_n])
        refine ab_callV (bc2 := 0) (bs2 := 0) (as := []) (rest := []) ckS_acceptNetwork rfl (by decide +kernel) wS_comeUp (tS_comeUp (d := d) (c := c) hX (v := p2) e2) rfl rfl (by omega) ⟨Nat.le_refl _, Nat.le_refl _⟩ (Nat.le_of_ble_eq_true rfl) ?_
        rintro _ _ ⟨rfl, rfl⟩
        refine ab_go 1 [] (pc' := 106) (lo' := [some (.ref 8), some (.int x1), some (.long x2), none, some (.int ((((x2).toUInt64 >>> (((8 : Int32)).toInt64.toUInt64 &&& Int64.toUInt64 63)).toInt64).toInt32 &&& (255 : Int32)))]) (st' := [.int (1 : Int32)]) (h' := cs_H p2 rest) ckS_acceptNetwork rfl ?_
        have e : fS_acceptNetwork c x1 x2 = some ((1 : Int32), p2) := by simp only [fS_acceptNetwork, if_pos h1, if_pos h2, if_neg h3, if_neg h4, if_neg h5, if_pos h6, e2, ab_bd_s]
        obtain rfl := Option.some.inj (e.symm.trans hv)
        exact ab_iret ckS_acceptNetwork rfl rfl ⟨rfl, rfl⟩
      refine ab_lsw (tgt := 107) ckS_acceptNetwork rfl (by decide) (off := 69) (by show Op.lookupswitch.offset [(1, 42), (2, 48), (128, 55), (129, 63)] 69 _ = _; rw [lv_osw h3 (by decide)]; rw [lv_osw h4 (by decide)]; rw [lv_osw h5 (by decide)]; rw [lv_osw h6 (by decide)]; rfl) (by decide) ?_
      refine ab_go 1 [] (pc' := 108) (lo' := [some (.ref 8), some (.int x1), some (.long x2), none, some (.int ((((x2).toUInt64 >>> (((8 : Int32)).toInt64.toUInt64 &&& Int64.toUInt64 63)).toInt64).toInt32 &&& (255 : Int32)))]) (st' := [.int (0 : Int32)]) (h' := cs_H c rest) ckS_acceptNetwork rfl ?_
      have e : fS_acceptNetwork c x1 x2 = some ((0 : Int32), c) := by simp only [fS_acceptNetwork, if_pos h1, if_pos h2, if_neg h3, if_neg h4, if_neg h5, if_neg h6]
      obtain rfl := Option.some.inj (e.symm.trans hv)
      exact ab_iret ckS_acceptNetwork rfl rfl ⟨rfl, rfl⟩
    · refine ab_go 3 [] (pc' := 27) (lo' := [some (.ref 8), some (.int x1), some (.long x2), none, some (.int ((((x2).toUInt64 >>> (((8 : Int32)).toInt64.toUInt64 &&& Int64.toUInt64 63)).toInt64).toInt32 &&& (255 : Int32)))]) (st' := [.int (c.1 0 0), .int ((((x2).toUInt64 >>> (((8 : Int32)).toInt64.toUInt64 &&& Int64.toUInt64 63)).toInt64).toInt32 &&& (255 : Int32))]) (h' := cs_H c rest) ckS_acceptNetwork rfl ?_
      refine ab_icmp_eq ckS_acceptNetwork rfl (fun (h7 : ((((x2).toUInt64 >>> (((8 : Int32)).toInt64.toUInt64 &&& Int64.toUInt64 63)).toInt64).toInt32 &&& (255 : Int32)) = (c.1 0 0)) => ?_) (fun (h7 : ¬ (((((x2).toUInt64 >>> (((8 : Int32)).toInt64.toUInt64 &&& Int64.toUInt64 63)).toInt64).toInt32 &&& (255 : Int32)) = (c.1 0 0))) => ?_)
      · refine ab_go 4 [] (pc' := 38) (lo' := [some (.ref 8), some (.int x1), some (.long x2), none, some (.int ((((x2).toUInt64 >>> (((8 : Int32)).toInt64.toUInt64 &&& Int64.toUInt64 63)).toInt64).toInt32 &&& (255 : Int32)))]) (st' := [.int ((x2).toInt32 &&& (255 : Int32))]) (h' := cs_H c rest) ckS_acceptNetwork rfl ?_
        by_cases h8 : ((x2).toInt32 &&& (255 : Int32)) = (1 : Int32)
        · refine ab_lsw (tgt := 80) (off := 42) ckS_acceptNetwork rfl (by decide) (by rw [h8]; decide) (by decide) ?_
          refine ab_go 1 [] (pc' := 81) (lo' := [some (.ref 8), some (.int x1), some (.long x2), none, some (.int ((((x2).toUInt64 >>> (((8 : Int32)).toInt64.toUInt64 &&& Int64.toUInt64 63)).toInt64).toInt32 &&& (255 : Int32)))]) (st' := [.ref 8]) (h' := cs_H c rest) ckS_acceptNetwork rfl ?_
          refine ab_callV (bc2 := 0) (bs2 := 0) (as := []) (rest := []) ckS_acceptNetwork rfl (by decide +kernel) wS_enterOperating (tS_enterOperating (d := d + 1) (c := c)) rfl rfl (by omega) ⟨Nat.le_refl _, Nat.le_refl _⟩ (Nat.le_of_ble_eq_true rfl) ?_
          rintro _ _ ⟨rfl, rfl⟩
          generalize e3 : fS_enterOperating c = p3
          refine ab_go 1 [] (pc' := 85) (lo' := [some (.ref 8), some (.int x1), some (.long x2), none, some (.int ((((x2).toUInt64 >>> (((8 : Int32)).toInt64.toUInt64 &&& Int64.toUInt64 63)).toInt64).toInt32 &&& (255 : Int32)))]) (st' := [.int (1 : Int32)]) (h' := cs_H p3 rest) ckS_acceptNetwork rfl ?_
          have e : fS_acceptNetwork c x1 x2 = some ((1 : Int32), p3) := by simp only [fS_acceptNetwork, if_pos h1, if_neg h2, if_pos h7, if_pos h8, e3]
          obtain rfl := Option.some.inj (e.symm.trans hv)
          exact ab_iret ckS_acceptNetwork rfl rfl ⟨rfl, rfl⟩
        by_cases h9 : ((x2).toInt32 &&& (255 : Int32)) = (2 : Int32)
        · refine ab_lsw (tgt := 86) (off := 48) ckS_acceptNetwork rfl (by decide) (by rw [h9]; decide) (by decide) ?_
          refine ab_go 4 [] (pc' := 92) (lo' := [some (.ref 8), some (.int x1), some (.long x2), none, some (.int ((((x2).toUInt64 >>> (((8 : Int32)).toInt64.toUInt64 &&& Int64.toUInt64 63)).toInt64).toInt32 &&& (255 : Int32)))]) (st' := [.int (1 : Int32)]) (h' := cs_H (cs_u c 0 1 (4 : Int32)) rest) ckS_acceptNetwork rfl ?_
          have e : fS_acceptNetwork c x1 x2 = some ((1 : Int32), (cs_u c 0 1 (4 : Int32))) := by simp only [fS_acceptNetwork, if_pos h1, if_neg h2, if_pos h7, if_neg h8, if_pos h9]
          obtain rfl := Option.some.inj (e.symm.trans hv)
          exact ab_iret ckS_acceptNetwork rfl rfl ⟨rfl, rfl⟩
        by_cases h10 : ((x2).toInt32 &&& (255 : Int32)) = (128 : Int32)
        · refine ab_lsw (tgt := 93) (off := 55) ckS_acceptNetwork rfl (by decide) (by rw [h10]; decide) (by decide) ?_
          refine ab_go 4 [] (pc' := 100) (lo' := [some (.ref 8), some (.int x1), some (.long x2), none, some (.int ((((x2).toUInt64 >>> (((8 : Int32)).toInt64.toUInt64 &&& Int64.toUInt64 63)).toInt64).toInt32 &&& (255 : Int32)))]) (st' := [.int (1 : Int32)]) (h' := cs_H (cs_u c 0 1 (127 : Int32)) rest) ckS_acceptNetwork rfl ?_
          have e : fS_acceptNetwork c x1 x2 = some ((1 : Int32), (cs_u c 0 1 (127 : Int32))) := by simp only [fS_acceptNetwork, if_pos h1, if_neg h2, if_pos h7, if_neg h8, if_neg h9, if_pos h10]
          obtain rfl := Option.some.inj (e.symm.trans hv)
          exact ab_iret ckS_acceptNetwork rfl rfl ⟨rfl, rfl⟩
        by_cases h11 : ((x2).toInt32 &&& (255 : Int32)) = (129 : Int32)
        · refine ab_lsw (tgt := 101) (off := 63) ckS_acceptNetwork rfl (by decide) (by rw [h11]; decide) (by decide) ?_
          refine ab_go 1 [] (pc' := 102) (lo' := [some (.ref 8), some (.int x1), some (.long x2), none, some (.int ((((x2).toUInt64 >>> (((8 : Int32)).toInt64.toUInt64 &&& Int64.toUInt64 63)).toInt64).toInt32 &&& (255 : Int32)))]) (st' := [.ref 8]) (h' := cs_H c rest) ckS_acceptNetwork rfl ?_
          rcases e4 : fS_comeUp c with _ | p4
          · exact ab_no hv (by simp only [fS_acceptNetwork, if_pos h1, if_neg h2, if_pos h7, if_neg h8, if_neg h9, if_neg h10, if_pos h11, e4, ab_bd_n])
          refine ab_callV (bc2 := 0) (bs2 := 0) (as := []) (rest := []) ckS_acceptNetwork rfl (by decide +kernel) wS_comeUp (tS_comeUp (d := d) (c := c) hX (v := p4) e4) rfl rfl (by omega) ⟨Nat.le_refl _, Nat.le_refl _⟩ (Nat.le_of_ble_eq_true rfl) ?_
          rintro _ _ ⟨rfl, rfl⟩
          refine ab_go 1 [] (pc' := 106) (lo' := [some (.ref 8), some (.int x1), some (.long x2), none, some (.int ((((x2).toUInt64 >>> (((8 : Int32)).toInt64.toUInt64 &&& Int64.toUInt64 63)).toInt64).toInt32 &&& (255 : Int32)))]) (st' := [.int (1 : Int32)]) (h' := cs_H p4 rest) ckS_acceptNetwork rfl ?_
          have e : fS_acceptNetwork c x1 x2 = some ((1 : Int32), p4) := by simp only [fS_acceptNetwork, if_pos h1, if_neg h2, if_pos h7, if_neg h8, if_neg h9, if_neg h10, if_pos h11, e4, ab_bd_s]
          obtain rfl := Option.some.inj (e.symm.trans hv)
          exact ab_iret ckS_acceptNetwork rfl rfl ⟨rfl, rfl⟩
        refine ab_lsw (tgt := 107) ckS_acceptNetwork rfl (by decide) (off := 69) (by show Op.lookupswitch.offset [(1, 42), (2, 48), (128, 55), (129, 63)] 69 _ = _; rw [lv_osw h8 (by decide)]; rw [lv_osw h9 (by decide)]; rw [lv_osw h10 (by decide)]; rw [lv_osw h11 (by decide)]; rfl) (by decide) ?_
        refine ab_go 1 [] (pc' := 108) (lo' := [some (.ref 8), some (.int x1), some (.long x2), none, some (.int ((((x2).toUInt64 >>> (((8 : Int32)).toInt64.toUInt64 &&& Int64.toUInt64 63)).toInt64).toInt32 &&& (255 : Int32)))]) (st' := [.int (0 : Int32)]) (h' := cs_H c rest) ckS_acceptNetwork rfl ?_
        have e : fS_acceptNetwork c x1 x2 = some ((0 : Int32), c) := by simp only [fS_acceptNetwork, if_pos h1, if_neg h2, if_pos h7, if_neg h8, if_neg h9, if_neg h10, if_neg h11]
        obtain rfl := Option.some.inj (e.symm.trans hv)
        exact ab_iret ckS_acceptNetwork rfl rfl ⟨rfl, rfl⟩
      · refine ab_go 1 [] (pc' := 31) (lo' := [some (.ref 8), some (.int x1), some (.long x2), none, some (.int ((((x2).toUInt64 >>> (((8 : Int32)).toInt64.toUInt64 &&& Int64.toUInt64 63)).toInt64).toInt32 &&& (255 : Int32)))]) (st' := [.int (0 : Int32)]) (h' := cs_H c rest) ckS_acceptNetwork rfl ?_
        have e : fS_acceptNetwork c x1 x2 = some ((0 : Int32), c) := by simp only [fS_acceptNetwork, if_pos h1, if_neg h2, if_neg h7]
        obtain rfl := Option.some.inj (e.symm.trans hv)
        exact ab_iret ckS_acceptNetwork rfl rfl ⟨rfl, rfl⟩
def fS_receive (c : cs_S) (x1 : Int32) (x2 : Int32) (x3 : Int64) : Option (Int32 × cs_S) := (if x1 < 0 then (some ((-1 : Int32), c)) else (if (2047 : Int32) < x1 then (some ((-1 : Int32), c)) else (if x2 < 0 then (some ((-1 : Int32), c)) else (if x2 ≤ (8 : Int32) then (ab_bd (fB_isBusOn c) (fun p1 => (if p1 = 0 then (some ((0 : Int32), c)) else (if x1 = 0 then (ab_bd (fS_acceptNetwork c x2 x3) (fun p6 => (some (p6.1, p6.2)))) else (if x1 = (128 : Int32) then (ab_bd (fS_acceptSync c) (fun p5 => (some (p5.1, p5.2)))) else (if x1 = ((512 : Int32) + (c.1 0 0)) then (ab_bd (fS_acceptIn c x2 x3) (fun p4 => (some (p4.1, p4.2)))) else (if x1 = ((1536 : Int32) + (c.1 0 0)) then (ab_bd (fS_acceptChannel c x2 x3) (fun p3 => (some (p3.1, p3.2)))) else (let p2 := fS_acceptHeartbeat c (x1 - (1792 : Int32)) x2; (some (p2.1, p2.2)))))))))) else (some ((-1 : Int32), c))))))
theorem tS_receive {x1 : Int32} {x2 : Int32} {x3 : Int64} (hX : cs_X X) {v : Int32 × cs_S} (hv : fS_receive c x1 x2 x3 = some v) : ab_M X mS_receive (d + 6) 0 0 [.ref 8, .int x1, .int x2, .long x3] (cs_H c rest) (fun r9 h9 => r9 = some (Value.int v.1) ∧ h9 = cs_H v.2 rest) := by
  refine ab_entry (by decide) (Nat.le_of_ble_eq_true rfl) ?_
  refine ab_go 1 [] (pc' := 1) (lo' := [some (.ref 8), some (.int x1), some (.int x2), some (.long x3), none]) (st' := [.int x1]) (h' := cs_H c rest) ckS_receive rfl ?_
  refine ab_if_lt ckS_receive rfl (fun (h1 : x1 < 0) => ?_) (fun (h1 : ¬ (x1 < 0)) => ?_)
  · refine ab_go 1 [] (pc' := 22) (lo' := [some (.ref 8), some (.int x1), some (.int x2), some (.long x3), none]) (st' := [.int (-1 : Int32)]) (h' := cs_H c rest) ckS_receive rfl ?_
    have e : fS_receive c x1 x2 x3 = some ((-1 : Int32), c) := by simp only [fS_receive, if_pos h1]
    obtain rfl := Option.some.inj (e.symm.trans hv)
    exact ab_iret ckS_receive rfl rfl ⟨rfl, rfl⟩
  · refine ab_go 2 [] (pc' := 8) (lo' := [some (.ref 8), some (.int x1), some (.int x2), some (.long x3), none]) (st' := [.int (2047 : Int32), .int x1]) (h' := cs_H c rest) ckS_receive rfl ?_
    refine ab_icmp_gt ckS_receive rfl (fun (h2 : (2047 : Int32) < x1) => ?_) (fun (h2 : ¬ ((2047 : Int32) < x1)) => ?_)
    · refine ab_go 1 [] (pc' := 22) (lo' := [some (.ref 8), some (.int x1), some (.int x2), some (.long x3), none]) (st' := [.int (-1 : Int32)]) (h' := cs_H c rest) ckS_receive rfl ?_
      have e : fS_receive c x1 x2 x3 = some ((-1 : Int32), c) := by simp only [fS_receive, if_neg h1, if_pos h2]
      obtain rfl := Option.some.inj (e.symm.trans hv)
      exact ab_iret ckS_receive rfl rfl ⟨rfl, rfl⟩
    · refine ab_go 1 [] (pc' := 12) (lo' := [some (.ref 8), some (.int x1), some (.int x2), some (.long x3), none]) (st' := [.int x2]) (h' := cs_H c rest) ckS_receive rfl ?_
      refine ab_if_lt ckS_receive rfl (fun (h3 : x2 < 0) => ?_) (fun (h3 : ¬ (x2 < 0)) => ?_)
      · refine ab_go 1 [] (pc' := 22) (lo' := [some (.ref 8), some (.int x1), some (.int x2), some (.long x3), none]) (st' := [.int (-1 : Int32)]) (h' := cs_H c rest) ckS_receive rfl ?_
        have e : fS_receive c x1 x2 x3 = some ((-1 : Int32), c) := by simp only [fS_receive, if_neg h1, if_neg h2, if_pos h3]
        obtain rfl := Option.some.inj (e.symm.trans hv)
        exact ab_iret ckS_receive rfl rfl ⟨rfl, rfl⟩
      · refine ab_go 2 [] (pc' := 18) (lo' := [some (.ref 8), some (.int x1), some (.int x2), some (.long x3), none]) (st' := [.int (8 : Int32), .int x2]) (h' := cs_H c rest) ckS_receive rfl ?_
        refine ab_icmp_le ckS_receive rfl (fun (h4 : x2 ≤ (8 : Int32)) => ?_) (fun (h4 : ¬ (x2 ≤ (8 : Int32))) => ?_)
        · refine ab_go 2 [] (pc' := 27) (lo' := [some (.ref 8), some (.int x1), some (.int x2), some (.long x3), none]) (st' := [.ref 10]) (h' := cs_H c rest) ckS_receive rfl ?_
          rcases e1 : fB_isBusOn c with _ | p1
          · exact ab_no hv (by simp only [fS_receive, if_neg h1, if_neg h2, if_neg h3, if_pos h4, e1, ab_bd_n])
          refine ab_callV (bc2 := 0) (bs2 := 0) (as := []) (rest := []) ckS_receive rfl (by decide +kernel) wB_isBusOn (tB_isBusOn (d := d + 5) (c := c) (v := p1) e1) rfl rfl (by omega) ⟨Nat.le_refl _, Nat.le_refl _⟩ (Nat.le_of_ble_eq_true rfl) ?_
          rintro _ _ ⟨rfl, rfl⟩
          refine ab_if_ne ckS_receive rfl (fun (h5 : ¬ (p1 = 0)) => ?_) (fun (h5 : p1 = 0) => ?_)
          · refine ab_go 1 [] (pc' := 36) (lo' := [some (.ref 8), some (.int x1), some (.int x2), some (.long x3), none]) (st' := [.int x1]) (h' := cs_H c rest) ckS_receive rfl ?_
            refine ab_if_ne ckS_receive rfl (fun (h6 : ¬ (x1 = 0)) => ?_) (fun (h6 : x1 = 0) => ?_)
            · refine ab_go 2 [] (pc' := 50) (lo' := [some (.ref 8), some (.int x1), some (.int x2), some (.long x3), none]) (st' := [.int (128 : Int32), .int x1]) (h' := cs_H c rest) ckS_receive rfl ?_
              refine ab_icmp_ne ckS_receive rfl (fun (h7 : ¬ (x1 = (128 : Int32))) => ?_) (fun (h7 : x1 = (128 : Int32)) => ?_)
              · refine ab_go 5 [] (pc' := 67) (lo' := [some (.ref 8), some (.int x1), some (.int x2), some (.long x3), none]) (st' := [.int ((512 : Int32) + (c.1 0 0)), .int x1]) (h' := cs_H c rest) ckS_receive rfl ?_
                refine ab_icmp_ne ckS_receive rfl (fun (h8 : ¬ (x1 = ((512 : Int32) + (c.1 0 0)))) => ?_) (fun (h8 : x1 = ((512 : Int32) + (c.1 0 0))) => ?_)
                · refine ab_go 5 [] (pc' := 86) (lo' := [some (.ref 8), some (.int x1), some (.int x2), some (.long x3), none]) (st' := [.int ((1536 : Int32) + (c.1 0 0)), .int x1]) (h' := cs_H c rest) ckS_receive rfl ?_
                  refine ab_icmp_ne ckS_receive rfl (fun (h9 : ¬ (x1 = ((1536 : Int32) + (c.1 0 0)))) => ?_) (fun (h9 : x1 = ((1536 : Int32) + (c.1 0 0))) => ?_)
                  · refine ab_go 5 [] (pc' := 103) (lo' := [some (.ref 8), some (.int x1), some (.int x2), some (.long x3), none]) (st' := [.int x2, .int (x1 - (1792 : Int32)), .ref 8]) (h' := cs_H c rest) ckS_receive rfl ?_
                    refine ab_callV (bc2 := 0) (bs2 := 0) (as := [_, _]) (rest := []) ckS_receive rfl (by decide +kernel) wS_acceptHeartbeat (tS_acceptHeartbeat (d := d + 4) (x1 := (x1 - (1792 : Int32))) (x2 := x2) (c := c)) rfl rfl (by omega) ⟨Nat.le_refl _, Nat.le_refl _⟩ (Nat.le_of_ble_eq_true rfl) ?_
                    rintro _ _ ⟨rfl, rfl⟩
                    generalize e2 : fS_acceptHeartbeat c (x1 - (1792 : Int32)) x2 = p2
                    have e : fS_receive c x1 x2 x3 = some (p2.1, p2.2) := by simp only [fS_receive, if_neg h1, if_neg h2, if_neg h3, if_pos h4, e1, ab_bd_s, if_neg h5, if_neg h6, if_neg h7, if_neg h8, if_neg h9, e2]
                    obtain rfl := Option.some.inj (e.symm.trans hv)
                    exact ab_iret ckS_receive rfl rfl ⟨rfl, rfl⟩
                  · refine ab_go 3 [] (pc' := 92) (lo' := [some (.ref 8), some (.int x1), some (.int x2), some (.long x3), none]) (st' := [.long x3, .int x2, .ref 8]) (h' := cs_H c rest) ckS_receive rfl ?_
                    rcases e3 : fS_acceptChannel c x2 x3 with _ | p3
                    · exact ab_no hv (by simp only [fS_receive, if_neg h1, if_neg h2, if_neg h3, if_pos h4, e1, ab_bd_s, if_neg h5, if_neg h6, if_neg h7, if_neg h8, if_pos h9, e3, ab_bd_n])
                    refine ab_callV (bc2 := 0) (bs2 := 0) (as := [_, _]) (rest := []) ckS_receive rfl (by decide +kernel) wS_acceptChannel (tS_acceptChannel (d := d) (x1 := x2) (x2 := x3) (c := c) hX (v := p3) e3) rfl rfl (by omega) ⟨Nat.le_refl _, Nat.le_refl _⟩ (Nat.le_of_ble_eq_true rfl) ?_
                    rintro _ _ ⟨rfl, rfl⟩
                    have e : fS_receive c x1 x2 x3 = some (p3.1, p3.2) := by simp only [fS_receive, if_neg h1, if_neg h2, if_neg h3, if_pos h4, e1, ab_bd_s, if_neg h5, if_neg h6, if_neg h7, if_neg h8, if_pos h9, e3, ab_bd_s]
                    obtain rfl := Option.some.inj (e.symm.trans hv)
                    exact ab_iret ckS_receive rfl rfl ⟨rfl, rfl⟩
                · refine ab_go 3 [] (pc' := 73) (lo' := [some (.ref 8), some (.int x1), some (.int x2), some (.long x3), none]) (st' := [.long x3, .int x2, .ref 8]) (h' := cs_H c rest) ckS_receive rfl ?_
                  rcases e4 : fS_acceptIn c x2 x3 with _ | p4
                  · exact ab_no hv (by simp only [fS_receive, if_neg h1, if_neg h2, if_neg h3, if_pos h4, e1, ab_bd_s, if_neg h5, if_neg h6, if_neg h7, if_pos h8, e4, ab_bd_n])
                  refine ab_callV (bc2 := 0) (bs2 := 0) (as := [_, _]) (rest := []) ckS_receive rfl (by decide +kernel) wS_acceptIn (tS_acceptIn (d := d + 2) (x1 := x2) (x2 := x3) (c := c) hX (v := p4) e4) rfl rfl (by omega) ⟨Nat.le_refl _, Nat.le_refl _⟩ (Nat.le_of_ble_eq_true rfl) ?_
                  rintro _ _ ⟨rfl, rfl⟩
                  have e : fS_receive c x1 x2 x3 = some (p4.1, p4.2) := by simp only [fS_receive, if_neg h1, if_neg h2, if_neg h3, if_pos h4, e1, ab_bd_s, if_neg h5, if_neg h6, if_neg h7, if_pos h8, e4, ab_bd_s]
                  obtain rfl := Option.some.inj (e.symm.trans hv)
                  exact ab_iret ckS_receive rfl rfl ⟨rfl, rfl⟩
              · refine ab_go 1 [] (pc' := 54) (lo' := [some (.ref 8), some (.int x1), some (.int x2), some (.long x3), none]) (st' := [.ref 8]) (h' := cs_H c rest) ckS_receive rfl ?_
                rcases e5 : fS_acceptSync c with _ | p5
                · exact ab_no hv (by simp only [fS_receive, if_neg h1, if_neg h2, if_neg h3, if_pos h4, e1, ab_bd_s, if_neg h5, if_neg h6, if_pos h7, e5, ab_bd_n])
                refine ab_callV (bc2 := 0) (bs2 := 0) (as := []) (rest := []) ckS_receive rfl (by decide +kernel) wS_acceptSync (tS_acceptSync (d := d + 1) (c := c) hX (v := p5) e5) rfl rfl (by omega) ⟨Nat.le_refl _, Nat.le_refl _⟩ (Nat.le_of_ble_eq_true rfl) ?_
                rintro _ _ ⟨rfl, rfl⟩
                have e : fS_receive c x1 x2 x3 = some (p5.1, p5.2) := by simp only [fS_receive, if_neg h1, if_neg h2, if_neg h3, if_pos h4, e1, ab_bd_s, if_neg h5, if_neg h6, if_pos h7, e5, ab_bd_s]
                obtain rfl := Option.some.inj (e.symm.trans hv)
                exact ab_iret ckS_receive rfl rfl ⟨rfl, rfl⟩
            · refine ab_go 3 [] (pc' := 42) (lo' := [some (.ref 8), some (.int x1), some (.int x2), some (.long x3), none]) (st' := [.long x3, .int x2, .ref 8]) (h' := cs_H c rest) ckS_receive rfl ?_
              rcases e6 : fS_acceptNetwork c x2 x3 with _ | p6
              · exact ab_no hv (by simp only [fS_receive, if_neg h1, if_neg h2, if_neg h3, if_pos h4, e1, ab_bd_s, if_neg h5, if_pos h6, e6, ab_bd_n])
              refine ab_callV (bc2 := 0) (bs2 := 0) (as := [_, _]) (rest := []) ckS_receive rfl (by decide +kernel) wS_acceptNetwork (tS_acceptNetwork (d := d + 2) (x1 := x2) (x2 := x3) (c := c) hX (v := p6) e6) rfl rfl (by omega) ⟨Nat.le_refl _, Nat.le_refl _⟩ (Nat.le_of_ble_eq_true rfl) ?_
              rintro _ _ ⟨rfl, rfl⟩
              have e : fS_receive c x1 x2 x3 = some (p6.1, p6.2) := by simp only [fS_receive, if_neg h1, if_neg h2, if_neg h3, if_pos h4, e1, ab_bd_s, if_neg h5, if_pos h6, e6, ab_bd_s]
              obtain rfl := Option.some.inj (e.symm.trans hv)
              exact ab_iret ckS_receive rfl rfl ⟨rfl, rfl⟩
          · refine ab_go 1 [] (pc' := 34) (lo' := [some (.ref 8), some (.int x1), some (.int x2), some (.long x3), none]) (st' := [.int (0 : Int32)]) (h' := cs_H c rest) ckS_receive rfl ?_
            have e : fS_receive c x1 x2 x3 = some ((0 : Int32), c) := by simp only [fS_receive, if_neg h1, if_neg h2, if_neg h3, if_pos h4, e1, ab_bd_s, if_pos h5]
            obtain rfl := Option.some.inj (e.symm.trans hv)
            exact ab_iret ckS_receive rfl rfl ⟨rfl, rfl⟩
        · refine ab_go 1 [] (pc' := 22) (lo' := [some (.ref 8), some (.int x1), some (.int x2), some (.long x3), none]) (st' := [.int (-1 : Int32)]) (h' := cs_H c rest) ckS_receive rfl ?_
          have e : fS_receive c x1 x2 x3 = some ((-1 : Int32), c) := by simp only [fS_receive, if_neg h1, if_neg h2, if_neg h3, if_neg h4]
          obtain rfl := Option.some.inj (e.symm.trans hv)
          exact ab_iret ckS_receive rfl rfl ⟨rfl, rfl⟩
def fS_tick (c : cs_S) (x1 : Int32) : Option (Int32 × cs_S) := (if x1 < (-1000000 : Int32) then (some ((0 : Int32), c)) else (if x1 ≤ (1000000 : Int32) then (ab_bd (fS_makeTick c x1) (fun p1 => (some ((1 : Int32), p1)))) else (some ((0 : Int32), c))))
theorem tS_tick {x1 : Int32} (hX : cs_X X) {v : Int32 × cs_S} (hv : fS_tick c x1 = some v) : ab_M X mS_tick (d + 6) 0 0 [.ref 8, .int x1] (cs_H c rest) (fun r9 h9 => r9 = some (Value.int v.1) ∧ h9 = cs_H v.2 rest) := by
  refine ab_entry (by decide) (Nat.le_of_ble_eq_true rfl) ?_
  refine ab_go 2 [] (pc' := 3) (lo' := [some (.ref 8), some (.int x1)]) (st' := [.int (-1000000 : Int32), .int x1]) (h' := cs_H c rest) ckS_tick rfl ?_
  refine ab_icmp_lt ckS_tick rfl (fun (h1 : x1 < (-1000000 : Int32)) => ?_) (fun (h1 : ¬ (x1 < (-1000000 : Int32))) => ?_)
  · refine ab_go 1 [] (pc' := 13) (lo' := [some (.ref 8), some (.int x1)]) (st' := [.int (0 : Int32)]) (h' := cs_H c rest) ckS_tick rfl ?_
    have e : fS_tick c x1 = some ((0 : Int32), c) := by simp only [fS_tick, if_pos h1]
    obtain rfl := Option.some.inj (e.symm.trans hv)
    exact ab_zret ckS_tick rfl rfl (Or.inl rfl) ⟨rfl, rfl⟩
  · refine ab_go 2 [] (pc' := 9) (lo' := [some (.ref 8), some (.int x1)]) (st' := [.int (1000000 : Int32), .int x1]) (h' := cs_H c rest) ckS_tick rfl ?_
    refine ab_icmp_le ckS_tick rfl (fun (h2 : x1 ≤ (1000000 : Int32)) => ?_) (fun (h2 : ¬ (x1 ≤ (1000000 : Int32))) => ?_)
    · refine ab_go 2 [] (pc' := 16) (lo' := [some (.ref 8), some (.int x1)]) (st' := [.int x1, .ref 8]) (h' := cs_H c rest) ckS_tick rfl ?_
      rcases e1 : fS_makeTick c x1 with _ | p1
      · exact ab_no hv (by simp only [fS_tick, if_neg h1, if_pos h2, e1, ab_bd_n])
      refine ab_callV (bc2 := 0) (bs2 := 0) (as := [_]) (rest := []) ckS_tick rfl (by decide +kernel) wS_makeTick (tS_makeTick (d := d) (x1 := x1) (c := c) hX (v := p1) e1) rfl rfl (by omega) ⟨Nat.le_refl _, Nat.le_refl _⟩ (Nat.le_of_ble_eq_true rfl) ?_
      rintro _ _ ⟨rfl, rfl⟩
      refine ab_go 1 [] (pc' := 20) (lo' := [some (.ref 8), some (.int x1)]) (st' := [.int (1 : Int32)]) (h' := cs_H p1 rest) ckS_tick rfl ?_
      have e : fS_tick c x1 = some ((1 : Int32), p1) := by simp only [fS_tick, if_neg h1, if_pos h2, e1, ab_bd_s]
      obtain rfl := Option.some.inj (e.symm.trans hv)
      exact ab_zret ckS_tick rfl rfl (Or.inr rfl) ⟨rfl, rfl⟩
    · refine ab_go 1 [] (pc' := 13) (lo' := [some (.ref 8), some (.int x1)]) (st' := [.int (0 : Int32)]) (h' := cs_H c rest) ckS_tick rfl ?_
      have e : fS_tick c x1 = some ((0 : Int32), c) := by simp only [fS_tick, if_neg h1, if_neg h2]
      obtain rfl := Option.some.inj (e.symm.trans hv)
      exact ab_zret ckS_tick rfl rfl (Or.inl rfl) ⟨rfl, rfl⟩
def fS_run_16 : Nat → cs_S → Int32 → Int32 → Int32 → Option (Int32 × cs_S)
  | 0, _, _, _, _ => none
  | n + 1, c, y1, y2, y3 => (if y1 ≤ y3 then (some (y2, c)) else (ab_bd (fS_makeTick c (fV_demanded c)) (fun p1 => (if (fP_isStageOn p1) = 0 then fS_run_16 n p1 y1 y2 (y3 + (1 : Int32)) else fS_run_16 n p1 y1 (y2 + (1 : Int32)) (y3 + (1 : Int32))))))
def fS_run (c : cs_S) (x1 : Int32) : Option (Int32 × cs_S) := (if x1 < 0 then (some ((-1 : Int32), c)) else (if x1 ≤ (100 : Int32) then fS_run_16 102 c x1 (0 : Int32) (0 : Int32) else (some ((-1 : Int32), c))))
theorem tS_run_16 (hX : cs_X X) (n : Nat)   : ∀ (c : cs_S) (y1 : Int32) (y2 : Int32) (y3 : Int32)  (v : Int32 × cs_S) (hv : fS_run_16 n c y1 y2 y3 = some v), ab_W X mS_run (d + 6) 0 0 16 [some (.ref 8), some (.int y1), some (.int y2), some (.int y3)] [] (cs_H c rest) (fun r9 h9 => r9 = some (Value.int v.1) ∧ h9 = cs_H v.2 rest) := by
  induction n with
  | zero =>
    intro c y1 y2 y3 v hv
    cases hv
  | succ n ih =>
    intro c y1 y2 y3 v hv
    refine ab_go 2 [16] (pc' := 18) (lo' := [some (.ref 8), some (.int y1), some (.int y2), some (.int y3)]) (st' := [.int y1, .int y3]) (h' := cs_H c rest) ckS_run rfl ?_
    refine ab_icmp_ge ckS_run rfl (fun (h1 : y1 ≤ y3) => ?_) (fun (h1 : ¬ (y1 ≤ y3)) => ?_)
    · refine ab_go 1 [16] (pc' := 52) (lo' := [some (.ref 8), some (.int y1), some (.int y2), some (.int y3)]) (st' := [.int y2]) (h' := cs_H c rest) ckS_run rfl ?_
      have e : fS_run_16 (n + 1) c y1 y2 y3 = some (y2, c) := by simp only [fS_run_16, if_pos h1]
      obtain rfl := Option.some.inj (e.symm.trans hv)
      exact ab_iret ckS_run rfl rfl ⟨rfl, rfl⟩
    · refine ab_go 3 [16] (pc' := 26) (lo' := [some (.ref 8), some (.int y1), some (.int y2), some (.int y3)]) (st' := [.ref 20, .ref 8]) (h' := cs_H c rest) ckS_run rfl ?_
      refine ab_callV (bc2 := 0) (bs2 := 0) (as := []) (rest := [_]) ckS_run rfl (by decide +kernel) wV_demanded (tV_demanded (d := d + 5) (c := c)) rfl rfl (by omega) ⟨Nat.le_refl _, Nat.le_refl _⟩ (Nat.le_of_ble_eq_true rfl) ?_
      rintro _ _ ⟨rfl, rfl⟩
      rcases e1 : fS_makeTick c (fV_demanded c) with _ | p1
      · exact ab_no hv (by simp only [fS_run_16, if_neg h1, e1, ab_bd_n])
      refine ab_callV (bc2 := 0) (bs2 := 0) (as := [_]) (rest := []) ckS_run rfl (by decide +kernel) wS_makeTick (tS_makeTick (d := d) (x1 := (fV_demanded c)) (c := c) hX (v := p1) e1) rfl rfl (by omega) ⟨Nat.le_refl _, Nat.le_refl _⟩ (Nat.le_of_ble_eq_true rfl) ?_
      rintro _ _ ⟨rfl, rfl⟩
      refine ab_go 2 [16] (pc' := 36) (lo' := [some (.ref 8), some (.int y1), some (.int y2), some (.int y3)]) (st' := [.ref 19]) (h' := cs_H p1 rest) ckS_run rfl ?_
      refine ab_callV (bc2 := 0) (bs2 := 0) (as := []) (rest := []) ckS_run rfl (by decide +kernel) wP_isStageOn (tP_isStageOn (d := d + 5) (c := p1)) rfl rfl (by omega) ⟨Nat.le_refl _, Nat.le_refl _⟩ (Nat.le_of_ble_eq_true rfl) ?_
      rintro _ _ ⟨rfl, rfl⟩
      refine ab_if_eq ckS_run rfl (fun (h2 : (fP_isStageOn p1) = 0) => ?_) (fun (h2 : ¬ ((fP_isStageOn p1) = 0)) => ?_)
      · refine ab_go 2 [16] (pc' := 16) (lo' := [some (.ref 8), some (.int y1), some (.int y2), some (.int (y3 + (1 : Int32)))]) (st' := []) (h' := cs_H p1 rest) ckS_run rfl ?_
        have e : fS_run_16 (n + 1) c y1 y2 y3 = fS_run_16 n p1 y1 y2 (y3 + (1 : Int32)) := by simp only [fS_run_16, if_neg h1, e1, ab_bd_s, if_pos h2]
        exact ab_W.weak (ih p1 y1 y2 (y3 + (1 : Int32)) v (e.symm.trans hv)) ⟨rfl, rfl, rfl, rfl, trivial⟩
      · refine ab_go 3 [16] (pc' := 16) (lo' := [some (.ref 8), some (.int y1), some (.int (y2 + (1 : Int32))), some (.int (y3 + (1 : Int32)))]) (st' := []) (h' := cs_H p1 rest) ckS_run rfl ?_
        have e : fS_run_16 (n + 1) c y1 y2 y3 = fS_run_16 n p1 y1 (y2 + (1 : Int32)) (y3 + (1 : Int32)) := by simp only [fS_run_16, if_neg h1, e1, ab_bd_s, if_neg h2]
        exact ab_W.weak (ih p1 y1 (y2 + (1 : Int32)) (y3 + (1 : Int32)) v (e.symm.trans hv)) ⟨rfl, rfl, rfl, rfl, trivial⟩
theorem tS_run {x1 : Int32} (hX : cs_X X) {v : Int32 × cs_S} (hv : fS_run c x1 = some v) : ab_M X mS_run (d + 6) 0 0 [.ref 8, .int x1] (cs_H c rest) (fun r9 h9 => r9 = some (Value.int v.1) ∧ h9 = cs_H v.2 rest) := by
  refine ab_entry (by decide) (Nat.le_of_ble_eq_true rfl) ?_
  refine ab_go 1 [16] (pc' := 1) (lo' := [some (.ref 8), some (.int x1), none, none]) (st' := [.int x1]) (h' := cs_H c rest) ckS_run rfl ?_
  refine ab_if_lt ckS_run rfl (fun (h1 : x1 < 0) => ?_) (fun (h1 : ¬ (x1 < 0)) => ?_)
  · refine ab_go 1 [16] (pc' := 11) (lo' := [some (.ref 8), some (.int x1), none, none]) (st' := [.int (-1 : Int32)]) (h' := cs_H c rest) ckS_run rfl ?_
    have e : fS_run c x1 = some ((-1 : Int32), c) := by simp only [fS_run, if_pos h1]
    obtain rfl := Option.some.inj (e.symm.trans hv)
    exact ab_iret ckS_run rfl rfl ⟨rfl, rfl⟩
  · refine ab_go 2 [16] (pc' := 7) (lo' := [some (.ref 8), some (.int x1), none, none]) (st' := [.int (100 : Int32), .int x1]) (h' := cs_H c rest) ckS_run rfl ?_
    refine ab_icmp_le ckS_run rfl (fun (h2 : x1 ≤ (100 : Int32)) => ?_) (fun (h2 : ¬ (x1 ≤ (100 : Int32))) => ?_)
    · refine ab_go 4 [16] (pc' := 16) (lo' := [some (.ref 8), some (.int x1), some (.int (0 : Int32)), some (.int (0 : Int32))]) (st' := []) (h' := cs_H c rest) ckS_run rfl ?_
      have e : fS_run c x1 = fS_run_16 102 c x1 (0 : Int32) (0 : Int32) := by simp only [fS_run, if_neg h1, if_pos h2]
      exact ab_W.weak (tS_run_16 hX 102 c x1 (0 : Int32) (0 : Int32) v (e.symm.trans hv)) ⟨rfl, rfl, rfl, rfl, trivial⟩
    · refine ab_go 1 [16] (pc' := 11) (lo' := [some (.ref 8), some (.int x1), none, none]) (st' := [.int (-1 : Int32)]) (h' := cs_H c rest) ckS_run rfl ?_
      have e : fS_run c x1 = some ((-1 : Int32), c) := by simp only [fS_run, if_neg h1, if_neg h2]
      obtain rfl := Option.some.inj (e.symm.trans hv)
      exact ab_iret ckS_run rfl rfl ⟨rfl, rfl⟩
def fS_bus (c : cs_S) (x1 : Int32) : Option (cs_S) := (ab_bd (fB_isBusOn c) (fun p1 => (if x1 = p1 then (some c) else (ab_bd (fB_setBus c x1) (fun p2 => (if x1 = 0 then (let p3 := fB_clear p2; (ab_bd (fS_fault p3 (33088 : Int32)) (fun p4 => (some p4)))) else (some p2)))))))
theorem tS_bus {x1 : Int32} {v : cs_S} (hv : fS_bus c x1 = some v) : ab_M X mS_bus (d + 3) 0 0 [.ref 8, .int x1] (cs_H c rest) (fun r9 h9 => r9 = none ∧ h9 = cs_H v rest) := by
  refine ab_entry (by decide) (Nat.le_of_ble_eq_true rfl) ?_
  refine ab_go 3 [] (pc' := 5) (lo' := [some (.ref 8), some (.int x1)]) (st' := [.ref 10, .int x1]) (h' := cs_H c rest) ckS_bus rfl ?_
  rcases e1 : fB_isBusOn c with _ | p1
  · exact ab_no hv (by simp only [fS_bus, e1, ab_bd_n])
  refine ab_callV (bc2 := 0) (bs2 := 0) (as := []) (rest := [_]) ckS_bus rfl (by decide +kernel) wB_isBusOn (tB_isBusOn (d := d + 2) (c := c) (v := p1) e1) rfl rfl (by omega) ⟨Nat.le_refl _, Nat.le_refl _⟩ (Nat.le_of_ble_eq_true rfl) ?_
  rintro _ _ ⟨rfl, rfl⟩
  refine ab_icmp_ne ckS_bus rfl (fun (h1 : ¬ (x1 = p1)) => ?_) (fun (h1 : x1 = p1) => ?_)
  · refine ab_go 3 [] (pc' := 17) (lo' := [some (.ref 8), some (.int x1)]) (st' := [.int x1, .ref 10]) (h' := cs_H c rest) ckS_bus rfl ?_
    rcases e2 : fB_setBus c x1 with _ | p2
    · exact ab_no hv (by simp only [fS_bus, e1, ab_bd_s, if_neg h1, e2, ab_bd_n])
    refine ab_callV (bc2 := 0) (bs2 := 0) (as := [_]) (rest := []) ckS_bus rfl (by decide +kernel) wB_setBus (tB_setBus (d := d + 2) (x1 := x1) (c := c) (v := p2) e2) rfl rfl (by omega) ⟨Nat.le_refl _, Nat.le_refl _⟩ (Nat.le_of_ble_eq_true rfl) ?_
    rintro _ _ ⟨rfl, rfl⟩
    refine ab_go 1 [] (pc' := 21) (lo' := [some (.ref 8), some (.int x1)]) (st' := [.int x1]) (h' := cs_H p2 rest) ckS_bus rfl ?_
    refine ab_if_ne ckS_bus rfl (fun (h2 : ¬ (x1 = 0)) => ?_) (fun (h2 : x1 = 0) => ?_)
    · have e : fS_bus c x1 = some p2 := by simp only [fS_bus, e1, ab_bd_s, if_neg h1, e2, ab_bd_s, if_neg h2]
      obtain rfl := Option.some.inj (e.symm.trans hv)
      exact ab_vret ckS_bus rfl rfl ⟨rfl, rfl⟩
    · refine ab_go 2 [] (pc' := 28) (lo' := [some (.ref 8), some (.int x1)]) (st' := [.ref 10]) (h' := cs_H p2 rest) ckS_bus rfl ?_
      refine ab_callV (bc2 := 0) (bs2 := 0) (as := []) (rest := []) ckS_bus rfl (by decide +kernel) wB_clear (tB_clear (d := d + 2) (c := p2)) rfl rfl (by omega) ⟨Nat.le_refl _, Nat.le_refl _⟩ (Nat.le_of_ble_eq_true rfl) ?_
      rintro _ _ ⟨rfl, rfl⟩
      generalize e3 : fB_clear p2 = p3
      refine ab_go 2 [] (pc' := 34) (lo' := [some (.ref 8), some (.int x1)]) (st' := [.int (33088 : Int32), .ref 8]) (h' := cs_H p3 rest) ckS_bus rfl ?_
      rcases e4 : fS_fault p3 (33088 : Int32) with _ | p4
      · exact ab_no hv (by simp only [fS_bus, e1, ab_bd_s, if_neg h1, e2, ab_bd_s, if_pos h2, e3, e4, ab_bd_n])
      refine ab_callV (bc2 := 0) (bs2 := 0) (as := [_]) (rest := []) ckS_bus rfl (by decide +kernel) wS_fault (tS_fault (d := d) (x1 := (33088 : Int32)) (c := p3) (v := p4) e4) rfl rfl (by omega) ⟨Nat.le_refl _, Nat.le_refl _⟩ (Nat.le_of_ble_eq_true rfl) ?_
      rintro _ _ ⟨rfl, rfl⟩
      have e : fS_bus c x1 = some p4 := by simp only [fS_bus, e1, ab_bd_s, if_neg h1, e2, ab_bd_s, if_pos h2, e3, e4, ab_bd_s]
      obtain rfl := Option.some.inj (e.symm.trans hv)
      exact ab_vret ckS_bus rfl rfl ⟨rfl, rfl⟩
  · have e : fS_bus c x1 = some c := by simp only [fS_bus, e1, ab_bd_s, if_pos h1]
    obtain rfl := Option.some.inj (e.symm.trans hv)
    exact ab_vret ckS_bus rfl rfl ⟨rfl, rfl⟩
def fS_restart (c : cs_S)  : Option (cs_S) := (ab_bd (fS_comeUp c) (fun p1 => (some p1)))
theorem tS_restart (hX : cs_X X) {v : cs_S} (hv : fS_restart c = some v) : ab_M X mS_restart (d + 3) 0 0 [.ref 8] (cs_H c rest) (fun r9 h9 => r9 = none ∧ h9 = cs_H v rest) := by
  refine ab_entry (by decide) (Nat.le_of_ble_eq_true rfl) ?_
  refine ab_go 1 [] (pc' := 1) (lo' := [some (.ref 8)]) (st' := [.ref 8]) (h' := cs_H c rest) ckS_restart rfl ?_
  rcases e1 : fS_comeUp c with _ | p1
  · exact ab_no hv (by simp only [fS_restart, e1, ab_bd_n])
  refine ab_callV (bc2 := 0) (bs2 := 0) (as := []) (rest := []) ckS_restart rfl (by decide +kernel) wS_comeUp (tS_comeUp (d := d) (c := c) hX (v := p1) e1) rfl rfl (by omega) ⟨Nat.le_refl _, Nat.le_refl _⟩ (Nat.le_of_ble_eq_true rfl) ?_
  rintro _ _ ⟨rfl, rfl⟩
  have e : fS_restart c = some p1 := by simp only [fS_restart, e1, ab_bd_s]
  obtain rfl := Option.some.inj (e.symm.trans hv)
  exact ab_vret ckS_restart rfl rfl ⟨rfl, rfl⟩
def fS_nextIdentifier (c : cs_S)  : Int32 := (fB_firstIdentifier c)
theorem tS_nextIdentifier : ab_M X mS_nextIdentifier (d + 1) 0 0 [.ref 8] (cs_H c rest) (fun r9 h9 => r9 = some (Value.int (fS_nextIdentifier c)) ∧ h9 = cs_H c rest) := by
  refine ab_entry (by decide) (Nat.le_of_ble_eq_true rfl) ?_
  refine ab_go 2 [] (pc' := 4) (lo' := [some (.ref 8)]) (st' := [.ref 10]) (h' := cs_H c rest) ckS_nextIdentifier rfl ?_
  refine ab_callV (bc2 := 0) (bs2 := 0) (as := []) (rest := []) ckS_nextIdentifier rfl (by decide +kernel) wB_firstIdentifier (tB_firstIdentifier (d := d) (c := c)) rfl rfl (by omega) ⟨Nat.le_refl _, Nat.le_refl _⟩ (Nat.le_of_ble_eq_true rfl) ?_
  rintro _ _ ⟨rfl, rfl⟩
  have e : fS_nextIdentifier c = (fB_firstIdentifier c) := by simp only [fS_nextIdentifier]
  exact ab_iret ckS_nextIdentifier rfl rfl ⟨(congrArg (fun q : Int32 => some (Value.int q)) e).symm, rfl⟩
def fS_nextLength (c : cs_S)  : Int32 := (fB_firstLength c)
theorem tS_nextLength : ab_M X mS_nextLength (d + 1) 0 0 [.ref 8] (cs_H c rest) (fun r9 h9 => r9 = some (Value.int (fS_nextLength c)) ∧ h9 = cs_H c rest) := by
  refine ab_entry (by decide) (Nat.le_of_ble_eq_true rfl) ?_
  refine ab_go 2 [] (pc' := 4) (lo' := [some (.ref 8)]) (st' := [.ref 10]) (h' := cs_H c rest) ckS_nextLength rfl ?_
  refine ab_callV (bc2 := 0) (bs2 := 0) (as := []) (rest := []) ckS_nextLength rfl (by decide +kernel) wB_firstLength (tB_firstLength (d := d) (c := c)) rfl rfl (by omega) ⟨Nat.le_refl _, Nat.le_refl _⟩ (Nat.le_of_ble_eq_true rfl) ?_
  rintro _ _ ⟨rfl, rfl⟩
  have e : fS_nextLength c = (fB_firstLength c) := by simp only [fS_nextLength]
  exact ab_iret ckS_nextLength rfl rfl ⟨(congrArg (fun q : Int32 => some (Value.int q)) e).symm, rfl⟩
def fS_nextData (c : cs_S)  : Option (Int64) := (ab_bd (fB_firstData c) (fun p1 => (some p1)))
theorem tS_nextData {v : Int64} (hv : fS_nextData c = some v) : ab_M X mS_nextData (d + 1) 0 0 [.ref 8] (cs_H c rest) (fun r9 h9 => r9 = some (Value.long v) ∧ h9 = cs_H c rest) := by
  refine ab_entry (by decide) (Nat.le_of_ble_eq_true rfl) ?_
  refine ab_go 2 [] (pc' := 4) (lo' := [some (.ref 8)]) (st' := [.ref 10]) (h' := cs_H c rest) ckS_nextData rfl ?_
  rcases e1 : fB_firstData c with _ | p1
  · exact ab_no hv (by simp only [fS_nextData, e1, ab_bd_n])
  refine ab_callV (bc2 := 0) (bs2 := 0) (as := []) (rest := []) ckS_nextData rfl (by decide +kernel) wB_firstData (tB_firstData (d := d) (c := c) (v := p1) e1) rfl rfl (by omega) ⟨Nat.le_refl _, Nat.le_refl _⟩ (Nat.le_of_ble_eq_true rfl) ?_
  rintro _ _ ⟨rfl, rfl⟩
  have e : fS_nextData c = some p1 := by simp only [fS_nextData, e1, ab_bd_s]
  obtain rfl := Option.some.inj (e.symm.trans hv)
  exact ab_lret ckS_nextData rfl rfl ⟨rfl, rfl⟩
def fS_take (c : cs_S)  : Option (Int32 × cs_S) := (ab_bd (fB_dropFirst c) (fun p1 => (if ab_z01 p1.1 = true then (some (p1.1, p1.2)) else none)))
theorem tS_take {v : Int32 × cs_S} (hv : fS_take c = some v) : ab_M X mS_take (d + 1) 0 0 [.ref 8] (cs_H c rest) (fun r9 h9 => r9 = some (Value.int v.1) ∧ h9 = cs_H v.2 rest) := by
  refine ab_entry (by decide) (Nat.le_of_ble_eq_true rfl) ?_
  refine ab_go 2 [] (pc' := 4) (lo' := [some (.ref 8)]) (st' := [.ref 10]) (h' := cs_H c rest) ckS_take rfl ?_
  rcases e1 : fB_dropFirst c with _ | p1
  · exact ab_no hv (by simp only [fS_take, e1, ab_bd_n])
  refine ab_callV (bc2 := 0) (bs2 := 0) (as := []) (rest := []) ckS_take rfl (by decide +kernel) wB_dropFirst (tB_dropFirst (d := d) (c := c) (v := p1) e1) rfl rfl (by omega) ⟨Nat.le_refl _, Nat.le_refl _⟩ (Nat.le_of_ble_eq_true rfl) ?_
  rintro _ _ ⟨rfl, rfl⟩
  by_cases h1 : ab_z01 p1.1 = true
  case neg => exact ab_no hv (by simp only [fS_take, e1, ab_bd_s, if_neg h1])
  have e : fS_take c = some (p1.1, p1.2) := by simp only [fS_take, e1, ab_bd_s, if_pos h1]
  obtain rfl := Option.some.inj (e.symm.trans hv)
  exact ab_zret ckS_take rfl rfl (ab_z01_ok h1) ⟨rfl, rfl⟩
def fS_waiting (c : cs_S)  : Int32 := (fB_size c)
theorem tS_waiting : ab_M X mS_waiting (d + 1) 0 0 [.ref 8] (cs_H c rest) (fun r9 h9 => r9 = some (Value.int (fS_waiting c)) ∧ h9 = cs_H c rest) := by
  refine ab_entry (by decide) (Nat.le_of_ble_eq_true rfl) ?_
  refine ab_go 2 [] (pc' := 4) (lo' := [some (.ref 8)]) (st' := [.ref 10]) (h' := cs_H c rest) ckS_waiting rfl ?_
  refine ab_callV (bc2 := 0) (bs2 := 0) (as := []) (rest := []) ckS_waiting rfl (by decide +kernel) wB_size (tB_size (d := d) (c := c)) rfl rfl (by omega) ⟨Nat.le_refl _, Nat.le_refl _⟩ (Nat.le_of_ble_eq_true rfl) ?_
  rintro _ _ ⟨rfl, rfl⟩
  have e : fS_waiting c = (fB_size c) := by simp only [fS_waiting]
  exact ab_iret ckS_waiting rfl rfl ⟨(congrArg (fun q : Int32 => some (Value.int q)) e).symm, rfl⟩
def fS_lost (c : cs_S)  : Int32 := (fB_lostFrames c)
theorem tS_lost : ab_M X mS_lost (d + 1) 0 0 [.ref 8] (cs_H c rest) (fun r9 h9 => r9 = some (Value.int (fS_lost c)) ∧ h9 = cs_H c rest) := by
  refine ab_entry (by decide) (Nat.le_of_ble_eq_true rfl) ?_
  refine ab_go 2 [] (pc' := 4) (lo' := [some (.ref 8)]) (st' := [.ref 10]) (h' := cs_H c rest) ckS_lost rfl ?_
  refine ab_callV (bc2 := 0) (bs2 := 0) (as := []) (rest := []) ckS_lost rfl (by decide +kernel) wB_lostFrames (tB_lostFrames (d := d) (c := c)) rfl rfl (by omega) ⟨Nat.le_refl _, Nat.le_refl _⟩ (Nat.le_of_ble_eq_true rfl) ?_
  rintro _ _ ⟨rfl, rfl⟩
  have e : fS_lost c = (fB_lostFrames c) := by simp only [fS_lost]
  exact ab_iret ckS_lost rfl rfl ⟨(congrArg (fun q : Int32 => some (Value.int q)) e).symm, rfl⟩
def fS_object (c : cs_S) (x1 : Int32) (x2 : Int32) : Option (Int32 × cs_S) := (ab_bd (fC_find x1 x2) (fun p1 => (if p1 = (-1 : Int32) then (some ((0 : Int32), c)) else (ab_bd (fC_kind p1) (fun p2 => (if p2 = (1 : Int32) then (some ((0 : Int32), c)) else (ab_bd (fS_refreshStatus c) (fun p3 => (if ab_inb p1 30 = true then (some ((p3.1 1 (p1).toNatClampNeg), p3)) else none)))))))))
theorem tS_object {x1 : Int32} {x2 : Int32} (hX : cs_X X) {v : Int32 × cs_S} (hv : fS_object c x1 x2 = some v) : ab_M X mS_object (d + 4) 0 0 [.ref 8, .int x1, .int x2] (cs_H c rest) (fun r9 h9 => r9 = some (Value.int v.1) ∧ h9 = cs_H v.2 rest) := by
  refine ab_entry (by decide) (Nat.le_of_ble_eq_true rfl) ?_
  refine ab_go 2 [] (pc' := 2) (lo' := [some (.ref 8), some (.int x1), some (.int x2), none]) (st' := [.int x2, .int x1]) (h' := cs_H c rest) ckS_object rfl ?_
  rcases e1 : fC_find x1 x2 with _ | p1
  · exact ab_no hv (by simp only [fS_object, e1, ab_bd_n])
  refine ab_callS (bc2 := 0) (bs2 := 0) (as := [_, _]) (rest := []) ckS_object rfl (by decide +kernel) wC_find (tC_find (d := d + 3) (x1 := x1) (x2 := x2) hX (v := p1) e1) (by omega) ⟨Nat.le_refl _, Nat.le_refl _⟩ (Nat.le_of_ble_eq_true rfl) ?_
  rintro _ _ ⟨rfl, rfl⟩
  refine ab_go 3 [] (pc' := 8) (lo' := [some (.ref 8), some (.int x1), some (.int x2), some (.int p1)]) (st' := [.int (-1 : Int32), .int p1]) (h' := cs_H c rest) ckS_object rfl ?_
  refine ab_icmp_eq ckS_object rfl (fun (h1 : p1 = (-1 : Int32)) => ?_) (fun (h1 : ¬ (p1 = (-1 : Int32))) => ?_)
  · refine ab_go 1 [] (pc' := 20) (lo' := [some (.ref 8), some (.int x1), some (.int x2), some (.int p1)]) (st' := [.int (0 : Int32)]) (h' := cs_H c rest) ckS_object rfl ?_
    have e : fS_object c x1 x2 = some ((0 : Int32), c) := by simp only [fS_object, e1, ab_bd_s, if_pos h1]
    obtain rfl := Option.some.inj (e.symm.trans hv)
    exact ab_iret ckS_object rfl rfl ⟨rfl, rfl⟩
  · refine ab_go 1 [] (pc' := 12) (lo' := [some (.ref 8), some (.int x1), some (.int x2), some (.int p1)]) (st' := [.int p1]) (h' := cs_H c rest) ckS_object rfl ?_
    rcases e2 : fC_kind p1 with _ | p2
    · exact ab_no hv (by simp only [fS_object, e1, ab_bd_s, if_neg h1, e2, ab_bd_n])
    refine ab_callS (bc2 := 0) (bs2 := 0) (as := [_]) (rest := []) ckS_object rfl (by decide +kernel) wC_kind (tC_kind (d := d + 3) (x1 := p1) hX (v := p2) e2) (by omega) ⟨Nat.le_refl _, Nat.le_refl _⟩ (Nat.le_of_ble_eq_true rfl) ?_
    rintro _ _ ⟨rfl, rfl⟩
    refine ab_go 1 [] (pc' := 16) (lo' := [some (.ref 8), some (.int x1), some (.int x2), some (.int p1)]) (st' := [.int (1 : Int32), .int p2]) (h' := cs_H c rest) ckS_object rfl ?_
    refine ab_icmp_ne ckS_object rfl (fun (h2 : ¬ (p2 = (1 : Int32))) => ?_) (fun (h2 : p2 = (1 : Int32)) => ?_)
    · refine ab_go 1 [] (pc' := 22) (lo' := [some (.ref 8), some (.int x1), some (.int x2), some (.int p1)]) (st' := [.ref 8]) (h' := cs_H c rest) ckS_object rfl ?_
      rcases e3 : fS_refreshStatus c with _ | p3
      · exact ab_no hv (by simp only [fS_object, e1, ab_bd_s, if_neg h1, e2, ab_bd_s, if_neg h2, e3, ab_bd_n])
      refine ab_callV (bc2 := 0) (bs2 := 0) (as := []) (rest := []) ckS_object rfl (by decide +kernel) wS_refreshStatus (tS_refreshStatus (d := d) (c := c) hX (v := p3) e3) rfl rfl (by omega) ⟨Nat.le_refl _, Nat.le_refl _⟩ (Nat.le_of_ble_eq_true rfl) ?_
      rintro _ _ ⟨rfl, rfl⟩
      refine ab_go 3 [] (pc' := 30) (lo' := [some (.ref 8), some (.int x1), some (.int x2), some (.int p1)]) (st' := [.int p1, .ref 9]) (h' := cs_H p3 rest) ckS_object rfl ?_
      by_cases h3 : ab_inb p1 30 = true
      case neg => exact ab_no hv (by simp only [fS_object, e1, ab_bd_s, if_neg h1, e2, ab_bd_s, if_neg h2, e3, ab_bd_s, if_neg h3])
      refine ab_iald ckS_object rfl rfl (ab_inb_ok h3) ?_
      have e : fS_object c x1 x2 = some ((p3.1 1 (p1).toNatClampNeg), p3) := by simp only [fS_object, e1, ab_bd_s, if_neg h1, e2, ab_bd_s, if_neg h2, e3, ab_bd_s, if_pos h3]
      obtain rfl := Option.some.inj (e.symm.trans hv)
      exact ab_iret ckS_object rfl rfl ⟨rfl, rfl⟩
    · refine ab_go 1 [] (pc' := 20) (lo' := [some (.ref 8), some (.int x1), some (.int x2), some (.int p1)]) (st' := [.int (0 : Int32)]) (h' := cs_H c rest) ckS_object rfl ?_
      have e : fS_object c x1 x2 = some ((0 : Int32), c) := by simp only [fS_object, e1, ab_bd_s, if_neg h1, e2, ab_bd_s, if_pos h2]
      obtain rfl := Option.some.inj (e.symm.trans hv)
      exact ab_iret ckS_object rfl rfl ⟨rfl, rfl⟩
def fS_network (c : cs_S)  : Int32 := (c.1 0 1)
theorem tS_network : ab_M X mS_network (d) 0 0 [.ref 8] (cs_H c rest) (fun r9 h9 => r9 = some (Value.int (fS_network c)) ∧ h9 = cs_H c rest) := by
  refine ab_entry (by decide) (Nat.le_of_ble_eq_true rfl) ?_
  refine ab_go 2 [] (pc' := 4) (lo' := [some (.ref 8)]) (st' := [.int (c.1 0 1)]) (h' := cs_H c rest) ckS_network rfl ?_
  have e : fS_network c = (c.1 0 1) := by simp only [fS_network]
  exact ab_iret ckS_network rfl rfl ⟨(congrArg (fun q : Int32 => some (Value.int q)) e).symm, rfl⟩
def fS_power (c : cs_S)  : Int32 := (fP_current c)
theorem tS_power : ab_M X mS_power (d + 1) 0 0 [.ref 8] (cs_H c rest) (fun r9 h9 => r9 = some (Value.int (fS_power c)) ∧ h9 = cs_H c rest) := by
  refine ab_entry (by decide) (Nat.le_of_ble_eq_true rfl) ?_
  refine ab_go 2 [] (pc' := 4) (lo' := [some (.ref 8)]) (st' := [.ref 19]) (h' := cs_H c rest) ckS_power rfl ?_
  refine ab_callV (bc2 := 0) (bs2 := 0) (as := []) (rest := []) ckS_power rfl (by decide +kernel) wP_current (tP_current (d := d) (c := c)) rfl rfl (by omega) ⟨Nat.le_refl _, Nat.le_refl _⟩ (Nat.le_of_ble_eq_true rfl) ?_
  rintro _ _ ⟨rfl, rfl⟩
  have e : fS_power c = (fP_current c) := by simp only [fS_power]
  exact ab_iret ckS_power rfl rfl ⟨(congrArg (fun q : Int32 => some (Value.int q)) e).symm, rfl⟩
def fS_speed (c : cs_S)  : Int32 := (c.1 1 21)
theorem tS_speed : ab_M X mS_speed (d) 0 0 [.ref 8] (cs_H c rest) (fun r9 h9 => r9 = some (Value.int (fS_speed c)) ∧ h9 = cs_H c rest) := by
  refine ab_entry (by decide) (Nat.le_of_ble_eq_true rfl) ?_
  refine ab_go 4 [] (pc' := 7) (lo' := [some (.ref 8)]) (st' := [.int (c.1 1 21)]) (h' := cs_H c rest) ckS_speed rfl ?_
  have e : fS_speed c = (c.1 1 21) := by simp only [fS_speed]
  exact ab_iret ckS_speed rfl rfl ⟨(congrArg (fun q : Int32 => some (Value.int q)) e).symm, rfl⟩
def fS_position (c : cs_S)  : Int32 := (fV_demanded c)
theorem tS_position : ab_M X mS_position (d + 1) 0 0 [.ref 8] (cs_H c rest) (fun r9 h9 => r9 = some (Value.int (fS_position c)) ∧ h9 = cs_H c rest) := by
  refine ab_entry (by decide) (Nat.le_of_ble_eq_true rfl) ?_
  refine ab_go 2 [] (pc' := 4) (lo' := [some (.ref 8)]) (st' := [.ref 20]) (h' := cs_H c rest) ckS_position rfl ?_
  refine ab_callV (bc2 := 0) (bs2 := 0) (as := []) (rest := []) ckS_position rfl (by decide +kernel) wV_demanded (tV_demanded (d := d) (c := c)) rfl rfl (by omega) ⟨Nat.le_refl _, Nat.le_refl _⟩ (Nat.le_of_ble_eq_true rfl) ?_
  rintro _ _ ⟨rfl, rfl⟩
  have e : fS_position c = (fV_demanded c) := by simp only [fS_position]
  exact ab_iret ckS_position rfl rfl ⟨(congrArg (fun q : Int32 => some (Value.int q)) e).symm, rfl⟩
def fS_word (c : cs_S) (x1 : Int32) (x2 : Int32) : Option (Int32) := (ab_bd (fT_wordAt c x1 x2) (fun p1 => (some p1)))
theorem tS_word {x1 : Int32} {x2 : Int32} {v : Int32} (hv : fS_word c x1 x2 = some v) : ab_M X mS_word (d + 1) 0 0 [.ref 8, .int x1, .int x2] (cs_H c rest) (fun r9 h9 => r9 = some (Value.int v) ∧ h9 = cs_H c rest) := by
  refine ab_entry (by decide) (Nat.le_of_ble_eq_true rfl) ?_
  refine ab_go 4 [] (pc' := 6) (lo' := [some (.ref 8), some (.int x1), some (.int x2)]) (st' := [.int x2, .int x1, .ref 14]) (h' := cs_H c rest) ckS_word rfl ?_
  rcases e1 : fT_wordAt c x1 x2 with _ | p1
  · exact ab_no hv (by simp only [fS_word, e1, ab_bd_n])
  refine ab_callV (bc2 := 0) (bs2 := 0) (as := [_, _]) (rest := []) ckS_word rfl (by decide +kernel) wT_wordAt (tT_wordAt (d := d) (x1 := x1) (x2 := x2) (c := c) (v := p1) e1) rfl rfl (by omega) ⟨Nat.le_refl _, Nat.le_refl _⟩ (Nat.le_of_ble_eq_true rfl) ?_
  rintro _ _ ⟨rfl, rfl⟩
  have e : fS_word c x1 x2 = some p1 := by simp only [fS_word, e1, ab_bd_s]
  obtain rfl := Option.some.inj (e.symm.trans hv)
  exact ab_iret ckS_word rfl rfl ⟨rfl, rfl⟩
end LEAF
