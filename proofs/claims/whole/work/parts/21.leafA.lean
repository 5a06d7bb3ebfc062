/-! contracts, by program (wip/gen/walk.py, gen_cls.py) -/
section LEAF
variable {X : ab_C} {d : Nat} {c : cs_S} {rest hp : ab_H}
def fB_isBusOn (c : cs_S)  : Option (Int32) := (if ab_z01 (c.1 0 5) = true then (some (c.1 0 5)) else none)
theorem tB_isBusOn {v : Int32} (hv : fB_isBusOn c = some v) : ab_M X mB_isBusOn (d) 0 0 [.ref 10] (cs_H c rest) (fun r9 h9 => r9 = some (Value.int v) ∧ h9 = cs_H c rest) := by
  refine ab_entry (by decide) (Nat.le_of_ble_eq_true rfl) ?_
  refine ab_go 2 [] (pc' := 4) (lo' := [some (.ref 10)]) (st' := [.int (c.1 0 5)]) (h' := cs_H c rest) ckB_isBusOn rfl ?_
  by_cases h1 : ab_z01 (c.1 0 5) = true
  case neg => exact ab_no hv (by simp only [fB_isBusOn, if_neg h1])
  have e : fB_isBusOn c = some (c.1 0 5) := by simp only [fB_isBusOn, if_pos h1]
  obtain rfl := Option.some.inj (e.symm.trans hv)
  exact ab_zret ckB_isBusOn rfl rfl (ab_z01_ok h1) ⟨rfl, rfl⟩
def fB_setBus (c : cs_S) (x1 : Int32) : Option (cs_S) := (if ab_z01 x1 = true then (some (cs_u c 0 5 x1)) else none)
theorem tB_setBus {x1 : Int32} {v : cs_S} (hv : fB_setBus c x1 = some v) : ab_M X mB_setBus (d) 0 0 [.ref 10, .int x1] (cs_H c rest) (fun r9 h9 => r9 = none ∧ h9 = cs_H v rest) := by
  refine ab_entry (by decide) (Nat.le_of_ble_eq_true rfl) ?_
  refine ab_go 2 [] (pc' := 2) (lo' := [some (.ref 10), some (.int x1)]) (st' := [.int x1, .ref 10]) (h' := cs_H c rest) ckB_setBus rfl ?_
  by_cases h1 : ab_z01 x1 = true
  case neg => exact ab_no hv (by simp only [fB_setBus, if_neg h1])
  refine ab_putfR ckB_setBus rfl rfl (Nat.le_of_ble_eq_true rfl) (ab_fitB (ab_z01_ok h1)) (fun q z => by cases z) ?_
  have e : fB_setBus c x1 = some (cs_u c 0 5 x1) := by simp only [fB_setBus, if_pos h1]
  obtain rfl := Option.some.inj (e.symm.trans hv)
  exact ab_vret ckB_setBus rfl rfl ⟨rfl, rfl⟩
def fB_clear (c : cs_S)  : cs_S := (cs_u c 0 3 (0 : Int32))
theorem tB_clear : ab_M X mB_clear (d) 0 0 [.ref 10] (cs_H c rest) (fun r9 h9 => r9 = none ∧ h9 = cs_H (fB_clear c) rest) := by
  refine ab_entry (by decide) (Nat.le_of_ble_eq_true rfl) ?_
  refine ab_go 3 [] (pc' := 5) (lo' := [some (.ref 10)]) (st' := []) (h' := cs_H (cs_u c 0 3 (0 : Int32)) rest) ckB_clear rfl ?_
  have e : fB_clear c = (cs_u c 0 3 (0 : Int32)) := by simp only [fB_clear]
  exact ab_vret ckB_clear rfl rfl ⟨rfl, (congrArg (fun q : cs_S => cs_H q rest) e).symm⟩
def fB_size (c : cs_S)  : Int32 := (c.1 0 3)
theorem tB_size : ab_M X mB_size (d) 0 0 [.ref 10] (cs_H c rest) (fun r9 h9 => r9 = some (Value.int (fB_size c)) ∧ h9 = cs_H c rest) := by
  refine ab_entry (by decide) (Nat.le_of_ble_eq_true rfl) ?_
  refine ab_go 2 [] (pc' := 4) (lo' := [some (.ref 10)]) (st' := [.int (c.1 0 3)]) (h' := cs_H c rest) ckB_size rfl ?_
  have e : fB_size c = (c.1 0 3) := by simp only [fB_size]
  exact ab_iret ckB_size rfl rfl ⟨(congrArg (fun q : Int32 => some (Value.int q)) e).symm, rfl⟩
def fB_lostFrames (c : cs_S)  : Int32 := (c.1 0 4)
theorem tB_lostFrames : ab_M X mB_lostFrames (d) 0 0 [.ref 10] (cs_H c rest) (fun r9 h9 => r9 = some (Value.int (fB_lostFrames c)) ∧ h9 = cs_H c rest) := by
  refine ab_entry (by decide) (Nat.le_of_ble_eq_true rfl) ?_
  refine ab_go 2 [] (pc' := 4) (lo' := [some (.ref 10)]) (st' := [.int (c.1 0 4)]) (h' := cs_H c rest) ckB_lostFrames rfl ?_
  have e : fB_lostFrames c = (c.1 0 4) := by simp only [fB_lostFrames]
  exact ab_iret ckB_lostFrames rfl rfl ⟨(congrArg (fun q : Int32 => some (Value.int q)) e).symm, rfl⟩
def fB_firstIdentifier (c : cs_S)  : Int32 := (if (c.1 0 3) = 0 then (-1 : Int32) else (c.1 2 0))
theorem tB_firstIdentifier : ab_M X mB_firstIdentifier (d) 0 0 [.ref 10] (cs_H c rest) (fun r9 h9 => r9 = some (Value.int (fB_firstIdentifier c)) ∧ h9 = cs_H c rest) := by
  refine ab_entry (by decide) (Nat.le_of_ble_eq_true rfl) ?_
  refine ab_go 2 [] (pc' := 4) (lo' := [some (.ref 10)]) (st' := [.int (c.1 0 3)]) (h' := cs_H c rest) ckB_firstIdentifier rfl ?_
  refine ab_if_ne ckB_firstIdentifier rfl (fun (h1 : ¬ ((c.1 0 3) = 0)) => ?_) (fun (h1 : (c.1 0 3) = 0) => ?_)
  · refine ab_go 4 [] (pc' := 17) (lo' := [some (.ref 10)]) (st' := [.int (c.1 2 0)]) (h' := cs_H c rest) ckB_firstIdentifier rfl ?_
    have e : fB_firstIdentifier c = (c.1 2 0) := by simp only [fB_firstIdentifier, if_neg h1]
    exact ab_iret ckB_firstIdentifier rfl rfl ⟨(congrArg (fun q : Int32 => some (Value.int q)) e).symm, rfl⟩
  · refine ab_go 2 [] (pc' := 17) (lo' := [some (.ref 10)]) (st' := [.int (-1 : Int32)]) (h' := cs_H c rest) ckB_firstIdentifier rfl ?_
    have e : fB_firstIdentifier c = (-1 : Int32) := by simp only [fB_firstIdentifier, if_pos h1]
    exact ab_iret ckB_firstIdentifier rfl rfl ⟨(congrArg (fun q : Int32 => some (Value.int q)) e).symm, rfl⟩
def fB_firstLength (c : cs_S)  : Int32 := (if (c.1 0 3) = 0 then (-1 : Int32) else (c.1 3 0))
theorem tB_firstLength : ab_M X mB_firstLength (d) 0 0 [.ref 10] (cs_H c rest) (fun r9 h9 => r9 = some (Value.int (fB_firstLength c)) ∧ h9 = cs_H c rest) := by
  refine ab_entry (by decide) (Nat.le_of_ble_eq_true rfl) ?_
  refine ab_go 2 [] (pc' := 4) (lo' := [some (.ref 10)]) (st' := [.int (c.1 0 3)]) (h' := cs_H c rest) ckB_firstLength rfl ?_
  refine ab_if_ne ckB_firstLength rfl (fun (h1 : ¬ ((c.1 0 3) = 0)) => ?_) (fun (h1 : (c.1 0 3) = 0) => ?_)
  · refine ab_go 4 [] (pc' := 17) (lo' := [some (.ref 10)]) (st' := [.int (c.1 3 0)]) (h' := cs_H c rest) ckB_firstLength rfl ?_
    have e : fB_firstLength c = (c.1 3 0) := by simp only [fB_firstLength, if_neg h1]
    exact ab_iret ckB_firstLength rfl rfl ⟨(congrArg (fun q : Int32 => some (Value.int q)) e).symm, rfl⟩
  · refine ab_go 2 [] (pc' := 17) (lo' := [some (.ref 10)]) (st' := [.int (-1 : Int32)]) (h' := cs_H c rest) ckB_firstLength rfl ?_
    have e : fB_firstLength c = (-1 : Int32) := by simp only [fB_firstLength, if_pos h1]
    exact ab_iret ckB_firstLength rfl rfl ⟨(congrArg (fun q : Int32 => some (Value.int q)) e).symm, rfl⟩
def fB_firstData (c : cs_S)  : Option (Int64) := (if (c.1 0 3) = 0 then (some (0 : Int64)) else (some (c.2.1 0)))
theorem tB_firstData {v : Int64} (hv : fB_firstData c = some v) : ab_M X mB_firstData (d) 0 0 [.ref 10] (cs_H c rest) (fun r9 h9 => r9 = some (Value.long v) ∧ h9 = cs_H c rest) := by
  refine ab_entry (by decide) (Nat.le_of_ble_eq_true rfl) ?_
  refine ab_go 2 [] (pc' := 4) (lo' := [some (.ref 10)]) (st' := [.int (c.1 0 3)]) (h' := cs_H c rest) ckB_firstData rfl ?_
  refine ab_if_ne ckB_firstData rfl (fun (h1 : ¬ ((c.1 0 3) = 0)) => ?_) (fun (h1 : (c.1 0 3) = 0) => ?_)
  · refine ab_go 3 [] (pc' := 16) (lo' := [some (.ref 10)]) (st' := [.int (0 : Int32), .ref 13]) (h' := cs_H c rest) ckB_firstData rfl ?_
    refine ab_lald ckB_firstData rfl rfl (ab_inb_ok (by decide)) ?_
    have e : fB_firstData c = some (c.2.1 0) := by simp only [fB_firstData, if_neg h1]
    obtain rfl := Option.some.inj (e.symm.trans hv)
    exact ab_lret ckB_firstData rfl rfl ⟨rfl, rfl⟩
  · refine ab_go 2 [] (pc' := 17) (lo' := [some (.ref 10)]) (st' := [.long (0 : Int64)]) (h' := cs_H c rest) ckB_firstData rfl ?_
    have e : fB_firstData c = some (0 : Int64) := by simp only [fB_firstData, if_pos h1]
    obtain rfl := Option.some.inj (e.symm.trans hv)
    exact ab_lret ckB_firstData rfl rfl ⟨rfl, rfl⟩
def fB_send_33 : Nat → cs_S → Int32 → Int32 → Int64 → Int32 → Option (cs_S)
  | 0, _, _, _, _, _ => none
  | n + 1, c, y1, y2, y3, y5 => (if y5 ≤ 0 then (if ab_inb y5 12 = true then (some (cs_u (cs_l (cs_u (cs_u c 2 (y5).toNatClampNeg y1) 3 (y5).toNatClampNeg y2) (y5).toNatClampNeg y3) 0 3 ((c.1 0 3) + (1 : Int32)))) else none) else (if ab_inb (y5 - (1 : Int32)) 12 = true then (if (c.1 2 ((y5 - (1 : Int32))).toNatClampNeg) ≤ y1 then (if ab_inb y5 12 = true then (some (cs_u (cs_l (cs_u (cs_u c 2 (y5).toNatClampNeg y1) 3 (y5).toNatClampNeg y2) (y5).toNatClampNeg y3) 0 3 ((c.1 0 3) + (1 : Int32)))) else none) else (if ab_inb y5 12 = true then fB_send_33 n (cs_l (cs_u (cs_u c 2 (y5).toNatClampNeg (c.1 2 ((y5 - (1 : Int32))).toNatClampNeg)) 3 (y5).toNatClampNeg (c.1 3 ((y5 - (1 : Int32))).toNatClampNeg)) (y5).toNatClampNeg (c.2.1 ((y5 - (1 : Int32))).toNatClampNeg)) y1 y2 y3 (y5 + (-1 : Int32)) else none)) else none))
def fB_send (c : cs_S) (x1 : Int32) (x2 : Int32) (x3 : Int64) : Option (cs_S) := (if (c.1 0 5) = 0 then (some (cs_u c 0 4 ((c.1 0 4) + (1 : Int32)))) else (if (c.1 0 3) < (12 : Int32) then fB_send_33 40 c x1 x2 x3 (c.1 0 3) else (some (cs_u c 0 4 ((c.1 0 4) + (1 : Int32))))))
set_option maxRecDepth 20000 in
set_option maxHeartbeats 4000000 in
theorem tB_send_33 (n : Nat)   : ∀ (c : cs_S) (y1 : Int32) (y2 : Int32) (y3 : Int64) (y5 : Int32)  (v : cs_S) (hv : fB_send_33 n c y1 y2 y3 y5 = some v), ab_W X mB_send (d) 0 0 33 [some (.ref 10), some (.int y1), some (.int y2), some (.long y3), none, some (.int y5)] [] (cs_H c rest) (fun r9 h9 => r9 = none ∧ h9 = cs_H v rest) := by
  induction n with
  | zero =>
    intro c y1 y2 y3 y5 v hv
    cases hv
  | succ n ih =>
    intro c y1 y2 y3 y5 v hv
    refine ab_go 1 [33] (pc' := 35) (lo' := [some (.ref 10), some (.int y1), some (.int y2), some (.long y3), none, some (.int y5)]) (st' := [.int y5]) (h' := cs_H c rest) ckB_send rfl ?_
    refine ab_if_le ckB_send rfl (fun (h1 : y5 ≤ 0) => ?_) (fun (h1 : ¬ (y5 ≤ 0)) => ?_)
    · refine ab_go 4 [33] (pc' := 112) (lo' := [some (.ref 10), some (.int y1), some (.int y2), some (.long y3), none, some (.int y5)]) (st' := [.int y1, .int y5, .ref 11]) (h' := cs_H c rest) ckB_send rfl ?_
      by_cases h2 : ab_inb y5 12 = true
      case neg => exact ab_no hv (by simp only [fB_send_33, if_pos h1, if_neg h2])
      refine ab_iast ckB_send rfl rfl (ab_inb_ok h2) ?_
      refine ab_go 4 [33] (pc' := 120) (lo' := [some (.ref 10), some (.int y1), some (.int y2), some (.long y3), none, some (.int y5)]) (st' := [.int y2, .int y5, .ref 12]) (h' := cs_H (cs_u c 2 (y5).toNatClampNeg y1) rest) ckB_send rfl ?_
      refine ab_iast ckB_send rfl rfl (ab_inb_ok h2) ?_
      refine ab_go 4 [33] (pc' := 128) (lo' := [some (.ref 10), some (.int y1), some (.int y2), some (.long y3), none, some (.int y5)]) (st' := [.long y3, .int y5, .ref 13]) (h' := cs_H (cs_u (cs_u c 2 (y5).toNatClampNeg y1) 3 (y5).toNatClampNeg y2) rest) ckB_send rfl ?_
      refine ab_last ckB_send rfl rfl (ab_inb_ok h2) ?_
      refine ab_go 6 [33] (pc' := 139) (lo' := [some (.ref 10), some (.int y1), some (.int y2), some (.long y3), none, some (.int y5)]) (st' := []) (h' := cs_H (cs_u (cs_l (cs_u (cs_u c 2 (y5).toNatClampNeg y1) 3 (y5).toNatClampNeg y2) (y5).toNatClampNeg y3) 0 3 ((c.1 0 3) + (1 : Int32))) rest) ckB_send rfl ?_
      have e : fB_send_33 (n + 1) c y1 y2 y3 y5 = some (cs_u (cs_l (cs_u (cs_u c 2 (y5).toNatClampNeg y1) 3 (y5).toNatClampNeg y2) (y5).toNatClampNeg y3) 0 3 ((c.1 0 3) + (1 : Int32))) := by simp only [fB_send_33, if_pos h1, if_pos h2]
      obtain rfl := Option.some.inj (e.symm.trans hv)
      exact ab_vret ckB_send rfl rfl ⟨rfl, rfl⟩
    · refine ab_go 5 [33] (pc' := 46) (lo' := [some (.ref 10), some (.int y1), some (.int y2), some (.long y3), none, some (.int y5)]) (st' := [.int (y5 - (1 : Int32)), .ref 11]) (h' := cs_H c rest) ckB_send rfl ?_
      by_cases h3 : ab_inb (y5 - (1 : Int32)) 12 = true
      case neg => exact ab_no hv (by simp only [fB_send_33, if_neg h1, if_neg h3])
      refine ab_iald ckB_send rfl rfl (ab_inb_ok h3) ?_
      refine ab_go 1 [33] (pc' := 48) (lo' := [some (.ref 10), some (.int y1), some (.int y2), some (.long y3), none, some (.int y5)]) (st' := [.int y1, .int (c.1 2 ((y5 - (1 : Int32))).toNatClampNeg)]) (h' := cs_H c rest) ckB_send rfl ?_
      refine ab_icmp_le ckB_send rfl (fun (h4 : (c.1 2 ((y5 - (1 : Int32))).toNatClampNeg) ≤ y1) => ?_) (fun (h4 : ¬ ((c.1 2 ((y5 - (1 : Int32))).toNatClampNeg) ≤ y1)) => ?_)
      · refine ab_go 4 [33] (pc' := 112) (lo' := [some (.ref 10), some (.int y1), some (.int y2), some (.long y3), none, some (.int y5)]) (st' := [.int y1, .int y5, .ref 11]) (h' := cs_H c rest) ckB_send rfl ?_
        by_cases h5 : ab_inb y5 12 = true
        case neg => exact ab_no hv (by simp only [fB_send_33, if_neg h1, if_pos h3, if_pos h4, if_neg h5])
        refine ab_iast ckB_send rfl rfl (ab_inb_ok h5) ?_
        refine ab_go 4 [33] (pc' := 120) (lo' := [some (.ref 10), some (.int y1), some (.int y2), some (.long y3), none, some (.int y5)]) (st' := [.int y2, .int y5, .ref 12]) (h' := cs_H (cs_u c 2 (y5).toNatClampNeg y1) rest) ckB_send rfl ?_
        refine ab_iast ckB_send rfl rfl (ab_inb_ok h5) ?_
        refine ab_go 4 [33] (pc' := 128) (lo' := [some (.ref 10), some (.int y1), some (.int y2), some (.long y3), none, some (.int y5)]) (st' := [.long y3, .int y5, .ref 13]) (h' := cs_H (cs_u (cs_u c 2 (y5).toNatClampNeg y1) 3 (y5).toNatClampNeg y2) rest) ckB_send rfl ?_
        refine ab_last ckB_send rfl rfl (ab_inb_ok h5) ?_
        refine ab_go 6 [33] (pc' := 139) (lo' := [some (.ref 10), some (.int y1), some (.int y2), some (.long y3), none, some (.int y5)]) (st' := []) (h' := cs_H (cs_u (cs_l (cs_u (cs_u c 2 (y5).toNatClampNeg y1) 3 (y5).toNatClampNeg y2) (y5).toNatClampNeg y3) 0 3 ((c.1 0 3) + (1 : Int32))) rest) ckB_send rfl ?_
        have e : fB_send_33 (n + 1) c y1 y2 y3 y5 = some (cs_u (cs_l (cs_u (cs_u c 2 (y5).toNatClampNeg y1) 3 (y5).toNatClampNeg y2) (y5).toNatClampNeg y3) 0 3 ((c.1 0 3) + (1 : Int32))) := by simp only [fB_send_33, if_neg h1, if_pos h3, if_pos h4, if_pos h5]
        obtain rfl := Option.some.inj (e.symm.trans hv)
        exact ab_vret ckB_send rfl rfl ⟨rfl, rfl⟩
      · refine ab_go 8 [33] (pc' := 65) (lo' := [some (.ref 10), some (.int y1), some (.int y2), some (.long y3), none, some (.int y5)]) (st' := [.int (y5 - (1 : Int32)), .ref 11, .int y5, .ref 11]) (h' := cs_H c rest) ckB_send rfl ?_
        refine ab_iald ckB_send rfl rfl (ab_inb_ok h3) ?_
        by_cases h6 : ab_inb y5 12 = true
        case neg => exact ab_no hv (by simp only [fB_send_33, if_neg h1, if_pos h3, if_neg h4, if_neg h6])
        refine ab_iast ckB_send rfl rfl (ab_inb_ok h6) ?_
        refine ab_go 8 [33] (pc' := 81) (lo' := [some (.ref 10), some (.int y1), some (.int y2), some (.long y3), none, some (.int y5)]) (st' := [.int (y5 - (1 : Int32)), .ref 12, .int y5, .ref 12]) (h' := cs_H (cs_u c 2 (y5).toNatClampNeg (c.1 2 ((y5 - (1 : Int32))).toNatClampNeg)) rest) ckB_send rfl ?_
        refine ab_iald ckB_send rfl rfl (ab_inb_ok h3) ?_
        refine ab_iast ckB_send rfl rfl (ab_inb_ok h6) ?_
        refine ab_go 8 [33] (pc' := 97) (lo' := [some (.ref 10), some (.int y1), some (.int y2), some (.long y3), none, some (.int y5)]) (st' := [.int (y5 - (1 : Int32)), .ref 13, .int y5, .ref 13]) (h' := cs_H (cs_u (cs_u c 2 (y5).toNatClampNeg (c.1 2 ((y5 - (1 : Int32))).toNatClampNeg)) 3 (y5).toNatClampNeg (c.1 3 ((y5 - (1 : Int32))).toNatClampNeg)) rest) ckB_send rfl ?_
        refine ab_lald ckB_send rfl rfl (ab_inb_ok h3) ?_
        refine ab_last ckB_send rfl rfl (ab_inb_ok h6) ?_
        refine ab_go 2 [33] (pc' := 33) (lo' := [some (.ref 10), some (.int y1), some (.int y2), some (.long y3), none, some (.int (y5 + (-1 : Int32)))]) (st' := []) (h' := cs_H (cs_l (cs_u (cs_u c 2 (y5).toNatClampNeg (c.1 2 ((y5 - (1 : Int32))).toNatClampNeg)) 3 (y5).toNatClampNeg (c.1 3 ((y5 - (1 : Int32))).toNatClampNeg)) (y5).toNatClampNeg (c.2.1 ((y5 - (1 : Int32))).toNatClampNeg)) rest) ckB_send rfl ?_
        have e : fB_send_33 (n + 1) c y1 y2 y3 y5 = fB_send_33 n (cs_l (cs_u (cs_u c 2 (y5).toNatClampNeg (c.1 2 ((y5 - (1 : Int32))).toNatClampNeg)) 3 (y5).toNatClampNeg (c.1 3 ((y5 - (1 : Int32))).toNatClampNeg)) (y5).toNatClampNeg (c.2.1 ((y5 - (1 : Int32))).toNatClampNeg)) y1 y2 y3 (y5 + (-1 : Int32)) := by simp only [fB_send_33, if_neg h1, if_pos h3, if_neg h4, if_pos h6]
        exact ab_W.weak (ih (cs_l (cs_u (cs_u c 2 (y5).toNatClampNeg (c.1 2 ((y5 - (1 : Int32))).toNatClampNeg)) 3 (y5).toNatClampNeg (c.1 3 ((y5 - (1 : Int32))).toNatClampNeg)) (y5).toNatClampNeg (c.2.1 ((y5 - (1 : Int32))).toNatClampNeg)) y1 y2 y3 (y5 + (-1 : Int32)) v (e.symm.trans hv)) ⟨rfl, rfl, rfl, rfl, rfl, trivial⟩
set_option maxRecDepth 20000 in
set_option maxHeartbeats 4000000 in
theorem tB_send {x1 : Int32} {x2 : Int32} {x3 : Int64} {v : cs_S} (hv : fB_send c x1 x2 x3 = some v) : ab_M X mB_send (d) 0 0 [.ref 10, .int x1, .int x2, .long x3] (cs_H c rest) (fun r9 h9 => r9 = none ∧ h9 = cs_H v rest) := by
  refine ab_entry (by decide) (Nat.le_of_ble_eq_true rfl) ?_
  refine ab_go 2 [33] (pc' := 4) (lo' := [some (.ref 10), some (.int x1), some (.int x2), some (.long x3), none, none]) (st' := [.int (c.1 0 5)]) (h' := cs_H c rest) ckB_send rfl ?_
  refine ab_if_eq ckB_send rfl (fun (h1 : (c.1 0 5) = 0) => ?_) (fun (h1 : ¬ ((c.1 0 5) = 0)) => ?_)
  · refine ab_go 6 [33] (pc' := 26) (lo' := [some (.ref 10), some (.int x1), some (.int x2), some (.long x3), none, none]) (st' := []) (h' := cs_H (cs_u c 0 4 ((c.1 0 4) + (1 : Int32))) rest) ckB_send rfl ?_
    have e : fB_send c x1 x2 x3 = some (cs_u c 0 4 ((c.1 0 4) + (1 : Int32))) := by simp only [fB_send, if_pos h1]
    obtain rfl := Option.some.inj (e.symm.trans hv)
    exact ab_vret ckB_send rfl rfl ⟨rfl, rfl⟩
  · refine ab_go 3 [33] (pc' := 13) (lo' := [some (.ref 10), some (.int x1), some (.int x2), some (.long x3), none, none]) (st' := [.int (12 : Int32), .int (c.1 0 3)]) (h' := cs_H c rest) ckB_send rfl ?_
    refine ab_icmp_lt ckB_send rfl (fun (h2 : (c.1 0 3) < (12 : Int32)) => ?_) (fun (h2 : ¬ ((c.1 0 3) < (12 : Int32))) => ?_)
    · refine ab_go 3 [33] (pc' := 33) (lo' := [some (.ref 10), some (.int x1), some (.int x2), some (.long x3), none, some (.int (c.1 0 3))]) (st' := []) (h' := cs_H c rest) ckB_send rfl ?_
      have e : fB_send c x1 x2 x3 = fB_send_33 40 c x1 x2 x3 (c.1 0 3) := by simp only [fB_send, if_neg h1, if_pos h2]
      exact ab_W.weak (tB_send_33 40 c x1 x2 x3 (c.1 0 3) v (e.symm.trans hv)) ⟨rfl, rfl, rfl, rfl, rfl, trivial⟩
    · refine ab_go 6 [33] (pc' := 26) (lo' := [some (.ref 10), some (.int x1), some (.int x2), some (.long x3), none, none]) (st' := []) (h' := cs_H (cs_u c 0 4 ((c.1 0 4) + (1 : Int32))) rest) ckB_send rfl ?_
      have e : fB_send c x1 x2 x3 = some (cs_u c 0 4 ((c.1 0 4) + (1 : Int32))) := by simp only [fB_send, if_neg h1, if_neg h2]
      obtain rfl := Option.some.inj (e.symm.trans hv)
      exact ab_vret ckB_send rfl rfl ⟨rfl, rfl⟩
def fB_dropFirst_21 : Nat → cs_S → Int32 → Option (Int32 × cs_S)
  | 0, _, _ => none
  | n + 1, c, y1 => (if (c.1 0 3) ≤ y1 then (some ((1 : Int32), c)) else (if ab_inb (y1 + (1 : Int32)) 12 = true then (if ab_inb y1 12 = true then fB_dropFirst_21 n (cs_l (cs_u (cs_u c 2 (y1).toNatClampNeg (c.1 2 ((y1 + (1 : Int32))).toNatClampNeg)) 3 (y1).toNatClampNeg (c.1 3 ((y1 + (1 : Int32))).toNatClampNeg)) (y1).toNatClampNeg (c.2.1 ((y1 + (1 : Int32))).toNatClampNeg)) (y1 + (1 : Int32)) else none) else none))
def fB_dropFirst (c : cs_S)  : Option (Int32 × cs_S) := (if (c.1 0 3) = 0 then (some ((0 : Int32), c)) else fB_dropFirst_21 40 (cs_u c 0 3 ((c.1 0 3) - (1 : Int32))) (0 : Int32))
theorem tB_dropFirst_21 (n : Nat)   : ∀ (c : cs_S) (y1 : Int32)  (v : Int32 × cs_S) (hv : fB_dropFirst_21 n c y1 = some v), ab_W X mB_dropFirst (d) 0 0 21 [some (.ref 10), some (.int y1)] [] (cs_H c rest) (fun r9 h9 => r9 = some (Value.int v.1) ∧ h9 = cs_H v.2 rest) := by
  induction n with
  | zero =>
    intro c y1 v hv
    cases hv
  | succ n ih =>
    intro c y1 v hv
    refine ab_go 3 [21] (pc' := 26) (lo' := [some (.ref 10), some (.int y1)]) (st' := [.int (c.1 0 3), .int y1]) (h' := cs_H c rest) ckB_dropFirst rfl ?_
    refine ab_icmp_ge ckB_dropFirst rfl (fun (h1 : (c.1 0 3) ≤ y1) => ?_) (fun (h1 : ¬ ((c.1 0 3) ≤ y1)) => ?_)
    · refine ab_go 1 [21] (pc' := 78) (lo' := [some (.ref 10), some (.int y1)]) (st' := [.int (1 : Int32)]) (h' := cs_H c rest) ckB_dropFirst rfl ?_
      have e : fB_dropFirst_21 (n + 1) c y1 = some ((1 : Int32), c) := by simp only [fB_dropFirst_21, if_pos h1]
      obtain rfl := Option.some.inj (e.symm.trans hv)
      exact ab_zret ckB_dropFirst rfl rfl (Or.inr rfl) ⟨rfl, rfl⟩
    · refine ab_go 8 [21] (pc' := 41) (lo' := [some (.ref 10), some (.int y1)]) (st' := [.int (y1 + (1 : Int32)), .ref 11, .int y1, .ref 11]) (h' := cs_H c rest) ckB_dropFirst rfl ?_
      by_cases h2 : ab_inb (y1 + (1 : Int32)) 12 = true
      case neg => exact ab_no hv (by simp only [fB_dropFirst_21, if_neg h1, if_neg h2])
      refine ab_iald ckB_dropFirst rfl rfl (ab_inb_ok h2) ?_
      by_cases h3 : ab_inb y1 12 = true
      case neg => exact ab_no hv (by simp only [fB_dropFirst_21, if_neg h1, if_pos h2, if_neg h3])
      refine ab_iast ckB_dropFirst rfl rfl (ab_inb_ok h3) ?_
      refine ab_go 8 [21] (pc' := 55) (lo' := [some (.ref 10), some (.int y1)]) (st' := [.int (y1 + (1 : Int32)), .ref 12, .int y1, .ref 12]) (h' := cs_H (cs_u c 2 (y1).toNatClampNeg (c.1 2 ((y1 + (1 : Int32))).toNatClampNeg)) rest) ckB_dropFirst rfl ?_
      refine ab_iald ckB_dropFirst rfl rfl (ab_inb_ok h2) ?_
      refine ab_iast ckB_dropFirst rfl rfl (ab_inb_ok h3) ?_
      refine ab_go 8 [21] (pc' := 69) (lo' := [some (.ref 10), some (.int y1)]) (st' := [.int (y1 + (1 : Int32)), .ref 13, .int y1, .ref 13]) (h' := cs_H (cs_u (cs_u c 2 (y1).toNatClampNeg (c.1 2 ((y1 + (1 : Int32))).toNatClampNeg)) 3 (y1).toNatClampNeg (c.1 3 ((y1 + (1 : Int32))).toNatClampNeg)) rest) ckB_dropFirst rfl ?_
      refine ab_lald ckB_dropFirst rfl rfl (ab_inb_ok h2) ?_
      refine ab_last ckB_dropFirst rfl rfl (ab_inb_ok h3) ?_
      refine ab_go 2 [21] (pc' := 21) (lo' := [some (.ref 10), some (.int (y1 + (1 : Int32)))]) (st' := []) (h' := cs_H (cs_l (cs_u (cs_u c 2 (y1).toNatClampNeg (c.1 2 ((y1 + (1 : Int32))).toNatClampNeg)) 3 (y1).toNatClampNeg (c.1 3 ((y1 + (1 : Int32))).toNatClampNeg)) (y1).toNatClampNeg (c.2.1 ((y1 + (1 : Int32))).toNatClampNeg)) rest) ckB_dropFirst rfl ?_
      have e : fB_dropFirst_21 (n + 1) c y1 = fB_dropFirst_21 n (cs_l (cs_u (cs_u c 2 (y1).toNatClampNeg (c.1 2 ((y1 + (1 : Int32))).toNatClampNeg)) 3 (y1).toNatClampNeg (c.1 3 ((y1 + (1 : Int32))).toNatClampNeg)) (y1).toNatClampNeg (c.2.1 ((y1 + (1 : Int32))).toNatClampNeg)) (y1 + (1 : Int32)) := by simp only [fB_dropFirst_21, if_neg h1, if_pos h2, if_pos h3]
      exact ab_W.weak (ih (cs_l (cs_u (cs_u c 2 (y1).toNatClampNeg (c.1 2 ((y1 + (1 : Int32))).toNatClampNeg)) 3 (y1).toNatClampNeg (c.1 3 ((y1 + (1 : Int32))).toNatClampNeg)) (y1).toNatClampNeg (c.2.1 ((y1 + (1 : Int32))).toNatClampNeg)) (y1 + (1 : Int32)) v (e.symm.trans hv)) ⟨rfl, rfl, trivial⟩
theorem tB_dropFirst {v : Int32 × cs_S} (hv : fB_dropFirst c = some v) : ab_M X mB_dropFirst (d) 0 0 [.ref 10] (cs_H c rest) (fun r9 h9 => r9 = some (Value.int v.1) ∧ h9 = cs_H v.2 rest) := by
  refine ab_entry (by decide) (Nat.le_of_ble_eq_true rfl) ?_
  refine ab_go 2 [21] (pc' := 4) (lo' := [some (.ref 10), none]) (st' := [.int (c.1 0 3)]) (h' := cs_H c rest) ckB_dropFirst rfl ?_
  refine ab_if_ne ckB_dropFirst rfl (fun (h1 : ¬ ((c.1 0 3) = 0)) => ?_) (fun (h1 : (c.1 0 3) = 0) => ?_)
  · refine ab_go 8 [21] (pc' := 21) (lo' := [some (.ref 10), some (.int (0 : Int32))]) (st' := []) (h' := cs_H (cs_u c 0 3 ((c.1 0 3) - (1 : Int32))) rest) ckB_dropFirst rfl ?_
    have e : fB_dropFirst c = fB_dropFirst_21 40 (cs_u c 0 3 ((c.1 0 3) - (1 : Int32))) (0 : Int32) := by simp only [fB_dropFirst, if_neg h1]
    exact ab_W.weak (tB_dropFirst_21 40 (cs_u c 0 3 ((c.1 0 3) - (1 : Int32))) (0 : Int32) v (e.symm.trans hv)) ⟨rfl, rfl, trivial⟩
  · refine ab_go 1 [21] (pc' := 8) (lo' := [some (.ref 10), none]) (st' := [.int (0 : Int32)]) (h' := cs_H c rest) ckB_dropFirst rfl ?_
    have e : fB_dropFirst c = some ((0 : Int32), c) := by simp only [fB_dropFirst, if_pos h1]
    obtain rfl := Option.some.inj (e.symm.trans hv)
    exact ab_zret ckB_dropFirst rfl rfl (Or.inl rfl) ⟨rfl, rfl⟩
def fO_beginOperating (c : cs_S)  : cs_S := (cs_u c 0 13 (0 : Int32))
theorem tO_beginOperating : ab_M X mO_beginOperating (d) 0 0 [.ref 22] (cs_H c rest) (fun r9 h9 => r9 = none ∧ h9 = cs_H (fO_beginOperating c) rest) := by
  refine ab_entry (by decide) (Nat.le_of_ble_eq_true rfl) ?_
  refine ab_go 3 [] (pc' := 5) (lo' := [some (.ref 22)]) (st' := []) (h' := cs_H (cs_u c 0 13 (0 : Int32)) rest) ckO_beginOperating rfl ?_
  have e : fO_beginOperating c = (cs_u c 0 13 (0 : Int32)) := by simp only [fO_beginOperating]
  exact ab_vret ckO_beginOperating rfl rfl ⟨rfl, (congrArg (fun q : cs_S => cs_H q rest) e).symm⟩
def fO_forgetSyncs (c : cs_S)  : cs_S := (cs_u c 0 16 (0 : Int32))
theorem tO_forgetSyncs : ab_M X mO_forgetSyncs (d) 0 0 [.ref 22] (cs_H c rest) (fun r9 h9 => r9 = none ∧ h9 = cs_H (fO_forgetSyncs c) rest) := by
  refine ab_entry (by decide) (Nat.le_of_ble_eq_true rfl) ?_
  refine ab_go 3 [] (pc' := 5) (lo' := [some (.ref 22)]) (st' := []) (h' := cs_H (cs_u c 0 16 (0 : Int32)) rest) ckO_forgetSyncs rfl ?_
  have e : fO_forgetSyncs c = (cs_u c 0 16 (0 : Int32)) := by simp only [fO_forgetSyncs]
  exact ab_vret ckO_forgetSyncs rfl rfl ⟨rfl, (congrArg (fun q : cs_S => cs_H q rest) e).symm⟩
def fO_countSync (c : cs_S) (x1 : Int32) : Int32 × cs_S := (if x1 ≤ ((c.1 0 16) + (1 : Int32)) then ((1 : Int32), (cs_u (cs_u c 0 16 ((c.1 0 16) + (1 : Int32))) 0 16 (0 : Int32))) else ((0 : Int32), (cs_u c 0 16 ((c.1 0 16) + (1 : Int32)))))
theorem tO_countSync {x1 : Int32} : ab_M X mO_countSync (d) 0 0 [.ref 22, .int x1] (cs_H c rest) (fun r9 h9 => r9 = some (Value.int (fO_countSync c x1).1) ∧ h9 = cs_H (fO_countSync c x1).2 rest) := by
  refine ab_entry (by decide) (Nat.le_of_ble_eq_true rfl) ?_
  refine ab_go 9 [] (pc' := 15) (lo' := [some (.ref 22), some (.int x1)]) (st' := [.int x1, .int ((c.1 0 16) + (1 : Int32))]) (h' := cs_H (cs_u c 0 16 ((c.1 0 16) + (1 : Int32))) rest) ckO_countSync rfl ?_
  refine ab_icmp_ge ckO_countSync rfl (fun (h1 : x1 ≤ ((c.1 0 16) + (1 : Int32))) => ?_) (fun (h1 : ¬ (x1 ≤ ((c.1 0 16) + (1 : Int32)))) => ?_)
  · refine ab_go 4 [] (pc' := 26) (lo' := [some (.ref 22), some (.int x1)]) (st' := [.int (1 : Int32)]) (h' := cs_H (cs_u (cs_u c 0 16 ((c.1 0 16) + (1 : Int32))) 0 16 (0 : Int32)) rest) ckO_countSync rfl ?_
    have e : fO_countSync c x1 = ((1 : Int32), (cs_u (cs_u c 0 16 ((c.1 0 16) + (1 : Int32))) 0 16 (0 : Int32))) := by simp only [fO_countSync, if_pos h1]
    exact ab_zret ckO_countSync rfl rfl (Or.inr rfl) ⟨(congrArg (fun q : Int32 × cs_S => some (Value.int q.1)) e).symm, (congrArg (fun q : Int32 × cs_S => cs_H q.2 rest) e).symm⟩
  · refine ab_go 1 [] (pc' := 19) (lo' := [some (.ref 22), some (.int x1)]) (st' := [.int (0 : Int32)]) (h' := cs_H (cs_u c 0 16 ((c.1 0 16) + (1 : Int32))) rest) ckO_countSync rfl ?_
    have e : fO_countSync c x1 = ((0 : Int32), (cs_u c 0 16 ((c.1 0 16) + (1 : Int32)))) := by simp only [fO_countSync, if_neg h1]
    exact ab_zret ckO_countSync rfl rfl (Or.inl rfl) ⟨(congrArg (fun q : Int32 × cs_S => some (Value.int q.1)) e).symm, (congrArg (fun q : Int32 × cs_S => cs_H q.2 rest) e).symm⟩
def fO_countTick (c : cs_S)  : cs_S := (cs_u c 0 14 ((c.1 0 14) + (1 : Int32)))
theorem tO_countTick : ab_M X mO_countTick (d) 0 0 [.ref 22] (cs_H c rest) (fun r9 h9 => r9 = none ∧ h9 = cs_H (fO_countTick c) rest) := by
  refine ab_entry (by decide) (Nat.le_of_ble_eq_true rfl) ?_
  refine ab_go 6 [] (pc' := 10) (lo' := [some (.ref 22)]) (st' := []) (h' := cs_H (cs_u c 0 14 ((c.1 0 14) + (1 : Int32))) rest) ckO_countTick rfl ?_
  have e : fO_countTick c = (cs_u c 0 14 ((c.1 0 14) + (1 : Int32))) := by simp only [fO_countTick]
  exact ab_vret ckO_countTick rfl rfl ⟨rfl, (congrArg (fun q : cs_S => cs_H q rest) e).symm⟩
def fO_isHeld (c : cs_S) (x1 : Int32) : Int32 := (if (c.1 0 13) = 0 then (0 : Int32) else (if x1 ≤ (c.1 0 14) then (0 : Int32) else (1 : Int32)))
theorem tO_isHeld {x1 : Int32} : ab_M X mO_isHeld (d) 0 0 [.ref 22, .int x1] (cs_H c rest) (fun r9 h9 => r9 = some (Value.int (fO_isHeld c x1)) ∧ h9 = cs_H c rest) := by
  refine ab_entry (by decide) (Nat.le_of_ble_eq_true rfl) ?_
  refine ab_go 2 [] (pc' := 4) (lo' := [some (.ref 22), some (.int x1)]) (st' := [.int (c.1 0 13)]) (h' := cs_H c rest) ckO_isHeld rfl ?_
  refine ab_if_eq ckO_isHeld rfl (fun (h1 : (c.1 0 13) = 0) => ?_) (fun (h1 : ¬ ((c.1 0 13) = 0)) => ?_)
  · refine ab_go 1 [] (pc' := 20) (lo' := [some (.ref 22), some (.int x1)]) (st' := [.int (0 : Int32)]) (h' := cs_H c rest) ckO_isHeld rfl ?_
    have e : fO_isHeld c x1 = (0 : Int32) := by simp only [fO_isHeld, if_pos h1]
    exact ab_zret ckO_isHeld rfl rfl (Or.inl rfl) ⟨(congrArg (fun q : Int32 => some (Value.int q)) e).symm, rfl⟩
  · refine ab_go 3 [] (pc' := 12) (lo' := [some (.ref 22), some (.int x1)]) (st' := [.int x1, .int (c.1 0 14)]) (h' := cs_H c rest) ckO_isHeld rfl ?_
    refine ab_icmp_ge ckO_isHeld rfl (fun (h2 : x1 ≤ (c.1 0 14)) => ?_) (fun (h2 : ¬ (x1 ≤ (c.1 0 14))) => ?_)
    · refine ab_go 1 [] (pc' := 20) (lo' := [some (.ref 22), some (.int x1)]) (st' := [.int (0 : Int32)]) (h' := cs_H c rest) ckO_isHeld rfl ?_
      have e : fO_isHeld c x1 = (0 : Int32) := by simp only [fO_isHeld, if_neg h1, if_pos h2]
      exact ab_zret ckO_isHeld rfl rfl (Or.inl rfl) ⟨(congrArg (fun q : Int32 => some (Value.int q)) e).symm, rfl⟩
    · refine ab_go 2 [] (pc' := 20) (lo' := [some (.ref 22), some (.int x1)]) (st' := [.int (1 : Int32)]) (h' := cs_H c rest) ckO_isHeld rfl ?_
      have e : fO_isHeld c x1 = (1 : Int32) := by simp only [fO_isHeld, if_neg h1, if_neg h2]
      exact ab_zret ckO_isHeld rfl rfl (Or.inr rfl) ⟨(congrArg (fun q : Int32 => some (Value.int q)) e).symm, rfl⟩
def fO_isDue (c : cs_S) (x1 : Int64) (x2 : Int32) (x3 : Int32) : Int32 := (if (c.1 0 13) = 0 then (1 : Int32) else (if (lg_cmp x1 (c.2.2)) = 0 then (if x2 = (c.1 0 15) then (if x3 ≤ 0 then (0 : Int32) else (if (c.1 0 14) < x3 then (0 : Int32) else (1 : Int32))) else (1 : Int32)) else (1 : Int32)))
theorem tO_isDue {x1 : Int64} {x2 : Int32} {x3 : Int32} : ab_M X mO_isDue (d) 0 0 [.ref 22, .long x1, .int x2, .int x3] (cs_H c rest) (fun r9 h9 => r9 = some (Value.int (fO_isDue c x1 x2 x3)) ∧ h9 = cs_H c rest) := by
  refine ab_entry (by decide) (Nat.le_of_ble_eq_true rfl) ?_
  refine ab_go 2 [] (pc' := 4) (lo' := [some (.ref 22), some (.long x1), none, some (.int x2), some (.int x3)]) (st' := [.int (c.1 0 13)]) (h' := cs_H c rest) ckO_isDue rfl ?_
  refine ab_if_eq ckO_isDue rfl (fun (h1 : (c.1 0 13) = 0) => ?_) (fun (h1 : ¬ ((c.1 0 13) = 0)) => ?_)
  · refine ab_go 2 [] (pc' := 43) (lo' := [some (.ref 22), some (.long x1), none, some (.int x2), some (.int x3)]) (st' := [.int (1 : Int32)]) (h' := cs_H c rest) ckO_isDue rfl ?_
    have e : fO_isDue c x1 x2 x3 = (1 : Int32) := by simp only [fO_isDue, if_pos h1]
    exact ab_zret ckO_isDue rfl rfl (Or.inr rfl) ⟨(congrArg (fun q : Int32 => some (Value.int q)) e).symm, rfl⟩
  · refine ab_go 4 [] (pc' := 13) (lo' := [some (.ref 22), some (.long x1), none, some (.int x2), some (.int x3)]) (st' := [.int (lg_cmp x1 (c.2.2))]) (h' := cs_H c rest) ckO_isDue rfl ?_
    refine ab_if_ne ckO_isDue rfl (fun (h2 : ¬ ((lg_cmp x1 (c.2.2)) = 0)) => ?_) (fun (h2 : (lg_cmp x1 (c.2.2)) = 0) => ?_)
    · refine ab_go 2 [] (pc' := 43) (lo' := [some (.ref 22), some (.long x1), none, some (.int x2), some (.int x3)]) (st' := [.int (1 : Int32)]) (h' := cs_H c rest) ckO_isDue rfl ?_
      have e : fO_isDue c x1 x2 x3 = (1 : Int32) := by simp only [fO_isDue, if_neg h1, if_neg h2]
      exact ab_zret ckO_isDue rfl rfl (Or.inr rfl) ⟨(congrArg (fun q : Int32 => some (Value.int q)) e).symm, rfl⟩
    · refine ab_go 3 [] (pc' := 21) (lo' := [some (.ref 22), some (.long x1), none, some (.int x2), some (.int x3)]) (st' := [.int (c.1 0 15), .int x2]) (h' := cs_H c rest) ckO_isDue rfl ?_
      refine ab_icmp_ne ckO_isDue rfl (fun (h3 : ¬ (x2 = (c.1 0 15))) => ?_) (fun (h3 : x2 = (c.1 0 15)) => ?_)
      · refine ab_go 2 [] (pc' := 43) (lo' := [some (.ref 22), some (.long x1), none, some (.int x2), some (.int x3)]) (st' := [.int (1 : Int32)]) (h' := cs_H c rest) ckO_isDue rfl ?_
        have e : fO_isDue c x1 x2 x3 = (1 : Int32) := by simp only [fO_isDue, if_neg h1, if_pos h2, if_neg h3]
        exact ab_zret ckO_isDue rfl rfl (Or.inr rfl) ⟨(congrArg (fun q : Int32 => some (Value.int q)) e).symm, rfl⟩
      · refine ab_go 1 [] (pc' := 26) (lo' := [some (.ref 22), some (.long x1), none, some (.int x2), some (.int x3)]) (st' := [.int x3]) (h' := cs_H c rest) ckO_isDue rfl ?_
        refine ab_if_le ckO_isDue rfl (fun (h4 : x3 ≤ 0) => ?_) (fun (h4 : ¬ (x3 ≤ 0)) => ?_)
        · refine ab_go 1 [] (pc' := 43) (lo' := [some (.ref 22), some (.long x1), none, some (.int x2), some (.int x3)]) (st' := [.int (0 : Int32)]) (h' := cs_H c rest) ckO_isDue rfl ?_
          have e : fO_isDue c x1 x2 x3 = (0 : Int32) := by simp only [fO_isDue, if_neg h1, if_pos h2, if_pos h3, if_pos h4]
          exact ab_zret ckO_isDue rfl rfl (Or.inl rfl) ⟨(congrArg (fun q : Int32 => some (Value.int q)) e).symm, rfl⟩
        · refine ab_go 3 [] (pc' := 35) (lo' := [some (.ref 22), some (.long x1), none, some (.int x2), some (.int x3)]) (st' := [.int x3, .int (c.1 0 14)]) (h' := cs_H c rest) ckO_isDue rfl ?_
          refine ab_icmp_lt ckO_isDue rfl (fun (h5 : (c.1 0 14) < x3) => ?_) (fun (h5 : ¬ ((c.1 0 14) < x3)) => ?_)
          · refine ab_go 1 [] (pc' := 43) (lo' := [some (.ref 22), some (.long x1), none, some (.int x2), some (.int x3)]) (st' := [.int (0 : Int32)]) (h' := cs_H c rest) ckO_isDue rfl ?_
            have e : fO_isDue c x1 x2 x3 = (0 : Int32) := by simp only [fO_isDue, if_neg h1, if_pos h2, if_pos h3, if_neg h4, if_pos h5]
            exact ab_zret ckO_isDue rfl rfl (Or.inl rfl) ⟨(congrArg (fun q : Int32 => some (Value.int q)) e).symm, rfl⟩
          · refine ab_go 2 [] (pc' := 43) (lo' := [some (.ref 22), some (.long x1), none, some (.int x2), some (.int x3)]) (st' := [.int (1 : Int32)]) (h' := cs_H c rest) ckO_isDue rfl ?_
            have e : fO_isDue c x1 x2 x3 = (1 : Int32) := by simp only [fO_isDue, if_neg h1, if_pos h2, if_pos h3, if_neg h4, if_neg h5]
            exact ab_zret ckO_isDue rfl rfl (Or.inr rfl) ⟨(congrArg (fun q : Int32 => some (Value.int q)) e).symm, rfl⟩
def fO_noteSent (c : cs_S) (x1 : Int64) (x2 : Int32) : cs_S := (cs_u (cs_d (cs_u (cs_u c 0 13 (1 : Int32)) 0 14 (0 : Int32)) x1) 0 15 x2)
theorem tO_noteSent {x1 : Int64} {x2 : Int32} : ab_M X mO_noteSent (d) 0 0 [.ref 22, .long x1, .int x2] (cs_H c rest) (fun r9 h9 => r9 = none ∧ h9 = cs_H (fO_noteSent c x1 x2) rest) := by
  refine ab_entry (by decide) (Nat.le_of_ble_eq_true rfl) ?_
  refine ab_go 12 [] (pc' := 20) (lo' := [some (.ref 22), some (.long x1), none, some (.int x2)]) (st' := []) (h' := cs_H (cs_u (cs_d (cs_u (cs_u c 0 13 (1 : Int32)) 0 14 (0 : Int32)) x1) 0 15 x2) rest) ckO_noteSent rfl ?_
  have e : fO_noteSent c x1 x2 = (cs_u (cs_d (cs_u (cs_u c 0 13 (1 : Int32)) 0 14 (0 : Int32)) x1) 0 15 x2) := by simp only [fO_noteSent]
  exact ab_vret ckO_noteSent rfl rfl ⟨rfl, (congrArg (fun q : cs_S => cs_H q rest) e).symm⟩
def fP_comeUp (c : cs_S)  : cs_S := (cs_u (cs_u c 0 8 (1 : Int32)) 0 9 (0 : Int32))
theorem tP_comeUp : ab_M X mP_comeUp (d) 0 0 [.ref 19] (cs_H c rest) (fun r9 h9 => r9 = none ∧ h9 = cs_H (fP_comeUp c) rest) := by
  refine ab_entry (by decide) (Nat.le_of_ble_eq_true rfl) ?_
  refine ab_go 6 [] (pc' := 10) (lo' := [some (.ref 19)]) (st' := []) (h' := cs_H (cs_u (cs_u c 0 8 (1 : Int32)) 0 9 (0 : Int32)) rest) ckP_comeUp rfl ?_
  have e : fP_comeUp c = (cs_u (cs_u c 0 8 (1 : Int32)) 0 9 (0 : Int32)) := by simp only [fP_comeUp]
  exact ab_vret ckP_comeUp rfl rfl ⟨rfl, (congrArg (fun q : cs_S => cs_H q rest) e).symm⟩
def fP_current (c : cs_S)  : Int32 := (c.1 0 8)
theorem tP_current : ab_M X mP_current (d) 0 0 [.ref 19] (cs_H c rest) (fun r9 h9 => r9 = some (Value.int (fP_current c)) ∧ h9 = cs_H c rest) := by
  refine ab_entry (by decide) (Nat.le_of_ble_eq_true rfl) ?_
  refine ab_go 2 [] (pc' := 4) (lo' := [some (.ref 19)]) (st' := [.int (c.1 0 8)]) (h' := cs_H c rest) ckP_current rfl ?_
  have e : fP_current c = (c.1 0 8) := by simp only [fP_current]
  exact ab_iret ckP_current rfl rfl ⟨(congrArg (fun q : Int32 => some (Value.int q)) e).symm, rfl⟩
def fP_statusBits (c : cs_S)  : Option (Int32) := (if ab_inb (c.1 0 8) 8 = true then (some (statF ((c.1 0 8)).toNatClampNeg)) else none)
theorem tP_statusBits (hX : cs_X X) {v : Int32} (hv : fP_statusBits c = some v) : ab_M X mP_statusBits (d) 0 0 [.ref 19] (cs_H c rest) (fun r9 h9 => r9 = some (Value.int v) ∧ h9 = cs_H c rest) := by
  refine ab_entry (by decide) (Nat.le_of_ble_eq_true rfl) ?_
  refine ab_go 3 [] (pc' := 7) (lo' := [some (.ref 19)]) (st' := [.int (c.1 0 8), .ref 2]) (h' := cs_H c rest) ckP_statusBits rfl ?_
  by_cases h1 : ab_inb (c.1 0 8) 8 = true
  case neg => exact ab_no hv (by simp only [fP_statusBits, if_neg h1])
  refine ab_tald ckP_statusBits rfl (by decide) hX.2.2 (ab_inb_ok h1) ?_
  have e : fP_statusBits c = some (statF ((c.1 0 8)).toNatClampNeg) := by simp only [fP_statusBits, if_pos h1]
  obtain rfl := Option.some.inj (e.symm.trans hv)
  exact ab_iret ckP_statusBits rfl rfl ⟨rfl, rfl⟩
def fP_isEnabled (c : cs_S)  : Int32 := (if (c.1 0 8) = (4 : Int32) then (1 : Int32) else (0 : Int32))
theorem tP_isEnabled : ab_M X mP_isEnabled (d) 0 0 [.ref 19] (cs_H c rest) (fun r9 h9 => r9 = some (Value.int (fP_isEnabled c)) ∧ h9 = cs_H c rest) := by
  refine ab_entry (by decide) (Nat.le_of_ble_eq_true rfl) ?_
  refine ab_go 3 [] (pc' := 5) (lo' := [some (.ref 19)]) (st' := [.int (4 : Int32), .int (c.1 0 8)]) (h' := cs_H c rest) ckP_isEnabled rfl ?_
  refine ab_icmp_ne ckP_isEnabled rfl (fun (h1 : ¬ ((c.1 0 8) = (4 : Int32))) => ?_) (fun (h1 : (c.1 0 8) = (4 : Int32)) => ?_)
  · refine ab_go 1 [] (pc' := 13) (lo' := [some (.ref 19)]) (st' := [.int (0 : Int32)]) (h' := cs_H c rest) ckP_isEnabled rfl ?_
    have e : fP_isEnabled c = (0 : Int32) := by simp only [fP_isEnabled, if_neg h1]
    exact ab_zret ckP_isEnabled rfl rfl (Or.inl rfl) ⟨(congrArg (fun q : Int32 => some (Value.int q)) e).symm, rfl⟩
  · refine ab_go 2 [] (pc' := 13) (lo' := [some (.ref 19)]) (st' := [.int (1 : Int32)]) (h' := cs_H c rest) ckP_isEnabled rfl ?_
    have e : fP_isEnabled c = (1 : Int32) := by simp only [fP_isEnabled, if_pos h1]
    exact ab_zret ckP_isEnabled rfl rfl (Or.inr rfl) ⟨(congrArg (fun q : Int32 => some (Value.int q)) e).symm, rfl⟩
def fP_isStageOn (c : cs_S)  : Int32 := (if (c.1 0 8) = (4 : Int32) then (1 : Int32) else (if (c.1 0 8) = (5 : Int32) then (1 : Int32) else (if (c.1 0 8) = (6 : Int32) then (1 : Int32) else (0 : Int32))))
theorem tP_isStageOn : ab_M X mP_isStageOn (d) 0 0 [.ref 19] (cs_H c rest) (fun r9 h9 => r9 = some (Value.int (fP_isStageOn c)) ∧ h9 = cs_H c rest) := by
  refine ab_entry (by decide) (Nat.le_of_ble_eq_true rfl) ?_
  refine ab_go 3 [] (pc' := 5) (lo' := [some (.ref 19)]) (st' := [.int (4 : Int32), .int (c.1 0 8)]) (h' := cs_H c rest) ckP_isStageOn rfl ?_
  refine ab_icmp_eq ckP_isStageOn rfl (fun (h1 : (c.1 0 8) = (4 : Int32)) => ?_) (fun (h1 : ¬ ((c.1 0 8) = (4 : Int32))) => ?_)
  · refine ab_go 2 [] (pc' := 30) (lo' := [some (.ref 19)]) (st' := [.int (1 : Int32)]) (h' := cs_H c rest) ckP_isStageOn rfl ?_
    have e : fP_isStageOn c = (1 : Int32) := by simp only [fP_isStageOn, if_pos h1]
    exact ab_zret ckP_isStageOn rfl rfl (Or.inr rfl) ⟨(congrArg (fun q : Int32 => some (Value.int q)) e).symm, rfl⟩
  · refine ab_go 3 [] (pc' := 13) (lo' := [some (.ref 19)]) (st' := [.int (5 : Int32), .int (c.1 0 8)]) (h' := cs_H c rest) ckP_isStageOn rfl ?_
    refine ab_icmp_eq ckP_isStageOn rfl (fun (h2 : (c.1 0 8) = (5 : Int32)) => ?_) (fun (h2 : ¬ ((c.1 0 8) = (5 : Int32))) => ?_)
    · refine ab_go 2 [] (pc' := 30) (lo' := [some (.ref 19)]) (st' := [.int (1 : Int32)]) (h' := cs_H c rest) ckP_isStageOn rfl ?_
      have e : fP_isStageOn c = (1 : Int32) := by simp only [fP_isStageOn, if_neg h1, if_pos h2]
      exact ab_zret ckP_isStageOn rfl rfl (Or.inr rfl) ⟨(congrArg (fun q : Int32 => some (Value.int q)) e).symm, rfl⟩
    · refine ab_go 3 [] (pc' := 22) (lo' := [some (.ref 19)]) (st' := [.int (6 : Int32), .int (c.1 0 8)]) (h' := cs_H c rest) ckP_isStageOn rfl ?_
      refine ab_icmp_ne ckP_isStageOn rfl (fun (h3 : ¬ ((c.1 0 8) = (6 : Int32))) => ?_) (fun (h3 : (c.1 0 8) = (6 : Int32)) => ?_)
      · refine ab_go 1 [] (pc' := 30) (lo' := [some (.ref 19)]) (st' := [.int (0 : Int32)]) (h' := cs_H c rest) ckP_isStageOn rfl ?_
        have e : fP_isStageOn c = (0 : Int32) := by simp only [fP_isStageOn, if_neg h1, if_neg h2, if_neg h3]
        exact ab_zret ckP_isStageOn rfl rfl (Or.inl rfl) ⟨(congrArg (fun q : Int32 => some (Value.int q)) e).symm, rfl⟩
      · refine ab_go 2 [] (pc' := 30) (lo' := [some (.ref 19)]) (st' := [.int (1 : Int32)]) (h' := cs_H c rest) ckP_isStageOn rfl ?_
        have e : fP_isStageOn c = (1 : Int32) := by simp only [fP_isStageOn, if_neg h1, if_neg h2, if_pos h3]
        exact ab_zret ckP_isStageOn rfl rfl (Or.inr rfl) ⟨(congrArg (fun q : Int32 => some (Value.int q)) e).symm, rfl⟩
def fP_fail (c : cs_S)  : Int32 × cs_S := (if (c.1 0 8) = (6 : Int32) then ((0 : Int32), c) else (if (c.1 0 8) = (7 : Int32) then ((0 : Int32), c) else (if (fP_isStageOn c) = 0 then ((1 : Int32), (cs_u c 0 8 (7 : Int32))) else ((1 : Int32), (cs_u c 0 8 (6 : Int32))))))
theorem tP_fail : ab_M X mP_fail (d + 1) 0 0 [.ref 19] (cs_H c rest) (fun r9 h9 => r9 = some (Value.int (fP_fail c).1) ∧ h9 = cs_H (fP_fail c).2 rest) := by
  refine ab_entry (by decide) (Nat.le_of_ble_eq_true rfl) ?_
  refine ab_go 3 [] (pc' := 6) (lo' := [some (.ref 19)]) (st' := [.int (6 : Int32), .int (c.1 0 8)]) (h' := cs_H c rest) ckP_fail rfl ?_
  refine ab_icmp_eq ckP_fail rfl (fun (h1 : (c.1 0 8) = (6 : Int32)) => ?_) (fun (h1 : ¬ ((c.1 0 8) = (6 : Int32))) => ?_)
  · refine ab_go 1 [] (pc' := 19) (lo' := [some (.ref 19)]) (st' := [.int (0 : Int32)]) (h' := cs_H c rest) ckP_fail rfl ?_
    have e : fP_fail c = ((0 : Int32), c) := by simp only [fP_fail, if_pos h1]
    exact ab_zret ckP_fail rfl rfl (Or.inl rfl) ⟨(congrArg (fun q : Int32 × cs_S => some (Value.int q.1)) e).symm, (congrArg (fun q : Int32 × cs_S => cs_H q.2 rest) e).symm⟩
  · refine ab_go 3 [] (pc' := 15) (lo' := [some (.ref 19)]) (st' := [.int (7 : Int32), .int (c.1 0 8)]) (h' := cs_H c rest) ckP_fail rfl ?_
    refine ab_icmp_ne ckP_fail rfl (fun (h2 : ¬ ((c.1 0 8) = (7 : Int32))) => ?_) (fun (h2 : (c.1 0 8) = (7 : Int32)) => ?_)
    · refine ab_go 2 [] (pc' := 22) (lo' := [some (.ref 19)]) (st' := [.ref 19, .ref 19]) (h' := cs_H c rest) ckP_fail rfl ?_
      refine ab_callV (bc2 := 0) (bs2 := 0) (as := []) (rest := [_]) ckP_fail rfl (by decide +kernel) wP_isStageOn (tP_isStageOn (d := d) (c := c)) rfl rfl (by omega) ⟨Nat.le_refl _, Nat.le_refl _⟩ (Nat.le_of_ble_eq_true rfl) ?_
      rintro _ _ ⟨rfl, rfl⟩
      refine ab_if_eq ckP_fail rfl (fun (h3 : (fP_isStageOn c) = 0) => ?_) (fun (h3 : ¬ ((fP_isStageOn c) = 0)) => ?_)
      · refine ab_go 3 [] (pc' := 39) (lo' := [some (.ref 19)]) (st' := [.int (1 : Int32)]) (h' := cs_H (cs_u c 0 8 (7 : Int32)) rest) ckP_fail rfl ?_
        have e : fP_fail c = ((1 : Int32), (cs_u c 0 8 (7 : Int32))) := by simp only [fP_fail, if_neg h1, if_neg h2, if_pos h3]
        exact ab_zret ckP_fail rfl rfl (Or.inr rfl) ⟨(congrArg (fun q : Int32 × cs_S => some (Value.int q.1)) e).symm, (congrArg (fun q : Int32 × cs_S => cs_H q.2 rest) e).symm⟩
      · refine ab_go 4 [] (pc' := 39) (lo' := [some (.ref 19)]) (st' := [.int (1 : Int32)]) (h' := cs_H (cs_u c 0 8 (6 : Int32)) rest) ckP_fail rfl ?_
        have e : fP_fail c = ((1 : Int32), (cs_u c 0 8 (6 : Int32))) := by simp only [fP_fail, if_neg h1, if_neg h2, if_neg h3]
        exact ab_zret ckP_fail rfl rfl (Or.inr rfl) ⟨(congrArg (fun q : Int32 × cs_S => some (Value.int q.1)) e).symm, (congrArg (fun q : Int32 × cs_S => cs_H q.2 rest) e).symm⟩
    · refine ab_go 1 [] (pc' := 19) (lo' := [some (.ref 19)]) (st' := [.int (0 : Int32)]) (h' := cs_H c rest) ckP_fail rfl ?_
      have e : fP_fail c = ((0 : Int32), c) := by simp only [fP_fail, if_neg h1, if_pos h2]
      exact ab_zret ckP_fail rfl rfl (Or.inl rfl) ⟨(congrArg (fun q : Int32 × cs_S => some (Value.int q.1)) e).symm, (congrArg (fun q : Int32 × cs_S => cs_H q.2 rest) e).symm⟩
def fP_orderOf (c : cs_S) (x1 : Int32) : Option (Int32 × cs_S) := (if (x1 &&& (128 : Int32)) = 0 then (if (x1 &&& (2 : Int32)) = 0 then (some ((2 : Int32), (cs_u c 0 9 (0 : Int32)))) else (if (x1 &&& (4 : Int32)) = 0 then (some ((3 : Int32), (cs_u c 0 9 (0 : Int32)))) else (if (x1 &&& (1 : Int32)) = 0 then (some ((4 : Int32), (cs_u c 0 9 (0 : Int32)))) else (if (x1 &&& (8 : Int32)) = 0 then (some ((5 : Int32), (cs_u c 0 9 (0 : Int32)))) else (some ((6 : Int32), (cs_u c 0 9 (0 : Int32)))))))) else (if (c.1 0 9) = 0 then (some ((1 : Int32), (cs_u c 0 9 (1 : Int32)))) else (some ((0 : Int32), (cs_u c 0 9 (1 : Int32))))))
theorem tP_orderOf {x1 : Int32} {v : Int32 × cs_S} (hv : fP_orderOf c x1 = some v) : ab_M X mP_orderOf (d) 0 0 [.ref 19, .int x1] (cs_H c rest) (fun r9 h9 => r9 = some (Value.int v.1) ∧ h9 = cs_H v.2 rest) := by
  refine ab_entry (by decide) (Nat.le_of_ble_eq_true rfl) ?_
  refine ab_go 3 [] (pc' := 5) (lo' := [some (.ref 19), some (.int x1), none, none]) (st' := [.int (x1 &&& (128 : Int32))]) (h' := cs_H c rest) ckP_orderOf rfl ?_
  refine ab_if_eq ckP_orderOf rfl (fun (h1 : (x1 &&& (128 : Int32)) = 0) => ?_) (fun (h1 : ¬ ((x1 &&& (128 : Int32)) = 0)) => ?_)
  · refine ab_go 3 [] (pc' := 15) (lo' := [some (.ref 19), some (.int x1), some (.int (0 : Int32)), none]) (st' := [.int (0 : Int32)]) (h' := cs_H c rest) ckP_orderOf rfl ?_
    refine ab_if_eq ckP_orderOf rfl (fun _ => ?_) (fun hh => absurd hh (by decide))
    refine ab_go 4 [] (pc' := 33) (lo' := [some (.ref 19), some (.int x1), some (.int (0 : Int32)), some (.int (0 : Int32))]) (st' := [.int (0 : Int32), .ref 19]) (h' := cs_H c rest) ckP_orderOf rfl ?_
    refine ab_putfR ckP_orderOf rfl rfl (Nat.le_of_ble_eq_true rfl) (ab_fitB (Or.inl rfl)) (fun q z => by cases z) ?_
    refine ab_go 1 [] (pc' := 37) (lo' := [some (.ref 19), some (.int x1), some (.int (0 : Int32)), some (.int (0 : Int32))]) (st' := [.int (0 : Int32)]) (h' := cs_H (cs_u c 0 9 (0 : Int32)) rest) ckP_orderOf rfl ?_
    refine ab_if_eq ckP_orderOf rfl (fun _ => ?_) (fun hh => absurd hh (by decide))
    refine ab_go 3 [] (pc' := 53) (lo' := [some (.ref 19), some (.int x1), some (.int (0 : Int32)), some (.int (0 : Int32))]) (st' := [.int (x1 &&& (2 : Int32))]) (h' := cs_H (cs_u c 0 9 (0 : Int32)) rest) ckP_orderOf rfl ?_
    refine ab_if_ne ckP_orderOf rfl (fun (h2 : ¬ ((x1 &&& (2 : Int32)) = 0)) => ?_) (fun (h2 : (x1 &&& (2 : Int32)) = 0) => ?_)
    · refine ab_go 3 [] (pc' := 61) (lo' := [some (.ref 19), some (.int x1), some (.int (0 : Int32)), some (.int (0 : Int32))]) (st' := [.int (x1 &&& (4 : Int32))]) (h' := cs_H (cs_u c 0 9 (0 : Int32)) rest) ckP_orderOf rfl ?_
      refine ab_if_ne ckP_orderOf rfl (fun (h3 : ¬ ((x1 &&& (4 : Int32)) = 0)) => ?_) (fun (h3 : (x1 &&& (4 : Int32)) = 0) => ?_)
      · refine ab_go 3 [] (pc' := 69) (lo' := [some (.ref 19), some (.int x1), some (.int (0 : Int32)), some (.int (0 : Int32))]) (st' := [.int (x1 &&& (1 : Int32))]) (h' := cs_H (cs_u c 0 9 (0 : Int32)) rest) ckP_orderOf rfl ?_
        refine ab_if_ne ckP_orderOf rfl (fun (h4 : ¬ ((x1 &&& (1 : Int32)) = 0)) => ?_) (fun (h4 : (x1 &&& (1 : Int32)) = 0) => ?_)
        · refine ab_go 3 [] (pc' := 78) (lo' := [some (.ref 19), some (.int x1), some (.int (0 : Int32)), some (.int (0 : Int32))]) (st' := [.int (x1 &&& (8 : Int32))]) (h' := cs_H (cs_u c 0 9 (0 : Int32)) rest) ckP_orderOf rfl ?_
          refine ab_if_ne ckP_orderOf rfl (fun (h5 : ¬ ((x1 &&& (8 : Int32)) = 0)) => ?_) (fun (h5 : (x1 &&& (8 : Int32)) = 0) => ?_)
          · refine ab_go 1 [] (pc' := 87) (lo' := [some (.ref 19), some (.int x1), some (.int (0 : Int32)), some (.int (0 : Int32))]) (st' := [.int (6 : Int32)]) (h' := cs_H (cs_u c 0 9 (0 : Int32)) rest) ckP_orderOf rfl ?_
            have e : fP_orderOf c x1 = some ((6 : Int32), (cs_u c 0 9 (0 : Int32))) := by simp only [fP_orderOf, if_pos h1, if_neg h2, if_neg h3, if_neg h4, if_neg h5]
            obtain rfl := Option.some.inj (e.symm.trans hv)
            exact ab_iret ckP_orderOf rfl rfl ⟨rfl, rfl⟩
          · refine ab_go 2 [] (pc' := 87) (lo' := [some (.ref 19), some (.int x1), some (.int (0 : Int32)), some (.int (0 : Int32))]) (st' := [.int (5 : Int32)]) (h' := cs_H (cs_u c 0 9 (0 : Int32)) rest) ckP_orderOf rfl ?_
            have e : fP_orderOf c x1 = some ((5 : Int32), (cs_u c 0 9 (0 : Int32))) := by simp only [fP_orderOf, if_pos h1, if_neg h2, if_neg h3, if_neg h4, if_pos h5]
            obtain rfl := Option.some.inj (e.symm.trans hv)
            exact ab_iret ckP_orderOf rfl rfl ⟨rfl, rfl⟩
        · refine ab_go 1 [] (pc' := 73) (lo' := [some (.ref 19), some (.int x1), some (.int (0 : Int32)), some (.int (0 : Int32))]) (st' := [.int (4 : Int32)]) (h' := cs_H (cs_u c 0 9 (0 : Int32)) rest) ckP_orderOf rfl ?_
          have e : fP_orderOf c x1 = some ((4 : Int32), (cs_u c 0 9 (0 : Int32))) := by simp only [fP_orderOf, if_pos h1, if_neg h2, if_neg h3, if_pos h4]
          obtain rfl := Option.some.inj (e.symm.trans hv)
          exact ab_iret ckP_orderOf rfl rfl ⟨rfl, rfl⟩
      · refine ab_go 1 [] (pc' := 65) (lo' := [some (.ref 19), some (.int x1), some (.int (0 : Int32)), some (.int (0 : Int32))]) (st' := [.int (3 : Int32)]) (h' := cs_H (cs_u c 0 9 (0 : Int32)) rest) ckP_orderOf rfl ?_
        have e : fP_orderOf c x1 = some ((3 : Int32), (cs_u c 0 9 (0 : Int32))) := by simp only [fP_orderOf, if_pos h1, if_neg h2, if_pos h3]
        obtain rfl := Option.some.inj (e.symm.trans hv)
        exact ab_iret ckP_orderOf rfl rfl ⟨rfl, rfl⟩
    · refine ab_go 1 [] (pc' := 57) (lo' := [some (.ref 19), some (.int x1), some (.int (0 : Int32)), some (.int (0 : Int32))]) (st' := [.int (2 : Int32)]) (h' := cs_H (cs_u c 0 9 (0 : Int32)) rest) ckP_orderOf rfl ?_
      have e : fP_orderOf c x1 = some ((2 : Int32), (cs_u c 0 9 (0 : Int32))) := by simp only [fP_orderOf, if_pos h1, if_pos h2]
      obtain rfl := Option.some.inj (e.symm.trans hv)
      exact ab_iret ckP_orderOf rfl rfl ⟨rfl, rfl⟩
  · refine ab_go 4 [] (pc' := 15) (lo' := [some (.ref 19), some (.int x1), some (.int (1 : Int32)), none]) (st' := [.int (1 : Int32)]) (h' := cs_H c rest) ckP_orderOf rfl ?_
    refine ab_if_eq ckP_orderOf rfl (fun hh => absurd hh (by decide)) (fun _ => ?_)
    refine ab_go 2 [] (pc' := 22) (lo' := [some (.ref 19), some (.int x1), some (.int (1 : Int32)), none]) (st' := [.int (c.1 0 9)]) (h' := cs_H c rest) ckP_orderOf rfl ?_
    refine ab_if_ne ckP_orderOf rfl (fun (h6 : ¬ ((c.1 0 9) = 0)) => ?_) (fun (h6 : (c.1 0 9) = 0) => ?_)
    · refine ab_go 4 [] (pc' := 33) (lo' := [some (.ref 19), some (.int x1), some (.int (1 : Int32)), some (.int (0 : Int32))]) (st' := [.int (1 : Int32), .ref 19]) (h' := cs_H c rest) ckP_orderOf rfl ?_
      refine ab_putfR ckP_orderOf rfl rfl (Nat.le_of_ble_eq_true rfl) (ab_fitB (Or.inr rfl)) (fun q z => by cases z) ?_
      refine ab_go 1 [] (pc' := 37) (lo' := [some (.ref 19), some (.int x1), some (.int (1 : Int32)), some (.int (0 : Int32))]) (st' := [.int (1 : Int32)]) (h' := cs_H (cs_u c 0 9 (1 : Int32)) rest) ckP_orderOf rfl ?_
      refine ab_if_eq ckP_orderOf rfl (fun hh => absurd hh (by decide)) (fun _ => ?_)
      refine ab_go 1 [] (pc' := 41) (lo' := [some (.ref 19), some (.int x1), some (.int (1 : Int32)), some (.int (0 : Int32))]) (st' := [.int (0 : Int32)]) (h' := cs_H (cs_u c 0 9 (1 : Int32)) rest) ckP_orderOf rfl ?_
      refine ab_if_eq ckP_orderOf rfl (fun _ => ?_) (fun hh => absurd hh (by decide))
      refine ab_go 1 [] (pc' := 49) (lo' := [some (.ref 19), some (.int x1), some (.int (1 : Int32)), some (.int (0 : Int32))]) (st' := [.int (0 : Int32)]) (h' := cs_H (cs_u c 0 9 (1 : Int32)) rest) ckP_orderOf rfl ?_
      have e : fP_orderOf c x1 = some ((0 : Int32), (cs_u c 0 9 (1 : Int32))) := by simp only [fP_orderOf, if_neg h1, if_neg h6]
      obtain rfl := Option.some.inj (e.symm.trans hv)
      exact ab_iret ckP_orderOf rfl rfl ⟨rfl, rfl⟩
    · refine ab_go 5 [] (pc' := 33) (lo' := [some (.ref 19), some (.int x1), some (.int (1 : Int32)), some (.int (1 : Int32))]) (st' := [.int (1 : Int32), .ref 19]) (h' := cs_H c rest) ckP_orderOf rfl ?_
      refine ab_putfR ckP_orderOf rfl rfl (Nat.le_of_ble_eq_true rfl) (ab_fitB (Or.inr rfl)) (fun q z => by cases z) ?_
      refine ab_go 1 [] (pc' := 37) (lo' := [some (.ref 19), some (.int x1), some (.int (1 : Int32)), some (.int (1 : Int32))]) (st' := [.int (1 : Int32)]) (h' := cs_H (cs_u c 0 9 (1 : Int32)) rest) ckP_orderOf rfl ?_
      refine ab_if_eq ckP_orderOf rfl (fun hh => absurd hh (by decide)) (fun _ => ?_)
      refine ab_go 1 [] (pc' := 41) (lo' := [some (.ref 19), some (.int x1), some (.int (1 : Int32)), some (.int (1 : Int32))]) (st' := [.int (1 : Int32)]) (h' := cs_H (cs_u c 0 9 (1 : Int32)) rest) ckP_orderOf rfl ?_
      refine ab_if_eq ckP_orderOf rfl (fun hh => absurd hh (by decide)) (fun _ => ?_)
      refine ab_go 2 [] (pc' := 49) (lo' := [some (.ref 19), some (.int x1), some (.int (1 : Int32)), some (.int (1 : Int32))]) (st' := [.int (1 : Int32)]) (h' := cs_H (cs_u c 0 9 (1 : Int32)) rest) ckP_orderOf rfl ?_
      have e : fP_orderOf c x1 = some ((1 : Int32), (cs_u c 0 9 (1 : Int32))) := by simp only [fP_orderOf, if_neg h1, if_pos h6]
      obtain rfl := Option.some.inj (e.symm.trans hv)
      exact ab_iret ckP_orderOf rfl rfl ⟨rfl, rfl⟩
def fP_afterReady (x1 : Int32) : Int32 := (if x1 = (5 : Int32) then (3 : Int32) else (if x1 = (6 : Int32) then (3 : Int32) else (if x1 = (2 : Int32) then (1 : Int32) else (if x1 = (3 : Int32) then (1 : Int32) else (2 : Int32)))))
theorem tP_afterReady {x1 : Int32} : ab_M X mP_afterReady (d) 0 0 [.int x1] (hp) (fun r9 h9 => r9 = some (Value.int (fP_afterReady x1)) ∧ h9 = hp) := by
  refine ab_entry (by decide) (Nat.le_of_ble_eq_true rfl) ?_
  refine ab_go 2 [] (pc' := 2) (lo' := [some (.int x1)]) (st' := [.int (5 : Int32), .int x1]) (h' := hp) ckP_afterReady rfl ?_
  refine ab_icmp_eq ckP_afterReady rfl (fun (h1 : x1 = (5 : Int32)) => ?_) (fun (h1 : ¬ (x1 = (5 : Int32))) => ?_)
  · refine ab_go 1 [] (pc' := 12) (lo' := [some (.int x1)]) (st' := [.int (3 : Int32)]) (h' := hp) ckP_afterReady rfl ?_
    have e : fP_afterReady x1 = (3 : Int32) := by simp only [fP_afterReady, if_pos h1]
    exact ab_iret ckP_afterReady rfl rfl ⟨(congrArg (fun q : Int32 => some (Value.int q)) e).symm, rfl⟩
  · refine ab_go 2 [] (pc' := 8) (lo' := [some (.int x1)]) (st' := [.int (6 : Int32), .int x1]) (h' := hp) ckP_afterReady rfl ?_
    refine ab_icmp_ne ckP_afterReady rfl (fun (h2 : ¬ (x1 = (6 : Int32))) => ?_) (fun (h2 : x1 = (6 : Int32)) => ?_)
    · refine ab_go 2 [] (pc' := 15) (lo' := [some (.int x1)]) (st' := [.int (2 : Int32), .int x1]) (h' := hp) ckP_afterReady rfl ?_
      refine ab_icmp_eq ckP_afterReady rfl (fun (h3 : x1 = (2 : Int32)) => ?_) (fun (h3 : ¬ (x1 = (2 : Int32))) => ?_)
      · refine ab_go 2 [] (pc' := 28) (lo' := [some (.int x1)]) (st' := [.int (1 : Int32)]) (h' := hp) ckP_afterReady rfl ?_
        have e : fP_afterReady x1 = (1 : Int32) := by simp only [fP_afterReady, if_neg h1, if_neg h2, if_pos h3]
        exact ab_iret ckP_afterReady rfl rfl ⟨(congrArg (fun q : Int32 => some (Value.int q)) e).symm, rfl⟩
      · refine ab_go 2 [] (pc' := 20) (lo' := [some (.int x1)]) (st' := [.int (3 : Int32), .int x1]) (h' := hp) ckP_afterReady rfl ?_
        refine ab_icmp_ne ckP_afterReady rfl (fun (h4 : ¬ (x1 = (3 : Int32))) => ?_) (fun (h4 : x1 = (3 : Int32)) => ?_)
        · refine ab_go 1 [] (pc' := 28) (lo' := [some (.int x1)]) (st' := [.int (2 : Int32)]) (h' := hp) ckP_afterReady rfl ?_
          have e : fP_afterReady x1 = (2 : Int32) := by simp only [fP_afterReady, if_neg h1, if_neg h2, if_neg h3, if_neg h4]
          exact ab_iret ckP_afterReady rfl rfl ⟨(congrArg (fun q : Int32 => some (Value.int q)) e).symm, rfl⟩
        · refine ab_go 2 [] (pc' := 28) (lo' := [some (.int x1)]) (st' := [.int (1 : Int32)]) (h' := hp) ckP_afterReady rfl ?_
          have e : fP_afterReady x1 = (1 : Int32) := by simp only [fP_afterReady, if_neg h1, if_neg h2, if_neg h3, if_pos h4]
          exact ab_iret ckP_afterReady rfl rfl ⟨(congrArg (fun q : Int32 => some (Value.int q)) e).symm, rfl⟩
    · refine ab_go 1 [] (pc' := 12) (lo' := [some (.int x1)]) (st' := [.int (3 : Int32)]) (h' := hp) ckP_afterReady rfl ?_
      have e : fP_afterReady x1 = (3 : Int32) := by simp only [fP_afterReady, if_neg h1, if_pos h2]
      exact ab_iret ckP_afterReady rfl rfl ⟨(congrArg (fun q : Int32 => some (Value.int q)) e).symm, rfl⟩
def fP_afterSwitchedOn (x1 : Int32) : Int32 := (if x1 = (2 : Int32) then (1 : Int32) else (if x1 = (3 : Int32) then (1 : Int32) else (if x1 = (4 : Int32) then (2 : Int32) else (if x1 = (5 : Int32) then (3 : Int32) else (if x1 = (6 : Int32) then (4 : Int32) else (3 : Int32))))))
theorem tP_afterSwitchedOn {x1 : Int32} : ab_M X mP_afterSwitchedOn (d) 0 0 [.int x1] (hp) (fun r9 h9 => r9 = some (Value.int (fP_afterSwitchedOn x1)) ∧ h9 = hp) := by
  refine ab_entry (by decide) (Nat.le_of_ble_eq_true rfl) ?_
  refine ab_go 1 [] (pc' := 1) (lo' := [some (.int x1)]) (st' := [.int x1]) (h' := hp) ckP_afterSwitchedOn rfl ?_
  by_cases h1 : x1 = (2 : Int32)
  · refine ab_tswI (tgt := 40) (off := 39) ckP_afterSwitchedOn rfl h1 (by decide) (by decide) rfl (by decide) ?_
    refine ab_go 1 [] (pc' := 41) (lo' := [some (.int x1)]) (st' := [.int (1 : Int32)]) (h' := hp) ckP_afterSwitchedOn rfl ?_
    have e : fP_afterSwitchedOn x1 = (1 : Int32) := by simp only [fP_afterSwitchedOn, if_pos h1]
    exact ab_iret ckP_afterSwitchedOn rfl rfl ⟨(congrArg (fun q : Int32 => some (Value.int q)) e).symm, rfl⟩
  by_cases h2 : x1 = (3 : Int32)
  · refine ab_tswI (tgt := 40) (off := 39) ckP_afterSwitchedOn rfl h2 (by decide) (by decide) rfl (by decide) ?_
    refine ab_go 1 [] (pc' := 41) (lo' := [some (.int x1)]) (st' := [.int (1 : Int32)]) (h' := hp) ckP_afterSwitchedOn rfl ?_
    have e : fP_afterSwitchedOn x1 = (1 : Int32) := by simp only [fP_afterSwitchedOn, if_neg h1, if_pos h2]
    exact ab_iret ckP_afterSwitchedOn rfl rfl ⟨(congrArg (fun q : Int32 => some (Value.int q)) e).symm, rfl⟩
  by_cases h3 : x1 = (4 : Int32)
  · refine ab_tswI (tgt := 38) (off := 37) ckP_afterSwitchedOn rfl h3 (by decide) (by decide) rfl (by decide) ?_
    refine ab_go 1 [] (pc' := 39) (lo' := [some (.int x1)]) (st' := [.int (2 : Int32)]) (h' := hp) ckP_afterSwitchedOn rfl ?_
    have e : fP_afterSwitchedOn x1 = (2 : Int32) := by simp only [fP_afterSwitchedOn, if_neg h1, if_neg h2, if_pos h3]
    exact ab_iret ckP_afterSwitchedOn rfl rfl ⟨(congrArg (fun q : Int32 => some (Value.int q)) e).symm, rfl⟩
  by_cases h4 : x1 = (5 : Int32)
  · refine ab_tswI (tgt := 42) (off := 41) ckP_afterSwitchedOn rfl h4 (by decide) (by decide) rfl (by decide) ?_
    refine ab_go 1 [] (pc' := 43) (lo' := [some (.int x1)]) (st' := [.int (3 : Int32)]) (h' := hp) ckP_afterSwitchedOn rfl ?_
    have e : fP_afterSwitchedOn x1 = (3 : Int32) := by simp only [fP_afterSwitchedOn, if_neg h1, if_neg h2, if_neg h3, if_pos h4]
    exact ab_iret ckP_afterSwitchedOn rfl rfl ⟨(congrArg (fun q : Int32 => some (Value.int q)) e).symm, rfl⟩
  by_cases h5 : x1 = (6 : Int32)
  · refine ab_tswI (tgt := 36) (off := 35) ckP_afterSwitchedOn rfl h5 (by decide) (by decide) rfl (by decide) ?_
    refine ab_go 1 [] (pc' := 37) (lo' := [some (.int x1)]) (st' := [.int (4 : Int32)]) (h' := hp) ckP_afterSwitchedOn rfl ?_
    have e : fP_afterSwitchedOn x1 = (4 : Int32) := by simp only [fP_afterSwitchedOn, if_neg h1, if_neg h2, if_neg h3, if_neg h4, if_pos h5]
    exact ab_iret ckP_afterSwitchedOn rfl rfl ⟨(congrArg (fun q : Int32 => some (Value.int q)) e).symm, rfl⟩
  refine ab_tswO (tgt := 42) ckP_afterSwitchedOn rfl (by have a0 := lv_neT h1 (show (2 : Int32).toInt = 2 by decide); have a1 := lv_neT h2 (show (3 : Int32).toInt = 3 by decide); have a2 := lv_neT h3 (show (4 : Int32).toInt = 4 by decide); have a3 := lv_neT h4 (show (5 : Int32).toInt = 5 by decide); have a4 := lv_neT h5 (show (6 : Int32).toInt = 6 by decide); omega) (by decide) ?_
  refine ab_go 1 [] (pc' := 43) (lo' := [some (.int x1)]) (st' := [.int (3 : Int32)]) (h' := hp) ckP_afterSwitchedOn rfl ?_
  have e : fP_afterSwitchedOn x1 = (3 : Int32) := by simp only [fP_afterSwitchedOn, if_neg h1, if_neg h2, if_neg h3, if_neg h4, if_neg h5]
  exact ab_iret ckP_afterSwitchedOn rfl rfl ⟨(congrArg (fun q : Int32 => some (Value.int q)) e).symm, rfl⟩
def fP_afterEnabled (x1 : Int32) : Int32 := (if x1 = (2 : Int32) then (1 : Int32) else (if x1 = (3 : Int32) then (5 : Int32) else (if x1 = (4 : Int32) then (2 : Int32) else (if x1 = (5 : Int32) then (3 : Int32) else (4 : Int32)))))
theorem tP_afterEnabled {x1 : Int32} : ab_M X mP_afterEnabled (d) 0 0 [.int x1] (hp) (fun r9 h9 => r9 = some (Value.int (fP_afterEnabled x1)) ∧ h9 = hp) := by
  refine ab_entry (by decide) (Nat.le_of_ble_eq_true rfl) ?_
  refine ab_go 1 [] (pc' := 1) (lo' := [some (.int x1)]) (st' := [.int x1]) (h' := hp) ckP_afterEnabled rfl ?_
  by_cases h1 : x1 = (2 : Int32)
  · refine ab_tswI (tgt := 36) (off := 35) ckP_afterEnabled rfl h1 (by decide) (by decide) rfl (by decide) ?_
    refine ab_go 1 [] (pc' := 37) (lo' := [some (.int x1)]) (st' := [.int (1 : Int32)]) (h' := hp) ckP_afterEnabled rfl ?_
    have e : fP_afterEnabled x1 = (1 : Int32) := by simp only [fP_afterEnabled, if_pos h1]
    exact ab_iret ckP_afterEnabled rfl rfl ⟨(congrArg (fun q : Int32 => some (Value.int q)) e).symm, rfl⟩
  by_cases h2 : x1 = (3 : Int32)
  · refine ab_tswI (tgt := 38) (off := 37) ckP_afterEnabled rfl h2 (by decide) (by decide) rfl (by decide) ?_
    refine ab_go 1 [] (pc' := 39) (lo' := [some (.int x1)]) (st' := [.int (5 : Int32)]) (h' := hp) ckP_afterEnabled rfl ?_
    have e : fP_afterEnabled x1 = (5 : Int32) := by simp only [fP_afterEnabled, if_neg h1, if_pos h2]
    exact ab_iret ckP_afterEnabled rfl rfl ⟨(congrArg (fun q : Int32 => some (Value.int q)) e).symm, rfl⟩
  by_cases h3 : x1 = (4 : Int32)
  · refine ab_tswI (tgt := 34) (off := 33) ckP_afterEnabled rfl h3 (by decide) (by decide) rfl (by decide) ?_
    refine ab_go 1 [] (pc' := 35) (lo' := [some (.int x1)]) (st' := [.int (2 : Int32)]) (h' := hp) ckP_afterEnabled rfl ?_
    have e : fP_afterEnabled x1 = (2 : Int32) := by simp only [fP_afterEnabled, if_neg h1, if_neg h2, if_pos h3]
    exact ab_iret ckP_afterEnabled rfl rfl ⟨(congrArg (fun q : Int32 => some (Value.int q)) e).symm, rfl⟩
  by_cases h4 : x1 = (5 : Int32)
  · refine ab_tswI (tgt := 32) (off := 31) ckP_afterEnabled rfl h4 (by decide) (by decide) rfl (by decide) ?_
    refine ab_go 1 [] (pc' := 33) (lo' := [some (.int x1)]) (st' := [.int (3 : Int32)]) (h' := hp) ckP_afterEnabled rfl ?_
    have e : fP_afterEnabled x1 = (3 : Int32) := by simp only [fP_afterEnabled, if_neg h1, if_neg h2, if_neg h3, if_pos h4]
    exact ab_iret ckP_afterEnabled rfl rfl ⟨(congrArg (fun q : Int32 => some (Value.int q)) e).symm, rfl⟩
  refine ab_tswO (tgt := 40) ckP_afterEnabled rfl (by have a0 := lv_neT h1 (show (2 : Int32).toInt = 2 by decide); have a1 := lv_neT h2 (show (3 : Int32).toInt = 3 by decide); have a2 := lv_neT h3 (show (4 : Int32).toInt = 4 by decide); have a3 := lv_neT h4 (show (5 : Int32).toInt = 5 by decide); omega) (by decide) ?_
  refine ab_go 1 [] (pc' := 41) (lo' := [some (.int x1)]) (st' := [.int (4 : Int32)]) (h' := hp) ckP_afterEnabled rfl ?_
  have e : fP_afterEnabled x1 = (4 : Int32) := by simp only [fP_afterEnabled, if_neg h1, if_neg h2, if_neg h3, if_neg h4]
  exact ab_iret ckP_afterEnabled rfl rfl ⟨(congrArg (fun q : Int32 => some (Value.int q)) e).symm, rfl⟩
def fP_stateAfter (c : cs_S) (x1 : Int32) (x2 : Int32) : Int32 := (if (c.1 0 8) = (1 : Int32) then (if x1 = (4 : Int32) then (2 : Int32) else (1 : Int32)) else (if (c.1 0 8) = (2 : Int32) then (fP_afterReady x1) else (if (c.1 0 8) = (3 : Int32) then (fP_afterSwitchedOn x1) else (if (c.1 0 8) = (4 : Int32) then (fP_afterEnabled x1) else (if (c.1 0 8) = (5 : Int32) then (if x1 = (2 : Int32) then (1 : Int32) else (if x2 = 0 then (5 : Int32) else (1 : Int32))) else (if (c.1 0 8) = (6 : Int32) then (if x2 = 0 then (6 : Int32) else (7 : Int32)) else (if x1 = (1 : Int32) then (1 : Int32) else (7 : Int32))))))))
theorem tP_stateAfter {x1 : Int32} {x2 : Int32} : ab_M X mP_stateAfter (d + 1) 0 0 [.ref 19, .int x1, .int x2] (cs_H c rest) (fun r9 h9 => r9 = some (Value.int (fP_stateAfter c x1 x2)) ∧ h9 = cs_H c rest) := by
  refine ab_entry (by decide) (Nat.le_of_ble_eq_true rfl) ?_
  refine ab_go 2 [] (pc' := 4) (lo' := [some (.ref 19), some (.int x1), some (.int x2)]) (st' := [.int (c.1 0 8)]) (h' := cs_H c rest) ckP_stateAfter rfl ?_
  by_cases h1 : (c.1 0 8) = (1 : Int32)
  · refine ab_tswI (tgt := 44) (off := 40) ckP_stateAfter rfl h1 (by decide) (by decide) rfl (by decide) ?_
    refine ab_go 2 [] (pc' := 46) (lo' := [some (.ref 19), some (.int x1), some (.int x2)]) (st' := [.int (4 : Int32), .int x1]) (h' := cs_H c rest) ckP_stateAfter rfl ?_
    refine ab_icmp_ne ckP_stateAfter rfl (fun (h2 : ¬ (x1 = (4 : Int32))) => ?_) (fun (h2 : x1 = (4 : Int32)) => ?_)
    · refine ab_go 1 [] (pc' := 54) (lo' := [some (.ref 19), some (.int x1), some (.int x2)]) (st' := [.int (1 : Int32)]) (h' := cs_H c rest) ckP_stateAfter rfl ?_
      have e : fP_stateAfter c x1 x2 = (1 : Int32) := by simp only [fP_stateAfter, if_pos h1, if_neg h2]
      exact ab_iret ckP_stateAfter rfl rfl ⟨(congrArg (fun q : Int32 => some (Value.int q)) e).symm, rfl⟩
    · refine ab_go 2 [] (pc' := 54) (lo' := [some (.ref 19), some (.int x1), some (.int x2)]) (st' := [.int (2 : Int32)]) (h' := cs_H c rest) ckP_stateAfter rfl ?_
      have e : fP_stateAfter c x1 x2 = (2 : Int32) := by simp only [fP_stateAfter, if_pos h1, if_pos h2]
      exact ab_iret ckP_stateAfter rfl rfl ⟨(congrArg (fun q : Int32 => some (Value.int q)) e).symm, rfl⟩
  by_cases h3 : (c.1 0 8) = (2 : Int32)
  · refine ab_tswI (tgt := 55) (off := 51) ckP_stateAfter rfl h3 (by decide) (by decide) rfl (by decide) ?_
    refine ab_go 1 [] (pc' := 56) (lo' := [some (.ref 19), some (.int x1), some (.int x2)]) (st' := [.int x1]) (h' := cs_H c rest) ckP_stateAfter rfl ?_
    refine ab_callS (bc2 := 0) (bs2 := 0) (as := [_]) (rest := []) ckP_stateAfter rfl (by decide +kernel) wP_afterReady (tP_afterReady (d := d) (x1 := x1)) (by omega) ⟨Nat.le_refl _, Nat.le_refl _⟩ (Nat.le_of_ble_eq_true rfl) ?_
    rintro _ _ ⟨rfl, rfl⟩
    have e : fP_stateAfter c x1 x2 = (fP_afterReady x1) := by simp only [fP_stateAfter, if_neg h1, if_pos h3]
    exact ab_iret ckP_stateAfter rfl rfl ⟨(congrArg (fun q : Int32 => some (Value.int q)) e).symm, rfl⟩
  by_cases h4 : (c.1 0 8) = (3 : Int32)
  · refine ab_tswI (tgt := 60) (off := 56) ckP_stateAfter rfl h4 (by decide) (by decide) rfl (by decide) ?_
    refine ab_go 1 [] (pc' := 61) (lo' := [some (.ref 19), some (.int x1), some (.int x2)]) (st' := [.int x1]) (h' := cs_H c rest) ckP_stateAfter rfl ?_
    refine ab_callS (bc2 := 0) (bs2 := 0) (as := [_]) (rest := []) ckP_stateAfter rfl (by decide +kernel) wP_afterSwitchedOn (tP_afterSwitchedOn (d := d) (x1 := x1)) (by omega) ⟨Nat.le_refl _, Nat.le_refl _⟩ (Nat.le_of_ble_eq_true rfl) ?_
    rintro _ _ ⟨rfl, rfl⟩
    have e : fP_stateAfter c x1 x2 = (fP_afterSwitchedOn x1) := by simp only [fP_stateAfter, if_neg h1, if_neg h3, if_pos h4]
    exact ab_iret ckP_stateAfter rfl rfl ⟨(congrArg (fun q : Int32 => some (Value.int q)) e).symm, rfl⟩
  by_cases h5 : (c.1 0 8) = (4 : Int32)
  · refine ab_tswI (tgt := 65) (off := 61) ckP_stateAfter rfl h5 (by decide) (by decide) rfl (by decide) ?_
    refine ab_go 1 [] (pc' := 66) (lo' := [some (.ref 19), some (.int x1), some (.int x2)]) (st' := [.int x1]) (h' := cs_H c rest) ckP_stateAfter rfl ?_
    refine ab_callS (bc2 := 0) (bs2 := 0) (as := [_]) (rest := []) ckP_stateAfter rfl (by decide +kernel) wP_afterEnabled (tP_afterEnabled (d := d) (x1 := x1)) (by omega) ⟨Nat.le_refl _, Nat.le_refl _⟩ (Nat.le_of_ble_eq_true rfl) ?_
    rintro _ _ ⟨rfl, rfl⟩
    have e : fP_stateAfter c x1 x2 = (fP_afterEnabled x1) := by simp only [fP_stateAfter, if_neg h1, if_neg h3, if_neg h4, if_pos h5]
    exact ab_iret ckP_stateAfter rfl rfl ⟨(congrArg (fun q : Int32 => some (Value.int q)) e).symm, rfl⟩
  by_cases h6 : (c.1 0 8) = (5 : Int32)
  · refine ab_tswI (tgt := 70) (off := 66) ckP_stateAfter rfl h6 (by decide) (by decide) rfl (by decide) ?_
    refine ab_go 2 [] (pc' := 72) (lo' := [some (.ref 19), some (.int x1), some (.int x2)]) (st' := [.int (2 : Int32), .int x1]) (h' := cs_H c rest) ckP_stateAfter rfl ?_
    refine ab_icmp_eq ckP_stateAfter rfl (fun (h7 : x1 = (2 : Int32)) => ?_) (fun (h7 : ¬ (x1 = (2 : Int32))) => ?_)
    · refine ab_go 2 [] (pc' := 84) (lo' := [some (.ref 19), some (.int x1), some (.int x2)]) (st' := [.int (1 : Int32)]) (h' := cs_H c rest) ckP_stateAfter rfl ?_
      have e : fP_stateAfter c x1 x2 = (1 : Int32) := by simp only [fP_stateAfter, if_neg h1, if_neg h3, if_neg h4, if_neg h5, if_pos h6, if_pos h7]
      exact ab_iret ckP_stateAfter rfl rfl ⟨(congrArg (fun q : Int32 => some (Value.int q)) e).symm, rfl⟩
    · refine ab_go 1 [] (pc' := 76) (lo' := [some (.ref 19), some (.int x1), some (.int x2)]) (st' := [.int x2]) (h' := cs_H c rest) ckP_stateAfter rfl ?_
      refine ab_if_eq ckP_stateAfter rfl (fun (h8 : x2 = 0) => ?_) (fun (h8 : ¬ (x2 = 0)) => ?_)
      · refine ab_go 1 [] (pc' := 84) (lo' := [some (.ref 19), some (.int x1), some (.int x2)]) (st' := [.int (5 : Int32)]) (h' := cs_H c rest) ckP_stateAfter rfl ?_
        have e : fP_stateAfter c x1 x2 = (5 : Int32) := by simp only [fP_stateAfter, if_neg h1, if_neg h3, if_neg h4, if_neg h5, if_pos h6, if_neg h7, if_pos h8]
        exact ab_iret ckP_stateAfter rfl rfl ⟨(congrArg (fun q : Int32 => some (Value.int q)) e).symm, rfl⟩
      · refine ab_go 2 [] (pc' := 84) (lo' := [some (.ref 19), some (.int x1), some (.int x2)]) (st' := [.int (1 : Int32)]) (h' := cs_H c rest) ckP_stateAfter rfl ?_
        have e : fP_stateAfter c x1 x2 = (1 : Int32) := by simp only [fP_stateAfter, if_neg h1, if_neg h3, if_neg h4, if_neg h5, if_pos h6, if_neg h7, if_neg h8]
        exact ab_iret ckP_stateAfter rfl rfl ⟨(congrArg (fun q : Int32 => some (Value.int q)) e).symm, rfl⟩
  by_cases h9 : (c.1 0 8) = (6 : Int32)
  · refine ab_tswI (tgt := 85) (off := 81) ckP_stateAfter rfl h9 (by decide) (by decide) rfl (by decide) ?_
    refine ab_go 1 [] (pc' := 86) (lo' := [some (.ref 19), some (.int x1), some (.int x2)]) (st' := [.int x2]) (h' := cs_H c rest) ckP_stateAfter rfl ?_
    refine ab_if_eq ckP_stateAfter rfl (fun (h10 : x2 = 0) => ?_) (fun (h10 : ¬ (x2 = 0)) => ?_)
    · refine ab_go 1 [] (pc' := 96) (lo' := [some (.ref 19), some (.int x1), some (.int x2)]) (st' := [.int (6 : Int32)]) (h' := cs_H c rest) ckP_stateAfter rfl ?_
      have e : fP_stateAfter c x1 x2 = (6 : Int32) := by simp only [fP_stateAfter, if_neg h1, if_neg h3, if_neg h4, if_neg h5, if_neg h6, if_pos h9, if_pos h10]
      exact ab_iret ckP_stateAfter rfl rfl ⟨(congrArg (fun q : Int32 => some (Value.int q)) e).symm, rfl⟩
    · refine ab_go 2 [] (pc' := 96) (lo' := [some (.ref 19), some (.int x1), some (.int x2)]) (st' := [.int (7 : Int32)]) (h' := cs_H c rest) ckP_stateAfter rfl ?_
      have e : fP_stateAfter c x1 x2 = (7 : Int32) := by simp only [fP_stateAfter, if_neg h1, if_neg h3, if_neg h4, if_neg h5, if_neg h6, if_pos h9, if_neg h10]
      exact ab_iret ckP_stateAfter rfl rfl ⟨(congrArg (fun q : Int32 => some (Value.int q)) e).symm, rfl⟩
  refine ab_tswO (tgt := 97) ckP_stateAfter rfl (by have a0 := lv_neT h1 (show (1 : Int32).toInt = 1 by decide); have a1 := lv_neT h3 (show (2 : Int32).toInt = 2 by decide); have a2 := lv_neT h4 (show (3 : Int32).toInt = 3 by decide); have a3 := lv_neT h5 (show (4 : Int32).toInt = 4 by decide); have a4 := lv_neT h6 (show (5 : Int32).toInt = 5 by decide); have a5 := lv_neT h9 (show (6 : Int32).toInt = 6 by decide); omega) (by decide) ?_
  refine ab_go 2 [] (pc' := 99) (lo' := [some (.ref 19), some (.int x1), some (.int x2)]) (st' := [.int (1 : Int32), .int x1]) (h' := cs_H c rest) ckP_stateAfter rfl ?_
  refine ab_icmp_ne ckP_stateAfter rfl (fun (h11 : ¬ (x1 = (1 : Int32))) => ?_) (fun (h11 : x1 = (1 : Int32)) => ?_)
  · refine ab_go 1 [] (pc' := 108) (lo' := [some (.ref 19), some (.int x1), some (.int x2)]) (st' := [.int (7 : Int32)]) (h' := cs_H c rest) ckP_stateAfter rfl ?_
    have e : fP_stateAfter c x1 x2 = (7 : Int32) := by simp only [fP_stateAfter, if_neg h1, if_neg h3, if_neg h4, if_neg h5, if_neg h6, if_neg h9, if_neg h11]
    exact ab_iret ckP_stateAfter rfl rfl ⟨(congrArg (fun q : Int32 => some (Value.int q)) e).symm, rfl⟩
  · refine ab_go 2 [] (pc' := 108) (lo' := [some (.ref 19), some (.int x1), some (.int x2)]) (st' := [.int (1 : Int32)]) (h' := cs_H c rest) ckP_stateAfter rfl ?_
    have e : fP_stateAfter c x1 x2 = (1 : Int32) := by simp only [fP_stateAfter, if_neg h1, if_neg h3, if_neg h4, if_neg h5, if_neg h6, if_neg h9, if_pos h11]
    exact ab_iret ckP_stateAfter rfl rfl ⟨(congrArg (fun q : Int32 => some (Value.int q)) e).symm, rfl⟩
def fP_obey (c : cs_S) (x1 : Int32) (x2 : Int32) : Int32 × cs_S := (if (c.1 0 8) = (7 : Int32) then (if (fP_stateAfter c x1 x2) = (7 : Int32) then ((0 : Int32), (cs_u c 0 8 (fP_stateAfter c x1 x2))) else ((1 : Int32), (cs_u c 0 8 (fP_stateAfter c x1 x2)))) else ((0 : Int32), (cs_u c 0 8 (fP_stateAfter c x1 x2))))
theorem tP_obey {x1 : Int32} {x2 : Int32} : ab_M X mP_obey (d + 2) 0 0 [.ref 19, .int x1, .int x2] (cs_H c rest) (fun r9 h9 => r9 = some (Value.int (fP_obey c x1 x2).1) ∧ h9 = cs_H (fP_obey c x1 x2).2 rest) := by
  refine ab_entry (by decide) (Nat.le_of_ble_eq_true rfl) ?_
  refine ab_go 3 [] (pc' := 6) (lo' := [some (.ref 19), some (.int x1), some (.int x2), none]) (st' := [.int (7 : Int32), .int (c.1 0 8)]) (h' := cs_H c rest) ckP_obey rfl ?_
  refine ab_icmp_ne ckP_obey rfl (fun (h1 : ¬ ((c.1 0 8) = (7 : Int32))) => ?_) (fun (h1 : (c.1 0 8) = (7 : Int32)) => ?_)
  · refine ab_go 6 [] (pc' := 19) (lo' := [some (.ref 19), some (.int x1), some (.int x2), some (.int (0 : Int32))]) (st' := [.int x2, .int x1, .ref 19, .ref 19]) (h' := cs_H c rest) ckP_obey rfl ?_
    refine ab_callV (bc2 := 0) (bs2 := 0) (as := [_, _]) (rest := [_]) ckP_obey rfl (by decide +kernel) wP_stateAfter (tP_stateAfter (d := d) (x1 := x1) (x2 := x2) (c := c)) rfl rfl (by omega) ⟨Nat.le_refl _, Nat.le_refl _⟩ (Nat.le_of_ble_eq_true rfl) ?_
    rintro _ _ ⟨rfl, rfl⟩
    refine ab_go 2 [] (pc' := 26) (lo' := [some (.ref 19), some (.int x1), some (.int x2), some (.int (0 : Int32))]) (st' := [.int (0 : Int32)]) (h' := cs_H (cs_u c 0 8 (fP_stateAfter c x1 x2)) rest) ckP_obey rfl ?_
    refine ab_if_eq ckP_obey rfl (fun _ => ?_) (fun hh => absurd hh (by decide))
    refine ab_go 1 [] (pc' := 43) (lo' := [some (.ref 19), some (.int x1), some (.int x2), some (.int (0 : Int32))]) (st' := [.int (0 : Int32)]) (h' := cs_H (cs_u c 0 8 (fP_stateAfter c x1 x2)) rest) ckP_obey rfl ?_
    have e : fP_obey c x1 x2 = ((0 : Int32), (cs_u c 0 8 (fP_stateAfter c x1 x2))) := by simp only [fP_obey, if_neg h1]
    exact ab_zret ckP_obey rfl rfl (Or.inl rfl) ⟨(congrArg (fun q : Int32 × cs_S => some (Value.int q.1)) e).symm, (congrArg (fun q : Int32 × cs_S => cs_H q.2 rest) e).symm⟩
  · refine ab_go 7 [] (pc' := 19) (lo' := [some (.ref 19), some (.int x1), some (.int x2), some (.int (1 : Int32))]) (st' := [.int x2, .int x1, .ref 19, .ref 19]) (h' := cs_H c rest) ckP_obey rfl ?_
    refine ab_callV (bc2 := 0) (bs2 := 0) (as := [_, _]) (rest := [_]) ckP_obey rfl (by decide +kernel) wP_stateAfter (tP_stateAfter (d := d) (x1 := x1) (x2 := x2) (c := c)) rfl rfl (by omega) ⟨Nat.le_refl _, Nat.le_refl _⟩ (Nat.le_of_ble_eq_true rfl) ?_
    rintro _ _ ⟨rfl, rfl⟩
    refine ab_go 2 [] (pc' := 26) (lo' := [some (.ref 19), some (.int x1), some (.int x2), some (.int (1 : Int32))]) (st' := [.int (1 : Int32)]) (h' := cs_H (cs_u c 0 8 (fP_stateAfter c x1 x2)) rest) ckP_obey rfl ?_
    refine ab_if_eq ckP_obey rfl (fun hh => absurd hh (by decide)) (fun _ => ?_)
    refine ab_go 3 [] (pc' := 35) (lo' := [some (.ref 19), some (.int x1), some (.int x2), some (.int (1 : Int32))]) (st' := [.int (7 : Int32), .int (fP_stateAfter c x1 x2)]) (h' := cs_H (cs_u c 0 8 (fP_stateAfter c x1 x2)) rest) ckP_obey rfl ?_
    refine ab_icmp_eq ckP_obey rfl (fun (h2 : (fP_stateAfter c x1 x2) = (7 : Int32)) => ?_) (fun (h2 : ¬ ((fP_stateAfter c x1 x2) = (7 : Int32))) => ?_)
    · refine ab_go 1 [] (pc' := 43) (lo' := [some (.ref 19), some (.int x1), some (.int x2), some (.int (1 : Int32))]) (st' := [.int (0 : Int32)]) (h' := cs_H (cs_u c 0 8 (fP_stateAfter c x1 x2)) rest) ckP_obey rfl ?_
      have e : fP_obey c x1 x2 = ((0 : Int32), (cs_u c 0 8 (fP_stateAfter c x1 x2))) := by simp only [fP_obey, if_pos h1, if_pos h2]
      exact ab_zret ckP_obey rfl rfl (Or.inl rfl) ⟨(congrArg (fun q : Int32 × cs_S => some (Value.int q.1)) e).symm, (congrArg (fun q : Int32 × cs_S => cs_H q.2 rest) e).symm⟩
    · refine ab_go 2 [] (pc' := 43) (lo' := [some (.ref 19), some (.int x1), some (.int x2), some (.int (1 : Int32))]) (st' := [.int (1 : Int32)]) (h' := cs_H (cs_u c 0 8 (fP_stateAfter c x1 x2)) rest) ckP_obey rfl ?_
      have e : fP_obey c x1 x2 = ((1 : Int32), (cs_u c 0 8 (fP_stateAfter c x1 x2))) := by simp only [fP_obey, if_pos h1, if_neg h2]
      exact ab_zret ckP_obey rfl rfl (Or.inr rfl) ⟨(congrArg (fun q : Int32 × cs_S => some (Value.int q.1)) e).symm, (congrArg (fun q : Int32 × cs_S => cs_H q.2 rest) e).symm⟩
def fH_arm (c : cs_S)  : cs_S := (cs_u (cs_u c 0 11 (1 : Int32)) 0 12 (0 : Int32))
theorem tH_arm : ab_M X mH_arm (d) 0 0 [.ref 21] (cs_H c rest) (fun r9 h9 => r9 = none ∧ h9 = cs_H (fH_arm c) rest) := by
  refine ab_entry (by decide) (Nat.le_of_ble_eq_true rfl) ?_
  refine ab_go 6 [] (pc' := 10) (lo' := [some (.ref 21)]) (st' := []) (h' := cs_H (cs_u (cs_u c 0 11 (1 : Int32)) 0 12 (0 : Int32)) rest) ckH_arm rfl ?_
  have e : fH_arm c = (cs_u (cs_u c 0 11 (1 : Int32)) 0 12 (0 : Int32)) := by simp only [fH_arm]
  exact ab_vret ckH_arm rfl rfl ⟨rfl, (congrArg (fun q : cs_S => cs_H q rest) e).symm⟩
def fH_disarm (c : cs_S)  : cs_S := (cs_u c 0 11 (0 : Int32))
theorem tH_disarm : ab_M X mH_disarm (d) 0 0 [.ref 21] (cs_H c rest) (fun r9 h9 => r9 = none ∧ h9 = cs_H (fH_disarm c) rest) := by
  refine ab_entry (by decide) (Nat.le_of_ble_eq_true rfl) ?_
  refine ab_go 3 [] (pc' := 5) (lo' := [some (.ref 21)]) (st' := []) (h' := cs_H (cs_u c 0 11 (0 : Int32)) rest) ckH_disarm rfl ?_
  have e : fH_disarm c = (cs_u c 0 11 (0 : Int32)) := by simp only [fH_disarm]
  exact ab_vret ckH_disarm rfl rfl ⟨rfl, (congrArg (fun q : cs_S => cs_H q rest) e).symm⟩
def fH_runsOut (c : cs_S) (x1 : Int32) : Int32 × cs_S := (if (c.1 0 11) = 0 then ((0 : Int32), c) else (if x1 ≤ ((c.1 0 12) + (1 : Int32)) then (let p1 := fH_disarm (cs_u c 0 12 ((c.1 0 12) + (1 : Int32))); ((1 : Int32), p1)) else ((0 : Int32), (cs_u c 0 12 ((c.1 0 12) + (1 : Int32))))))
theorem tH_runsOut {x1 : Int32} : ab_M X mH_runsOut (d + 1) 0 0 [.ref 21, .int x1] (cs_H c rest) (fun r9 h9 => r9 = some (Value.int (fH_runsOut c x1).1) ∧ h9 = cs_H (fH_runsOut c x1).2 rest) := by
  refine ab_entry (by decide) (Nat.le_of_ble_eq_true rfl) ?_
  refine ab_go 2 [] (pc' := 4) (lo' := [some (.ref 21), some (.int x1)]) (st' := [.int (c.1 0 11)]) (h' := cs_H c rest) ckH_runsOut rfl ?_
  refine ab_if_ne ckH_runsOut rfl (fun (h1 : ¬ ((c.1 0 11) = 0)) => ?_) (fun (h1 : (c.1 0 11) = 0) => ?_)
  · refine ab_go 9 [] (pc' := 24) (lo' := [some (.ref 21), some (.int x1)]) (st' := [.int x1, .int ((c.1 0 12) + (1 : Int32))]) (h' := cs_H (cs_u c 0 12 ((c.1 0 12) + (1 : Int32))) rest) ckH_runsOut rfl ?_
    refine ab_icmp_ge ckH_runsOut rfl (fun (h2 : x1 ≤ ((c.1 0 12) + (1 : Int32))) => ?_) (fun (h2 : ¬ (x1 ≤ ((c.1 0 12) + (1 : Int32)))) => ?_)
    · refine ab_go 1 [] (pc' := 30) (lo' := [some (.ref 21), some (.int x1)]) (st' := [.ref 21]) (h' := cs_H (cs_u c 0 12 ((c.1 0 12) + (1 : Int32))) rest) ckH_runsOut rfl ?_
      refine ab_callV (bc2 := 0) (bs2 := 0) (as := []) (rest := []) ckH_runsOut rfl (by decide +kernel) wH_disarm (tH_disarm (d := d) (c := (cs_u c 0 12 ((c.1 0 12) + (1 : Int32))))) rfl rfl (by omega) ⟨Nat.le_refl _, Nat.le_refl _⟩ (Nat.le_of_ble_eq_true rfl) ?_
      rintro _ _ ⟨rfl, rfl⟩
      generalize e1 : fH_disarm (cs_u c 0 12 ((c.1 0 12) + (1 : Int32))) = p1
      refine ab_go 1 [] (pc' := 34) (lo' := [some (.ref 21), some (.int x1)]) (st' := [.int (1 : Int32)]) (h' := cs_H p1 rest) ckH_runsOut rfl ?_
      have e : fH_runsOut c x1 = ((1 : Int32), p1) := by simp only [fH_runsOut, if_neg h1, if_pos h2, e1]
      exact ab_zret ckH_runsOut rfl rfl (Or.inr rfl) ⟨(congrArg (fun q : Int32 × cs_S => some (Value.int q.1)) e).symm, (congrArg (fun q : Int32 × cs_S => cs_H q.2 rest) e).symm⟩
    · refine ab_go 1 [] (pc' := 28) (lo' := [some (.ref 21), some (.int x1)]) (st' := [.int (0 : Int32)]) (h' := cs_H (cs_u c 0 12 ((c.1 0 12) + (1 : Int32))) rest) ckH_runsOut rfl ?_
      have e : fH_runsOut c x1 = ((0 : Int32), (cs_u c 0 12 ((c.1 0 12) + (1 : Int32)))) := by simp only [fH_runsOut, if_neg h1, if_neg h2]
      exact ab_zret ckH_runsOut rfl rfl (Or.inl rfl) ⟨(congrArg (fun q : Int32 × cs_S => some (Value.int q.1)) e).symm, (congrArg (fun q : Int32 × cs_S => cs_H q.2 rest) e).symm⟩
  · refine ab_go 1 [] (pc' := 8) (lo' := [some (.ref 21), some (.int x1)]) (st' := [.int (0 : Int32)]) (h' := cs_H c rest) ckH_runsOut rfl ?_
    have e : fH_runsOut c x1 = ((0 : Int32), c) := by simp only [fH_runsOut, if_pos h1]
    exact ab_zret ckH_runsOut rfl rfl (Or.inl rfl) ⟨(congrArg (fun q : Int32 × cs_S => some (Value.int q.1)) e).symm, (congrArg (fun q : Int32 × cs_S => cs_H q.2 rest) e).symm⟩
def fC_find_33 : Nat → Int32 → Int32 → Option (Int32)
  | 0, _, _ => none
  | n + 1, y2, y3 => (if (30 : Int32) ≤ y3 then (some (-1 : Int32)) else (if ab_inb (y3 * (6 : Int32)) 180 = true then (if (tabF ((y3 * (6 : Int32))).toNatClampNeg) = y2 then (some y3) else fC_find_33 n y2 (y3 + (1 : Int32))) else none))
def fC_find (x1 : Int32) (x2 : Int32) : Option (Int32) := (if x1 < 0 then (some (-1 : Int32)) else (if (65535 : Int32) < x1 then (some (-1 : Int32)) else (if x2 < 0 then (some (-1 : Int32)) else (if x2 ≤ (255 : Int32) then fC_find_33 40 ((x1 * (256 : Int32)) + x2) (0 : Int32) else (some (-1 : Int32))))))
theorem tC_find_33 (hX : cs_X X) (n : Nat)   : ∀  (y2 : Int32) (y3 : Int32)  (v : Int32) (hv : fC_find_33 n y2 y3 = some v), ab_W X mC_find (d) 0 0 33 [none, none, some (.int y2), some (.int y3)] [] (hp) (fun r9 h9 => r9 = some (Value.int v) ∧ h9 = hp) := by
  induction n with
  | zero =>
    intro y2 y3 v hv
    cases hv
  | succ n ih =>
    intro y2 y3 v hv
    refine ab_go 2 [33] (pc' := 36) (lo' := [none, none, some (.int y2), some (.int y3)]) (st' := [.int (30 : Int32), .int y3]) (h' := hp) ckC_find rfl ?_
    refine ab_icmp_ge ckC_find rfl (fun (h1 : (30 : Int32) ≤ y3) => ?_) (fun (h1 : ¬ ((30 : Int32) ≤ y3)) => ?_)
    · refine ab_go 1 [33] (pc' := 60) (lo' := [none, none, some (.int y2), some (.int y3)]) (st' := [.int (-1 : Int32)]) (h' := hp) ckC_find rfl ?_
      have e : fC_find_33 (n + 1) y2 y3 = some (-1 : Int32) := by simp only [fC_find_33, if_pos h1]
      obtain rfl := Option.some.inj (e.symm.trans hv)
      exact ab_iret ckC_find rfl rfl ⟨rfl, rfl⟩
    · refine ab_go 4 [33] (pc' := 46) (lo' := [none, none, some (.int y2), some (.int y3)]) (st' := [.int (y3 * (6 : Int32)), .ref 0]) (h' := hp) ckC_find rfl ?_
      by_cases h2 : ab_inb (y3 * (6 : Int32)) 180 = true
      case neg => exact ab_no hv (by simp only [fC_find_33, if_neg h1, if_neg h2])
      refine ab_tald ckC_find rfl (by decide) hX.1 (ab_inb_ok h2) ?_
      refine ab_go 1 [33] (pc' := 48) (lo' := [none, none, some (.int y2), some (.int y3)]) (st' := [.int y2, .int (tabF ((y3 * (6 : Int32))).toNatClampNeg)]) (h' := hp) ckC_find rfl ?_
      refine ab_icmp_ne ckC_find rfl (fun (h3 : ¬ ((tabF ((y3 * (6 : Int32))).toNatClampNeg) = y2)) => ?_) (fun (h3 : (tabF ((y3 * (6 : Int32))).toNatClampNeg) = y2) => ?_)
      · refine ab_go 2 [33] (pc' := 33) (lo' := [none, none, some (.int y2), some (.int (y3 + (1 : Int32)))]) (st' := []) (h' := hp) ckC_find rfl ?_
        have e : fC_find_33 (n + 1) y2 y3 = fC_find_33 n y2 (y3 + (1 : Int32)) := by simp only [fC_find_33, if_neg h1, if_pos h2, if_neg h3]
        exact ab_W.weak (ih y2 (y3 + (1 : Int32)) v (e.symm.trans hv)) ⟨rfl, rfl, trivial⟩
      · refine ab_go 1 [33] (pc' := 52) (lo' := [none, none, some (.int y2), some (.int y3)]) (st' := [.int y3]) (h' := hp) ckC_find rfl ?_
        have e : fC_find_33 (n + 1) y2 y3 = some y3 := by simp only [fC_find_33, if_neg h1, if_pos h2, if_pos h3]
        obtain rfl := Option.some.inj (e.symm.trans hv)
        exact ab_iret ckC_find rfl rfl ⟨rfl, rfl⟩
theorem tC_find {x1 : Int32} {x2 : Int32} (hX : cs_X X) {v : Int32} (hv : fC_find x1 x2 = some v) : ab_M X mC_find (d) 0 0 [.int x1, .int x2] (hp) (fun r9 h9 => r9 = some (Value.int v) ∧ h9 = hp) := by
  refine ab_entry (by decide) (Nat.le_of_ble_eq_true rfl) ?_
  refine ab_go 1 [33] (pc' := 1) (lo' := [some (.int x1), some (.int x2), none, none]) (st' := [.int x1]) (h' := hp) ckC_find rfl ?_
  refine ab_if_lt ckC_find rfl (fun (h1 : x1 < 0) => ?_) (fun (h1 : ¬ (x1 < 0)) => ?_)
  · refine ab_go 1 [33] (pc' := 22) (lo' := [some (.int x1), some (.int x2), none, none]) (st' := [.int (-1 : Int32)]) (h' := hp) ckC_find rfl ?_
    have e : fC_find x1 x2 = some (-1 : Int32) := by simp only [fC_find, if_pos h1]
    obtain rfl := Option.some.inj (e.symm.trans hv)
    exact ab_iret ckC_find rfl rfl ⟨rfl, rfl⟩
  · refine ab_go 2 [33] (pc' := 7) (lo' := [some (.int x1), some (.int x2), none, none]) (st' := [.int (65535 : Int32), .int x1]) (h' := hp) ckC_find rfl ?_
    refine ab_icmp_gt ckC_find rfl (fun (h2 : (65535 : Int32) < x1) => ?_) (fun (h2 : ¬ ((65535 : Int32) < x1)) => ?_)
    · refine ab_go 1 [33] (pc' := 22) (lo' := [some (.int x1), some (.int x2), none, none]) (st' := [.int (-1 : Int32)]) (h' := hp) ckC_find rfl ?_
      have e : fC_find x1 x2 = some (-1 : Int32) := by simp only [fC_find, if_neg h1, if_pos h2]
      obtain rfl := Option.some.inj (e.symm.trans hv)
      exact ab_iret ckC_find rfl rfl ⟨rfl, rfl⟩
    · refine ab_go 1 [33] (pc' := 11) (lo' := [some (.int x1), some (.int x2), none, none]) (st' := [.int x2]) (h' := hp) ckC_find rfl ?_
      refine ab_if_lt ckC_find rfl (fun (h3 : x2 < 0) => ?_) (fun (h3 : ¬ (x2 < 0)) => ?_)
      · refine ab_go 1 [33] (pc' := 22) (lo' := [some (.int x1), some (.int x2), none, none]) (st' := [.int (-1 : Int32)]) (h' := hp) ckC_find rfl ?_
        have e : fC_find x1 x2 = some (-1 : Int32) := by simp only [fC_find, if_neg h1, if_neg h2, if_pos h3]
        obtain rfl := Option.some.inj (e.symm.trans hv)
        exact ab_iret ckC_find rfl rfl ⟨rfl, rfl⟩
      · refine ab_go 2 [33] (pc' := 18) (lo' := [some (.int x1), some (.int x2), none, none]) (st' := [.int (255 : Int32), .int x2]) (h' := hp) ckC_find rfl ?_
        refine ab_icmp_le ckC_find rfl (fun (h4 : x2 ≤ (255 : Int32)) => ?_) (fun (h4 : ¬ (x2 ≤ (255 : Int32))) => ?_)
        · refine ab_go 8 [33] (pc' := 33) (lo' := [some (.int x1), some (.int x2), some (.int ((x1 * (256 : Int32)) + x2)), some (.int (0 : Int32))]) (st' := []) (h' := hp) ckC_find rfl ?_
          have e : fC_find x1 x2 = fC_find_33 40 ((x1 * (256 : Int32)) + x2) (0 : Int32) := by simp only [fC_find, if_neg h1, if_neg h2, if_neg h3, if_pos h4]
          exact ab_W.weak (tC_find_33 hX 40 ((x1 * (256 : Int32)) + x2) (0 : Int32) v (e.symm.trans hv)) ⟨rfl, rfl, trivial⟩
        · refine ab_go 1 [33] (pc' := 22) (lo' := [some (.int x1), some (.int x2), none, none]) (st' := [.int (-1 : Int32)]) (h' := hp) ckC_find rfl ?_
          have e : fC_find x1 x2 = some (-1 : Int32) := by simp only [fC_find, if_neg h1, if_neg h2, if_neg h3, if_neg h4]
          obtain rfl := Option.some.inj (e.symm.trans hv)
          exact ab_iret ckC_find rfl rfl ⟨rfl, rfl⟩
def fC_hasIndex_2 : Nat → Int32 → Int32 → Option (Int32)
  | 0, _, _ => none
  | n + 1, y0, y1 => (if (30 : Int32) ≤ y1 then (some (0 : Int32)) else (if ab_inb (y1 * (6 : Int32)) 180 = true then (if ((tabF ((y1 * (6 : Int32))).toNatClampNeg) >>> ((8 : Int32) &&& 31)) = y0 then (some (1 : Int32)) else fC_hasIndex_2 n y0 (y1 + (1 : Int32))) else none))
def fC_hasIndex (x1 : Int32) : Option (Int32) := fC_hasIndex_2 40 x1 (0 : Int32)
theorem tC_hasIndex_2 (hX : cs_X X) (n : Nat)   : ∀  (y0 : Int32) (y1 : Int32)  (v : Int32) (hv : fC_hasIndex_2 n y0 y1 = some v), ab_W X mC_hasIndex (d) 0 0 2 [some (.int y0), some (.int y1)] [] (hp) (fun r9 h9 => r9 = some (Value.int v) ∧ h9 = hp) := by
  induction n with
  | zero =>
    intro y0 y1 v hv
    cases hv
  | succ n ih =>
    intro y0 y1 v hv
    refine ab_go 2 [2] (pc' := 5) (lo' := [some (.int y0), some (.int y1)]) (st' := [.int (30 : Int32), .int y1]) (h' := hp) ckC_hasIndex rfl ?_
    refine ab_icmp_ge ckC_hasIndex rfl (fun (h1 : (30 : Int32) ≤ y1) => ?_) (fun (h1 : ¬ ((30 : Int32) ≤ y1)) => ?_)
    · refine ab_go 1 [2] (pc' := 32) (lo' := [some (.int y0), some (.int y1)]) (st' := [.int (0 : Int32)]) (h' := hp) ckC_hasIndex rfl ?_
      have e : fC_hasIndex_2 (n + 1) y0 y1 = some (0 : Int32) := by simp only [fC_hasIndex_2, if_pos h1]
      obtain rfl := Option.some.inj (e.symm.trans hv)
      exact ab_zret ckC_hasIndex rfl rfl (Or.inl rfl) ⟨rfl, rfl⟩
    · refine ab_go 4 [2] (pc' := 15) (lo' := [some (.int y0), some (.int y1)]) (st' := [.int (y1 * (6 : Int32)), .ref 0]) (h' := hp) ckC_hasIndex rfl ?_
      by_cases h2 : ab_inb (y1 * (6 : Int32)) 180 = true
      case neg => exact ab_no hv (by simp only [fC_hasIndex_2, if_neg h1, if_neg h2])
      refine ab_tald ckC_hasIndex rfl (by decide) hX.1 (ab_inb_ok h2) ?_
      refine ab_go 3 [2] (pc' := 20) (lo' := [some (.int y0), some (.int y1)]) (st' := [.int y0, .int ((tabF ((y1 * (6 : Int32))).toNatClampNeg) >>> ((8 : Int32) &&& 31))]) (h' := hp) ckC_hasIndex rfl ?_
      refine ab_icmp_ne ckC_hasIndex rfl (fun (h3 : ¬ (((tabF ((y1 * (6 : Int32))).toNatClampNeg) >>> ((8 : Int32) &&& 31)) = y0)) => ?_) (fun (h3 : ((tabF ((y1 * (6 : Int32))).toNatClampNeg) >>> ((8 : Int32) &&& 31)) = y0) => ?_)
      · refine ab_go 2 [2] (pc' := 2) (lo' := [some (.int y0), some (.int (y1 + (1 : Int32)))]) (st' := []) (h' := hp) ckC_hasIndex rfl ?_
        have e : fC_hasIndex_2 (n + 1) y0 y1 = fC_hasIndex_2 n y0 (y1 + (1 : Int32)) := by simp only [fC_hasIndex_2, if_neg h1, if_pos h2, if_neg h3]
        exact ab_W.weak (ih y0 (y1 + (1 : Int32)) v (e.symm.trans hv)) ⟨rfl, rfl, trivial⟩
      · refine ab_go 1 [2] (pc' := 24) (lo' := [some (.int y0), some (.int y1)]) (st' := [.int (1 : Int32)]) (h' := hp) ckC_hasIndex rfl ?_
        have e : fC_hasIndex_2 (n + 1) y0 y1 = some (1 : Int32) := by simp only [fC_hasIndex_2, if_neg h1, if_pos h2, if_pos h3]
        obtain rfl := Option.some.inj (e.symm.trans hv)
        exact ab_zret ckC_hasIndex rfl rfl (Or.inr rfl) ⟨rfl, rfl⟩
theorem tC_hasIndex {x1 : Int32} (hX : cs_X X) {v : Int32} (hv : fC_hasIndex x1 = some v) : ab_M X mC_hasIndex (d) 0 0 [.int x1] (hp) (fun r9 h9 => r9 = some (Value.int v) ∧ h9 = hp) := by
  refine ab_entry (by decide) (Nat.le_of_ble_eq_true rfl) ?_
  refine ab_go 2 [2] (pc' := 2) (lo' := [some (.int x1), some (.int (0 : Int32))]) (st' := []) (h' := hp) ckC_hasIndex rfl ?_
  have e : fC_hasIndex x1 = fC_hasIndex_2 40 x1 (0 : Int32) := by simp only [fC_hasIndex]
  exact ab_W.weak (tC_hasIndex_2 hX 40 x1 (0 : Int32) v (e.symm.trans hv)) ⟨rfl, rfl, trivial⟩
def fC_bytes (x1 : Int32) : Option (Int32) := (if ab_inb ((x1 * (6 : Int32)) + (1 : Int32)) 180 = true then (some (tabF (((x1 * (6 : Int32)) + (1 : Int32))).toNatClampNeg)) else none)
theorem tC_bytes {x1 : Int32} (hX : cs_X X) {v : Int32} (hv : fC_bytes x1 = some v) : ab_M X mC_bytes (d) 0 0 [.int x1] (hp) (fun r9 h9 => r9 = some (Value.int v) ∧ h9 = hp) := by
  refine ab_entry (by decide) (Nat.le_of_ble_eq_true rfl) ?_
  refine ab_go 6 [] (pc' := 9) (lo' := [some (.int x1)]) (st' := [.int ((x1 * (6 : Int32)) + (1 : Int32)), .ref 0]) (h' := hp) ckC_bytes rfl ?_
  by_cases h1 : ab_inb ((x1 * (6 : Int32)) + (1 : Int32)) 180 = true
  case neg => exact ab_no hv (by simp only [fC_bytes, if_neg h1])
  refine ab_tald ckC_bytes rfl (by decide) hX.1 (ab_inb_ok h1) ?_
  have e : fC_bytes x1 = some (tabF (((x1 * (6 : Int32)) + (1 : Int32))).toNatClampNeg) := by simp only [fC_bytes, if_pos h1]
  obtain rfl := Option.some.inj (e.symm.trans hv)
  exact ab_iret ckC_bytes rfl rfl ⟨rfl, rfl⟩
def fC_kind (x1 : Int32) : Option (Int32) := (if ab_inb ((x1 * (6 : Int32)) + (2 : Int32)) 180 = true then (some (tabF (((x1 * (6 : Int32)) + (2 : Int32))).toNatClampNeg)) else none)
theorem tC_kind {x1 : Int32} (hX : cs_X X) {v : Int32} (hv : fC_kind x1 = some v) : ab_M X mC_kind (d) 0 0 [.int x1] (hp) (fun r9 h9 => r9 = some (Value.int v) ∧ h9 = hp) := by
  refine ab_entry (by decide) (Nat.le_of_ble_eq_true rfl) ?_
  refine ab_go 6 [] (pc' := 9) (lo' := [some (.int x1)]) (st' := [.int ((x1 * (6 : Int32)) + (2 : Int32)), .ref 0]) (h' := hp) ckC_kind rfl ?_
  by_cases h1 : ab_inb ((x1 * (6 : Int32)) + (2 : Int32)) 180 = true
  case neg => exact ab_no hv (by simp only [fC_kind, if_neg h1])
  refine ab_tald ckC_kind rfl (by decide) hX.1 (ab_inb_ok h1) ?_
  have e : fC_kind x1 = some (tabF (((x1 * (6 : Int32)) + (2 : Int32))).toNatClampNeg) := by simp only [fC_kind, if_pos h1]
  obtain rfl := Option.some.inj (e.symm.trans hv)
  exact ab_iret ckC_kind rfl rfl ⟨rfl, rfl⟩
def fC_start (x1 : Int32) : Option (Int32) := (if ab_inb ((x1 * (6 : Int32)) + (3 : Int32)) 180 = true then (some (tabF (((x1 * (6 : Int32)) + (3 : Int32))).toNatClampNeg)) else none)
theorem tC_start {x1 : Int32} (hX : cs_X X) {v : Int32} (hv : fC_start x1 = some v) : ab_M X mC_start (d) 0 0 [.int x1] (hp) (fun r9 h9 => r9 = some (Value.int v) ∧ h9 = hp) := by
  refine ab_entry (by decide) (Nat.le_of_ble_eq_true rfl) ?_
  refine ab_go 6 [] (pc' := 9) (lo' := [some (.int x1)]) (st' := [.int ((x1 * (6 : Int32)) + (3 : Int32)), .ref 0]) (h' := hp) ckC_start rfl ?_
  by_cases h1 : ab_inb ((x1 * (6 : Int32)) + (3 : Int32)) 180 = true
  case neg => exact ab_no hv (by simp only [fC_start, if_neg h1])
  refine ab_tald ckC_start rfl (by decide) hX.1 (ab_inb_ok h1) ?_
  have e : fC_start x1 = some (tabF (((x1 * (6 : Int32)) + (3 : Int32))).toNatClampNeg) := by simp only [fC_start, if_pos h1]
  obtain rfl := Option.some.inj (e.symm.trans hv)
  exact ab_iret ckC_start rfl rfl ⟨rfl, rfl⟩
def fC_least (x1 : Int32) : Option (Int32) := (if ab_inb ((x1 * (6 : Int32)) + (4 : Int32)) 180 = true then (some (tabF (((x1 * (6 : Int32)) + (4 : Int32))).toNatClampNeg)) else none)
theorem tC_least {x1 : Int32} (hX : cs_X X) {v : Int32} (hv : fC_least x1 = some v) : ab_M X mC_least (d) 0 0 [.int x1] (hp) (fun r9 h9 => r9 = some (Value.int v) ∧ h9 = hp) := by
  refine ab_entry (by decide) (Nat.le_of_ble_eq_true rfl) ?_
  refine ab_go 6 [] (pc' := 9) (lo' := [some (.int x1)]) (st' := [.int ((x1 * (6 : Int32)) + (4 : Int32)), .ref 0]) (h' := hp) ckC_least rfl ?_
  by_cases h1 : ab_inb ((x1 * (6 : Int32)) + (4 : Int32)) 180 = true
  case neg => exact ab_no hv (by simp only [fC_least, if_neg h1])
  refine ab_tald ckC_least rfl (by decide) hX.1 (ab_inb_ok h1) ?_
  have e : fC_least x1 = some (tabF (((x1 * (6 : Int32)) + (4 : Int32))).toNatClampNeg) := by simp only [fC_least, if_pos h1]
  obtain rfl := Option.some.inj (e.symm.trans hv)
  exact ab_iret ckC_least rfl rfl ⟨rfl, rfl⟩
def fC_greatest (x1 : Int32) : Option (Int32) := (if ab_inb ((x1 * (6 : Int32)) + (5 : Int32)) 180 = true then (some (tabF (((x1 * (6 : Int32)) + (5 : Int32))).toNatClampNeg)) else none)
theorem tC_greatest {x1 : Int32} (hX : cs_X X) {v : Int32} (hv : fC_greatest x1 = some v) : ab_M X mC_greatest (d) 0 0 [.int x1] (hp) (fun r9 h9 => r9 = some (Value.int v) ∧ h9 = hp) := by
  refine ab_entry (by decide) (Nat.le_of_ble_eq_true rfl) ?_
  refine ab_go 6 [] (pc' := 9) (lo' := [some (.int x1)]) (st' := [.int ((x1 * (6 : Int32)) + (5 : Int32)), .ref 0]) (h' := hp) ckC_greatest rfl ?_
  by_cases h1 : ab_inb ((x1 * (6 : Int32)) + (5 : Int32)) 180 = true
  case neg => exact ab_no hv (by simp only [fC_greatest, if_neg h1])
  refine ab_tald ckC_greatest rfl (by decide) hX.1 (ab_inb_ok h1) ?_
  have e : fC_greatest x1 = some (tabF (((x1 * (6 : Int32)) + (5 : Int32))).toNatClampNeg) := by simp only [fC_greatest, if_pos h1]
  obtain rfl := Option.some.inj (e.symm.trans hv)
  exact ab_iret ckC_greatest rfl rfl ⟨rfl, rfl⟩
def fC_kept (x1 : Int32) : Option (Int32) := (if ab_inb x1 21 = true then (some (keptF (x1).toNatClampNeg)) else none)
theorem tC_kept {x1 : Int32} (hX : cs_X X) {v : Int32} (hv : fC_kept x1 = some v) : ab_M X mC_kept (d) 0 0 [.int x1] (hp) (fun r9 h9 => r9 = some (Value.int v) ∧ h9 = hp) := by
  refine ab_entry (by decide) (Nat.le_of_ble_eq_true rfl) ?_
  refine ab_go 2 [] (pc' := 4) (lo' := [some (.int x1)]) (st' := [.int x1, .ref 1]) (h' := hp) ckC_kept rfl ?_
  by_cases h1 : ab_inb x1 21 = true
  case neg => exact ab_no hv (by simp only [fC_kept, if_neg h1])
  refine ab_tald ckC_kept rfl (by decide) hX.2.1 (ab_inb_ok h1) ?_
  have e : fC_kept x1 = some (keptF (x1).toNatClampNeg) := by simp only [fC_kept, if_pos h1]
  obtain rfl := Option.some.inj (e.symm.trans hv)
  exact ab_iret ckC_kept rfl rfl ⟨rfl, rfl⟩
def fC_isCount (x1 : Int32) : Int32 := (if x1 = (5 : Int32) then (1 : Int32) else (if x1 = (12 : Int32) then (1 : Int32) else (0 : Int32)))
theorem tC_isCount {x1 : Int32} : ab_M X mC_isCount (d) 0 0 [.int x1] (hp) (fun r9 h9 => r9 = some (Value.int (fC_isCount x1)) ∧ h9 = hp) := by
  refine ab_entry (by decide) (Nat.le_of_ble_eq_true rfl) ?_
  refine ab_go 2 [] (pc' := 2) (lo' := [some (.int x1)]) (st' := [.int (5 : Int32), .int x1]) (h' := hp) ckC_isCount rfl ?_
  refine ab_icmp_eq ckC_isCount rfl (fun (h1 : x1 = (5 : Int32)) => ?_) (fun (h1 : ¬ (x1 = (5 : Int32))) => ?_)
  · refine ab_go 2 [] (pc' := 16) (lo' := [some (.int x1)]) (st' := [.int (1 : Int32)]) (h' := hp) ckC_isCount rfl ?_
    have e : fC_isCount x1 = (1 : Int32) := by simp only [fC_isCount, if_pos h1]
    exact ab_zret ckC_isCount rfl rfl (Or.inr rfl) ⟨(congrArg (fun q : Int32 => some (Value.int q)) e).symm, rfl⟩
  · refine ab_go 2 [] (pc' := 8) (lo' := [some (.int x1)]) (st' := [.int (12 : Int32), .int x1]) (h' := hp) ckC_isCount rfl ?_
    refine ab_icmp_ne ckC_isCount rfl (fun (h2 : ¬ (x1 = (12 : Int32))) => ?_) (fun (h2 : x1 = (12 : Int32)) => ?_)
    · refine ab_go 1 [] (pc' := 16) (lo' := [some (.int x1)]) (st' := [.int (0 : Int32)]) (h' := hp) ckC_isCount rfl ?_
      have e : fC_isCount x1 = (0 : Int32) := by simp only [fC_isCount, if_neg h1, if_neg h2]
      exact ab_zret ckC_isCount rfl rfl (Or.inl rfl) ⟨(congrArg (fun q : Int32 => some (Value.int q)) e).symm, rfl⟩
    · refine ab_go 2 [] (pc' := 16) (lo' := [some (.int x1)]) (st' := [.int (1 : Int32)]) (h' := hp) ckC_isCount rfl ?_
      have e : fC_isCount x1 = (1 : Int32) := by simp only [fC_isCount, if_neg h1, if_pos h2]
      exact ab_zret ckC_isCount rfl rfl (Or.inr rfl) ⟨(congrArg (fun q : Int32 => some (Value.int q)) e).symm, rfl⟩
def fC_countOf (x1 : Int32) : Int32 := (if (12 : Int32) ≤ x1 then (12 : Int32) else (5 : Int32))
theorem tC_countOf {x1 : Int32} : ab_M X mC_countOf (d) 0 0 [.int x1] (hp) (fun r9 h9 => r9 = some (Value.int (fC_countOf x1)) ∧ h9 = hp) := by
  refine ab_entry (by decide) (Nat.le_of_ble_eq_true rfl) ?_
  refine ab_go 2 [] (pc' := 3) (lo' := [some (.int x1)]) (st' := [.int (12 : Int32), .int x1]) (h' := hp) ckC_countOf rfl ?_
  refine ab_icmp_ge ckC_countOf rfl (fun (h1 : (12 : Int32) ≤ x1) => ?_) (fun (h1 : ¬ ((12 : Int32) ≤ x1)) => ?_)
  · refine ab_go 1 [] (pc' := 12) (lo' := [some (.int x1)]) (st' := [.int (12 : Int32)]) (h' := hp) ckC_countOf rfl ?_
    have e : fC_countOf x1 = (12 : Int32) := by simp only [fC_countOf, if_pos h1]
    exact ab_iret ckC_countOf rfl rfl ⟨(congrArg (fun q : Int32 => some (Value.int q)) e).symm, rfl⟩
  · refine ab_go 2 [] (pc' := 12) (lo' := [some (.int x1)]) (st' := [.int (5 : Int32)]) (h' := hp) ckC_countOf rfl ?_
    have e : fC_countOf x1 = (5 : Int32) := by simp only [fC_countOf, if_neg h1]
    exact ab_iret ckC_countOf rfl rfl ⟨(congrArg (fun q : Int32 => some (Value.int q)) e).symm, rfl⟩
def fN_bytesWritten (x1 : Int32) : Int32 := (if x1 = (35 : Int32) then (4 : Int32) else (if x1 = (39 : Int32) then (3 : Int32) else (if x1 = (43 : Int32) then (2 : Int32) else (if x1 = (47 : Int32) then (1 : Int32) else (0 : Int32)))))
theorem tN_bytesWritten {x1 : Int32} : ab_M X mN_bytesWritten (d) 0 0 [.int x1] (hp) (fun r9 h9 => r9 = some (Value.int (fN_bytesWritten x1)) ∧ h9 = hp) := by
  refine ab_entry (by decide) (Nat.le_of_ble_eq_true rfl) ?_
  refine ab_go 1 [] (pc' := 1) (lo' := [some (.int x1)]) (st' := [.int x1]) (h' := hp) ckN_bytesWritten rfl ?_
  by_cases h1 : x1 = (35 : Int32)
  · refine ab_lsw (tgt := 50) (off := 49) ckN_bytesWritten rfl (by decide) (by rw [h1]; decide) (by decide) ?_
    refine ab_go 1 [] (pc' := 51) (lo' := [some (.int x1)]) (st' := [.int (4 : Int32)]) (h' := hp) ckN_bytesWritten rfl ?_
    have e : fN_bytesWritten x1 = (4 : Int32) := by simp only [fN_bytesWritten, if_pos h1]
    exact ab_iret ckN_bytesWritten rfl rfl ⟨(congrArg (fun q : Int32 => some (Value.int q)) e).symm, rfl⟩
  by_cases h2 : x1 = (39 : Int32)
  · refine ab_lsw (tgt := 48) (off := 47) ckN_bytesWritten rfl (by decide) (by rw [h2]; decide) (by decide) ?_
    refine ab_go 1 [] (pc' := 49) (lo' := [some (.int x1)]) (st' := [.int (3 : Int32)]) (h' := hp) ckN_bytesWritten rfl ?_
    have e : fN_bytesWritten x1 = (3 : Int32) := by simp only [fN_bytesWritten, if_neg h1, if_pos h2]
    exact ab_iret ckN_bytesWritten rfl rfl ⟨(congrArg (fun q : Int32 => some (Value.int q)) e).symm, rfl⟩
  by_cases h3 : x1 = (43 : Int32)
  · refine ab_lsw (tgt := 46) (off := 45) ckN_bytesWritten rfl (by decide) (by rw [h3]; decide) (by decide) ?_
    refine ab_go 1 [] (pc' := 47) (lo' := [some (.int x1)]) (st' := [.int (2 : Int32)]) (h' := hp) ckN_bytesWritten rfl ?_
    have e : fN_bytesWritten x1 = (2 : Int32) := by simp only [fN_bytesWritten, if_neg h1, if_neg h2, if_pos h3]
    exact ab_iret ckN_bytesWritten rfl rfl ⟨(congrArg (fun q : Int32 => some (Value.int q)) e).symm, rfl⟩
  by_cases h4 : x1 = (47 : Int32)
  · refine ab_lsw (tgt := 44) (off := 43) ckN_bytesWritten rfl (by decide) (by rw [h4]; decide) (by decide) ?_
    refine ab_go 1 [] (pc' := 45) (lo' := [some (.int x1)]) (st' := [.int (1 : Int32)]) (h' := hp) ckN_bytesWritten rfl ?_
    have e : fN_bytesWritten x1 = (1 : Int32) := by simp only [fN_bytesWritten, if_neg h1, if_neg h2, if_neg h3, if_pos h4]
    exact ab_iret ckN_bytesWritten rfl rfl ⟨(congrArg (fun q : Int32 => some (Value.int q)) e).symm, rfl⟩
  refine ab_lsw (tgt := 52) ckN_bytesWritten rfl (by decide) (off := 51) (by show Op.lookupswitch.offset [(35, 49), (39, 47), (43, 45), (47, 43)] 51 _ = _; rw [lv_osw h1 (by decide)]; rw [lv_osw h2 (by decide)]; rw [lv_osw h3 (by decide)]; rw [lv_osw h4 (by decide)]; rfl) (by decide) ?_
  refine ab_go 1 [] (pc' := 53) (lo' := [some (.int x1)]) (st' := [.int (0 : Int32)]) (h' := hp) ckN_bytesWritten rfl ?_
  have e : fN_bytesWritten x1 = (0 : Int32) := by simp only [fN_bytesWritten, if_neg h1, if_neg h2, if_neg h3, if_neg h4]
  exact ab_iret ckN_bytesWritten rfl rfl ⟨(congrArg (fun q : Int32 => some (Value.int q)) e).symm, rfl⟩
def fN_readAnswer (x1 : Int32) : Int32 := (if x1 = (1 : Int32) then (79 : Int32) else (if x1 = (2 : Int32) then (75 : Int32) else (67 : Int32)))
theorem tN_readAnswer {x1 : Int32} : ab_M X mN_readAnswer (d) 0 0 [.int x1] (hp) (fun r9 h9 => r9 = some (Value.int (fN_readAnswer x1)) ∧ h9 = hp) := by
  refine ab_entry (by decide) (Nat.le_of_ble_eq_true rfl) ?_
  refine ab_go 2 [] (pc' := 2) (lo' := [some (.int x1)]) (st' := [.int (1 : Int32), .int x1]) (h' := hp) ckN_readAnswer rfl ?_
  refine ab_icmp_ne ckN_readAnswer rfl (fun (h1 : ¬ (x1 = (1 : Int32))) => ?_) (fun (h1 : x1 = (1 : Int32)) => ?_)
  · refine ab_go 2 [] (pc' := 10) (lo' := [some (.int x1)]) (st' := [.int (2 : Int32), .int x1]) (h' := hp) ckN_readAnswer rfl ?_
    refine ab_icmp_ne ckN_readAnswer rfl (fun (h2 : ¬ (x1 = (2 : Int32))) => ?_) (fun (h2 : x1 = (2 : Int32)) => ?_)
    · refine ab_go 1 [] (pc' := 20) (lo' := [some (.int x1)]) (st' := [.int (67 : Int32)]) (h' := hp) ckN_readAnswer rfl ?_
      have e : fN_readAnswer x1 = (67 : Int32) := by simp only [fN_readAnswer, if_neg h1, if_neg h2]
      exact ab_iret ckN_readAnswer rfl rfl ⟨(congrArg (fun q : Int32 => some (Value.int q)) e).symm, rfl⟩
    · refine ab_go 2 [] (pc' := 20) (lo' := [some (.int x1)]) (st' := [.int (75 : Int32)]) (h' := hp) ckN_readAnswer rfl ?_
      have e : fN_readAnswer x1 = (75 : Int32) := by simp only [fN_readAnswer, if_neg h1, if_pos h2]
      exact ab_iret ckN_readAnswer rfl rfl ⟨(congrArg (fun q : Int32 => some (Value.int q)) e).symm, rfl⟩
  · refine ab_go 1 [] (pc' := 7) (lo' := [some (.int x1)]) (st' := [.int (79 : Int32)]) (h' := hp) ckN_readAnswer rfl ?_
    have e : fN_readAnswer x1 = (79 : Int32) := by simp only [fN_readAnswer, if_pos h1]
    exact ab_iret ckN_readAnswer rfl rfl ⟨(congrArg (fun q : Int32 => some (Value.int q)) e).symm, rfl⟩
def fN_refusalOfAddress (x1 : Int32) (x2 : Int32) (x3 : Int32) : Option (Int32) := (if x1 = (64 : Int32) then (if x3 = (-1 : Int32) then (ab_bd (fC_hasIndex x2) (fun p1 => (if p1 = 0 then (some (100794368 : Int32)) else (some (101253137 : Int32))))) else (some (0 : Int32))) else (if (fN_bytesWritten x1) = 0 then (some (84148225 : Int32)) else (if x3 = (-1 : Int32) then (ab_bd (fC_hasIndex x2) (fun p2 => (if p2 = 0 then (some (100794368 : Int32)) else (some (101253137 : Int32))))) else (some (0 : Int32)))))
theorem tN_refusalOfAddress {x1 : Int32} {x2 : Int32} {x3 : Int32} (hX : cs_X X) {v : Int32} (hv : fN_refusalOfAddress x1 x2 x3 = some v) : ab_M X mN_refusalOfAddress (d + 1) 0 0 [.int x1, .int x2, .int x3] (hp) (fun r9 h9 => r9 = some (Value.int v) ∧ h9 = hp) := by
  refine ab_entry (by decide) (Nat.le_of_ble_eq_true rfl) ?_
  refine ab_go 2 [] (pc' := 3) (lo' := [some (.int x1), some (.int x2), some (.int x3)]) (st' := [.int (64 : Int32), .int x1]) (h' := hp) ckN_refusalOfAddress rfl ?_
  refine ab_icmp_eq ckN_refusalOfAddress rfl (fun (h1 : x1 = (64 : Int32)) => ?_) (fun (h1 : ¬ (x1 = (64 : Int32))) => ?_)
  · refine ab_go 2 [] (pc' := 18) (lo' := [some (.int x1), some (.int x2), some (.int x3)]) (st' := [.int (-1 : Int32), .int x3]) (h' := hp) ckN_refusalOfAddress rfl ?_
    refine ab_icmp_eq ckN_refusalOfAddress rfl (fun (h2 : x3 = (-1 : Int32)) => ?_) (fun (h2 : ¬ (x3 = (-1 : Int32))) => ?_)
    · refine ab_go 1 [] (pc' := 24) (lo' := [some (.int x1), some (.int x2), some (.int x3)]) (st' := [.int x2]) (h' := hp) ckN_refusalOfAddress rfl ?_
      rcases e1 : fC_hasIndex x2 with _ | p1
      · exact ab_no hv (by simp only [fN_refusalOfAddress, if_pos h1, if_pos h2, e1, ab_bd_n])
      refine ab_callS (bc2 := 0) (bs2 := 0) (as := [_]) (rest := []) ckN_refusalOfAddress rfl (by decide +kernel) wC_hasIndex (tC_hasIndex (d := d) (x1 := x2) hX (v := p1) e1) (by omega) ⟨Nat.le_refl _, Nat.le_refl _⟩ (Nat.le_of_ble_eq_true rfl) ?_
      rintro _ h9 ⟨rfl, q9⟩
      rw [q9]
      clear q9 h9
      refine ab_if_eq ckN_refusalOfAddress rfl (fun (h3 : p1 = 0) => ?_) (fun (h3 : ¬ (p1 = 0)) => ?_)
      · refine ab_go 1 [] (pc' := 37) (lo' := [some (.int x1), some (.int x2), some (.int x3)]) (st' := [.int (100794368 : Int32)]) (h' := hp) ckN_refusalOfAddress rfl ?_
        have e : fN_refusalOfAddress x1 x2 x3 = some (100794368 : Int32) := by simp only [fN_refusalOfAddress, if_pos h1, if_pos h2, e1, ab_bd_s, if_pos h3]
        obtain rfl := Option.some.inj (e.symm.trans hv)
        exact ab_iret ckN_refusalOfAddress rfl rfl ⟨rfl, rfl⟩
      · refine ab_go 2 [] (pc' := 37) (lo' := [some (.int x1), some (.int x2), some (.int x3)]) (st' := [.int (101253137 : Int32)]) (h' := hp) ckN_refusalOfAddress rfl ?_
        have e : fN_refusalOfAddress x1 x2 x3 = some (101253137 : Int32) := by simp only [fN_refusalOfAddress, if_pos h1, if_pos h2, e1, ab_bd_s, if_neg h3]
        obtain rfl := Option.some.inj (e.symm.trans hv)
        exact ab_iret ckN_refusalOfAddress rfl rfl ⟨rfl, rfl⟩
    · refine ab_go 1 [] (pc' := 22) (lo' := [some (.int x1), some (.int x2), some (.int x3)]) (st' := [.int (0 : Int32)]) (h' := hp) ckN_refusalOfAddress rfl ?_
      have e : fN_refusalOfAddress x1 x2 x3 = some (0 : Int32) := by simp only [fN_refusalOfAddress, if_pos h1, if_neg h2]
      obtain rfl := Option.some.inj (e.symm.trans hv)
      exact ab_iret ckN_refusalOfAddress rfl rfl ⟨rfl, rfl⟩
  · refine ab_go 1 [] (pc' := 7) (lo' := [some (.int x1), some (.int x2), some (.int x3)]) (st' := [.int x1]) (h' := hp) ckN_refusalOfAddress rfl ?_
    refine ab_callS (bc2 := 0) (bs2 := 0) (as := [_]) (rest := []) ckN_refusalOfAddress rfl (by decide +kernel) wN_bytesWritten (tN_bytesWritten (d := d) (x1 := x1)) (by omega) ⟨Nat.le_refl _, Nat.le_refl _⟩ (Nat.le_of_ble_eq_true rfl) ?_
    rintro _ h9 ⟨rfl, q9⟩
    rw [q9]
    clear q9 h9
    refine ab_if_ne ckN_refusalOfAddress rfl (fun (h4 : ¬ ((fN_bytesWritten x1) = 0)) => ?_) (fun (h4 : (fN_bytesWritten x1) = 0) => ?_)
    · refine ab_go 2 [] (pc' := 18) (lo' := [some (.int x1), some (.int x2), some (.int x3)]) (st' := [.int (-1 : Int32), .int x3]) (h' := hp) ckN_refusalOfAddress rfl ?_
      refine ab_icmp_eq ckN_refusalOfAddress rfl (fun (h5 : x3 = (-1 : Int32)) => ?_) (fun (h5 : ¬ (x3 = (-1 : Int32))) => ?_)
      · refine ab_go 1 [] (pc' := 24) (lo' := [some (.int x1), some (.int x2), some (.int x3)]) (st' := [.int x2]) (h' := hp) ckN_refusalOfAddress rfl ?_
        rcases e2 : fC_hasIndex x2 with _ | p2
        · exact ab_no hv (by simp only [fN_refusalOfAddress, if_neg h1, if_neg h4, if_pos h5, e2, ab_bd_n])
        refine ab_callS (bc2 := 0) (bs2 := 0) (as := [_]) (rest := []) ckN_refusalOfAddress rfl (by decide +kernel) wC_hasIndex (tC_hasIndex (d := d) (x1 := x2) hX (v := p2) e2) (by omega) ⟨Nat.le_refl _, Nat.le_refl _⟩ (Nat.le_of_ble_eq_true rfl) ?_
        rintro _ h9 ⟨rfl, q9⟩
        rw [q9]
        clear q9 h9
        refine ab_if_eq ckN_refusalOfAddress rfl (fun (h6 : p2 = 0) => ?_) (fun (h6 : ¬ (p2 = 0)) => ?_)
        · refine ab_go 1 [] (pc' := 37) (lo' := [some (.int x1), some (.int x2), some (.int x3)]) (st' := [.int (100794368 : Int32)]) (h' := hp) ckN_refusalOfAddress rfl ?_
          have e : fN_refusalOfAddress x1 x2 x3 = some (100794368 : Int32) := by simp only [fN_refusalOfAddress, if_neg h1, if_neg h4, if_pos h5, e2, ab_bd_s, if_pos h6]
          obtain rfl := Option.some.inj (e.symm.trans hv)
          exact ab_iret ckN_refusalOfAddress rfl rfl ⟨rfl, rfl⟩
        · refine ab_go 2 [] (pc' := 37) (lo' := [some (.int x1), some (.int x2), some (.int x3)]) (st' := [.int (101253137 : Int32)]) (h' := hp) ckN_refusalOfAddress rfl ?_
          have e : fN_refusalOfAddress x1 x2 x3 = some (101253137 : Int32) := by simp only [fN_refusalOfAddress, if_neg h1, if_neg h4, if_pos h5, e2, ab_bd_s, if_neg h6]
          obtain rfl := Option.some.inj (e.symm.trans hv)
          exact ab_iret ckN_refusalOfAddress rfl rfl ⟨rfl, rfl⟩
      · refine ab_go 1 [] (pc' := 22) (lo' := [some (.int x1), some (.int x2), some (.int x3)]) (st' := [.int (0 : Int32)]) (h' := hp) ckN_refusalOfAddress rfl ?_
        have e : fN_refusalOfAddress x1 x2 x3 = some (0 : Int32) := by simp only [fN_refusalOfAddress, if_neg h1, if_neg h4, if_neg h5]
        obtain rfl := Option.some.inj (e.symm.trans hv)
        exact ab_iret ckN_refusalOfAddress rfl rfl ⟨rfl, rfl⟩
    · refine ab_go 1 [] (pc' := 15) (lo' := [some (.int x1), some (.int x2), some (.int x3)]) (st' := [.int (84148225 : Int32)]) (h' := hp) ckN_refusalOfAddress rfl ?_
      have e : fN_refusalOfAddress x1 x2 x3 = some (84148225 : Int32) := by simp only [fN_refusalOfAddress, if_neg h1, if_pos h4]
      obtain rfl := Option.some.inj (e.symm.trans hv)
      exact ab_iret ckN_refusalOfAddress rfl rfl ⟨rfl, rfl⟩
def fN_refusalOfValue (x1 : Int32) (x2 : Int32) : Option (Int32) := (ab_bd (fC_greatest x1) (fun p1 => (if x2 ≤ p1 then (ab_bd (fC_least x1) (fun p2 => (if p2 ≤ x2 then (if x1 = (18 : Int32) then (if x2 = (2 : Int32) then (some (101253168 : Int32)) else (some (0 : Int32))) else (some (0 : Int32))) else (some (101253170 : Int32))))) else (some (101253169 : Int32)))))
theorem tN_refusalOfValue {x1 : Int32} {x2 : Int32} (hX : cs_X X) {v : Int32} (hv : fN_refusalOfValue x1 x2 = some v) : ab_M X mN_refusalOfValue (d + 1) 0 0 [.int x1, .int x2] (hp) (fun r9 h9 => r9 = some (Value.int v) ∧ h9 = hp) := by
  refine ab_entry (by decide) (Nat.le_of_ble_eq_true rfl) ?_
  refine ab_go 2 [] (pc' := 2) (lo' := [some (.int x1), some (.int x2)]) (st' := [.int x1, .int x2]) (h' := hp) ckN_refusalOfValue rfl ?_
  rcases e1 : fC_greatest x1 with _ | p1
  · exact ab_no hv (by simp only [fN_refusalOfValue, e1, ab_bd_n])
  refine ab_callS (bc2 := 0) (bs2 := 0) (as := [_]) (rest := [_]) ckN_refusalOfValue rfl (by decide +kernel) wC_greatest (tC_greatest (d := d) (x1 := x1) hX (v := p1) e1) (by omega) ⟨Nat.le_refl _, Nat.le_refl _⟩ (Nat.le_of_ble_eq_true rfl) ?_
  rintro _ h9 ⟨rfl, q9⟩
  rw [q9]
  clear q9 h9
  refine ab_icmp_le ckN_refusalOfValue rfl (fun (h1 : x2 ≤ p1) => ?_) (fun (h1 : ¬ (x2 ≤ p1)) => ?_)
  · refine ab_go 2 [] (pc' := 13) (lo' := [some (.int x1), some (.int x2)]) (st' := [.int x1, .int x2]) (h' := hp) ckN_refusalOfValue rfl ?_
    rcases e2 : fC_least x1 with _ | p2
    · exact ab_no hv (by simp only [fN_refusalOfValue, e1, ab_bd_s, if_pos h1, e2, ab_bd_n])
    refine ab_callS (bc2 := 0) (bs2 := 0) (as := [_]) (rest := [_]) ckN_refusalOfValue rfl (by decide +kernel) wC_least (tC_least (d := d) (x1 := x1) hX (v := p2) e2) (by omega) ⟨Nat.le_refl _, Nat.le_refl _⟩ (Nat.le_of_ble_eq_true rfl) ?_
    rintro _ h9 ⟨rfl, q9⟩
    rw [q9]
    clear q9 h9
    refine ab_icmp_ge ckN_refusalOfValue rfl (fun (h2 : p2 ≤ x2) => ?_) (fun (h2 : ¬ (p2 ≤ x2)) => ?_)
    · refine ab_go 2 [] (pc' := 25) (lo' := [some (.int x1), some (.int x2)]) (st' := [.int (18 : Int32), .int x1]) (h' := hp) ckN_refusalOfValue rfl ?_
      refine ab_icmp_ne ckN_refusalOfValue rfl (fun (h3 : ¬ (x1 = (18 : Int32))) => ?_) (fun (h3 : x1 = (18 : Int32)) => ?_)
      · refine ab_go 1 [] (pc' := 39) (lo' := [some (.int x1), some (.int x2)]) (st' := [.int (0 : Int32)]) (h' := hp) ckN_refusalOfValue rfl ?_
        have e : fN_refusalOfValue x1 x2 = some (0 : Int32) := by simp only [fN_refusalOfValue, e1, ab_bd_s, if_pos h1, e2, ab_bd_s, if_pos h2, if_neg h3]
        obtain rfl := Option.some.inj (e.symm.trans hv)
        exact ab_iret ckN_refusalOfValue rfl rfl ⟨rfl, rfl⟩
      · refine ab_go 2 [] (pc' := 30) (lo' := [some (.int x1), some (.int x2)]) (st' := [.int (2 : Int32), .int x2]) (h' := hp) ckN_refusalOfValue rfl ?_
        refine ab_icmp_ne ckN_refusalOfValue rfl (fun (h4 : ¬ (x2 = (2 : Int32))) => ?_) (fun (h4 : x2 = (2 : Int32)) => ?_)
        · refine ab_go 1 [] (pc' := 39) (lo' := [some (.int x1), some (.int x2)]) (st' := [.int (0 : Int32)]) (h' := hp) ckN_refusalOfValue rfl ?_
          have e : fN_refusalOfValue x1 x2 = some (0 : Int32) := by simp only [fN_refusalOfValue, e1, ab_bd_s, if_pos h1, e2, ab_bd_s, if_pos h2, if_pos h3, if_neg h4]
          obtain rfl := Option.some.inj (e.symm.trans hv)
          exact ab_iret ckN_refusalOfValue rfl rfl ⟨rfl, rfl⟩
        · refine ab_go 2 [] (pc' := 39) (lo' := [some (.int x1), some (.int x2)]) (st' := [.int (101253168 : Int32)]) (h' := hp) ckN_refusalOfValue rfl ?_
          have e : fN_refusalOfValue x1 x2 = some (101253168 : Int32) := by simp only [fN_refusalOfValue, e1, ab_bd_s, if_pos h1, e2, ab_bd_s, if_pos h2, if_pos h3, if_pos h4]
          obtain rfl := Option.some.inj (e.symm.trans hv)
          exact ab_iret ckN_refusalOfValue rfl rfl ⟨rfl, rfl⟩
    · refine ab_go 1 [] (pc' := 21) (lo' := [some (.int x1), some (.int x2)]) (st' := [.int (101253170 : Int32)]) (h' := hp) ckN_refusalOfValue rfl ?_
      have e : fN_refusalOfValue x1 x2 = some (101253170 : Int32) := by simp only [fN_refusalOfValue, e1, ab_bd_s, if_pos h1, e2, ab_bd_s, if_neg h2]
      obtain rfl := Option.some.inj (e.symm.trans hv)
      exact ab_iret ckN_refusalOfValue rfl rfl ⟨rfl, rfl⟩
  · refine ab_go 1 [] (pc' := 10) (lo' := [some (.int x1), some (.int x2)]) (st' := [.int (101253169 : Int32)]) (h' := hp) ckN_refusalOfValue rfl ?_
    have e : fN_refusalOfValue x1 x2 = some (101253169 : Int32) := by simp only [fN_refusalOfValue, e1, ab_bd_s, if_neg h1]
    obtain rfl := Option.some.inj (e.symm.trans hv)
    exact ab_iret ckN_refusalOfValue rfl rfl ⟨rfl, rfl⟩
end LEAF
