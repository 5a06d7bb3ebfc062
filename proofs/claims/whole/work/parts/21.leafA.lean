/-! contracts of the class, by program (wip/gen/walk.py) -/
theorem ab_fitB {x : Int32} (h : x = 0 ∨ x = 1) : narrow .boolean (.int x) = .int x ∧ fits .boolean (.int x) = true := by
  rcases h with rfl | rfl
  · exact ⟨by decide, by decide⟩
  · exact ⟨by decide, by decide⟩
section LEAF
variable {X : ab_C} {d : Nat} {c : cs_S} {rest hp : ab_H}
def fB_isBusOn (c : cs_S)  : Int32 := (c.1 0 5)
theorem tB_isBusOn (hz4 : (c.1 0 5) = 0 ∨ (c.1 0 5) = 1) : ab_M X mB_isBusOn (d) 0 0 [.ref 10] (cs_H c rest) (fun r9 h9 => r9 = some (Value.int (fB_isBusOn c)) ∧ h9 = cs_H c rest) := by
  refine ab_entry (by decide) (Nat.le_of_ble_eq_true rfl) ?_
  refine ab_go 4 [] ckB_isBusOn rfl ?_
  have e : fB_isBusOn c = (c.1 0 5) := by simp only [fB_isBusOn]
  exact ab_zret ckB_isBusOn rfl rfl hz4 ⟨(congrArg (fun q : Int32 => some (Value.int q)) e).symm, rfl⟩
def fB_setBus (c : cs_S) (x1 : Int32) : cs_S := (cs_u c 0 5 x1)
theorem tB_setBus {x1 : Int32} (hz2 : x1 = 0 ∨ x1 = 1) : ab_M X mB_setBus (d) 0 0 [.ref 10, .int x1] (cs_H c rest) (fun r9 h9 => r9 = none ∧ h9 = cs_H (fB_setBus c x1) rest) := by
  refine ab_entry (by decide) (Nat.le_of_ble_eq_true rfl) ?_
  refine ab_go 4 [] ckB_setBus rfl ?_
  refine ab_putfR ckB_setBus rfl rfl (Nat.le_of_ble_eq_true rfl) (ab_fitB hz2) (fun q z => by cases z) ?_
  have e : fB_setBus c x1 = (cs_u c 0 5 x1) := by simp only [fB_setBus]
  exact ab_vret ckB_setBus rfl rfl ⟨rfl, (congrArg (fun q : cs_S => cs_H q rest) e).symm⟩
def fB_clear (c : cs_S)  : cs_S := (cs_u c 0 3 (0 : Int32))
theorem tB_clear : ab_M X mB_clear (d) 0 0 [.ref 10] (cs_H c rest) (fun r9 h9 => r9 = none ∧ h9 = cs_H (fB_clear c) rest) := by
  refine ab_entry (by decide) (Nat.le_of_ble_eq_true rfl) ?_
  refine ab_go 5 [] ckB_clear rfl ?_
  have e : fB_clear c = (cs_u c 0 3 (0 : Int32)) := by simp only [fB_clear]
  exact ab_vret ckB_clear rfl rfl ⟨rfl, (congrArg (fun q : cs_S => cs_H q rest) e).symm⟩
def fB_size (c : cs_S)  : Int32 := (c.1 0 3)
theorem tB_size : ab_M X mB_size (d) 0 0 [.ref 10] (cs_H c rest) (fun r9 h9 => r9 = some (Value.int (fB_size c)) ∧ h9 = cs_H c rest) := by
  refine ab_entry (by decide) (Nat.le_of_ble_eq_true rfl) ?_
  refine ab_go 4 [] ckB_size rfl ?_
  have e : fB_size c = (c.1 0 3) := by simp only [fB_size]
  exact ab_iret ckB_size rfl rfl ⟨(congrArg (fun q : Int32 => some (Value.int q)) e).symm, rfl⟩
def fB_lostFrames (c : cs_S)  : Int32 := (c.1 0 4)
theorem tB_lostFrames : ab_M X mB_lostFrames (d) 0 0 [.ref 10] (cs_H c rest) (fun r9 h9 => r9 = some (Value.int (fB_lostFrames c)) ∧ h9 = cs_H c rest) := by
  refine ab_entry (by decide) (Nat.le_of_ble_eq_true rfl) ?_
  refine ab_go 4 [] ckB_lostFrames rfl ?_
  have e : fB_lostFrames c = (c.1 0 4) := by simp only [fB_lostFrames]
  exact ab_iret ckB_lostFrames rfl rfl ⟨(congrArg (fun q : Int32 => some (Value.int q)) e).symm, rfl⟩
def fB_firstIdentifier (c : cs_S)  : Int32 := (if (c.1 0 3) = 0 then (-1 : Int32) else (c.1 2 0))
theorem tB_firstIdentifier : ab_M X mB_firstIdentifier (d) 0 0 [.ref 10] (cs_H c rest) (fun r9 h9 => r9 = some (Value.int (fB_firstIdentifier c)) ∧ h9 = cs_H c rest) := by
  refine ab_entry (by decide) (Nat.le_of_ble_eq_true rfl) ?_
  refine ab_go 4 [] ckB_firstIdentifier rfl ?_
  refine ab_if_ne ckB_firstIdentifier rfl (fun (h1 : ¬ ((c.1 0 3) = 0)) => ?_) (fun (h1 : (c.1 0 3) = 0) => ?_)
  · refine ab_go 6 [] ckB_firstIdentifier rfl ?_
    have e : fB_firstIdentifier c = (c.1 2 0) := by simp only [fB_firstIdentifier, if_neg h1]
    exact ab_iret ckB_firstIdentifier rfl rfl ⟨(congrArg (fun q : Int32 => some (Value.int q)) e).symm, rfl⟩
  · refine ab_go 4 [] ckB_firstIdentifier rfl ?_
    have e : fB_firstIdentifier c = (-1 : Int32) := by simp only [fB_firstIdentifier, if_pos h1]
    exact ab_iret ckB_firstIdentifier rfl rfl ⟨(congrArg (fun q : Int32 => some (Value.int q)) e).symm, rfl⟩
def fB_firstLength (c : cs_S)  : Int32 := (if (c.1 0 3) = 0 then (-1 : Int32) else (c.1 3 0))
theorem tB_firstLength : ab_M X mB_firstLength (d) 0 0 [.ref 10] (cs_H c rest) (fun r9 h9 => r9 = some (Value.int (fB_firstLength c)) ∧ h9 = cs_H c rest) := by
  refine ab_entry (by decide) (Nat.le_of_ble_eq_true rfl) ?_
  refine ab_go 4 [] ckB_firstLength rfl ?_
  refine ab_if_ne ckB_firstLength rfl (fun (h1 : ¬ ((c.1 0 3) = 0)) => ?_) (fun (h1 : (c.1 0 3) = 0) => ?_)
  · refine ab_go 6 [] ckB_firstLength rfl ?_
    have e : fB_firstLength c = (c.1 3 0) := by simp only [fB_firstLength, if_neg h1]
    exact ab_iret ckB_firstLength rfl rfl ⟨(congrArg (fun q : Int32 => some (Value.int q)) e).symm, rfl⟩
  · refine ab_go 4 [] ckB_firstLength rfl ?_
    have e : fB_firstLength c = (-1 : Int32) := by simp only [fB_firstLength, if_pos h1]
    exact ab_iret ckB_firstLength rfl rfl ⟨(congrArg (fun q : Int32 => some (Value.int q)) e).symm, rfl⟩
def fB_firstData (c : cs_S)  : Int64 := (if (c.1 0 3) = 0 then (0 : Int64) else (c.2.1 0))
theorem tB_firstData : ab_M X mB_firstData (d) 0 0 [.ref 10] (cs_H c rest) (fun r9 h9 => r9 = some (Value.long (fB_firstData c)) ∧ h9 = cs_H c rest) := by
  refine ab_entry (by decide) (Nat.le_of_ble_eq_true rfl) ?_
  refine ab_go 4 [] ckB_firstData rfl ?_
  refine ab_if_ne ckB_firstData rfl (fun (h1 : ¬ ((c.1 0 3) = 0)) => ?_) (fun (h1 : (c.1 0 3) = 0) => ?_)
  · refine ab_go 5 [] ckB_firstData rfl ?_
    refine ab_lald ckB_firstData rfl rfl (ab_inb_ok (by decide)) ?_
    have e : fB_firstData c = (c.2.1 0) := by simp only [fB_firstData, if_neg h1]
    exact ab_lret ckB_firstData rfl rfl ⟨(congrArg (fun q : Int64 => some (Value.long q)) e).symm, rfl⟩
  · refine ab_go 4 [] ckB_firstData rfl ?_
    have e : fB_firstData c = (0 : Int64) := by simp only [fB_firstData, if_pos h1]
    exact ab_lret ckB_firstData rfl rfl ⟨(congrArg (fun q : Int64 => some (Value.long q)) e).symm, rfl⟩
def fO_beginOperating (c : cs_S)  : cs_S := (cs_u c 0 13 (0 : Int32))
theorem tO_beginOperating : ab_M X mO_beginOperating (d) 0 0 [.ref 22] (cs_H c rest) (fun r9 h9 => r9 = none ∧ h9 = cs_H (fO_beginOperating c) rest) := by
  refine ab_entry (by decide) (Nat.le_of_ble_eq_true rfl) ?_
  refine ab_go 5 [] ckO_beginOperating rfl ?_
  have e : fO_beginOperating c = (cs_u c 0 13 (0 : Int32)) := by simp only [fO_beginOperating]
  exact ab_vret ckO_beginOperating rfl rfl ⟨rfl, (congrArg (fun q : cs_S => cs_H q rest) e).symm⟩
def fO_forgetSyncs (c : cs_S)  : cs_S := (cs_u c 0 16 (0 : Int32))
theorem tO_forgetSyncs : ab_M X mO_forgetSyncs (d) 0 0 [.ref 22] (cs_H c rest) (fun r9 h9 => r9 = none ∧ h9 = cs_H (fO_forgetSyncs c) rest) := by
  refine ab_entry (by decide) (Nat.le_of_ble_eq_true rfl) ?_
  refine ab_go 5 [] ckO_forgetSyncs rfl ?_
  have e : fO_forgetSyncs c = (cs_u c 0 16 (0 : Int32)) := by simp only [fO_forgetSyncs]
  exact ab_vret ckO_forgetSyncs rfl rfl ⟨rfl, (congrArg (fun q : cs_S => cs_H q rest) e).symm⟩
def fO_countSync (c : cs_S) (x1 : Int32) : Int32 × cs_S := (if x1 ≤ ((c.1 0 16) + (1 : Int32)) then ((1 : Int32), (cs_u (cs_u c 0 16 ((c.1 0 16) + (1 : Int32))) 0 16 (0 : Int32))) else ((0 : Int32), (cs_u c 0 16 ((c.1 0 16) + (1 : Int32)))))
theorem tO_countSync {x1 : Int32} : ab_M X mO_countSync (d) 0 0 [.ref 22, .int x1] (cs_H c rest) (fun r9 h9 => r9 = some (Value.int (fO_countSync c x1).1) ∧ h9 = cs_H (fO_countSync c x1).2 rest) := by
  refine ab_entry (by decide) (Nat.le_of_ble_eq_true rfl) ?_
  refine ab_go 11 [] ckO_countSync rfl ?_
  refine ab_icmp_ge ckO_countSync rfl (fun (h1 : x1 ≤ ((c.1 0 16) + (1 : Int32))) => ?_) (fun (h1 : ¬ (x1 ≤ ((c.1 0 16) + (1 : Int32)))) => ?_)
  · refine ab_go 6 [] ckO_countSync rfl ?_
    have e : fO_countSync c x1 = ((1 : Int32), (cs_u (cs_u c 0 16 ((c.1 0 16) + (1 : Int32))) 0 16 (0 : Int32))) := by simp only [fO_countSync, if_pos h1]
    exact ab_zret ckO_countSync rfl rfl (Or.inr rfl) ⟨(congrArg (fun q : Int32 × cs_S => some (Value.int q.1)) e).symm, (congrArg (fun q : Int32 × cs_S => cs_H q.2 rest) e).symm⟩
  · refine ab_go 3 [] ckO_countSync rfl ?_
    have e : fO_countSync c x1 = ((0 : Int32), (cs_u c 0 16 ((c.1 0 16) + (1 : Int32)))) := by simp only [fO_countSync, if_neg h1]
    exact ab_zret ckO_countSync rfl rfl (Or.inl rfl) ⟨(congrArg (fun q : Int32 × cs_S => some (Value.int q.1)) e).symm, (congrArg (fun q : Int32 × cs_S => cs_H q.2 rest) e).symm⟩
def fO_countTick (c : cs_S)  : cs_S := (cs_u c 0 14 ((c.1 0 14) + (1 : Int32)))
theorem tO_countTick : ab_M X mO_countTick (d) 0 0 [.ref 22] (cs_H c rest) (fun r9 h9 => r9 = none ∧ h9 = cs_H (fO_countTick c) rest) := by
  refine ab_entry (by decide) (Nat.le_of_ble_eq_true rfl) ?_
  refine ab_go 8 [] ckO_countTick rfl ?_
  have e : fO_countTick c = (cs_u c 0 14 ((c.1 0 14) + (1 : Int32))) := by simp only [fO_countTick]
  exact ab_vret ckO_countTick rfl rfl ⟨rfl, (congrArg (fun q : cs_S => cs_H q rest) e).symm⟩
def fO_isHeld (c : cs_S) (x1 : Int32) : Int32 := (if (c.1 0 13) = 0 then (0 : Int32) else (if x1 ≤ (c.1 0 14) then (0 : Int32) else (1 : Int32)))
theorem tO_isHeld {x1 : Int32} : ab_M X mO_isHeld (d) 0 0 [.ref 22, .int x1] (cs_H c rest) (fun r9 h9 => r9 = some (Value.int (fO_isHeld c x1)) ∧ h9 = cs_H c rest) := by
  refine ab_entry (by decide) (Nat.le_of_ble_eq_true rfl) ?_
  refine ab_go 4 [] ckO_isHeld rfl ?_
  refine ab_if_eq ckO_isHeld rfl (fun (h1 : (c.1 0 13) = 0) => ?_) (fun (h1 : ¬ ((c.1 0 13) = 0)) => ?_)
  · refine ab_go 3 [] ckO_isHeld rfl ?_
    have e : fO_isHeld c x1 = (0 : Int32) := by simp only [fO_isHeld, if_pos h1]
    exact ab_zret ckO_isHeld rfl rfl (Or.inl rfl) ⟨(congrArg (fun q : Int32 => some (Value.int q)) e).symm, rfl⟩
  · refine ab_go 5 [] ckO_isHeld rfl ?_
    refine ab_icmp_ge ckO_isHeld rfl (fun (h2 : x1 ≤ (c.1 0 14)) => ?_) (fun (h2 : ¬ (x1 ≤ (c.1 0 14))) => ?_)
    · refine ab_go 3 [] ckO_isHeld rfl ?_
      have e : fO_isHeld c x1 = (0 : Int32) := by simp only [fO_isHeld, if_neg h1, if_pos h2]
      exact ab_zret ckO_isHeld rfl rfl (Or.inl rfl) ⟨(congrArg (fun q : Int32 => some (Value.int q)) e).symm, rfl⟩
    · refine ab_go 4 [] ckO_isHeld rfl ?_
      have e : fO_isHeld c x1 = (1 : Int32) := by simp only [fO_isHeld, if_neg h1, if_neg h2]
      exact ab_zret ckO_isHeld rfl rfl (Or.inr rfl) ⟨(congrArg (fun q : Int32 => some (Value.int q)) e).symm, rfl⟩
def fO_isDue (c : cs_S) (x1 : Int64) (x2 : Int32) (x3 : Int32) : Int32 := (if (c.1 0 13) = 0 then (1 : Int32) else (if (lg_cmp x1 (c.2.2)) = 0 then (if x2 = (c.1 0 15) then (if x3 ≤ 0 then (0 : Int32) else (if (c.1 0 14) < x3 then (0 : Int32) else (1 : Int32))) else (1 : Int32)) else (1 : Int32)))
theorem tO_isDue {x1 : Int64} {x2 : Int32} {x3 : Int32} : ab_M X mO_isDue (d) 0 0 [.ref 22, .long x1, .int x2, .int x3] (cs_H c rest) (fun r9 h9 => r9 = some (Value.int (fO_isDue c x1 x2 x3)) ∧ h9 = cs_H c rest) := by
  refine ab_entry (by decide) (Nat.le_of_ble_eq_true rfl) ?_
  refine ab_go 4 [] ckO_isDue rfl ?_
  refine ab_if_eq ckO_isDue rfl (fun (h1 : (c.1 0 13) = 0) => ?_) (fun (h1 : ¬ ((c.1 0 13) = 0)) => ?_)
  · refine ab_go 4 [] ckO_isDue rfl ?_
    have e : fO_isDue c x1 x2 x3 = (1 : Int32) := by simp only [fO_isDue, if_pos h1]
    exact ab_zret ckO_isDue rfl rfl (Or.inr rfl) ⟨(congrArg (fun q : Int32 => some (Value.int q)) e).symm, rfl⟩
  · refine ab_go 6 [] ckO_isDue rfl ?_
    refine ab_if_ne ckO_isDue rfl (fun (h2 : ¬ ((lg_cmp x1 (c.2.2)) = 0)) => ?_) (fun (h2 : (lg_cmp x1 (c.2.2)) = 0) => ?_)
    · refine ab_go 4 [] ckO_isDue rfl ?_
      have e : fO_isDue c x1 x2 x3 = (1 : Int32) := by simp only [fO_isDue, if_neg h1, if_neg h2]
      exact ab_zret ckO_isDue rfl rfl (Or.inr rfl) ⟨(congrArg (fun q : Int32 => some (Value.int q)) e).symm, rfl⟩
    · refine ab_go 5 [] ckO_isDue rfl ?_
      refine ab_icmp_ne ckO_isDue rfl (fun (h3 : ¬ (x2 = (c.1 0 15))) => ?_) (fun (h3 : x2 = (c.1 0 15)) => ?_)
      · refine ab_go 4 [] ckO_isDue rfl ?_
        have e : fO_isDue c x1 x2 x3 = (1 : Int32) := by simp only [fO_isDue, if_neg h1, if_pos h2, if_neg h3]
        exact ab_zret ckO_isDue rfl rfl (Or.inr rfl) ⟨(congrArg (fun q : Int32 => some (Value.int q)) e).symm, rfl⟩
      · refine ab_go 3 [] ckO_isDue rfl ?_
        refine ab_if_le ckO_isDue rfl (fun (h4 : x3 ≤ 0) => ?_) (fun (h4 : ¬ (x3 ≤ 0)) => ?_)
        · refine ab_go 3 [] ckO_isDue rfl ?_
          have e : fO_isDue c x1 x2 x3 = (0 : Int32) := by simp only [fO_isDue, if_neg h1, if_pos h2, if_pos h3, if_pos h4]
          exact ab_zret ckO_isDue rfl rfl (Or.inl rfl) ⟨(congrArg (fun q : Int32 => some (Value.int q)) e).symm, rfl⟩
        · refine ab_go 5 [] ckO_isDue rfl ?_
          refine ab_icmp_lt ckO_isDue rfl (fun (h5 : (c.1 0 14) < x3) => ?_) (fun (h5 : ¬ ((c.1 0 14) < x3)) => ?_)
          · refine ab_go 3 [] ckO_isDue rfl ?_
            have e : fO_isDue c x1 x2 x3 = (0 : Int32) := by simp only [fO_isDue, if_neg h1, if_pos h2, if_pos h3, if_neg h4, if_pos h5]
            exact ab_zret ckO_isDue rfl rfl (Or.inl rfl) ⟨(congrArg (fun q : Int32 => some (Value.int q)) e).symm, rfl⟩
          · refine ab_go 4 [] ckO_isDue rfl ?_
            have e : fO_isDue c x1 x2 x3 = (1 : Int32) := by simp only [fO_isDue, if_neg h1, if_pos h2, if_pos h3, if_neg h4, if_neg h5]
            exact ab_zret ckO_isDue rfl rfl (Or.inr rfl) ⟨(congrArg (fun q : Int32 => some (Value.int q)) e).symm, rfl⟩
def fO_noteSent (c : cs_S) (x1 : Int64) (x2 : Int32) : cs_S := (cs_u (cs_d (cs_u (cs_u c 0 13 (1 : Int32)) 0 14 (0 : Int32)) x1) 0 15 x2)
theorem tO_noteSent {x1 : Int64} {x2 : Int32} : ab_M X mO_noteSent (d) 0 0 [.ref 22, .long x1, .int x2] (cs_H c rest) (fun r9 h9 => r9 = none ∧ h9 = cs_H (fO_noteSent c x1 x2) rest) := by
  refine ab_entry (by decide) (Nat.le_of_ble_eq_true rfl) ?_
  refine ab_go 14 [] ckO_noteSent rfl ?_
  have e : fO_noteSent c x1 x2 = (cs_u (cs_d (cs_u (cs_u c 0 13 (1 : Int32)) 0 14 (0 : Int32)) x1) 0 15 x2) := by simp only [fO_noteSent]
  exact ab_vret ckO_noteSent rfl rfl ⟨rfl, (congrArg (fun q : cs_S => cs_H q rest) e).symm⟩
def fP_comeUp (c : cs_S)  : cs_S := (cs_u (cs_u c 0 8 (1 : Int32)) 0 9 (0 : Int32))
theorem tP_comeUp : ab_M X mP_comeUp (d) 0 0 [.ref 19] (cs_H c rest) (fun r9 h9 => r9 = none ∧ h9 = cs_H (fP_comeUp c) rest) := by
  refine ab_entry (by decide) (Nat.le_of_ble_eq_true rfl) ?_
  refine ab_go 8 [] ckP_comeUp rfl ?_
  have e : fP_comeUp c = (cs_u (cs_u c 0 8 (1 : Int32)) 0 9 (0 : Int32)) := by simp only [fP_comeUp]
  exact ab_vret ckP_comeUp rfl rfl ⟨rfl, (congrArg (fun q : cs_S => cs_H q rest) e).symm⟩
def fP_current (c : cs_S)  : Int32 := (c.1 0 8)
theorem tP_current : ab_M X mP_current (d) 0 0 [.ref 19] (cs_H c rest) (fun r9 h9 => r9 = some (Value.int (fP_current c)) ∧ h9 = cs_H c rest) := by
  refine ab_entry (by decide) (Nat.le_of_ble_eq_true rfl) ?_
  refine ab_go 4 [] ckP_current rfl ?_
  have e : fP_current c = (c.1 0 8) := by simp only [fP_current]
  exact ab_iret ckP_current rfl rfl ⟨(congrArg (fun q : Int32 => some (Value.int q)) e).symm, rfl⟩
def fP_isEnabled (c : cs_S)  : Int32 := (if (c.1 0 8) = (4 : Int32) then (1 : Int32) else (0 : Int32))
theorem tP_isEnabled : ab_M X mP_isEnabled (d) 0 0 [.ref 19] (cs_H c rest) (fun r9 h9 => r9 = some (Value.int (fP_isEnabled c)) ∧ h9 = cs_H c rest) := by
  refine ab_entry (by decide) (Nat.le_of_ble_eq_true rfl) ?_
  refine ab_go 5 [] ckP_isEnabled rfl ?_
  refine ab_icmp_ne ckP_isEnabled rfl (fun (h1 : ¬ ((c.1 0 8) = (4 : Int32))) => ?_) (fun (h1 : (c.1 0 8) = (4 : Int32)) => ?_)
  · refine ab_go 3 [] ckP_isEnabled rfl ?_
    have e : fP_isEnabled c = (0 : Int32) := by simp only [fP_isEnabled, if_neg h1]
    exact ab_zret ckP_isEnabled rfl rfl (Or.inl rfl) ⟨(congrArg (fun q : Int32 => some (Value.int q)) e).symm, rfl⟩
  · refine ab_go 4 [] ckP_isEnabled rfl ?_
    have e : fP_isEnabled c = (1 : Int32) := by simp only [fP_isEnabled, if_pos h1]
    exact ab_zret ckP_isEnabled rfl rfl (Or.inr rfl) ⟨(congrArg (fun q : Int32 => some (Value.int q)) e).symm, rfl⟩
def fP_isStageOn (c : cs_S)  : Int32 := (if (c.1 0 8) = (4 : Int32) then (1 : Int32) else (if (c.1 0 8) = (5 : Int32) then (1 : Int32) else (if (c.1 0 8) = (6 : Int32) then (1 : Int32) else (0 : Int32))))
theorem tP_isStageOn : ab_M X mP_isStageOn (d) 0 0 [.ref 19] (cs_H c rest) (fun r9 h9 => r9 = some (Value.int (fP_isStageOn c)) ∧ h9 = cs_H c rest) := by
  refine ab_entry (by decide) (Nat.le_of_ble_eq_true rfl) ?_
  refine ab_go 5 [] ckP_isStageOn rfl ?_
  refine ab_icmp_eq ckP_isStageOn rfl (fun (h1 : (c.1 0 8) = (4 : Int32)) => ?_) (fun (h1 : ¬ ((c.1 0 8) = (4 : Int32))) => ?_)
  · refine ab_go 4 [] ckP_isStageOn rfl ?_
    have e : fP_isStageOn c = (1 : Int32) := by simp only [fP_isStageOn, if_pos h1]
    exact ab_zret ckP_isStageOn rfl rfl (Or.inr rfl) ⟨(congrArg (fun q : Int32 => some (Value.int q)) e).symm, rfl⟩
  · refine ab_go 5 [] ckP_isStageOn rfl ?_
    refine ab_icmp_eq ckP_isStageOn rfl (fun (h2 : (c.1 0 8) = (5 : Int32)) => ?_) (fun (h2 : ¬ ((c.1 0 8) = (5 : Int32))) => ?_)
    · refine ab_go 4 [] ckP_isStageOn rfl ?_
      have e : fP_isStageOn c = (1 : Int32) := by simp only [fP_isStageOn, if_neg h1, if_pos h2]
      exact ab_zret ckP_isStageOn rfl rfl (Or.inr rfl) ⟨(congrArg (fun q : Int32 => some (Value.int q)) e).symm, rfl⟩
    · refine ab_go 5 [] ckP_isStageOn rfl ?_
      refine ab_icmp_ne ckP_isStageOn rfl (fun (h3 : ¬ ((c.1 0 8) = (6 : Int32))) => ?_) (fun (h3 : (c.1 0 8) = (6 : Int32)) => ?_)
      · refine ab_go 3 [] ckP_isStageOn rfl ?_
        have e : fP_isStageOn c = (0 : Int32) := by simp only [fP_isStageOn, if_neg h1, if_neg h2, if_neg h3]
        exact ab_zret ckP_isStageOn rfl rfl (Or.inl rfl) ⟨(congrArg (fun q : Int32 => some (Value.int q)) e).symm, rfl⟩
      · refine ab_go 4 [] ckP_isStageOn rfl ?_
        have e : fP_isStageOn c = (1 : Int32) := by simp only [fP_isStageOn, if_neg h1, if_neg h2, if_pos h3]
        exact ab_zret ckP_isStageOn rfl rfl (Or.inr rfl) ⟨(congrArg (fun q : Int32 => some (Value.int q)) e).symm, rfl⟩
def fP_fail (c : cs_S)  : Int32 × cs_S := (if (c.1 0 8) = (6 : Int32) then ((0 : Int32), c) else (if (c.1 0 8) = (7 : Int32) then ((0 : Int32), c) else (if (fP_isStageOn c) = 0 then ((1 : Int32), (cs_u c 0 8 (7 : Int32))) else ((1 : Int32), (cs_u c 0 8 (6 : Int32))))))
theorem tP_fail : ab_M X mP_fail (d + 1) 0 0 [.ref 19] (cs_H c rest) (fun r9 h9 => r9 = some (Value.int (fP_fail c).1) ∧ h9 = cs_H (fP_fail c).2 rest) := by
  refine ab_entry (by decide) (Nat.le_of_ble_eq_true rfl) ?_
  refine ab_go 5 [] ckP_fail rfl ?_
  refine ab_icmp_eq ckP_fail rfl (fun (h1 : (c.1 0 8) = (6 : Int32)) => ?_) (fun (h1 : ¬ ((c.1 0 8) = (6 : Int32))) => ?_)
  · refine ab_go 3 [] ckP_fail rfl ?_
    have e : fP_fail c = ((0 : Int32), c) := by simp only [fP_fail, if_pos h1]
    exact ab_zret ckP_fail rfl rfl (Or.inl rfl) ⟨(congrArg (fun q : Int32 × cs_S => some (Value.int q.1)) e).symm, (congrArg (fun q : Int32 × cs_S => cs_H q.2 rest) e).symm⟩
  · refine ab_go 5 [] ckP_fail rfl ?_
    refine ab_icmp_ne ckP_fail rfl (fun (h2 : ¬ ((c.1 0 8) = (7 : Int32))) => ?_) (fun (h2 : (c.1 0 8) = (7 : Int32)) => ?_)
    · refine ab_go 4 [] ckP_fail rfl ?_
      refine ab_callV (bc2 := 0) (bs2 := 0) (as := []) (rest := [_]) ckP_fail rfl (by decide +kernel) wP_isStageOn (tP_isStageOn (d := d) (c := c)) rfl rfl (by omega) ⟨Nat.le_refl _, Nat.le_refl _⟩ (Nat.le_of_ble_eq_true rfl) ?_
      rintro _ _ ⟨rfl, rfl⟩
      refine ab_if_eq ckP_fail rfl (fun (h3 : (fP_isStageOn c) = 0) => ?_) (fun (h3 : ¬ ((fP_isStageOn c) = 0)) => ?_)
      · refine ab_go 5 [] ckP_fail rfl ?_
        have e : fP_fail c = ((1 : Int32), (cs_u c 0 8 (7 : Int32))) := by simp only [fP_fail, if_neg h1, if_neg h2, if_pos h3]
        exact ab_zret ckP_fail rfl rfl (Or.inr rfl) ⟨(congrArg (fun q : Int32 × cs_S => some (Value.int q.1)) e).symm, (congrArg (fun q : Int32 × cs_S => cs_H q.2 rest) e).symm⟩
      · refine ab_go 6 [] ckP_fail rfl ?_
        have e : fP_fail c = ((1 : Int32), (cs_u c 0 8 (6 : Int32))) := by simp only [fP_fail, if_neg h1, if_neg h2, if_neg h3]
        exact ab_zret ckP_fail rfl rfl (Or.inr rfl) ⟨(congrArg (fun q : Int32 × cs_S => some (Value.int q.1)) e).symm, (congrArg (fun q : Int32 × cs_S => cs_H q.2 rest) e).symm⟩
    · refine ab_go 3 [] ckP_fail rfl ?_
      have e : fP_fail c = ((0 : Int32), c) := by simp only [fP_fail, if_neg h1, if_pos h2]
      exact ab_zret ckP_fail rfl rfl (Or.inl rfl) ⟨(congrArg (fun q : Int32 × cs_S => some (Value.int q.1)) e).symm, (congrArg (fun q : Int32 × cs_S => cs_H q.2 rest) e).symm⟩
def fP_orderOf (c : cs_S) (x1 : Int32) : Int32 × cs_S := (if (x1 &&& (128 : Int32)) = 0 then (if (x1 &&& (2 : Int32)) = 0 then ((2 : Int32), (cs_u c 0 9 (0 : Int32))) else (if (x1 &&& (4 : Int32)) = 0 then ((3 : Int32), (cs_u c 0 9 (0 : Int32))) else (if (x1 &&& (1 : Int32)) = 0 then ((4 : Int32), (cs_u c 0 9 (0 : Int32))) else (if (x1 &&& (8 : Int32)) = 0 then ((5 : Int32), (cs_u c 0 9 (0 : Int32))) else ((6 : Int32), (cs_u c 0 9 (0 : Int32))))))) else (if (c.1 0 9) = 0 then ((1 : Int32), (cs_u c 0 9 (1 : Int32))) else ((0 : Int32), (cs_u c 0 9 (1 : Int32)))))
theorem tP_orderOf {x1 : Int32} : ab_M X mP_orderOf (d) 0 0 [.ref 19, .int x1] (cs_H c rest) (fun r9 h9 => r9 = some (Value.int (fP_orderOf c x1).1) ∧ h9 = cs_H (fP_orderOf c x1).2 rest) := by
  refine ab_entry (by decide) (Nat.le_of_ble_eq_true rfl) ?_
  refine ab_go 5 [] ckP_orderOf rfl ?_
  refine ab_if_eq ckP_orderOf rfl (fun (h1 : (x1 &&& (128 : Int32)) = 0) => ?_) (fun (h1 : ¬ ((x1 &&& (128 : Int32)) = 0)) => ?_)
  · refine ab_go 5 [] ckP_orderOf rfl ?_
    refine ab_if_eq ckP_orderOf rfl (fun _ => ?_) (fun hh => absurd hh (by decide))
    refine ab_go 6 [] ckP_orderOf rfl ?_
    refine ab_putfR ckP_orderOf rfl rfl (Nat.le_of_ble_eq_true rfl) (ab_fitB (Or.inl rfl)) (fun q z => by cases z) ?_
    refine ab_go 3 [] ckP_orderOf rfl ?_
    refine ab_if_eq ckP_orderOf rfl (fun _ => ?_) (fun hh => absurd hh (by decide))
    refine ab_go 5 [] ckP_orderOf rfl ?_
    refine ab_if_ne ckP_orderOf rfl (fun (h2 : ¬ ((x1 &&& (2 : Int32)) = 0)) => ?_) (fun (h2 : (x1 &&& (2 : Int32)) = 0) => ?_)
    · refine ab_go 5 [] ckP_orderOf rfl ?_
      refine ab_if_ne ckP_orderOf rfl (fun (h3 : ¬ ((x1 &&& (4 : Int32)) = 0)) => ?_) (fun (h3 : (x1 &&& (4 : Int32)) = 0) => ?_)
      · refine ab_go 5 [] ckP_orderOf rfl ?_
        refine ab_if_ne ckP_orderOf rfl (fun (h4 : ¬ ((x1 &&& (1 : Int32)) = 0)) => ?_) (fun (h4 : (x1 &&& (1 : Int32)) = 0) => ?_)
        · refine ab_go 5 [] ckP_orderOf rfl ?_
          refine ab_if_ne ckP_orderOf rfl (fun (h5 : ¬ ((x1 &&& (8 : Int32)) = 0)) => ?_) (fun (h5 : (x1 &&& (8 : Int32)) = 0) => ?_)
          · refine ab_go 3 [] ckP_orderOf rfl ?_
            have e : fP_orderOf c x1 = ((6 : Int32), (cs_u c 0 9 (0 : Int32))) := by simp only [fP_orderOf, if_pos h1, if_neg h2, if_neg h3, if_neg h4, if_neg h5]
            exact ab_iret ckP_orderOf rfl rfl ⟨(congrArg (fun q : Int32 × cs_S => some (Value.int q.1)) e).symm, (congrArg (fun q : Int32 × cs_S => cs_H q.2 rest) e).symm⟩
          · refine ab_go 4 [] ckP_orderOf rfl ?_
            have e : fP_orderOf c x1 = ((5 : Int32), (cs_u c 0 9 (0 : Int32))) := by simp only [fP_orderOf, if_pos h1, if_neg h2, if_neg h3, if_neg h4, if_pos h5]
            exact ab_iret ckP_orderOf rfl rfl ⟨(congrArg (fun q : Int32 × cs_S => some (Value.int q.1)) e).symm, (congrArg (fun q : Int32 × cs_S => cs_H q.2 rest) e).symm⟩
        · refine ab_go 3 [] ckP_orderOf rfl ?_
          have e : fP_orderOf c x1 = ((4 : Int32), (cs_u c 0 9 (0 : Int32))) := by simp only [fP_orderOf, if_pos h1, if_neg h2, if_neg h3, if_pos h4]
          exact ab_iret ckP_orderOf rfl rfl ⟨(congrArg (fun q : Int32 × cs_S => some (Value.int q.1)) e).symm, (congrArg (fun q : Int32 × cs_S => cs_H q.2 rest) e).symm⟩
      · refine ab_go 3 [] ckP_orderOf rfl ?_
        have e : fP_orderOf c x1 = ((3 : Int32), (cs_u c 0 9 (0 : Int32))) := by simp only [fP_orderOf, if_pos h1, if_neg h2, if_pos h3]
        exact ab_iret ckP_orderOf rfl rfl ⟨(congrArg (fun q : Int32 × cs_S => some (Value.int q.1)) e).symm, (congrArg (fun q : Int32 × cs_S => cs_H q.2 rest) e).symm⟩
    · refine ab_go 3 [] ckP_orderOf rfl ?_
      have e : fP_orderOf c x1 = ((2 : Int32), (cs_u c 0 9 (0 : Int32))) := by simp only [fP_orderOf, if_pos h1, if_pos h2]
      exact ab_iret ckP_orderOf rfl rfl ⟨(congrArg (fun q : Int32 × cs_S => some (Value.int q.1)) e).symm, (congrArg (fun q : Int32 × cs_S => cs_H q.2 rest) e).symm⟩
  · refine ab_go 6 [] ckP_orderOf rfl ?_
    refine ab_if_eq ckP_orderOf rfl (fun hh => absurd hh (by decide)) (fun _ => ?_)
    refine ab_go 4 [] ckP_orderOf rfl ?_
    refine ab_if_ne ckP_orderOf rfl (fun (h6 : ¬ ((c.1 0 9) = 0)) => ?_) (fun (h6 : (c.1 0 9) = 0) => ?_)
    · refine ab_go 6 [] ckP_orderOf rfl ?_
      refine ab_putfR ckP_orderOf rfl rfl (Nat.le_of_ble_eq_true rfl) (ab_fitB (Or.inr rfl)) (fun q z => by cases z) ?_
      refine ab_go 3 [] ckP_orderOf rfl ?_
      refine ab_if_eq ckP_orderOf rfl (fun hh => absurd hh (by decide)) (fun _ => ?_)
      refine ab_go 3 [] ckP_orderOf rfl ?_
      refine ab_if_eq ckP_orderOf rfl (fun _ => ?_) (fun hh => absurd hh (by decide))
      refine ab_go 3 [] ckP_orderOf rfl ?_
      have e : fP_orderOf c x1 = ((0 : Int32), (cs_u c 0 9 (1 : Int32))) := by simp only [fP_orderOf, if_neg h1, if_neg h6]
      exact ab_iret ckP_orderOf rfl rfl ⟨(congrArg (fun q : Int32 × cs_S => some (Value.int q.1)) e).symm, (congrArg (fun q : Int32 × cs_S => cs_H q.2 rest) e).symm⟩
    · refine ab_go 7 [] ckP_orderOf rfl ?_
      refine ab_putfR ckP_orderOf rfl rfl (Nat.le_of_ble_eq_true rfl) (ab_fitB (Or.inr rfl)) (fun q z => by cases z) ?_
      refine ab_go 3 [] ckP_orderOf rfl ?_
      refine ab_if_eq ckP_orderOf rfl (fun hh => absurd hh (by decide)) (fun _ => ?_)
      refine ab_go 3 [] ckP_orderOf rfl ?_
      refine ab_if_eq ckP_orderOf rfl (fun hh => absurd hh (by decide)) (fun _ => ?_)
      refine ab_go 4 [] ckP_orderOf rfl ?_
      have e : fP_orderOf c x1 = ((1 : Int32), (cs_u c 0 9 (1 : Int32))) := by simp only [fP_orderOf, if_neg h1, if_pos h6]
      exact ab_iret ckP_orderOf rfl rfl ⟨(congrArg (fun q : Int32 × cs_S => some (Value.int q.1)) e).symm, (congrArg (fun q : Int32 × cs_S => cs_H q.2 rest) e).symm⟩
def fP_afterReady (x1 : Int32) : Int32 := (if x1 = (5 : Int32) then (3 : Int32) else (if x1 = (6 : Int32) then (3 : Int32) else (if x1 = (2 : Int32) then (1 : Int32) else (if x1 = (3 : Int32) then (1 : Int32) else (2 : Int32)))))
theorem tP_afterReady {x1 : Int32} : ab_M X mP_afterReady (d) 0 0 [.int x1] (hp) (fun r9 h9 => r9 = some (Value.int (fP_afterReady x1)) ∧ h9 = hp) := by
  refine ab_entry (by decide) (Nat.le_of_ble_eq_true rfl) ?_
  refine ab_go 4 [] ckP_afterReady rfl ?_
  refine ab_icmp_eq ckP_afterReady rfl (fun (h1 : x1 = (5 : Int32)) => ?_) (fun (h1 : ¬ (x1 = (5 : Int32))) => ?_)
  · refine ab_go 3 [] ckP_afterReady rfl ?_
    have e : fP_afterReady x1 = (3 : Int32) := by simp only [fP_afterReady, if_pos h1]
    exact ab_iret ckP_afterReady rfl rfl ⟨(congrArg (fun q : Int32 => some (Value.int q)) e).symm, rfl⟩
  · refine ab_go 4 [] ckP_afterReady rfl ?_
    refine ab_icmp_ne ckP_afterReady rfl (fun (h2 : ¬ (x1 = (6 : Int32))) => ?_) (fun (h2 : x1 = (6 : Int32)) => ?_)
    · refine ab_go 4 [] ckP_afterReady rfl ?_
      refine ab_icmp_eq ckP_afterReady rfl (fun (h3 : x1 = (2 : Int32)) => ?_) (fun (h3 : ¬ (x1 = (2 : Int32))) => ?_)
      · refine ab_go 4 [] ckP_afterReady rfl ?_
        have e : fP_afterReady x1 = (1 : Int32) := by simp only [fP_afterReady, if_neg h1, if_neg h2, if_pos h3]
        exact ab_iret ckP_afterReady rfl rfl ⟨(congrArg (fun q : Int32 => some (Value.int q)) e).symm, rfl⟩
      · refine ab_go 4 [] ckP_afterReady rfl ?_
        refine ab_icmp_ne ckP_afterReady rfl (fun (h4 : ¬ (x1 = (3 : Int32))) => ?_) (fun (h4 : x1 = (3 : Int32)) => ?_)
        · refine ab_go 3 [] ckP_afterReady rfl ?_
          have e : fP_afterReady x1 = (2 : Int32) := by simp only [fP_afterReady, if_neg h1, if_neg h2, if_neg h3, if_neg h4]
          exact ab_iret ckP_afterReady rfl rfl ⟨(congrArg (fun q : Int32 => some (Value.int q)) e).symm, rfl⟩
        · refine ab_go 4 [] ckP_afterReady rfl ?_
          have e : fP_afterReady x1 = (1 : Int32) := by simp only [fP_afterReady, if_neg h1, if_neg h2, if_neg h3, if_pos h4]
          exact ab_iret ckP_afterReady rfl rfl ⟨(congrArg (fun q : Int32 => some (Value.int q)) e).symm, rfl⟩
    · refine ab_go 3 [] ckP_afterReady rfl ?_
      have e : fP_afterReady x1 = (3 : Int32) := by simp only [fP_afterReady, if_neg h1, if_pos h2]
      exact ab_iret ckP_afterReady rfl rfl ⟨(congrArg (fun q : Int32 => some (Value.int q)) e).symm, rfl⟩
def fP_afterSwitchedOn (x1 : Int32) : Int32 := (if x1 = (2 : Int32) then (1 : Int32) else (if x1 = (3 : Int32) then (1 : Int32) else (if x1 = (4 : Int32) then (2 : Int32) else (if x1 = (5 : Int32) then (3 : Int32) else (if x1 = (6 : Int32) then (4 : Int32) else (3 : Int32))))))
theorem tP_afterSwitchedOn {x1 : Int32} : ab_M X mP_afterSwitchedOn (d) 0 0 [.int x1] (hp) (fun r9 h9 => r9 = some (Value.int (fP_afterSwitchedOn x1)) ∧ h9 = hp) := by
  refine ab_entry (by decide) (Nat.le_of_ble_eq_true rfl) ?_
  refine ab_go 3 [] ckP_afterSwitchedOn rfl ?_
  by_cases h1 : x1 = (2 : Int32)
  · refine ab_tswI (tgt := 40) (off := 39) ckP_afterSwitchedOn rfl h1 (by decide) (by decide) rfl (by decide) ?_
    refine ab_go 3 [] ckP_afterSwitchedOn rfl ?_
    have e : fP_afterSwitchedOn x1 = (1 : Int32) := by simp only [fP_afterSwitchedOn, if_pos h1]
    exact ab_iret ckP_afterSwitchedOn rfl rfl ⟨(congrArg (fun q : Int32 => some (Value.int q)) e).symm, rfl⟩
  by_cases h2 : x1 = (3 : Int32)
  · refine ab_tswI (tgt := 40) (off := 39) ckP_afterSwitchedOn rfl h2 (by decide) (by decide) rfl (by decide) ?_
    refine ab_go 3 [] ckP_afterSwitchedOn rfl ?_
    have e : fP_afterSwitchedOn x1 = (1 : Int32) := by simp only [fP_afterSwitchedOn, if_neg h1, if_pos h2]
    exact ab_iret ckP_afterSwitchedOn rfl rfl ⟨(congrArg (fun q : Int32 => some (Value.int q)) e).symm, rfl⟩
  by_cases h3 : x1 = (4 : Int32)
  · refine ab_tswI (tgt := 38) (off := 37) ckP_afterSwitchedOn rfl h3 (by decide) (by decide) rfl (by decide) ?_
    refine ab_go 3 [] ckP_afterSwitchedOn rfl ?_
    have e : fP_afterSwitchedOn x1 = (2 : Int32) := by simp only [fP_afterSwitchedOn, if_neg h1, if_neg h2, if_pos h3]
    exact ab_iret ckP_afterSwitchedOn rfl rfl ⟨(congrArg (fun q : Int32 => some (Value.int q)) e).symm, rfl⟩
  by_cases h4 : x1 = (5 : Int32)
  · refine ab_tswI (tgt := 42) (off := 41) ckP_afterSwitchedOn rfl h4 (by decide) (by decide) rfl (by decide) ?_
    refine ab_go 3 [] ckP_afterSwitchedOn rfl ?_
    have e : fP_afterSwitchedOn x1 = (3 : Int32) := by simp only [fP_afterSwitchedOn, if_neg h1, if_neg h2, if_neg h3, if_pos h4]
    exact ab_iret ckP_afterSwitchedOn rfl rfl ⟨(congrArg (fun q : Int32 => some (Value.int q)) e).symm, rfl⟩
  by_cases h5 : x1 = (6 : Int32)
  · refine ab_tswI (tgt := 36) (off := 35) ckP_afterSwitchedOn rfl h5 (by decide) (by decide) rfl (by decide) ?_
    refine ab_go 3 [] ckP_afterSwitchedOn rfl ?_
    have e : fP_afterSwitchedOn x1 = (4 : Int32) := by simp only [fP_afterSwitchedOn, if_neg h1, if_neg h2, if_neg h3, if_neg h4, if_pos h5]
    exact ab_iret ckP_afterSwitchedOn rfl rfl ⟨(congrArg (fun q : Int32 => some (Value.int q)) e).symm, rfl⟩
  refine ab_tswO (tgt := 42) ckP_afterSwitchedOn rfl (by have a0 := lv_neT h1 (show (2 : Int32).toInt = 2 by decide); have a1 := lv_neT h2 (show (3 : Int32).toInt = 3 by decide); have a2 := lv_neT h3 (show (4 : Int32).toInt = 4 by decide); have a3 := lv_neT h4 (show (5 : Int32).toInt = 5 by decide); have a4 := lv_neT h5 (show (6 : Int32).toInt = 6 by decide); omega) (by decide) ?_
  refine ab_go 3 [] ckP_afterSwitchedOn rfl ?_
  have e : fP_afterSwitchedOn x1 = (3 : Int32) := by simp only [fP_afterSwitchedOn, if_neg h1, if_neg h2, if_neg h3, if_neg h4, if_neg h5]
  exact ab_iret ckP_afterSwitchedOn rfl rfl ⟨(congrArg (fun q : Int32 => some (Value.int q)) e).symm, rfl⟩
def fP_afterEnabled (x1 : Int32) : Int32 := (if x1 = (2 : Int32) then (1 : Int32) else (if x1 = (3 : Int32) then (5 : Int32) else (if x1 = (4 : Int32) then (2 : Int32) else (if x1 = (5 : Int32) then (3 : Int32) else (4 : Int32)))))
theorem tP_afterEnabled {x1 : Int32} : ab_M X mP_afterEnabled (d) 0 0 [.int x1] (hp) (fun r9 h9 => r9 = some (Value.int (fP_afterEnabled x1)) ∧ h9 = hp) := by
  refine ab_entry (by decide) (Nat.le_of_ble_eq_true rfl) ?_
  refine ab_go 3 [] ckP_afterEnabled rfl ?_
  by_cases h1 : x1 = (2 : Int32)
  · refine ab_tswI (tgt := 36) (off := 35) ckP_afterEnabled rfl h1 (by decide) (by decide) rfl (by decide) ?_
    refine ab_go 3 [] ckP_afterEnabled rfl ?_
    have e : fP_afterEnabled x1 = (1 : Int32) := by simp only [fP_afterEnabled, if_pos h1]
    exact ab_iret ckP_afterEnabled rfl rfl ⟨(congrArg (fun q : Int32 => some (Value.int q)) e).symm, rfl⟩
  by_cases h2 : x1 = (3 : Int32)
  · refine ab_tswI (tgt := 38) (off := 37) ckP_afterEnabled rfl h2 (by decide) (by decide) rfl (by decide) ?_
    refine ab_go 3 [] ckP_afterEnabled rfl ?_
    have e : fP_afterEnabled x1 = (5 : Int32) := by simp only [fP_afterEnabled, if_neg h1, if_pos h2]
    exact ab_iret ckP_afterEnabled rfl rfl ⟨(congrArg (fun q : Int32 => some (Value.int q)) e).symm, rfl⟩
  by_cases h3 : x1 = (4 : Int32)
  · refine ab_tswI (tgt := 34) (off := 33) ckP_afterEnabled rfl h3 (by decide) (by decide) rfl (by decide) ?_
    refine ab_go 3 [] ckP_afterEnabled rfl ?_
    have e : fP_afterEnabled x1 = (2 : Int32) := by simp only [fP_afterEnabled, if_neg h1, if_neg h2, if_pos h3]
    exact ab_iret ckP_afterEnabled rfl rfl ⟨(congrArg (fun q : Int32 => some (Value.int q)) e).symm, rfl⟩
  by_cases h4 : x1 = (5 : Int32)
  · refine ab_tswI (tgt := 32) (off := 31) ckP_afterEnabled rfl h4 (by decide) (by decide) rfl (by decide) ?_
    refine ab_go 3 [] ckP_afterEnabled rfl ?_
    have e : fP_afterEnabled x1 = (3 : Int32) := by simp only [fP_afterEnabled, if_neg h1, if_neg h2, if_neg h3, if_pos h4]
    exact ab_iret ckP_afterEnabled rfl rfl ⟨(congrArg (fun q : Int32 => some (Value.int q)) e).symm, rfl⟩
  refine ab_tswO (tgt := 40) ckP_afterEnabled rfl (by have a0 := lv_neT h1 (show (2 : Int32).toInt = 2 by decide); have a1 := lv_neT h2 (show (3 : Int32).toInt = 3 by decide); have a2 := lv_neT h3 (show (4 : Int32).toInt = 4 by decide); have a3 := lv_neT h4 (show (5 : Int32).toInt = 5 by decide); omega) (by decide) ?_
  refine ab_go 3 [] ckP_afterEnabled rfl ?_
  have e : fP_afterEnabled x1 = (4 : Int32) := by simp only [fP_afterEnabled, if_neg h1, if_neg h2, if_neg h3, if_neg h4]
  exact ab_iret ckP_afterEnabled rfl rfl ⟨(congrArg (fun q : Int32 => some (Value.int q)) e).symm, rfl⟩
def fP_stateAfter (c : cs_S) (x1 : Int32) (x2 : Int32) : Int32 := (if (c.1 0 8) = (1 : Int32) then (if x1 = (4 : Int32) then (2 : Int32) else (1 : Int32)) else (if (c.1 0 8) = (2 : Int32) then (fP_afterReady x1) else (if (c.1 0 8) = (3 : Int32) then (fP_afterSwitchedOn x1) else (if (c.1 0 8) = (4 : Int32) then (fP_afterEnabled x1) else (if (c.1 0 8) = (5 : Int32) then (if x1 = (2 : Int32) then (1 : Int32) else (if x2 = 0 then (5 : Int32) else (1 : Int32))) else (if (c.1 0 8) = (6 : Int32) then (if x2 = 0 then (6 : Int32) else (7 : Int32)) else (if x1 = (1 : Int32) then (1 : Int32) else (7 : Int32))))))))
theorem tP_stateAfter {x1 : Int32} {x2 : Int32} : ab_M X mP_stateAfter (d + 1) 0 0 [.ref 19, .int x1, .int x2] (cs_H c rest) (fun r9 h9 => r9 = some (Value.int (fP_stateAfter c x1 x2)) ∧ h9 = cs_H c rest) := by
  refine ab_entry (by decide) (Nat.le_of_ble_eq_true rfl) ?_
  refine ab_go 4 [] ckP_stateAfter rfl ?_
  by_cases h1 : (c.1 0 8) = (1 : Int32)
  · refine ab_tswI (tgt := 44) (off := 40) ckP_stateAfter rfl h1 (by decide) (by decide) rfl (by decide) ?_
    refine ab_go 4 [] ckP_stateAfter rfl ?_
    refine ab_icmp_ne ckP_stateAfter rfl (fun (h2 : ¬ (x1 = (4 : Int32))) => ?_) (fun (h2 : x1 = (4 : Int32)) => ?_)
    · refine ab_go 3 [] ckP_stateAfter rfl ?_
      have e : fP_stateAfter c x1 x2 = (1 : Int32) := by simp only [fP_stateAfter, if_pos h1, if_neg h2]
      exact ab_iret ckP_stateAfter rfl rfl ⟨(congrArg (fun q : Int32 => some (Value.int q)) e).symm, rfl⟩
    · refine ab_go 4 [] ckP_stateAfter rfl ?_
      have e : fP_stateAfter c x1 x2 = (2 : Int32) := by simp only [fP_stateAfter, if_pos h1, if_pos h2]
      exact ab_iret ckP_stateAfter rfl rfl ⟨(congrArg (fun q : Int32 => some (Value.int q)) e).symm, rfl⟩
  by_cases h3 : (c.1 0 8) = (2 : Int32)
  · refine ab_tswI (tgt := 55) (off := 51) ckP_stateAfter rfl h3 (by decide) (by decide) rfl (by decide) ?_
    refine ab_go 3 [] ckP_stateAfter rfl ?_
    refine ab_callS (bc2 := 0) (bs2 := 0) (as := [_]) (rest := []) ckP_stateAfter rfl (by decide +kernel) wP_afterReady (tP_afterReady (d := d) (x1 := x1)) (by omega) ⟨Nat.le_refl _, Nat.le_refl _⟩ (Nat.le_of_ble_eq_true rfl) ?_
    rintro _ _ ⟨rfl, rfl⟩
    have e : fP_stateAfter c x1 x2 = (fP_afterReady x1) := by simp only [fP_stateAfter, if_neg h1, if_pos h3]
    exact ab_iret ckP_stateAfter rfl rfl ⟨(congrArg (fun q : Int32 => some (Value.int q)) e).symm, rfl⟩
  by_cases h4 : (c.1 0 8) = (3 : Int32)
  · refine ab_tswI (tgt := 60) (off := 56) ckP_stateAfter rfl h4 (by decide) (by decide) rfl (by decide) ?_
    refine ab_go 3 [] ckP_stateAfter rfl ?_
    refine ab_callS (bc2 := 0) (bs2 := 0) (as := [_]) (rest := []) ckP_stateAfter rfl (by decide +kernel) wP_afterSwitchedOn (tP_afterSwitchedOn (d := d) (x1 := x1)) (by omega) ⟨Nat.le_refl _, Nat.le_refl _⟩ (Nat.le_of_ble_eq_true rfl) ?_
    rintro _ _ ⟨rfl, rfl⟩
    have e : fP_stateAfter c x1 x2 = (fP_afterSwitchedOn x1) := by simp only [fP_stateAfter, if_neg h1, if_neg h3, if_pos h4]
    exact ab_iret ckP_stateAfter rfl rfl ⟨(congrArg (fun q : Int32 => some (Value.int q)) e).symm, rfl⟩
  by_cases h5 : (c.1 0 8) = (4 : Int32)
  · refine ab_tswI (tgt := 65) (off := 61) ckP_stateAfter rfl h5 (by decide) (by decide) rfl (by decide) ?_
    refine ab_go 3 [] ckP_stateAfter rfl ?_
    refine ab_callS (bc2 := 0) (bs2 := 0) (as := [_]) (rest := []) ckP_stateAfter rfl (by decide +kernel) wP_afterEnabled (tP_afterEnabled (d := d) (x1 := x1)) (by omega) ⟨Nat.le_refl _, Nat.le_refl _⟩ (Nat.le_of_ble_eq_true rfl) ?_
    rintro _ _ ⟨rfl, rfl⟩
    have e : fP_stateAfter c x1 x2 = (fP_afterEnabled x1) := by simp only [fP_stateAfter, if_neg h1, if_neg h3, if_neg h4, if_pos h5]
    exact ab_iret ckP_stateAfter rfl rfl ⟨(congrArg (fun q : Int32 => some (Value.int q)) e).symm, rfl⟩
  by_cases h6 : (c.1 0 8) = (5 : Int32)
  · refine ab_tswI (tgt := 70) (off := 66) ckP_stateAfter rfl h6 (by decide) (by decide) rfl (by decide) ?_
    refine ab_go 4 [] ckP_stateAfter rfl ?_
    refine ab_icmp_eq ckP_stateAfter rfl (fun (h7 : x1 = (2 : Int32)) => ?_) (fun (h7 : ¬ (x1 = (2 : Int32))) => ?_)
    · refine ab_go 4 [] ckP_stateAfter rfl ?_
      have e : fP_stateAfter c x1 x2 = (1 : Int32) := by simp only [fP_stateAfter, if_neg h1, if_neg h3, if_neg h4, if_neg h5, if_pos h6, if_pos h7]
      exact ab_iret ckP_stateAfter rfl rfl ⟨(congrArg (fun q : Int32 => some (Value.int q)) e).symm, rfl⟩
    · refine ab_go 3 [] ckP_stateAfter rfl ?_
      refine ab_if_eq ckP_stateAfter rfl (fun (h8 : x2 = 0) => ?_) (fun (h8 : ¬ (x2 = 0)) => ?_)
      · refine ab_go 3 [] ckP_stateAfter rfl ?_
        have e : fP_stateAfter c x1 x2 = (5 : Int32) := by simp only [fP_stateAfter, if_neg h1, if_neg h3, if_neg h4, if_neg h5, if_pos h6, if_neg h7, if_pos h8]
        exact ab_iret ckP_stateAfter rfl rfl ⟨(congrArg (fun q : Int32 => some (Value.int q)) e).symm, rfl⟩
      · refine ab_go 4 [] ckP_stateAfter rfl ?_
        have e : fP_stateAfter c x1 x2 = (1 : Int32) := by simp only [fP_stateAfter, if_neg h1, if_neg h3, if_neg h4, if_neg h5, if_pos h6, if_neg h7, if_neg h8]
        exact ab_iret ckP_stateAfter rfl rfl ⟨(congrArg (fun q : Int32 => some (Value.int q)) e).symm, rfl⟩
  by_cases h9 : (c.1 0 8) = (6 : Int32)
  · refine ab_tswI (tgt := 85) (off := 81) ckP_stateAfter rfl h9 (by decide) (by decide) rfl (by decide) ?_
    refine ab_go 3 [] ckP_stateAfter rfl ?_
    refine ab_if_eq ckP_stateAfter rfl (fun (h10 : x2 = 0) => ?_) (fun (h10 : ¬ (x2 = 0)) => ?_)
    · refine ab_go 3 [] ckP_stateAfter rfl ?_
      have e : fP_stateAfter c x1 x2 = (6 : Int32) := by simp only [fP_stateAfter, if_neg h1, if_neg h3, if_neg h4, if_neg h5, if_neg h6, if_pos h9, if_pos h10]
      exact ab_iret ckP_stateAfter rfl rfl ⟨(congrArg (fun q : Int32 => some (Value.int q)) e).symm, rfl⟩
    · refine ab_go 4 [] ckP_stateAfter rfl ?_
      have e : fP_stateAfter c x1 x2 = (7 : Int32) := by simp only [fP_stateAfter, if_neg h1, if_neg h3, if_neg h4, if_neg h5, if_neg h6, if_pos h9, if_neg h10]
      exact ab_iret ckP_stateAfter rfl rfl ⟨(congrArg (fun q : Int32 => some (Value.int q)) e).symm, rfl⟩
  refine ab_tswO (tgt := 97) ckP_stateAfter rfl (by have a0 := lv_neT h1 (show (1 : Int32).toInt = 1 by decide); have a1 := lv_neT h3 (show (2 : Int32).toInt = 2 by decide); have a2 := lv_neT h4 (show (3 : Int32).toInt = 3 by decide); have a3 := lv_neT h5 (show (4 : Int32).toInt = 4 by decide); have a4 := lv_neT h6 (show (5 : Int32).toInt = 5 by decide); have a5 := lv_neT h9 (show (6 : Int32).toInt = 6 by decide); omega) (by decide) ?_
  refine ab_go 4 [] ckP_stateAfter rfl ?_
  refine ab_icmp_ne ckP_stateAfter rfl (fun (h11 : ¬ (x1 = (1 : Int32))) => ?_) (fun (h11 : x1 = (1 : Int32)) => ?_)
  · refine ab_go 3 [] ckP_stateAfter rfl ?_
    have e : fP_stateAfter c x1 x2 = (7 : Int32) := by simp only [fP_stateAfter, if_neg h1, if_neg h3, if_neg h4, if_neg h5, if_neg h6, if_neg h9, if_neg h11]
    exact ab_iret ckP_stateAfter rfl rfl ⟨(congrArg (fun q : Int32 => some (Value.int q)) e).symm, rfl⟩
  · refine ab_go 4 [] ckP_stateAfter rfl ?_
    have e : fP_stateAfter c x1 x2 = (1 : Int32) := by simp only [fP_stateAfter, if_neg h1, if_neg h3, if_neg h4, if_neg h5, if_neg h6, if_neg h9, if_pos h11]
    exact ab_iret ckP_stateAfter rfl rfl ⟨(congrArg (fun q : Int32 => some (Value.int q)) e).symm, rfl⟩
def fP_obey (c : cs_S) (x1 : Int32) (x2 : Int32) : Int32 × cs_S := (if (c.1 0 8) = (7 : Int32) then (if (fP_stateAfter c x1 x2) = (7 : Int32) then ((0 : Int32), (cs_u c 0 8 (fP_stateAfter c x1 x2))) else ((1 : Int32), (cs_u c 0 8 (fP_stateAfter c x1 x2)))) else ((0 : Int32), (cs_u c 0 8 (fP_stateAfter c x1 x2))))
theorem tP_obey {x1 : Int32} {x2 : Int32} : ab_M X mP_obey (d + 2) 0 0 [.ref 19, .int x1, .int x2] (cs_H c rest) (fun r9 h9 => r9 = some (Value.int (fP_obey c x1 x2).1) ∧ h9 = cs_H (fP_obey c x1 x2).2 rest) := by
  refine ab_entry (by decide) (Nat.le_of_ble_eq_true rfl) ?_
  refine ab_go 5 [] ckP_obey rfl ?_
  refine ab_icmp_ne ckP_obey rfl (fun (h1 : ¬ ((c.1 0 8) = (7 : Int32))) => ?_) (fun (h1 : (c.1 0 8) = (7 : Int32)) => ?_)
  · refine ab_go 8 [] ckP_obey rfl ?_
    refine ab_callV (bc2 := 0) (bs2 := 0) (as := [_, _]) (rest := [_]) ckP_obey rfl (by decide +kernel) wP_stateAfter (tP_stateAfter (d := d) (x1 := x1) (x2 := x2) (c := c)) rfl rfl (by omega) ⟨Nat.le_refl _, Nat.le_refl _⟩ (Nat.le_of_ble_eq_true rfl) ?_
    rintro _ _ ⟨rfl, rfl⟩
    refine ab_go 4 [] ckP_obey rfl ?_
    refine ab_if_eq ckP_obey rfl (fun _ => ?_) (fun hh => absurd hh (by decide))
    refine ab_go 3 [] ckP_obey rfl ?_
    have e : fP_obey c x1 x2 = ((0 : Int32), (cs_u c 0 8 (fP_stateAfter c x1 x2))) := by simp only [fP_obey, if_neg h1]
    exact ab_zret ckP_obey rfl rfl (Or.inl rfl) ⟨(congrArg (fun q : Int32 × cs_S => some (Value.int q.1)) e).symm, (congrArg (fun q : Int32 × cs_S => cs_H q.2 rest) e).symm⟩
  · refine ab_go 9 [] ckP_obey rfl ?_
    refine ab_callV (bc2 := 0) (bs2 := 0) (as := [_, _]) (rest := [_]) ckP_obey rfl (by decide +kernel) wP_stateAfter (tP_stateAfter (d := d) (x1 := x1) (x2 := x2) (c := c)) rfl rfl (by omega) ⟨Nat.le_refl _, Nat.le_refl _⟩ (Nat.le_of_ble_eq_true rfl) ?_
    rintro _ _ ⟨rfl, rfl⟩
    refine ab_go 4 [] ckP_obey rfl ?_
    refine ab_if_eq ckP_obey rfl (fun hh => absurd hh (by decide)) (fun _ => ?_)
    refine ab_go 5 [] ckP_obey rfl ?_
    refine ab_icmp_eq ckP_obey rfl (fun (h2 : (fP_stateAfter c x1 x2) = (7 : Int32)) => ?_) (fun (h2 : ¬ ((fP_stateAfter c x1 x2) = (7 : Int32))) => ?_)
    · refine ab_go 3 [] ckP_obey rfl ?_
      have e : fP_obey c x1 x2 = ((0 : Int32), (cs_u c 0 8 (fP_stateAfter c x1 x2))) := by simp only [fP_obey, if_pos h1, if_pos h2]
      exact ab_zret ckP_obey rfl rfl (Or.inl rfl) ⟨(congrArg (fun q : Int32 × cs_S => some (Value.int q.1)) e).symm, (congrArg (fun q : Int32 × cs_S => cs_H q.2 rest) e).symm⟩
    · refine ab_go 4 [] ckP_obey rfl ?_
      have e : fP_obey c x1 x2 = ((1 : Int32), (cs_u c 0 8 (fP_stateAfter c x1 x2))) := by simp only [fP_obey, if_pos h1, if_neg h2]
      exact ab_zret ckP_obey rfl rfl (Or.inr rfl) ⟨(congrArg (fun q : Int32 × cs_S => some (Value.int q.1)) e).symm, (congrArg (fun q : Int32 × cs_S => cs_H q.2 rest) e).symm⟩
def fH_arm (c : cs_S)  : cs_S := (cs_u (cs_u c 0 11 (1 : Int32)) 0 12 (0 : Int32))
theorem tH_arm : ab_M X mH_arm (d) 0 0 [.ref 21] (cs_H c rest) (fun r9 h9 => r9 = none ∧ h9 = cs_H (fH_arm c) rest) := by
  refine ab_entry (by decide) (Nat.le_of_ble_eq_true rfl) ?_
  refine ab_go 8 [] ckH_arm rfl ?_
  have e : fH_arm c = (cs_u (cs_u c 0 11 (1 : Int32)) 0 12 (0 : Int32)) := by simp only [fH_arm]
  exact ab_vret ckH_arm rfl rfl ⟨rfl, (congrArg (fun q : cs_S => cs_H q rest) e).symm⟩
def fH_disarm (c : cs_S)  : cs_S := (cs_u c 0 11 (0 : Int32))
theorem tH_disarm : ab_M X mH_disarm (d) 0 0 [.ref 21] (cs_H c rest) (fun r9 h9 => r9 = none ∧ h9 = cs_H (fH_disarm c) rest) := by
  refine ab_entry (by decide) (Nat.le_of_ble_eq_true rfl) ?_
  refine ab_go 5 [] ckH_disarm rfl ?_
  have e : fH_disarm c = (cs_u c 0 11 (0 : Int32)) := by simp only [fH_disarm]
  exact ab_vret ckH_disarm rfl rfl ⟨rfl, (congrArg (fun q : cs_S => cs_H q rest) e).symm⟩
def fH_runsOut (c : cs_S) (x1 : Int32) : Int32 × cs_S := (if (c.1 0 11) = 0 then ((0 : Int32), c) else (if x1 ≤ ((c.1 0 12) + (1 : Int32)) then (let p1 := fH_disarm (cs_u c 0 12 ((c.1 0 12) + (1 : Int32))); ((1 : Int32), p1)) else ((0 : Int32), (cs_u c 0 12 ((c.1 0 12) + (1 : Int32))))))
theorem tH_runsOut {x1 : Int32} : ab_M X mH_runsOut (d + 1) 0 0 [.ref 21, .int x1] (cs_H c rest) (fun r9 h9 => r9 = some (Value.int (fH_runsOut c x1).1) ∧ h9 = cs_H (fH_runsOut c x1).2 rest) := by
  refine ab_entry (by decide) (Nat.le_of_ble_eq_true rfl) ?_
  refine ab_go 4 [] ckH_runsOut rfl ?_
  refine ab_if_ne ckH_runsOut rfl (fun (h1 : ¬ ((c.1 0 11) = 0)) => ?_) (fun (h1 : (c.1 0 11) = 0) => ?_)
  · refine ab_go 11 [] ckH_runsOut rfl ?_
    refine ab_icmp_ge ckH_runsOut rfl (fun (h2 : x1 ≤ ((c.1 0 12) + (1 : Int32))) => ?_) (fun (h2 : ¬ (x1 ≤ ((c.1 0 12) + (1 : Int32)))) => ?_)
    · refine ab_go 3 [] ckH_runsOut rfl ?_
      refine ab_callV (bc2 := 0) (bs2 := 0) (as := []) (rest := []) ckH_runsOut rfl (by decide +kernel) wH_disarm (tH_disarm (d := d) (c := (cs_u c 0 12 ((c.1 0 12) + (1 : Int32))))) rfl rfl (by omega) ⟨Nat.le_refl _, Nat.le_refl _⟩ (Nat.le_of_ble_eq_true rfl) ?_
      rintro _ _ ⟨rfl, rfl⟩
      generalize e1 : fH_disarm (cs_u c 0 12 ((c.1 0 12) + (1 : Int32))) = p1
      refine ab_go 3 [] ckH_runsOut rfl ?_
      have e : fH_runsOut c x1 = ((1 : Int32), p1) := by simp only [fH_runsOut, if_neg h1, if_pos h2, e1]
      exact ab_zret ckH_runsOut rfl rfl (Or.inr rfl) ⟨(congrArg (fun q : Int32 × cs_S => some (Value.int q.1)) e).symm, (congrArg (fun q : Int32 × cs_S => cs_H q.2 rest) e).symm⟩
    · refine ab_go 3 [] ckH_runsOut rfl ?_
      have e : fH_runsOut c x1 = ((0 : Int32), (cs_u c 0 12 ((c.1 0 12) + (1 : Int32)))) := by simp only [fH_runsOut, if_neg h1, if_neg h2]
      exact ab_zret ckH_runsOut rfl rfl (Or.inl rfl) ⟨(congrArg (fun q : Int32 × cs_S => some (Value.int q.1)) e).symm, (congrArg (fun q : Int32 × cs_S => cs_H q.2 rest) e).symm⟩
  · refine ab_go 3 [] ckH_runsOut rfl ?_
    have e : fH_runsOut c x1 = ((0 : Int32), c) := by simp only [fH_runsOut, if_pos h1]
    exact ab_zret ckH_runsOut rfl rfl (Or.inl rfl) ⟨(congrArg (fun q : Int32 × cs_S => some (Value.int q.1)) e).symm, (congrArg (fun q : Int32 × cs_S => cs_H q.2 rest) e).symm⟩
def fV_demanded (c : cs_S)  : Int32 := (c.1 0 10)
theorem tV_demanded : ab_M X mV_demanded (d) 0 0 [.ref 20] (cs_H c rest) (fun r9 h9 => r9 = some (Value.int (fV_demanded c)) ∧ h9 = cs_H c rest) := by
  refine ab_entry (by decide) (Nat.le_of_ble_eq_true rfl) ?_
  refine ab_go 4 [] ckV_demanded rfl ?_
  have e : fV_demanded c = (c.1 0 10) := by simp only [fV_demanded]
  exact ab_iret ckV_demanded rfl rfl ⟨(congrArg (fun q : Int32 => some (Value.int q)) e).symm, rfl⟩
def fV_rest (c : cs_S) (x1 : Int32) : cs_S := (cs_u (cs_u c 1 21 (0 : Int32)) 0 10 x1)
theorem tV_rest {x1 : Int32} : ab_M X mV_rest (d) 0 0 [.ref 20, .int x1] (cs_H c rest) (fun r9 h9 => r9 = none ∧ h9 = cs_H (fV_rest c x1) rest) := by
  refine ab_entry (by decide) (Nat.le_of_ble_eq_true rfl) ?_
  refine ab_go 10 [] ckV_rest rfl ?_
  have e : fV_rest c x1 = (cs_u (cs_u c 1 21 (0 : Int32)) 0 10 x1) := by simp only [fV_rest]
  exact ab_vret ckV_rest rfl rfl ⟨rfl, (congrArg (fun q : cs_S => cs_H q rest) e).symm⟩
def fV_moveWith (c : cs_S) (x1 : Int32) : cs_S := (cs_u (cs_u c 1 21 x1) 0 10 ((c.1 0 10) + x1))
theorem tV_moveWith {x1 : Int32} : ab_M X mV_moveWith (d) 0 0 [.ref 20, .int x1] (cs_H c rest) (fun r9 h9 => r9 = none ∧ h9 = cs_H (fV_moveWith c x1) rest) := by
  refine ab_entry (by decide) (Nat.le_of_ble_eq_true rfl) ?_
  refine ab_go 13 [] ckV_moveWith rfl ?_
  have e : fV_moveWith c x1 = (cs_u (cs_u c 1 21 x1) 0 10 ((c.1 0 10) + x1)) := by simp only [fV_moveWith]
  exact ab_vret ckV_moveWith rfl rfl ⟨rfl, (congrArg (fun q : cs_S => cs_H q rest) e).symm⟩
def fV_slower (x1 : Int32) (x2 : Int32) : Int32 := (if x1 ≤ 0 then (if (0 : Int32) < (x1 + x2) then (0 : Int32) else (x1 + x2)) else (if (x1 - x2) < (0 : Int32) then (0 : Int32) else (x1 - x2)))
theorem tV_slower {x1 : Int32} {x2 : Int32} : ab_M X mV_slower (d + 1) 0 0 [.int x1, .int x2] (hp) (fun r9 h9 => r9 = some (Value.int (fV_slower x1 x2)) ∧ h9 = hp) := by
  refine ab_entry (by decide) (Nat.le_of_ble_eq_true rfl) ?_
  refine ab_go 3 [] ckV_slower rfl ?_
  refine ab_if_le ckV_slower rfl (fun (h1 : x1 ≤ 0) => ?_) (fun (h1 : ¬ (x1 ≤ 0)) => ?_)
  · refine ab_go 6 [] ckV_slower rfl ?_
    refine ab_mmin ckV_slower rfl (by decide +kernel) (by omega) (Nat.le_of_ble_eq_true rfl) ?_
    have e : fV_slower x1 x2 = (if (0 : Int32) < (x1 + x2) then (0 : Int32) else (x1 + x2)) := by simp only [fV_slower, if_pos h1]
    exact ab_iret ckV_slower rfl rfl ⟨(congrArg (fun q : Int32 => some (Value.int q)) e).symm, rfl⟩
  · refine ab_go 6 [] ckV_slower rfl ?_
    refine ab_mmax ckV_slower rfl (by decide +kernel) (by omega) (Nat.le_of_ble_eq_true rfl) ?_
    refine ab_go 3 [] ckV_slower rfl ?_
    have e : fV_slower x1 x2 = (if (x1 - x2) < (0 : Int32) then (0 : Int32) else (x1 - x2)) := by simp only [fV_slower, if_neg h1]
    exact ab_iret ckV_slower rfl rfl ⟨(congrArg (fun q : Int32 => some (Value.int q)) e).symm, rfl⟩
def fV_positionAim (c : cs_S)  : Int32 := (if (if (c.1 1 24) < (c.1 1 22) then (c.1 1 24) else (c.1 1 22)) < (c.1 1 23) then (c.1 1 23) else (if (c.1 1 24) < (c.1 1 22) then (c.1 1 24) else (c.1 1 22)))
theorem tV_positionAim : ab_M X mV_positionAim (d + 1) 0 0 [.ref 20] (cs_H c rest) (fun r9 h9 => r9 = some (Value.int (fV_positionAim c)) ∧ h9 = cs_H c rest) := by
  refine ab_entry (by decide) (Nat.le_of_ble_eq_true rfl) ?_
  refine ab_go 10 [] ckV_positionAim rfl ?_
  refine ab_mmin ckV_positionAim rfl (by decide +kernel) (by omega) (Nat.le_of_ble_eq_true rfl) ?_
  refine ab_go 8 [] ckV_positionAim rfl ?_
  refine ab_mmax ckV_positionAim rfl (by decide +kernel) (by omega) (Nat.le_of_ble_eq_true rfl) ?_
  have e : fV_positionAim c = (if (if (c.1 1 24) < (c.1 1 22) then (c.1 1 24) else (c.1 1 22)) < (c.1 1 23) then (c.1 1 23) else (if (c.1 1 24) < (c.1 1 22) then (c.1 1 24) else (c.1 1 22))) := by simp only [fV_positionAim]
  exact ab_iret ckV_positionAim rfl rfl ⟨(congrArg (fun q : Int32 => some (Value.int q)) e).symm, rfl⟩
def fV_speedAim (c : cs_S)  : Int32 := (if (c.1 1 29) = 0 then (c.1 0 10) else (if (c.1 1 29) ≤ 0 then (if (c.1 1 23) < (c.1 0 10) then (c.1 1 23) else (c.1 0 10)) else (if (c.1 0 10) < (c.1 1 24) then (c.1 1 24) else (c.1 0 10))))
theorem tV_speedAim : ab_M X mV_speedAim (d + 1) 0 0 [.ref 20] (cs_H c rest) (fun r9 h9 => r9 = some (Value.int (fV_speedAim c)) ∧ h9 = cs_H c rest) := by
  refine ab_entry (by decide) (Nat.le_of_ble_eq_true rfl) ?_
  refine ab_go 8 [] ckV_speedAim rfl ?_
  refine ab_if_ne ckV_speedAim rfl (fun (h1 : ¬ ((c.1 1 29) = 0)) => ?_) (fun (h1 : (c.1 1 29) = 0) => ?_)
  · refine ab_go 3 [] ckV_speedAim rfl ?_
    refine ab_if_le ckV_speedAim rfl (fun (h2 : (c.1 1 29) ≤ 0) => ?_) (fun (h2 : ¬ ((c.1 1 29) ≤ 0)) => ?_)
    · refine ab_go 8 [] ckV_speedAim rfl ?_
      refine ab_mmin ckV_speedAim rfl (by decide +kernel) (by omega) (Nat.le_of_ble_eq_true rfl) ?_
      have e : fV_speedAim c = (if (c.1 1 23) < (c.1 0 10) then (c.1 1 23) else (c.1 0 10)) := by simp only [fV_speedAim, if_neg h1, if_pos h2]
      exact ab_iret ckV_speedAim rfl rfl ⟨(congrArg (fun q : Int32 => some (Value.int q)) e).symm, rfl⟩
    · refine ab_go 8 [] ckV_speedAim rfl ?_
      refine ab_mmax ckV_speedAim rfl (by decide +kernel) (by omega) (Nat.le_of_ble_eq_true rfl) ?_
      refine ab_go 3 [] ckV_speedAim rfl ?_
      have e : fV_speedAim c = (if (c.1 0 10) < (c.1 1 24) then (c.1 1 24) else (c.1 0 10)) := by simp only [fV_speedAim, if_neg h1, if_neg h2]
      exact ab_iret ckV_speedAim rfl rfl ⟨(congrArg (fun q : Int32 => some (Value.int q)) e).symm, rfl⟩
  · refine ab_go 4 [] ckV_speedAim rfl ?_
    have e : fV_speedAim c = (c.1 0 10) := by simp only [fV_speedAim, if_pos h1]
    exact ab_iret ckV_speedAim rfl rfl ⟨(congrArg (fun q : Int32 => some (Value.int q)) e).symm, rfl⟩
def fV_stoppingWay (x1 : Int32) (x2 : Int32) : Int32 := (((((x1 + x2) - (1 : Int32)) / x2) * x1) - (x2 * (((((x1 + x2) - (1 : Int32)) / x2) * ((((x1 + x2) - (1 : Int32)) / x2) - (1 : Int32))) / (2 : Int32))))
theorem tV_stoppingWay {x1 : Int32} {x2 : Int32} (hd6 : ¬ x2 = 0) : ab_M X mV_stoppingWay (d) 0 0 [.int x1, .int x2] (hp) (fun r9 h9 => r9 = some (Value.int (fV_stoppingWay x1 x2)) ∧ h9 = hp) := by
  refine ab_entry (by decide) (Nat.le_of_ble_eq_true rfl) ?_
  refine ab_go 8 [] ckV_stoppingWay rfl ?_
  refine ab_idiv ckV_stoppingWay rfl hd6 ?_
  refine ab_go 16 [] ckV_stoppingWay rfl ?_
  have e : fV_stoppingWay x1 x2 = (((((x1 + x2) - (1 : Int32)) / x2) * x1) - (x2 * (((((x1 + x2) - (1 : Int32)) / x2) * ((((x1 + x2) - (1 : Int32)) / x2) - (1 : Int32))) / (2 : Int32)))) := by simp only [fV_stoppingWay]
  exact ab_iret ckV_stoppingWay rfl rfl ⟨(congrArg (fun q : Int32 => some (Value.int q)) e).symm, rfl⟩
def fV_isArrived (c : cs_S)  : Int32 := (if (c.1 1 18) = (1 : Int32) then (if (c.1 1 21) = 0 then (if (c.1 0 10) = (fV_positionAim c) then (1 : Int32) else (0 : Int32)) else (0 : Int32)) else (0 : Int32))
theorem tV_isArrived : ab_M X mV_isArrived (d + 2) 0 0 [.ref 20] (cs_H c rest) (fun r9 h9 => r9 = some (Value.int (fV_isArrived c)) ∧ h9 = cs_H c rest) := by
  refine ab_entry (by decide) (Nat.le_of_ble_eq_true rfl) ?_
  refine ab_go 7 [] ckV_isArrived rfl ?_
  refine ab_icmp_ne ckV_isArrived rfl (fun (h1 : ¬ ((c.1 1 18) = (1 : Int32))) => ?_) (fun (h1 : (c.1 1 18) = (1 : Int32)) => ?_)
  · refine ab_go 3 [] ckV_isArrived rfl ?_
    have e : fV_isArrived c = (0 : Int32) := by simp only [fV_isArrived, if_neg h1]
    exact ab_zret ckV_isArrived rfl rfl (Or.inl rfl) ⟨(congrArg (fun q : Int32 => some (Value.int q)) e).symm, rfl⟩
  · refine ab_go 6 [] ckV_isArrived rfl ?_
    refine ab_if_ne ckV_isArrived rfl (fun (h2 : ¬ ((c.1 1 21) = 0)) => ?_) (fun (h2 : (c.1 1 21) = 0) => ?_)
    · refine ab_go 3 [] ckV_isArrived rfl ?_
      have e : fV_isArrived c = (0 : Int32) := by simp only [fV_isArrived, if_pos h1, if_neg h2]
      exact ab_zret ckV_isArrived rfl rfl (Or.inl rfl) ⟨(congrArg (fun q : Int32 => some (Value.int q)) e).symm, rfl⟩
    · refine ab_go 5 [] ckV_isArrived rfl ?_
      refine ab_callV (bc2 := 0) (bs2 := 0) (as := []) (rest := [_]) ckV_isArrived rfl (by decide +kernel) wV_positionAim (tV_positionAim (d := d) (c := c)) rfl rfl (by omega) ⟨Nat.le_refl _, Nat.le_refl _⟩ (Nat.le_of_ble_eq_true rfl) ?_
      rintro _ _ ⟨rfl, rfl⟩
      refine ab_icmp_ne ckV_isArrived rfl (fun (h3 : ¬ ((c.1 0 10) = (fV_positionAim c))) => ?_) (fun (h3 : (c.1 0 10) = (fV_positionAim c)) => ?_)
      · refine ab_go 3 [] ckV_isArrived rfl ?_
        have e : fV_isArrived c = (0 : Int32) := by simp only [fV_isArrived, if_pos h1, if_pos h2, if_neg h3]
        exact ab_zret ckV_isArrived rfl rfl (Or.inl rfl) ⟨(congrArg (fun q : Int32 => some (Value.int q)) e).symm, rfl⟩
      · refine ab_go 4 [] ckV_isArrived rfl ?_
        have e : fV_isArrived c = (1 : Int32) := by simp only [fV_isArrived, if_pos h1, if_pos h2, if_pos h3]
        exact ab_zret ckV_isArrived rfl rfl (Or.inr rfl) ⟨(congrArg (fun q : Int32 => some (Value.int q)) e).symm, rfl⟩
def fV_brake (c : cs_S)  : cs_S := (let p1 := fV_moveWith c (fV_slower (c.1 1 21) (c.1 1 28)); p1)
theorem tV_brake : ab_M X mV_brake (d + 2) 0 0 [.ref 20] (cs_H c rest) (fun r9 h9 => r9 = none ∧ h9 = cs_H (fV_brake c) rest) := by
  refine ab_entry (by decide) (Nat.le_of_ble_eq_true rfl) ?_
  refine ab_go 11 [] ckV_brake rfl ?_
  refine ab_callS (bc2 := 0) (bs2 := 0) (as := [_, _]) (rest := [_]) ckV_brake rfl (by decide +kernel) wV_slower (tV_slower (d := d) (x1 := (c.1 1 21)) (x2 := (c.1 1 28))) (by omega) ⟨Nat.le_refl _, Nat.le_refl _⟩ (Nat.le_of_ble_eq_true rfl) ?_
  rintro _ _ ⟨rfl, rfl⟩
  refine ab_callV (bc2 := 0) (bs2 := 0) (as := [_]) (rest := []) ckV_brake rfl (by decide +kernel) wV_moveWith (tV_moveWith (d := d + 1) (x1 := (fV_slower (c.1 1 21) (c.1 1 28))) (c := c)) rfl rfl (by omega) ⟨Nat.le_refl _, Nat.le_refl _⟩ (Nat.le_of_ble_eq_true rfl) ?_
  rintro _ _ ⟨rfl, rfl⟩
  generalize e1 : fV_moveWith c (fV_slower (c.1 1 21) (c.1 1 28)) = p1
  have e : fV_brake c = p1 := by simp only [fV_brake, e1]
  exact ab_vret ckV_brake rfl rfl ⟨rfl, (congrArg (fun q : cs_S => cs_H q rest) e).symm⟩
def fC_isCount (x1 : Int32) : Int32 := (if x1 = (5 : Int32) then (1 : Int32) else (if x1 = (12 : Int32) then (1 : Int32) else (0 : Int32)))
theorem tC_isCount {x1 : Int32} : ab_M X mC_isCount (d) 0 0 [.int x1] (hp) (fun r9 h9 => r9 = some (Value.int (fC_isCount x1)) ∧ h9 = hp) := by
  refine ab_entry (by decide) (Nat.le_of_ble_eq_true rfl) ?_
  refine ab_go 4 [] ckC_isCount rfl ?_
  refine ab_icmp_eq ckC_isCount rfl (fun (h1 : x1 = (5 : Int32)) => ?_) (fun (h1 : ¬ (x1 = (5 : Int32))) => ?_)
  · refine ab_go 4 [] ckC_isCount rfl ?_
    have e : fC_isCount x1 = (1 : Int32) := by simp only [fC_isCount, if_pos h1]
    exact ab_zret ckC_isCount rfl rfl (Or.inr rfl) ⟨(congrArg (fun q : Int32 => some (Value.int q)) e).symm, rfl⟩
  · refine ab_go 4 [] ckC_isCount rfl ?_
    refine ab_icmp_ne ckC_isCount rfl (fun (h2 : ¬ (x1 = (12 : Int32))) => ?_) (fun (h2 : x1 = (12 : Int32)) => ?_)
    · refine ab_go 3 [] ckC_isCount rfl ?_
      have e : fC_isCount x1 = (0 : Int32) := by simp only [fC_isCount, if_neg h1, if_neg h2]
      exact ab_zret ckC_isCount rfl rfl (Or.inl rfl) ⟨(congrArg (fun q : Int32 => some (Value.int q)) e).symm, rfl⟩
    · refine ab_go 4 [] ckC_isCount rfl ?_
      have e : fC_isCount x1 = (1 : Int32) := by simp only [fC_isCount, if_neg h1, if_pos h2]
      exact ab_zret ckC_isCount rfl rfl (Or.inr rfl) ⟨(congrArg (fun q : Int32 => some (Value.int q)) e).symm, rfl⟩
def fC_countOf (x1 : Int32) : Int32 := (if (12 : Int32) ≤ x1 then (12 : Int32) else (5 : Int32))
theorem tC_countOf {x1 : Int32} : ab_M X mC_countOf (d) 0 0 [.int x1] (hp) (fun r9 h9 => r9 = some (Value.int (fC_countOf x1)) ∧ h9 = hp) := by
  refine ab_entry (by decide) (Nat.le_of_ble_eq_true rfl) ?_
  refine ab_go 4 [] ckC_countOf rfl ?_
  refine ab_icmp_ge ckC_countOf rfl (fun (h1 : (12 : Int32) ≤ x1) => ?_) (fun (h1 : ¬ ((12 : Int32) ≤ x1)) => ?_)
  · refine ab_go 3 [] ckC_countOf rfl ?_
    have e : fC_countOf x1 = (12 : Int32) := by simp only [fC_countOf, if_pos h1]
    exact ab_iret ckC_countOf rfl rfl ⟨(congrArg (fun q : Int32 => some (Value.int q)) e).symm, rfl⟩
  · refine ab_go 4 [] ckC_countOf rfl ?_
    have e : fC_countOf x1 = (5 : Int32) := by simp only [fC_countOf, if_neg h1]
    exact ab_iret ckC_countOf rfl rfl ⟨(congrArg (fun q : Int32 => some (Value.int q)) e).symm, rfl⟩
def fN_bytesWritten (x1 : Int32) : Int32 := (if x1 = (35 : Int32) then (4 : Int32) else (if x1 = (39 : Int32) then (3 : Int32) else (if x1 = (43 : Int32) then (2 : Int32) else (if x1 = (47 : Int32) then (1 : Int32) else (0 : Int32)))))
theorem tN_bytesWritten {x1 : Int32} : ab_M X mN_bytesWritten (d) 0 0 [.int x1] (hp) (fun r9 h9 => r9 = some (Value.int (fN_bytesWritten x1)) ∧ h9 = hp) := by
  refine ab_entry (by decide) (Nat.le_of_ble_eq_true rfl) ?_
  refine ab_go 3 [] ckN_bytesWritten rfl ?_
  by_cases h1 : x1 = (35 : Int32)
  · refine ab_lsw (tgt := 50) (off := 49) ckN_bytesWritten rfl (by decide) (by rw [h1]; decide) (by decide) ?_
    refine ab_go 3 [] ckN_bytesWritten rfl ?_
    have e : fN_bytesWritten x1 = (4 : Int32) := by simp only [fN_bytesWritten, if_pos h1]
    exact ab_iret ckN_bytesWritten rfl rfl ⟨(congrArg (fun q : Int32 => some (Value.int q)) e).symm, rfl⟩
  by_cases h2 : x1 = (39 : Int32)
  · refine ab_lsw (tgt := 48) (off := 47) ckN_bytesWritten rfl (by decide) (by rw [h2]; decide) (by decide) ?_
    refine ab_go 3 [] ckN_bytesWritten rfl ?_
    have e : fN_bytesWritten x1 = (3 : Int32) := by simp only [fN_bytesWritten, if_neg h1, if_pos h2]
    exact ab_iret ckN_bytesWritten rfl rfl ⟨(congrArg (fun q : Int32 => some (Value.int q)) e).symm, rfl⟩
  by_cases h3 : x1 = (43 : Int32)
  · refine ab_lsw (tgt := 46) (off := 45) ckN_bytesWritten rfl (by decide) (by rw [h3]; decide) (by decide) ?_
    refine ab_go 3 [] ckN_bytesWritten rfl ?_
    have e : fN_bytesWritten x1 = (2 : Int32) := by simp only [fN_bytesWritten, if_neg h1, if_neg h2, if_pos h3]
    exact ab_iret ckN_bytesWritten rfl rfl ⟨(congrArg (fun q : Int32 => some (Value.int q)) e).symm, rfl⟩
  by_cases h4 : x1 = (47 : Int32)
  · refine ab_lsw (tgt := 44) (off := 43) ckN_bytesWritten rfl (by decide) (by rw [h4]; decide) (by decide) ?_
    refine ab_go 3 [] ckN_bytesWritten rfl ?_
    have e : fN_bytesWritten x1 = (1 : Int32) := by simp only [fN_bytesWritten, if_neg h1, if_neg h2, if_neg h3, if_pos h4]
    exact ab_iret ckN_bytesWritten rfl rfl ⟨(congrArg (fun q : Int32 => some (Value.int q)) e).symm, rfl⟩
  refine ab_lsw (tgt := 52) ckN_bytesWritten rfl (by decide) (off := 51) (by show Op.lookupswitch.offset [(35, 49), (39, 47), (43, 45), (47, 43)] 51 _ = _; rw [lv_osw h1 (by decide)]; rw [lv_osw h2 (by decide)]; rw [lv_osw h3 (by decide)]; rw [lv_osw h4 (by decide)]; rfl) (by decide) ?_
  refine ab_go 3 [] ckN_bytesWritten rfl ?_
  have e : fN_bytesWritten x1 = (0 : Int32) := by simp only [fN_bytesWritten, if_neg h1, if_neg h2, if_neg h3, if_neg h4]
  exact ab_iret ckN_bytesWritten rfl rfl ⟨(congrArg (fun q : Int32 => some (Value.int q)) e).symm, rfl⟩
def fN_readAnswer (x1 : Int32) : Int32 := (if x1 = (1 : Int32) then (79 : Int32) else (if x1 = (2 : Int32) then (75 : Int32) else (67 : Int32)))
theorem tN_readAnswer {x1 : Int32} : ab_M X mN_readAnswer (d) 0 0 [.int x1] (hp) (fun r9 h9 => r9 = some (Value.int (fN_readAnswer x1)) ∧ h9 = hp) := by
  refine ab_entry (by decide) (Nat.le_of_ble_eq_true rfl) ?_
  refine ab_go 4 [] ckN_readAnswer rfl ?_
  refine ab_icmp_ne ckN_readAnswer rfl (fun (h1 : ¬ (x1 = (1 : Int32))) => ?_) (fun (h1 : x1 = (1 : Int32)) => ?_)
  · refine ab_go 4 [] ckN_readAnswer rfl ?_
    refine ab_icmp_ne ckN_readAnswer rfl (fun (h2 : ¬ (x1 = (2 : Int32))) => ?_) (fun (h2 : x1 = (2 : Int32)) => ?_)
    · refine ab_go 3 [] ckN_readAnswer rfl ?_
      have e : fN_readAnswer x1 = (67 : Int32) := by simp only [fN_readAnswer, if_neg h1, if_neg h2]
      exact ab_iret ckN_readAnswer rfl rfl ⟨(congrArg (fun q : Int32 => some (Value.int q)) e).symm, rfl⟩
    · refine ab_go 4 [] ckN_readAnswer rfl ?_
      have e : fN_readAnswer x1 = (75 : Int32) := by simp only [fN_readAnswer, if_neg h1, if_pos h2]
      exact ab_iret ckN_readAnswer rfl rfl ⟨(congrArg (fun q : Int32 => some (Value.int q)) e).symm, rfl⟩
  · refine ab_go 3 [] ckN_readAnswer rfl ?_
    have e : fN_readAnswer x1 = (79 : Int32) := by simp only [fN_readAnswer, if_pos h1]
    exact ab_iret ckN_readAnswer rfl rfl ⟨(congrArg (fun q : Int32 => some (Value.int q)) e).symm, rfl⟩
def fG_number (x1 : Int64) (x2 : Int32) : Int32 := (if x2 < (4 : Int32) then ((x1).toInt32 &&& (((1 : Int32) <<< (((8 : Int32) * x2) &&& 31)) - (1 : Int32))) else (x1).toInt32)
theorem tG_number {x1 : Int64} {x2 : Int32} : ab_M X mG_number (d) 0 0 [.long x1, .int x2] (hp) (fun r9 h9 => r9 = some (Value.int (fG_number x1 x2)) ∧ h9 = hp) := by
  refine ab_entry (by decide) (Nat.le_of_ble_eq_true rfl) ?_
  refine ab_go 4 [] ckG_number rfl ?_
  refine ab_icmp_lt ckG_number rfl (fun (h1 : x2 < (4 : Int32)) => ?_) (fun (h1 : ¬ (x2 < (4 : Int32))) => ?_)
  · refine ab_go 12 [] ckG_number rfl ?_
    have e : fG_number x1 x2 = ((x1).toInt32 &&& (((1 : Int32) <<< (((8 : Int32) * x2) &&& 31)) - (1 : Int32))) := by simp only [fG_number, if_pos h1]
    exact ab_iret ckG_number rfl rfl ⟨(congrArg (fun q : Int32 => some (Value.int q)) e).symm, rfl⟩
  · refine ab_go 5 [] ckG_number rfl ?_
    have e : fG_number x1 x2 = (x1).toInt32 := by simp only [fG_number, if_neg h1]
    exact ab_iret ckG_number rfl rfl ⟨(congrArg (fun q : Int32 => some (Value.int q)) e).symm, rfl⟩
end LEAF
