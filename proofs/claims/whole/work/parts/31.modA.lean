/-! contracts, by program (wip/gen/walk.py, gen_cls.py) -/
section LEAF
variable {X : ab_C} {d : Nat} {r : cs_S} {rest hp : ab_H} {pf : Nat → va_E}
def fR_lesser (x1 : Int32) (x2 : Int32) : Int32 := (if x2 ≤ x1 then x2 else x1)
theorem tR_lesser {x1 : Int32} {x2 : Int32} : ab_M X mR_lesser (d) 0 0 [.int x1, .int x2] (hp) (fun r9 h9 => r9 = some (Value.int (fR_lesser x1 x2)) ∧ h9 = hp) := by
  refine ab_entry (by decide) (Nat.le_of_ble_eq_true rfl) ?_
  refine ab_go 2 [] (pc' := 2) (lo' := [some (.int x1), some (.int x2)]) (st' := [.int x2, .int x1]) (h' := hp) ckR_lesser rfl ?_
  refine ab_icmp_ge ckR_lesser rfl (fun (h1 : x2 ≤ x1) => ?_) (fun (h1 : ¬ (x2 ≤ x1)) => ?_)
  · refine ab_go 1 [] (pc' := 10) (lo' := [some (.int x1), some (.int x2)]) (st' := [.int x2]) (h' := hp) ckR_lesser rfl ?_
    have e : fR_lesser x1 x2 = x2 := by simp only [fR_lesser, if_pos h1]
    exact ab_iret ckR_lesser rfl rfl ⟨(congrArg (fun q : Int32 => some (Value.int q)) e).symm, rfl⟩
  · refine ab_go 2 [] (pc' := 10) (lo' := [some (.int x1), some (.int x2)]) (st' := [.int x1]) (h' := hp) ckR_lesser rfl ?_
    have e : fR_lesser x1 x2 = x1 := by simp only [fR_lesser, if_neg h1]
    exact ab_iret ckR_lesser rfl rfl ⟨(congrArg (fun q : Int32 => some (Value.int q)) e).symm, rfl⟩
def fR_greater (x1 : Int32) (x2 : Int32) : Int32 := (if x1 ≤ x2 then x2 else x1)
theorem tR_greater {x1 : Int32} {x2 : Int32} : ab_M X mR_greater (d) 0 0 [.int x1, .int x2] (hp) (fun r9 h9 => r9 = some (Value.int (fR_greater x1 x2)) ∧ h9 = hp) := by
  refine ab_entry (by decide) (Nat.le_of_ble_eq_true rfl) ?_
  refine ab_go 2 [] (pc' := 2) (lo' := [some (.int x1), some (.int x2)]) (st' := [.int x2, .int x1]) (h' := hp) ckR_greater rfl ?_
  refine ab_icmp_le ckR_greater rfl (fun (h1 : x1 ≤ x2) => ?_) (fun (h1 : ¬ (x1 ≤ x2)) => ?_)
  · refine ab_go 1 [] (pc' := 10) (lo' := [some (.int x1), some (.int x2)]) (st' := [.int x2]) (h' := hp) ckR_greater rfl ?_
    have e : fR_greater x1 x2 = x2 := by simp only [fR_greater, if_pos h1]
    exact ab_iret ckR_greater rfl rfl ⟨(congrArg (fun q : Int32 => some (Value.int q)) e).symm, rfl⟩
  · refine ab_go 2 [] (pc' := 10) (lo' := [some (.int x1), some (.int x2)]) (st' := [.int x1]) (h' := hp) ckR_greater rfl ?_
    have e : fR_greater x1 x2 = x1 := by simp only [fR_greater, if_neg h1]
    exact ab_iret ckR_greater rfl rfl ⟨(congrArg (fun q : Int32 => some (Value.int q)) e).symm, rfl⟩
def fR_size0 (x1 : Int32) : Int32 := (if 0 ≤ x1 then x1 else (-x1))
theorem tR_size0 {x1 : Int32} : ab_M X mR_size0 (d) 0 0 [.int x1] (hp) (fun r9 h9 => r9 = some (Value.int (fR_size0 x1)) ∧ h9 = hp) := by
  refine ab_entry (by decide) (Nat.le_of_ble_eq_true rfl) ?_
  refine ab_go 1 [] (pc' := 1) (lo' := [some (.int x1)]) (st' := [.int x1]) (h' := hp) ckR_size0 rfl ?_
  refine ab_if_ge ckR_size0 rfl (fun (h1 : 0 ≤ x1) => ?_) (fun (h1 : ¬ (0 ≤ x1)) => ?_)
  · refine ab_go 1 [] (pc' := 10) (lo' := [some (.int x1)]) (st' := [.int x1]) (h' := hp) ckR_size0 rfl ?_
    have e : fR_size0 x1 = x1 := by simp only [fR_size0, if_pos h1]
    exact ab_iret ckR_size0 rfl rfl ⟨(congrArg (fun q : Int32 => some (Value.int q)) e).symm, rfl⟩
  · refine ab_go 3 [] (pc' := 10) (lo' := [some (.int x1)]) (st' := [.int (-x1)]) (h' := hp) ckR_size0 rfl ?_
    have e : fR_size0 x1 = (-x1) := by simp only [fR_size0, if_neg h1]
    exact ab_iret ckR_size0 rfl rfl ⟨(congrArg (fun q : Int32 => some (Value.int q)) e).symm, rfl⟩
def fR_cut (x1 : Int32) (x2 : Int32) : Int32 := (if x2 = (1 : Int32) then (x1 &&& (255 : Int32)) else (if x2 = (2 : Int32) then (x1 &&& (65535 : Int32)) else x1))
theorem tR_cut {x1 : Int32} {x2 : Int32} : ab_M X mR_cut (d) 0 0 [.int x1, .int x2] (hp) (fun r9 h9 => r9 = some (Value.int (fR_cut x1 x2)) ∧ h9 = hp) := by
  refine ab_entry (by decide) (Nat.le_of_ble_eq_true rfl) ?_
  refine ab_go 2 [] (pc' := 2) (lo' := [some (.int x1), some (.int x2)]) (st' := [.int (1 : Int32), .int x2]) (h' := hp) ckR_cut rfl ?_
  refine ab_icmp_ne ckR_cut rfl (fun (h1 : ¬ (x2 = (1 : Int32))) => ?_) (fun (h1 : x2 = (1 : Int32)) => ?_)
  · refine ab_go 2 [] (pc' := 15) (lo' := [some (.int x1), some (.int x2)]) (st' := [.int (2 : Int32), .int x2]) (h' := hp) ckR_cut rfl ?_
    refine ab_icmp_ne ckR_cut rfl (fun (h2 : ¬ (x2 = (2 : Int32))) => ?_) (fun (h2 : x2 = (2 : Int32)) => ?_)
    · refine ab_go 1 [] (pc' := 26) (lo' := [some (.int x1), some (.int x2)]) (st' := [.int x1]) (h' := hp) ckR_cut rfl ?_
      have e : fR_cut x1 x2 = x1 := by simp only [fR_cut, if_neg h1, if_neg h2]
      exact ab_iret ckR_cut rfl rfl ⟨(congrArg (fun q : Int32 => some (Value.int q)) e).symm, rfl⟩
    · refine ab_go 4 [] (pc' := 26) (lo' := [some (.int x1), some (.int x2)]) (st' := [.int (x1 &&& (65535 : Int32))]) (h' := hp) ckR_cut rfl ?_
      have e : fR_cut x1 x2 = (x1 &&& (65535 : Int32)) := by simp only [fR_cut, if_neg h1, if_pos h2]
      exact ab_iret ckR_cut rfl rfl ⟨(congrArg (fun q : Int32 => some (Value.int q)) e).symm, rfl⟩
  · refine ab_go 4 [] (pc' := 26) (lo' := [some (.int x1), some (.int x2)]) (st' := [.int (x1 &&& (255 : Int32))]) (h' := hp) ckR_cut rfl ?_
    have e : fR_cut x1 x2 = (x1 &&& (255 : Int32)) := by simp only [fR_cut, if_pos h1]
    exact ab_iret ckR_cut rfl rfl ⟨(congrArg (fun q : Int32 => some (Value.int q)) e).symm, rfl⟩
def fR_slower (x1 : Int32) (x2 : Int32) : Int32 := (if x1 ≤ x2 then (if (-x2) ≤ x1 then (0 : Int32) else (x1 + x2)) else (x1 - x2))
theorem tR_slower {x1 : Int32} {x2 : Int32} : ab_M X mR_slower (d) 0 0 [.int x1, .int x2] (hp) (fun r9 h9 => r9 = some (Value.int (fR_slower x1 x2)) ∧ h9 = hp) := by
  refine ab_entry (by decide) (Nat.le_of_ble_eq_true rfl) ?_
  refine ab_go 2 [] (pc' := 2) (lo' := [some (.int x1), some (.int x2)]) (st' := [.int x2, .int x1]) (h' := hp) ckR_slower rfl ?_
  refine ab_icmp_le ckR_slower rfl (fun (h1 : x1 ≤ x2) => ?_) (fun (h1 : ¬ (x1 ≤ x2)) => ?_)
  · refine ab_go 3 [] (pc' := 14) (lo' := [some (.int x1), some (.int x2)]) (st' := [.int (-x2), .int x1]) (h' := hp) ckR_slower rfl ?_
    refine ab_icmp_ge ckR_slower rfl (fun (h2 : (-x2) ≤ x1) => ?_) (fun (h2 : ¬ ((-x2) ≤ x1)) => ?_)
    · refine ab_go 1 [] (pc' := 24) (lo' := [some (.int x1), some (.int x2)]) (st' := [.int (0 : Int32)]) (h' := hp) ckR_slower rfl ?_
      have e : fR_slower x1 x2 = (0 : Int32) := by simp only [fR_slower, if_pos h1, if_pos h2]
      exact ab_iret ckR_slower rfl rfl ⟨(congrArg (fun q : Int32 => some (Value.int q)) e).symm, rfl⟩
    · refine ab_go 4 [] (pc' := 24) (lo' := [some (.int x1), some (.int x2)]) (st' := [.int (x1 + x2)]) (h' := hp) ckR_slower rfl ?_
      have e : fR_slower x1 x2 = (x1 + x2) := by simp only [fR_slower, if_pos h1, if_neg h2]
      exact ab_iret ckR_slower rfl rfl ⟨(congrArg (fun q : Int32 => some (Value.int q)) e).symm, rfl⟩
  · refine ab_go 4 [] (pc' := 24) (lo' := [some (.int x1), some (.int x2)]) (st' := [.int (x1 - x2)]) (h' := hp) ckR_slower rfl ?_
    have e : fR_slower x1 x2 = (x1 - x2) := by simp only [fR_slower, if_neg h1]
    exact ab_iret ckR_slower rfl rfl ⟨(congrArg (fun q : Int32 => some (Value.int q)) e).symm, rfl⟩
def fR_word (r : cs_S) (x1 : Int32) (x2 : Int32) : Option (Int32) := (if x1 < 0 then (some (0 : Int32)) else (if (1 : Int32) < x1 then (some (0 : Int32)) else (if x2 < 0 then (some (0 : Int32)) else (if x2 ≤ (21 : Int32) then (if ab_inb (((22 : Int32) * x1) + x2) 44 = true then (some (r.1 4 ((((22 : Int32) * x1) + x2)).toNatClampNeg)) else none) else (some (0 : Int32))))))
theorem tR_word {x1 : Int32} {x2 : Int32} {v : Int32} (hv : fR_word r x1 x2 = some v) : ab_M X mR_word (d) 0 0 [.ref 23, .int x1, .int x2] (rs_H pf r rest) (fun r9 h9 => r9 = some (Value.int v) ∧ h9 = rs_H pf r rest) := by
  refine ab_entry (by decide) (Nat.le_of_ble_eq_true rfl) ?_
  refine ab_go 1 [] (pc' := 1) (lo' := [some (.ref 23), some (.int x1), some (.int x2)]) (st' := [.int x1]) (h' := rs_H pf r rest) ckR_word rfl ?_
  refine ab_if_lt ckR_word rfl (fun (h1 : x1 < 0) => ?_) (fun (h1 : ¬ (x1 < 0)) => ?_)
  · refine ab_go 2 [] (pc' := 34) (lo' := [some (.ref 23), some (.int x1), some (.int x2)]) (st' := [.int (0 : Int32)]) (h' := rs_H pf r rest) ckR_word rfl ?_
    have e : fR_word r x1 x2 = some (0 : Int32) := by simp only [fR_word, if_pos h1]
    obtain rfl := Option.some.inj (e.symm.trans hv)
    exact ab_iret ckR_word rfl rfl ⟨rfl, rfl⟩
  · refine ab_go 2 [] (pc' := 6) (lo' := [some (.ref 23), some (.int x1), some (.int x2)]) (st' := [.int (1 : Int32), .int x1]) (h' := rs_H pf r rest) ckR_word rfl ?_
    refine ab_icmp_gt ckR_word rfl (fun (h2 : (1 : Int32) < x1) => ?_) (fun (h2 : ¬ ((1 : Int32) < x1)) => ?_)
    · refine ab_go 2 [] (pc' := 34) (lo' := [some (.ref 23), some (.int x1), some (.int x2)]) (st' := [.int (0 : Int32)]) (h' := rs_H pf r rest) ckR_word rfl ?_
      have e : fR_word r x1 x2 = some (0 : Int32) := by simp only [fR_word, if_neg h1, if_pos h2]
      obtain rfl := Option.some.inj (e.symm.trans hv)
      exact ab_iret ckR_word rfl rfl ⟨rfl, rfl⟩
    · refine ab_go 1 [] (pc' := 10) (lo' := [some (.ref 23), some (.int x1), some (.int x2)]) (st' := [.int x2]) (h' := rs_H pf r rest) ckR_word rfl ?_
      refine ab_if_lt ckR_word rfl (fun (h3 : x2 < 0) => ?_) (fun (h3 : ¬ (x2 < 0)) => ?_)
      · refine ab_go 2 [] (pc' := 34) (lo' := [some (.ref 23), some (.int x1), some (.int x2)]) (st' := [.int (0 : Int32)]) (h' := rs_H pf r rest) ckR_word rfl ?_
        have e : fR_word r x1 x2 = some (0 : Int32) := by simp only [fR_word, if_neg h1, if_neg h2, if_pos h3]
        obtain rfl := Option.some.inj (e.symm.trans hv)
        exact ab_iret ckR_word rfl rfl ⟨rfl, rfl⟩
      · refine ab_go 2 [] (pc' := 16) (lo' := [some (.ref 23), some (.int x1), some (.int x2)]) (st' := [.int (21 : Int32), .int x2]) (h' := rs_H pf r rest) ckR_word rfl ?_
        refine ab_icmp_le ckR_word rfl (fun (h4 : x2 ≤ (21 : Int32)) => ?_) (fun (h4 : ¬ (x2 ≤ (21 : Int32))) => ?_)
        · refine ab_go 7 [] (pc' := 33) (lo' := [some (.ref 23), some (.int x1), some (.int x2)]) (st' := [.int (((22 : Int32) * x1) + x2), .ref 34]) (h' := rs_H pf r rest) ckR_word rfl ?_
          by_cases h5 : ab_inb (((22 : Int32) * x1) + x2) 44 = true
          case neg => exact ab_no hv (by simp only [fR_word, if_neg h1, if_neg h2, if_neg h3, if_pos h4, if_neg h5])
          refine ab_iald ckR_word rfl rfl (ab_inb_ok h5) ?_
          have e : fR_word r x1 x2 = some (r.1 4 ((((22 : Int32) * x1) + x2)).toNatClampNeg) := by simp only [fR_word, if_neg h1, if_neg h2, if_neg h3, if_pos h4, if_pos h5]
          obtain rfl := Option.some.inj (e.symm.trans hv)
          exact ab_iret ckR_word rfl rfl ⟨rfl, rfl⟩
        · refine ab_go 2 [] (pc' := 34) (lo' := [some (.ref 23), some (.int x1), some (.int x2)]) (st' := [.int (0 : Int32)]) (h' := rs_H pf r rest) ckR_word rfl ?_
          have e : fR_word r x1 x2 = some (0 : Int32) := by simp only [fR_word, if_neg h1, if_neg h2, if_neg h3, if_neg h4]
          obtain rfl := Option.some.inj (e.symm.trans hv)
          exact ab_iret ckR_word rfl rfl ⟨rfl, rfl⟩
def fR_send (r : cs_S) (x1 : Int32) (x2 : Int32) (x3 : Int64) : Option (cs_S) := (if (r.1 0 8) = 0 then (some (cs_u r 0 1 ((r.1 0 1) + (1 : Int32)))) else (if (r.1 0 0) = (12 : Int32) then (some (cs_u r 0 1 ((r.1 0 1) + (1 : Int32)))) else (if ab_inb (r.1 0 0) 12 = true then (some (cs_u (cs_l (cs_u (cs_u r 2 ((r.1 0 0)).toNatClampNeg x1) 3 ((r.1 0 0)).toNatClampNeg x2) ((r.1 0 0)).toNatClampNeg x3) 0 0 ((r.1 0 0) + (1 : Int32)))) else none)))
theorem tR_send {x1 : Int32} {x2 : Int32} {x3 : Int64} {v : cs_S} (hv : fR_send r x1 x2 x3 = some v) : ab_M X mR_send (d) 0 0 [.ref 23, .int x1, .int x2, .long x3] (rs_H pf r rest) (fun r9 h9 => r9 = none ∧ h9 = rs_H pf v rest) := by
  refine ab_entry (by decide) (Nat.le_of_ble_eq_true rfl) ?_
  refine ab_go 2 [] (pc' := 4) (lo' := [some (.ref 23), some (.int x1), some (.int x2), some (.long x3), none]) (st' := [.int (r.1 0 8)]) (h' := rs_H pf r rest) ckR_send rfl ?_
  refine ab_if_eq ckR_send rfl (fun (h1 : (r.1 0 8) = 0) => ?_) (fun (h1 : ¬ ((r.1 0 8) = 0)) => ?_)
  · refine ab_go 6 [] (pc' := 26) (lo' := [some (.ref 23), some (.int x1), some (.int x2), some (.long x3), none]) (st' := []) (h' := rs_H pf (cs_u r 0 1 ((r.1 0 1) + (1 : Int32))) rest) ckR_send rfl ?_
    have e : fR_send r x1 x2 x3 = some (cs_u r 0 1 ((r.1 0 1) + (1 : Int32))) := by simp only [fR_send, if_pos h1]
    obtain rfl := Option.some.inj (e.symm.trans hv)
    exact ab_vret ckR_send rfl rfl ⟨rfl, rfl⟩
  · refine ab_go 3 [] (pc' := 13) (lo' := [some (.ref 23), some (.int x1), some (.int x2), some (.long x3), none]) (st' := [.int (12 : Int32), .int (r.1 0 0)]) (h' := rs_H pf r rest) ckR_send rfl ?_
    refine ab_icmp_ne ckR_send rfl (fun (h2 : ¬ ((r.1 0 0) = (12 : Int32))) => ?_) (fun (h2 : (r.1 0 0) = (12 : Int32)) => ?_)
    · refine ab_go 5 [] (pc' := 36) (lo' := [some (.ref 23), some (.int x1), some (.int x2), some (.long x3), none]) (st' := [.int x1, .int (r.1 0 0), .ref 31]) (h' := rs_H pf r rest) ckR_send rfl ?_
      by_cases h3 : ab_inb (r.1 0 0) 12 = true
      case neg => exact ab_no hv (by simp only [fR_send, if_neg h1, if_neg h2, if_neg h3])
      refine ab_iast ckR_send rfl rfl (ab_inb_ok h3) ?_
      refine ab_go 5 [] (pc' := 46) (lo' := [some (.ref 23), some (.int x1), some (.int x2), some (.long x3), none]) (st' := [.int x2, .int (r.1 0 0), .ref 32]) (h' := rs_H pf (cs_u r 2 ((r.1 0 0)).toNatClampNeg x1) rest) ckR_send rfl ?_
      refine ab_iast ckR_send rfl rfl (ab_inb_ok h3) ?_
      refine ab_go 5 [] (pc' := 56) (lo' := [some (.ref 23), some (.int x1), some (.int x2), some (.long x3), none]) (st' := [.long x3, .int (r.1 0 0), .ref 33]) (h' := rs_H pf (cs_u (cs_u r 2 ((r.1 0 0)).toNatClampNeg x1) 3 ((r.1 0 0)).toNatClampNeg x2) rest) ckR_send rfl ?_
      refine ab_last ckR_send rfl rfl (ab_inb_ok h3) ?_
      refine ab_go 6 [] (pc' := 67) (lo' := [some (.ref 23), some (.int x1), some (.int x2), some (.long x3), none]) (st' := []) (h' := rs_H pf (cs_u (cs_l (cs_u (cs_u r 2 ((r.1 0 0)).toNatClampNeg x1) 3 ((r.1 0 0)).toNatClampNeg x2) ((r.1 0 0)).toNatClampNeg x3) 0 0 ((r.1 0 0) + (1 : Int32))) rest) ckR_send rfl ?_
      have e : fR_send r x1 x2 x3 = some (cs_u (cs_l (cs_u (cs_u r 2 ((r.1 0 0)).toNatClampNeg x1) 3 ((r.1 0 0)).toNatClampNeg x2) ((r.1 0 0)).toNatClampNeg x3) 0 0 ((r.1 0 0) + (1 : Int32))) := by simp only [fR_send, if_neg h1, if_neg h2, if_pos h3]
      obtain rfl := Option.some.inj (e.symm.trans hv)
      exact ab_vret ckR_send rfl rfl ⟨rfl, rfl⟩
    · refine ab_go 6 [] (pc' := 26) (lo' := [some (.ref 23), some (.int x1), some (.int x2), some (.long x3), none]) (st' := []) (h' := rs_H pf (cs_u r 0 1 ((r.1 0 1) + (1 : Int32))) rest) ckR_send rfl ?_
      have e : fR_send r x1 x2 x3 = some (cs_u r 0 1 ((r.1 0 1) + (1 : Int32))) := by simp only [fR_send, if_neg h1, if_pos h2]
      obtain rfl := Option.some.inj (e.symm.trans hv)
      exact ab_vret ckR_send rfl rfl ⟨rfl, rfl⟩
def fR_next_4 : Nat → cs_S → Int32 → Int32 → Option (Int32)
  | 0, _, _, _ => none
  | n + 1, r, y1, y2 => (if (r.1 0 0) ≤ y2 then (some y1) else (if y1 < 0 then fR_next_4 n r y2 (y2 + (1 : Int32)) else (if ab_inb y2 12 = true then (if ab_inb y1 12 = true then (if (r.1 2 (y1).toNatClampNeg) ≤ (r.1 2 (y2).toNatClampNeg) then fR_next_4 n r y1 (y2 + (1 : Int32)) else fR_next_4 n r y2 (y2 + (1 : Int32))) else none) else none)))
def fR_next (r : cs_S)  : Option (Int32) := fR_next_4 40 r (-1 : Int32) (0 : Int32)
theorem tR_next_4 (n : Nat)   : ∀ (r : cs_S) (y1 : Int32) (y2 : Int32)  (v : Int32) (hv : fR_next_4 n r y1 y2 = some v), ab_W X mR_next (d) 0 0 4 [some (.ref 23), some (.int y1), some (.int y2)] [] (rs_H pf r rest) (fun r9 h9 => r9 = some (Value.int v) ∧ h9 = rs_H pf r rest) := by
  induction n with
  | zero =>
    intro r y1 y2 v hv
    cases hv
  | succ n ih =>
    intro r y1 y2 v hv
    refine ab_go 3 [4] (pc' := 9) (lo' := [some (.ref 23), some (.int y1), some (.int y2)]) (st' := [.int (r.1 0 0), .int y2]) (h' := rs_H pf r rest) ckR_next rfl ?_
    refine ab_icmp_ge ckR_next rfl (fun (h1 : (r.1 0 0) ≤ y2) => ?_) (fun (h1 : ¬ ((r.1 0 0) ≤ y2)) => ?_)
    · refine ab_go 1 [4] (pc' := 40) (lo' := [some (.ref 23), some (.int y1), some (.int y2)]) (st' := [.int y1]) (h' := rs_H pf r rest) ckR_next rfl ?_
      have e : fR_next_4 (n + 1) r y1 y2 = some y1 := by simp only [fR_next_4, if_pos h1]
      obtain rfl := Option.some.inj (e.symm.trans hv)
      exact ab_iret ckR_next rfl rfl ⟨rfl, rfl⟩
    · refine ab_go 1 [4] (pc' := 13) (lo' := [some (.ref 23), some (.int y1), some (.int y2)]) (st' := [.int y1]) (h' := rs_H pf r rest) ckR_next rfl ?_
      refine ab_if_lt ckR_next rfl (fun (h2 : y1 < 0) => ?_) (fun (h2 : ¬ (y1 < 0)) => ?_)
      · refine ab_go 4 [4] (pc' := 4) (lo' := [some (.ref 23), some (.int y2), some (.int (y2 + (1 : Int32)))]) (st' := []) (h' := rs_H pf r rest) ckR_next rfl ?_
        have e : fR_next_4 (n + 1) r y1 y2 = fR_next_4 n r y2 (y2 + (1 : Int32)) := by simp only [fR_next_4, if_neg h1, if_pos h2]
        exact ab_W.weak (ih r y2 (y2 + (1 : Int32)) v (e.symm.trans hv)) ⟨rfl, rfl, rfl, trivial⟩
      · refine ab_go 3 [4] (pc' := 21) (lo' := [some (.ref 23), some (.int y1), some (.int y2)]) (st' := [.int y2, .ref 31]) (h' := rs_H pf r rest) ckR_next rfl ?_
        by_cases h3 : ab_inb y2 12 = true
        case neg => exact ab_no hv (by simp only [fR_next_4, if_neg h1, if_neg h2, if_neg h3])
        refine ab_iald ckR_next rfl rfl (ab_inb_ok h3) ?_
        refine ab_go 3 [4] (pc' := 27) (lo' := [some (.ref 23), some (.int y1), some (.int y2)]) (st' := [.int y1, .ref 31, .int (r.1 2 (y2).toNatClampNeg)]) (h' := rs_H pf r rest) ckR_next rfl ?_
        by_cases h4 : ab_inb y1 12 = true
        case neg => exact ab_no hv (by simp only [fR_next_4, if_neg h1, if_neg h2, if_pos h3, if_neg h4])
        refine ab_iald ckR_next rfl rfl (ab_inb_ok h4) ?_
        refine ab_icmp_ge ckR_next rfl (fun (h5 : (r.1 2 (y1).toNatClampNeg) ≤ (r.1 2 (y2).toNatClampNeg)) => ?_) (fun (h5 : ¬ ((r.1 2 (y1).toNatClampNeg) ≤ (r.1 2 (y2).toNatClampNeg))) => ?_)
        · refine ab_go 2 [4] (pc' := 4) (lo' := [some (.ref 23), some (.int y1), some (.int (y2 + (1 : Int32)))]) (st' := []) (h' := rs_H pf r rest) ckR_next rfl ?_
          have e : fR_next_4 (n + 1) r y1 y2 = fR_next_4 n r y1 (y2 + (1 : Int32)) := by simp only [fR_next_4, if_neg h1, if_neg h2, if_pos h3, if_pos h4, if_pos h5]
          exact ab_W.weak (ih r y1 (y2 + (1 : Int32)) v (e.symm.trans hv)) ⟨rfl, rfl, rfl, trivial⟩
        · refine ab_go 4 [4] (pc' := 4) (lo' := [some (.ref 23), some (.int y2), some (.int (y2 + (1 : Int32)))]) (st' := []) (h' := rs_H pf r rest) ckR_next rfl ?_
          have e : fR_next_4 (n + 1) r y1 y2 = fR_next_4 n r y2 (y2 + (1 : Int32)) := by simp only [fR_next_4, if_neg h1, if_neg h2, if_pos h3, if_pos h4, if_neg h5]
          exact ab_W.weak (ih r y2 (y2 + (1 : Int32)) v (e.symm.trans hv)) ⟨rfl, rfl, rfl, trivial⟩
theorem tR_next {v : Int32} (hv : fR_next r = some v) : ab_M X mR_next (d) 0 0 [.ref 23] (rs_H pf r rest) (fun r9 h9 => r9 = some (Value.int v) ∧ h9 = rs_H pf r rest) := by
  refine ab_entry (by decide) (Nat.le_of_ble_eq_true rfl) ?_
  refine ab_go 4 [4] (pc' := 4) (lo' := [some (.ref 23), some (.int (-1 : Int32)), some (.int (0 : Int32))]) (st' := []) (h' := rs_H pf r rest) ckR_next rfl ?_
  have e : fR_next r = fR_next_4 40 r (-1 : Int32) (0 : Int32) := by simp only [fR_next]
  exact ab_W.weak (tR_next_4 40 r (-1 : Int32) (0 : Int32) v (e.symm.trans hv)) ⟨rfl, rfl, rfl, trivial⟩
def fR_nextIdentifier (r : cs_S)  : Option (Int32) := (ab_bd (fR_next r) (fun p1 => (if 0 ≤ p1 then (if ab_inb p1 12 = true then (some (r.1 2 (p1).toNatClampNeg)) else none) else (some (-1 : Int32)))))
theorem tR_nextIdentifier {v : Int32} (hv : fR_nextIdentifier r = some v) : ab_M X mR_nextIdentifier (d + 1) 0 0 [.ref 23] (rs_H pf r rest) (fun r9 h9 => r9 = some (Value.int v) ∧ h9 = rs_H pf r rest) := by
  refine ab_entry (by decide) (Nat.le_of_ble_eq_true rfl) ?_
  refine ab_go 1 [] (pc' := 1) (lo' := [some (.ref 23), none]) (st' := [.ref 23]) (h' := rs_H pf r rest) ckR_nextIdentifier rfl ?_
  rcases e1 : fR_next r with _ | p1
  · exact ab_no hv (by simp only [fR_nextIdentifier, e1, ab_bd_n])
  refine ab_callV (bc2 := 0) (bs2 := 0) (as := []) (rest := []) ckR_nextIdentifier rfl (by decide +kernel) wR_next (tR_next (d := d) (r := r) (v := p1) e1) rfl rfl (by omega) ⟨Nat.le_refl _, Nat.le_refl _⟩ (Nat.le_of_ble_eq_true rfl) ?_
  rintro _ _ ⟨rfl, rfl⟩
  refine ab_go 2 [] (pc' := 6) (lo' := [some (.ref 23), some (.int p1)]) (st' := [.int p1]) (h' := rs_H pf r rest) ckR_nextIdentifier rfl ?_
  refine ab_if_ge ckR_nextIdentifier rfl (fun (h1 : 0 ≤ p1) => ?_) (fun (h1 : ¬ (0 ≤ p1)) => ?_)
  · refine ab_go 3 [] (pc' := 18) (lo' := [some (.ref 23), some (.int p1)]) (st' := [.int p1, .ref 31]) (h' := rs_H pf r rest) ckR_nextIdentifier rfl ?_
    by_cases h2 : ab_inb p1 12 = true
    case neg => exact ab_no hv (by simp only [fR_nextIdentifier, e1, ab_bd_s, if_pos h1, if_neg h2])
    refine ab_iald ckR_nextIdentifier rfl rfl (ab_inb_ok h2) ?_
    have e : fR_nextIdentifier r = some (r.1 2 (p1).toNatClampNeg) := by simp only [fR_nextIdentifier, e1, ab_bd_s, if_pos h1, if_pos h2]
    obtain rfl := Option.some.inj (e.symm.trans hv)
    exact ab_iret ckR_nextIdentifier rfl rfl ⟨rfl, rfl⟩
  · refine ab_go 2 [] (pc' := 19) (lo' := [some (.ref 23), some (.int p1)]) (st' := [.int (-1 : Int32)]) (h' := rs_H pf r rest) ckR_nextIdentifier rfl ?_
    have e : fR_nextIdentifier r = some (-1 : Int32) := by simp only [fR_nextIdentifier, e1, ab_bd_s, if_neg h1]
    obtain rfl := Option.some.inj (e.symm.trans hv)
    exact ab_iret ckR_nextIdentifier rfl rfl ⟨rfl, rfl⟩
def fR_nextLength (r : cs_S)  : Option (Int32) := (ab_bd (fR_next r) (fun p1 => (if 0 ≤ p1 then (if ab_inb p1 12 = true then (some (r.1 3 (p1).toNatClampNeg)) else none) else (some (-1 : Int32)))))
theorem tR_nextLength {v : Int32} (hv : fR_nextLength r = some v) : ab_M X mR_nextLength (d + 1) 0 0 [.ref 23] (rs_H pf r rest) (fun r9 h9 => r9 = some (Value.int v) ∧ h9 = rs_H pf r rest) := by
  refine ab_entry (by decide) (Nat.le_of_ble_eq_true rfl) ?_
  refine ab_go 1 [] (pc' := 1) (lo' := [some (.ref 23), none]) (st' := [.ref 23]) (h' := rs_H pf r rest) ckR_nextLength rfl ?_
  rcases e1 : fR_next r with _ | p1
  · exact ab_no hv (by simp only [fR_nextLength, e1, ab_bd_n])
  refine ab_callV (bc2 := 0) (bs2 := 0) (as := []) (rest := []) ckR_nextLength rfl (by decide +kernel) wR_next (tR_next (d := d) (r := r) (v := p1) e1) rfl rfl (by omega) ⟨Nat.le_refl _, Nat.le_refl _⟩ (Nat.le_of_ble_eq_true rfl) ?_
  rintro _ _ ⟨rfl, rfl⟩
  refine ab_go 2 [] (pc' := 6) (lo' := [some (.ref 23), some (.int p1)]) (st' := [.int p1]) (h' := rs_H pf r rest) ckR_nextLength rfl ?_
  refine ab_if_ge ckR_nextLength rfl (fun (h1 : 0 ≤ p1) => ?_) (fun (h1 : ¬ (0 ≤ p1)) => ?_)
  · refine ab_go 3 [] (pc' := 18) (lo' := [some (.ref 23), some (.int p1)]) (st' := [.int p1, .ref 32]) (h' := rs_H pf r rest) ckR_nextLength rfl ?_
    by_cases h2 : ab_inb p1 12 = true
    case neg => exact ab_no hv (by simp only [fR_nextLength, e1, ab_bd_s, if_pos h1, if_neg h2])
    refine ab_iald ckR_nextLength rfl rfl (ab_inb_ok h2) ?_
    have e : fR_nextLength r = some (r.1 3 (p1).toNatClampNeg) := by simp only [fR_nextLength, e1, ab_bd_s, if_pos h1, if_pos h2]
    obtain rfl := Option.some.inj (e.symm.trans hv)
    exact ab_iret ckR_nextLength rfl rfl ⟨rfl, rfl⟩
  · refine ab_go 2 [] (pc' := 19) (lo' := [some (.ref 23), some (.int p1)]) (st' := [.int (-1 : Int32)]) (h' := rs_H pf r rest) ckR_nextLength rfl ?_
    have e : fR_nextLength r = some (-1 : Int32) := by simp only [fR_nextLength, e1, ab_bd_s, if_neg h1]
    obtain rfl := Option.some.inj (e.symm.trans hv)
    exact ab_iret ckR_nextLength rfl rfl ⟨rfl, rfl⟩
def fR_nextData (r : cs_S)  : Option (Int64) := (ab_bd (fR_next r) (fun p1 => (if 0 ≤ p1 then (if ab_inb p1 12 = true then (some (r.2.1 (p1).toNatClampNeg)) else none) else (some (0 : Int64)))))
theorem tR_nextData {v : Int64} (hv : fR_nextData r = some v) : ab_M X mR_nextData (d + 1) 0 0 [.ref 23] (rs_H pf r rest) (fun r9 h9 => r9 = some (Value.long v) ∧ h9 = rs_H pf r rest) := by
  refine ab_entry (by decide) (Nat.le_of_ble_eq_true rfl) ?_
  refine ab_go 1 [] (pc' := 1) (lo' := [some (.ref 23), none]) (st' := [.ref 23]) (h' := rs_H pf r rest) ckR_nextData rfl ?_
  rcases e1 : fR_next r with _ | p1
  · exact ab_no hv (by simp only [fR_nextData, e1, ab_bd_n])
  refine ab_callV (bc2 := 0) (bs2 := 0) (as := []) (rest := []) ckR_nextData rfl (by decide +kernel) wR_next (tR_next (d := d) (r := r) (v := p1) e1) rfl rfl (by omega) ⟨Nat.le_refl _, Nat.le_refl _⟩ (Nat.le_of_ble_eq_true rfl) ?_
  rintro _ _ ⟨rfl, rfl⟩
  refine ab_go 2 [] (pc' := 6) (lo' := [some (.ref 23), some (.int p1)]) (st' := [.int p1]) (h' := rs_H pf r rest) ckR_nextData rfl ?_
  refine ab_if_ge ckR_nextData rfl (fun (h1 : 0 ≤ p1) => ?_) (fun (h1 : ¬ (0 ≤ p1)) => ?_)
  · refine ab_go 3 [] (pc' := 18) (lo' := [some (.ref 23), some (.int p1)]) (st' := [.int p1, .ref 33]) (h' := rs_H pf r rest) ckR_nextData rfl ?_
    by_cases h2 : ab_inb p1 12 = true
    case neg => exact ab_no hv (by simp only [fR_nextData, e1, ab_bd_s, if_pos h1, if_neg h2])
    refine ab_lald ckR_nextData rfl rfl (ab_inb_ok h2) ?_
    have e : fR_nextData r = some (r.2.1 (p1).toNatClampNeg) := by simp only [fR_nextData, e1, ab_bd_s, if_pos h1, if_pos h2]
    obtain rfl := Option.some.inj (e.symm.trans hv)
    exact ab_lret ckR_nextData rfl rfl ⟨rfl, rfl⟩
  · refine ab_go 2 [] (pc' := 19) (lo' := [some (.ref 23), some (.int p1)]) (st' := [.long (0 : Int64)]) (h' := rs_H pf r rest) ckR_nextData rfl ?_
    have e : fR_nextData r = some (0 : Int64) := by simp only [fR_nextData, e1, ab_bd_s, if_neg h1]
    obtain rfl := Option.some.inj (e.symm.trans hv)
    exact ab_lret ckR_nextData rfl rfl ⟨rfl, rfl⟩
def fR_take_15 : Nat → cs_S → Int32 → Option (Int32 × cs_S)
  | 0, _, _ => none
  | n + 1, r, y2 => (if (r.1 0 0) ≤ y2 then (some ((1 : Int32), (cs_u r 0 0 ((r.1 0 0) - (1 : Int32))))) else (if ab_inb y2 12 = true then (if ab_inb (y2 - (1 : Int32)) 12 = true then fR_take_15 n (cs_l (cs_u (cs_u r 2 ((y2 - (1 : Int32))).toNatClampNeg (r.1 2 (y2).toNatClampNeg)) 3 ((y2 - (1 : Int32))).toNatClampNeg (r.1 3 (y2).toNatClampNeg)) ((y2 - (1 : Int32))).toNatClampNeg (r.2.1 (y2).toNatClampNeg)) (y2 + (1 : Int32)) else none) else none))
def fR_take (r : cs_S)  : Option (Int32 × cs_S) := (ab_bd (fR_next r) (fun p1 => (if 0 ≤ p1 then fR_take_15 40 r (p1 + (1 : Int32)) else (some ((0 : Int32), r)))))
theorem tR_take_15 (n : Nat)   : ∀ (r : cs_S) (y2 : Int32)  (v : Int32 × cs_S) (hv : fR_take_15 n r y2 = some v), ab_W X mR_take (d + 1) 0 0 15 [some (.ref 23), none, some (.int y2)] [] (rs_H pf r rest) (fun r9 h9 => r9 = some (Value.int v.1) ∧ h9 = rs_H pf v.2 rest) := by
  induction n with
  | zero =>
    intro r y2 v hv
    cases hv
  | succ n ih =>
    intro r y2 v hv
    refine ab_go 3 [15] (pc' := 20) (lo' := [some (.ref 23), none, some (.int y2)]) (st' := [.int (r.1 0 0), .int y2]) (h' := rs_H pf r rest) ckR_take rfl ?_
    refine ab_icmp_ge ckR_take rfl (fun (h1 : (r.1 0 0) ≤ y2) => ?_) (fun (h1 : ¬ ((r.1 0 0) ≤ y2)) => ?_)
    · refine ab_go 7 [15] (pc' := 82) (lo' := [some (.ref 23), none, some (.int y2)]) (st' := [.int (1 : Int32)]) (h' := rs_H pf (cs_u r 0 0 ((r.1 0 0) - (1 : Int32))) rest) ckR_take rfl ?_
      have e : fR_take_15 (n + 1) r y2 = some ((1 : Int32), (cs_u r 0 0 ((r.1 0 0) - (1 : Int32)))) := by simp only [fR_take_15, if_pos h1]
      obtain rfl := Option.some.inj (e.symm.trans hv)
      exact ab_zret ckR_take rfl rfl (Or.inr rfl) ⟨rfl, rfl⟩
    · refine ab_go 8 [15] (pc' := 35) (lo' := [some (.ref 23), none, some (.int y2)]) (st' := [.int y2, .ref 31, .int (y2 - (1 : Int32)), .ref 31]) (h' := rs_H pf r rest) ckR_take rfl ?_
      by_cases h2 : ab_inb y2 12 = true
      case neg => exact ab_no hv (by simp only [fR_take_15, if_neg h1, if_neg h2])
      refine ab_iald ckR_take rfl rfl (ab_inb_ok h2) ?_
      by_cases h3 : ab_inb (y2 - (1 : Int32)) 12 = true
      case neg => exact ab_no hv (by simp only [fR_take_15, if_neg h1, if_pos h2, if_neg h3])
      refine ab_iast ckR_take rfl rfl (ab_inb_ok h3) ?_
      refine ab_go 8 [15] (pc' := 49) (lo' := [some (.ref 23), none, some (.int y2)]) (st' := [.int y2, .ref 32, .int (y2 - (1 : Int32)), .ref 32]) (h' := rs_H pf (cs_u r 2 ((y2 - (1 : Int32))).toNatClampNeg (r.1 2 (y2).toNatClampNeg)) rest) ckR_take rfl ?_
      refine ab_iald ckR_take rfl rfl (ab_inb_ok h2) ?_
      refine ab_iast ckR_take rfl rfl (ab_inb_ok h3) ?_
      refine ab_go 8 [15] (pc' := 63) (lo' := [some (.ref 23), none, some (.int y2)]) (st' := [.int y2, .ref 33, .int (y2 - (1 : Int32)), .ref 33]) (h' := rs_H pf (cs_u (cs_u r 2 ((y2 - (1 : Int32))).toNatClampNeg (r.1 2 (y2).toNatClampNeg)) 3 ((y2 - (1 : Int32))).toNatClampNeg (r.1 3 (y2).toNatClampNeg)) rest) ckR_take rfl ?_
      refine ab_lald ckR_take rfl rfl (ab_inb_ok h2) ?_
      refine ab_last ckR_take rfl rfl (ab_inb_ok h3) ?_
      refine ab_go 2 [15] (pc' := 15) (lo' := [some (.ref 23), none, some (.int (y2 + (1 : Int32)))]) (st' := []) (h' := rs_H pf (cs_l (cs_u (cs_u r 2 ((y2 - (1 : Int32))).toNatClampNeg (r.1 2 (y2).toNatClampNeg)) 3 ((y2 - (1 : Int32))).toNatClampNeg (r.1 3 (y2).toNatClampNeg)) ((y2 - (1 : Int32))).toNatClampNeg (r.2.1 (y2).toNatClampNeg)) rest) ckR_take rfl ?_
      have e : fR_take_15 (n + 1) r y2 = fR_take_15 n (cs_l (cs_u (cs_u r 2 ((y2 - (1 : Int32))).toNatClampNeg (r.1 2 (y2).toNatClampNeg)) 3 ((y2 - (1 : Int32))).toNatClampNeg (r.1 3 (y2).toNatClampNeg)) ((y2 - (1 : Int32))).toNatClampNeg (r.2.1 (y2).toNatClampNeg)) (y2 + (1 : Int32)) := by simp only [fR_take_15, if_neg h1, if_pos h2, if_pos h3]
      exact ab_W.weak (ih (cs_l (cs_u (cs_u r 2 ((y2 - (1 : Int32))).toNatClampNeg (r.1 2 (y2).toNatClampNeg)) 3 ((y2 - (1 : Int32))).toNatClampNeg (r.1 3 (y2).toNatClampNeg)) ((y2 - (1 : Int32))).toNatClampNeg (r.2.1 (y2).toNatClampNeg)) (y2 + (1 : Int32)) v (e.symm.trans hv)) ⟨rfl, rfl, trivial⟩
theorem tR_take {v : Int32 × cs_S} (hv : fR_take r = some v) : ab_M X mR_take (d + 1) 0 0 [.ref 23] (rs_H pf r rest) (fun r9 h9 => r9 = some (Value.int v.1) ∧ h9 = rs_H pf v.2 rest) := by
  refine ab_entry (by decide) (Nat.le_of_ble_eq_true rfl) ?_
  refine ab_go 1 [15] (pc' := 1) (lo' := [some (.ref 23), none, none]) (st' := [.ref 23]) (h' := rs_H pf r rest) ckR_take rfl ?_
  rcases e1 : fR_next r with _ | p1
  · exact ab_no hv (by simp only [fR_take, e1, ab_bd_n])
  refine ab_callV (bc2 := 0) (bs2 := 0) (as := []) (rest := []) ckR_take rfl (by decide +kernel) wR_next (tR_next (d := d) (r := r) (v := p1) e1) rfl rfl (by omega) ⟨Nat.le_refl _, Nat.le_refl _⟩ (Nat.le_of_ble_eq_true rfl) ?_
  rintro _ _ ⟨rfl, rfl⟩
  refine ab_go 2 [15] (pc' := 6) (lo' := [some (.ref 23), some (.int p1), none]) (st' := [.int p1]) (h' := rs_H pf r rest) ckR_take rfl ?_
  refine ab_if_ge ckR_take rfl (fun (h1 : 0 ≤ p1) => ?_) (fun (h1 : ¬ (0 ≤ p1)) => ?_)
  · refine ab_go 4 [15] (pc' := 15) (lo' := [some (.ref 23), some (.int p1), some (.int (p1 + (1 : Int32)))]) (st' := []) (h' := rs_H pf r rest) ckR_take rfl ?_
    have e : fR_take r = fR_take_15 40 r (p1 + (1 : Int32)) := by simp only [fR_take, e1, ab_bd_s, if_pos h1]
    exact ab_W.weak (tR_take_15 40 r (p1 + (1 : Int32)) v (e.symm.trans hv)) ⟨rfl, rfl, trivial⟩
  · refine ab_go 1 [15] (pc' := 10) (lo' := [some (.ref 23), some (.int p1), none]) (st' := [.int (0 : Int32)]) (h' := rs_H pf r rest) ckR_take rfl ?_
    have e : fR_take r = some ((0 : Int32), r) := by simp only [fR_take, e1, ab_bd_s, if_neg h1]
    obtain rfl := Option.some.inj (e.symm.trans hv)
    exact ab_zret ckR_take rfl rfl (Or.inl rfl) ⟨rfl, rfl⟩
def fR_waiting (r : cs_S)  : Int32 := (r.1 0 0)
theorem tR_waiting : ab_M X mR_waiting (d) 0 0 [.ref 23] (rs_H pf r rest) (fun r9 h9 => r9 = some (Value.int (fR_waiting r)) ∧ h9 = rs_H pf r rest) := by
  refine ab_entry (by decide) (Nat.le_of_ble_eq_true rfl) ?_
  refine ab_go 2 [] (pc' := 4) (lo' := [some (.ref 23)]) (st' := [.int (r.1 0 0)]) (h' := rs_H pf r rest) ckR_waiting rfl ?_
  have e : fR_waiting r = (r.1 0 0) := by simp only [fR_waiting]
  exact ab_iret ckR_waiting rfl rfl ⟨(congrArg (fun q : Int32 => some (Value.int q)) e).symm, rfl⟩
def fR_lost (r : cs_S)  : Int32 := (r.1 0 1)
theorem tR_lost : ab_M X mR_lost (d) 0 0 [.ref 23] (rs_H pf r rest) (fun r9 h9 => r9 = some (Value.int (fR_lost r)) ∧ h9 = rs_H pf r rest) := by
  refine ab_entry (by decide) (Nat.le_of_ble_eq_true rfl) ?_
  refine ab_go 2 [] (pc' := 4) (lo' := [some (.ref 23)]) (st' := [.int (r.1 0 1)]) (h' := rs_H pf r rest) ckR_lost rfl ?_
  have e : fR_lost r = (r.1 0 1) := by simp only [fR_lost]
  exact ab_iret ckR_lost rfl rfl ⟨(congrArg (fun q : Int32 => some (Value.int q)) e).symm, rfl⟩
def fR_writeWord (r : cs_S)  : Option (cs_S) := (if (r.1 0 2) = 0 then (some r) else (if ((23 : Int32) - (r.1 0 2)) = 0 then (if ab_inb ((22 : Int32) * (r.1 0 3)) 44 = true then (some (cs_u (cs_u r 0 2 ((r.1 0 2) - (1 : Int32))) 4 (((22 : Int32) * (r.1 0 3))).toNatClampNeg (0 : Int32))) else none) else (if ((23 : Int32) - (r.1 0 2)) = (22 : Int32) then (if ab_inb ((22 : Int32) - ((22 : Int32) * (r.1 0 3))) 44 = true then (if ab_inb ((22 : Int32) * (r.1 0 3)) 44 = true then (some (cs_u (cs_u r 0 2 ((r.1 0 2) - (1 : Int32))) 4 (((22 : Int32) * (r.1 0 3))).toNatClampNeg ((r.1 4 (((22 : Int32) - ((22 : Int32) * (r.1 0 3)))).toNatClampNeg) + (1 : Int32)))) else none) else none) else (if ab_inb ((23 : Int32) - (r.1 0 2)) 22 = true then (if ab_inb (((22 : Int32) * (r.1 0 3)) + ((23 : Int32) - (r.1 0 2))) 44 = true then (some (cs_u (cs_u r 0 2 ((r.1 0 2) - (1 : Int32))) 4 ((((22 : Int32) * (r.1 0 3)) + ((23 : Int32) - (r.1 0 2)))).toNatClampNeg (r.1 5 (((23 : Int32) - (r.1 0 2))).toNatClampNeg))) else none) else none))))
set_option maxRecDepth 20000 in
set_option maxHeartbeats 4000000 in
theorem tR_writeWord {v : cs_S} (hv : fR_writeWord r = some v) : ab_M X mR_writeWord (d) 0 0 [.ref 23] (rs_H pf r rest) (fun r9 h9 => r9 = none ∧ h9 = rs_H pf v rest) := by
  refine ab_entry (by decide) (Nat.le_of_ble_eq_true rfl) ?_
  refine ab_go 2 [] (pc' := 4) (lo' := [some (.ref 23), none]) (st' := [.int (r.1 0 2)]) (h' := rs_H pf r rest) ckR_writeWord rfl ?_
  refine ab_if_ne ckR_writeWord rfl (fun (h1 : ¬ ((r.1 0 2) = 0)) => ?_) (fun (h1 : (r.1 0 2) = 0) => ?_)
  · refine ab_go 12 [] (pc' := 27) (lo' := [some (.ref 23), some (.int ((23 : Int32) - (r.1 0 2)))]) (st' := [.int ((23 : Int32) - (r.1 0 2))]) (h' := rs_H pf (cs_u r 0 2 ((r.1 0 2) - (1 : Int32))) rest) ckR_writeWord rfl ?_
    refine ab_if_ne ckR_writeWord rfl (fun (h2 : ¬ (((23 : Int32) - (r.1 0 2)) = 0)) => ?_) (fun (h2 : ((23 : Int32) - (r.1 0 2)) = 0) => ?_)
    · refine ab_go 2 [] (pc' := 49) (lo' := [some (.ref 23), some (.int ((23 : Int32) - (r.1 0 2)))]) (st' := [.int (22 : Int32), .int ((23 : Int32) - (r.1 0 2))]) (h' := rs_H pf (cs_u r 0 2 ((r.1 0 2) - (1 : Int32))) rest) ckR_writeWord rfl ?_
      refine ab_icmp_ne ckR_writeWord rfl (fun (h3 : ¬ (((23 : Int32) - (r.1 0 2)) = (22 : Int32))) => ?_) (fun (h3 : ((23 : Int32) - (r.1 0 2)) = (22 : Int32)) => ?_)
      · refine ab_go 11 [] (pc' := 102) (lo' := [some (.ref 23), some (.int ((23 : Int32) - (r.1 0 2)))]) (st' := [.int ((23 : Int32) - (r.1 0 2)), .ref 35, .int (((22 : Int32) * (r.1 0 3)) + ((23 : Int32) - (r.1 0 2))), .ref 34]) (h' := rs_H pf (cs_u r 0 2 ((r.1 0 2) - (1 : Int32))) rest) ckR_writeWord rfl ?_
        by_cases h4 : ab_inb ((23 : Int32) - (r.1 0 2)) 22 = true
        case neg => exact ab_no hv (by simp only [fR_writeWord, if_neg h1, if_neg h2, if_neg h3, if_neg h4])
        refine ab_iald ckR_writeWord rfl rfl (ab_inb_ok h4) ?_
        by_cases h5 : ab_inb (((22 : Int32) * (r.1 0 3)) + ((23 : Int32) - (r.1 0 2))) 44 = true
        case neg => exact ab_no hv (by simp only [fR_writeWord, if_neg h1, if_neg h2, if_neg h3, if_pos h4, if_neg h5])
        refine ab_iast ckR_writeWord rfl rfl (ab_inb_ok h5) ?_
        have e : fR_writeWord r = some (cs_u (cs_u r 0 2 ((r.1 0 2) - (1 : Int32))) 4 ((((22 : Int32) * (r.1 0 3)) + ((23 : Int32) - (r.1 0 2)))).toNatClampNeg (r.1 5 (((23 : Int32) - (r.1 0 2))).toNatClampNeg)) := by simp only [fR_writeWord, if_neg h1, if_neg h2, if_neg h3, if_pos h4, if_pos h5]
        obtain rfl := Option.some.inj (e.symm.trans hv)
        exact ab_vret ckR_writeWord rfl rfl ⟨rfl, rfl⟩
      · refine ab_go 12 [] (pc' := 75) (lo' := [some (.ref 23), some (.int ((23 : Int32) - (r.1 0 2)))]) (st' := [.int (r.1 0 3), .int (22 : Int32), .int (22 : Int32), .ref 34, .int ((22 : Int32) * (r.1 0 3)), .ref 34]) (h' := rs_H pf (cs_u r 0 2 ((r.1 0 2) - (1 : Int32))) rest) ckR_writeWord rfl ?_
        refine ab_go 2 [] (pc' := 77) (lo' := [some (.ref 23), some (.int ((23 : Int32) - (r.1 0 2)))]) (st' := [.int ((22 : Int32) - ((22 : Int32) * (r.1 0 3))), .ref 34, .int ((22 : Int32) * (r.1 0 3)), .ref 34]) (h' := rs_H pf (cs_u r 0 2 ((r.1 0 2) - (1 : Int32))) rest) ckR_writeWord rfl ?_
        by_cases h6 : ab_inb ((22 : Int32) - ((22 : Int32) * (r.1 0 3))) 44 = true
        case neg => exact ab_no hv (by simp only [fR_writeWord, if_neg h1, if_neg h2, if_pos h3, if_neg h6])
        refine ab_iald ckR_writeWord rfl rfl (ab_inb_ok h6) ?_
        refine ab_go 2 [] (pc' := 80) (lo' := [some (.ref 23), some (.int ((23 : Int32) - (r.1 0 2)))]) (st' := [.int ((r.1 4 (((22 : Int32) - ((22 : Int32) * (r.1 0 3)))).toNatClampNeg) + (1 : Int32)), .int ((22 : Int32) * (r.1 0 3)), .ref 34]) (h' := rs_H pf (cs_u r 0 2 ((r.1 0 2) - (1 : Int32))) rest) ckR_writeWord rfl ?_
        by_cases h7 : ab_inb ((22 : Int32) * (r.1 0 3)) 44 = true
        case neg => exact ab_no hv (by simp only [fR_writeWord, if_neg h1, if_neg h2, if_pos h3, if_pos h6, if_neg h7])
        refine ab_iast ckR_writeWord rfl rfl (ab_inb_ok h7) ?_
        refine ab_go 1 [] (pc' := 104) (lo' := [some (.ref 23), some (.int ((23 : Int32) - (r.1 0 2)))]) (st' := []) (h' := rs_H pf (cs_u (cs_u r 0 2 ((r.1 0 2) - (1 : Int32))) 4 (((22 : Int32) * (r.1 0 3))).toNatClampNeg ((r.1 4 (((22 : Int32) - ((22 : Int32) * (r.1 0 3)))).toNatClampNeg) + (1 : Int32))) rest) ckR_writeWord rfl ?_
        have e : fR_writeWord r = some (cs_u (cs_u r 0 2 ((r.1 0 2) - (1 : Int32))) 4 (((22 : Int32) * (r.1 0 3))).toNatClampNeg ((r.1 4 (((22 : Int32) - ((22 : Int32) * (r.1 0 3)))).toNatClampNeg) + (1 : Int32))) := by simp only [fR_writeWord, if_neg h1, if_neg h2, if_pos h3, if_pos h6, if_pos h7]
        obtain rfl := Option.some.inj (e.symm.trans hv)
        exact ab_vret ckR_writeWord rfl rfl ⟨rfl, rfl⟩
    · refine ab_go 7 [] (pc' := 42) (lo' := [some (.ref 23), some (.int ((23 : Int32) - (r.1 0 2)))]) (st' := [.int (0 : Int32), .int ((22 : Int32) * (r.1 0 3)), .ref 34]) (h' := rs_H pf (cs_u r 0 2 ((r.1 0 2) - (1 : Int32))) rest) ckR_writeWord rfl ?_
      by_cases h8 : ab_inb ((22 : Int32) * (r.1 0 3)) 44 = true
      case neg => exact ab_no hv (by simp only [fR_writeWord, if_neg h1, if_pos h2, if_neg h8])
      refine ab_iast ckR_writeWord rfl rfl (ab_inb_ok h8) ?_
      refine ab_go 1 [] (pc' := 104) (lo' := [some (.ref 23), some (.int ((23 : Int32) - (r.1 0 2)))]) (st' := []) (h' := rs_H pf (cs_u (cs_u r 0 2 ((r.1 0 2) - (1 : Int32))) 4 (((22 : Int32) * (r.1 0 3))).toNatClampNeg (0 : Int32)) rest) ckR_writeWord rfl ?_
      have e : fR_writeWord r = some (cs_u (cs_u r 0 2 ((r.1 0 2) - (1 : Int32))) 4 (((22 : Int32) * (r.1 0 3))).toNatClampNeg (0 : Int32)) := by simp only [fR_writeWord, if_neg h1, if_pos h2, if_pos h8]
      obtain rfl := Option.some.inj (e.symm.trans hv)
      exact ab_vret ckR_writeWord rfl rfl ⟨rfl, rfl⟩
  · have e : fR_writeWord r = some r := by simp only [fR_writeWord, if_pos h1]
    obtain rfl := Option.some.inj (e.symm.trans hv)
    exact ab_vret ckR_writeWord rfl rfl ⟨rfl, rfl⟩
def fR_begin_35 : Nat → cs_S → Int32 → Int32 → Int32 → Option (cs_S)
  | 0, _, _, _, _ => none
  | n + 1, r, y1, y2, y3 => (if (30 : Int32) ≤ y3 then (some r) else (if ab_inb y3 30 = true then (if (mdKind (y3).toNatClampNeg) < (8 : Int32) then fR_begin_35 n r y1 y2 (y3 + (1 : Int32)) else (if y1 = 0 then (if ab_inb y2 22 = true then fR_begin_35 n (cs_u r 5 (y2).toNatClampNeg (mdStart (y3).toNatClampNeg)) y1 (y2 + (1 : Int32)) (y3 + (1 : Int32)) else none) else (if ab_inb y2 22 = true then fR_begin_35 n (cs_u r 5 (y2).toNatClampNeg (r.1 1 (y3).toNatClampNeg)) y1 (y2 + (1 : Int32)) (y3 + (1 : Int32)) else none))) else none))
def fR_begin (r : cs_S) (x1 : Int32) : Option (cs_S) := (if (r.1 4 0) ≤ (r.1 4 22) then fR_begin_35 40 (cs_u (cs_u r 0 3 (0 : Int32)) 0 2 (23 : Int32)) x1 (1 : Int32) (0 : Int32) else fR_begin_35 40 (cs_u (cs_u r 0 3 (1 : Int32)) 0 2 (23 : Int32)) x1 (1 : Int32) (0 : Int32))
theorem tR_begin_35 (n : Nat)   : ∀ (r : cs_S) (y1 : Int32) (y2 : Int32) (y3 : Int32)  (v : cs_S) (hv : fR_begin_35 n r y1 y2 y3 = some v), ab_W X mR_begin (d) 0 0 35 [some (.ref 23), some (.int y1), some (.int y2), some (.int y3)] [] (rs_H pf r rest) (fun r9 h9 => r9 = none ∧ h9 = rs_H pf v rest) := by
  induction n with
  | zero =>
    intro r y1 y2 y3 v hv
    cases hv
  | succ n ih =>
    intro r y1 y2 y3 v hv
    refine ab_go 2 [35] (pc' := 38) (lo' := [some (.ref 23), some (.int y1), some (.int y2), some (.int y3)]) (st' := [.int (30 : Int32), .int y3]) (h' := rs_H pf r rest) ckR_begin rfl ?_
    refine ab_icmp_ge ckR_begin rfl (fun (h1 : (30 : Int32) ≤ y3) => ?_) (fun (h1 : ¬ ((30 : Int32) ≤ y3)) => ?_)
    · have e : fR_begin_35 (n + 1) r y1 y2 y3 = some r := by simp only [fR_begin_35, if_pos h1]
      obtain rfl := Option.some.inj (e.symm.trans hv)
      exact ab_vret ckR_begin rfl rfl ⟨rfl, rfl⟩
    · refine ab_go 3 [35] (pc' := 46) (lo' := [some (.ref 23), some (.int y1), some (.int y2), some (.int y3)]) (st' := [.int y3, .ref 26]) (h' := rs_H pf r rest) ckR_begin rfl ?_
      by_cases h2 : ab_inb y3 30 = true
      case neg => exact ab_no hv (by simp only [fR_begin_35, if_neg h1, if_neg h2])
      refine ab_iald ckR_begin rfl rfl (ab_inb_ok h2) ?_
      refine ab_go 1 [35] (pc' := 49) (lo' := [some (.ref 23), some (.int y1), some (.int y2), some (.int y3)]) (st' := [.int (8 : Int32), .int (mdKind (y3).toNatClampNeg)]) (h' := rs_H pf r rest) ckR_begin rfl ?_
      refine ab_icmp_lt ckR_begin rfl (fun (h3 : (mdKind (y3).toNatClampNeg) < (8 : Int32)) => ?_) (fun (h3 : ¬ ((mdKind (y3).toNatClampNeg) < (8 : Int32))) => ?_)
      · refine ab_go 2 [35] (pc' := 35) (lo' := [some (.ref 23), some (.int y1), some (.int y2), some (.int (y3 + (1 : Int32)))]) (st' := []) (h' := rs_H pf r rest) ckR_begin rfl ?_
        have e : fR_begin_35 (n + 1) r y1 y2 y3 = fR_begin_35 n r y1 y2 (y3 + (1 : Int32)) := by simp only [fR_begin_35, if_neg h1, if_pos h2, if_pos h3]
        exact ab_W.weak (ih r y1 y2 (y3 + (1 : Int32)) v (e.symm.trans hv)) ⟨rfl, rfl, rfl, rfl, trivial⟩
      · refine ab_go 4 [35] (pc' := 58) (lo' := [some (.ref 23), some (.int y1), some (.int y2), some (.int y3)]) (st' := [.int y1, .int y2, .ref 35]) (h' := rs_H pf r rest) ckR_begin rfl ?_
        refine ab_if_eq ckR_begin rfl (fun (h4 : y1 = 0) => ?_) (fun (h4 : ¬ (y1 = 0)) => ?_)
        · refine ab_go 3 [35] (pc' := 75) (lo' := [some (.ref 23), some (.int y1), some (.int y2), some (.int y3)]) (st' := [.int y3, .ref 27, .int y2, .ref 35]) (h' := rs_H pf r rest) ckR_begin rfl ?_
          refine ab_iald ckR_begin rfl rfl (ab_inb_ok h2) ?_
          by_cases h5 : ab_inb y2 22 = true
          case neg => exact ab_no hv (by simp only [fR_begin_35, if_neg h1, if_pos h2, if_neg h3, if_pos h4, if_neg h5])
          refine ab_iast ckR_begin rfl rfl (ab_inb_ok h5) ?_
          refine ab_go 3 [35] (pc' := 35) (lo' := [some (.ref 23), some (.int y1), some (.int (y2 + (1 : Int32))), some (.int (y3 + (1 : Int32)))]) (st' := []) (h' := rs_H pf (cs_u r 5 (y2).toNatClampNeg (mdStart (y3).toNatClampNeg)) rest) ckR_begin rfl ?_
          have e : fR_begin_35 (n + 1) r y1 y2 y3 = fR_begin_35 n (cs_u r 5 (y2).toNatClampNeg (mdStart (y3).toNatClampNeg)) y1 (y2 + (1 : Int32)) (y3 + (1 : Int32)) := by simp only [fR_begin_35, if_neg h1, if_pos h2, if_neg h3, if_pos h4, if_pos h5]
          exact ab_W.weak (ih (cs_u r 5 (y2).toNatClampNeg (mdStart (y3).toNatClampNeg)) y1 (y2 + (1 : Int32)) (y3 + (1 : Int32)) v (e.symm.trans hv)) ⟨rfl, rfl, rfl, rfl, trivial⟩
        · refine ab_go 3 [35] (pc' := 66) (lo' := [some (.ref 23), some (.int y1), some (.int y2), some (.int y3)]) (st' := [.int y3, .ref 30, .int y2, .ref 35]) (h' := rs_H pf r rest) ckR_begin rfl ?_
          refine ab_iald ckR_begin rfl rfl (ab_inb_ok h2) ?_
          refine ab_go 1 [35] (pc' := 76) (lo' := [some (.ref 23), some (.int y1), some (.int y2), some (.int y3)]) (st' := [.int (r.1 1 (y3).toNatClampNeg), .int y2, .ref 35]) (h' := rs_H pf r rest) ckR_begin rfl ?_
          by_cases h6 : ab_inb y2 22 = true
          case neg => exact ab_no hv (by simp only [fR_begin_35, if_neg h1, if_pos h2, if_neg h3, if_neg h4, if_neg h6])
          refine ab_iast ckR_begin rfl rfl (ab_inb_ok h6) ?_
          refine ab_go 3 [35] (pc' := 35) (lo' := [some (.ref 23), some (.int y1), some (.int (y2 + (1 : Int32))), some (.int (y3 + (1 : Int32)))]) (st' := []) (h' := rs_H pf (cs_u r 5 (y2).toNatClampNeg (r.1 1 (y3).toNatClampNeg)) rest) ckR_begin rfl ?_
          have e : fR_begin_35 (n + 1) r y1 y2 y3 = fR_begin_35 n (cs_u r 5 (y2).toNatClampNeg (r.1 1 (y3).toNatClampNeg)) y1 (y2 + (1 : Int32)) (y3 + (1 : Int32)) := by simp only [fR_begin_35, if_neg h1, if_pos h2, if_neg h3, if_neg h4, if_pos h6]
          exact ab_W.weak (ih (cs_u r 5 (y2).toNatClampNeg (r.1 1 (y3).toNatClampNeg)) y1 (y2 + (1 : Int32)) (y3 + (1 : Int32)) v (e.symm.trans hv)) ⟨rfl, rfl, rfl, rfl, trivial⟩
theorem tR_begin {x1 : Int32} {v : cs_S} (hv : fR_begin r x1 = some v) : ab_M X mR_begin (d) 0 0 [.ref 23, .int x1] (rs_H pf r rest) (fun r9 h9 => r9 = none ∧ h9 = rs_H pf v rest) := by
  refine ab_entry (by decide) (Nat.le_of_ble_eq_true rfl) ?_
  refine ab_go 9 [35] (pc' := 14) (lo' := [some (.ref 23), some (.int x1), none, none]) (st' := [.int (r.1 4 0), .int (r.1 4 22), .ref 23]) (h' := rs_H pf r rest) ckR_begin rfl ?_
  refine ab_icmp_ge ckR_begin rfl (fun (h1 : (r.1 4 0) ≤ (r.1 4 22)) => ?_) (fun (h1 : ¬ ((r.1 4 0) ≤ (r.1 4 22))) => ?_)
  · refine ab_go 9 [35] (pc' := 35) (lo' := [some (.ref 23), some (.int x1), some (.int (1 : Int32)), some (.int (0 : Int32))]) (st' := []) (h' := rs_H pf (cs_u (cs_u r 0 3 (0 : Int32)) 0 2 (23 : Int32)) rest) ckR_begin rfl ?_
    have e : fR_begin r x1 = fR_begin_35 40 (cs_u (cs_u r 0 3 (0 : Int32)) 0 2 (23 : Int32)) x1 (1 : Int32) (0 : Int32) := by simp only [fR_begin, if_pos h1]
    exact ab_W.weak (tR_begin_35 40 (cs_u (cs_u r 0 3 (0 : Int32)) 0 2 (23 : Int32)) x1 (1 : Int32) (0 : Int32) v (e.symm.trans hv)) ⟨rfl, rfl, rfl, rfl, trivial⟩
  · refine ab_go 10 [35] (pc' := 35) (lo' := [some (.ref 23), some (.int x1), some (.int (1 : Int32)), some (.int (0 : Int32))]) (st' := []) (h' := rs_H pf (cs_u (cs_u r 0 3 (1 : Int32)) 0 2 (23 : Int32)) rest) ckR_begin rfl ?_
    have e : fR_begin r x1 = fR_begin_35 40 (cs_u (cs_u r 0 3 (1 : Int32)) 0 2 (23 : Int32)) x1 (1 : Int32) (0 : Int32) := by simp only [fR_begin, if_neg h1]
    exact ab_W.weak (tR_begin_35 40 (cs_u (cs_u r 0 3 (1 : Int32)) 0 2 (23 : Int32)) x1 (1 : Int32) (0 : Int32) v (e.symm.trans hv)) ⟨rfl, rfl, rfl, rfl, trivial⟩
def fR_emergency (r : cs_S) (x1 : Int32) : Option (cs_S) := (if (r.1 0 5) = (4 : Int32) then (some r) else (ab_bd (fR_send r ((128 : Int32) + (r.1 0 4)) (8 : Int32) ((x1).toInt64 ||| (((r.1 1 0)).toInt64 <<< (((16 : Int32)).toInt64 &&& 63)))) (fun p1 => (some p1))))
theorem tR_emergency {x1 : Int32} {v : cs_S} (hv : fR_emergency r x1 = some v) : ab_M X mR_emergency (d + 1) 0 0 [.ref 23, .int x1] (rs_H pf r rest) (fun r9 h9 => r9 = none ∧ h9 = rs_H pf v rest) := by
  refine ab_entry (by decide) (Nat.le_of_ble_eq_true rfl) ?_
  refine ab_go 3 [] (pc' := 5) (lo' := [some (.ref 23), some (.int x1)]) (st' := [.int (4 : Int32), .int (r.1 0 5)]) (h' := rs_H pf r rest) ckR_emergency rfl ?_
  refine ab_icmp_eq ckR_emergency rfl (fun (h1 : (r.1 0 5) = (4 : Int32)) => ?_) (fun (h1 : ¬ ((r.1 0 5) = (4 : Int32))) => ?_)
  · have e : fR_emergency r x1 = some r := by simp only [fR_emergency, if_pos h1]
    obtain rfl := Option.some.inj (e.symm.trans hv)
    exact ab_vret ckR_emergency rfl rfl ⟨rfl, rfl⟩
  · refine ab_go 12 [] (pc' := 27) (lo' := [some (.ref 23), some (.int x1)]) (st' := [.int (r.1 1 0), .long (x1).toInt64, .int (8 : Int32), .int ((128 : Int32) + (r.1 0 4)), .ref 23]) (h' := rs_H pf r rest) ckR_emergency rfl ?_
    refine ab_go 4 [] (pc' := 32) (lo' := [some (.ref 23), some (.int x1)]) (st' := [.long ((x1).toInt64 ||| (((r.1 1 0)).toInt64 <<< (((16 : Int32)).toInt64 &&& 63))), .int (8 : Int32), .int ((128 : Int32) + (r.1 0 4)), .ref 23]) (h' := rs_H pf r rest) ckR_emergency rfl ?_
    rcases e1 : fR_send r ((128 : Int32) + (r.1 0 4)) (8 : Int32) ((x1).toInt64 ||| (((r.1 1 0)).toInt64 <<< (((16 : Int32)).toInt64 &&& 63))) with _ | p1
    · exact ab_no hv (by simp only [fR_emergency, if_neg h1, e1, ab_bd_n])
    refine ab_callV (bc2 := 0) (bs2 := 0) (as := [_, _, _]) (rest := []) ckR_emergency rfl (by decide +kernel) wR_send (tR_send (d := d) (x1 := ((128 : Int32) + (r.1 0 4))) (x2 := (8 : Int32)) (x3 := ((x1).toInt64 ||| (((r.1 1 0)).toInt64 <<< (((16 : Int32)).toInt64 &&& 63)))) (r := r) (v := p1) e1) rfl rfl (by omega) ⟨Nat.le_refl _, Nat.le_refl _⟩ (Nat.le_of_ble_eq_true rfl) ?_
    rintro _ _ ⟨rfl, rfl⟩
    have e : fR_emergency r x1 = some p1 := by simp only [fR_emergency, if_neg h1, e1, ab_bd_s]
    obtain rfl := Option.some.inj (e.symm.trans hv)
    exact ab_vret ckR_emergency rfl rfl ⟨rfl, rfl⟩
def fR_fault (r : cs_S) (x1 : Int32) : Option (cs_S) := (if (r.1 0 6) < (6 : Int32) then (if (r.1 0 6) < (4 : Int32) then (if x1 = (34321 : Int32) then (ab_bd (fR_emergency (cs_u (cs_u r 0 6 (7 : Int32)) 1 0 (33 : Int32)) x1) (fun p2 => (some p2))) else (ab_bd (fR_emergency (cs_u (cs_u r 0 6 (7 : Int32)) 1 0 (17 : Int32)) x1) (fun p1 => (some p1)))) else (if x1 = (34321 : Int32) then (ab_bd (fR_emergency (cs_u (cs_u r 0 6 (6 : Int32)) 1 0 (33 : Int32)) x1) (fun p4 => (some p4))) else (ab_bd (fR_emergency (cs_u (cs_u r 0 6 (6 : Int32)) 1 0 (17 : Int32)) x1) (fun p3 => (some p3))))) else (some r))
theorem tR_fault {x1 : Int32} {v : cs_S} (hv : fR_fault r x1 = some v) : ab_M X mR_fault (d + 2) 0 0 [.ref 23, .int x1] (rs_H pf r rest) (fun r9 h9 => r9 = none ∧ h9 = rs_H pf v rest) := by
  refine ab_entry (by decide) (Nat.le_of_ble_eq_true rfl) ?_
  refine ab_go 3 [] (pc' := 6) (lo' := [some (.ref 23), some (.int x1)]) (st' := [.int (6 : Int32), .int (r.1 0 6)]) (h' := rs_H pf r rest) ckR_fault rfl ?_
  refine ab_icmp_lt ckR_fault rfl (fun (h1 : (r.1 0 6) < (6 : Int32)) => ?_) (fun (h1 : ¬ ((r.1 0 6) < (6 : Int32))) => ?_)
  · refine ab_go 4 [] (pc' := 16) (lo' := [some (.ref 23), some (.int x1)]) (st' := [.int (4 : Int32), .int (r.1 0 6), .ref 23]) (h' := rs_H pf r rest) ckR_fault rfl ?_
    refine ab_icmp_lt ckR_fault rfl (fun (h2 : (r.1 0 6) < (4 : Int32)) => ?_) (fun (h2 : ¬ ((r.1 0 6) < (4 : Int32))) => ?_)
    · refine ab_go 7 [] (pc' := 37) (lo' := [some (.ref 23), some (.int x1)]) (st' := [.int (34321 : Int32), .int x1, .int (0 : Int32), .ref 30]) (h' := rs_H pf (cs_u r 0 6 (7 : Int32)) rest) ckR_fault rfl ?_
      refine ab_icmp_ne ckR_fault rfl (fun (h3 : ¬ (x1 = (34321 : Int32))) => ?_) (fun (h3 : x1 = (34321 : Int32)) => ?_)
      · refine ab_go 1 [] (pc' := 47) (lo' := [some (.ref 23), some (.int x1)]) (st' := [.int (17 : Int32), .int (0 : Int32), .ref 30]) (h' := rs_H pf (cs_u r 0 6 (7 : Int32)) rest) ckR_fault rfl ?_
        refine ab_iast ckR_fault rfl rfl (ab_inb_ok (by decide)) ?_
        refine ab_go 2 [] (pc' := 50) (lo' := [some (.ref 23), some (.int x1)]) (st' := [.int x1, .ref 23]) (h' := rs_H pf (cs_u (cs_u r 0 6 (7 : Int32)) 1 0 (17 : Int32)) rest) ckR_fault rfl ?_
        rcases e1 : fR_emergency (cs_u (cs_u r 0 6 (7 : Int32)) 1 0 (17 : Int32)) x1 with _ | p1
        · exact ab_no hv (by simp only [fR_fault, if_pos h1, if_pos h2, if_neg h3, e1, ab_bd_n])
        refine ab_callV (bc2 := 0) (bs2 := 0) (as := [_]) (rest := []) ckR_fault rfl (by decide +kernel) wR_emergency (tR_emergency (d := d) (x1 := x1) (r := (cs_u (cs_u r 0 6 (7 : Int32)) 1 0 (17 : Int32))) (v := p1) e1) rfl rfl (by omega) ⟨Nat.le_refl _, Nat.le_refl _⟩ (Nat.le_of_ble_eq_true rfl) ?_
        rintro _ _ ⟨rfl, rfl⟩
        have e : fR_fault r x1 = some p1 := by simp only [fR_fault, if_pos h1, if_pos h2, if_neg h3, e1, ab_bd_s]
        obtain rfl := Option.some.inj (e.symm.trans hv)
        exact ab_vret ckR_fault rfl rfl ⟨rfl, rfl⟩
      · refine ab_go 2 [] (pc' := 47) (lo' := [some (.ref 23), some (.int x1)]) (st' := [.int (33 : Int32), .int (0 : Int32), .ref 30]) (h' := rs_H pf (cs_u r 0 6 (7 : Int32)) rest) ckR_fault rfl ?_
        refine ab_iast ckR_fault rfl rfl (ab_inb_ok (by decide)) ?_
        refine ab_go 2 [] (pc' := 50) (lo' := [some (.ref 23), some (.int x1)]) (st' := [.int x1, .ref 23]) (h' := rs_H pf (cs_u (cs_u r 0 6 (7 : Int32)) 1 0 (33 : Int32)) rest) ckR_fault rfl ?_
        rcases e2 : fR_emergency (cs_u (cs_u r 0 6 (7 : Int32)) 1 0 (33 : Int32)) x1 with _ | p2
        · exact ab_no hv (by simp only [fR_fault, if_pos h1, if_pos h2, if_pos h3, e2, ab_bd_n])
        refine ab_callV (bc2 := 0) (bs2 := 0) (as := [_]) (rest := []) ckR_fault rfl (by decide +kernel) wR_emergency (tR_emergency (d := d) (x1 := x1) (r := (cs_u (cs_u r 0 6 (7 : Int32)) 1 0 (33 : Int32))) (v := p2) e2) rfl rfl (by omega) ⟨Nat.le_refl _, Nat.le_refl _⟩ (Nat.le_of_ble_eq_true rfl) ?_
        rintro _ _ ⟨rfl, rfl⟩
        have e : fR_fault r x1 = some p2 := by simp only [fR_fault, if_pos h1, if_pos h2, if_pos h3, e2, ab_bd_s]
        obtain rfl := Option.some.inj (e.symm.trans hv)
        exact ab_vret ckR_fault rfl rfl ⟨rfl, rfl⟩
    · refine ab_go 8 [] (pc' := 37) (lo' := [some (.ref 23), some (.int x1)]) (st' := [.int (34321 : Int32), .int x1, .int (0 : Int32), .ref 30]) (h' := rs_H pf (cs_u r 0 6 (6 : Int32)) rest) ckR_fault rfl ?_
      refine ab_icmp_ne ckR_fault rfl (fun (h4 : ¬ (x1 = (34321 : Int32))) => ?_) (fun (h4 : x1 = (34321 : Int32)) => ?_)
      · refine ab_go 1 [] (pc' := 47) (lo' := [some (.ref 23), some (.int x1)]) (st' := [.int (17 : Int32), .int (0 : Int32), .ref 30]) (h' := rs_H pf (cs_u r 0 6 (6 : Int32)) rest) ckR_fault rfl ?_
        refine ab_iast ckR_fault rfl rfl (ab_inb_ok (by decide)) ?_
        refine ab_go 2 [] (pc' := 50) (lo' := [some (.ref 23), some (.int x1)]) (st' := [.int x1, .ref 23]) (h' := rs_H pf (cs_u (cs_u r 0 6 (6 : Int32)) 1 0 (17 : Int32)) rest) ckR_fault rfl ?_
        rcases e3 : fR_emergency (cs_u (cs_u r 0 6 (6 : Int32)) 1 0 (17 : Int32)) x1 with _ | p3
        · exact ab_no hv (by simp only [fR_fault, if_pos h1, if_neg h2, if_neg h4, e3, ab_bd_n])
        refine ab_callV (bc2 := 0) (bs2 := 0) (as := [_]) (rest := []) ckR_fault rfl (by decide +kernel) wR_emergency (tR_emergency (d := d) (x1 := x1) (r := (cs_u (cs_u r 0 6 (6 : Int32)) 1 0 (17 : Int32))) (v := p3) e3) rfl rfl (by omega) ⟨Nat.le_refl _, Nat.le_refl _⟩ (Nat.le_of_ble_eq_true rfl) ?_
        rintro _ _ ⟨rfl, rfl⟩
        have e : fR_fault r x1 = some p3 := by simp only [fR_fault, if_pos h1, if_neg h2, if_neg h4, e3, ab_bd_s]
        obtain rfl := Option.some.inj (e.symm.trans hv)
        exact ab_vret ckR_fault rfl rfl ⟨rfl, rfl⟩
      · refine ab_go 2 [] (pc' := 47) (lo' := [some (.ref 23), some (.int x1)]) (st' := [.int (33 : Int32), .int (0 : Int32), .ref 30]) (h' := rs_H pf (cs_u r 0 6 (6 : Int32)) rest) ckR_fault rfl ?_
        refine ab_iast ckR_fault rfl rfl (ab_inb_ok (by decide)) ?_
        refine ab_go 2 [] (pc' := 50) (lo' := [some (.ref 23), some (.int x1)]) (st' := [.int x1, .ref 23]) (h' := rs_H pf (cs_u (cs_u r 0 6 (6 : Int32)) 1 0 (33 : Int32)) rest) ckR_fault rfl ?_
        rcases e4 : fR_emergency (cs_u (cs_u r 0 6 (6 : Int32)) 1 0 (33 : Int32)) x1 with _ | p4
        · exact ab_no hv (by simp only [fR_fault, if_pos h1, if_neg h2, if_pos h4, e4, ab_bd_n])
        refine ab_callV (bc2 := 0) (bs2 := 0) (as := [_]) (rest := []) ckR_fault rfl (by decide +kernel) wR_emergency (tR_emergency (d := d) (x1 := x1) (r := (cs_u (cs_u r 0 6 (6 : Int32)) 1 0 (33 : Int32))) (v := p4) e4) rfl rfl (by omega) ⟨Nat.le_refl _, Nat.le_refl _⟩ (Nat.le_of_ble_eq_true rfl) ?_
        rintro _ _ ⟨rfl, rfl⟩
        have e : fR_fault r x1 = some p4 := by simp only [fR_fault, if_pos h1, if_neg h2, if_pos h4, e4, ab_bd_s]
        obtain rfl := Option.some.inj (e.symm.trans hv)
        exact ab_vret ckR_fault rfl rfl ⟨rfl, rfl⟩
  · have e : fR_fault r x1 = some r := by simp only [fR_fault, if_neg h1]
    obtain rfl := Option.some.inj (e.symm.trans hv)
    exact ab_vret ckR_fault rfl rfl ⟨rfl, rfl⟩
def fR_bus (r : cs_S) (x1 : Int32) : Option (cs_S) := (if x1 = (r.1 0 8) then (some r) else (if ab_z01 x1 = true then (if x1 = 0 then (ab_bd (fR_fault (cs_u (cs_u r 0 8 x1) 0 0 (0 : Int32)) (33088 : Int32)) (fun p1 => (some p1))) else (some (cs_u r 0 8 x1))) else none))
theorem tR_bus {x1 : Int32} {v : cs_S} (hv : fR_bus r x1 = some v) : ab_M X mR_bus (d + 3) 0 0 [.ref 23, .int x1] (rs_H pf r rest) (fun r9 h9 => r9 = none ∧ h9 = rs_H pf v rest) := by
  refine ab_entry (by decide) (Nat.le_of_ble_eq_true rfl) ?_
  refine ab_go 3 [] (pc' := 5) (lo' := [some (.ref 23), some (.int x1)]) (st' := [.int (r.1 0 8), .int x1]) (h' := rs_H pf r rest) ckR_bus rfl ?_
  refine ab_icmp_ne ckR_bus rfl (fun (h1 : ¬ (x1 = (r.1 0 8))) => ?_) (fun (h1 : x1 = (r.1 0 8)) => ?_)
  · refine ab_go 2 [] (pc' := 11) (lo' := [some (.ref 23), some (.int x1)]) (st' := [.int x1, .ref 23]) (h' := rs_H pf r rest) ckR_bus rfl ?_
    by_cases h2 : ab_z01 x1 = true
    case neg => exact ab_no hv (by simp only [fR_bus, if_neg h1, if_neg h2])
    refine ab_putfR ckR_bus rfl rfl (Nat.le_of_ble_eq_true rfl) (ab_fitB (ab_z01_ok h2)) (fun q z => by cases z) ?_
    refine ab_go 1 [] (pc' := 15) (lo' := [some (.ref 23), some (.int x1)]) (st' := [.int x1]) (h' := rs_H pf (cs_u r 0 8 x1) rest) ckR_bus rfl ?_
    refine ab_if_ne ckR_bus rfl (fun (h3 : ¬ (x1 = 0)) => ?_) (fun (h3 : x1 = 0) => ?_)
    · have e : fR_bus r x1 = some (cs_u r 0 8 x1) := by simp only [fR_bus, if_neg h1, if_pos h2, if_neg h3]
      obtain rfl := Option.some.inj (e.symm.trans hv)
      exact ab_vret ckR_bus rfl rfl ⟨rfl, rfl⟩
    · refine ab_go 5 [] (pc' := 26) (lo' := [some (.ref 23), some (.int x1)]) (st' := [.int (33088 : Int32), .ref 23]) (h' := rs_H pf (cs_u (cs_u r 0 8 x1) 0 0 (0 : Int32)) rest) ckR_bus rfl ?_
      rcases e1 : fR_fault (cs_u (cs_u r 0 8 x1) 0 0 (0 : Int32)) (33088 : Int32) with _ | p1
      · exact ab_no hv (by simp only [fR_bus, if_neg h1, if_pos h2, if_pos h3, e1, ab_bd_n])
      refine ab_callV (bc2 := 0) (bs2 := 0) (as := [_]) (rest := []) ckR_bus rfl (by decide +kernel) wR_fault (tR_fault (d := d) (x1 := (33088 : Int32)) (r := (cs_u (cs_u r 0 8 x1) 0 0 (0 : Int32))) (v := p1) e1) rfl rfl (by omega) ⟨Nat.le_refl _, Nat.le_refl _⟩ (Nat.le_of_ble_eq_true rfl) ?_
      rintro _ _ ⟨rfl, rfl⟩
      have e : fR_bus r x1 = some p1 := by simp only [fR_bus, if_neg h1, if_pos h2, if_pos h3, e1, ab_bd_s]
      obtain rfl := Option.some.inj (e.symm.trans hv)
      exact ab_vret ckR_bus rfl rfl ⟨rfl, rfl⟩
  · have e : fR_bus r x1 = some r := by simp only [fR_bus, if_pos h1]
    obtain rfl := Option.some.inj (e.symm.trans hv)
    exact ab_vret ckR_bus rfl rfl ⟨rfl, rfl⟩
def fR_stage (r : cs_S)  : Int32 := (if (r.1 0 6) < (4 : Int32) then (0 : Int32) else (if (6 : Int32) < (r.1 0 6) then (0 : Int32) else (1 : Int32)))
theorem tR_stage : ab_M X mR_stage (d) 0 0 [.ref 23] (rs_H pf r rest) (fun r9 h9 => r9 = some (Value.int (fR_stage r)) ∧ h9 = rs_H pf r rest) := by
  refine ab_entry (by decide) (Nat.le_of_ble_eq_true rfl) ?_
  refine ab_go 3 [] (pc' := 5) (lo' := [some (.ref 23)]) (st' := [.int (4 : Int32), .int (r.1 0 6)]) (h' := rs_H pf r rest) ckR_stage rfl ?_
  refine ab_icmp_lt ckR_stage rfl (fun (h1 : (r.1 0 6) < (4 : Int32)) => ?_) (fun (h1 : ¬ ((r.1 0 6) < (4 : Int32))) => ?_)
  · refine ab_go 1 [] (pc' := 22) (lo' := [some (.ref 23)]) (st' := [.int (0 : Int32)]) (h' := rs_H pf r rest) ckR_stage rfl ?_
    have e : fR_stage r = (0 : Int32) := by simp only [fR_stage, if_pos h1]
    exact ab_zret ckR_stage rfl rfl (Or.inl rfl) ⟨(congrArg (fun q : Int32 => some (Value.int q)) e).symm, rfl⟩
  · refine ab_go 3 [] (pc' := 14) (lo' := [some (.ref 23)]) (st' := [.int (6 : Int32), .int (r.1 0 6)]) (h' := rs_H pf r rest) ckR_stage rfl ?_
    refine ab_icmp_gt ckR_stage rfl (fun (h2 : (6 : Int32) < (r.1 0 6)) => ?_) (fun (h2 : ¬ ((6 : Int32) < (r.1 0 6))) => ?_)
    · refine ab_go 1 [] (pc' := 22) (lo' := [some (.ref 23)]) (st' := [.int (0 : Int32)]) (h' := rs_H pf r rest) ckR_stage rfl ?_
      have e : fR_stage r = (0 : Int32) := by simp only [fR_stage, if_neg h1, if_pos h2]
      exact ab_zret ckR_stage rfl rfl (Or.inl rfl) ⟨(congrArg (fun q : Int32 => some (Value.int q)) e).symm, rfl⟩
    · refine ab_go 2 [] (pc' := 22) (lo' := [some (.ref 23)]) (st' := [.int (1 : Int32)]) (h' := rs_H pf r rest) ckR_stage rfl ?_
      have e : fR_stage r = (1 : Int32) := by simp only [fR_stage, if_neg h1, if_neg h2]
      exact ab_zret ckR_stage rfl rfl (Or.inr rfl) ⟨(congrArg (fun q : Int32 => some (Value.int q)) e).symm, rfl⟩
def fR_order (r : cs_S)  : Int32 := (if ((r.1 1 16) &&& (128 : Int32)) = 0 then (if ((r.1 1 16) &&& (2 : Int32)) = 0 then (1 : Int32) else (if ((r.1 1 16) &&& (4 : Int32)) = 0 then (2 : Int32) else (if ((r.1 1 16) &&& (1 : Int32)) = 0 then (3 : Int32) else (if ((r.1 1 16) &&& (8 : Int32)) = 0 then (4 : Int32) else (5 : Int32))))) else (if (r.1 0 10) = 0 then (6 : Int32) else (0 : Int32)))
theorem tR_order : ab_M X mR_order (d) 0 0 [.ref 23] (rs_H pf r rest) (fun r9 h9 => r9 = some (Value.int (fR_order r)) ∧ h9 = rs_H pf r rest) := by
  refine ab_entry (by decide) (Nat.le_of_ble_eq_true rfl) ?_
  refine ab_go 8 [] (pc' := 13) (lo' := [some (.ref 23), some (.int (r.1 1 16))]) (st' := [.int ((r.1 1 16) &&& (128 : Int32))]) (h' := rs_H pf r rest) ckR_order rfl ?_
  refine ab_if_eq ckR_order rfl (fun (h1 : ((r.1 1 16) &&& (128 : Int32)) = 0) => ?_) (fun (h1 : ¬ (((r.1 1 16) &&& (128 : Int32)) = 0)) => ?_)
  · refine ab_go 3 [] (pc' := 33) (lo' := [some (.ref 23), some (.int (r.1 1 16))]) (st' := [.int ((r.1 1 16) &&& (2 : Int32))]) (h' := rs_H pf r rest) ckR_order rfl ?_
    refine ab_if_ne ckR_order rfl (fun (h2 : ¬ (((r.1 1 16) &&& (2 : Int32)) = 0)) => ?_) (fun (h2 : ((r.1 1 16) &&& (2 : Int32)) = 0) => ?_)
    · refine ab_go 3 [] (pc' := 43) (lo' := [some (.ref 23), some (.int (r.1 1 16))]) (st' := [.int ((r.1 1 16) &&& (4 : Int32))]) (h' := rs_H pf r rest) ckR_order rfl ?_
      refine ab_if_ne ckR_order rfl (fun (h3 : ¬ (((r.1 1 16) &&& (4 : Int32)) = 0)) => ?_) (fun (h3 : ((r.1 1 16) &&& (4 : Int32)) = 0) => ?_)
      · refine ab_go 3 [] (pc' := 53) (lo' := [some (.ref 23), some (.int (r.1 1 16))]) (st' := [.int ((r.1 1 16) &&& (1 : Int32))]) (h' := rs_H pf r rest) ckR_order rfl ?_
        refine ab_if_ne ckR_order rfl (fun (h4 : ¬ (((r.1 1 16) &&& (1 : Int32)) = 0)) => ?_) (fun (h4 : ((r.1 1 16) &&& (1 : Int32)) = 0) => ?_)
        · refine ab_go 3 [] (pc' := 64) (lo' := [some (.ref 23), some (.int (r.1 1 16))]) (st' := [.int ((r.1 1 16) &&& (8 : Int32))]) (h' := rs_H pf r rest) ckR_order rfl ?_
          refine ab_if_ne ckR_order rfl (fun (h5 : ¬ (((r.1 1 16) &&& (8 : Int32)) = 0)) => ?_) (fun (h5 : ((r.1 1 16) &&& (8 : Int32)) = 0) => ?_)
          · refine ab_go 1 [] (pc' := 72) (lo' := [some (.ref 23), some (.int (r.1 1 16))]) (st' := [.int (5 : Int32)]) (h' := rs_H pf r rest) ckR_order rfl ?_
            have e : fR_order r = (5 : Int32) := by simp only [fR_order, if_pos h1, if_neg h2, if_neg h3, if_neg h4, if_neg h5]
            exact ab_iret ckR_order rfl rfl ⟨(congrArg (fun q : Int32 => some (Value.int q)) e).symm, rfl⟩
          · refine ab_go 2 [] (pc' := 72) (lo' := [some (.ref 23), some (.int (r.1 1 16))]) (st' := [.int (4 : Int32)]) (h' := rs_H pf r rest) ckR_order rfl ?_
            have e : fR_order r = (4 : Int32) := by simp only [fR_order, if_pos h1, if_neg h2, if_neg h3, if_neg h4, if_pos h5]
            exact ab_iret ckR_order rfl rfl ⟨(congrArg (fun q : Int32 => some (Value.int q)) e).symm, rfl⟩
        · refine ab_go 2 [] (pc' := 72) (lo' := [some (.ref 23), some (.int (r.1 1 16))]) (st' := [.int (3 : Int32)]) (h' := rs_H pf r rest) ckR_order rfl ?_
          have e : fR_order r = (3 : Int32) := by simp only [fR_order, if_pos h1, if_neg h2, if_neg h3, if_pos h4]
          exact ab_iret ckR_order rfl rfl ⟨(congrArg (fun q : Int32 => some (Value.int q)) e).symm, rfl⟩
      · refine ab_go 2 [] (pc' := 72) (lo' := [some (.ref 23), some (.int (r.1 1 16))]) (st' := [.int (2 : Int32)]) (h' := rs_H pf r rest) ckR_order rfl ?_
        have e : fR_order r = (2 : Int32) := by simp only [fR_order, if_pos h1, if_neg h2, if_pos h3]
        exact ab_iret ckR_order rfl rfl ⟨(congrArg (fun q : Int32 => some (Value.int q)) e).symm, rfl⟩
    · refine ab_go 2 [] (pc' := 72) (lo' := [some (.ref 23), some (.int (r.1 1 16))]) (st' := [.int (1 : Int32)]) (h' := rs_H pf r rest) ckR_order rfl ?_
      have e : fR_order r = (1 : Int32) := by simp only [fR_order, if_pos h1, if_pos h2]
      exact ab_iret ckR_order rfl rfl ⟨(congrArg (fun q : Int32 => some (Value.int q)) e).symm, rfl⟩
  · refine ab_go 2 [] (pc' := 20) (lo' := [some (.ref 23), some (.int (r.1 1 16))]) (st' := [.int (r.1 0 10)]) (h' := rs_H pf r rest) ckR_order rfl ?_
    refine ab_if_eq ckR_order rfl (fun (h6 : (r.1 0 10) = 0) => ?_) (fun (h6 : ¬ ((r.1 0 10) = 0)) => ?_)
    · refine ab_go 1 [] (pc' := 29) (lo' := [some (.ref 23), some (.int (r.1 1 16))]) (st' := [.int (6 : Int32)]) (h' := rs_H pf r rest) ckR_order rfl ?_
      have e : fR_order r = (6 : Int32) := by simp only [fR_order, if_neg h1, if_pos h6]
      exact ab_iret ckR_order rfl rfl ⟨(congrArg (fun q : Int32 => some (Value.int q)) e).symm, rfl⟩
    · refine ab_go 2 [] (pc' := 29) (lo' := [some (.ref 23), some (.int (r.1 1 16))]) (st' := [.int (0 : Int32)]) (h' := rs_H pf r rest) ckR_order rfl ?_
      have e : fR_order r = (0 : Int32) := by simp only [fR_order, if_neg h1, if_neg h6]
      exact ab_iret ckR_order rfl rfl ⟨(congrArg (fun q : Int32 => some (Value.int q)) e).symm, rfl⟩
def fR_find_2 : Nat → cs_S → Int32 → Int32 → Option (Int32)
  | 0, _, _, _ => none
  | n + 1, r, y1, y2 => (if (30 : Int32) ≤ y2 then (some (-1 : Int32)) else (if ab_inb y2 30 = true then (if (mdKey (y2).toNatClampNeg) = y1 then (some y2) else fR_find_2 n r y1 (y2 + (1 : Int32))) else none))
def fR_find (r : cs_S) (x1 : Int32) : Option (Int32) := fR_find_2 40 r x1 (0 : Int32)
theorem tR_find_2 (n : Nat)   : ∀ (r : cs_S) (y1 : Int32) (y2 : Int32)  (v : Int32) (hv : fR_find_2 n r y1 y2 = some v), ab_W X mR_find (d) 0 0 2 [some (.ref 23), some (.int y1), some (.int y2)] [] (rs_H pf r rest) (fun r9 h9 => r9 = some (Value.int v) ∧ h9 = rs_H pf r rest) := by
  induction n with
  | zero =>
    intro r y1 y2 v hv
    cases hv
  | succ n ih =>
    intro r y1 y2 v hv
    refine ab_go 2 [2] (pc' := 5) (lo' := [some (.ref 23), some (.int y1), some (.int y2)]) (st' := [.int (30 : Int32), .int y2]) (h' := rs_H pf r rest) ckR_find rfl ?_
    refine ab_icmp_ge ckR_find rfl (fun (h1 : (30 : Int32) ≤ y2) => ?_) (fun (h1 : ¬ ((30 : Int32) ≤ y2)) => ?_)
    · refine ab_go 1 [2] (pc' := 27) (lo' := [some (.ref 23), some (.int y1), some (.int y2)]) (st' := [.int (-1 : Int32)]) (h' := rs_H pf r rest) ckR_find rfl ?_
      have e : fR_find_2 (n + 1) r y1 y2 = some (-1 : Int32) := by simp only [fR_find_2, if_pos h1]
      obtain rfl := Option.some.inj (e.symm.trans hv)
      exact ab_iret ckR_find rfl rfl ⟨rfl, rfl⟩
    · refine ab_go 3 [2] (pc' := 13) (lo' := [some (.ref 23), some (.int y1), some (.int y2)]) (st' := [.int y2, .ref 24]) (h' := rs_H pf r rest) ckR_find rfl ?_
      by_cases h2 : ab_inb y2 30 = true
      case neg => exact ab_no hv (by simp only [fR_find_2, if_neg h1, if_neg h2])
      refine ab_iald ckR_find rfl rfl (ab_inb_ok h2) ?_
      refine ab_go 1 [2] (pc' := 15) (lo' := [some (.ref 23), some (.int y1), some (.int y2)]) (st' := [.int y1, .int (mdKey (y2).toNatClampNeg)]) (h' := rs_H pf r rest) ckR_find rfl ?_
      refine ab_icmp_ne ckR_find rfl (fun (h3 : ¬ ((mdKey (y2).toNatClampNeg) = y1)) => ?_) (fun (h3 : (mdKey (y2).toNatClampNeg) = y1) => ?_)
      · refine ab_go 2 [2] (pc' := 2) (lo' := [some (.ref 23), some (.int y1), some (.int (y2 + (1 : Int32)))]) (st' := []) (h' := rs_H pf r rest) ckR_find rfl ?_
        have e : fR_find_2 (n + 1) r y1 y2 = fR_find_2 n r y1 (y2 + (1 : Int32)) := by simp only [fR_find_2, if_neg h1, if_pos h2, if_neg h3]
        exact ab_W.weak (ih r y1 (y2 + (1 : Int32)) v (e.symm.trans hv)) ⟨rfl, rfl, rfl, trivial⟩
      · refine ab_go 1 [2] (pc' := 19) (lo' := [some (.ref 23), some (.int y1), some (.int y2)]) (st' := [.int y2]) (h' := rs_H pf r rest) ckR_find rfl ?_
        have e : fR_find_2 (n + 1) r y1 y2 = some y2 := by simp only [fR_find_2, if_neg h1, if_pos h2, if_pos h3]
        obtain rfl := Option.some.inj (e.symm.trans hv)
        exact ab_iret ckR_find rfl rfl ⟨rfl, rfl⟩
theorem tR_find {x1 : Int32} {v : Int32} (hv : fR_find r x1 = some v) : ab_M X mR_find (d) 0 0 [.ref 23, .int x1] (rs_H pf r rest) (fun r9 h9 => r9 = some (Value.int v) ∧ h9 = rs_H pf r rest) := by
  refine ab_entry (by decide) (Nat.le_of_ble_eq_true rfl) ?_
  refine ab_go 2 [2] (pc' := 2) (lo' := [some (.ref 23), some (.int x1), some (.int (0 : Int32))]) (st' := []) (h' := rs_H pf r rest) ckR_find rfl ?_
  have e : fR_find r x1 = fR_find_2 40 r x1 (0 : Int32) := by simp only [fR_find]
  exact ab_W.weak (tR_find_2 40 r x1 (0 : Int32) v (e.symm.trans hv)) ⟨rfl, rfl, rfl, trivial⟩
def fR_size_4 : Nat → cs_S → Int32 → Int32 → Int32 → Option (Int32)
  | 0, _, _, _, _ => none
  | n + 1, r, y1, y2, y3 => (if ab_inb y1 30 = true then (if (r.1 1 (y1).toNatClampNeg) < y3 then (some y2) else (if ab_inb (y1 + y3) 30 = true then (ab_bd (fR_find r (((r.1 1 ((y1 + y3)).toNatClampNeg)).toUInt32 >>> (((8 : Int32)).toUInt32 &&& Int32.toUInt32 31)).toInt32) (fun p1 => (if 0 ≤ p1 then (if ab_inb p1 30 = true then fR_size_4 n r y1 (y2 + (mdBytes (p1).toNatClampNeg)) (y3 + (1 : Int32)) else none) else fR_size_4 n r y1 (y2 + (0 : Int32)) (y3 + (1 : Int32))))) else none)) else none)
def fR_size (r : cs_S) (x1 : Int32) : Option (Int32) := fR_size_4 40 r x1 (0 : Int32) (1 : Int32)
theorem tR_size_4 (n : Nat)   : ∀ (r : cs_S) (y1 : Int32) (y2 : Int32) (y3 : Int32)  (v : Int32) (hv : fR_size_4 n r y1 y2 y3 = some v), ab_W X mR_size (d + 1) 0 0 4 [some (.ref 23), some (.int y1), some (.int y2), some (.int y3), none] [] (rs_H pf r rest) (fun r9 h9 => r9 = some (Value.int v) ∧ h9 = rs_H pf r rest) := by
  induction n with
  | zero =>
    intro r y1 y2 y3 v hv
    cases hv
  | succ n ih =>
    intro r y1 y2 y3 v hv
    refine ab_go 4 [4] (pc' := 10) (lo' := [some (.ref 23), some (.int y1), some (.int y2), some (.int y3), none]) (st' := [.int y1, .ref 30, .int y3]) (h' := rs_H pf r rest) ckR_size rfl ?_
    by_cases h1 : ab_inb y1 30 = true
    case neg => exact ab_no hv (by simp only [fR_size_4, if_neg h1])
    refine ab_iald ckR_size rfl rfl (ab_inb_ok h1) ?_
    refine ab_icmp_gt ckR_size rfl (fun (h2 : (r.1 1 (y1).toNatClampNeg) < y3) => ?_) (fun (h2 : ¬ ((r.1 1 (y1).toNatClampNeg) < y3)) => ?_)
    · refine ab_go 1 [4] (pc' := 57) (lo' := [some (.ref 23), some (.int y1), some (.int y2), some (.int y3), none]) (st' := [.int y2]) (h' := rs_H pf r rest) ckR_size rfl ?_
      have e : fR_size_4 (n + 1) r y1 y2 y3 = some y2 := by simp only [fR_size_4, if_pos h1, if_pos h2]
      obtain rfl := Option.some.inj (e.symm.trans hv)
      exact ab_iret ckR_size rfl rfl ⟨rfl, rfl⟩
    · refine ab_go 6 [4] (pc' := 22) (lo' := [some (.ref 23), some (.int y1), some (.int y2), some (.int y3), none]) (st' := [.int (y1 + y3), .ref 30, .ref 23]) (h' := rs_H pf r rest) ckR_size rfl ?_
      by_cases h3 : ab_inb (y1 + y3) 30 = true
      case neg => exact ab_no hv (by simp only [fR_size_4, if_pos h1, if_neg h2, if_neg h3])
      refine ab_iald ckR_size rfl rfl (ab_inb_ok h3) ?_
      refine ab_go 2 [4] (pc' := 26) (lo' := [some (.ref 23), some (.int y1), some (.int y2), some (.int y3), none]) (st' := [.int (((r.1 1 ((y1 + y3)).toNatClampNeg)).toUInt32 >>> (((8 : Int32)).toUInt32 &&& Int32.toUInt32 31)).toInt32, .ref 23]) (h' := rs_H pf r rest) ckR_size rfl ?_
      rcases e1 : fR_find r (((r.1 1 ((y1 + y3)).toNatClampNeg)).toUInt32 >>> (((8 : Int32)).toUInt32 &&& Int32.toUInt32 31)).toInt32 with _ | p1
      · exact ab_no hv (by simp only [fR_size_4, if_pos h1, if_neg h2, if_pos h3, e1, ab_bd_n])
      refine ab_callV (bc2 := 0) (bs2 := 0) (as := [_]) (rest := []) ckR_size rfl (by decide +kernel) wR_find (tR_find (d := d) (x1 := (((r.1 1 ((y1 + y3)).toNatClampNeg)).toUInt32 >>> (((8 : Int32)).toUInt32 &&& Int32.toUInt32 31)).toInt32) (r := r) (v := p1) e1) rfl rfl (by omega) ⟨Nat.le_refl _, Nat.le_refl _⟩ (Nat.le_of_ble_eq_true rfl) ?_
      rintro _ _ ⟨rfl, rfl⟩
      refine ab_go 3 [4] (pc' := 34) (lo' := [some (.ref 23), some (.int y1), some (.int y2), some (.int y3), some (.int p1)]) (st' := [.int p1, .int y2]) (h' := rs_H pf r rest) ckR_size rfl ?_
      refine ab_if_ge ckR_size rfl (fun (h4 : 0 ≤ p1) => ?_) (fun (h4 : ¬ (0 ≤ p1)) => ?_)
      · refine ab_go 3 [4] (pc' := 47) (lo' := [some (.ref 23), some (.int y1), some (.int y2), some (.int y3), some (.int p1)]) (st' := [.int p1, .ref 25, .int y2]) (h' := rs_H pf r rest) ckR_size rfl ?_
        by_cases h5 : ab_inb p1 30 = true
        case neg => exact ab_no hv (by simp only [fR_size_4, if_pos h1, if_neg h2, if_pos h3, e1, ab_bd_s, if_pos h4, if_neg h5])
        refine ab_iald ckR_size rfl rfl (ab_inb_ok h5) ?_
        refine ab_go 4 [4] (pc' := 4) (lo' := [some (.ref 23), some (.int y1), some (.int (y2 + (mdBytes (p1).toNatClampNeg))), some (.int (y3 + (1 : Int32))), some (.int p1)]) (st' := []) (h' := rs_H pf r rest) ckR_size rfl ?_
        have e : fR_size_4 (n + 1) r y1 y2 y3 = fR_size_4 n r y1 (y2 + (mdBytes (p1).toNatClampNeg)) (y3 + (1 : Int32)) := by simp only [fR_size_4, if_pos h1, if_neg h2, if_pos h3, e1, ab_bd_s, if_pos h4, if_pos h5]
        exact ab_W.weak (ih r y1 (y2 + (mdBytes (p1).toNatClampNeg)) (y3 + (1 : Int32)) v (e.symm.trans hv)) ⟨rfl, rfl, rfl, rfl, trivial⟩
      · refine ab_go 6 [4] (pc' := 4) (lo' := [some (.ref 23), some (.int y1), some (.int (y2 + (0 : Int32))), some (.int (y3 + (1 : Int32))), some (.int p1)]) (st' := []) (h' := rs_H pf r rest) ckR_size rfl ?_
        have e : fR_size_4 (n + 1) r y1 y2 y3 = fR_size_4 n r y1 (y2 + (0 : Int32)) (y3 + (1 : Int32)) := by simp only [fR_size_4, if_pos h1, if_neg h2, if_pos h3, e1, ab_bd_s, if_neg h4]
        exact ab_W.weak (ih r y1 (y2 + (0 : Int32)) (y3 + (1 : Int32)) v (e.symm.trans hv)) ⟨rfl, rfl, rfl, rfl, trivial⟩
theorem tR_size {x1 : Int32} {v : Int32} (hv : fR_size r x1 = some v) : ab_M X mR_size (d + 1) 0 0 [.ref 23, .int x1] (rs_H pf r rest) (fun r9 h9 => r9 = some (Value.int v) ∧ h9 = rs_H pf r rest) := by
  refine ab_entry (by decide) (Nat.le_of_ble_eq_true rfl) ?_
  refine ab_go 4 [4] (pc' := 4) (lo' := [some (.ref 23), some (.int x1), some (.int (0 : Int32)), some (.int (1 : Int32)), none]) (st' := []) (h' := rs_H pf r rest) ckR_size rfl ?_
  have e : fR_size r x1 = fR_size_4 40 r x1 (0 : Int32) (1 : Int32) := by simp only [fR_size]
  exact ab_W.weak (tR_size_4 40 r x1 (0 : Int32) (1 : Int32) v (e.symm.trans hv)) ⟨rfl, rfl, rfl, rfl, trivial⟩
def fR_isIndex_4 : Nat → cs_S → Int32 → Int32 → Int32 → Option (Int32)
  | 0, _, _, _, _ => none
  | n + 1, r, y1, y2, y3 => (if (30 : Int32) ≤ y3 then (if ab_z01 y2 = true then (some y2) else none) else (if y2 = 0 then (if ab_inb y3 30 = true then (if ((mdKey (y3).toNatClampNeg) >>> ((8 : Int32) &&& 31)) = y1 then fR_isIndex_4 n r y1 (1 : Int32) (y3 + (1 : Int32)) else fR_isIndex_4 n r y1 (0 : Int32) (y3 + (1 : Int32))) else none) else fR_isIndex_4 n r y1 (1 : Int32) (y3 + (1 : Int32))))
def fR_isIndex (r : cs_S) (x1 : Int32) : Option (Int32) := fR_isIndex_4 40 r x1 (0 : Int32) (0 : Int32)
theorem tR_isIndex_4 (n : Nat)   : ∀ (r : cs_S) (y1 : Int32) (y2 : Int32) (y3 : Int32)  (v : Int32) (hv : fR_isIndex_4 n r y1 y2 y3 = some v), ab_W X mR_isIndex (d) 0 0 4 [some (.ref 23), some (.int y1), some (.int y2), some (.int y3)] [] (rs_H pf r rest) (fun r9 h9 => r9 = some (Value.int v) ∧ h9 = rs_H pf r rest) := by
  induction n with
  | zero =>
    intro r y1 y2 y3 v hv
    cases hv
  | succ n ih =>
    intro r y1 y2 y3 v hv
    refine ab_go 2 [4] (pc' := 7) (lo' := [some (.ref 23), some (.int y1), some (.int y2), some (.int y3)]) (st' := [.int (30 : Int32), .int y3]) (h' := rs_H pf r rest) ckR_isIndex rfl ?_
    refine ab_icmp_ge ckR_isIndex rfl (fun (h1 : (30 : Int32) ≤ y3) => ?_) (fun (h1 : ¬ ((30 : Int32) ≤ y3)) => ?_)
    · refine ab_go 1 [4] (pc' := 40) (lo' := [some (.ref 23), some (.int y1), some (.int y2), some (.int y3)]) (st' := [.int y2]) (h' := rs_H pf r rest) ckR_isIndex rfl ?_
      by_cases h2 : ab_z01 y2 = true
      case neg => exact ab_no hv (by simp only [fR_isIndex_4, if_pos h1, if_neg h2])
      have e : fR_isIndex_4 (n + 1) r y1 y2 y3 = some y2 := by simp only [fR_isIndex_4, if_pos h1, if_pos h2]
      obtain rfl := Option.some.inj (e.symm.trans hv)
      exact ab_zret ckR_isIndex rfl rfl (ab_z01_ok h2) ⟨rfl, rfl⟩
    · refine ab_go 1 [4] (pc' := 11) (lo' := [some (.ref 23), some (.int y1), some (.int y2), some (.int y3)]) (st' := [.int y2]) (h' := rs_H pf r rest) ckR_isIndex rfl ?_
      refine ab_if_ne ckR_isIndex rfl (fun (h3 : ¬ (y2 = 0)) => ?_) (fun (h3 : y2 = 0) => ?_)
      · refine ab_go 5 [4] (pc' := 4) (lo' := [some (.ref 23), some (.int y1), some (.int (1 : Int32)), some (.int (y3 + (1 : Int32)))]) (st' := []) (h' := rs_H pf r rest) ckR_isIndex rfl ?_
        have e : fR_isIndex_4 (n + 1) r y1 y2 y3 = fR_isIndex_4 n r y1 (1 : Int32) (y3 + (1 : Int32)) := by simp only [fR_isIndex_4, if_neg h1, if_neg h3]
        exact ab_W.weak (ih r y1 (1 : Int32) (y3 + (1 : Int32)) v (e.symm.trans hv)) ⟨rfl, rfl, rfl, rfl, trivial⟩
      · refine ab_go 3 [4] (pc' := 19) (lo' := [some (.ref 23), some (.int y1), some (.int y2), some (.int y3)]) (st' := [.int y3, .ref 24]) (h' := rs_H pf r rest) ckR_isIndex rfl ?_
        by_cases h4 : ab_inb y3 30 = true
        case neg => exact ab_no hv (by simp only [fR_isIndex_4, if_neg h1, if_pos h3, if_neg h4])
        refine ab_iald ckR_isIndex rfl rfl (ab_inb_ok h4) ?_
        refine ab_go 3 [4] (pc' := 24) (lo' := [some (.ref 23), some (.int y1), some (.int y2), some (.int y3)]) (st' := [.int y1, .int ((mdKey (y3).toNatClampNeg) >>> ((8 : Int32) &&& 31))]) (h' := rs_H pf r rest) ckR_isIndex rfl ?_
        refine ab_icmp_ne ckR_isIndex rfl (fun (h5 : ¬ (((mdKey (y3).toNatClampNeg) >>> ((8 : Int32) &&& 31)) = y1)) => ?_) (fun (h5 : ((mdKey (y3).toNatClampNeg) >>> ((8 : Int32) &&& 31)) = y1) => ?_)
        · refine ab_go 4 [4] (pc' := 4) (lo' := [some (.ref 23), some (.int y1), some (.int (0 : Int32)), some (.int (y3 + (1 : Int32)))]) (st' := []) (h' := rs_H pf r rest) ckR_isIndex rfl ?_
          have e : fR_isIndex_4 (n + 1) r y1 y2 y3 = fR_isIndex_4 n r y1 (0 : Int32) (y3 + (1 : Int32)) := by simp only [fR_isIndex_4, if_neg h1, if_pos h3, if_pos h4, if_neg h5]
          exact ab_W.weak (ih r y1 (0 : Int32) (y3 + (1 : Int32)) v (e.symm.trans hv)) ⟨rfl, rfl, rfl, rfl, trivial⟩
        · refine ab_go 5 [4] (pc' := 4) (lo' := [some (.ref 23), some (.int y1), some (.int (1 : Int32)), some (.int (y3 + (1 : Int32)))]) (st' := []) (h' := rs_H pf r rest) ckR_isIndex rfl ?_
          have e : fR_isIndex_4 (n + 1) r y1 y2 y3 = fR_isIndex_4 n r y1 (1 : Int32) (y3 + (1 : Int32)) := by simp only [fR_isIndex_4, if_neg h1, if_pos h3, if_pos h4, if_pos h5]
          exact ab_W.weak (ih r y1 (1 : Int32) (y3 + (1 : Int32)) v (e.symm.trans hv)) ⟨rfl, rfl, rfl, rfl, trivial⟩
theorem tR_isIndex {x1 : Int32} {v : Int32} (hv : fR_isIndex r x1 = some v) : ab_M X mR_isIndex (d) 0 0 [.ref 23, .int x1] (rs_H pf r rest) (fun r9 h9 => r9 = some (Value.int v) ∧ h9 = rs_H pf r rest) := by
  refine ab_entry (by decide) (Nat.le_of_ble_eq_true rfl) ?_
  refine ab_go 4 [4] (pc' := 4) (lo' := [some (.ref 23), some (.int x1), some (.int (0 : Int32)), some (.int (0 : Int32))]) (st' := []) (h' := rs_H pf r rest) ckR_isIndex rfl ?_
  have e : fR_isIndex r x1 = fR_isIndex_4 40 r x1 (0 : Int32) (0 : Int32) := by simp only [fR_isIndex]
  exact ab_W.weak (tR_isIndex_4 40 r x1 (0 : Int32) (0 : Int32) v (e.symm.trans hv)) ⟨rfl, rfl, rfl, rfl, trivial⟩
def fR_entries_5 : Nat → cs_S → Int32 → Int32 → Int32 → Int32 → Option (Int32)
  | 0, _, _, _, _, _ => none
  | n + 1, r, y1, y2, y3, y4 => (if y2 < y4 then (some (0 : Int32)) else (if ab_inb (y1 + y4) 30 = true then (ab_bd (fR_find r (((r.1 1 ((y1 + y4)).toNatClampNeg)).toUInt32 >>> (((8 : Int32)).toUInt32 &&& Int32.toUInt32 31)).toInt32) (fun p1 => (if p1 < 0 then (some (100925505 : Int32)) else (if (((r.1 1 ((y1 + y4)).toNatClampNeg)).toUInt32 >>> (((16 : Int32)).toUInt32 &&& Int32.toUInt32 31)).toInt32 < (24576 : Int32) then (some (100925505 : Int32)) else (if ab_inb p1 30 = true then (if ((r.1 1 ((y1 + y4)).toNatClampNeg) &&& (255 : Int32)) = ((8 : Int32) * (mdBytes (p1).toNatClampNeg)) then (if y1 = (5 : Int32) then (if ((mdKind (p1).toNatClampNeg) &&& (7 : Int32)) = (2 : Int32) then (if (y3 + (mdBytes (p1).toNatClampNeg)) ≤ (8 : Int32) then fR_entries_5 n r y1 y2 (y3 + (mdBytes (p1).toNatClampNeg)) (y4 + (1 : Int32)) else (some (100925506 : Int32))) else (some (100925505 : Int32))) else (if ((mdKind (p1).toNatClampNeg) &&& (7 : Int32)) = 0 then (if (y3 + (mdBytes (p1).toNatClampNeg)) ≤ (8 : Int32) then fR_entries_5 n r y1 y2 (y3 + (mdBytes (p1).toNatClampNeg)) (y4 + (1 : Int32)) else (some (100925506 : Int32))) else (if ((mdKind (p1).toNatClampNeg) &&& (7 : Int32)) = (2 : Int32) then (if (y3 + (mdBytes (p1).toNatClampNeg)) ≤ (8 : Int32) then fR_entries_5 n r y1 y2 (y3 + (mdBytes (p1).toNatClampNeg)) (y4 + (1 : Int32)) else (some (100925506 : Int32))) else (if ((mdKind (p1).toNatClampNeg) &&& (7 : Int32)) = (3 : Int32) then (if (y3 + (mdBytes (p1).toNatClampNeg)) ≤ (8 : Int32) then fR_entries_5 n r y1 y2 (y3 + (mdBytes (p1).toNatClampNeg)) (y4 + (1 : Int32)) else (some (100925506 : Int32))) else (some (100925505 : Int32)))))) else (some (100925505 : Int32))) else none))))) else none))
def fR_entries (r : cs_S) (x1 : Int32) (x2 : Int32) : Option (Int32) := fR_entries_5 40 r x1 x2 (0 : Int32) (1 : Int32)
set_option maxRecDepth 20000 in
set_option maxHeartbeats 4000000 in
theorem tR_entries_5 (n : Nat)   : ∀ (r : cs_S) (y1 : Int32) (y2 : Int32) (y3 : Int32) (y4 : Int32)  (v : Int32) (hv : fR_entries_5 n r y1 y2 y3 y4 = some v), ab_W X mR_entries (d + 1) 0 0 5 [some (.ref 23), some (.int y1), some (.int y2), some (.int y3), some (.int y4), none, none, none] [] (rs_H pf r rest) (fun r9 h9 => r9 = some (Value.int v) ∧ h9 = rs_H pf r rest) := by
  induction n with
  | zero =>
    intro r y1 y2 y3 y4 v hv
    cases hv
  | succ n ih =>
    intro r y1 y2 y3 y4 v hv
    refine ab_go 2 [5] (pc' := 8) (lo' := [some (.ref 23), some (.int y1), some (.int y2), some (.int y3), some (.int y4), none, none, none]) (st' := [.int y2, .int y4]) (h' := rs_H pf r rest) ckR_entries rfl ?_
    refine ab_icmp_gt ckR_entries rfl (fun (h1 : y2 < y4) => ?_) (fun (h1 : ¬ (y2 < y4)) => ?_)
    · refine ab_go 1 [5] (pc' := 143) (lo' := [some (.ref 23), some (.int y1), some (.int y2), some (.int y3), some (.int y4), none, none, none]) (st' := [.int (0 : Int32)]) (h' := rs_H pf r rest) ckR_entries rfl ?_
      have e : fR_entries_5 (n + 1) r y1 y2 y3 y4 = some (0 : Int32) := by simp only [fR_entries_5, if_pos h1]
      obtain rfl := Option.some.inj (e.symm.trans hv)
      exact ab_iret ckR_entries rfl rfl ⟨rfl, rfl⟩
    · refine ab_go 5 [5] (pc' := 19) (lo' := [some (.ref 23), some (.int y1), some (.int y2), some (.int y3), some (.int y4), none, none, none]) (st' := [.int (y1 + y4), .ref 30]) (h' := rs_H pf r rest) ckR_entries rfl ?_
      by_cases h2 : ab_inb (y1 + y4) 30 = true
      case neg => exact ab_no hv (by simp only [fR_entries_5, if_neg h1, if_neg h2])
      refine ab_iald ckR_entries rfl rfl (ab_inb_ok h2) ?_
      refine ab_go 5 [5] (pc' := 28) (lo' := [some (.ref 23), some (.int y1), some (.int y2), some (.int y3), some (.int y4), some (.int (r.1 1 ((y1 + y4)).toNatClampNeg)), none, none]) (st' := [.int (((r.1 1 ((y1 + y4)).toNatClampNeg)).toUInt32 >>> (((8 : Int32)).toUInt32 &&& Int32.toUInt32 31)).toInt32, .ref 23]) (h' := rs_H pf r rest) ckR_entries rfl ?_
      rcases e1 : fR_find r (((r.1 1 ((y1 + y4)).toNatClampNeg)).toUInt32 >>> (((8 : Int32)).toUInt32 &&& Int32.toUInt32 31)).toInt32 with _ | p1
      · exact ab_no hv (by simp only [fR_entries_5, if_neg h1, if_pos h2, e1, ab_bd_n])
      refine ab_callV (bc2 := 0) (bs2 := 0) (as := [_]) (rest := []) ckR_entries rfl (by decide +kernel) wR_find (tR_find (d := d) (x1 := (((r.1 1 ((y1 + y4)).toNatClampNeg)).toUInt32 >>> (((8 : Int32)).toUInt32 &&& Int32.toUInt32 31)).toInt32) (r := r) (v := p1) e1) rfl rfl (by omega) ⟨Nat.le_refl _, Nat.le_refl _⟩ (Nat.le_of_ble_eq_true rfl) ?_
      rintro _ _ ⟨rfl, rfl⟩
      refine ab_go 2 [5] (pc' := 35) (lo' := [some (.ref 23), some (.int y1), some (.int y2), some (.int y3), some (.int y4), some (.int (r.1 1 ((y1 + y4)).toNatClampNeg)), some (.int p1), none]) (st' := [.int p1]) (h' := rs_H pf r rest) ckR_entries rfl ?_
      refine ab_if_lt ckR_entries rfl (fun (h3 : p1 < 0) => ?_) (fun (h3 : ¬ (p1 < 0)) => ?_)
      · refine ab_go 1 [5] (pc' := 70) (lo' := [some (.ref 23), some (.int y1), some (.int y2), some (.int y3), some (.int y4), some (.int (r.1 1 ((y1 + y4)).toNatClampNeg)), some (.int p1), none]) (st' := [.int (100925505 : Int32)]) (h' := rs_H pf r rest) ckR_entries rfl ?_
        have e : fR_entries_5 (n + 1) r y1 y2 y3 y4 = some (100925505 : Int32) := by simp only [fR_entries_5, if_neg h1, if_pos h2, e1, ab_bd_s, if_pos h3]
        obtain rfl := Option.some.inj (e.symm.trans hv)
        exact ab_iret ckR_entries rfl rfl ⟨rfl, rfl⟩
      · refine ab_go 4 [5] (pc' := 46) (lo' := [some (.ref 23), some (.int y1), some (.int y2), some (.int y3), some (.int y4), some (.int (r.1 1 ((y1 + y4)).toNatClampNeg)), some (.int p1), none]) (st' := [.int (24576 : Int32), .int (((r.1 1 ((y1 + y4)).toNatClampNeg)).toUInt32 >>> (((16 : Int32)).toUInt32 &&& Int32.toUInt32 31)).toInt32]) (h' := rs_H pf r rest) ckR_entries rfl ?_
        refine ab_icmp_lt ckR_entries rfl (fun (h4 : (((r.1 1 ((y1 + y4)).toNatClampNeg)).toUInt32 >>> (((16 : Int32)).toUInt32 &&& Int32.toUInt32 31)).toInt32 < (24576 : Int32)) => ?_) (fun (h4 : ¬ ((((r.1 1 ((y1 + y4)).toNatClampNeg)).toUInt32 >>> (((16 : Int32)).toUInt32 &&& Int32.toUInt32 31)).toInt32 < (24576 : Int32))) => ?_)
        · refine ab_go 1 [5] (pc' := 70) (lo' := [some (.ref 23), some (.int y1), some (.int y2), some (.int y3), some (.int y4), some (.int (r.1 1 ((y1 + y4)).toNatClampNeg)), some (.int p1), none]) (st' := [.int (100925505 : Int32)]) (h' := rs_H pf r rest) ckR_entries rfl ?_
          have e : fR_entries_5 (n + 1) r y1 y2 y3 y4 = some (100925505 : Int32) := by simp only [fR_entries_5, if_neg h1, if_pos h2, e1, ab_bd_s, if_neg h3, if_pos h4]
          obtain rfl := Option.some.inj (e.symm.trans hv)
          exact ab_iret ckR_entries rfl rfl ⟨rfl, rfl⟩
        · refine ab_go 7 [5] (pc' := 63) (lo' := [some (.ref 23), some (.int y1), some (.int y2), some (.int y3), some (.int y4), some (.int (r.1 1 ((y1 + y4)).toNatClampNeg)), some (.int p1), none]) (st' := [.int p1, .ref 25, .int (8 : Int32), .int ((r.1 1 ((y1 + y4)).toNatClampNeg) &&& (255 : Int32))]) (h' := rs_H pf r rest) ckR_entries rfl ?_
          by_cases h5 : ab_inb p1 30 = true
          case neg => exact ab_no hv (by simp only [fR_entries_5, if_neg h1, if_pos h2, e1, ab_bd_s, if_neg h3, if_neg h4, if_neg h5])
          refine ab_iald ckR_entries rfl rfl (ab_inb_ok h5) ?_
          refine ab_go 1 [5] (pc' := 65) (lo' := [some (.ref 23), some (.int y1), some (.int y2), some (.int y3), some (.int y4), some (.int (r.1 1 ((y1 + y4)).toNatClampNeg)), some (.int p1), none]) (st' := [.int ((8 : Int32) * (mdBytes (p1).toNatClampNeg)), .int ((r.1 1 ((y1 + y4)).toNatClampNeg) &&& (255 : Int32))]) (h' := rs_H pf r rest) ckR_entries rfl ?_
          refine ab_icmp_eq ckR_entries rfl (fun (h6 : ((r.1 1 ((y1 + y4)).toNatClampNeg) &&& (255 : Int32)) = ((8 : Int32) * (mdBytes (p1).toNatClampNeg))) => ?_) (fun (h6 : ¬ (((r.1 1 ((y1 + y4)).toNatClampNeg) &&& (255 : Int32)) = ((8 : Int32) * (mdBytes (p1).toNatClampNeg)))) => ?_)
          · refine ab_go 3 [5] (pc' := 77) (lo' := [some (.ref 23), some (.int y1), some (.int y2), some (.int y3), some (.int y4), some (.int (r.1 1 ((y1 + y4)).toNatClampNeg)), some (.int p1), none]) (st' := [.int p1, .ref 26]) (h' := rs_H pf r rest) ckR_entries rfl ?_
            refine ab_iald ckR_entries rfl rfl (ab_inb_ok h5) ?_
            refine ab_go 5 [5] (pc' := 85) (lo' := [some (.ref 23), some (.int y1), some (.int y2), some (.int y3), some (.int y4), some (.int (r.1 1 ((y1 + y4)).toNatClampNeg)), some (.int p1), some (.int ((mdKind (p1).toNatClampNeg) &&& (7 : Int32)))]) (st' := [.int (5 : Int32), .int y1]) (h' := rs_H pf r rest) ckR_entries rfl ?_
            refine ab_icmp_ne ckR_entries rfl (fun (h7 : ¬ (y1 = (5 : Int32))) => ?_) (fun (h7 : y1 = (5 : Int32)) => ?_)
            · refine ab_go 1 [5] (pc' := 99) (lo' := [some (.ref 23), some (.int y1), some (.int y2), some (.int y3), some (.int y4), some (.int (r.1 1 ((y1 + y4)).toNatClampNeg)), some (.int p1), some (.int ((mdKind (p1).toNatClampNeg) &&& (7 : Int32)))]) (st' := [.int ((mdKind (p1).toNatClampNeg) &&& (7 : Int32))]) (h' := rs_H pf r rest) ckR_entries rfl ?_
              refine ab_if_eq ckR_entries rfl (fun (h8 : ((mdKind (p1).toNatClampNeg) &&& (7 : Int32)) = 0) => ?_) (fun (h8 : ¬ (((mdKind (p1).toNatClampNeg) &&& (7 : Int32)) = 0)) => ?_)
              · refine ab_go 4 [5] (pc' := 124) (lo' := [some (.ref 23), some (.int y1), some (.int y2), some (.int y3), some (.int y4), some (.int (r.1 1 ((y1 + y4)).toNatClampNeg)), some (.int p1), some (.int ((mdKind (p1).toNatClampNeg) &&& (7 : Int32)))]) (st' := [.int p1, .ref 25, .int y3]) (h' := rs_H pf r rest) ckR_entries rfl ?_
                refine ab_iald ckR_entries rfl rfl (ab_inb_ok h5) ?_
                refine ab_go 4 [5] (pc' := 130) (lo' := [some (.ref 23), some (.int y1), some (.int y2), some (.int (y3 + (mdBytes (p1).toNatClampNeg))), some (.int y4), some (.int (r.1 1 ((y1 + y4)).toNatClampNeg)), some (.int p1), some (.int ((mdKind (p1).toNatClampNeg) &&& (7 : Int32)))]) (st' := [.int (8 : Int32), .int (y3 + (mdBytes (p1).toNatClampNeg))]) (h' := rs_H pf r rest) ckR_entries rfl ?_
                refine ab_icmp_le ckR_entries rfl (fun (h9 : (y3 + (mdBytes (p1).toNatClampNeg)) ≤ (8 : Int32)) => ?_) (fun (h9 : ¬ ((y3 + (mdBytes (p1).toNatClampNeg)) ≤ (8 : Int32))) => ?_)
                · refine ab_go 2 [5] (pc' := 5) (lo' := [some (.ref 23), some (.int y1), some (.int y2), some (.int (y3 + (mdBytes (p1).toNatClampNeg))), some (.int (y4 + (1 : Int32))), some (.int (r.1 1 ((y1 + y4)).toNatClampNeg)), some (.int p1), some (.int ((mdKind (p1).toNatClampNeg) &&& (7 : Int32)))]) (st' := []) (h' := rs_H pf r rest) ckR_entries rfl ?_
                  have e : fR_entries_5 (n + 1) r y1 y2 y3 y4 = fR_entries_5 n r y1 y2 (y3 + (mdBytes (p1).toNatClampNeg)) (y4 + (1 : Int32)) := by simp only [fR_entries_5, if_neg h1, if_pos h2, e1, ab_bd_s, if_neg h3, if_neg h4, if_pos h5, if_pos h6, if_neg h7, if_pos h8, if_pos h9]
                  exact ab_W.weak (ih r y1 y2 (y3 + (mdBytes (p1).toNatClampNeg)) (y4 + (1 : Int32)) v (e.symm.trans hv)) ⟨rfl, rfl, rfl, rfl, rfl, trivial⟩
                · refine ab_go 1 [5] (pc' := 135) (lo' := [some (.ref 23), some (.int y1), some (.int y2), some (.int (y3 + (mdBytes (p1).toNatClampNeg))), some (.int y4), some (.int (r.1 1 ((y1 + y4)).toNatClampNeg)), some (.int p1), some (.int ((mdKind (p1).toNatClampNeg) &&& (7 : Int32)))]) (st' := [.int (100925506 : Int32)]) (h' := rs_H pf r rest) ckR_entries rfl ?_
                  have e : fR_entries_5 (n + 1) r y1 y2 y3 y4 = some (100925506 : Int32) := by simp only [fR_entries_5, if_neg h1, if_pos h2, e1, ab_bd_s, if_neg h3, if_neg h4, if_pos h5, if_pos h6, if_neg h7, if_pos h8, if_neg h9]
                  obtain rfl := Option.some.inj (e.symm.trans hv)
                  exact ab_iret ckR_entries rfl rfl ⟨rfl, rfl⟩
              · refine ab_go 2 [5] (pc' := 105) (lo' := [some (.ref 23), some (.int y1), some (.int y2), some (.int y3), some (.int y4), some (.int (r.1 1 ((y1 + y4)).toNatClampNeg)), some (.int p1), some (.int ((mdKind (p1).toNatClampNeg) &&& (7 : Int32)))]) (st' := [.int (2 : Int32), .int ((mdKind (p1).toNatClampNeg) &&& (7 : Int32))]) (h' := rs_H pf r rest) ckR_entries rfl ?_
                refine ab_icmp_eq ckR_entries rfl (fun (h10 : ((mdKind (p1).toNatClampNeg) &&& (7 : Int32)) = (2 : Int32)) => ?_) (fun (h10 : ¬ (((mdKind (p1).toNatClampNeg) &&& (7 : Int32)) = (2 : Int32))) => ?_)
                · refine ab_go 4 [5] (pc' := 124) (lo' := [some (.ref 23), some (.int y1), some (.int y2), some (.int y3), some (.int y4), some (.int (r.1 1 ((y1 + y4)).toNatClampNeg)), some (.int p1), some (.int ((mdKind (p1).toNatClampNeg) &&& (7 : Int32)))]) (st' := [.int p1, .ref 25, .int y3]) (h' := rs_H pf r rest) ckR_entries rfl ?_
                  refine ab_iald ckR_entries rfl rfl (ab_inb_ok h5) ?_
                  refine ab_go 4 [5] (pc' := 130) (lo' := [some (.ref 23), some (.int y1), some (.int y2), some (.int (y3 + (mdBytes (p1).toNatClampNeg))), some (.int y4), some (.int (r.1 1 ((y1 + y4)).toNatClampNeg)), some (.int p1), some (.int ((mdKind (p1).toNatClampNeg) &&& (7 : Int32)))]) (st' := [.int (8 : Int32), .int (y3 + (mdBytes (p1).toNatClampNeg))]) (h' := rs_H pf r rest) ckR_entries rfl ?_
                  refine ab_icmp_le ckR_entries rfl (fun (h11 : (y3 + (mdBytes (p1).toNatClampNeg)) ≤ (8 : Int32)) => ?_) (fun (h11 : ¬ ((y3 + (mdBytes (p1).toNatClampNeg)) ≤ (8 : Int32))) => ?_)
                  · refine ab_go 2 [5] (pc' := 5) (lo' := [some (.ref 23), some (.int y1), some (.int y2), some (.int (y3 + (mdBytes (p1).toNatClampNeg))), some (.int (y4 + (1 : Int32))), some (.int (r.1 1 ((y1 + y4)).toNatClampNeg)), some (.int p1), some (.int ((mdKind (p1).toNatClampNeg) &&& (7 : Int32)))]) (st' := []) (h' := rs_H pf r rest) ckR_entries rfl ?_
                    have e : fR_entries_5 (n + 1) r y1 y2 y3 y4 = fR_entries_5 n r y1 y2 (y3 + (mdBytes (p1).toNatClampNeg)) (y4 + (1 : Int32)) := by simp only [fR_entries_5, if_neg h1, if_pos h2, e1, ab_bd_s, if_neg h3, if_neg h4, if_pos h5, if_pos h6, if_neg h7, if_neg h8, if_pos h10, if_pos h11]
                    exact ab_W.weak (ih r y1 y2 (y3 + (mdBytes (p1).toNatClampNeg)) (y4 + (1 : Int32)) v (e.symm.trans hv)) ⟨rfl, rfl, rfl, rfl, rfl, trivial⟩
                  · refine ab_go 1 [5] (pc' := 135) (lo' := [some (.ref 23), some (.int y1), some (.int y2), some (.int (y3 + (mdBytes (p1).toNatClampNeg))), some (.int y4), some (.int (r.1 1 ((y1 + y4)).toNatClampNeg)), some (.int p1), some (.int ((mdKind (p1).toNatClampNeg) &&& (7 : Int32)))]) (st' := [.int (100925506 : Int32)]) (h' := rs_H pf r rest) ckR_entries rfl ?_
                    have e : fR_entries_5 (n + 1) r y1 y2 y3 y4 = some (100925506 : Int32) := by simp only [fR_entries_5, if_neg h1, if_pos h2, e1, ab_bd_s, if_neg h3, if_neg h4, if_pos h5, if_pos h6, if_neg h7, if_neg h8, if_pos h10, if_neg h11]
                    obtain rfl := Option.some.inj (e.symm.trans hv)
                    exact ab_iret ckR_entries rfl rfl ⟨rfl, rfl⟩
                · refine ab_go 2 [5] (pc' := 111) (lo' := [some (.ref 23), some (.int y1), some (.int y2), some (.int y3), some (.int y4), some (.int (r.1 1 ((y1 + y4)).toNatClampNeg)), some (.int p1), some (.int ((mdKind (p1).toNatClampNeg) &&& (7 : Int32)))]) (st' := [.int (3 : Int32), .int ((mdKind (p1).toNatClampNeg) &&& (7 : Int32))]) (h' := rs_H pf r rest) ckR_entries rfl ?_
                  refine ab_icmp_eq ckR_entries rfl (fun (h12 : ((mdKind (p1).toNatClampNeg) &&& (7 : Int32)) = (3 : Int32)) => ?_) (fun (h12 : ¬ (((mdKind (p1).toNatClampNeg) &&& (7 : Int32)) = (3 : Int32))) => ?_)
                  · refine ab_go 4 [5] (pc' := 124) (lo' := [some (.ref 23), some (.int y1), some (.int y2), some (.int y3), some (.int y4), some (.int (r.1 1 ((y1 + y4)).toNatClampNeg)), some (.int p1), some (.int ((mdKind (p1).toNatClampNeg) &&& (7 : Int32)))]) (st' := [.int p1, .ref 25, .int y3]) (h' := rs_H pf r rest) ckR_entries rfl ?_
                    refine ab_iald ckR_entries rfl rfl (ab_inb_ok h5) ?_
                    refine ab_go 4 [5] (pc' := 130) (lo' := [some (.ref 23), some (.int y1), some (.int y2), some (.int (y3 + (mdBytes (p1).toNatClampNeg))), some (.int y4), some (.int (r.1 1 ((y1 + y4)).toNatClampNeg)), some (.int p1), some (.int ((mdKind (p1).toNatClampNeg) &&& (7 : Int32)))]) (st' := [.int (8 : Int32), .int (y3 + (mdBytes (p1).toNatClampNeg))]) (h' := rs_H pf r rest) ckR_entries rfl ?_
                    refine ab_icmp_le ckR_entries rfl (fun (h13 : (y3 + (mdBytes (p1).toNatClampNeg)) ≤ (8 : Int32)) => ?_) (fun (h13 : ¬ ((y3 + (mdBytes (p1).toNatClampNeg)) ≤ (8 : Int32))) => ?_)
                    · refine ab_go 2 [5] (pc' := 5) (lo' := [some (.ref 23), some (.int y1), some (.int y2), some (.int (y3 + (mdBytes (p1).toNatClampNeg))), some (.int (y4 + (1 : Int32))), some (.int (r.1 1 ((y1 + y4)).toNatClampNeg)), some (.int p1), some (.int ((mdKind (p1).toNatClampNeg) &&& (7 : Int32)))]) (st' := []) (h' := rs_H pf r rest) ckR_entries rfl ?_
                      have e : fR_entries_5 (n + 1) r y1 y2 y3 y4 = fR_entries_5 n r y1 y2 (y3 + (mdBytes (p1).toNatClampNeg)) (y4 + (1 : Int32)) := by simp only [fR_entries_5, if_neg h1, if_pos h2, e1, ab_bd_s, if_neg h3, if_neg h4, if_pos h5, if_pos h6, if_neg h7, if_neg h8, if_neg h10, if_pos h12, if_pos h13]
                      exact ab_W.weak (ih r y1 y2 (y3 + (mdBytes (p1).toNatClampNeg)) (y4 + (1 : Int32)) v (e.symm.trans hv)) ⟨rfl, rfl, rfl, rfl, rfl, trivial⟩
                    · refine ab_go 1 [5] (pc' := 135) (lo' := [some (.ref 23), some (.int y1), some (.int y2), some (.int (y3 + (mdBytes (p1).toNatClampNeg))), some (.int y4), some (.int (r.1 1 ((y1 + y4)).toNatClampNeg)), some (.int p1), some (.int ((mdKind (p1).toNatClampNeg) &&& (7 : Int32)))]) (st' := [.int (100925506 : Int32)]) (h' := rs_H pf r rest) ckR_entries rfl ?_
                      have e : fR_entries_5 (n + 1) r y1 y2 y3 y4 = some (100925506 : Int32) := by simp only [fR_entries_5, if_neg h1, if_pos h2, e1, ab_bd_s, if_neg h3, if_neg h4, if_pos h5, if_pos h6, if_neg h7, if_neg h8, if_neg h10, if_pos h12, if_neg h13]
                      obtain rfl := Option.some.inj (e.symm.trans hv)
                      exact ab_iret ckR_entries rfl rfl ⟨rfl, rfl⟩
                  · refine ab_go 1 [5] (pc' := 116) (lo' := [some (.ref 23), some (.int y1), some (.int y2), some (.int y3), some (.int y4), some (.int (r.1 1 ((y1 + y4)).toNatClampNeg)), some (.int p1), some (.int ((mdKind (p1).toNatClampNeg) &&& (7 : Int32)))]) (st' := [.int (100925505 : Int32)]) (h' := rs_H pf r rest) ckR_entries rfl ?_
                    have e : fR_entries_5 (n + 1) r y1 y2 y3 y4 = some (100925505 : Int32) := by simp only [fR_entries_5, if_neg h1, if_pos h2, e1, ab_bd_s, if_neg h3, if_neg h4, if_pos h5, if_pos h6, if_neg h7, if_neg h8, if_neg h10, if_neg h12]
                    obtain rfl := Option.some.inj (e.symm.trans hv)
                    exact ab_iret ckR_entries rfl rfl ⟨rfl, rfl⟩
            · refine ab_go 2 [5] (pc' := 91) (lo' := [some (.ref 23), some (.int y1), some (.int y2), some (.int y3), some (.int y4), some (.int (r.1 1 ((y1 + y4)).toNatClampNeg)), some (.int p1), some (.int ((mdKind (p1).toNatClampNeg) &&& (7 : Int32)))]) (st' := [.int (2 : Int32), .int ((mdKind (p1).toNatClampNeg) &&& (7 : Int32))]) (h' := rs_H pf r rest) ckR_entries rfl ?_
              refine ab_icmp_eq ckR_entries rfl (fun (h14 : ((mdKind (p1).toNatClampNeg) &&& (7 : Int32)) = (2 : Int32)) => ?_) (fun (h14 : ¬ (((mdKind (p1).toNatClampNeg) &&& (7 : Int32)) = (2 : Int32))) => ?_)
              · refine ab_go 4 [5] (pc' := 124) (lo' := [some (.ref 23), some (.int y1), some (.int y2), some (.int y3), some (.int y4), some (.int (r.1 1 ((y1 + y4)).toNatClampNeg)), some (.int p1), some (.int ((mdKind (p1).toNatClampNeg) &&& (7 : Int32)))]) (st' := [.int p1, .ref 25, .int y3]) (h' := rs_H pf r rest) ckR_entries rfl ?_
                refine ab_iald ckR_entries rfl rfl (ab_inb_ok h5) ?_
                refine ab_go 4 [5] (pc' := 130) (lo' := [some (.ref 23), some (.int y1), some (.int y2), some (.int (y3 + (mdBytes (p1).toNatClampNeg))), some (.int y4), some (.int (r.1 1 ((y1 + y4)).toNatClampNeg)), some (.int p1), some (.int ((mdKind (p1).toNatClampNeg) &&& (7 : Int32)))]) (st' := [.int (8 : Int32), .int (y3 + (mdBytes (p1).toNatClampNeg))]) (h' := rs_H pf r rest) ckR_entries rfl ?_
                refine ab_icmp_le ckR_entries rfl (fun (h15 : (y3 + (mdBytes (p1).toNatClampNeg)) ≤ (8 : Int32)) => ?_) (fun (h15 : ¬ ((y3 + (mdBytes (p1).toNatClampNeg)) ≤ (8 : Int32))) => ?_)
                · refine ab_go 2 [5] (pc' := 5) (lo' := [some (.ref 23), some (.int y1), some (.int y2), some (.int (y3 + (mdBytes (p1).toNatClampNeg))), some (.int (y4 + (1 : Int32))), some (.int (r.1 1 ((y1 + y4)).toNatClampNeg)), some (.int p1), some (.int ((mdKind (p1).toNatClampNeg) &&& (7 : Int32)))]) (st' := []) (h' := rs_H pf r rest) ckR_entries rfl ?_
                  have e : fR_entries_5 (n + 1) r y1 y2 y3 y4 = fR_entries_5 n r y1 y2 (y3 + (mdBytes (p1).toNatClampNeg)) (y4 + (1 : Int32)) := by simp only [fR_entries_5, if_neg h1, if_pos h2, e1, ab_bd_s, if_neg h3, if_neg h4, if_pos h5, if_pos h6, if_pos h7, if_pos h14, if_pos h15]
                  exact ab_W.weak (ih r y1 y2 (y3 + (mdBytes (p1).toNatClampNeg)) (y4 + (1 : Int32)) v (e.symm.trans hv)) ⟨rfl, rfl, rfl, rfl, rfl, trivial⟩
                · refine ab_go 1 [5] (pc' := 135) (lo' := [some (.ref 23), some (.int y1), some (.int y2), some (.int (y3 + (mdBytes (p1).toNatClampNeg))), some (.int y4), some (.int (r.1 1 ((y1 + y4)).toNatClampNeg)), some (.int p1), some (.int ((mdKind (p1).toNatClampNeg) &&& (7 : Int32)))]) (st' := [.int (100925506 : Int32)]) (h' := rs_H pf r rest) ckR_entries rfl ?_
                  have e : fR_entries_5 (n + 1) r y1 y2 y3 y4 = some (100925506 : Int32) := by simp only [fR_entries_5, if_neg h1, if_pos h2, e1, ab_bd_s, if_neg h3, if_neg h4, if_pos h5, if_pos h6, if_pos h7, if_pos h14, if_neg h15]
                  obtain rfl := Option.some.inj (e.symm.trans hv)
                  exact ab_iret ckR_entries rfl rfl ⟨rfl, rfl⟩
              · refine ab_go 2 [5] (pc' := 116) (lo' := [some (.ref 23), some (.int y1), some (.int y2), some (.int y3), some (.int y4), some (.int (r.1 1 ((y1 + y4)).toNatClampNeg)), some (.int p1), some (.int ((mdKind (p1).toNatClampNeg) &&& (7 : Int32)))]) (st' := [.int (100925505 : Int32)]) (h' := rs_H pf r rest) ckR_entries rfl ?_
                have e : fR_entries_5 (n + 1) r y1 y2 y3 y4 = some (100925505 : Int32) := by simp only [fR_entries_5, if_neg h1, if_pos h2, e1, ab_bd_s, if_neg h3, if_neg h4, if_pos h5, if_pos h6, if_pos h7, if_neg h14]
                obtain rfl := Option.some.inj (e.symm.trans hv)
                exact ab_iret ckR_entries rfl rfl ⟨rfl, rfl⟩
          · refine ab_go 1 [5] (pc' := 70) (lo' := [some (.ref 23), some (.int y1), some (.int y2), some (.int y3), some (.int y4), some (.int (r.1 1 ((y1 + y4)).toNatClampNeg)), some (.int p1), none]) (st' := [.int (100925505 : Int32)]) (h' := rs_H pf r rest) ckR_entries rfl ?_
            have e : fR_entries_5 (n + 1) r y1 y2 y3 y4 = some (100925505 : Int32) := by simp only [fR_entries_5, if_neg h1, if_pos h2, e1, ab_bd_s, if_neg h3, if_neg h4, if_pos h5, if_neg h6]
            obtain rfl := Option.some.inj (e.symm.trans hv)
            exact ab_iret ckR_entries rfl rfl ⟨rfl, rfl⟩
set_option maxRecDepth 20000 in
set_option maxHeartbeats 4000000 in
theorem tR_entries {x1 : Int32} {x2 : Int32} {v : Int32} (hv : fR_entries r x1 x2 = some v) : ab_M X mR_entries (d + 1) 0 0 [.ref 23, .int x1, .int x2] (rs_H pf r rest) (fun r9 h9 => r9 = some (Value.int v) ∧ h9 = rs_H pf r rest) := by
  refine ab_entry (by decide) (Nat.le_of_ble_eq_true rfl) ?_
  refine ab_go 4 [5] (pc' := 5) (lo' := [some (.ref 23), some (.int x1), some (.int x2), some (.int (0 : Int32)), some (.int (1 : Int32)), none, none, none]) (st' := []) (h' := rs_H pf r rest) ckR_entries rfl ?_
  have e : fR_entries r x1 x2 = fR_entries_5 40 r x1 x2 (0 : Int32) (1 : Int32) := by simp only [fR_entries]
  exact ab_W.weak (tR_entries_5 40 r x1 x2 (0 : Int32) (1 : Int32) v (e.symm.trans hv)) ⟨rfl, rfl, rfl, rfl, rfl, trivial⟩
def fR_aim (r : cs_S)  : Int32 := (if (r.1 1 18) = (1 : Int32) then (fR_greater (fR_lesser (r.1 1 22) (r.1 1 24)) (r.1 1 23)) else (if (r.1 1 29) ≤ 0 then (if 0 ≤ (r.1 1 29) then (r.1 0 7) else (fR_lesser (r.1 0 7) (r.1 1 23))) else (fR_greater (r.1 0 7) (r.1 1 24))))
theorem tR_aim : ab_M X mR_aim (d + 1) 0 0 [.ref 23] (rs_H pf r rest) (fun r9 h9 => r9 = some (Value.int (fR_aim r)) ∧ h9 = rs_H pf r rest) := by
  refine ab_entry (by decide) (Nat.le_of_ble_eq_true rfl) ?_
  refine ab_go 5 [] (pc' := 8) (lo' := [some (.ref 23), none]) (st' := [.int (1 : Int32), .int (r.1 1 18)]) (h' := rs_H pf r rest) ckR_aim rfl ?_
  refine ab_icmp_ne ckR_aim rfl (fun (h1 : ¬ ((r.1 1 18) = (1 : Int32))) => ?_) (fun (h1 : (r.1 1 18) = (1 : Int32)) => ?_)
  · refine ab_go 6 [] (pc' := 50) (lo' := [some (.ref 23), some (.int (r.1 1 29))]) (st' := [.int (r.1 1 29)]) (h' := rs_H pf r rest) ckR_aim rfl ?_
    refine ab_if_le ckR_aim rfl (fun (h2 : (r.1 1 29) ≤ 0) => ?_) (fun (h2 : ¬ ((r.1 1 29) ≤ 0)) => ?_)
    · refine ab_go 1 [] (pc' := 71) (lo' := [some (.ref 23), some (.int (r.1 1 29))]) (st' := [.int (r.1 1 29)]) (h' := rs_H pf r rest) ckR_aim rfl ?_
      refine ab_if_ge ckR_aim rfl (fun (h3 : 0 ≤ (r.1 1 29)) => ?_) (fun (h3 : ¬ (0 ≤ (r.1 1 29))) => ?_)
      · refine ab_go 2 [] (pc' := 95) (lo' := [some (.ref 23), some (.int (r.1 1 29))]) (st' := [.int (r.1 0 7)]) (h' := rs_H pf r rest) ckR_aim rfl ?_
        have e : fR_aim r = (r.1 0 7) := by simp only [fR_aim, if_neg h1, if_pos h2, if_pos h3]
        exact ab_iret ckR_aim rfl rfl ⟨(congrArg (fun q : Int32 => some (Value.int q)) e).symm, rfl⟩
      · refine ab_go 6 [] (pc' := 85) (lo' := [some (.ref 23), some (.int (r.1 1 29))]) (st' := [.int (r.1 1 23), .int (r.1 0 7)]) (h' := rs_H pf r rest) ckR_aim rfl ?_
        refine ab_callS (bc2 := 0) (bs2 := 0) (as := [_, _]) (rest := []) ckR_aim rfl (by decide +kernel) wR_lesser (tR_lesser (d := d) (x1 := (r.1 0 7)) (x2 := (r.1 1 23))) (by omega) ⟨Nat.le_refl _, Nat.le_refl _⟩ (Nat.le_of_ble_eq_true rfl) ?_
        rintro _ _ ⟨rfl, rfl⟩
        refine ab_go 1 [] (pc' := 95) (lo' := [some (.ref 23), some (.int (r.1 1 29))]) (st' := [.int (fR_lesser (r.1 0 7) (r.1 1 23))]) (h' := rs_H pf r rest) ckR_aim rfl ?_
        have e : fR_aim r = (fR_lesser (r.1 0 7) (r.1 1 23)) := by simp only [fR_aim, if_neg h1, if_pos h2, if_neg h3]
        exact ab_iret ckR_aim rfl rfl ⟨(congrArg (fun q : Int32 => some (Value.int q)) e).symm, rfl⟩
    · refine ab_go 6 [] (pc' := 64) (lo' := [some (.ref 23), some (.int (r.1 1 29))]) (st' := [.int (r.1 1 24), .int (r.1 0 7)]) (h' := rs_H pf r rest) ckR_aim rfl ?_
      refine ab_callS (bc2 := 0) (bs2 := 0) (as := [_, _]) (rest := []) ckR_aim rfl (by decide +kernel) wR_greater (tR_greater (d := d) (x1 := (r.1 0 7)) (x2 := (r.1 1 24))) (by omega) ⟨Nat.le_refl _, Nat.le_refl _⟩ (Nat.le_of_ble_eq_true rfl) ?_
      rintro _ _ ⟨rfl, rfl⟩
      refine ab_go 1 [] (pc' := 95) (lo' := [some (.ref 23), some (.int (r.1 1 29))]) (st' := [.int (fR_greater (r.1 0 7) (r.1 1 24))]) (h' := rs_H pf r rest) ckR_aim rfl ?_
      have e : fR_aim r = (fR_greater (r.1 0 7) (r.1 1 24)) := by simp only [fR_aim, if_neg h1, if_neg h2]
      exact ab_iret ckR_aim rfl rfl ⟨(congrArg (fun q : Int32 => some (Value.int q)) e).symm, rfl⟩
  · refine ab_go 8 [] (pc' := 25) (lo' := [some (.ref 23), none]) (st' := [.int (r.1 1 24), .int (r.1 1 22)]) (h' := rs_H pf r rest) ckR_aim rfl ?_
    refine ab_callS (bc2 := 0) (bs2 := 0) (as := [_, _]) (rest := []) ckR_aim rfl (by decide +kernel) wR_lesser (tR_lesser (d := d) (x1 := (r.1 1 22)) (x2 := (r.1 1 24))) (by omega) ⟨Nat.le_refl _, Nat.le_refl _⟩ (Nat.le_of_ble_eq_true rfl) ?_
    rintro _ _ ⟨rfl, rfl⟩
    refine ab_go 6 [] (pc' := 37) (lo' := [some (.ref 23), some (.int (fR_lesser (r.1 1 22) (r.1 1 24)))]) (st' := [.int (r.1 1 23), .int (fR_lesser (r.1 1 22) (r.1 1 24))]) (h' := rs_H pf r rest) ckR_aim rfl ?_
    refine ab_callS (bc2 := 0) (bs2 := 0) (as := [_, _]) (rest := []) ckR_aim rfl (by decide +kernel) wR_greater (tR_greater (d := d) (x1 := (fR_lesser (r.1 1 22) (r.1 1 24))) (x2 := (r.1 1 23))) (by omega) ⟨Nat.le_refl _, Nat.le_refl _⟩ (Nat.le_of_ble_eq_true rfl) ?_
    rintro _ _ ⟨rfl, rfl⟩
    have e : fR_aim r = (fR_greater (fR_lesser (r.1 1 22) (r.1 1 24)) (r.1 1 23)) := by simp only [fR_aim, if_pos h1]
    exact ab_iret ckR_aim rfl rfl ⟨(congrArg (fun q : Int32 => some (Value.int q)) e).symm, rfl⟩
def fR_look_109 (r : cs_S) (y2 : Int32) : Option (Int32) := (if (r.1 0 6) = (4 : Int32) then (if (r.1 1 18) = (1 : Int32) then (if (r.1 1 21) = 0 then (if (r.1 0 7) = (fR_aim r) then (some (y2 + (1024 : Int32))) else (some y2)) else (some y2)) else (some y2)) else (some y2))
def fR_look_94 (r : cs_S) (z0 : Int32) : Option (Int32) := (if (r.1 0 5) = (5 : Int32) then fR_look_109 r (z0 + (512 : Int32)) else fR_look_109 r z0)
def fR_look (r : cs_S) (x1 : Int32) : Option (Int32) := (if x1 = (17 : Int32) then (if (r.1 0 6) = (1 : Int32) then fR_look_94 r (64 : Int32) else (if (r.1 0 6) = (2 : Int32) then fR_look_94 r (33 : Int32) else (if (r.1 0 6) = (3 : Int32) then fR_look_94 r (35 : Int32) else (if (r.1 0 6) = (4 : Int32) then fR_look_94 r (39 : Int32) else (if (r.1 0 6) = (5 : Int32) then fR_look_94 r (7 : Int32) else (if (r.1 0 6) = (6 : Int32) then fR_look_94 r (15 : Int32) else fR_look_94 r (8 : Int32))))))) else (if ab_inb x1 30 = true then (some (r.1 1 (x1).toNatClampNeg)) else none))
set_option maxRecDepth 20000 in
set_option maxHeartbeats 4000000 in
theorem tR_look_109   : ∀ (r : cs_S) (y2 : Int32)  (v : Int32) (hv : fR_look_109 r y2 = some v), ab_W X mR_look (d + 2) 0 0 109 [some (.ref 23), none, some (.int y2)] [] (rs_H pf r rest) (fun r9 h9 => r9 = some (Value.int v) ∧ h9 = rs_H pf r rest) := by
  intro r y2 v hv
  refine ab_go 3 [94, 109] (pc' := 114) (lo' := [some (.ref 23), none, some (.int y2)]) (st' := [.int (4 : Int32), .int (r.1 0 6)]) (h' := rs_H pf r rest) ckR_look rfl ?_
  refine ab_icmp_ne ckR_look rfl (fun (h1 : ¬ ((r.1 0 6) = (4 : Int32))) => ?_) (fun (h1 : (r.1 0 6) = (4 : Int32)) => ?_)
  · refine ab_go 1 [94, 109] (pc' := 156) (lo' := [some (.ref 23), none, some (.int y2)]) (st' := [.int y2]) (h' := rs_H pf r rest) ckR_look rfl ?_
    have e : fR_look_109 r y2 = some y2 := by simp only [fR_look_109, if_neg h1]
    obtain rfl := Option.some.inj (e.symm.trans hv)
    exact ab_iret ckR_look rfl rfl ⟨rfl, rfl⟩
  · refine ab_go 5 [94, 109] (pc' := 125) (lo' := [some (.ref 23), none, some (.int y2)]) (st' := [.int (1 : Int32), .int (r.1 1 18)]) (h' := rs_H pf r rest) ckR_look rfl ?_
    refine ab_icmp_ne ckR_look rfl (fun (h2 : ¬ ((r.1 1 18) = (1 : Int32))) => ?_) (fun (h2 : (r.1 1 18) = (1 : Int32)) => ?_)
    · refine ab_go 1 [94, 109] (pc' := 156) (lo' := [some (.ref 23), none, some (.int y2)]) (st' := [.int y2]) (h' := rs_H pf r rest) ckR_look rfl ?_
      have e : fR_look_109 r y2 = some y2 := by simp only [fR_look_109, if_pos h1, if_neg h2]
      obtain rfl := Option.some.inj (e.symm.trans hv)
      exact ab_iret ckR_look rfl rfl ⟨rfl, rfl⟩
    · refine ab_go 4 [94, 109] (pc' := 135) (lo' := [some (.ref 23), none, some (.int y2)]) (st' := [.int (r.1 1 21)]) (h' := rs_H pf r rest) ckR_look rfl ?_
      refine ab_if_ne ckR_look rfl (fun (h3 : ¬ ((r.1 1 21) = 0)) => ?_) (fun (h3 : (r.1 1 21) = 0) => ?_)
      · refine ab_go 1 [94, 109] (pc' := 156) (lo' := [some (.ref 23), none, some (.int y2)]) (st' := [.int y2]) (h' := rs_H pf r rest) ckR_look rfl ?_
        have e : fR_look_109 r y2 = some y2 := by simp only [fR_look_109, if_pos h1, if_pos h2, if_neg h3]
        obtain rfl := Option.some.inj (e.symm.trans hv)
        exact ab_iret ckR_look rfl rfl ⟨rfl, rfl⟩
      · refine ab_go 3 [94, 109] (pc' := 143) (lo' := [some (.ref 23), none, some (.int y2)]) (st' := [.ref 23, .int (r.1 0 7)]) (h' := rs_H pf r rest) ckR_look rfl ?_
        refine ab_callV (bc2 := 0) (bs2 := 0) (as := []) (rest := [_]) ckR_look rfl (by decide +kernel) wR_aim (tR_aim (d := d) (r := r)) rfl rfl (by omega) ⟨Nat.le_refl _, Nat.le_refl _⟩ (Nat.le_of_ble_eq_true rfl) ?_
        rintro _ _ ⟨rfl, rfl⟩
        refine ab_icmp_ne ckR_look rfl (fun (h4 : ¬ ((r.1 0 7) = (fR_aim r))) => ?_) (fun (h4 : (r.1 0 7) = (fR_aim r)) => ?_)
        · refine ab_go 1 [94, 109] (pc' := 156) (lo' := [some (.ref 23), none, some (.int y2)]) (st' := [.int y2]) (h' := rs_H pf r rest) ckR_look rfl ?_
          have e : fR_look_109 r y2 = some y2 := by simp only [fR_look_109, if_pos h1, if_pos h2, if_pos h3, if_neg h4]
          obtain rfl := Option.some.inj (e.symm.trans hv)
          exact ab_iret ckR_look rfl rfl ⟨rfl, rfl⟩
        · refine ab_go 2 [94, 109] (pc' := 156) (lo' := [some (.ref 23), none, some (.int (y2 + (1024 : Int32)))]) (st' := [.int (y2 + (1024 : Int32))]) (h' := rs_H pf r rest) ckR_look rfl ?_
          have e : fR_look_109 r y2 = some (y2 + (1024 : Int32)) := by simp only [fR_look_109, if_pos h1, if_pos h2, if_pos h3, if_pos h4]
          obtain rfl := Option.some.inj (e.symm.trans hv)
          exact ab_iret ckR_look rfl rfl ⟨rfl, rfl⟩
set_option maxRecDepth 20000 in
set_option maxHeartbeats 4000000 in
theorem tR_look_94   : ∀ (r : cs_S) (z0 : Int32)  (v : Int32) (hv : fR_look_94 r z0 = some v), ab_W X mR_look (d + 2) 0 0 94 [some (.ref 23), none, none] [.int z0] (rs_H pf r rest) (fun r9 h9 => r9 = some (Value.int v) ∧ h9 = rs_H pf r rest) := by
  intro r z0 v hv
  refine ab_go 4 [94, 109] (pc' := 100) (lo' := [some (.ref 23), none, some (.int z0)]) (st' := [.int (5 : Int32), .int (r.1 0 5)]) (h' := rs_H pf r rest) ckR_look rfl ?_
  refine ab_icmp_ne ckR_look rfl (fun (h1 : ¬ ((r.1 0 5) = (5 : Int32))) => ?_) (fun (h1 : (r.1 0 5) = (5 : Int32)) => ?_)
  · have e : fR_look_94 r z0 = fR_look_109 r z0 := by simp only [fR_look_94, if_neg h1]
    exact ab_W.weak (tR_look_109 r z0 v (e.symm.trans hv)) ⟨rfl, rfl, trivial⟩
  · refine ab_go 1 [94, 109] (pc' := 109) (lo' := [some (.ref 23), none, some (.int (z0 + (512 : Int32)))]) (st' := []) (h' := rs_H pf r rest) ckR_look rfl ?_
    have e : fR_look_94 r z0 = fR_look_109 r (z0 + (512 : Int32)) := by simp only [fR_look_94, if_pos h1]
    exact ab_W.weak (tR_look_109 r (z0 + (512 : Int32)) v (e.symm.trans hv)) ⟨rfl, rfl, trivial⟩
set_option maxRecDepth 20000 in
set_option maxHeartbeats 4000000 in
theorem tR_look {x1 : Int32} {v : Int32} (hv : fR_look r x1 = some v) : ab_M X mR_look (d + 2) 0 0 [.ref 23, .int x1] (rs_H pf r rest) (fun r9 h9 => r9 = some (Value.int v) ∧ h9 = rs_H pf r rest) := by
  refine ab_entry (by decide) (Nat.le_of_ble_eq_true rfl) ?_
  refine ab_go 2 [94, 109] (pc' := 3) (lo' := [some (.ref 23), some (.int x1), none]) (st' := [.int (17 : Int32), .int x1]) (h' := rs_H pf r rest) ckR_look rfl ?_
  refine ab_icmp_eq ckR_look rfl (fun (h1 : x1 = (17 : Int32)) => ?_) (fun (h1 : ¬ (x1 = (17 : Int32))) => ?_)
  · refine ab_go 3 [94, 109] (pc' := 18) (lo' := [some (.ref 23), some (.int x1), none]) (st' := [.int (1 : Int32), .int (r.1 0 6)]) (h' := rs_H pf r rest) ckR_look rfl ?_
    refine ab_icmp_ne ckR_look rfl (fun (h2 : ¬ ((r.1 0 6) = (1 : Int32))) => ?_) (fun (h2 : (r.1 0 6) = (1 : Int32)) => ?_)
    · refine ab_go 3 [94, 109] (pc' := 31) (lo' := [some (.ref 23), some (.int x1), none]) (st' := [.int (2 : Int32), .int (r.1 0 6)]) (h' := rs_H pf r rest) ckR_look rfl ?_
      refine ab_icmp_ne ckR_look rfl (fun (h3 : ¬ ((r.1 0 6) = (2 : Int32))) => ?_) (fun (h3 : (r.1 0 6) = (2 : Int32)) => ?_)
      · refine ab_go 3 [94, 109] (pc' := 44) (lo' := [some (.ref 23), some (.int x1), none]) (st' := [.int (3 : Int32), .int (r.1 0 6)]) (h' := rs_H pf r rest) ckR_look rfl ?_
        refine ab_icmp_ne ckR_look rfl (fun (h4 : ¬ ((r.1 0 6) = (3 : Int32))) => ?_) (fun (h4 : (r.1 0 6) = (3 : Int32)) => ?_)
        · refine ab_go 3 [94, 109] (pc' := 57) (lo' := [some (.ref 23), some (.int x1), none]) (st' := [.int (4 : Int32), .int (r.1 0 6)]) (h' := rs_H pf r rest) ckR_look rfl ?_
          refine ab_icmp_ne ckR_look rfl (fun (h5 : ¬ ((r.1 0 6) = (4 : Int32))) => ?_) (fun (h5 : (r.1 0 6) = (4 : Int32)) => ?_)
          · refine ab_go 3 [94, 109] (pc' := 70) (lo' := [some (.ref 23), some (.int x1), none]) (st' := [.int (5 : Int32), .int (r.1 0 6)]) (h' := rs_H pf r rest) ckR_look rfl ?_
            refine ab_icmp_ne ckR_look rfl (fun (h6 : ¬ ((r.1 0 6) = (5 : Int32))) => ?_) (fun (h6 : (r.1 0 6) = (5 : Int32)) => ?_)
            · refine ab_go 3 [94, 109] (pc' := 84) (lo' := [some (.ref 23), some (.int x1), none]) (st' := [.int (6 : Int32), .int (r.1 0 6)]) (h' := rs_H pf r rest) ckR_look rfl ?_
              refine ab_icmp_ne ckR_look rfl (fun (h7 : ¬ ((r.1 0 6) = (6 : Int32))) => ?_) (fun (h7 : (r.1 0 6) = (6 : Int32)) => ?_)
              · refine ab_go 1 [94, 109] (pc' := 94) (lo' := [some (.ref 23), some (.int x1), none]) (st' := [.int (8 : Int32)]) (h' := rs_H pf r rest) ckR_look rfl ?_
                have e : fR_look r x1 = fR_look_94 r (8 : Int32) := by simp only [fR_look, if_pos h1, if_neg h2, if_neg h3, if_neg h4, if_neg h5, if_neg h6, if_neg h7]
                exact ab_W.weak (tR_look_94 r (8 : Int32) v (e.symm.trans hv)) ⟨rfl, trivial⟩
              · refine ab_go 2 [94, 109] (pc' := 94) (lo' := [some (.ref 23), some (.int x1), none]) (st' := [.int (15 : Int32)]) (h' := rs_H pf r rest) ckR_look rfl ?_
                have e : fR_look r x1 = fR_look_94 r (15 : Int32) := by simp only [fR_look, if_pos h1, if_neg h2, if_neg h3, if_neg h4, if_neg h5, if_neg h6, if_pos h7]
                exact ab_W.weak (tR_look_94 r (15 : Int32) v (e.symm.trans hv)) ⟨rfl, trivial⟩
            · refine ab_go 2 [94, 109] (pc' := 94) (lo' := [some (.ref 23), some (.int x1), none]) (st' := [.int (7 : Int32)]) (h' := rs_H pf r rest) ckR_look rfl ?_
              have e : fR_look r x1 = fR_look_94 r (7 : Int32) := by simp only [fR_look, if_pos h1, if_neg h2, if_neg h3, if_neg h4, if_neg h5, if_pos h6]
              exact ab_W.weak (tR_look_94 r (7 : Int32) v (e.symm.trans hv)) ⟨rfl, trivial⟩
          · refine ab_go 2 [94, 109] (pc' := 94) (lo' := [some (.ref 23), some (.int x1), none]) (st' := [.int (39 : Int32)]) (h' := rs_H pf r rest) ckR_look rfl ?_
            have e : fR_look r x1 = fR_look_94 r (39 : Int32) := by simp only [fR_look, if_pos h1, if_neg h2, if_neg h3, if_neg h4, if_pos h5]
            exact ab_W.weak (tR_look_94 r (39 : Int32) v (e.symm.trans hv)) ⟨rfl, trivial⟩
        · refine ab_go 2 [94, 109] (pc' := 94) (lo' := [some (.ref 23), some (.int x1), none]) (st' := [.int (35 : Int32)]) (h' := rs_H pf r rest) ckR_look rfl ?_
          have e : fR_look r x1 = fR_look_94 r (35 : Int32) := by simp only [fR_look, if_pos h1, if_neg h2, if_neg h3, if_pos h4]
          exact ab_W.weak (tR_look_94 r (35 : Int32) v (e.symm.trans hv)) ⟨rfl, trivial⟩
      · refine ab_go 2 [94, 109] (pc' := 94) (lo' := [some (.ref 23), some (.int x1), none]) (st' := [.int (33 : Int32)]) (h' := rs_H pf r rest) ckR_look rfl ?_
        have e : fR_look r x1 = fR_look_94 r (33 : Int32) := by simp only [fR_look, if_pos h1, if_neg h2, if_pos h3]
        exact ab_W.weak (tR_look_94 r (33 : Int32) v (e.symm.trans hv)) ⟨rfl, trivial⟩
    · refine ab_go 2 [94, 109] (pc' := 94) (lo' := [some (.ref 23), some (.int x1), none]) (st' := [.int (64 : Int32)]) (h' := rs_H pf r rest) ckR_look rfl ?_
      have e : fR_look r x1 = fR_look_94 r (64 : Int32) := by simp only [fR_look, if_pos h1, if_pos h2]
      exact ab_W.weak (tR_look_94 r (64 : Int32) v (e.symm.trans hv)) ⟨rfl, trivial⟩
  · refine ab_go 3 [94, 109] (pc' := 11) (lo' := [some (.ref 23), some (.int x1), none]) (st' := [.int x1, .ref 30]) (h' := rs_H pf r rest) ckR_look rfl ?_
    by_cases h8 : ab_inb x1 30 = true
    case neg => exact ab_no hv (by simp only [fR_look, if_neg h1, if_neg h8])
    refine ab_iald ckR_look rfl rfl (ab_inb_ok h8) ?_
    have e : fR_look r x1 = some (r.1 1 (x1).toNatClampNeg) := by simp only [fR_look, if_neg h1, if_pos h8]
    obtain rfl := Option.some.inj (e.symm.trans hv)
    exact ab_iret ckR_look rfl rfl ⟨rfl, rfl⟩
def fR_gathered_7 : Nat → cs_S → Int64 → Int32 → Int32 → Option (Int64)
  | 0, _, _, _, _ => none
  | n + 1, r, y1, y3, y4 => (if (r.1 1 12) < y4 then (some y1) else (if ab_inb ((12 : Int32) + y4) 30 = true then (ab_bd (fR_find r (((r.1 1 (((12 : Int32) + y4)).toNatClampNeg)).toUInt32 >>> (((8 : Int32)).toUInt32 &&& Int32.toUInt32 31)).toInt32) (fun p1 => (ab_bd (fR_look r p1) (fun p2 => (if ab_inb p1 30 = true then (if (mdBytes (p1).toNatClampNeg) = (4 : Int32) then fR_gathered_7 n r (y1 ||| (((p2).toInt64 &&& (4294967295 : Int64)) <<< ((((8 : Int32) * y3)).toInt64 &&& 63))) (y3 + (mdBytes (p1).toNatClampNeg)) (y4 + (1 : Int32)) else (if (mdBytes (p1).toNatClampNeg) = (2 : Int32) then fR_gathered_7 n r (y1 ||| (((p2).toInt64 &&& (65535 : Int64)) <<< ((((8 : Int32) * y3)).toInt64 &&& 63))) (y3 + (mdBytes (p1).toNatClampNeg)) (y4 + (1 : Int32)) else fR_gathered_7 n r (y1 ||| (((p2).toInt64 &&& (255 : Int64)) <<< ((((8 : Int32) * y3)).toInt64 &&& 63))) (y3 + (mdBytes (p1).toNatClampNeg)) (y4 + (1 : Int32)))) else none))))) else none))
def fR_gathered (r : cs_S)  : Option (Int64) := fR_gathered_7 40 r (0 : Int64) (0 : Int32) (1 : Int32)
set_option maxRecDepth 20000 in
set_option maxHeartbeats 4000000 in
theorem tR_gathered_7 (n : Nat)   : ∀ (r : cs_S) (y1 : Int64) (y3 : Int32) (y4 : Int32)  (v : Int64) (hv : fR_gathered_7 n r y1 y3 y4 = some v), ab_W X mR_gathered (d + 3) 0 0 7 [some (.ref 23), some (.long y1), none, some (.int y3), some (.int y4), none, none, none] [] (rs_H pf r rest) (fun r9 h9 => r9 = some (Value.long v) ∧ h9 = rs_H pf r rest) := by
  induction n with
  | zero =>
    intro r y1 y3 y4 v hv
    cases hv
  | succ n ih =>
    intro r y1 y3 y4 v hv
    refine ab_go 5 [7] (pc' := 16) (lo' := [some (.ref 23), some (.long y1), none, some (.int y3), some (.int y4), none, none, none]) (st' := [.int (r.1 1 12), .int y4]) (h' := rs_H pf r rest) ckR_gathered rfl ?_
    refine ab_icmp_gt ckR_gathered rfl (fun (h1 : (r.1 1 12) < y4) => ?_) (fun (h1 : ¬ ((r.1 1 12) < y4)) => ?_)
    · refine ab_go 1 [7] (pc' := 112) (lo' := [some (.ref 23), some (.long y1), none, some (.int y3), some (.int y4), none, none, none]) (st' := [.long y1]) (h' := rs_H pf r rest) ckR_gathered rfl ?_
      have e : fR_gathered_7 (n + 1) r y1 y3 y4 = some y1 := by simp only [fR_gathered_7, if_pos h1]
      obtain rfl := Option.some.inj (e.symm.trans hv)
      exact ab_lret ckR_gathered rfl rfl ⟨rfl, rfl⟩
    · refine ab_go 6 [7] (pc' := 29) (lo' := [some (.ref 23), some (.long y1), none, some (.int y3), some (.int y4), none, none, none]) (st' := [.int ((12 : Int32) + y4), .ref 30, .ref 23]) (h' := rs_H pf r rest) ckR_gathered rfl ?_
      by_cases h2 : ab_inb ((12 : Int32) + y4) 30 = true
      case neg => exact ab_no hv (by simp only [fR_gathered_7, if_neg h1, if_neg h2])
      refine ab_iald ckR_gathered rfl rfl (ab_inb_ok h2) ?_
      refine ab_go 2 [7] (pc' := 33) (lo' := [some (.ref 23), some (.long y1), none, some (.int y3), some (.int y4), none, none, none]) (st' := [.int (((r.1 1 (((12 : Int32) + y4)).toNatClampNeg)).toUInt32 >>> (((8 : Int32)).toUInt32 &&& Int32.toUInt32 31)).toInt32, .ref 23]) (h' := rs_H pf r rest) ckR_gathered rfl ?_
      rcases e1 : fR_find r (((r.1 1 (((12 : Int32) + y4)).toNatClampNeg)).toUInt32 >>> (((8 : Int32)).toUInt32 &&& Int32.toUInt32 31)).toInt32 with _ | p1
      · exact ab_no hv (by simp only [fR_gathered_7, if_neg h1, if_pos h2, e1, ab_bd_n])
      refine ab_callV (bc2 := 0) (bs2 := 0) (as := [_]) (rest := []) ckR_gathered rfl (by decide +kernel) wR_find (tR_find (d := d + 2) (x1 := (((r.1 1 (((12 : Int32) + y4)).toNatClampNeg)).toUInt32 >>> (((8 : Int32)).toUInt32 &&& Int32.toUInt32 31)).toInt32) (r := r) (v := p1) e1) rfl rfl (by omega) ⟨Nat.le_refl _, Nat.le_refl _⟩ (Nat.le_of_ble_eq_true rfl) ?_
      rintro _ _ ⟨rfl, rfl⟩
      refine ab_go 3 [7] (pc' := 41) (lo' := [some (.ref 23), some (.long y1), none, some (.int y3), some (.int y4), some (.int p1), none, none]) (st' := [.int p1, .ref 23]) (h' := rs_H pf r rest) ckR_gathered rfl ?_
      rcases e2 : fR_look r p1 with _ | p2
      · exact ab_no hv (by simp only [fR_gathered_7, if_neg h1, if_pos h2, e1, ab_bd_s, e2, ab_bd_n])
      refine ab_callV (bc2 := 0) (bs2 := 0) (as := [_]) (rest := []) ckR_gathered rfl (by decide +kernel) wR_look (tR_look (d := d) (x1 := p1) (r := r) (v := p2) e2) rfl rfl (by omega) ⟨Nat.le_refl _, Nat.le_refl _⟩ (Nat.le_of_ble_eq_true rfl) ?_
      rintro _ _ ⟨rfl, rfl⟩
      refine ab_go 4 [7] (pc' := 51) (lo' := [some (.ref 23), some (.long y1), none, some (.int y3), some (.int y4), some (.int p1), none, none]) (st' := [.int p1, .ref 25, .long (p2).toInt64]) (h' := rs_H pf r rest) ckR_gathered rfl ?_
      by_cases h3 : ab_inb p1 30 = true
      case neg => exact ab_no hv (by simp only [fR_gathered_7, if_neg h1, if_pos h2, e1, ab_bd_s, e2, ab_bd_s, if_neg h3])
      refine ab_iald ckR_gathered rfl rfl (ab_inb_ok h3) ?_
      refine ab_go 1 [7] (pc' := 53) (lo' := [some (.ref 23), some (.long y1), none, some (.int y3), some (.int y4), some (.int p1), none, none]) (st' := [.int (4 : Int32), .int (mdBytes (p1).toNatClampNeg), .long (p2).toInt64]) (h' := rs_H pf r rest) ckR_gathered rfl ?_
      refine ab_icmp_ne ckR_gathered rfl (fun (h4 : ¬ ((mdBytes (p1).toNatClampNeg) = (4 : Int32))) => ?_) (fun (h4 : (mdBytes (p1).toNatClampNeg) = (4 : Int32)) => ?_)
      · refine ab_go 3 [7] (pc' := 68) (lo' := [some (.ref 23), some (.long y1), none, some (.int y3), some (.int y4), some (.int p1), none, none]) (st' := [.int p1, .ref 25, .long (p2).toInt64]) (h' := rs_H pf r rest) ckR_gathered rfl ?_
        refine ab_iald ckR_gathered rfl rfl (ab_inb_ok h3) ?_
        refine ab_go 1 [7] (pc' := 70) (lo' := [some (.ref 23), some (.long y1), none, some (.int y3), some (.int y4), some (.int p1), none, none]) (st' := [.int (2 : Int32), .int (mdBytes (p1).toNatClampNeg), .long (p2).toInt64]) (h' := rs_H pf r rest) ckR_gathered rfl ?_
        refine ab_icmp_ne ckR_gathered rfl (fun (h5 : ¬ ((mdBytes (p1).toNatClampNeg) = (2 : Int32))) => ?_) (fun (h5 : (mdBytes (p1).toNatClampNeg) = (2 : Int32)) => ?_)
        · refine ab_go 12 [7] (pc' := 96) (lo' := [some (.ref 23), some (.long (y1 ||| (((p2).toInt64 &&& (255 : Int64)) <<< ((((8 : Int32) * y3)).toInt64 &&& 63)))), none, some (.int y3), some (.int y4), some (.int p1), some (.long ((p2).toInt64 &&& (255 : Int64))), none]) (st' := [.int y3]) (h' := rs_H pf r rest) ckR_gathered rfl ?_
          refine ab_go 3 [7] (pc' := 102) (lo' := [some (.ref 23), some (.long (y1 ||| (((p2).toInt64 &&& (255 : Int64)) <<< ((((8 : Int32) * y3)).toInt64 &&& 63)))), none, some (.int y3), some (.int y4), some (.int p1), some (.long ((p2).toInt64 &&& (255 : Int64))), none]) (st' := [.int p1, .ref 25, .int y3]) (h' := rs_H pf r rest) ckR_gathered rfl ?_
          refine ab_iald ckR_gathered rfl rfl (ab_inb_ok h3) ?_
          refine ab_go 4 [7] (pc' := 7) (lo' := [some (.ref 23), some (.long (y1 ||| (((p2).toInt64 &&& (255 : Int64)) <<< ((((8 : Int32) * y3)).toInt64 &&& 63)))), none, some (.int (y3 + (mdBytes (p1).toNatClampNeg))), some (.int (y4 + (1 : Int32))), some (.int p1), some (.long ((p2).toInt64 &&& (255 : Int64))), none]) (st' := []) (h' := rs_H pf r rest) ckR_gathered rfl ?_
          have e : fR_gathered_7 (n + 1) r y1 y3 y4 = fR_gathered_7 n r (y1 ||| (((p2).toInt64 &&& (255 : Int64)) <<< ((((8 : Int32) * y3)).toInt64 &&& 63))) (y3 + (mdBytes (p1).toNatClampNeg)) (y4 + (1 : Int32)) := by simp only [fR_gathered_7, if_neg h1, if_pos h2, e1, ab_bd_s, e2, ab_bd_s, if_pos h3, if_neg h4, if_neg h5]
          exact ab_W.weak (ih r (y1 ||| (((p2).toInt64 &&& (255 : Int64)) <<< ((((8 : Int32) * y3)).toInt64 &&& 63))) (y3 + (mdBytes (p1).toNatClampNeg)) (y4 + (1 : Int32)) v (e.symm.trans hv)) ⟨rfl, rfl, rfl, rfl, trivial⟩
        · refine ab_go 12 [7] (pc' := 95) (lo' := [some (.ref 23), some (.long (y1 ||| (((p2).toInt64 &&& (65535 : Int64)) <<< ((((8 : Int32) * y3)).toInt64 &&& 63)))), none, some (.int y3), some (.int y4), some (.int p1), some (.long ((p2).toInt64 &&& (65535 : Int64))), none]) (st' := []) (h' := rs_H pf r rest) ckR_gathered rfl ?_
          refine ab_go 4 [7] (pc' := 102) (lo' := [some (.ref 23), some (.long (y1 ||| (((p2).toInt64 &&& (65535 : Int64)) <<< ((((8 : Int32) * y3)).toInt64 &&& 63)))), none, some (.int y3), some (.int y4), some (.int p1), some (.long ((p2).toInt64 &&& (65535 : Int64))), none]) (st' := [.int p1, .ref 25, .int y3]) (h' := rs_H pf r rest) ckR_gathered rfl ?_
          refine ab_iald ckR_gathered rfl rfl (ab_inb_ok h3) ?_
          refine ab_go 4 [7] (pc' := 7) (lo' := [some (.ref 23), some (.long (y1 ||| (((p2).toInt64 &&& (65535 : Int64)) <<< ((((8 : Int32) * y3)).toInt64 &&& 63)))), none, some (.int (y3 + (mdBytes (p1).toNatClampNeg))), some (.int (y4 + (1 : Int32))), some (.int p1), some (.long ((p2).toInt64 &&& (65535 : Int64))), none]) (st' := []) (h' := rs_H pf r rest) ckR_gathered rfl ?_
          have e : fR_gathered_7 (n + 1) r y1 y3 y4 = fR_gathered_7 n r (y1 ||| (((p2).toInt64 &&& (65535 : Int64)) <<< ((((8 : Int32) * y3)).toInt64 &&& 63))) (y3 + (mdBytes (p1).toNatClampNeg)) (y4 + (1 : Int32)) := by simp only [fR_gathered_7, if_neg h1, if_pos h2, e1, ab_bd_s, e2, ab_bd_s, if_pos h3, if_neg h4, if_pos h5]
          exact ab_W.weak (ih r (y1 ||| (((p2).toInt64 &&& (65535 : Int64)) <<< ((((8 : Int32) * y3)).toInt64 &&& 63))) (y3 + (mdBytes (p1).toNatClampNeg)) (y4 + (1 : Int32)) v (e.symm.trans hv)) ⟨rfl, rfl, rfl, rfl, trivial⟩
      · refine ab_go 12 [7] (pc' := 95) (lo' := [some (.ref 23), some (.long (y1 ||| (((p2).toInt64 &&& (4294967295 : Int64)) <<< ((((8 : Int32) * y3)).toInt64 &&& 63)))), none, some (.int y3), some (.int y4), some (.int p1), some (.long ((p2).toInt64 &&& (4294967295 : Int64))), none]) (st' := []) (h' := rs_H pf r rest) ckR_gathered rfl ?_
        refine ab_go 4 [7] (pc' := 102) (lo' := [some (.ref 23), some (.long (y1 ||| (((p2).toInt64 &&& (4294967295 : Int64)) <<< ((((8 : Int32) * y3)).toInt64 &&& 63)))), none, some (.int y3), some (.int y4), some (.int p1), some (.long ((p2).toInt64 &&& (4294967295 : Int64))), none]) (st' := [.int p1, .ref 25, .int y3]) (h' := rs_H pf r rest) ckR_gathered rfl ?_
        refine ab_iald ckR_gathered rfl rfl (ab_inb_ok h3) ?_
        refine ab_go 4 [7] (pc' := 7) (lo' := [some (.ref 23), some (.long (y1 ||| (((p2).toInt64 &&& (4294967295 : Int64)) <<< ((((8 : Int32) * y3)).toInt64 &&& 63)))), none, some (.int (y3 + (mdBytes (p1).toNatClampNeg))), some (.int (y4 + (1 : Int32))), some (.int p1), some (.long ((p2).toInt64 &&& (4294967295 : Int64))), none]) (st' := []) (h' := rs_H pf r rest) ckR_gathered rfl ?_
        have e : fR_gathered_7 (n + 1) r y1 y3 y4 = fR_gathered_7 n r (y1 ||| (((p2).toInt64 &&& (4294967295 : Int64)) <<< ((((8 : Int32) * y3)).toInt64 &&& 63))) (y3 + (mdBytes (p1).toNatClampNeg)) (y4 + (1 : Int32)) := by simp only [fR_gathered_7, if_neg h1, if_pos h2, e1, ab_bd_s, e2, ab_bd_s, if_pos h3, if_pos h4]
        exact ab_W.weak (ih r (y1 ||| (((p2).toInt64 &&& (4294967295 : Int64)) <<< ((((8 : Int32) * y3)).toInt64 &&& 63))) (y3 + (mdBytes (p1).toNatClampNeg)) (y4 + (1 : Int32)) v (e.symm.trans hv)) ⟨rfl, rfl, rfl, rfl, trivial⟩
set_option maxRecDepth 20000 in
set_option maxHeartbeats 4000000 in
theorem tR_gathered {v : Int64} (hv : fR_gathered r = some v) : ab_M X mR_gathered (d + 3) 0 0 [.ref 23] (rs_H pf r rest) (fun r9 h9 => r9 = some (Value.long v) ∧ h9 = rs_H pf r rest) := by
  refine ab_entry (by decide) (Nat.le_of_ble_eq_true rfl) ?_
  refine ab_go 6 [7] (pc' := 7) (lo' := [some (.ref 23), some (.long (0 : Int64)), none, some (.int (0 : Int32)), some (.int (1 : Int32)), none, none, none]) (st' := []) (h' := rs_H pf r rest) ckR_gathered rfl ?_
  have e : fR_gathered r = fR_gathered_7 40 r (0 : Int64) (0 : Int32) (1 : Int32) := by simp only [fR_gathered]
  exact ab_W.weak (tR_gathered_7 40 r (0 : Int64) (0 : Int32) (1 : Int32) v (e.symm.trans hv)) ⟨rfl, rfl, rfl, rfl, trivial⟩
def fR_out (r : cs_S)  : Option (cs_S) := (if (r.1 1 12) = 0 then (some r) else (ab_bd (fR_gathered r) (fun p1 => (ab_bd (fR_size (cs_d r p1) (12 : Int32)) (fun p2 => (ab_bd (fR_send (cs_u (cs_u (cs_u (cs_d r p1) 0 16 p2) 0 11 (1 : Int32)) 0 15 (0 : Int32)) ((384 : Int32) + (r.1 0 4)) p2 p1) (fun p3 => (some p3))))))))
theorem tR_out {v : cs_S} (hv : fR_out r = some v) : ab_M X mR_out (d + 4) 0 0 [.ref 23] (rs_H pf r rest) (fun r9 h9 => r9 = none ∧ h9 = rs_H pf v rest) := by
  refine ab_entry (by decide) (Nat.le_of_ble_eq_true rfl) ?_
  refine ab_go 4 [] (pc' := 7) (lo' := [some (.ref 23)]) (st' := [.int (r.1 1 12)]) (h' := rs_H pf r rest) ckR_out rfl ?_
  refine ab_if_ne ckR_out rfl (fun (h1 : ¬ ((r.1 1 12) = 0)) => ?_) (fun (h1 : (r.1 1 12) = 0) => ?_)
  · refine ab_go 2 [] (pc' := 13) (lo' := [some (.ref 23)]) (st' := [.ref 23, .ref 23]) (h' := rs_H pf r rest) ckR_out rfl ?_
    rcases e1 : fR_gathered r with _ | p1
    · exact ab_no hv (by simp only [fR_out, if_neg h1, e1, ab_bd_n])
    refine ab_callV (bc2 := 0) (bs2 := 0) (as := []) (rest := [_]) ckR_out rfl (by decide +kernel) wR_gathered (tR_gathered (d := d) (r := r) (v := p1) e1) rfl rfl (by omega) ⟨Nat.le_refl _, Nat.le_refl _⟩ (Nat.le_of_ble_eq_true rfl) ?_
    rintro _ _ ⟨rfl, rfl⟩
    refine ab_go 4 [] (pc' := 23) (lo' := [some (.ref 23)]) (st' := [.int (12 : Int32), .ref 23, .ref 23]) (h' := rs_H pf (cs_d r p1) rest) ckR_out rfl ?_
    rcases e2 : fR_size (cs_d r p1) (12 : Int32) with _ | p2
    · exact ab_no hv (by simp only [fR_out, if_neg h1, e1, ab_bd_s, e2, ab_bd_n])
    refine ab_callV (bc2 := 0) (bs2 := 0) (as := [_]) (rest := [_]) ckR_out rfl (by decide +kernel) wR_size (tR_size (d := d + 2) (x1 := (12 : Int32)) (r := (cs_d r p1)) (v := p2) e2) rfl rfl (by omega) ⟨Nat.le_refl _, Nat.le_refl _⟩ (Nat.le_of_ble_eq_true rfl) ?_
    rintro _ _ ⟨rfl, rfl⟩
    refine ab_go 12 [] (pc' := 48) (lo' := [some (.ref 23)]) (st' := [.int ((384 : Int32) + (r.1 0 4)), .ref 23]) (h' := rs_H pf (cs_u (cs_u (cs_u (cs_d r p1) 0 16 p2) 0 11 (1 : Int32)) 0 15 (0 : Int32)) rest) ckR_out rfl ?_
    refine ab_go 4 [] (pc' := 56) (lo' := [some (.ref 23)]) (st' := [.long p1, .int p2, .int ((384 : Int32) + (r.1 0 4)), .ref 23]) (h' := rs_H pf (cs_u (cs_u (cs_u (cs_d r p1) 0 16 p2) 0 11 (1 : Int32)) 0 15 (0 : Int32)) rest) ckR_out rfl ?_
    rcases e3 : fR_send (cs_u (cs_u (cs_u (cs_d r p1) 0 16 p2) 0 11 (1 : Int32)) 0 15 (0 : Int32)) ((384 : Int32) + (r.1 0 4)) p2 p1 with _ | p3
    · exact ab_no hv (by simp only [fR_out, if_neg h1, e1, ab_bd_s, e2, ab_bd_s, e3, ab_bd_n])
    refine ab_callV (bc2 := 0) (bs2 := 0) (as := [_, _, _]) (rest := []) ckR_out rfl (by decide +kernel) wR_send (tR_send (d := d + 3) (x1 := ((384 : Int32) + (r.1 0 4))) (x2 := p2) (x3 := p1) (r := (cs_u (cs_u (cs_u (cs_d r p1) 0 16 p2) 0 11 (1 : Int32)) 0 15 (0 : Int32))) (v := p3) e3) rfl rfl (by omega) ⟨Nat.le_refl _, Nat.le_refl _⟩ (Nat.le_of_ble_eq_true rfl) ?_
    rintro _ _ ⟨rfl, rfl⟩
    have e : fR_out r = some p3 := by simp only [fR_out, if_neg h1, e1, ab_bd_s, e2, ab_bd_s, e3, ab_bd_s]
    obtain rfl := Option.some.inj (e.symm.trans hv)
    exact ab_vret ckR_out rfl rfl ⟨rfl, rfl⟩
  · have e : fR_out r = some r := by simp only [fR_out, if_pos h1]
    obtain rfl := Option.some.inj (e.symm.trans hv)
    exact ab_vret ckR_out rfl rfl ⟨rfl, rfl⟩
def fR_object (r : cs_S) (x1 : Int32) (x2 : Int32) : Option (Int32) := (if x1 < 0 then (some (0 : Int32)) else (if (65535 : Int32) < x1 then (some (0 : Int32)) else (if x2 < 0 then (some (0 : Int32)) else (if x2 ≤ (255 : Int32) then (ab_bd (fR_find r ((x1 * (256 : Int32)) + x2)) (fun p1 => (if p1 < 0 then (some (0 : Int32)) else (if ab_inb p1 30 = true then (if (mdKind (p1).toNatClampNeg) = (1 : Int32) then (some (0 : Int32)) else (ab_bd (fR_look r p1) (fun p2 => (some p2)))) else none)))) else (some (0 : Int32))))))
theorem tR_object {x1 : Int32} {x2 : Int32} {v : Int32} (hv : fR_object r x1 x2 = some v) : ab_M X mR_object (d + 3) 0 0 [.ref 23, .int x1, .int x2] (rs_H pf r rest) (fun r9 h9 => r9 = some (Value.int v) ∧ h9 = rs_H pf r rest) := by
  refine ab_entry (by decide) (Nat.le_of_ble_eq_true rfl) ?_
  refine ab_go 1 [] (pc' := 1) (lo' := [some (.ref 23), some (.int x1), some (.int x2), none]) (st' := [.int x1]) (h' := rs_H pf r rest) ckR_object rfl ?_
  refine ab_if_lt ckR_object rfl (fun (h1 : x1 < 0) => ?_) (fun (h1 : ¬ (x1 < 0)) => ?_)
  · refine ab_go 1 [] (pc' := 22) (lo' := [some (.ref 23), some (.int x1), some (.int x2), none]) (st' := [.int (0 : Int32)]) (h' := rs_H pf r rest) ckR_object rfl ?_
    have e : fR_object r x1 x2 = some (0 : Int32) := by simp only [fR_object, if_pos h1]
    obtain rfl := Option.some.inj (e.symm.trans hv)
    exact ab_iret ckR_object rfl rfl ⟨rfl, rfl⟩
  · refine ab_go 2 [] (pc' := 7) (lo' := [some (.ref 23), some (.int x1), some (.int x2), none]) (st' := [.int (65535 : Int32), .int x1]) (h' := rs_H pf r rest) ckR_object rfl ?_
    refine ab_icmp_gt ckR_object rfl (fun (h2 : (65535 : Int32) < x1) => ?_) (fun (h2 : ¬ ((65535 : Int32) < x1)) => ?_)
    · refine ab_go 1 [] (pc' := 22) (lo' := [some (.ref 23), some (.int x1), some (.int x2), none]) (st' := [.int (0 : Int32)]) (h' := rs_H pf r rest) ckR_object rfl ?_
      have e : fR_object r x1 x2 = some (0 : Int32) := by simp only [fR_object, if_neg h1, if_pos h2]
      obtain rfl := Option.some.inj (e.symm.trans hv)
      exact ab_iret ckR_object rfl rfl ⟨rfl, rfl⟩
    · refine ab_go 1 [] (pc' := 11) (lo' := [some (.ref 23), some (.int x1), some (.int x2), none]) (st' := [.int x2]) (h' := rs_H pf r rest) ckR_object rfl ?_
      refine ab_if_lt ckR_object rfl (fun (h3 : x2 < 0) => ?_) (fun (h3 : ¬ (x2 < 0)) => ?_)
      · refine ab_go 1 [] (pc' := 22) (lo' := [some (.ref 23), some (.int x1), some (.int x2), none]) (st' := [.int (0 : Int32)]) (h' := rs_H pf r rest) ckR_object rfl ?_
        have e : fR_object r x1 x2 = some (0 : Int32) := by simp only [fR_object, if_neg h1, if_neg h2, if_pos h3]
        obtain rfl := Option.some.inj (e.symm.trans hv)
        exact ab_iret ckR_object rfl rfl ⟨rfl, rfl⟩
      · refine ab_go 2 [] (pc' := 18) (lo' := [some (.ref 23), some (.int x1), some (.int x2), none]) (st' := [.int (255 : Int32), .int x2]) (h' := rs_H pf r rest) ckR_object rfl ?_
        refine ab_icmp_le ckR_object rfl (fun (h4 : x2 ≤ (255 : Int32)) => ?_) (fun (h4 : ¬ (x2 ≤ (255 : Int32))) => ?_)
        · refine ab_go 6 [] (pc' := 31) (lo' := [some (.ref 23), some (.int x1), some (.int x2), none]) (st' := [.int ((x1 * (256 : Int32)) + x2), .ref 23]) (h' := rs_H pf r rest) ckR_object rfl ?_
          rcases e1 : fR_find r ((x1 * (256 : Int32)) + x2) with _ | p1
          · exact ab_no hv (by simp only [fR_object, if_neg h1, if_neg h2, if_neg h3, if_pos h4, e1, ab_bd_n])
          refine ab_callV (bc2 := 0) (bs2 := 0) (as := [_]) (rest := []) ckR_object rfl (by decide +kernel) wR_find (tR_find (d := d + 2) (x1 := ((x1 * (256 : Int32)) + x2)) (r := r) (v := p1) e1) rfl rfl (by omega) ⟨Nat.le_refl _, Nat.le_refl _⟩ (Nat.le_of_ble_eq_true rfl) ?_
          rintro _ _ ⟨rfl, rfl⟩
          refine ab_go 2 [] (pc' := 36) (lo' := [some (.ref 23), some (.int x1), some (.int x2), some (.int p1)]) (st' := [.int p1]) (h' := rs_H pf r rest) ckR_object rfl ?_
          refine ab_if_lt ckR_object rfl (fun (h5 : p1 < 0) => ?_) (fun (h5 : ¬ (p1 < 0)) => ?_)
          · refine ab_go 2 [] (pc' := 58) (lo' := [some (.ref 23), some (.int x1), some (.int x2), some (.int p1)]) (st' := [.int (0 : Int32)]) (h' := rs_H pf r rest) ckR_object rfl ?_
            have e : fR_object r x1 x2 = some (0 : Int32) := by simp only [fR_object, if_neg h1, if_neg h2, if_neg h3, if_pos h4, e1, ab_bd_s, if_pos h5]
            obtain rfl := Option.some.inj (e.symm.trans hv)
            exact ab_iret ckR_object rfl rfl ⟨rfl, rfl⟩
          · refine ab_go 3 [] (pc' := 44) (lo' := [some (.ref 23), some (.int x1), some (.int x2), some (.int p1)]) (st' := [.int p1, .ref 26]) (h' := rs_H pf r rest) ckR_object rfl ?_
            by_cases h6 : ab_inb p1 30 = true
            case neg => exact ab_no hv (by simp only [fR_object, if_neg h1, if_neg h2, if_neg h3, if_pos h4, e1, ab_bd_s, if_neg h5, if_neg h6])
            refine ab_iald ckR_object rfl rfl (ab_inb_ok h6) ?_
            refine ab_go 1 [] (pc' := 46) (lo' := [some (.ref 23), some (.int x1), some (.int x2), some (.int p1)]) (st' := [.int (1 : Int32), .int (mdKind (p1).toNatClampNeg)]) (h' := rs_H pf r rest) ckR_object rfl ?_
            refine ab_icmp_ne ckR_object rfl (fun (h7 : ¬ ((mdKind (p1).toNatClampNeg) = (1 : Int32))) => ?_) (fun (h7 : (mdKind (p1).toNatClampNeg) = (1 : Int32)) => ?_)
            · refine ab_go 2 [] (pc' := 55) (lo' := [some (.ref 23), some (.int x1), some (.int x2), some (.int p1)]) (st' := [.int p1, .ref 23]) (h' := rs_H pf r rest) ckR_object rfl ?_
              rcases e2 : fR_look r p1 with _ | p2
              · exact ab_no hv (by simp only [fR_object, if_neg h1, if_neg h2, if_neg h3, if_pos h4, e1, ab_bd_s, if_neg h5, if_pos h6, if_neg h7, e2, ab_bd_n])
              refine ab_callV (bc2 := 0) (bs2 := 0) (as := [_]) (rest := []) ckR_object rfl (by decide +kernel) wR_look (tR_look (d := d) (x1 := p1) (r := r) (v := p2) e2) rfl rfl (by omega) ⟨Nat.le_refl _, Nat.le_refl _⟩ (Nat.le_of_ble_eq_true rfl) ?_
              rintro _ _ ⟨rfl, rfl⟩
              have e : fR_object r x1 x2 = some p2 := by simp only [fR_object, if_neg h1, if_neg h2, if_neg h3, if_pos h4, e1, ab_bd_s, if_neg h5, if_pos h6, if_neg h7, e2, ab_bd_s]
              obtain rfl := Option.some.inj (e.symm.trans hv)
              exact ab_iret ckR_object rfl rfl ⟨rfl, rfl⟩
            · refine ab_go 2 [] (pc' := 58) (lo' := [some (.ref 23), some (.int x1), some (.int x2), some (.int p1)]) (st' := [.int (0 : Int32)]) (h' := rs_H pf r rest) ckR_object rfl ?_
              have e : fR_object r x1 x2 = some (0 : Int32) := by simp only [fR_object, if_neg h1, if_neg h2, if_neg h3, if_pos h4, e1, ab_bd_s, if_neg h5, if_pos h6, if_pos h7]
              obtain rfl := Option.some.inj (e.symm.trans hv)
              exact ab_iret ckR_object rfl rfl ⟨rfl, rfl⟩
        · refine ab_go 1 [] (pc' := 22) (lo' := [some (.ref 23), some (.int x1), some (.int x2), none]) (st' := [.int (0 : Int32)]) (h' := rs_H pf r rest) ckR_object rfl ?_
          have e : fR_object r x1 x2 = some (0 : Int32) := by simp only [fR_object, if_neg h1, if_neg h2, if_neg h3, if_neg h4]
          obtain rfl := Option.some.inj (e.symm.trans hv)
          exact ab_iret ckR_object rfl rfl ⟨rfl, rfl⟩
def fR_network (r : cs_S)  : Int32 := (r.1 0 5)
theorem tR_network : ab_M X mR_network (d) 0 0 [.ref 23] (rs_H pf r rest) (fun r9 h9 => r9 = some (Value.int (fR_network r)) ∧ h9 = rs_H pf r rest) := by
  refine ab_entry (by decide) (Nat.le_of_ble_eq_true rfl) ?_
  refine ab_go 2 [] (pc' := 4) (lo' := [some (.ref 23)]) (st' := [.int (r.1 0 5)]) (h' := rs_H pf r rest) ckR_network rfl ?_
  have e : fR_network r = (r.1 0 5) := by simp only [fR_network]
  exact ab_iret ckR_network rfl rfl ⟨(congrArg (fun q : Int32 => some (Value.int q)) e).symm, rfl⟩
def fR_power (r : cs_S)  : Int32 := (r.1 0 6)
theorem tR_power : ab_M X mR_power (d) 0 0 [.ref 23] (rs_H pf r rest) (fun r9 h9 => r9 = some (Value.int (fR_power r)) ∧ h9 = rs_H pf r rest) := by
  refine ab_entry (by decide) (Nat.le_of_ble_eq_true rfl) ?_
  refine ab_go 2 [] (pc' := 4) (lo' := [some (.ref 23)]) (st' := [.int (r.1 0 6)]) (h' := rs_H pf r rest) ckR_power rfl ?_
  have e : fR_power r = (r.1 0 6) := by simp only [fR_power]
  exact ab_iret ckR_power rfl rfl ⟨(congrArg (fun q : Int32 => some (Value.int q)) e).symm, rfl⟩
def fR_speed (r : cs_S)  : Int32 := (r.1 1 21)
theorem tR_speed : ab_M X mR_speed (d) 0 0 [.ref 23] (rs_H pf r rest) (fun r9 h9 => r9 = some (Value.int (fR_speed r)) ∧ h9 = rs_H pf r rest) := by
  refine ab_entry (by decide) (Nat.le_of_ble_eq_true rfl) ?_
  refine ab_go 4 [] (pc' := 7) (lo' := [some (.ref 23)]) (st' := [.int (r.1 1 21)]) (h' := rs_H pf r rest) ckR_speed rfl ?_
  have e : fR_speed r = (r.1 1 21) := by simp only [fR_speed]
  exact ab_iret ckR_speed rfl rfl ⟨(congrArg (fun q : Int32 => some (Value.int q)) e).symm, rfl⟩
def fR_position (r : cs_S)  : Int32 := (r.1 0 7)
theorem tR_position : ab_M X mR_position (d) 0 0 [.ref 23] (rs_H pf r rest) (fun r9 h9 => r9 = some (Value.int (fR_position r)) ∧ h9 = rs_H pf r rest) := by
  refine ab_entry (by decide) (Nat.le_of_ble_eq_true rfl) ?_
  refine ab_go 2 [] (pc' := 4) (lo' := [some (.ref 23)]) (st' := [.int (r.1 0 7)]) (h' := rs_H pf r rest) ckR_position rfl ?_
  have e : fR_position r = (r.1 0 7) := by simp only [fR_position]
  exact ab_iret ckR_position rfl rfl ⟨(congrArg (fun q : Int32 => some (Value.int q)) e).symm, rfl⟩
end LEAF
