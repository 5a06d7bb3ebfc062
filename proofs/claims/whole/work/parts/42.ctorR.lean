/-! the reference's constructor, by program (wip/gen/gen_cr.py) -/
/-- the reference while its tables (a 7 to a 12) are being filled -/
def rq_H (pf : Nat → va_E) (r : cs_S) (rest : ab_H) : ab_H :=
  pf 0 :: pf 1 :: pf 2 :: pf 3 :: pf 4 :: pf 5 :: pf 6 :: pf 7 :: pf 8 :: pf 9 :: pf 10 :: pf 11 :: pf 12 :: pf 13 :: pf 14 ::
  .inr (7, [.ref 24, .ref 25, .ref 26, .ref 27, .ref 28, .ref 29, .ref 30, .ref 31, .ref 32, .ref 33, .int (r.1 0 0), .int (r.1 0 1), .ref 34, .ref 35, .int (r.1 0 2), .int (r.1 0 3), .ref 36, .int (r.1 0 4), .int (r.1 0 5), .int (r.1 0 6), .int (r.1 0 7), .int (r.1 0 8), .int (r.1 0 9), .int (r.1 0 10), .int (r.1 0 11), .int (r.1 0 12), .int (r.1 0 13), .int (r.1 0 14), .int (r.1 0 15), .int (r.1 0 16), .long r.2.2]) ::
  .inl (0, 30, .inl (r.1 7)) :: .inl (0, 30, .inl (r.1 8)) :: .inl (0, 30, .inl (r.1 9)) :: .inl (0, 30, .inl (r.1 10)) :: .inl (0, 30, .inl (r.1 11)) :: .inl (0, 30, .inl (r.1 12)) ::
  .inl (0, 30, .inl (r.1 1)) :: .inl (0, 12, .inl (r.1 2)) :: .inl (0, 12, .inl (r.1 3)) :: .inl (1, 12, .inr (.inl r.2.1)) :: .inl (0, 44, .inl (r.1 4)) :: .inl (0, 22, .inl (r.1 5)) :: .inl (0, 1001, .inl (r.1 6)) :: rest
section CR
variable {X : ab_C} {d : Nat} {r : cs_S} {rest hp : ab_H} {pf : Nat → va_E}
def fR_row (r : cs_S) (x1 : Int32) (x2 : Int32) (x3 : Int32) (x4 : Int32) (x5 : Int32) (x6 : Int32) (x7 : Int32) : Option (cs_S) := (if ab_inb x1 30 = true then (some (cs_u (cs_u (cs_u (cs_u (cs_u (cs_u r 7 (x1).toNatClampNeg x2) 8 (x1).toNatClampNeg x3) 9 (x1).toNatClampNeg x4) 10 (x1).toNatClampNeg x5) 11 (x1).toNatClampNeg x6) 12 (x1).toNatClampNeg x7)) else none)
theorem tR_row {x1 : Int32} {x2 : Int32} {x3 : Int32} {x4 : Int32} {x5 : Int32} {x6 : Int32} {x7 : Int32} {v : cs_S} (hv : fR_row r x1 x2 x3 x4 x5 x6 x7 = some v) : ab_M X mR_row (d) 0 0 [.ref 23, .int x1, .int x2, .int x3, .int x4, .int x5, .int x6, .int x7] (rq_H pf r rest) (fun r9 h9 => r9 = none ∧ h9 = rq_H pf v rest) := by
  refine ab_entry (by decide) (Nat.le_of_ble_eq_true rfl) ?_
  refine ab_go 4 [] (pc' := 6) (lo' := [some (.ref 23), some (.int x1), some (.int x2), some (.int x3), some (.int x4), some (.int x5), some (.int x6), some (.int x7)]) (st' := [.int x2, .int x1, .ref 24]) (h' := rq_H pf r rest) ckR_row rfl ?_
  by_cases h1 : ab_inb x1 30 = true
  case neg => exact ab_no hv (by simp only [fR_row, if_neg h1])
  refine ab_iast ckR_row rfl rfl (ab_inb_ok h1) ?_
  refine ab_go 4 [] (pc' := 13) (lo' := [some (.ref 23), some (.int x1), some (.int x2), some (.int x3), some (.int x4), some (.int x5), some (.int x6), some (.int x7)]) (st' := [.int x3, .int x1, .ref 25]) (h' := rq_H pf (cs_u r 7 (x1).toNatClampNeg x2) rest) ckR_row rfl ?_
  refine ab_iast ckR_row rfl rfl (ab_inb_ok h1) ?_
  refine ab_go 4 [] (pc' := 21) (lo' := [some (.ref 23), some (.int x1), some (.int x2), some (.int x3), some (.int x4), some (.int x5), some (.int x6), some (.int x7)]) (st' := [.int x4, .int x1, .ref 26]) (h' := rq_H pf (cs_u (cs_u r 7 (x1).toNatClampNeg x2) 8 (x1).toNatClampNeg x3) rest) ckR_row rfl ?_
  refine ab_iast ckR_row rfl rfl (ab_inb_ok h1) ?_
  refine ab_go 4 [] (pc' := 29) (lo' := [some (.ref 23), some (.int x1), some (.int x2), some (.int x3), some (.int x4), some (.int x5), some (.int x6), some (.int x7)]) (st' := [.int x5, .int x1, .ref 27]) (h' := rq_H pf (cs_u (cs_u (cs_u r 7 (x1).toNatClampNeg x2) 8 (x1).toNatClampNeg x3) 9 (x1).toNatClampNeg x4) rest) ckR_row rfl ?_
  refine ab_iast ckR_row rfl rfl (ab_inb_ok h1) ?_
  refine ab_go 4 [] (pc' := 37) (lo' := [some (.ref 23), some (.int x1), some (.int x2), some (.int x3), some (.int x4), some (.int x5), some (.int x6), some (.int x7)]) (st' := [.int x6, .int x1, .ref 28]) (h' := rq_H pf (cs_u (cs_u (cs_u (cs_u r 7 (x1).toNatClampNeg x2) 8 (x1).toNatClampNeg x3) 9 (x1).toNatClampNeg x4) 10 (x1).toNatClampNeg x5) rest) ckR_row rfl ?_
  refine ab_iast ckR_row rfl rfl (ab_inb_ok h1) ?_
  refine ab_go 4 [] (pc' := 45) (lo' := [some (.ref 23), some (.int x1), some (.int x2), some (.int x3), some (.int x4), some (.int x5), some (.int x6), some (.int x7)]) (st' := [.int x7, .int x1, .ref 29]) (h' := rq_H pf (cs_u (cs_u (cs_u (cs_u (cs_u r 7 (x1).toNatClampNeg x2) 8 (x1).toNatClampNeg x3) 9 (x1).toNatClampNeg x4) 10 (x1).toNatClampNeg x5) 11 (x1).toNatClampNeg x6) rest) ckR_row rfl ?_
  refine ab_iast ckR_row rfl rfl (ab_inb_ok h1) ?_
  have e : fR_row r x1 x2 x3 x4 x5 x6 x7 = some (cs_u (cs_u (cs_u (cs_u (cs_u (cs_u r 7 (x1).toNatClampNeg x2) 8 (x1).toNatClampNeg x3) 9 (x1).toNatClampNeg x4) 10 (x1).toNatClampNeg x5) 11 (x1).toNatClampNeg x6) 12 (x1).toNatClampNeg x7) := by simp only [fR_row, if_pos h1]
  obtain rfl := Option.some.inj (e.symm.trans hv)
  exact ab_vret ckR_row rfl rfl ⟨rfl, rfl⟩
def rw_ (q : cs_S) (k : Nat) (a b c d e f : Int32) : cs_S := cs_u (cs_u (cs_u (cs_u (cs_u (cs_u q 7 k a) 8 k b) 9 k c) 10 k d) 11 k e) 12 k f
def rq_0 (z : Int32) : cs_S := (fun i => if i = 0 then (fun k => if k = 4 then z else 0) else fun _ => 0, fun _ => 0, 0)
def rq_1 (z : Int32) : cs_S := rw_ (rq_0 z) 0 1048832 1 0 0 (-2147483648) 2147483647
def rq_2 (z : Int32) : cs_S := rw_ (rq_1 z) 1 1052673 4 1 0 (-2147483648) 2147483647
def rq_3 (z : Int32) : cs_S := rw_ (rq_2 z) 2 1052929 4 1 0 (-2147483648) 2147483647
def rq_4 (z : Int32) : cs_S := rw_ (rq_3 z) 3 1054209 4 10 0 0 8388607
def rq_5 (z : Int32) : cs_S := rw_ (rq_4 z) 4 1054464 2 10 0 0 65535
def rq_6 (z : Int32) : cs_S := rw_ (rq_5 z) 5 1441792 1 12 1 0 3
def rq_7 (z : Int32) : cs_S := rw_ (rq_6 z) 12 1703936 1 12 1 0 3
def rq_8 (z : Int32) : cs_S := rw_ (rq_7 z) 6 1441793 4 12 1614807056 (-2147483648) 2147483647
def rq_9 (z : Int32) : cs_S := rw_ (rq_8 z) 13 1703937 4 12 1614872592 (-2147483648) 2147483647
def rq_10 (z : Int32) : cs_S := rw_ (rq_9 z) 7 1441794 4 12 0 (-2147483648) 2147483647
def rq_11 (z : Int32) : cs_S := rw_ (rq_10 z) 14 1703938 4 12 0 (-2147483648) 2147483647
def rq_12 (z : Int32) : cs_S := rw_ (rq_11 z) 8 1441795 4 12 0 (-2147483648) 2147483647
def rq_13 (z : Int32) : cs_S := rw_ (rq_12 z) 15 1703939 4 12 0 (-2147483648) 2147483647
def rq_14 (z : Int32) : cs_S := rw_ (rq_13 z) 9 1572866 1 10 255 0 255
def rq_15 (z : Int32) : cs_S := rw_ (rq_14 z) 10 1572867 2 10 0 0 65535
def rq_16 (z : Int32) : cs_S := rw_ (rq_15 z) 11 1572869 2 10 0 0 65535
def rq_17 (z : Int32) : cs_S := rw_ (rq_16 z) 16 6307840 2 2 0 0 65535
def rq_18 (z : Int32) : cs_S := rw_ (rq_17 z) 17 6308096 2 0 0 (-2147483648) 2147483647
def rq_19 (z : Int32) : cs_S := rw_ (rq_18 z) 18 6316032 1 10 1 1 3
def rq_20 (z : Int32) : cs_S := rw_ (rq_19 z) 19 6317056 4 0 0 (-2147483648) 2147483647
def rq_21 (z : Int32) : cs_S := rw_ (rq_20 z) 20 6317312 4 11 100000 0 100000
def rq_22 (z : Int32) : cs_S := rw_ (rq_21 z) 21 6318848 4 0 0 (-2147483648) 2147483647
def rq_23 (z : Int32) : cs_S := rw_ (rq_22 z) 22 6322688 4 2 0 (-100000) 100000
def rq_24 (z : Int32) : cs_S := rw_ (rq_23 z) 23 6323457 4 11 (-100000) (-100000) 100000
def rq_25 (z : Int32) : cs_S := rw_ (rq_24 z) 24 6323458 4 11 100000 (-100000) 100000
def rq_26 (z : Int32) : cs_S := rw_ (rq_25 z) 25 6323968 4 11 1000 1 1000
def rq_27 (z : Int32) : cs_S := rw_ (rq_26 z) 26 6324480 4 10 100 1 1000
def rq_28 (z : Int32) : cs_S := rw_ (rq_27 z) 27 6324992 4 11 10 1 1000
def rq_29 (z : Int32) : cs_S := rw_ (rq_28 z) 28 6325504 4 11 50 1 1000
def rq_30 (z : Int32) : cs_S := rw_ (rq_29 z) 29 6356736 4 2 0 (-1000) 1000
set_option maxRecDepth 20000 in
theorem rq_t7 (z : Int32) : (rq_30 z).1 7 = mdKey := by
  funext j
  match j with
  | 0 => rfl
  | 1 => rfl
  | 2 => rfl
  | 3 => rfl
  | 4 => rfl
  | 5 => rfl
  | 6 => rfl
  | 7 => rfl
  | 8 => rfl
  | 9 => rfl
  | 10 => rfl
  | 11 => rfl
  | 12 => rfl
  | 13 => rfl
  | 14 => rfl
  | 15 => rfl
  | 16 => rfl
  | 17 => rfl
  | 18 => rfl
  | 19 => rfl
  | 20 => rfl
  | 21 => rfl
  | 22 => rfl
  | 23 => rfl
  | 24 => rfl
  | 25 => rfl
  | 26 => rfl
  | 27 => rfl
  | 28 => rfl
  | 29 => rfl
  | n + 30 => rfl
set_option maxRecDepth 20000 in
theorem rq_t8 (z : Int32) : (rq_30 z).1 8 = mdBytes := by
  funext j
  match j with
  | 0 => rfl
  | 1 => rfl
  | 2 => rfl
  | 3 => rfl
  | 4 => rfl
  | 5 => rfl
  | 6 => rfl
  | 7 => rfl
  | 8 => rfl
  | 9 => rfl
  | 10 => rfl
  | 11 => rfl
  | 12 => rfl
  | 13 => rfl
  | 14 => rfl
  | 15 => rfl
  | 16 => rfl
  | 17 => rfl
  | 18 => rfl
  | 19 => rfl
  | 20 => rfl
  | 21 => rfl
  | 22 => rfl
  | 23 => rfl
  | 24 => rfl
  | 25 => rfl
  | 26 => rfl
  | 27 => rfl
  | 28 => rfl
  | 29 => rfl
  | n + 30 => rfl
set_option maxRecDepth 20000 in
theorem rq_t9 (z : Int32) : (rq_30 z).1 9 = mdKind := by
  funext j
  match j with
  | 0 => rfl
  | 1 => rfl
  | 2 => rfl
  | 3 => rfl
  | 4 => rfl
  | 5 => rfl
  | 6 => rfl
  | 7 => rfl
  | 8 => rfl
  | 9 => rfl
  | 10 => rfl
  | 11 => rfl
  | 12 => rfl
  | 13 => rfl
  | 14 => rfl
  | 15 => rfl
  | 16 => rfl
  | 17 => rfl
  | 18 => rfl
  | 19 => rfl
  | 20 => rfl
  | 21 => rfl
  | 22 => rfl
  | 23 => rfl
  | 24 => rfl
  | 25 => rfl
  | 26 => rfl
  | 27 => rfl
  | 28 => rfl
  | 29 => rfl
  | n + 30 => rfl
set_option maxRecDepth 20000 in
theorem rq_t10 (z : Int32) : (rq_30 z).1 10 = mdStart := by
  funext j
  match j with
  | 0 => rfl
  | 1 => rfl
  | 2 => rfl
  | 3 => rfl
  | 4 => rfl
  | 5 => rfl
  | 6 => rfl
  | 7 => rfl
  | 8 => rfl
  | 9 => rfl
  | 10 => rfl
  | 11 => rfl
  | 12 => rfl
  | 13 => rfl
  | 14 => rfl
  | 15 => rfl
  | 16 => rfl
  | 17 => rfl
  | 18 => rfl
  | 19 => rfl
  | 20 => rfl
  | 21 => rfl
  | 22 => rfl
  | 23 => rfl
  | 24 => rfl
  | 25 => rfl
  | 26 => rfl
  | 27 => rfl
  | 28 => rfl
  | 29 => rfl
  | n + 30 => rfl
set_option maxRecDepth 20000 in
theorem rq_t11 (z : Int32) : (rq_30 z).1 11 = mdLeast := by
  funext j
  match j with
  | 0 => rfl
  | 1 => rfl
  | 2 => rfl
  | 3 => rfl
  | 4 => rfl
  | 5 => rfl
  | 6 => rfl
  | 7 => rfl
  | 8 => rfl
  | 9 => rfl
  | 10 => rfl
  | 11 => rfl
  | 12 => rfl
  | 13 => rfl
  | 14 => rfl
  | 15 => rfl
  | 16 => rfl
  | 17 => rfl
  | 18 => rfl
  | 19 => rfl
  | 20 => rfl
  | 21 => rfl
  | 22 => rfl
  | 23 => rfl
  | 24 => rfl
  | 25 => rfl
  | 26 => rfl
  | 27 => rfl
  | 28 => rfl
  | 29 => rfl
  | n + 30 => rfl
set_option maxRecDepth 20000 in
theorem rq_t12 (z : Int32) : (rq_30 z).1 12 = mdMost := by
  funext j
  match j with
  | 0 => rfl
  | 1 => rfl
  | 2 => rfl
  | 3 => rfl
  | 4 => rfl
  | 5 => rfl
  | 6 => rfl
  | 7 => rfl
  | 8 => rfl
  | 9 => rfl
  | 10 => rfl
  | 11 => rfl
  | 12 => rfl
  | 13 => rfl
  | 14 => rfl
  | 15 => rfl
  | 16 => rfl
  | 17 => rfl
  | 18 => rfl
  | 19 => rfl
  | 20 => rfl
  | 21 => rfl
  | 22 => rfl
  | 23 => rfl
  | 24 => rfl
  | 25 => rfl
  | 26 => rfl
  | 27 => rfl
  | 28 => rfl
  | 29 => rfl
  | n + 30 => rfl
/-- the reference's state as its constructor has made it, ahead of restart -/
def rs_0 (z : Int32) : cs_S := (fun i => if i = 0 then (fun k => if k = 4 then z else 0) else fun _ => 0, fun _ => 0, 0)
set_option maxRecDepth 100000 in
set_option maxHeartbeats 8000000 in
theorem rq_end (pf : Nat → va_E) (z : Int32) : rq_H pf (rq_30 z) [] = rs_H pf (rs_0 z) [] := by
  unfold rq_H
  rw [rq_t7, rq_t8, rq_t9, rq_t10, rq_t11, rq_t12]
  rfl
set_option maxHeartbeats 8000000 in
set_option maxRecDepth 20000 in
theorem tR_init_126 {x z : Int32} {v : cs_S} (hv : fR_restart (rs_0 z) = some v) : ab_W X mR_init (d + 2) 0 0 126 [some (.ref 23), some (.int x), none] [.int z, .ref 23] [pf 0, pf 1, pf 2, pf 3, pf 4, pf 5, pf 6, pf 7, pf 8, pf 9, pf 10, pf 11, pf 12, pf 13, pf 14, .inr (7, [.ref 24, .ref 25, .ref 26, .ref 27, .ref 28, .ref 29, .ref 30, .ref 31, .ref 32, .ref 33, .int 0, .int 0, .ref 34, .ref 35, .int 0, .int 0, .ref 36, .int 0, .int 0, .int 0, .int 0, .int 0, .int 0, .int 0, .int 0, .int 0, .int 0, .int 0, .int 0, .int 0, .long 0]), .inl (0, 30, .inl (fun _ => 0)), .inl (0, 30, .inl (fun _ => 0)), .inl (0, 30, .inl (fun _ => 0)), .inl (0, 30, .inl (fun _ => 0)), .inl (0, 30, .inl (fun _ => 0)), .inl (0, 30, .inl (fun _ => 0)), .inl (0, 30, .inl (fun _ => 0)), .inl (0, 12, .inl (fun _ => 0)), .inl (0, 12, .inl (fun _ => 0)), .inl (1, 12, .inr (.inl (fun _ => 0))), .inl (0, 44, .inl (fun _ => 0)), .inl (0, 22, .inl (fun _ => 0)), .inl (0, 1001, .inl (fun _ => 0))] (fun r9 h9 => r9 = none ∧ h9 = rs_H pf v []) := by
  refine ab_go 1 [] (pc' := 129) (lo' := [some (.ref 23), some (.int x), none]) (st' := []) (h' := [pf 0, pf 1, pf 2, pf 3, pf 4, pf 5, pf 6, pf 7, pf 8, pf 9, pf 10, pf 11, pf 12, pf 13, pf 14, .inr (7, [.ref 24, .ref 25, .ref 26, .ref 27, .ref 28, .ref 29, .ref 30, .ref 31, .ref 32, .ref 33, .int 0, .int 0, .ref 34, .ref 35, .int 0, .int 0, .ref 36, .int z, .int 0, .int 0, .int 0, .int 0, .int 0, .int 0, .int 0, .int 0, .int 0, .int 0, .int 0, .int 0, .long 0]), .inl (0, 30, .inl (fun _ => 0)), .inl (0, 30, .inl (fun _ => 0)), .inl (0, 30, .inl (fun _ => 0)), .inl (0, 30, .inl (fun _ => 0)), .inl (0, 30, .inl (fun _ => 0)), .inl (0, 30, .inl (fun _ => 0)), .inl (0, 30, .inl (fun _ => 0)), .inl (0, 12, .inl (fun _ => 0)), .inl (0, 12, .inl (fun _ => 0)), .inl (1, 12, .inr (.inl (fun _ => 0))), .inl (0, 44, .inl (fun _ => 0)), .inl (0, 22, .inl (fun _ => 0)), .inl (0, 1001, .inl (fun _ => 0))]) ckR_init rfl ?_
  refine ab_go 0 [] (pc' := 129) (lo' := [some (.ref 23), some (.int x), none]) (st' := []) (h' := rq_H pf (rq_0 z) []) ckR_init rfl ?_
  refine ab_go 8 [] (pc' := 140) (lo' := [some (.ref 23), some (.int x), none]) (st' := [.int 2147483647, .int (-2147483648), .int 0, .int 0, .int 1, .int 1048832, .int 0, .ref 23]) (h' := rq_H pf (rq_0 z) []) ckR_init rfl ?_
  refine ab_callV (bc2 := 0) (bs2 := 0) (as := [_, _, _, _, _, _, _]) (rest := []) ckR_init rfl (by decide +kernel) wR_row (tR_row (d := d + 1) (r := rq_0 z) (x1 := 0) (x2 := 1048832) (x3 := 1) (x4 := 0) (x5 := 0) (x6 := (-2147483648)) (x7 := 2147483647) (v := rq_1 z) rfl) rfl rfl (by omega) ⟨Nat.le_refl _, Nat.le_refl _⟩ (Nat.le_of_ble_eq_true rfl) ?_
  rintro _ _ ⟨rfl, rfl⟩
  refine ab_go 0 [] (pc' := 143) (lo' := [some (.ref 23), some (.int x), none]) (st' := []) (h' := rq_H pf (rq_1 z) []) ckR_init rfl ?_
  refine ab_go 8 [] (pc' := 154) (lo' := [some (.ref 23), some (.int x), none]) (st' := [.int 2147483647, .int (-2147483648), .int 0, .int 1, .int 4, .int 1052673, .int 1, .ref 23]) (h' := rq_H pf (rq_1 z) []) ckR_init rfl ?_
  refine ab_callV (bc2 := 0) (bs2 := 0) (as := [_, _, _, _, _, _, _]) (rest := []) ckR_init rfl (by decide +kernel) wR_row (tR_row (d := d + 1) (r := rq_1 z) (x1 := 1) (x2 := 1052673) (x3 := 4) (x4 := 1) (x5 := 0) (x6 := (-2147483648)) (x7 := 2147483647) (v := rq_2 z) rfl) rfl rfl (by omega) ⟨Nat.le_refl _, Nat.le_refl _⟩ (Nat.le_of_ble_eq_true rfl) ?_
  rintro _ _ ⟨rfl, rfl⟩
  refine ab_go 0 [] (pc' := 157) (lo' := [some (.ref 23), some (.int x), none]) (st' := []) (h' := rq_H pf (rq_2 z) []) ckR_init rfl ?_
  refine ab_go 8 [] (pc' := 168) (lo' := [some (.ref 23), some (.int x), none]) (st' := [.int 2147483647, .int (-2147483648), .int 0, .int 1, .int 4, .int 1052929, .int 2, .ref 23]) (h' := rq_H pf (rq_2 z) []) ckR_init rfl ?_
  refine ab_callV (bc2 := 0) (bs2 := 0) (as := [_, _, _, _, _, _, _]) (rest := []) ckR_init rfl (by decide +kernel) wR_row (tR_row (d := d + 1) (r := rq_2 z) (x1 := 2) (x2 := 1052929) (x3 := 4) (x4 := 1) (x5 := 0) (x6 := (-2147483648)) (x7 := 2147483647) (v := rq_3 z) rfl) rfl rfl (by omega) ⟨Nat.le_refl _, Nat.le_refl _⟩ (Nat.le_of_ble_eq_true rfl) ?_
  rintro _ _ ⟨rfl, rfl⟩
  refine ab_go 0 [] (pc' := 171) (lo' := [some (.ref 23), some (.int x), none]) (st' := []) (h' := rq_H pf (rq_3 z) []) ckR_init rfl ?_
  refine ab_go 8 [] (pc' := 182) (lo' := [some (.ref 23), some (.int x), none]) (st' := [.int 8388607, .int 0, .int 0, .int 10, .int 4, .int 1054209, .int 3, .ref 23]) (h' := rq_H pf (rq_3 z) []) ckR_init rfl ?_
  refine ab_callV (bc2 := 0) (bs2 := 0) (as := [_, _, _, _, _, _, _]) (rest := []) ckR_init rfl (by decide +kernel) wR_row (tR_row (d := d + 1) (r := rq_3 z) (x1 := 3) (x2 := 1054209) (x3 := 4) (x4 := 10) (x5 := 0) (x6 := 0) (x7 := 8388607) (v := rq_4 z) rfl) rfl rfl (by omega) ⟨Nat.le_refl _, Nat.le_refl _⟩ (Nat.le_of_ble_eq_true rfl) ?_
  rintro _ _ ⟨rfl, rfl⟩
  refine ab_go 0 [] (pc' := 185) (lo' := [some (.ref 23), some (.int x), none]) (st' := []) (h' := rq_H pf (rq_4 z) []) ckR_init rfl ?_
  refine ab_go 8 [] (pc' := 196) (lo' := [some (.ref 23), some (.int x), none]) (st' := [.int 65535, .int 0, .int 0, .int 10, .int 2, .int 1054464, .int 4, .ref 23]) (h' := rq_H pf (rq_4 z) []) ckR_init rfl ?_
  refine ab_callV (bc2 := 0) (bs2 := 0) (as := [_, _, _, _, _, _, _]) (rest := []) ckR_init rfl (by decide +kernel) wR_row (tR_row (d := d + 1) (r := rq_4 z) (x1 := 4) (x2 := 1054464) (x3 := 2) (x4 := 10) (x5 := 0) (x6 := 0) (x7 := 65535) (v := rq_5 z) rfl) rfl rfl (by omega) ⟨Nat.le_refl _, Nat.le_refl _⟩ (Nat.le_of_ble_eq_true rfl) ?_
  rintro _ _ ⟨rfl, rfl⟩
  refine ab_go 0 [] (pc' := 199) (lo' := [some (.ref 23), some (.int x), none]) (st' := []) (h' := rq_H pf (rq_5 z) []) ckR_init rfl ?_
  refine ab_go 8 [] (pc' := 209) (lo' := [some (.ref 23), some (.int x), none]) (st' := [.int 3, .int 0, .int 1, .int 12, .int 1, .int 1441792, .int 5, .ref 23]) (h' := rq_H pf (rq_5 z) []) ckR_init rfl ?_
  refine ab_callV (bc2 := 0) (bs2 := 0) (as := [_, _, _, _, _, _, _]) (rest := []) ckR_init rfl (by decide +kernel) wR_row (tR_row (d := d + 1) (r := rq_5 z) (x1 := 5) (x2 := 1441792) (x3 := 1) (x4 := 12) (x5 := 1) (x6 := 0) (x7 := 3) (v := rq_6 z) rfl) rfl rfl (by omega) ⟨Nat.le_refl _, Nat.le_refl _⟩ (Nat.le_of_ble_eq_true rfl) ?_
  rintro _ _ ⟨rfl, rfl⟩
  refine ab_go 0 [] (pc' := 212) (lo' := [some (.ref 23), some (.int x), none]) (st' := []) (h' := rq_H pf (rq_6 z) []) ckR_init rfl ?_
  refine ab_go 8 [] (pc' := 223) (lo' := [some (.ref 23), some (.int x), none]) (st' := [.int 3, .int 0, .int 1, .int 12, .int 1, .int 1703936, .int 12, .ref 23]) (h' := rq_H pf (rq_6 z) []) ckR_init rfl ?_
  refine ab_callV (bc2 := 0) (bs2 := 0) (as := [_, _, _, _, _, _, _]) (rest := []) ckR_init rfl (by decide +kernel) wR_row (tR_row (d := d + 1) (r := rq_6 z) (x1 := 12) (x2 := 1703936) (x3 := 1) (x4 := 12) (x5 := 1) (x6 := 0) (x7 := 3) (v := rq_7 z) rfl) rfl rfl (by omega) ⟨Nat.le_refl _, Nat.le_refl _⟩ (Nat.le_of_ble_eq_true rfl) ?_
  rintro _ _ ⟨rfl, rfl⟩
  refine ab_go 0 [] (pc' := 226) (lo' := [some (.ref 23), some (.int x), none]) (st' := []) (h' := rq_H pf (rq_7 z) []) ckR_init rfl ?_
  refine ab_go 4 [] (pc' := 230) (lo' := [some (.ref 23), some (.int x), some (.int 1)]) (st' := [.int 3, .int 1]) (h' := rq_H pf (rq_7 z) []) ckR_init rfl ?_
  refine ab_icmp_gt ckR_init rfl (fun hh => absurd hh (by decide)) (fun _ => ?_)
  refine ab_go 11 [] (pc' := 246) (lo' := [some (.ref 23), some (.int x), some (.int 1)]) (st' := [.int 1, .int 1, .int 12, .int 4, .int 1441793, .int 6, .ref 23]) (h' := rq_H pf (rq_7 z) []) ckR_init rfl ?_
  refine ab_icmp_ne ckR_init rfl (fun hh => absurd hh (by decide)) (fun _ => ?_)
  refine ab_go 4 [] (pc' := 259) (lo' := [some (.ref 23), some (.int x), some (.int 1)]) (st' := [.int 2147483647, .int (-2147483648), .int 1614807056, .int 12, .int 4, .int 1441793, .int 6, .ref 23]) (h' := rq_H pf (rq_7 z) []) ckR_init rfl ?_
  refine ab_callV (bc2 := 0) (bs2 := 0) (as := [_, _, _, _, _, _, _]) (rest := []) ckR_init rfl (by decide +kernel) wR_row (tR_row (d := d + 1) (r := rq_7 z) (x1 := 6) (x2 := 1441793) (x3 := 4) (x4 := 12) (x5 := 1614807056) (x6 := (-2147483648)) (x7 := 2147483647) (v := rq_8 z) rfl) rfl rfl (by omega) ⟨Nat.le_refl _, Nat.le_refl _⟩ (Nat.le_of_ble_eq_true rfl) ?_
  rintro _ _ ⟨rfl, rfl⟩
  refine ab_go 0 [] (pc' := 262) (lo' := [some (.ref 23), some (.int x), some (.int 1)]) (st' := []) (h' := rq_H pf (rq_8 z) []) ckR_init rfl ?_
  refine ab_go 11 [] (pc' := 276) (lo' := [some (.ref 23), some (.int x), some (.int 1)]) (st' := [.int 1, .int 1, .int 12, .int 4, .int 1703937, .int 13, .ref 23]) (h' := rq_H pf (rq_8 z) []) ckR_init rfl ?_
  refine ab_icmp_ne ckR_init rfl (fun hh => absurd hh (by decide)) (fun _ => ?_)
  refine ab_go 4 [] (pc' := 289) (lo' := [some (.ref 23), some (.int x), some (.int 1)]) (st' := [.int 2147483647, .int (-2147483648), .int 1614872592, .int 12, .int 4, .int 1703937, .int 13, .ref 23]) (h' := rq_H pf (rq_8 z) []) ckR_init rfl ?_
  refine ab_callV (bc2 := 0) (bs2 := 0) (as := [_, _, _, _, _, _, _]) (rest := []) ckR_init rfl (by decide +kernel) wR_row (tR_row (d := d + 1) (r := rq_8 z) (x1 := 13) (x2 := 1703937) (x3 := 4) (x4 := 12) (x5 := 1614872592) (x6 := (-2147483648)) (x7 := 2147483647) (v := rq_9 z) rfl) rfl rfl (by omega) ⟨Nat.le_refl _, Nat.le_refl _⟩ (Nat.le_of_ble_eq_true rfl) ?_
  rintro _ _ ⟨rfl, rfl⟩
  refine ab_go 0 [] (pc' := 292) (lo' := [some (.ref 23), some (.int x), some (.int 1)]) (st' := []) (h' := rq_H pf (rq_9 z) []) ckR_init rfl ?_
  refine ab_go 4 [] (pc' := 230) (lo' := [some (.ref 23), some (.int x), some (.int 2)]) (st' := [.int 3, .int 2]) (h' := rq_H pf (rq_9 z) []) ckR_init rfl ?_
  refine ab_icmp_gt ckR_init rfl (fun hh => absurd hh (by decide)) (fun _ => ?_)
  refine ab_go 11 [] (pc' := 246) (lo' := [some (.ref 23), some (.int x), some (.int 2)]) (st' := [.int 1, .int 2, .int 12, .int 4, .int 1441794, .int 7, .ref 23]) (h' := rq_H pf (rq_9 z) []) ckR_init rfl ?_
  refine ab_icmp_ne ckR_init rfl (fun _ => ?_) (fun hh => absurd hh (by decide))
  refine ab_go 3 [] (pc' := 259) (lo' := [some (.ref 23), some (.int x), some (.int 2)]) (st' := [.int 2147483647, .int (-2147483648), .int 0, .int 12, .int 4, .int 1441794, .int 7, .ref 23]) (h' := rq_H pf (rq_9 z) []) ckR_init rfl ?_
  refine ab_callV (bc2 := 0) (bs2 := 0) (as := [_, _, _, _, _, _, _]) (rest := []) ckR_init rfl (by decide +kernel) wR_row (tR_row (d := d + 1) (r := rq_9 z) (x1 := 7) (x2 := 1441794) (x3 := 4) (x4 := 12) (x5 := 0) (x6 := (-2147483648)) (x7 := 2147483647) (v := rq_10 z) rfl) rfl rfl (by omega) ⟨Nat.le_refl _, Nat.le_refl _⟩ (Nat.le_of_ble_eq_true rfl) ?_
  rintro _ _ ⟨rfl, rfl⟩
  refine ab_go 0 [] (pc' := 262) (lo' := [some (.ref 23), some (.int x), some (.int 2)]) (st' := []) (h' := rq_H pf (rq_10 z) []) ckR_init rfl ?_
  refine ab_go 11 [] (pc' := 276) (lo' := [some (.ref 23), some (.int x), some (.int 2)]) (st' := [.int 1, .int 2, .int 12, .int 4, .int 1703938, .int 14, .ref 23]) (h' := rq_H pf (rq_10 z) []) ckR_init rfl ?_
  refine ab_icmp_ne ckR_init rfl (fun _ => ?_) (fun hh => absurd hh (by decide))
  refine ab_go 3 [] (pc' := 289) (lo' := [some (.ref 23), some (.int x), some (.int 2)]) (st' := [.int 2147483647, .int (-2147483648), .int 0, .int 12, .int 4, .int 1703938, .int 14, .ref 23]) (h' := rq_H pf (rq_10 z) []) ckR_init rfl ?_
  refine ab_callV (bc2 := 0) (bs2 := 0) (as := [_, _, _, _, _, _, _]) (rest := []) ckR_init rfl (by decide +kernel) wR_row (tR_row (d := d + 1) (r := rq_10 z) (x1 := 14) (x2 := 1703938) (x3 := 4) (x4 := 12) (x5 := 0) (x6 := (-2147483648)) (x7 := 2147483647) (v := rq_11 z) rfl) rfl rfl (by omega) ⟨Nat.le_refl _, Nat.le_refl _⟩ (Nat.le_of_ble_eq_true rfl) ?_
  rintro _ _ ⟨rfl, rfl⟩
  refine ab_go 0 [] (pc' := 292) (lo' := [some (.ref 23), some (.int x), some (.int 2)]) (st' := []) (h' := rq_H pf (rq_11 z) []) ckR_init rfl ?_
  refine ab_go 4 [] (pc' := 230) (lo' := [some (.ref 23), some (.int x), some (.int 3)]) (st' := [.int 3, .int 3]) (h' := rq_H pf (rq_11 z) []) ckR_init rfl ?_
  refine ab_icmp_gt ckR_init rfl (fun hh => absurd hh (by decide)) (fun _ => ?_)
  refine ab_go 11 [] (pc' := 246) (lo' := [some (.ref 23), some (.int x), some (.int 3)]) (st' := [.int 1, .int 3, .int 12, .int 4, .int 1441795, .int 8, .ref 23]) (h' := rq_H pf (rq_11 z) []) ckR_init rfl ?_
  refine ab_icmp_ne ckR_init rfl (fun _ => ?_) (fun hh => absurd hh (by decide))
  refine ab_go 3 [] (pc' := 259) (lo' := [some (.ref 23), some (.int x), some (.int 3)]) (st' := [.int 2147483647, .int (-2147483648), .int 0, .int 12, .int 4, .int 1441795, .int 8, .ref 23]) (h' := rq_H pf (rq_11 z) []) ckR_init rfl ?_
  refine ab_callV (bc2 := 0) (bs2 := 0) (as := [_, _, _, _, _, _, _]) (rest := []) ckR_init rfl (by decide +kernel) wR_row (tR_row (d := d + 1) (r := rq_11 z) (x1 := 8) (x2 := 1441795) (x3 := 4) (x4 := 12) (x5 := 0) (x6 := (-2147483648)) (x7 := 2147483647) (v := rq_12 z) rfl) rfl rfl (by omega) ⟨Nat.le_refl _, Nat.le_refl _⟩ (Nat.le_of_ble_eq_true rfl) ?_
  rintro _ _ ⟨rfl, rfl⟩
  refine ab_go 0 [] (pc' := 262) (lo' := [some (.ref 23), some (.int x), some (.int 3)]) (st' := []) (h' := rq_H pf (rq_12 z) []) ckR_init rfl ?_
  refine ab_go 11 [] (pc' := 276) (lo' := [some (.ref 23), some (.int x), some (.int 3)]) (st' := [.int 1, .int 3, .int 12, .int 4, .int 1703939, .int 15, .ref 23]) (h' := rq_H pf (rq_12 z) []) ckR_init rfl ?_
  refine ab_icmp_ne ckR_init rfl (fun _ => ?_) (fun hh => absurd hh (by decide))
  refine ab_go 3 [] (pc' := 289) (lo' := [some (.ref 23), some (.int x), some (.int 3)]) (st' := [.int 2147483647, .int (-2147483648), .int 0, .int 12, .int 4, .int 1703939, .int 15, .ref 23]) (h' := rq_H pf (rq_12 z) []) ckR_init rfl ?_
  refine ab_callV (bc2 := 0) (bs2 := 0) (as := [_, _, _, _, _, _, _]) (rest := []) ckR_init rfl (by decide +kernel) wR_row (tR_row (d := d + 1) (r := rq_12 z) (x1 := 15) (x2 := 1703939) (x3 := 4) (x4 := 12) (x5 := 0) (x6 := (-2147483648)) (x7 := 2147483647) (v := rq_13 z) rfl) rfl rfl (by omega) ⟨Nat.le_refl _, Nat.le_refl _⟩ (Nat.le_of_ble_eq_true rfl) ?_
  rintro _ _ ⟨rfl, rfl⟩
  refine ab_go 0 [] (pc' := 292) (lo' := [some (.ref 23), some (.int x), some (.int 3)]) (st' := []) (h' := rq_H pf (rq_13 z) []) ckR_init rfl ?_
  refine ab_go 4 [] (pc' := 230) (lo' := [some (.ref 23), some (.int x), some (.int 4)]) (st' := [.int 3, .int 4]) (h' := rq_H pf (rq_13 z) []) ckR_init rfl ?_
  refine ab_icmp_gt ckR_init rfl (fun _ => ?_) (fun hh => absurd hh (by decide))
  refine ab_go 8 [] (pc' := 313) (lo' := [some (.ref 23), some (.int x), some (.int 4)]) (st' := [.int 255, .int 0, .int 255, .int 10, .int 1, .int 1572866, .int 9, .ref 23]) (h' := rq_H pf (rq_13 z) []) ckR_init rfl ?_
  refine ab_callV (bc2 := 0) (bs2 := 0) (as := [_, _, _, _, _, _, _]) (rest := []) ckR_init rfl (by decide +kernel) wR_row (tR_row (d := d + 1) (r := rq_13 z) (x1 := 9) (x2 := 1572866) (x3 := 1) (x4 := 10) (x5 := 255) (x6 := 0) (x7 := 255) (v := rq_14 z) rfl) rfl rfl (by omega) ⟨Nat.le_refl _, Nat.le_refl _⟩ (Nat.le_of_ble_eq_true rfl) ?_
  rintro _ _ ⟨rfl, rfl⟩
  refine ab_go 0 [] (pc' := 316) (lo' := [some (.ref 23), some (.int x), some (.int 4)]) (st' := []) (h' := rq_H pf (rq_14 z) []) ckR_init rfl ?_
  refine ab_go 8 [] (pc' := 328) (lo' := [some (.ref 23), some (.int x), some (.int 4)]) (st' := [.int 65535, .int 0, .int 0, .int 10, .int 2, .int 1572867, .int 10, .ref 23]) (h' := rq_H pf (rq_14 z) []) ckR_init rfl ?_
  refine ab_callV (bc2 := 0) (bs2 := 0) (as := [_, _, _, _, _, _, _]) (rest := []) ckR_init rfl (by decide +kernel) wR_row (tR_row (d := d + 1) (r := rq_14 z) (x1 := 10) (x2 := 1572867) (x3 := 2) (x4 := 10) (x5 := 0) (x6 := 0) (x7 := 65535) (v := rq_15 z) rfl) rfl rfl (by omega) ⟨Nat.le_refl _, Nat.le_refl _⟩ (Nat.le_of_ble_eq_true rfl) ?_
  rintro _ _ ⟨rfl, rfl⟩
  refine ab_go 0 [] (pc' := 331) (lo' := [some (.ref 23), some (.int x), some (.int 4)]) (st' := []) (h' := rq_H pf (rq_15 z) []) ckR_init rfl ?_
  refine ab_go 8 [] (pc' := 343) (lo' := [some (.ref 23), some (.int x), some (.int 4)]) (st' := [.int 65535, .int 0, .int 0, .int 10, .int 2, .int 1572869, .int 11, .ref 23]) (h' := rq_H pf (rq_15 z) []) ckR_init rfl ?_
  refine ab_callV (bc2 := 0) (bs2 := 0) (as := [_, _, _, _, _, _, _]) (rest := []) ckR_init rfl (by decide +kernel) wR_row (tR_row (d := d + 1) (r := rq_15 z) (x1 := 11) (x2 := 1572869) (x3 := 2) (x4 := 10) (x5 := 0) (x6 := 0) (x7 := 65535) (v := rq_16 z) rfl) rfl rfl (by omega) ⟨Nat.le_refl _, Nat.le_refl _⟩ (Nat.le_of_ble_eq_true rfl) ?_
  rintro _ _ ⟨rfl, rfl⟩
  refine ab_go 0 [] (pc' := 346) (lo' := [some (.ref 23), some (.int x), some (.int 4)]) (st' := []) (h' := rq_H pf (rq_16 z) []) ckR_init rfl ?_
  refine ab_go 8 [] (pc' := 357) (lo' := [some (.ref 23), some (.int x), some (.int 4)]) (st' := [.int 65535, .int 0, .int 0, .int 2, .int 2, .int 6307840, .int 16, .ref 23]) (h' := rq_H pf (rq_16 z) []) ckR_init rfl ?_
  refine ab_callV (bc2 := 0) (bs2 := 0) (as := [_, _, _, _, _, _, _]) (rest := []) ckR_init rfl (by decide +kernel) wR_row (tR_row (d := d + 1) (r := rq_16 z) (x1 := 16) (x2 := 6307840) (x3 := 2) (x4 := 2) (x5 := 0) (x6 := 0) (x7 := 65535) (v := rq_17 z) rfl) rfl rfl (by omega) ⟨Nat.le_refl _, Nat.le_refl _⟩ (Nat.le_of_ble_eq_true rfl) ?_
  rintro _ _ ⟨rfl, rfl⟩
  refine ab_go 0 [] (pc' := 360) (lo' := [some (.ref 23), some (.int x), some (.int 4)]) (st' := []) (h' := rq_H pf (rq_17 z) []) ckR_init rfl ?_
  refine ab_go 8 [] (pc' := 372) (lo' := [some (.ref 23), some (.int x), some (.int 4)]) (st' := [.int 2147483647, .int (-2147483648), .int 0, .int 0, .int 2, .int 6308096, .int 17, .ref 23]) (h' := rq_H pf (rq_17 z) []) ckR_init rfl ?_
  refine ab_callV (bc2 := 0) (bs2 := 0) (as := [_, _, _, _, _, _, _]) (rest := []) ckR_init rfl (by decide +kernel) wR_row (tR_row (d := d + 1) (r := rq_17 z) (x1 := 17) (x2 := 6308096) (x3 := 2) (x4 := 0) (x5 := 0) (x6 := (-2147483648)) (x7 := 2147483647) (v := rq_18 z) rfl) rfl rfl (by omega) ⟨Nat.le_refl _, Nat.le_refl _⟩ (Nat.le_of_ble_eq_true rfl) ?_
  rintro _ _ ⟨rfl, rfl⟩
  refine ab_go 0 [] (pc' := 375) (lo' := [some (.ref 23), some (.int x), some (.int 4)]) (st' := []) (h' := rq_H pf (rq_18 z) []) ckR_init rfl ?_
  refine ab_go 8 [] (pc' := 386) (lo' := [some (.ref 23), some (.int x), some (.int 4)]) (st' := [.int 3, .int 1, .int 1, .int 10, .int 1, .int 6316032, .int 18, .ref 23]) (h' := rq_H pf (rq_18 z) []) ckR_init rfl ?_
  refine ab_callV (bc2 := 0) (bs2 := 0) (as := [_, _, _, _, _, _, _]) (rest := []) ckR_init rfl (by decide +kernel) wR_row (tR_row (d := d + 1) (r := rq_18 z) (x1 := 18) (x2 := 6316032) (x3 := 1) (x4 := 10) (x5 := 1) (x6 := 1) (x7 := 3) (v := rq_19 z) rfl) rfl rfl (by omega) ⟨Nat.le_refl _, Nat.le_refl _⟩ (Nat.le_of_ble_eq_true rfl) ?_
  rintro _ _ ⟨rfl, rfl⟩
  refine ab_go 0 [] (pc' := 389) (lo' := [some (.ref 23), some (.int x), some (.int 4)]) (st' := []) (h' := rq_H pf (rq_19 z) []) ckR_init rfl ?_
  refine ab_go 8 [] (pc' := 401) (lo' := [some (.ref 23), some (.int x), some (.int 4)]) (st' := [.int 2147483647, .int (-2147483648), .int 0, .int 0, .int 4, .int 6317056, .int 19, .ref 23]) (h' := rq_H pf (rq_19 z) []) ckR_init rfl ?_
  refine ab_callV (bc2 := 0) (bs2 := 0) (as := [_, _, _, _, _, _, _]) (rest := []) ckR_init rfl (by decide +kernel) wR_row (tR_row (d := d + 1) (r := rq_19 z) (x1 := 19) (x2 := 6317056) (x3 := 4) (x4 := 0) (x5 := 0) (x6 := (-2147483648)) (x7 := 2147483647) (v := rq_20 z) rfl) rfl rfl (by omega) ⟨Nat.le_refl _, Nat.le_refl _⟩ (Nat.le_of_ble_eq_true rfl) ?_
  rintro _ _ ⟨rfl, rfl⟩
  refine ab_go 0 [] (pc' := 404) (lo' := [some (.ref 23), some (.int x), some (.int 4)]) (st' := []) (h' := rq_H pf (rq_20 z) []) ckR_init rfl ?_
  refine ab_go 8 [] (pc' := 417) (lo' := [some (.ref 23), some (.int x), some (.int 4)]) (st' := [.int 100000, .int 0, .int 100000, .int 11, .int 4, .int 6317312, .int 20, .ref 23]) (h' := rq_H pf (rq_20 z) []) ckR_init rfl ?_
  refine ab_callV (bc2 := 0) (bs2 := 0) (as := [_, _, _, _, _, _, _]) (rest := []) ckR_init rfl (by decide +kernel) wR_row (tR_row (d := d + 1) (r := rq_20 z) (x1 := 20) (x2 := 6317312) (x3 := 4) (x4 := 11) (x5 := 100000) (x6 := 0) (x7 := 100000) (v := rq_21 z) rfl) rfl rfl (by omega) ⟨Nat.le_refl _, Nat.le_refl _⟩ (Nat.le_of_ble_eq_true rfl) ?_
  rintro _ _ ⟨rfl, rfl⟩
  refine ab_go 0 [] (pc' := 420) (lo' := [some (.ref 23), some (.int x), some (.int 4)]) (st' := []) (h' := rq_H pf (rq_21 z) []) ckR_init rfl ?_
  refine ab_go 8 [] (pc' := 432) (lo' := [some (.ref 23), some (.int x), some (.int 4)]) (st' := [.int 2147483647, .int (-2147483648), .int 0, .int 0, .int 4, .int 6318848, .int 21, .ref 23]) (h' := rq_H pf (rq_21 z) []) ckR_init rfl ?_
  refine ab_callV (bc2 := 0) (bs2 := 0) (as := [_, _, _, _, _, _, _]) (rest := []) ckR_init rfl (by decide +kernel) wR_row (tR_row (d := d + 1) (r := rq_21 z) (x1 := 21) (x2 := 6318848) (x3 := 4) (x4 := 0) (x5 := 0) (x6 := (-2147483648)) (x7 := 2147483647) (v := rq_22 z) rfl) rfl rfl (by omega) ⟨Nat.le_refl _, Nat.le_refl _⟩ (Nat.le_of_ble_eq_true rfl) ?_
  rintro _ _ ⟨rfl, rfl⟩
  refine ab_go 0 [] (pc' := 435) (lo' := [some (.ref 23), some (.int x), some (.int 4)]) (st' := []) (h' := rq_H pf (rq_22 z) []) ckR_init rfl ?_
  refine ab_go 8 [] (pc' := 447) (lo' := [some (.ref 23), some (.int x), some (.int 4)]) (st' := [.int 100000, .int (-100000), .int 0, .int 2, .int 4, .int 6322688, .int 22, .ref 23]) (h' := rq_H pf (rq_22 z) []) ckR_init rfl ?_
  refine ab_callV (bc2 := 0) (bs2 := 0) (as := [_, _, _, _, _, _, _]) (rest := []) ckR_init rfl (by decide +kernel) wR_row (tR_row (d := d + 1) (r := rq_22 z) (x1 := 22) (x2 := 6322688) (x3 := 4) (x4 := 2) (x5 := 0) (x6 := (-100000)) (x7 := 100000) (v := rq_23 z) rfl) rfl rfl (by omega) ⟨Nat.le_refl _, Nat.le_refl _⟩ (Nat.le_of_ble_eq_true rfl) ?_
  rintro _ _ ⟨rfl, rfl⟩
  refine ab_go 0 [] (pc' := 450) (lo' := [some (.ref 23), some (.int x), some (.int 4)]) (st' := []) (h' := rq_H pf (rq_23 z) []) ckR_init rfl ?_
  refine ab_go 8 [] (pc' := 464) (lo' := [some (.ref 23), some (.int x), some (.int 4)]) (st' := [.int 100000, .int (-100000), .int (-100000), .int 11, .int 4, .int 6323457, .int 23, .ref 23]) (h' := rq_H pf (rq_23 z) []) ckR_init rfl ?_
  refine ab_callV (bc2 := 0) (bs2 := 0) (as := [_, _, _, _, _, _, _]) (rest := []) ckR_init rfl (by decide +kernel) wR_row (tR_row (d := d + 1) (r := rq_23 z) (x1 := 23) (x2 := 6323457) (x3 := 4) (x4 := 11) (x5 := (-100000)) (x6 := (-100000)) (x7 := 100000) (v := rq_24 z) rfl) rfl rfl (by omega) ⟨Nat.le_refl _, Nat.le_refl _⟩ (Nat.le_of_ble_eq_true rfl) ?_
  rintro _ _ ⟨rfl, rfl⟩
  refine ab_go 0 [] (pc' := 467) (lo' := [some (.ref 23), some (.int x), some (.int 4)]) (st' := []) (h' := rq_H pf (rq_24 z) []) ckR_init rfl ?_
  refine ab_go 8 [] (pc' := 481) (lo' := [some (.ref 23), some (.int x), some (.int 4)]) (st' := [.int 100000, .int (-100000), .int 100000, .int 11, .int 4, .int 6323458, .int 24, .ref 23]) (h' := rq_H pf (rq_24 z) []) ckR_init rfl ?_
  refine ab_callV (bc2 := 0) (bs2 := 0) (as := [_, _, _, _, _, _, _]) (rest := []) ckR_init rfl (by decide +kernel) wR_row (tR_row (d := d + 1) (r := rq_24 z) (x1 := 24) (x2 := 6323458) (x3 := 4) (x4 := 11) (x5 := 100000) (x6 := (-100000)) (x7 := 100000) (v := rq_25 z) rfl) rfl rfl (by omega) ⟨Nat.le_refl _, Nat.le_refl _⟩ (Nat.le_of_ble_eq_true rfl) ?_
  rintro _ _ ⟨rfl, rfl⟩
  refine ab_go 0 [] (pc' := 484) (lo' := [some (.ref 23), some (.int x), some (.int 4)]) (st' := []) (h' := rq_H pf (rq_25 z) []) ckR_init rfl ?_
  refine ab_go 8 [] (pc' := 499) (lo' := [some (.ref 23), some (.int x), some (.int 4)]) (st' := [.int 1000, .int 1, .int 1000, .int 11, .int 4, .int 6323968, .int 25, .ref 23]) (h' := rq_H pf (rq_25 z) []) ckR_init rfl ?_
  refine ab_callV (bc2 := 0) (bs2 := 0) (as := [_, _, _, _, _, _, _]) (rest := []) ckR_init rfl (by decide +kernel) wR_row (tR_row (d := d + 1) (r := rq_25 z) (x1 := 25) (x2 := 6323968) (x3 := 4) (x4 := 11) (x5 := 1000) (x6 := 1) (x7 := 1000) (v := rq_26 z) rfl) rfl rfl (by omega) ⟨Nat.le_refl _, Nat.le_refl _⟩ (Nat.le_of_ble_eq_true rfl) ?_
  rintro _ _ ⟨rfl, rfl⟩
  refine ab_go 0 [] (pc' := 502) (lo' := [some (.ref 23), some (.int x), some (.int 4)]) (st' := []) (h' := rq_H pf (rq_26 z) []) ckR_init rfl ?_
  refine ab_go 8 [] (pc' := 516) (lo' := [some (.ref 23), some (.int x), some (.int 4)]) (st' := [.int 1000, .int 1, .int 100, .int 10, .int 4, .int 6324480, .int 26, .ref 23]) (h' := rq_H pf (rq_26 z) []) ckR_init rfl ?_
  refine ab_callV (bc2 := 0) (bs2 := 0) (as := [_, _, _, _, _, _, _]) (rest := []) ckR_init rfl (by decide +kernel) wR_row (tR_row (d := d + 1) (r := rq_26 z) (x1 := 26) (x2 := 6324480) (x3 := 4) (x4 := 10) (x5 := 100) (x6 := 1) (x7 := 1000) (v := rq_27 z) rfl) rfl rfl (by omega) ⟨Nat.le_refl _, Nat.le_refl _⟩ (Nat.le_of_ble_eq_true rfl) ?_
  rintro _ _ ⟨rfl, rfl⟩
  refine ab_go 0 [] (pc' := 519) (lo' := [some (.ref 23), some (.int x), some (.int 4)]) (st' := []) (h' := rq_H pf (rq_27 z) []) ckR_init rfl ?_
  refine ab_go 8 [] (pc' := 533) (lo' := [some (.ref 23), some (.int x), some (.int 4)]) (st' := [.int 1000, .int 1, .int 10, .int 11, .int 4, .int 6324992, .int 27, .ref 23]) (h' := rq_H pf (rq_27 z) []) ckR_init rfl ?_
  refine ab_callV (bc2 := 0) (bs2 := 0) (as := [_, _, _, _, _, _, _]) (rest := []) ckR_init rfl (by decide +kernel) wR_row (tR_row (d := d + 1) (r := rq_27 z) (x1 := 27) (x2 := 6324992) (x3 := 4) (x4 := 11) (x5 := 10) (x6 := 1) (x7 := 1000) (v := rq_28 z) rfl) rfl rfl (by omega) ⟨Nat.le_refl _, Nat.le_refl _⟩ (Nat.le_of_ble_eq_true rfl) ?_
  rintro _ _ ⟨rfl, rfl⟩
  refine ab_go 0 [] (pc' := 536) (lo' := [some (.ref 23), some (.int x), some (.int 4)]) (st' := []) (h' := rq_H pf (rq_28 z) []) ckR_init rfl ?_
  refine ab_go 8 [] (pc' := 550) (lo' := [some (.ref 23), some (.int x), some (.int 4)]) (st' := [.int 1000, .int 1, .int 50, .int 11, .int 4, .int 6325504, .int 28, .ref 23]) (h' := rq_H pf (rq_28 z) []) ckR_init rfl ?_
  refine ab_callV (bc2 := 0) (bs2 := 0) (as := [_, _, _, _, _, _, _]) (rest := []) ckR_init rfl (by decide +kernel) wR_row (tR_row (d := d + 1) (r := rq_28 z) (x1 := 28) (x2 := 6325504) (x3 := 4) (x4 := 11) (x5 := 50) (x6 := 1) (x7 := 1000) (v := rq_29 z) rfl) rfl rfl (by omega) ⟨Nat.le_refl _, Nat.le_refl _⟩ (Nat.le_of_ble_eq_true rfl) ?_
  rintro _ _ ⟨rfl, rfl⟩
  refine ab_go 0 [] (pc' := 553) (lo' := [some (.ref 23), some (.int x), some (.int 4)]) (st' := []) (h' := rq_H pf (rq_29 z) []) ckR_init rfl ?_
  refine ab_go 8 [] (pc' := 567) (lo' := [some (.ref 23), some (.int x), some (.int 4)]) (st' := [.int 1000, .int (-1000), .int 0, .int 2, .int 4, .int 6356736, .int 29, .ref 23]) (h' := rq_H pf (rq_29 z) []) ckR_init rfl ?_
  refine ab_callV (bc2 := 0) (bs2 := 0) (as := [_, _, _, _, _, _, _]) (rest := []) ckR_init rfl (by decide +kernel) wR_row (tR_row (d := d + 1) (r := rq_29 z) (x1 := 29) (x2 := 6356736) (x3 := 4) (x4 := 2) (x5 := 0) (x6 := (-1000)) (x7 := 1000) (v := rq_30 z) rfl) rfl rfl (by omega) ⟨Nat.le_refl _, Nat.le_refl _⟩ (Nat.le_of_ble_eq_true rfl) ?_
  rintro _ _ ⟨rfl, rfl⟩
  refine ab_go 0 [] (pc' := 570) (lo' := [some (.ref 23), some (.int x), some (.int 4)]) (st' := []) (h' := rq_H pf (rq_30 z) []) ckR_init rfl ?_
  refine ab_go 1 [] (pc' := 571) (lo' := [some (.ref 23), some (.int x), some (.int 4)]) (st' := [.ref 23]) (h' := rq_H pf (rq_30 z) []) ckR_init rfl ?_
  rw [rq_end]
  refine ab_callV (bc2 := 0) (bs2 := 0) (as := []) (rest := []) ckR_init rfl (by decide +kernel) wR_restart (tR_restart (d := d + 0) (r := rs_0 z) (v := v) hv) rfl rfl (by omega) ⟨Nat.le_refl _, Nat.le_refl _⟩ (Nat.le_of_ble_eq_true rfl) ?_
  rintro _ _ ⟨rfl, rfl⟩
  exact ab_vret ckR_init rfl rfl ⟨rfl, rfl⟩
set_option maxHeartbeats 8000000 in
set_option maxRecDepth 20000 in
theorem tR_init {x : Int32} {v : cs_S} (hv : fR_restart (rs_0 (cs_node x)) = some v) : ab_M X mR_init (d + 2) 13 1313 [.ref 23, .int x] [pf 0, pf 1, pf 2, pf 3, pf 4, pf 5, pf 6, pf 7, pf 8, pf 9, pf 10, pf 11, pf 12, pf 13, pf 14, .inr (7, [.null, .null, .null, .null, .null, .null, .null, .null, .null, .null, .int 0, .int 0, .null, .null, .int 0, .int 0, .null, .int 0, .int 0, .int 0, .int 0, .int 0, .int 0, .int 0, .int 0, .int 0, .int 0, .int 0, .int 0, .int 0, .long 0])] (fun r9 h9 => r9 = none ∧ h9 = rs_H pf v []) := by
  refine ab_entry (by decide) (Nat.le_of_ble_eq_true rfl) ?_
  refine ab_go 1 [] (pc' := 1) (lo' := [some (.ref 23), some (.int x), none]) (st' := [.ref 23]) (h' := [pf 0, pf 1, pf 2, pf 3, pf 4, pf 5, pf 6, pf 7, pf 8, pf 9, pf 10, pf 11, pf 12, pf 13, pf 14, .inr (7, [.null, .null, .null, .null, .null, .null, .null, .null, .null, .null, .int 0, .int 0, .null, .null, .int 0, .int 0, .null, .int 0, .int 0, .int 0, .int 0, .int 0, .int 0, .int 0, .int 0, .int 0, .int 0, .int 0, .int 0, .int 0, .long 0])]) ckR_init rfl ?_
  refine ab_objInit ckR_init rfl (by decide +kernel) (by omega) (Nat.le_of_ble_eq_true rfl) ?_
  refine ab_go 2 [] (pc' := 7) (lo' := [some (.ref 23), some (.int x), none]) (st' := [.int 30, .ref 23]) (h' := [pf 0, pf 1, pf 2, pf 3, pf 4, pf 5, pf 6, pf 7, pf 8, pf 9, pf 10, pf 11, pf 12, pf 13, pf 14, .inr (7, [.null, .null, .null, .null, .null, .null, .null, .null, .null, .null, .int 0, .int 0, .null, .null, .int 0, .int 0, .null, .int 0, .int 0, .int 0, .int 0, .int 0, .int 0, .int 0, .int 0, .int 0, .int 0, .int 0, .int 0, .int 0, .long 0])]) ckR_init rfl ?_
  refine ab_newaI 30 (bc2 := 12) (bs2 := 1283) ckR_init rfl (by decide +kernel) (by decide) rfl (by decide) ⟨Nat.le_refl _, Nat.le_refl _⟩ ?_
  refine ab_go 0 [] (pc' := 9) (lo' := [some (.ref 23), some (.int x), none]) (st' := [.ref 24, .ref 23]) (h' := [pf 0, pf 1, pf 2, pf 3, pf 4, pf 5, pf 6, pf 7, pf 8, pf 9, pf 10, pf 11, pf 12, pf 13, pf 14, .inr (7, [.null, .null, .null, .null, .null, .null, .null, .null, .null, .null, .int 0, .int 0, .null, .null, .int 0, .int 0, .null, .int 0, .int 0, .int 0, .int 0, .int 0, .int 0, .int 0, .int 0, .int 0, .int 0, .int 0, .int 0, .int 0, .long 0]), .inl (0, 30, .inl (fun _ => 0))]) ckR_init rfl ?_
  refine ab_go 3 [] (pc' := 15) (lo' := [some (.ref 23), some (.int x), none]) (st' := [.int 30, .ref 23]) (h' := [pf 0, pf 1, pf 2, pf 3, pf 4, pf 5, pf 6, pf 7, pf 8, pf 9, pf 10, pf 11, pf 12, pf 13, pf 14, .inr (7, [.ref 24, .null, .null, .null, .null, .null, .null, .null, .null, .null, .int 0, .int 0, .null, .null, .int 0, .int 0, .null, .int 0, .int 0, .int 0, .int 0, .int 0, .int 0, .int 0, .int 0, .int 0, .int 0, .int 0, .int 0, .int 0, .long 0]), .inl (0, 30, .inl (fun _ => 0))]) ckR_init rfl ?_
  refine ab_newaI 30 (bc2 := 11) (bs2 := 1253) ckR_init rfl (by decide +kernel) (by decide) rfl (by decide) ⟨Nat.le_refl _, Nat.le_refl _⟩ ?_
  refine ab_go 0 [] (pc' := 17) (lo' := [some (.ref 23), some (.int x), none]) (st' := [.ref 25, .ref 23]) (h' := [pf 0, pf 1, pf 2, pf 3, pf 4, pf 5, pf 6, pf 7, pf 8, pf 9, pf 10, pf 11, pf 12, pf 13, pf 14, .inr (7, [.ref 24, .null, .null, .null, .null, .null, .null, .null, .null, .null, .int 0, .int 0, .null, .null, .int 0, .int 0, .null, .int 0, .int 0, .int 0, .int 0, .int 0, .int 0, .int 0, .int 0, .int 0, .int 0, .int 0, .int 0, .int 0, .long 0]), .inl (0, 30, .inl (fun _ => 0)), .inl (0, 30, .inl (fun _ => 0))]) ckR_init rfl ?_
  refine ab_go 3 [] (pc' := 23) (lo' := [some (.ref 23), some (.int x), none]) (st' := [.int 30, .ref 23]) (h' := [pf 0, pf 1, pf 2, pf 3, pf 4, pf 5, pf 6, pf 7, pf 8, pf 9, pf 10, pf 11, pf 12, pf 13, pf 14, .inr (7, [.ref 24, .ref 25, .null, .null, .null, .null, .null, .null, .null, .null, .int 0, .int 0, .null, .null, .int 0, .int 0, .null, .int 0, .int 0, .int 0, .int 0, .int 0, .int 0, .int 0, .int 0, .int 0, .int 0, .int 0, .int 0, .int 0, .long 0]), .inl (0, 30, .inl (fun _ => 0)), .inl (0, 30, .inl (fun _ => 0))]) ckR_init rfl ?_
  refine ab_newaI 30 (bc2 := 10) (bs2 := 1223) ckR_init rfl (by decide +kernel) (by decide) rfl (by decide) ⟨Nat.le_refl _, Nat.le_refl _⟩ ?_
  refine ab_go 0 [] (pc' := 25) (lo' := [some (.ref 23), some (.int x), none]) (st' := [.ref 26, .ref 23]) (h' := [pf 0, pf 1, pf 2, pf 3, pf 4, pf 5, pf 6, pf 7, pf 8, pf 9, pf 10, pf 11, pf 12, pf 13, pf 14, .inr (7, [.ref 24, .ref 25, .null, .null, .null, .null, .null, .null, .null, .null, .int 0, .int 0, .null, .null, .int 0, .int 0, .null, .int 0, .int 0, .int 0, .int 0, .int 0, .int 0, .int 0, .int 0, .int 0, .int 0, .int 0, .int 0, .int 0, .long 0]), .inl (0, 30, .inl (fun _ => 0)), .inl (0, 30, .inl (fun _ => 0)), .inl (0, 30, .inl (fun _ => 0))]) ckR_init rfl ?_
  refine ab_go 3 [] (pc' := 31) (lo' := [some (.ref 23), some (.int x), none]) (st' := [.int 30, .ref 23]) (h' := [pf 0, pf 1, pf 2, pf 3, pf 4, pf 5, pf 6, pf 7, pf 8, pf 9, pf 10, pf 11, pf 12, pf 13, pf 14, .inr (7, [.ref 24, .ref 25, .ref 26, .null, .null, .null, .null, .null, .null, .null, .int 0, .int 0, .null, .null, .int 0, .int 0, .null, .int 0, .int 0, .int 0, .int 0, .int 0, .int 0, .int 0, .int 0, .int 0, .int 0, .int 0, .int 0, .int 0, .long 0]), .inl (0, 30, .inl (fun _ => 0)), .inl (0, 30, .inl (fun _ => 0)), .inl (0, 30, .inl (fun _ => 0))]) ckR_init rfl ?_
  refine ab_newaI 30 (bc2 := 9) (bs2 := 1193) ckR_init rfl (by decide +kernel) (by decide) rfl (by decide) ⟨Nat.le_refl _, Nat.le_refl _⟩ ?_
  refine ab_go 0 [] (pc' := 33) (lo' := [some (.ref 23), some (.int x), none]) (st' := [.ref 27, .ref 23]) (h' := [pf 0, pf 1, pf 2, pf 3, pf 4, pf 5, pf 6, pf 7, pf 8, pf 9, pf 10, pf 11, pf 12, pf 13, pf 14, .inr (7, [.ref 24, .ref 25, .ref 26, .null, .null, .null, .null, .null, .null, .null, .int 0, .int 0, .null, .null, .int 0, .int 0, .null, .int 0, .int 0, .int 0, .int 0, .int 0, .int 0, .int 0, .int 0, .int 0, .int 0, .int 0, .int 0, .int 0, .long 0]), .inl (0, 30, .inl (fun _ => 0)), .inl (0, 30, .inl (fun _ => 0)), .inl (0, 30, .inl (fun _ => 0)), .inl (0, 30, .inl (fun _ => 0))]) ckR_init rfl ?_
  refine ab_go 3 [] (pc' := 39) (lo' := [some (.ref 23), some (.int x), none]) (st' := [.int 30, .ref 23]) (h' := [pf 0, pf 1, pf 2, pf 3, pf 4, pf 5, pf 6, pf 7, pf 8, pf 9, pf 10, pf 11, pf 12, pf 13, pf 14, .inr (7, [.ref 24, .ref 25, .ref 26, .ref 27, .null, .null, .null, .null, .null, .null, .int 0, .int 0, .null, .null, .int 0, .int 0, .null, .int 0, .int 0, .int 0, .int 0, .int 0, .int 0, .int 0, .int 0, .int 0, .int 0, .int 0, .int 0, .int 0, .long 0]), .inl (0, 30, .inl (fun _ => 0)), .inl (0, 30, .inl (fun _ => 0)), .inl (0, 30, .inl (fun _ => 0)), .inl (0, 30, .inl (fun _ => 0))]) ckR_init rfl ?_
  refine ab_newaI 30 (bc2 := 8) (bs2 := 1163) ckR_init rfl (by decide +kernel) (by decide) rfl (by decide) ⟨Nat.le_refl _, Nat.le_refl _⟩ ?_
  refine ab_go 0 [] (pc' := 41) (lo' := [some (.ref 23), some (.int x), none]) (st' := [.ref 28, .ref 23]) (h' := [pf 0, pf 1, pf 2, pf 3, pf 4, pf 5, pf 6, pf 7, pf 8, pf 9, pf 10, pf 11, pf 12, pf 13, pf 14, .inr (7, [.ref 24, .ref 25, .ref 26, .ref 27, .null, .null, .null, .null, .null, .null, .int 0, .int 0, .null, .null, .int 0, .int 0, .null, .int 0, .int 0, .int 0, .int 0, .int 0, .int 0, .int 0, .int 0, .int 0, .int 0, .int 0, .int 0, .int 0, .long 0]), .inl (0, 30, .inl (fun _ => 0)), .inl (0, 30, .inl (fun _ => 0)), .inl (0, 30, .inl (fun _ => 0)), .inl (0, 30, .inl (fun _ => 0)), .inl (0, 30, .inl (fun _ => 0))]) ckR_init rfl ?_
  refine ab_go 3 [] (pc' := 47) (lo' := [some (.ref 23), some (.int x), none]) (st' := [.int 30, .ref 23]) (h' := [pf 0, pf 1, pf 2, pf 3, pf 4, pf 5, pf 6, pf 7, pf 8, pf 9, pf 10, pf 11, pf 12, pf 13, pf 14, .inr (7, [.ref 24, .ref 25, .ref 26, .ref 27, .ref 28, .null, .null, .null, .null, .null, .int 0, .int 0, .null, .null, .int 0, .int 0, .null, .int 0, .int 0, .int 0, .int 0, .int 0, .int 0, .int 0, .int 0, .int 0, .int 0, .int 0, .int 0, .int 0, .long 0]), .inl (0, 30, .inl (fun _ => 0)), .inl (0, 30, .inl (fun _ => 0)), .inl (0, 30, .inl (fun _ => 0)), .inl (0, 30, .inl (fun _ => 0)), .inl (0, 30, .inl (fun _ => 0))]) ckR_init rfl ?_
  refine ab_newaI 30 (bc2 := 7) (bs2 := 1133) ckR_init rfl (by decide +kernel) (by decide) rfl (by decide) ⟨Nat.le_refl _, Nat.le_refl _⟩ ?_
  refine ab_go 0 [] (pc' := 49) (lo' := [some (.ref 23), some (.int x), none]) (st' := [.ref 29, .ref 23]) (h' := [pf 0, pf 1, pf 2, pf 3, pf 4, pf 5, pf 6, pf 7, pf 8, pf 9, pf 10, pf 11, pf 12, pf 13, pf 14, .inr (7, [.ref 24, .ref 25, .ref 26, .ref 27, .ref 28, .null, .null, .null, .null, .null, .int 0, .int 0, .null, .null, .int 0, .int 0, .null, .int 0, .int 0, .int 0, .int 0, .int 0, .int 0, .int 0, .int 0, .int 0, .int 0, .int 0, .int 0, .int 0, .long 0]), .inl (0, 30, .inl (fun _ => 0)), .inl (0, 30, .inl (fun _ => 0)), .inl (0, 30, .inl (fun _ => 0)), .inl (0, 30, .inl (fun _ => 0)), .inl (0, 30, .inl (fun _ => 0)), .inl (0, 30, .inl (fun _ => 0))]) ckR_init rfl ?_
  refine ab_go 3 [] (pc' := 55) (lo' := [some (.ref 23), some (.int x), none]) (st' := [.int 30, .ref 23]) (h' := [pf 0, pf 1, pf 2, pf 3, pf 4, pf 5, pf 6, pf 7, pf 8, pf 9, pf 10, pf 11, pf 12, pf 13, pf 14, .inr (7, [.ref 24, .ref 25, .ref 26, .ref 27, .ref 28, .ref 29, .null, .null, .null, .null, .int 0, .int 0, .null, .null, .int 0, .int 0, .null, .int 0, .int 0, .int 0, .int 0, .int 0, .int 0, .int 0, .int 0, .int 0, .int 0, .int 0, .int 0, .int 0, .long 0]), .inl (0, 30, .inl (fun _ => 0)), .inl (0, 30, .inl (fun _ => 0)), .inl (0, 30, .inl (fun _ => 0)), .inl (0, 30, .inl (fun _ => 0)), .inl (0, 30, .inl (fun _ => 0)), .inl (0, 30, .inl (fun _ => 0))]) ckR_init rfl ?_
  refine ab_newaI 30 (bc2 := 6) (bs2 := 1103) ckR_init rfl (by decide +kernel) (by decide) rfl (by decide) ⟨Nat.le_refl _, Nat.le_refl _⟩ ?_
  refine ab_go 0 [] (pc' := 57) (lo' := [some (.ref 23), some (.int x), none]) (st' := [.ref 30, .ref 23]) (h' := [pf 0, pf 1, pf 2, pf 3, pf 4, pf 5, pf 6, pf 7, pf 8, pf 9, pf 10, pf 11, pf 12, pf 13, pf 14, .inr (7, [.ref 24, .ref 25, .ref 26, .ref 27, .ref 28, .ref 29, .null, .null, .null, .null, .int 0, .int 0, .null, .null, .int 0, .int 0, .null, .int 0, .int 0, .int 0, .int 0, .int 0, .int 0, .int 0, .int 0, .int 0, .int 0, .int 0, .int 0, .int 0, .long 0]), .inl (0, 30, .inl (fun _ => 0)), .inl (0, 30, .inl (fun _ => 0)), .inl (0, 30, .inl (fun _ => 0)), .inl (0, 30, .inl (fun _ => 0)), .inl (0, 30, .inl (fun _ => 0)), .inl (0, 30, .inl (fun _ => 0)), .inl (0, 30, .inl (fun _ => 0))]) ckR_init rfl ?_
  refine ab_go 3 [] (pc' := 63) (lo' := [some (.ref 23), some (.int x), none]) (st' := [.int 12, .ref 23]) (h' := [pf 0, pf 1, pf 2, pf 3, pf 4, pf 5, pf 6, pf 7, pf 8, pf 9, pf 10, pf 11, pf 12, pf 13, pf 14, .inr (7, [.ref 24, .ref 25, .ref 26, .ref 27, .ref 28, .ref 29, .ref 30, .null, .null, .null, .int 0, .int 0, .null, .null, .int 0, .int 0, .null, .int 0, .int 0, .int 0, .int 0, .int 0, .int 0, .int 0, .int 0, .int 0, .int 0, .int 0, .int 0, .int 0, .long 0]), .inl (0, 30, .inl (fun _ => 0)), .inl (0, 30, .inl (fun _ => 0)), .inl (0, 30, .inl (fun _ => 0)), .inl (0, 30, .inl (fun _ => 0)), .inl (0, 30, .inl (fun _ => 0)), .inl (0, 30, .inl (fun _ => 0)), .inl (0, 30, .inl (fun _ => 0))]) ckR_init rfl ?_
  refine ab_newaI 12 (bc2 := 5) (bs2 := 1091) ckR_init rfl (by decide +kernel) (by decide) rfl (by decide) ⟨Nat.le_refl _, Nat.le_refl _⟩ ?_
  refine ab_go 0 [] (pc' := 65) (lo' := [some (.ref 23), some (.int x), none]) (st' := [.ref 31, .ref 23]) (h' := [pf 0, pf 1, pf 2, pf 3, pf 4, pf 5, pf 6, pf 7, pf 8, pf 9, pf 10, pf 11, pf 12, pf 13, pf 14, .inr (7, [.ref 24, .ref 25, .ref 26, .ref 27, .ref 28, .ref 29, .ref 30, .null, .null, .null, .int 0, .int 0, .null, .null, .int 0, .int 0, .null, .int 0, .int 0, .int 0, .int 0, .int 0, .int 0, .int 0, .int 0, .int 0, .int 0, .int 0, .int 0, .int 0, .long 0]), .inl (0, 30, .inl (fun _ => 0)), .inl (0, 30, .inl (fun _ => 0)), .inl (0, 30, .inl (fun _ => 0)), .inl (0, 30, .inl (fun _ => 0)), .inl (0, 30, .inl (fun _ => 0)), .inl (0, 30, .inl (fun _ => 0)), .inl (0, 30, .inl (fun _ => 0)), .inl (0, 12, .inl (fun _ => 0))]) ckR_init rfl ?_
  refine ab_go 3 [] (pc' := 71) (lo' := [some (.ref 23), some (.int x), none]) (st' := [.int 12, .ref 23]) (h' := [pf 0, pf 1, pf 2, pf 3, pf 4, pf 5, pf 6, pf 7, pf 8, pf 9, pf 10, pf 11, pf 12, pf 13, pf 14, .inr (7, [.ref 24, .ref 25, .ref 26, .ref 27, .ref 28, .ref 29, .ref 30, .ref 31, .null, .null, .int 0, .int 0, .null, .null, .int 0, .int 0, .null, .int 0, .int 0, .int 0, .int 0, .int 0, .int 0, .int 0, .int 0, .int 0, .int 0, .int 0, .int 0, .int 0, .long 0]), .inl (0, 30, .inl (fun _ => 0)), .inl (0, 30, .inl (fun _ => 0)), .inl (0, 30, .inl (fun _ => 0)), .inl (0, 30, .inl (fun _ => 0)), .inl (0, 30, .inl (fun _ => 0)), .inl (0, 30, .inl (fun _ => 0)), .inl (0, 30, .inl (fun _ => 0)), .inl (0, 12, .inl (fun _ => 0))]) ckR_init rfl ?_
  refine ab_newaI 12 (bc2 := 4) (bs2 := 1079) ckR_init rfl (by decide +kernel) (by decide) rfl (by decide) ⟨Nat.le_refl _, Nat.le_refl _⟩ ?_
  refine ab_go 0 [] (pc' := 73) (lo' := [some (.ref 23), some (.int x), none]) (st' := [.ref 32, .ref 23]) (h' := [pf 0, pf 1, pf 2, pf 3, pf 4, pf 5, pf 6, pf 7, pf 8, pf 9, pf 10, pf 11, pf 12, pf 13, pf 14, .inr (7, [.ref 24, .ref 25, .ref 26, .ref 27, .ref 28, .ref 29, .ref 30, .ref 31, .null, .null, .int 0, .int 0, .null, .null, .int 0, .int 0, .null, .int 0, .int 0, .int 0, .int 0, .int 0, .int 0, .int 0, .int 0, .int 0, .int 0, .int 0, .int 0, .int 0, .long 0]), .inl (0, 30, .inl (fun _ => 0)), .inl (0, 30, .inl (fun _ => 0)), .inl (0, 30, .inl (fun _ => 0)), .inl (0, 30, .inl (fun _ => 0)), .inl (0, 30, .inl (fun _ => 0)), .inl (0, 30, .inl (fun _ => 0)), .inl (0, 30, .inl (fun _ => 0)), .inl (0, 12, .inl (fun _ => 0)), .inl (0, 12, .inl (fun _ => 0))]) ckR_init rfl ?_
  refine ab_go 3 [] (pc' := 79) (lo' := [some (.ref 23), some (.int x), none]) (st' := [.int 12, .ref 23]) (h' := [pf 0, pf 1, pf 2, pf 3, pf 4, pf 5, pf 6, pf 7, pf 8, pf 9, pf 10, pf 11, pf 12, pf 13, pf 14, .inr (7, [.ref 24, .ref 25, .ref 26, .ref 27, .ref 28, .ref 29, .ref 30, .ref 31, .ref 32, .null, .int 0, .int 0, .null, .null, .int 0, .int 0, .null, .int 0, .int 0, .int 0, .int 0, .int 0, .int 0, .int 0, .int 0, .int 0, .int 0, .int 0, .int 0, .int 0, .long 0]), .inl (0, 30, .inl (fun _ => 0)), .inl (0, 30, .inl (fun _ => 0)), .inl (0, 30, .inl (fun _ => 0)), .inl (0, 30, .inl (fun _ => 0)), .inl (0, 30, .inl (fun _ => 0)), .inl (0, 30, .inl (fun _ => 0)), .inl (0, 30, .inl (fun _ => 0)), .inl (0, 12, .inl (fun _ => 0)), .inl (0, 12, .inl (fun _ => 0))]) ckR_init rfl ?_
  refine ab_newaL 12 (bc2 := 3) (bs2 := 1067) ckR_init rfl (by decide +kernel) (by decide) rfl (by decide) ⟨Nat.le_refl _, Nat.le_refl _⟩ ?_
  refine ab_go 0 [] (pc' := 81) (lo' := [some (.ref 23), some (.int x), none]) (st' := [.ref 33, .ref 23]) (h' := [pf 0, pf 1, pf 2, pf 3, pf 4, pf 5, pf 6, pf 7, pf 8, pf 9, pf 10, pf 11, pf 12, pf 13, pf 14, .inr (7, [.ref 24, .ref 25, .ref 26, .ref 27, .ref 28, .ref 29, .ref 30, .ref 31, .ref 32, .null, .int 0, .int 0, .null, .null, .int 0, .int 0, .null, .int 0, .int 0, .int 0, .int 0, .int 0, .int 0, .int 0, .int 0, .int 0, .int 0, .int 0, .int 0, .int 0, .long 0]), .inl (0, 30, .inl (fun _ => 0)), .inl (0, 30, .inl (fun _ => 0)), .inl (0, 30, .inl (fun _ => 0)), .inl (0, 30, .inl (fun _ => 0)), .inl (0, 30, .inl (fun _ => 0)), .inl (0, 30, .inl (fun _ => 0)), .inl (0, 30, .inl (fun _ => 0)), .inl (0, 12, .inl (fun _ => 0)), .inl (0, 12, .inl (fun _ => 0)), .inl (1, 12, .inr (.inl (fun _ => 0)))]) ckR_init rfl ?_
  refine ab_go 3 [] (pc' := 87) (lo' := [some (.ref 23), some (.int x), none]) (st' := [.int 44, .ref 23]) (h' := [pf 0, pf 1, pf 2, pf 3, pf 4, pf 5, pf 6, pf 7, pf 8, pf 9, pf 10, pf 11, pf 12, pf 13, pf 14, .inr (7, [.ref 24, .ref 25, .ref 26, .ref 27, .ref 28, .ref 29, .ref 30, .ref 31, .ref 32, .ref 33, .int 0, .int 0, .null, .null, .int 0, .int 0, .null, .int 0, .int 0, .int 0, .int 0, .int 0, .int 0, .int 0, .int 0, .int 0, .int 0, .int 0, .int 0, .int 0, .long 0]), .inl (0, 30, .inl (fun _ => 0)), .inl (0, 30, .inl (fun _ => 0)), .inl (0, 30, .inl (fun _ => 0)), .inl (0, 30, .inl (fun _ => 0)), .inl (0, 30, .inl (fun _ => 0)), .inl (0, 30, .inl (fun _ => 0)), .inl (0, 30, .inl (fun _ => 0)), .inl (0, 12, .inl (fun _ => 0)), .inl (0, 12, .inl (fun _ => 0)), .inl (1, 12, .inr (.inl (fun _ => 0)))]) ckR_init rfl ?_
  refine ab_newaI 44 (bc2 := 2) (bs2 := 1023) ckR_init rfl (by decide +kernel) (by decide) rfl (by decide) ⟨Nat.le_refl _, Nat.le_refl _⟩ ?_
  refine ab_go 0 [] (pc' := 89) (lo' := [some (.ref 23), some (.int x), none]) (st' := [.ref 34, .ref 23]) (h' := [pf 0, pf 1, pf 2, pf 3, pf 4, pf 5, pf 6, pf 7, pf 8, pf 9, pf 10, pf 11, pf 12, pf 13, pf 14, .inr (7, [.ref 24, .ref 25, .ref 26, .ref 27, .ref 28, .ref 29, .ref 30, .ref 31, .ref 32, .ref 33, .int 0, .int 0, .null, .null, .int 0, .int 0, .null, .int 0, .int 0, .int 0, .int 0, .int 0, .int 0, .int 0, .int 0, .int 0, .int 0, .int 0, .int 0, .int 0, .long 0]), .inl (0, 30, .inl (fun _ => 0)), .inl (0, 30, .inl (fun _ => 0)), .inl (0, 30, .inl (fun _ => 0)), .inl (0, 30, .inl (fun _ => 0)), .inl (0, 30, .inl (fun _ => 0)), .inl (0, 30, .inl (fun _ => 0)), .inl (0, 30, .inl (fun _ => 0)), .inl (0, 12, .inl (fun _ => 0)), .inl (0, 12, .inl (fun _ => 0)), .inl (1, 12, .inr (.inl (fun _ => 0))), .inl (0, 44, .inl (fun _ => 0))]) ckR_init rfl ?_
  refine ab_go 3 [] (pc' := 95) (lo' := [some (.ref 23), some (.int x), none]) (st' := [.int 22, .ref 23]) (h' := [pf 0, pf 1, pf 2, pf 3, pf 4, pf 5, pf 6, pf 7, pf 8, pf 9, pf 10, pf 11, pf 12, pf 13, pf 14, .inr (7, [.ref 24, .ref 25, .ref 26, .ref 27, .ref 28, .ref 29, .ref 30, .ref 31, .ref 32, .ref 33, .int 0, .int 0, .ref 34, .null, .int 0, .int 0, .null, .int 0, .int 0, .int 0, .int 0, .int 0, .int 0, .int 0, .int 0, .int 0, .int 0, .int 0, .int 0, .int 0, .long 0]), .inl (0, 30, .inl (fun _ => 0)), .inl (0, 30, .inl (fun _ => 0)), .inl (0, 30, .inl (fun _ => 0)), .inl (0, 30, .inl (fun _ => 0)), .inl (0, 30, .inl (fun _ => 0)), .inl (0, 30, .inl (fun _ => 0)), .inl (0, 30, .inl (fun _ => 0)), .inl (0, 12, .inl (fun _ => 0)), .inl (0, 12, .inl (fun _ => 0)), .inl (1, 12, .inr (.inl (fun _ => 0))), .inl (0, 44, .inl (fun _ => 0))]) ckR_init rfl ?_
  refine ab_newaI 22 (bc2 := 1) (bs2 := 1001) ckR_init rfl (by decide +kernel) (by decide) rfl (by decide) ⟨Nat.le_refl _, Nat.le_refl _⟩ ?_
  refine ab_go 0 [] (pc' := 97) (lo' := [some (.ref 23), some (.int x), none]) (st' := [.ref 35, .ref 23]) (h' := [pf 0, pf 1, pf 2, pf 3, pf 4, pf 5, pf 6, pf 7, pf 8, pf 9, pf 10, pf 11, pf 12, pf 13, pf 14, .inr (7, [.ref 24, .ref 25, .ref 26, .ref 27, .ref 28, .ref 29, .ref 30, .ref 31, .ref 32, .ref 33, .int 0, .int 0, .ref 34, .null, .int 0, .int 0, .null, .int 0, .int 0, .int 0, .int 0, .int 0, .int 0, .int 0, .int 0, .int 0, .int 0, .int 0, .int 0, .int 0, .long 0]), .inl (0, 30, .inl (fun _ => 0)), .inl (0, 30, .inl (fun _ => 0)), .inl (0, 30, .inl (fun _ => 0)), .inl (0, 30, .inl (fun _ => 0)), .inl (0, 30, .inl (fun _ => 0)), .inl (0, 30, .inl (fun _ => 0)), .inl (0, 30, .inl (fun _ => 0)), .inl (0, 12, .inl (fun _ => 0)), .inl (0, 12, .inl (fun _ => 0)), .inl (1, 12, .inr (.inl (fun _ => 0))), .inl (0, 44, .inl (fun _ => 0)), .inl (0, 22, .inl (fun _ => 0))]) ckR_init rfl ?_
  refine ab_go 3 [] (pc' := 104) (lo' := [some (.ref 23), some (.int x), none]) (st' := [.int 1001, .ref 23]) (h' := [pf 0, pf 1, pf 2, pf 3, pf 4, pf 5, pf 6, pf 7, pf 8, pf 9, pf 10, pf 11, pf 12, pf 13, pf 14, .inr (7, [.ref 24, .ref 25, .ref 26, .ref 27, .ref 28, .ref 29, .ref 30, .ref 31, .ref 32, .ref 33, .int 0, .int 0, .ref 34, .ref 35, .int 0, .int 0, .null, .int 0, .int 0, .int 0, .int 0, .int 0, .int 0, .int 0, .int 0, .int 0, .int 0, .int 0, .int 0, .int 0, .long 0]), .inl (0, 30, .inl (fun _ => 0)), .inl (0, 30, .inl (fun _ => 0)), .inl (0, 30, .inl (fun _ => 0)), .inl (0, 30, .inl (fun _ => 0)), .inl (0, 30, .inl (fun _ => 0)), .inl (0, 30, .inl (fun _ => 0)), .inl (0, 30, .inl (fun _ => 0)), .inl (0, 12, .inl (fun _ => 0)), .inl (0, 12, .inl (fun _ => 0)), .inl (1, 12, .inr (.inl (fun _ => 0))), .inl (0, 44, .inl (fun _ => 0)), .inl (0, 22, .inl (fun _ => 0))]) ckR_init rfl ?_
  refine ab_newaI 1001 (bc2 := 0) (bs2 := 0) ckR_init rfl (by decide +kernel) (by decide) rfl (by decide) ⟨Nat.le_refl _, Nat.le_refl _⟩ ?_
  refine ab_go 0 [] (pc' := 106) (lo' := [some (.ref 23), some (.int x), none]) (st' := [.ref 36, .ref 23]) (h' := [pf 0, pf 1, pf 2, pf 3, pf 4, pf 5, pf 6, pf 7, pf 8, pf 9, pf 10, pf 11, pf 12, pf 13, pf 14, .inr (7, [.ref 24, .ref 25, .ref 26, .ref 27, .ref 28, .ref 29, .ref 30, .ref 31, .ref 32, .ref 33, .int 0, .int 0, .ref 34, .ref 35, .int 0, .int 0, .null, .int 0, .int 0, .int 0, .int 0, .int 0, .int 0, .int 0, .int 0, .int 0, .int 0, .int 0, .int 0, .int 0, .long 0]), .inl (0, 30, .inl (fun _ => 0)), .inl (0, 30, .inl (fun _ => 0)), .inl (0, 30, .inl (fun _ => 0)), .inl (0, 30, .inl (fun _ => 0)), .inl (0, 30, .inl (fun _ => 0)), .inl (0, 30, .inl (fun _ => 0)), .inl (0, 30, .inl (fun _ => 0)), .inl (0, 12, .inl (fun _ => 0)), .inl (0, 12, .inl (fun _ => 0)), .inl (1, 12, .inr (.inl (fun _ => 0))), .inl (0, 44, .inl (fun _ => 0)), .inl (0, 22, .inl (fun _ => 0)), .inl (0, 1001, .inl (fun _ => 0))]) ckR_init rfl ?_
  refine ab_go 4 [] (pc' := 112) (lo' := [some (.ref 23), some (.int x), none]) (st' := [.int 1, .int x, .ref 23]) (h' := [pf 0, pf 1, pf 2, pf 3, pf 4, pf 5, pf 6, pf 7, pf 8, pf 9, pf 10, pf 11, pf 12, pf 13, pf 14, .inr (7, [.ref 24, .ref 25, .ref 26, .ref 27, .ref 28, .ref 29, .ref 30, .ref 31, .ref 32, .ref 33, .int 0, .int 0, .ref 34, .ref 35, .int 0, .int 0, .ref 36, .int 0, .int 0, .int 0, .int 0, .int 0, .int 0, .int 0, .int 0, .int 0, .int 0, .int 0, .int 0, .int 0, .long 0]), .inl (0, 30, .inl (fun _ => 0)), .inl (0, 30, .inl (fun _ => 0)), .inl (0, 30, .inl (fun _ => 0)), .inl (0, 30, .inl (fun _ => 0)), .inl (0, 30, .inl (fun _ => 0)), .inl (0, 30, .inl (fun _ => 0)), .inl (0, 30, .inl (fun _ => 0)), .inl (0, 12, .inl (fun _ => 0)), .inl (0, 12, .inl (fun _ => 0)), .inl (1, 12, .inr (.inl (fun _ => 0))), .inl (0, 44, .inl (fun _ => 0)), .inl (0, 22, .inl (fun _ => 0)), .inl (0, 1001, .inl (fun _ => 0))]) ckR_init rfl ?_
  refine ab_icmp_lt ckR_init rfl (fun (h1 : x < 1) => ?_) (fun (h1 : ¬ x < 1) => ?_)
  · refine ab_go 1 [] (pc' := 126) (lo' := [some (.ref 23), some (.int x), none]) (st' := [.int 1, .ref 23]) (h' := [pf 0, pf 1, pf 2, pf 3, pf 4, pf 5, pf 6, pf 7, pf 8, pf 9, pf 10, pf 11, pf 12, pf 13, pf 14, .inr (7, [.ref 24, .ref 25, .ref 26, .ref 27, .ref 28, .ref 29, .ref 30, .ref 31, .ref 32, .ref 33, .int 0, .int 0, .ref 34, .ref 35, .int 0, .int 0, .ref 36, .int 0, .int 0, .int 0, .int 0, .int 0, .int 0, .int 0, .int 0, .int 0, .int 0, .int 0, .int 0, .int 0, .long 0]), .inl (0, 30, .inl (fun _ => 0)), .inl (0, 30, .inl (fun _ => 0)), .inl (0, 30, .inl (fun _ => 0)), .inl (0, 30, .inl (fun _ => 0)), .inl (0, 30, .inl (fun _ => 0)), .inl (0, 30, .inl (fun _ => 0)), .inl (0, 30, .inl (fun _ => 0)), .inl (0, 12, .inl (fun _ => 0)), .inl (0, 12, .inl (fun _ => 0)), .inl (1, 12, .inr (.inl (fun _ => 0))), .inl (0, 44, .inl (fun _ => 0)), .inl (0, 22, .inl (fun _ => 0)), .inl (0, 1001, .inl (fun _ => 0))]) ckR_init rfl ?_
    exact tR_init_126 (by rw [← hv]; simp only [cs_node, if_pos h1])
  · refine ab_go 2 [] (pc' := 118) (lo' := [some (.ref 23), some (.int x), none]) (st' := [.int 127, .int x, .ref 23]) (h' := [pf 0, pf 1, pf 2, pf 3, pf 4, pf 5, pf 6, pf 7, pf 8, pf 9, pf 10, pf 11, pf 12, pf 13, pf 14, .inr (7, [.ref 24, .ref 25, .ref 26, .ref 27, .ref 28, .ref 29, .ref 30, .ref 31, .ref 32, .ref 33, .int 0, .int 0, .ref 34, .ref 35, .int 0, .int 0, .ref 36, .int 0, .int 0, .int 0, .int 0, .int 0, .int 0, .int 0, .int 0, .int 0, .int 0, .int 0, .int 0, .int 0, .long 0]), .inl (0, 30, .inl (fun _ => 0)), .inl (0, 30, .inl (fun _ => 0)), .inl (0, 30, .inl (fun _ => 0)), .inl (0, 30, .inl (fun _ => 0)), .inl (0, 30, .inl (fun _ => 0)), .inl (0, 30, .inl (fun _ => 0)), .inl (0, 30, .inl (fun _ => 0)), .inl (0, 12, .inl (fun _ => 0)), .inl (0, 12, .inl (fun _ => 0)), .inl (1, 12, .inr (.inl (fun _ => 0))), .inl (0, 44, .inl (fun _ => 0)), .inl (0, 22, .inl (fun _ => 0)), .inl (0, 1001, .inl (fun _ => 0))]) ckR_init rfl ?_
    refine ab_icmp_gt ckR_init rfl (fun (h2 : 127 < x) => ?_) (fun (h2 : ¬ 127 < x) => ?_)
    · refine ab_go 1 [] (pc' := 126) (lo' := [some (.ref 23), some (.int x), none]) (st' := [.int 1, .ref 23]) (h' := [pf 0, pf 1, pf 2, pf 3, pf 4, pf 5, pf 6, pf 7, pf 8, pf 9, pf 10, pf 11, pf 12, pf 13, pf 14, .inr (7, [.ref 24, .ref 25, .ref 26, .ref 27, .ref 28, .ref 29, .ref 30, .ref 31, .ref 32, .ref 33, .int 0, .int 0, .ref 34, .ref 35, .int 0, .int 0, .ref 36, .int 0, .int 0, .int 0, .int 0, .int 0, .int 0, .int 0, .int 0, .int 0, .int 0, .int 0, .int 0, .int 0, .long 0]), .inl (0, 30, .inl (fun _ => 0)), .inl (0, 30, .inl (fun _ => 0)), .inl (0, 30, .inl (fun _ => 0)), .inl (0, 30, .inl (fun _ => 0)), .inl (0, 30, .inl (fun _ => 0)), .inl (0, 30, .inl (fun _ => 0)), .inl (0, 30, .inl (fun _ => 0)), .inl (0, 12, .inl (fun _ => 0)), .inl (0, 12, .inl (fun _ => 0)), .inl (1, 12, .inr (.inl (fun _ => 0))), .inl (0, 44, .inl (fun _ => 0)), .inl (0, 22, .inl (fun _ => 0)), .inl (0, 1001, .inl (fun _ => 0))]) ckR_init rfl ?_
      exact tR_init_126 (by rw [← hv]; simp only [cs_node, if_neg h1, if_pos h2])
    · refine ab_go 2 [] (pc' := 126) (lo' := [some (.ref 23), some (.int x), none]) (st' := [.int x, .ref 23]) (h' := [pf 0, pf 1, pf 2, pf 3, pf 4, pf 5, pf 6, pf 7, pf 8, pf 9, pf 10, pf 11, pf 12, pf 13, pf 14, .inr (7, [.ref 24, .ref 25, .ref 26, .ref 27, .ref 28, .ref 29, .ref 30, .ref 31, .ref 32, .ref 33, .int 0, .int 0, .ref 34, .ref 35, .int 0, .int 0, .ref 36, .int 0, .int 0, .int 0, .int 0, .int 0, .int 0, .int 0, .int 0, .int 0, .int 0, .int 0, .int 0, .int 0, .long 0]), .inl (0, 30, .inl (fun _ => 0)), .inl (0, 30, .inl (fun _ => 0)), .inl (0, 30, .inl (fun _ => 0)), .inl (0, 30, .inl (fun _ => 0)), .inl (0, 30, .inl (fun _ => 0)), .inl (0, 30, .inl (fun _ => 0)), .inl (0, 30, .inl (fun _ => 0)), .inl (0, 12, .inl (fun _ => 0)), .inl (0, 12, .inl (fun _ => 0)), .inl (1, 12, .inr (.inl (fun _ => 0))), .inl (0, 44, .inl (fun _ => 0)), .inl (0, 22, .inl (fun _ => 0)), .inl (0, 1001, .inl (fun _ => 0))]) ckR_init rfl ?_
      exact tR_init_126 (by rw [← hv]; simp only [cs_node, if_neg h1, if_neg h2])
end CR
