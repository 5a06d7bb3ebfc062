/-! contracts, by program (wip/gen/walk.py, gen_cls.py) -/
section LEAF
variable {X : ab_C} {d : Nat} {c : cs_S} {rest hp : ab_H}
def fV_demanded (c : cs_S)  : Int32 := (c.1 0 10)
theorem tV_demanded : ab_M X mV_demanded (d) 0 0 [.ref 20] (cs_H c rest) (fun r9 h9 => r9 = some (Value.int (fV_demanded c)) ∧ h9 = cs_H c rest) := by
  refine ab_entry (by decide) (Nat.le_of_ble_eq_true rfl) ?_
  refine ab_go 2 [] (pc' := 4) (lo' := [some (.ref 20)]) (st' := [.int (c.1 0 10)]) (h' := cs_H c rest) ckV_demanded rfl ?_
  have e : fV_demanded c = (c.1 0 10) := by simp only [fV_demanded]
  exact ab_iret ckV_demanded rfl rfl ⟨(congrArg (fun q : Int32 => some (Value.int q)) e).symm, rfl⟩
def fV_rest (c : cs_S) (x1 : Int32) : cs_S := (cs_u (cs_u c 1 21 (0 : Int32)) 0 10 x1)
theorem tV_rest {x1 : Int32} : ab_M X mV_rest (d) 0 0 [.ref 20, .int x1] (cs_H c rest) (fun r9 h9 => r9 = none ∧ h9 = cs_H (fV_rest c x1) rest) := by
  refine ab_entry (by decide) (Nat.le_of_ble_eq_true rfl) ?_
  refine ab_go 8 [] (pc' := 13) (lo' := [some (.ref 20), some (.int x1)]) (st' := []) (h' := cs_H (cs_u (cs_u c 1 21 (0 : Int32)) 0 10 x1) rest) ckV_rest rfl ?_
  have e : fV_rest c x1 = (cs_u (cs_u c 1 21 (0 : Int32)) 0 10 x1) := by simp only [fV_rest]
  exact ab_vret ckV_rest rfl rfl ⟨rfl, (congrArg (fun q : cs_S => cs_H q rest) e).symm⟩
def fV_moveWith (c : cs_S) (x1 : Int32) : cs_S := (cs_u (cs_u c 1 21 x1) 0 10 ((c.1 0 10) + x1))
theorem tV_moveWith {x1 : Int32} : ab_M X mV_moveWith (d) 0 0 [.ref 20, .int x1] (cs_H c rest) (fun r9 h9 => r9 = none ∧ h9 = cs_H (fV_moveWith c x1) rest) := by
  refine ab_entry (by decide) (Nat.le_of_ble_eq_true rfl) ?_
  refine ab_go 11 [] (pc' := 18) (lo' := [some (.ref 20), some (.int x1)]) (st' := []) (h' := cs_H (cs_u (cs_u c 1 21 x1) 0 10 ((c.1 0 10) + x1)) rest) ckV_moveWith rfl ?_
  have e : fV_moveWith c x1 = (cs_u (cs_u c 1 21 x1) 0 10 ((c.1 0 10) + x1)) := by simp only [fV_moveWith]
  exact ab_vret ckV_moveWith rfl rfl ⟨rfl, (congrArg (fun q : cs_S => cs_H q rest) e).symm⟩
def fV_slower (x1 : Int32) (x2 : Int32) : Int32 := (if x1 ≤ 0 then (i_min (x1 + x2) (0 : Int32)) else (i_max (x1 - x2) (0 : Int32)))
theorem tV_slower {x1 : Int32} {x2 : Int32} : ab_M X mV_slower (d + 1) 0 0 [.int x1, .int x2] (hp) (fun r9 h9 => r9 = some (Value.int (fV_slower x1 x2)) ∧ h9 = hp) := by
  refine ab_entry (by decide) (Nat.le_of_ble_eq_true rfl) ?_
  refine ab_go 1 [] (pc' := 1) (lo' := [some (.int x1), some (.int x2)]) (st' := [.int x1]) (h' := hp) ckV_slower rfl ?_
  refine ab_if_le ckV_slower rfl (fun (h1 : x1 ≤ 0) => ?_) (fun (h1 : ¬ (x1 ≤ 0)) => ?_)
  · refine ab_go 4 [] (pc' := 18) (lo' := [some (.int x1), some (.int x2)]) (st' := [.int (0 : Int32), .int (x1 + x2)]) (h' := hp) ckV_slower rfl ?_
    refine ab_mmin ckV_slower rfl (by decide +kernel) (by omega) (Nat.le_of_ble_eq_true rfl) ?_
    have e : fV_slower x1 x2 = (i_min (x1 + x2) (0 : Int32)) := by simp only [fV_slower, if_pos h1]
    exact ab_iret ckV_slower rfl rfl ⟨(congrArg (fun q : Int32 => some (Value.int q)) e).symm, rfl⟩
  · refine ab_go 4 [] (pc' := 8) (lo' := [some (.int x1), some (.int x2)]) (st' := [.int (0 : Int32), .int (x1 - x2)]) (h' := hp) ckV_slower rfl ?_
    refine ab_mmax ckV_slower rfl (by decide +kernel) (by omega) (Nat.le_of_ble_eq_true rfl) ?_
    refine ab_go 1 [] (pc' := 21) (lo' := [some (.int x1), some (.int x2)]) (st' := [.int (i_max (x1 - x2) (0 : Int32))]) (h' := hp) ckV_slower rfl ?_
    have e : fV_slower x1 x2 = (i_max (x1 - x2) (0 : Int32)) := by simp only [fV_slower, if_neg h1]
    exact ab_iret ckV_slower rfl rfl ⟨(congrArg (fun q : Int32 => some (Value.int q)) e).symm, rfl⟩
def fV_positionAim (c : cs_S)  : Int32 := (i_max (i_min (c.1 1 22) (c.1 1 24)) (c.1 1 23))
theorem tV_positionAim : ab_M X mV_positionAim (d + 1) 0 0 [.ref 20] (cs_H c rest) (fun r9 h9 => r9 = some (Value.int (fV_positionAim c)) ∧ h9 = cs_H c rest) := by
  refine ab_entry (by decide) (Nat.le_of_ble_eq_true rfl) ?_
  refine ab_go 8 [] (pc' := 14) (lo' := [some (.ref 20), none]) (st' := [.int (c.1 1 24), .int (c.1 1 22)]) (h' := cs_H c rest) ckV_positionAim rfl ?_
  refine ab_mmin ckV_positionAim rfl (by decide +kernel) (by omega) (Nat.le_of_ble_eq_true rfl) ?_
  refine ab_go 6 [] (pc' := 26) (lo' := [some (.ref 20), some (.int (i_min (c.1 1 22) (c.1 1 24)))]) (st' := [.int (c.1 1 23), .int (i_min (c.1 1 22) (c.1 1 24))]) (h' := cs_H c rest) ckV_positionAim rfl ?_
  refine ab_mmax ckV_positionAim rfl (by decide +kernel) (by omega) (Nat.le_of_ble_eq_true rfl) ?_
  have e : fV_positionAim c = (i_max (i_min (c.1 1 22) (c.1 1 24)) (c.1 1 23)) := by simp only [fV_positionAim]
  exact ab_iret ckV_positionAim rfl rfl ⟨(congrArg (fun q : Int32 => some (Value.int q)) e).symm, rfl⟩
def fV_speedAim (c : cs_S)  : Int32 := (if (c.1 1 29) = 0 then (c.1 0 10) else (if (c.1 1 29) ≤ 0 then (i_min (c.1 0 10) (c.1 1 23)) else (i_max (c.1 0 10) (c.1 1 24))))
theorem tV_speedAim : ab_M X mV_speedAim (d + 1) 0 0 [.ref 20] (cs_H c rest) (fun r9 h9 => r9 = some (Value.int (fV_speedAim c)) ∧ h9 = cs_H c rest) := by
  refine ab_entry (by decide) (Nat.le_of_ble_eq_true rfl) ?_
  refine ab_go 6 [] (pc' := 9) (lo' := [some (.ref 20), some (.int (c.1 1 29))]) (st' := [.int (c.1 1 29)]) (h' := cs_H c rest) ckV_speedAim rfl ?_
  refine ab_if_ne ckV_speedAim rfl (fun (h1 : ¬ ((c.1 1 29) = 0)) => ?_) (fun (h1 : (c.1 1 29) = 0) => ?_)
  · refine ab_go 1 [] (pc' := 18) (lo' := [some (.ref 20), some (.int (c.1 1 29))]) (st' := [.int (c.1 1 29)]) (h' := cs_H c rest) ckV_speedAim rfl ?_
    refine ab_if_le ckV_speedAim rfl (fun (h2 : (c.1 1 29) ≤ 0) => ?_) (fun (h2 : ¬ ((c.1 1 29) ≤ 0)) => ?_)
    · refine ab_go 6 [] (pc' := 49) (lo' := [some (.ref 20), some (.int (c.1 1 29))]) (st' := [.int (c.1 1 23), .int (c.1 0 10)]) (h' := cs_H c rest) ckV_speedAim rfl ?_
      refine ab_mmin ckV_speedAim rfl (by decide +kernel) (by omega) (Nat.le_of_ble_eq_true rfl) ?_
      have e : fV_speedAim c = (i_min (c.1 0 10) (c.1 1 23)) := by simp only [fV_speedAim, if_neg h1, if_pos h2]
      exact ab_iret ckV_speedAim rfl rfl ⟨(congrArg (fun q : Int32 => some (Value.int q)) e).symm, rfl⟩
    · refine ab_go 6 [] (pc' := 32) (lo' := [some (.ref 20), some (.int (c.1 1 29))]) (st' := [.int (c.1 1 24), .int (c.1 0 10)]) (h' := cs_H c rest) ckV_speedAim rfl ?_
      refine ab_mmax ckV_speedAim rfl (by decide +kernel) (by omega) (Nat.le_of_ble_eq_true rfl) ?_
      refine ab_go 1 [] (pc' := 52) (lo' := [some (.ref 20), some (.int (c.1 1 29))]) (st' := [.int (i_max (c.1 0 10) (c.1 1 24))]) (h' := cs_H c rest) ckV_speedAim rfl ?_
      have e : fV_speedAim c = (i_max (c.1 0 10) (c.1 1 24)) := by simp only [fV_speedAim, if_neg h1, if_neg h2]
      exact ab_iret ckV_speedAim rfl rfl ⟨(congrArg (fun q : Int32 => some (Value.int q)) e).symm, rfl⟩
  · refine ab_go 2 [] (pc' := 16) (lo' := [some (.ref 20), some (.int (c.1 1 29))]) (st' := [.int (c.1 0 10)]) (h' := cs_H c rest) ckV_speedAim rfl ?_
    have e : fV_speedAim c = (c.1 0 10) := by simp only [fV_speedAim, if_pos h1]
    exact ab_iret ckV_speedAim rfl rfl ⟨(congrArg (fun q : Int32 => some (Value.int q)) e).symm, rfl⟩
def fV_stoppingWay (x1 : Int32) (x2 : Int32) : Option (Int32) := (if x2 = 0 then none else (some (((((x1 + x2) - (1 : Int32)) / x2) * x1) - (x2 * (((((x1 + x2) - (1 : Int32)) / x2) * ((((x1 + x2) - (1 : Int32)) / x2) - (1 : Int32))) / (2 : Int32))))))
theorem tV_stoppingWay {x1 : Int32} {x2 : Int32} {v : Int32} (hv : fV_stoppingWay x1 x2 = some v) : ab_M X mV_stoppingWay (d) 0 0 [.int x1, .int x2] (hp) (fun r9 h9 => r9 = some (Value.int v) ∧ h9 = hp) := by
  refine ab_entry (by decide) (Nat.le_of_ble_eq_true rfl) ?_
  refine ab_go 6 [] (pc' := 6) (lo' := [some (.int x1), some (.int x2), none]) (st' := [.int x2, .int ((x1 + x2) - (1 : Int32))]) (h' := hp) ckV_stoppingWay rfl ?_
  by_cases h1 : x2 = 0
  case pos => exact ab_no hv (by simp only [fV_stoppingWay, if_pos h1])
  refine ab_idiv ckV_stoppingWay rfl h1 ?_
  refine ab_go 12 [] (pc' := 19) (lo' := [some (.int x1), some (.int x2), some (.int (((x1 + x2) - (1 : Int32)) / x2))]) (st' := [.int (((((x1 + x2) - (1 : Int32)) / x2) * ((((x1 + x2) - (1 : Int32)) / x2) - (1 : Int32))) / (2 : Int32)), .int x2, .int ((((x1 + x2) - (1 : Int32)) / x2) * x1)]) (h' := hp) ckV_stoppingWay rfl ?_
  refine ab_go 2 [] (pc' := 21) (lo' := [some (.int x1), some (.int x2), some (.int (((x1 + x2) - (1 : Int32)) / x2))]) (st' := [.int (((((x1 + x2) - (1 : Int32)) / x2) * x1) - (x2 * (((((x1 + x2) - (1 : Int32)) / x2) * ((((x1 + x2) - (1 : Int32)) / x2) - (1 : Int32))) / (2 : Int32))))]) (h' := hp) ckV_stoppingWay rfl ?_
  have e : fV_stoppingWay x1 x2 = some (((((x1 + x2) - (1 : Int32)) / x2) * x1) - (x2 * (((((x1 + x2) - (1 : Int32)) / x2) * ((((x1 + x2) - (1 : Int32)) / x2) - (1 : Int32))) / (2 : Int32)))) := by simp only [fV_stoppingWay, if_neg h1]
  obtain rfl := Option.some.inj (e.symm.trans hv)
  exact ab_iret ckV_stoppingWay rfl rfl ⟨rfl, rfl⟩
def fV_fastestThatStops_30 : Nat → cs_S → Int32 → Int32 → Int32 → Int32 → Int32 → Option (Int32)
  | 0, _, _, _, _, _, _ => none
  | n + 1, c, y1, y2, y3, y4, y5 => (if y5 ≤ 0 then (some y4) else (if y1 < (y4 + y5) then fV_fastestThatStops_30 n c y1 y2 y3 y4 (y5 / (2 : Int32)) else (ab_bd (fV_stoppingWay (y4 + y5) y3) (fun p1 => (if y2 < p1 then fV_fastestThatStops_30 n c y1 y2 y3 y4 (y5 / (2 : Int32)) else fV_fastestThatStops_30 n c y1 y2 y3 (y4 + y5) (y5 / (2 : Int32)))))))
def fV_fastestThatStops (c : cs_S) (x1 : Int32) (x2 : Int32) : Option (Int32) := fV_fastestThatStops_30 40 c x1 x2 (i_max (1 : Int32) (i_min (c.1 1 27) (c.1 1 28))) (0 : Int32) (512 : Int32)
theorem tV_fastestThatStops_30 (n : Nat)   : ∀ (c : cs_S) (y1 : Int32) (y2 : Int32) (y3 : Int32) (y4 : Int32) (y5 : Int32)  (v : Int32) (hv : fV_fastestThatStops_30 n c y1 y2 y3 y4 y5 = some v), ab_W X mV_fastestThatStops (d + 1) 0 0 30 [none, some (.int y1), some (.int y2), some (.int y3), some (.int y4), some (.int y5), none] [] (cs_H c rest) (fun r9 h9 => r9 = some (Value.int v) ∧ h9 = cs_H c rest) := by
  induction n with
  | zero =>
    intro c y1 y2 y3 y4 y5 v hv
    cases hv
  | succ n ih =>
    intro c y1 y2 y3 y4 y5 v hv
    refine ab_go 1 [30] (pc' := 32) (lo' := [none, some (.int y1), some (.int y2), some (.int y3), some (.int y4), some (.int y5), none]) (st' := [.int y5]) (h' := cs_H c rest) ckV_fastestThatStops rfl ?_
    refine ab_if_le ckV_fastestThatStops rfl (fun (h1 : y5 ≤ 0) => ?_) (fun (h1 : ¬ (y5 ≤ 0)) => ?_)
    · refine ab_go 1 [30] (pc' := 73) (lo' := [none, some (.int y1), some (.int y2), some (.int y3), some (.int y4), some (.int y5), none]) (st' := [.int y4]) (h' := cs_H c rest) ckV_fastestThatStops rfl ?_
      have e : fV_fastestThatStops_30 (n + 1) c y1 y2 y3 y4 y5 = some y4 := by simp only [fV_fastestThatStops_30, if_pos h1]
      obtain rfl := Option.some.inj (e.symm.trans hv)
      exact ab_iret ckV_fastestThatStops rfl rfl ⟨rfl, rfl⟩
    · refine ab_go 6 [30] (pc' := 45) (lo' := [none, some (.int y1), some (.int y2), some (.int y3), some (.int y4), some (.int y5), some (.int (y4 + y5))]) (st' := [.int y1, .int (y4 + y5)]) (h' := cs_H c rest) ckV_fastestThatStops rfl ?_
      refine ab_icmp_gt ckV_fastestThatStops rfl (fun (h2 : y1 < (y4 + y5)) => ?_) (fun (h2 : ¬ (y1 < (y4 + y5))) => ?_)
      · refine ab_go 5 [30] (pc' := 30) (lo' := [none, some (.int y1), some (.int y2), some (.int y3), some (.int y4), some (.int (y5 / (2 : Int32))), some (.int (y4 + y5))]) (st' := []) (h' := cs_H c rest) ckV_fastestThatStops rfl ?_
        have e : fV_fastestThatStops_30 (n + 1) c y1 y2 y3 y4 y5 = fV_fastestThatStops_30 n c y1 y2 y3 y4 (y5 / (2 : Int32)) := by simp only [fV_fastestThatStops_30, if_neg h1, if_pos h2]
        exact ab_W.weak (ih c y1 y2 y3 y4 (y5 / (2 : Int32)) v (e.symm.trans hv)) ⟨rfl, rfl, rfl, rfl, rfl, trivial⟩
      · refine ab_go 2 [30] (pc' := 51) (lo' := [none, some (.int y1), some (.int y2), some (.int y3), some (.int y4), some (.int y5), some (.int (y4 + y5))]) (st' := [.int y3, .int (y4 + y5)]) (h' := cs_H c rest) ckV_fastestThatStops rfl ?_
        rcases e1 : fV_stoppingWay (y4 + y5) y3 with _ | p1
        · exact ab_no hv (by simp only [fV_fastestThatStops_30, if_neg h1, if_neg h2, e1, ab_bd_n])
        refine ab_callS (bc2 := 0) (bs2 := 0) (as := [_, _]) (rest := []) ckV_fastestThatStops rfl (by decide +kernel) wV_stoppingWay (tV_stoppingWay (d := d) (x1 := (y4 + y5)) (x2 := y3) (v := p1) e1) (by omega) ⟨Nat.le_refl _, Nat.le_refl _⟩ (Nat.le_of_ble_eq_true rfl) ?_
        rintro _ _ ⟨rfl, rfl⟩
        refine ab_go 1 [30] (pc' := 55) (lo' := [none, some (.int y1), some (.int y2), some (.int y3), some (.int y4), some (.int y5), some (.int (y4 + y5))]) (st' := [.int y2, .int p1]) (h' := cs_H c rest) ckV_fastestThatStops rfl ?_
        refine ab_icmp_gt ckV_fastestThatStops rfl (fun (h3 : y2 < p1) => ?_) (fun (h3 : ¬ (y2 < p1)) => ?_)
        · refine ab_go 5 [30] (pc' := 30) (lo' := [none, some (.int y1), some (.int y2), some (.int y3), some (.int y4), some (.int (y5 / (2 : Int32))), some (.int (y4 + y5))]) (st' := []) (h' := cs_H c rest) ckV_fastestThatStops rfl ?_
          have e : fV_fastestThatStops_30 (n + 1) c y1 y2 y3 y4 y5 = fV_fastestThatStops_30 n c y1 y2 y3 y4 (y5 / (2 : Int32)) := by simp only [fV_fastestThatStops_30, if_neg h1, if_neg h2, e1, ab_bd_s, if_pos h3]
          exact ab_W.weak (ih c y1 y2 y3 y4 (y5 / (2 : Int32)) v (e.symm.trans hv)) ⟨rfl, rfl, rfl, rfl, rfl, trivial⟩
        · refine ab_go 7 [30] (pc' := 30) (lo' := [none, some (.int y1), some (.int y2), some (.int y3), some (.int (y4 + y5)), some (.int (y5 / (2 : Int32))), some (.int (y4 + y5))]) (st' := []) (h' := cs_H c rest) ckV_fastestThatStops rfl ?_
          have e : fV_fastestThatStops_30 (n + 1) c y1 y2 y3 y4 y5 = fV_fastestThatStops_30 n c y1 y2 y3 (y4 + y5) (y5 / (2 : Int32)) := by simp only [fV_fastestThatStops_30, if_neg h1, if_neg h2, e1, ab_bd_s, if_neg h3]
          exact ab_W.weak (ih c y1 y2 y3 (y4 + y5) (y5 / (2 : Int32)) v (e.symm.trans hv)) ⟨rfl, rfl, rfl, rfl, rfl, trivial⟩
theorem tV_fastestThatStops {x1 : Int32} {x2 : Int32} {v : Int32} (hv : fV_fastestThatStops c x1 x2 = some v) : ab_M X mV_fastestThatStops (d + 1) 0 0 [.ref 20, .int x1, .int x2] (cs_H c rest) (fun r9 h9 => r9 = some (Value.int v) ∧ h9 = cs_H c rest) := by
  refine ab_entry (by decide) (Nat.le_of_ble_eq_true rfl) ?_
  refine ab_go 9 [30] (pc' := 15) (lo' := [some (.ref 20), some (.int x1), some (.int x2), none, none, none, none]) (st' := [.int (c.1 1 28), .int (c.1 1 27), .int (1 : Int32)]) (h' := cs_H c rest) ckV_fastestThatStops rfl ?_
  refine ab_mmin ckV_fastestThatStops rfl (by decide +kernel) (by omega) (Nat.le_of_ble_eq_true rfl) ?_
  refine ab_mmax ckV_fastestThatStops rfl (by decide +kernel) (by omega) (Nat.le_of_ble_eq_true rfl) ?_
  refine ab_go 5 [30] (pc' := 30) (lo' := [some (.ref 20), some (.int x1), some (.int x2), some (.int (i_max (1 : Int32) (i_min (c.1 1 27) (c.1 1 28)))), some (.int (0 : Int32)), some (.int (512 : Int32)), none]) (st' := []) (h' := cs_H c rest) ckV_fastestThatStops rfl ?_
  have e : fV_fastestThatStops c x1 x2 = fV_fastestThatStops_30 40 c x1 x2 (i_max (1 : Int32) (i_min (c.1 1 27) (c.1 1 28))) (0 : Int32) (512 : Int32) := by simp only [fV_fastestThatStops]
  exact ab_W.weak (tV_fastestThatStops_30 40 c x1 x2 (i_max (1 : Int32) (i_min (c.1 1 27) (c.1 1 28))) (0 : Int32) (512 : Int32) v (e.symm.trans hv)) ⟨rfl, rfl, rfl, rfl, rfl, trivial⟩
def fV_isArrived (c : cs_S)  : Int32 := (if (c.1 1 18) = (1 : Int32) then (if (c.1 1 21) = 0 then (if (c.1 0 10) = (fV_positionAim c) then (1 : Int32) else (0 : Int32)) else (0 : Int32)) else (0 : Int32))
theorem tV_isArrived : ab_M X mV_isArrived (d + 2) 0 0 [.ref 20] (cs_H c rest) (fun r9 h9 => r9 = some (Value.int (fV_isArrived c)) ∧ h9 = cs_H c rest) := by
  refine ab_entry (by decide) (Nat.le_of_ble_eq_true rfl) ?_
  refine ab_go 5 [] (pc' := 8) (lo' := [some (.ref 20)]) (st' := [.int (1 : Int32), .int (c.1 1 18)]) (h' := cs_H c rest) ckV_isArrived rfl ?_
  refine ab_icmp_ne ckV_isArrived rfl (fun (h1 : ¬ ((c.1 1 18) = (1 : Int32))) => ?_) (fun (h1 : (c.1 1 18) = (1 : Int32)) => ?_)
  · refine ab_go 1 [] (pc' := 37) (lo' := [some (.ref 20)]) (st' := [.int (0 : Int32)]) (h' := cs_H c rest) ckV_isArrived rfl ?_
    have e : fV_isArrived c = (0 : Int32) := by simp only [fV_isArrived, if_neg h1]
    exact ab_zret ckV_isArrived rfl rfl (Or.inl rfl) ⟨(congrArg (fun q : Int32 => some (Value.int q)) e).symm, rfl⟩
  · refine ab_go 4 [] (pc' := 18) (lo' := [some (.ref 20)]) (st' := [.int (c.1 1 21)]) (h' := cs_H c rest) ckV_isArrived rfl ?_
    refine ab_if_ne ckV_isArrived rfl (fun (h2 : ¬ ((c.1 1 21) = 0)) => ?_) (fun (h2 : (c.1 1 21) = 0) => ?_)
    · refine ab_go 1 [] (pc' := 37) (lo' := [some (.ref 20)]) (st' := [.int (0 : Int32)]) (h' := cs_H c rest) ckV_isArrived rfl ?_
      have e : fV_isArrived c = (0 : Int32) := by simp only [fV_isArrived, if_pos h1, if_neg h2]
      exact ab_zret ckV_isArrived rfl rfl (Or.inl rfl) ⟨(congrArg (fun q : Int32 => some (Value.int q)) e).symm, rfl⟩
    · refine ab_go 3 [] (pc' := 26) (lo' := [some (.ref 20)]) (st' := [.ref 20, .int (c.1 0 10)]) (h' := cs_H c rest) ckV_isArrived rfl ?_
      refine ab_callV (bc2 := 0) (bs2 := 0) (as := []) (rest := [_]) ckV_isArrived rfl (by decide +kernel) wV_positionAim (tV_positionAim (d := d) (c := c)) rfl rfl (by omega) ⟨Nat.le_refl _, Nat.le_refl _⟩ (Nat.le_of_ble_eq_true rfl) ?_
      rintro _ _ ⟨rfl, rfl⟩
      refine ab_icmp_ne ckV_isArrived rfl (fun (h3 : ¬ ((c.1 0 10) = (fV_positionAim c))) => ?_) (fun (h3 : (c.1 0 10) = (fV_positionAim c)) => ?_)
      · refine ab_go 1 [] (pc' := 37) (lo' := [some (.ref 20)]) (st' := [.int (0 : Int32)]) (h' := cs_H c rest) ckV_isArrived rfl ?_
        have e : fV_isArrived c = (0 : Int32) := by simp only [fV_isArrived, if_pos h1, if_pos h2, if_neg h3]
        exact ab_zret ckV_isArrived rfl rfl (Or.inl rfl) ⟨(congrArg (fun q : Int32 => some (Value.int q)) e).symm, rfl⟩
      · refine ab_go 2 [] (pc' := 37) (lo' := [some (.ref 20)]) (st' := [.int (1 : Int32)]) (h' := cs_H c rest) ckV_isArrived rfl ?_
        have e : fV_isArrived c = (1 : Int32) := by simp only [fV_isArrived, if_pos h1, if_pos h2, if_pos h3]
        exact ab_zret ckV_isArrived rfl rfl (Or.inr rfl) ⟨(congrArg (fun q : Int32 => some (Value.int q)) e).symm, rfl⟩
def fV_brake (c : cs_S)  : cs_S := (let p1 := fV_moveWith c (fV_slower (c.1 1 21) (c.1 1 28)); p1)
theorem tV_brake : ab_M X mV_brake (d + 2) 0 0 [.ref 20] (cs_H c rest) (fun r9 h9 => r9 = none ∧ h9 = cs_H (fV_brake c) rest) := by
  refine ab_entry (by decide) (Nat.le_of_ble_eq_true rfl) ?_
  refine ab_go 9 [] (pc' := 15) (lo' := [some (.ref 20)]) (st' := [.int (c.1 1 28), .int (c.1 1 21), .ref 20]) (h' := cs_H c rest) ckV_brake rfl ?_
  refine ab_callS (bc2 := 0) (bs2 := 0) (as := [_, _]) (rest := [_]) ckV_brake rfl (by decide +kernel) wV_slower (tV_slower (d := d) (x1 := (c.1 1 21)) (x2 := (c.1 1 28))) (by omega) ⟨Nat.le_refl _, Nat.le_refl _⟩ (Nat.le_of_ble_eq_true rfl) ?_
  rintro _ _ ⟨rfl, rfl⟩
  refine ab_callV (bc2 := 0) (bs2 := 0) (as := [_]) (rest := []) ckV_brake rfl (by decide +kernel) wV_moveWith (tV_moveWith (d := d + 1) (x1 := (fV_slower (c.1 1 21) (c.1 1 28))) (c := c)) rfl rfl (by omega) ⟨Nat.le_refl _, Nat.le_refl _⟩ (Nat.le_of_ble_eq_true rfl) ?_
  rintro _ _ ⟨rfl, rfl⟩
  generalize e1 : fV_moveWith c (fV_slower (c.1 1 21) (c.1 1 28)) = p1
  have e : fV_brake c = p1 := by simp only [fV_brake, e1]
  exact ab_vret ckV_brake rfl rfl ⟨rfl, (congrArg (fun q : cs_S => cs_H q rest) e).symm⟩
def fV_approach (c : cs_S) (x1 : Int32) (x2 : Int32) : Option (cs_S) := (if (c.1 1 21) ≤ 0 then (if 0 ≤ (c.1 1 21) then (ab_bd (fV_fastestThatStops c (i_min ((i_abs (c.1 1 21)) + (c.1 1 27)) x2) (i_abs (x1 - (c.1 0 10)))) (fun p1 => (if 0 ≤ (x1 - (c.1 0 10)) then (let p2 := fV_moveWith c (i_max p1 ((i_abs (c.1 1 21)) - (c.1 1 27))); (some p2)) else (let p3 := fV_moveWith c (-(i_max p1 ((i_abs (c.1 1 21)) - (c.1 1 27)))); (some p3))))) else (if (x1 - (c.1 0 10)) < 0 then (ab_bd (fV_fastestThatStops c (i_min ((i_abs (c.1 1 21)) + (c.1 1 27)) x2) (i_abs (x1 - (c.1 0 10)))) (fun p4 => (if 0 ≤ (x1 - (c.1 0 10)) then (let p5 := fV_moveWith c (i_max p4 ((i_abs (c.1 1 21)) - (c.1 1 27))); (some p5)) else (let p6 := fV_moveWith c (-(i_max p4 ((i_abs (c.1 1 21)) - (c.1 1 27)))); (some p6))))) else (let p7 := fV_moveWith c (fV_slower (c.1 1 21) (c.1 1 27)); (some p7)))) else (if (x1 - (c.1 0 10)) ≤ 0 then (let p8 := fV_moveWith c (fV_slower (c.1 1 21) (c.1 1 27)); (some p8)) else (if 0 ≤ (c.1 1 21) then (ab_bd (fV_fastestThatStops c (i_min ((i_abs (c.1 1 21)) + (c.1 1 27)) x2) (i_abs (x1 - (c.1 0 10)))) (fun p9 => (if 0 ≤ (x1 - (c.1 0 10)) then (let p10 := fV_moveWith c (i_max p9 ((i_abs (c.1 1 21)) - (c.1 1 27))); (some p10)) else (let p11 := fV_moveWith c (-(i_max p9 ((i_abs (c.1 1 21)) - (c.1 1 27)))); (some p11))))) else (if (x1 - (c.1 0 10)) < 0 then (ab_bd (fV_fastestThatStops c (i_min ((i_abs (c.1 1 21)) + (c.1 1 27)) x2) (i_abs (x1 - (c.1 0 10)))) (fun p12 => (if 0 ≤ (x1 - (c.1 0 10)) then (let p13 := fV_moveWith c (i_max p12 ((i_abs (c.1 1 21)) - (c.1 1 27))); (some p13)) else (let p14 := fV_moveWith c (-(i_max p12 ((i_abs (c.1 1 21)) - (c.1 1 27)))); (some p14))))) else (let p15 := fV_moveWith c (fV_slower (c.1 1 21) (c.1 1 27)); (some p15))))))
set_option maxRecDepth 20000 in
set_option maxHeartbeats 4000000 in
theorem tV_approach {x1 : Int32} {x2 : Int32} {v : cs_S} (hv : fV_approach c x1 x2 = some v) : ab_M X mV_approach (d + 2) 0 0 [.ref 20, .int x1, .int x2] (cs_H c rest) (fun r9 h9 => r9 = none ∧ h9 = cs_H v rest) := by
  refine ab_entry (by decide) (Nat.le_of_ble_eq_true rfl) ?_
  refine ab_go 12 [] (pc' := 19) (lo' := [some (.ref 20), some (.int x1), some (.int x2), some (.int (c.1 1 21)), some (.int (c.1 1 27)), none, none, none, none, none, none]) (st' := [.ref 20, .int x1]) (h' := cs_H c rest) ckV_approach rfl ?_
  refine ab_go 4 [] (pc' := 26) (lo' := [some (.ref 20), some (.int x1), some (.int x2), some (.int (c.1 1 21)), some (.int (c.1 1 27)), some (.int (x1 - (c.1 0 10))), none, none, none, none, none]) (st' := [.int (c.1 1 21)]) (h' := cs_H c rest) ckV_approach rfl ?_
  refine ab_if_le ckV_approach rfl (fun (h1 : (c.1 1 21) ≤ 0) => ?_) (fun (h1 : ¬ ((c.1 1 21) ≤ 0)) => ?_)
  · refine ab_go 1 [] (pc' := 35) (lo' := [some (.ref 20), some (.int x1), some (.int x2), some (.int (c.1 1 21)), some (.int (c.1 1 27)), some (.int (x1 - (c.1 0 10))), none, none, none, none, none]) (st' := [.int (c.1 1 21)]) (h' := cs_H c rest) ckV_approach rfl ?_
    refine ab_if_ge ckV_approach rfl (fun (h2 : 0 ≤ (c.1 1 21)) => ?_) (fun (h2 : ¬ (0 ≤ (c.1 1 21))) => ?_)
    · refine ab_go 3 [] (pc' := 52) (lo' := [some (.ref 20), some (.int x1), some (.int x2), some (.int (c.1 1 21)), some (.int (c.1 1 27)), some (.int (x1 - (c.1 0 10))), some (.int (0 : Int32)), none, none, none, none]) (st' := [.int (0 : Int32)]) (h' := cs_H c rest) ckV_approach rfl ?_
      refine ab_if_eq ckV_approach rfl (fun _ => ?_) (fun hh => absurd hh (by decide))
      refine ab_go 1 [] (pc' := 67) (lo' := [some (.ref 20), some (.int x1), some (.int x2), some (.int (c.1 1 21)), some (.int (c.1 1 27)), some (.int (x1 - (c.1 0 10))), some (.int (0 : Int32)), none, none, none, none]) (st' := [.int (c.1 1 21)]) (h' := cs_H c rest) ckV_approach rfl ?_
      refine ab_mabs ckV_approach rfl (by decide +kernel) (by omega) (Nat.le_of_ble_eq_true rfl) ?_
      refine ab_go 5 [] (pc' := 78) (lo' := [some (.ref 20), some (.int x1), some (.int x2), some (.int (c.1 1 21)), some (.int (c.1 1 27)), some (.int (x1 - (c.1 0 10))), some (.int (0 : Int32)), some (.int (i_abs (c.1 1 21))), none, none, none]) (st' := [.int x2, .int ((i_abs (c.1 1 21)) + (c.1 1 27))]) (h' := cs_H c rest) ckV_approach rfl ?_
      refine ab_mmin ckV_approach rfl (by decide +kernel) (by omega) (Nat.le_of_ble_eq_true rfl) ?_
      refine ab_go 4 [] (pc' := 88) (lo' := [some (.ref 20), some (.int x1), some (.int x2), some (.int (c.1 1 21)), some (.int (c.1 1 27)), some (.int (x1 - (c.1 0 10))), some (.int (0 : Int32)), some (.int (i_abs (c.1 1 21))), some (.int (i_min ((i_abs (c.1 1 21)) + (c.1 1 27)) x2)), none, none]) (st' := [.int (x1 - (c.1 0 10)), .int (i_min ((i_abs (c.1 1 21)) + (c.1 1 27)) x2), .ref 20]) (h' := cs_H c rest) ckV_approach rfl ?_
      refine ab_mabs ckV_approach rfl (by decide +kernel) (by omega) (Nat.le_of_ble_eq_true rfl) ?_
      rcases e1 : fV_fastestThatStops c (i_min ((i_abs (c.1 1 21)) + (c.1 1 27)) x2) (i_abs (x1 - (c.1 0 10))) with _ | p1
      · exact ab_no hv (by simp only [fV_approach, if_pos h1, if_pos h2, e1, ab_bd_n])
      refine ab_callV (bc2 := 0) (bs2 := 0) (as := [_, _]) (rest := []) ckV_approach rfl (by decide +kernel) wV_fastestThatStops (tV_fastestThatStops (d := d) (x1 := (i_min ((i_abs (c.1 1 21)) + (c.1 1 27)) x2)) (x2 := (i_abs (x1 - (c.1 0 10)))) (c := c) (v := p1) e1) rfl rfl (by omega) ⟨Nat.le_refl _, Nat.le_refl _⟩ (Nat.le_of_ble_eq_true rfl) ?_
      rintro _ _ ⟨rfl, rfl⟩
      refine ab_go 5 [] (pc' := 103) (lo' := [some (.ref 20), some (.int x1), some (.int x2), some (.int (c.1 1 21)), some (.int (c.1 1 27)), some (.int (x1 - (c.1 0 10))), some (.int (0 : Int32)), some (.int (i_abs (c.1 1 21))), some (.int (i_min ((i_abs (c.1 1 21)) + (c.1 1 27)) x2)), some (.int p1), none]) (st' := [.int ((i_abs (c.1 1 21)) - (c.1 1 27)), .int p1]) (h' := cs_H c rest) ckV_approach rfl ?_
      refine ab_mmax ckV_approach rfl (by decide +kernel) (by omega) (Nat.le_of_ble_eq_true rfl) ?_
      refine ab_go 3 [] (pc' := 111) (lo' := [some (.ref 20), some (.int x1), some (.int x2), some (.int (c.1 1 21)), some (.int (c.1 1 27)), some (.int (x1 - (c.1 0 10))), some (.int (0 : Int32)), some (.int (i_abs (c.1 1 21))), some (.int (i_min ((i_abs (c.1 1 21)) + (c.1 1 27)) x2)), some (.int p1), some (.int (i_max p1 ((i_abs (c.1 1 21)) - (c.1 1 27))))]) (st' := [.int (x1 - (c.1 0 10)), .ref 20]) (h' := cs_H c rest) ckV_approach rfl ?_
      refine ab_if_ge ckV_approach rfl (fun (h3 : 0 ≤ (x1 - (c.1 0 10))) => ?_) (fun (h3 : ¬ (0 ≤ (x1 - (c.1 0 10)))) => ?_)
      · refine ab_go 1 [] (pc' := 122) (lo' := [some (.ref 20), some (.int x1), some (.int x2), some (.int (c.1 1 21)), some (.int (c.1 1 27)), some (.int (x1 - (c.1 0 10))), some (.int (0 : Int32)), some (.int (i_abs (c.1 1 21))), some (.int (i_min ((i_abs (c.1 1 21)) + (c.1 1 27)) x2)), some (.int p1), some (.int (i_max p1 ((i_abs (c.1 1 21)) - (c.1 1 27))))]) (st' := [.int (i_max p1 ((i_abs (c.1 1 21)) - (c.1 1 27))), .ref 20]) (h' := cs_H c rest) ckV_approach rfl ?_
        refine ab_callV (bc2 := 0) (bs2 := 0) (as := [_]) (rest := []) ckV_approach rfl (by decide +kernel) wV_moveWith (tV_moveWith (d := d + 1) (x1 := (i_max p1 ((i_abs (c.1 1 21)) - (c.1 1 27)))) (c := c)) rfl rfl (by omega) ⟨Nat.le_refl _, Nat.le_refl _⟩ (Nat.le_of_ble_eq_true rfl) ?_
        rintro _ _ ⟨rfl, rfl⟩
        generalize e2 : fV_moveWith c (i_max p1 ((i_abs (c.1 1 21)) - (c.1 1 27))) = p2
        have e : fV_approach c x1 x2 = some p2 := by simp only [fV_approach, if_pos h1, if_pos h2, e1, ab_bd_s, if_pos h3, e2]
        obtain rfl := Option.some.inj (e.symm.trans hv)
        exact ab_vret ckV_approach rfl rfl ⟨rfl, rfl⟩
      · refine ab_go 3 [] (pc' := 122) (lo' := [some (.ref 20), some (.int x1), some (.int x2), some (.int (c.1 1 21)), some (.int (c.1 1 27)), some (.int (x1 - (c.1 0 10))), some (.int (0 : Int32)), some (.int (i_abs (c.1 1 21))), some (.int (i_min ((i_abs (c.1 1 21)) + (c.1 1 27)) x2)), some (.int p1), some (.int (i_max p1 ((i_abs (c.1 1 21)) - (c.1 1 27))))]) (st' := [.int (-(i_max p1 ((i_abs (c.1 1 21)) - (c.1 1 27)))), .ref 20]) (h' := cs_H c rest) ckV_approach rfl ?_
        refine ab_callV (bc2 := 0) (bs2 := 0) (as := [_]) (rest := []) ckV_approach rfl (by decide +kernel) wV_moveWith (tV_moveWith (d := d + 1) (x1 := (-(i_max p1 ((i_abs (c.1 1 21)) - (c.1 1 27))))) (c := c)) rfl rfl (by omega) ⟨Nat.le_refl _, Nat.le_refl _⟩ (Nat.le_of_ble_eq_true rfl) ?_
        rintro _ _ ⟨rfl, rfl⟩
        generalize e3 : fV_moveWith c (-(i_max p1 ((i_abs (c.1 1 21)) - (c.1 1 27)))) = p3
        have e : fV_approach c x1 x2 = some p3 := by simp only [fV_approach, if_pos h1, if_pos h2, e1, ab_bd_s, if_neg h3, e3]
        obtain rfl := Option.some.inj (e.symm.trans hv)
        exact ab_vret ckV_approach rfl rfl ⟨rfl, rfl⟩
    · refine ab_go 1 [] (pc' := 40) (lo' := [some (.ref 20), some (.int x1), some (.int x2), some (.int (c.1 1 21)), some (.int (c.1 1 27)), some (.int (x1 - (c.1 0 10))), none, none, none, none, none]) (st' := [.int (x1 - (c.1 0 10))]) (h' := cs_H c rest) ckV_approach rfl ?_
      refine ab_if_lt ckV_approach rfl (fun (h4 : (x1 - (c.1 0 10)) < 0) => ?_) (fun (h4 : ¬ ((x1 - (c.1 0 10)) < 0)) => ?_)
      · refine ab_go 3 [] (pc' := 52) (lo' := [some (.ref 20), some (.int x1), some (.int x2), some (.int (c.1 1 21)), some (.int (c.1 1 27)), some (.int (x1 - (c.1 0 10))), some (.int (0 : Int32)), none, none, none, none]) (st' := [.int (0 : Int32)]) (h' := cs_H c rest) ckV_approach rfl ?_
        refine ab_if_eq ckV_approach rfl (fun _ => ?_) (fun hh => absurd hh (by decide))
        refine ab_go 1 [] (pc' := 67) (lo' := [some (.ref 20), some (.int x1), some (.int x2), some (.int (c.1 1 21)), some (.int (c.1 1 27)), some (.int (x1 - (c.1 0 10))), some (.int (0 : Int32)), none, none, none, none]) (st' := [.int (c.1 1 21)]) (h' := cs_H c rest) ckV_approach rfl ?_
        refine ab_mabs ckV_approach rfl (by decide +kernel) (by omega) (Nat.le_of_ble_eq_true rfl) ?_
        refine ab_go 5 [] (pc' := 78) (lo' := [some (.ref 20), some (.int x1), some (.int x2), some (.int (c.1 1 21)), some (.int (c.1 1 27)), some (.int (x1 - (c.1 0 10))), some (.int (0 : Int32)), some (.int (i_abs (c.1 1 21))), none, none, none]) (st' := [.int x2, .int ((i_abs (c.1 1 21)) + (c.1 1 27))]) (h' := cs_H c rest) ckV_approach rfl ?_
        refine ab_mmin ckV_approach rfl (by decide +kernel) (by omega) (Nat.le_of_ble_eq_true rfl) ?_
        refine ab_go 4 [] (pc' := 88) (lo' := [some (.ref 20), some (.int x1), some (.int x2), some (.int (c.1 1 21)), some (.int (c.1 1 27)), some (.int (x1 - (c.1 0 10))), some (.int (0 : Int32)), some (.int (i_abs (c.1 1 21))), some (.int (i_min ((i_abs (c.1 1 21)) + (c.1 1 27)) x2)), none, none]) (st' := [.int (x1 - (c.1 0 10)), .int (i_min ((i_abs (c.1 1 21)) + (c.1 1 27)) x2), .ref 20]) (h' := cs_H c rest) ckV_approach rfl ?_
        refine ab_mabs ckV_approach rfl (by decide +kernel) (by omega) (Nat.le_of_ble_eq_true rfl) ?_
        rcases e4 : fV_fastestThatStops c (i_min ((i_abs (c.1 1 21)) + (c.1 1 27)) x2) (i_abs (x1 - (c.1 0 10))) with _ | p4
        · exact ab_no hv (by simp only [fV_approach, if_pos h1, if_neg h2, if_pos h4, e4, ab_bd_n])
        refine ab_callV (bc2 := 0) (bs2 := 0) (as := [_, _]) (rest := []) ckV_approach rfl (by decide +kernel) wV_fastestThatStops (tV_fastestThatStops (d := d) (x1 := (i_min ((i_abs (c.1 1 21)) + (c.1 1 27)) x2)) (x2 := (i_abs (x1 - (c.1 0 10)))) (c := c) (v := p4) e4) rfl rfl (by omega) ⟨Nat.le_refl _, Nat.le_refl _⟩ (Nat.le_of_ble_eq_true rfl) ?_
        rintro _ _ ⟨rfl, rfl⟩
        refine ab_go 5 [] (pc' := 103) (lo' := [some (.ref 20), some (.int x1), some (.int x2), some (.int (c.1 1 21)), some (.int (c.1 1 27)), some (.int (x1 - (c.1 0 10))), some (.int (0 : Int32)), some (.int (i_abs (c.1 1 21))), some (.int (i_min ((i_abs (c.1 1 21)) + (c.1 1 27)) x2)), some (.int p4), none]) (st' := [.int ((i_abs (c.1 1 21)) - (c.1 1 27)), .int p4]) (h' := cs_H c rest) ckV_approach rfl ?_
        refine ab_mmax ckV_approach rfl (by decide +kernel) (by omega) (Nat.le_of_ble_eq_true rfl) ?_
        refine ab_go 3 [] (pc' := 111) (lo' := [some (.ref 20), some (.int x1), some (.int x2), some (.int (c.1 1 21)), some (.int (c.1 1 27)), some (.int (x1 - (c.1 0 10))), some (.int (0 : Int32)), some (.int (i_abs (c.1 1 21))), some (.int (i_min ((i_abs (c.1 1 21)) + (c.1 1 27)) x2)), some (.int p4), some (.int (i_max p4 ((i_abs (c.1 1 21)) - (c.1 1 27))))]) (st' := [.int (x1 - (c.1 0 10)), .ref 20]) (h' := cs_H c rest) ckV_approach rfl ?_
        refine ab_if_ge ckV_approach rfl (fun (h5 : 0 ≤ (x1 - (c.1 0 10))) => ?_) (fun (h5 : ¬ (0 ≤ (x1 - (c.1 0 10)))) => ?_)
        · refine ab_go 1 [] (pc' := 122) (lo' := [some (.ref 20), some (.int x1), some (.int x2), some (.int (c.1 1 21)), some (.int (c.1 1 27)), some (.int (x1 - (c.1 0 10))), some (.int (0 : Int32)), some (.int (i_abs (c.1 1 21))), some (.int (i_min ((i_abs (c.1 1 21)) + (c.1 1 27)) x2)), some (.int p4), some (.int (i_max p4 ((i_abs (c.1 1 21)) - (c.1 1 27))))]) (st' := [.int (i_max p4 ((i_abs (c.1 1 21)) - (c.1 1 27))), .ref 20]) (h' := cs_H c rest) ckV_approach rfl ?_
          refine ab_callV (bc2 := 0) (bs2 := 0) (as := [_]) (rest := []) ckV_approach rfl (by decide +kernel) wV_moveWith (tV_moveWith (d := d + 1) (x1 := (i_max p4 ((i_abs (c.1 1 21)) - (c.1 1 27)))) (c := c)) rfl rfl (by omega) ⟨Nat.le_refl _, Nat.le_refl _⟩ (Nat.le_of_ble_eq_true rfl) ?_
          rintro _ _ ⟨rfl, rfl⟩
          generalize e5 : fV_moveWith c (i_max p4 ((i_abs (c.1 1 21)) - (c.1 1 27))) = p5
          have e : fV_approach c x1 x2 = some p5 := by simp only [fV_approach, if_pos h1, if_neg h2, if_pos h4, e4, ab_bd_s, if_pos h5, e5]
          obtain rfl := Option.some.inj (e.symm.trans hv)
          exact ab_vret ckV_approach rfl rfl ⟨rfl, rfl⟩
        · refine ab_go 3 [] (pc' := 122) (lo' := [some (.ref 20), some (.int x1), some (.int x2), some (.int (c.1 1 21)), some (.int (c.1 1 27)), some (.int (x1 - (c.1 0 10))), some (.int (0 : Int32)), some (.int (i_abs (c.1 1 21))), some (.int (i_min ((i_abs (c.1 1 21)) + (c.1 1 27)) x2)), some (.int p4), some (.int (i_max p4 ((i_abs (c.1 1 21)) - (c.1 1 27))))]) (st' := [.int (-(i_max p4 ((i_abs (c.1 1 21)) - (c.1 1 27)))), .ref 20]) (h' := cs_H c rest) ckV_approach rfl ?_
          refine ab_callV (bc2 := 0) (bs2 := 0) (as := [_]) (rest := []) ckV_approach rfl (by decide +kernel) wV_moveWith (tV_moveWith (d := d + 1) (x1 := (-(i_max p4 ((i_abs (c.1 1 21)) - (c.1 1 27))))) (c := c)) rfl rfl (by omega) ⟨Nat.le_refl _, Nat.le_refl _⟩ (Nat.le_of_ble_eq_true rfl) ?_
          rintro _ _ ⟨rfl, rfl⟩
          generalize e6 : fV_moveWith c (-(i_max p4 ((i_abs (c.1 1 21)) - (c.1 1 27)))) = p6
          have e : fV_approach c x1 x2 = some p6 := by simp only [fV_approach, if_pos h1, if_neg h2, if_pos h4, e4, ab_bd_s, if_neg h5, e6]
          obtain rfl := Option.some.inj (e.symm.trans hv)
          exact ab_vret ckV_approach rfl rfl ⟨rfl, rfl⟩
      · refine ab_go 4 [] (pc' := 52) (lo' := [some (.ref 20), some (.int x1), some (.int x2), some (.int (c.1 1 21)), some (.int (c.1 1 27)), some (.int (x1 - (c.1 0 10))), some (.int (1 : Int32)), none, none, none, none]) (st' := [.int (1 : Int32)]) (h' := cs_H c rest) ckV_approach rfl ?_
        refine ab_if_eq ckV_approach rfl (fun hh => absurd hh (by decide)) (fun _ => ?_)
        refine ab_go 3 [] (pc' := 59) (lo' := [some (.ref 20), some (.int x1), some (.int x2), some (.int (c.1 1 21)), some (.int (c.1 1 27)), some (.int (x1 - (c.1 0 10))), some (.int (1 : Int32)), none, none, none, none]) (st' := [.int (c.1 1 27), .int (c.1 1 21), .ref 20]) (h' := cs_H c rest) ckV_approach rfl ?_
        refine ab_callS (bc2 := 0) (bs2 := 0) (as := [_, _]) (rest := [_]) ckV_approach rfl (by decide +kernel) wV_slower (tV_slower (d := d) (x1 := (c.1 1 21)) (x2 := (c.1 1 27))) (by omega) ⟨Nat.le_refl _, Nat.le_refl _⟩ (Nat.le_of_ble_eq_true rfl) ?_
        rintro _ _ ⟨rfl, rfl⟩
        refine ab_callV (bc2 := 0) (bs2 := 0) (as := [_]) (rest := []) ckV_approach rfl (by decide +kernel) wV_moveWith (tV_moveWith (d := d + 1) (x1 := (fV_slower (c.1 1 21) (c.1 1 27))) (c := c)) rfl rfl (by omega) ⟨Nat.le_refl _, Nat.le_refl _⟩ (Nat.le_of_ble_eq_true rfl) ?_
        rintro _ _ ⟨rfl, rfl⟩
        generalize e7 : fV_moveWith c (fV_slower (c.1 1 21) (c.1 1 27)) = p7
        have e : fV_approach c x1 x2 = some p7 := by simp only [fV_approach, if_pos h1, if_neg h2, if_neg h4, e7]
        obtain rfl := Option.some.inj (e.symm.trans hv)
        exact ab_vret ckV_approach rfl rfl ⟨rfl, rfl⟩
  · refine ab_go 1 [] (pc' := 31) (lo' := [some (.ref 20), some (.int x1), some (.int x2), some (.int (c.1 1 21)), some (.int (c.1 1 27)), some (.int (x1 - (c.1 0 10))), none, none, none, none, none]) (st' := [.int (x1 - (c.1 0 10))]) (h' := cs_H c rest) ckV_approach rfl ?_
    refine ab_if_le ckV_approach rfl (fun (h6 : (x1 - (c.1 0 10)) ≤ 0) => ?_) (fun (h6 : ¬ ((x1 - (c.1 0 10)) ≤ 0)) => ?_)
    · refine ab_go 4 [] (pc' := 52) (lo' := [some (.ref 20), some (.int x1), some (.int x2), some (.int (c.1 1 21)), some (.int (c.1 1 27)), some (.int (x1 - (c.1 0 10))), some (.int (1 : Int32)), none, none, none, none]) (st' := [.int (1 : Int32)]) (h' := cs_H c rest) ckV_approach rfl ?_
      refine ab_if_eq ckV_approach rfl (fun hh => absurd hh (by decide)) (fun _ => ?_)
      refine ab_go 3 [] (pc' := 59) (lo' := [some (.ref 20), some (.int x1), some (.int x2), some (.int (c.1 1 21)), some (.int (c.1 1 27)), some (.int (x1 - (c.1 0 10))), some (.int (1 : Int32)), none, none, none, none]) (st' := [.int (c.1 1 27), .int (c.1 1 21), .ref 20]) (h' := cs_H c rest) ckV_approach rfl ?_
      refine ab_callS (bc2 := 0) (bs2 := 0) (as := [_, _]) (rest := [_]) ckV_approach rfl (by decide +kernel) wV_slower (tV_slower (d := d) (x1 := (c.1 1 21)) (x2 := (c.1 1 27))) (by omega) ⟨Nat.le_refl _, Nat.le_refl _⟩ (Nat.le_of_ble_eq_true rfl) ?_
      rintro _ _ ⟨rfl, rfl⟩
      refine ab_callV (bc2 := 0) (bs2 := 0) (as := [_]) (rest := []) ckV_approach rfl (by decide +kernel) wV_moveWith (tV_moveWith (d := d + 1) (x1 := (fV_slower (c.1 1 21) (c.1 1 27))) (c := c)) rfl rfl (by omega) ⟨Nat.le_refl _, Nat.le_refl _⟩ (Nat.le_of_ble_eq_true rfl) ?_
      rintro _ _ ⟨rfl, rfl⟩
      generalize e8 : fV_moveWith c (fV_slower (c.1 1 21) (c.1 1 27)) = p8
      have e : fV_approach c x1 x2 = some p8 := by simp only [fV_approach, if_neg h1, if_pos h6, e8]
      obtain rfl := Option.some.inj (e.symm.trans hv)
      exact ab_vret ckV_approach rfl rfl ⟨rfl, rfl⟩
    · refine ab_go 1 [] (pc' := 35) (lo' := [some (.ref 20), some (.int x1), some (.int x2), some (.int (c.1 1 21)), some (.int (c.1 1 27)), some (.int (x1 - (c.1 0 10))), none, none, none, none, none]) (st' := [.int (c.1 1 21)]) (h' := cs_H c rest) ckV_approach rfl ?_
      refine ab_if_ge ckV_approach rfl (fun (h7 : 0 ≤ (c.1 1 21)) => ?_) (fun (h7 : ¬ (0 ≤ (c.1 1 21))) => ?_)
      · refine ab_go 3 [] (pc' := 52) (lo' := [some (.ref 20), some (.int x1), some (.int x2), some (.int (c.1 1 21)), some (.int (c.1 1 27)), some (.int (x1 - (c.1 0 10))), some (.int (0 : Int32)), none, none, none, none]) (st' := [.int (0 : Int32)]) (h' := cs_H c rest) ckV_approach rfl ?_
        refine ab_if_eq ckV_approach rfl (fun _ => ?_) (fun hh => absurd hh (by decide))
        refine ab_go 1 [] (pc' := 67) (lo' := [some (.ref 20), some (.int x1), some (.int x2), some (.int (c.1 1 21)), some (.int (c.1 1 27)), some (.int (x1 - (c.1 0 10))), some (.int (0 : Int32)), none, none, none, none]) (st' := [.int (c.1 1 21)]) (h' := cs_H c rest) ckV_approach rfl ?_
        refine ab_mabs ckV_approach rfl (by decide +kernel) (by omega) (Nat.le_of_ble_eq_true rfl) ?_
        refine ab_go 5 [] (pc' := 78) (lo' := [some (.ref 20), some (.int x1), some (.int x2), some (.int (c.1 1 21)), some (.int (c.1 1 27)), some (.int (x1 - (c.1 0 10))), some (.int (0 : Int32)), some (.int (i_abs (c.1 1 21))), none, none, none]) (st' := [.int x2, .int ((i_abs (c.1 1 21)) + (c.1 1 27))]) (h' := cs_H c rest) ckV_approach rfl ?_
        refine ab_mmin ckV_approach rfl (by decide +kernel) (by omega) (Nat.le_of_ble_eq_true rfl) ?_
        refine ab_go 4 [] (pc' := 88) (lo' := [some (.ref 20), some (.int x1), some (.int x2), some (.int (c.1 1 21)), some (.int (c.1 1 27)), some (.int (x1 - (c.1 0 10))), some (.int (0 : Int32)), some (.int (i_abs (c.1 1 21))), some (.int (i_min ((i_abs (c.1 1 21)) + (c.1 1 27)) x2)), none, none]) (st' := [.int (x1 - (c.1 0 10)), .int (i_min ((i_abs (c.1 1 21)) + (c.1 1 27)) x2), .ref 20]) (h' := cs_H c rest) ckV_approach rfl ?_
        refine ab_mabs ckV_approach rfl (by decide +kernel) (by omega) (Nat.le_of_ble_eq_true rfl) ?_
        rcases e9 : fV_fastestThatStops c (i_min ((i_abs (c.1 1 21)) + (c.1 1 27)) x2) (i_abs (x1 - (c.1 0 10))) with _ | p9
        · exact ab_no hv (by simp only [fV_approach, if_neg h1, if_neg h6, if_pos h7, e9, ab_bd_n])
        refine ab_callV (bc2 := 0) (bs2 := 0) (as := [_, _]) (rest := []) ckV_approach rfl (by decide +kernel) wV_fastestThatStops (tV_fastestThatStops (d := d) (x1 := (i_min ((i_abs (c.1 1 21)) + (c.1 1 27)) x2)) (x2 := (i_abs (x1 - (c.1 0 10)))) (c := c) (v := p9) e9) rfl rfl (by omega) ⟨Nat.le_refl _, Nat.le_refl _⟩ (Nat.le_of_ble_eq_true rfl) ?_
        rintro _ _ ⟨rfl, rfl⟩
        refine ab_go 5 [] (pc' := 103) (lo' := [some (.ref 20), some (.int x1), some (.int x2), some (.int (c.1 1 21)), some (.int (c.1 1 27)), some (.int (x1 - (c.1 0 10))), some (.int (0 : Int32)), some (.int (i_abs (c.1 1 21))), some (.int (i_min ((i_abs (c.1 1 21)) + (c.1 1 27)) x2)), some (.int p9), none]) (st' := [.int ((i_abs (c.1 1 21)) - (c.1 1 27)), .int p9]) (h' := cs_H c rest) ckV_approach rfl ?_
        refine ab_mmax ckV_approach rfl (by decide +kernel) (by omega) (Nat.le_of_ble_eq_true rfl) ?_
        refine ab_go 3 [] (pc' := 111) (lo' := [some (.ref 20), some (.int x1), some (.int x2), some (.int (c.1 1 21)), some (.int (c.1 1 27)), some (.int (x1 - (c.1 0 10))), some (.int (0 : Int32)), some (.int (i_abs (c.1 1 21))), some (.int (i_min ((i_abs (c.1 1 21)) + (c.1 1 27)) x2)), some (.int p9), some (.int (i_max p9 ((i_abs (c.1 1 21)) - (c.1 1 27))))]) (st' := [.int (x1 - (c.1 0 10)), .ref 20]) (h' := cs_H c rest) ckV_approach rfl ?_
        refine ab_if_ge ckV_approach rfl (fun (h8 : 0 ≤ (x1 - (c.1 0 10))) => ?_) (fun (h8 : ¬ (0 ≤ (x1 - (c.1 0 10)))) => ?_)
        · refine ab_go 1 [] (pc' := 122) (lo' := [some (.ref 20), some (.int x1), some (.int x2), some (.int (c.1 1 21)), some (.int (c.1 1 27)), some (.int (x1 - (c.1 0 10))), some (.int (0 : Int32)), some (.int (i_abs (c.1 1 21))), some (.int (i_min ((i_abs (c.1 1 21)) + (c.1 1 27)) x2)), some (.int p9), some (.int (i_max p9 ((i_abs (c.1 1 21)) - (c.1 1 27))))]) (st' := [.int (i_max p9 ((i_abs (c.1 1 21)) - (c.1 1 27))), .ref 20]) (h' := cs_H c rest) ckV_approach rfl ?_
          refine ab_callV (bc2 := 0) (bs2 := 0) (as := [_]) (rest := []) ckV_approach rfl (by decide +kernel) wV_moveWith (tV_moveWith (d := d + 1) (x1 := (i_max p9 ((i_abs (c.1 1 21)) - (c.1 1 27)))) (c := c)) rfl rfl (by omega) ⟨Nat.le_refl _, Nat.le_refl _⟩ (Nat.le_of_ble_eq_true rfl) ?_
          rintro _ _ ⟨rfl, rfl⟩
          generalize e10 : fV_moveWith c (i_max p9 ((i_abs (c.1 1 21)) - (c.1 1 27))) = p10
          have e : fV_approach c x1 x2 = some p10 := by simp only [fV_approach, if_neg h1, if_neg h6, if_pos h7, e9, ab_bd_s, if_pos h8, e10]
          obtain rfl := Option.some.inj (e.symm.trans hv)
          exact ab_vret ckV_approach rfl rfl ⟨rfl, rfl⟩
        · refine ab_go 3 [] (pc' := 122) (lo' := [some (.ref 20), some (.int x1), some (.int x2), some (.int (c.1 1 21)), some (.int (c.1 1 27)), some (.int (x1 - (c.1 0 10))), some (.int (0 : Int32)), some (.int (i_abs (c.1 1 21))), some (.int (i_min ((i_abs (c.1 1 21)) + (c.1 1 27)) x2)), some (.int p9), some (.int (i_max p9 ((i_abs (c.1 1 21)) - (c.1 1 27))))]) (st' := [.int (-(i_max p9 ((i_abs (c.1 1 21)) - (c.1 1 27)))), .ref 20]) (h' := cs_H c rest) ckV_approach rfl ?_
          refine ab_callV (bc2 := 0) (bs2 := 0) (as := [_]) (rest := []) ckV_approach rfl (by decide +kernel) wV_moveWith (tV_moveWith (d := d + 1) (x1 := (-(i_max p9 ((i_abs (c.1 1 21)) - (c.1 1 27))))) (c := c)) rfl rfl (by omega) ⟨Nat.le_refl _, Nat.le_refl _⟩ (Nat.le_of_ble_eq_true rfl) ?_
          rintro _ _ ⟨rfl, rfl⟩
          generalize e11 : fV_moveWith c (-(i_max p9 ((i_abs (c.1 1 21)) - (c.1 1 27)))) = p11
          have e : fV_approach c x1 x2 = some p11 := by simp only [fV_approach, if_neg h1, if_neg h6, if_pos h7, e9, ab_bd_s, if_neg h8, e11]
          obtain rfl := Option.some.inj (e.symm.trans hv)
          exact ab_vret ckV_approach rfl rfl ⟨rfl, rfl⟩
      · refine ab_go 1 [] (pc' := 40) (lo' := [some (.ref 20), some (.int x1), some (.int x2), some (.int (c.1 1 21)), some (.int (c.1 1 27)), some (.int (x1 - (c.1 0 10))), none, none, none, none, none]) (st' := [.int (x1 - (c.1 0 10))]) (h' := cs_H c rest) ckV_approach rfl ?_
        refine ab_if_lt ckV_approach rfl (fun (h9 : (x1 - (c.1 0 10)) < 0) => ?_) (fun (h9 : ¬ ((x1 - (c.1 0 10)) < 0)) => ?_)
        · refine ab_go 3 [] (pc' := 52) (lo' := [some (.ref 20), some (.int x1), some (.int x2), some (.int (c.1 1 21)), some (.int (c.1 1 27)), some (.int (x1 - (c.1 0 10))), some (.int (0 : Int32)), none, none, none, none]) (st' := [.int (0 : Int32)]) (h' := cs_H c rest) ckV_approach rfl ?_
          refine ab_if_eq ckV_approach rfl (fun _ => ?_) (fun hh => absurd hh (by decide))
          refine ab_go 1 [] (pc' := 67) (lo' := [some (.ref 20), some (.int x1), some (.int x2), some (.int (c.1 1 21)), some (.int (c.1 1 27)), some (.int (x1 - (c.1 0 10))), some (.int (0 : Int32)), none, none, none, none]) (st' := [.int (c.1 1 21)]) (h' := cs_H c rest) ckV_approach rfl ?_
          refine ab_mabs ckV_approach rfl (by decide +kernel) (by omega) (Nat.le_of_ble_eq_true rfl) ?_
          refine ab_go 5 [] (pc' := 78) (lo' := [some (.ref 20), some (.int x1), some (.int x2), some (.int (c.1 1 21)), some (.int (c.1 1 27)), some (.int (x1 - (c.1 0 10))), some (.int (0 : Int32)), some (.int (i_abs (c.1 1 21))), none, none, none]) (st' := [.int x2, .int ((i_abs (c.1 1 21)) + (c.1 1 27))]) (h' := cs_H c rest) ckV_approach rfl ?_
          refine ab_mmin ckV_approach rfl (by decide +kernel) (by omega) (Nat.le_of_ble_eq_true rfl) ?_
          refine ab_go 4 [] (pc' := 88) (lo' := [some (.ref 20), some (.int x1), some (.int x2), some (.int (c.1 1 21)), some (.int (c.1 1 27)), some (.int (x1 - (c.1 0 10))), some (.int (0 : Int32)), some (.int (i_abs (c.1 1 21))), some (.int (i_min ((i_abs (c.1 1 21)) + (c.1 1 27)) x2)), none, none]) (st' := [.int (x1 - (c.1 0 10)), .int (i_min ((i_abs (c.1 1 21)) + (c.1 1 27)) x2), .ref 20]) (h' := cs_H c rest) ckV_approach rfl ?_
          refine ab_mabs ckV_approach rfl (by decide +kernel) (by omega) (Nat.le_of_ble_eq_true rfl) ?_
          rcases e12 : fV_fastestThatStops c (i_min ((i_abs (c.1 1 21)) + (c.1 1 27)) x2) (i_abs (x1 - (c.1 0 10))) with _ | p12
          · exact ab_no hv (by simp only [fV_approach, if_neg h1, if_neg h6, if_neg h7, if_pos h9, e12, ab_bd_n])
          refine ab_callV (bc2 := 0) (bs2 := 0) (as := [_, _]) (rest := []) ckV_approach rfl (by decide +kernel) wV_fastestThatStops (tV_fastestThatStops (d := d) (x1 := (i_min ((i_abs (c.1 1 21)) + (c.1 1 27)) x2)) (x2 := (i_abs (x1 - (c.1 0 10)))) (c := c) (v := p12) e12) rfl rfl (by omega) ⟨Nat.le_refl _, Nat.le_refl _⟩ (Nat.le_of_ble_eq_true rfl) ?_
          rintro _ _ ⟨rfl, rfl⟩
          refine ab_go 5 [] (pc' := 103) (lo' := [some (.ref 20), some (.int x1), some (.int x2), some (.int (c.1 1 21)), some (.int (c.1 1 27)), some (.int (x1 - (c.1 0 10))), some (.int (0 : Int32)), some (.int (i_abs (c.1 1 21))), some (.int (i_min ((i_abs (c.1 1 21)) + (c.1 1 27)) x2)), some (.int p12), none]) (st' := [.int ((i_abs (c.1 1 21)) - (c.1 1 27)), .int p12]) (h' := cs_H c rest) ckV_approach rfl ?_
          refine ab_mmax ckV_approach rfl (by decide +kernel) (by omega) (Nat.le_of_ble_eq_true rfl) ?_
          refine ab_go 3 [] (pc' := 111) (lo' := [some (.ref 20), some (.int x1), some (.int x2), some (.int (c.1 1 21)), some (.int (c.1 1 27)), some (.int (x1 - (c.1 0 10))), some (.int (0 : Int32)), some (.int (i_abs (c.1 1 21))), some (.int (i_min ((i_abs (c.1 1 21)) + (c.1 1 27)) x2)), some (.int p12), some (.int (i_max p12 ((i_abs (c.1 1 21)) - (c.1 1 27))))]) (st' := [.int (x1 - (c.1 0 10)), .ref 20]) (h' := cs_H c rest) ckV_approach rfl ?_
          refine ab_if_ge ckV_approach rfl (fun (h10 : 0 ≤ (x1 - (c.1 0 10))) => ?_) (fun (h10 : ¬ (0 ≤ (x1 - (c.1 0 10)))) => ?_)
          · refine ab_go 1 [] (pc' := 122) (lo' := [some (.ref 20), some (.int x1), some (.int x2), some (.int (c.1 1 21)), some (.int (c.1 1 27)), some (.int (x1 - (c.1 0 10))), some (.int (0 : Int32)), some (.int (i_abs (c.1 1 21))), some (.int (i_min ((i_abs (c.1 1 21)) + (c.1 1 27)) x2)), some (.int p12), some (.int (i_max p12 ((i_abs (c.1 1 21)) - (c.1 1 27))))]) (st' := [.int (i_max p12 ((i_abs (c.1 1 21)) - (c.1 1 27))), .ref 20]) (h' := cs_H c rest) ckV_approach rfl ?_
            refine ab_callV (bc2 := 0) (bs2 := 0) (as := [_]) (rest := []) ckV_approach rfl (by decide +kernel) wV_moveWith (tV_moveWith (d := d + 1) (x1 := (i_max p12 ((i_abs (c.1 1 21)) - (c.1 1 27)))) (c := c)) rfl rfl (by omega) ⟨Nat.le_refl _, Nat.le_refl _⟩ (Nat.le_of_ble_eq_true rfl) ?_
            rintro _ _ ⟨rfl, rfl⟩
            generalize e13 : fV_moveWith c (i_max p12 ((i_abs (c.1 1 21)) - (c.1 1 27))) = p13
            have e : fV_approach c x1 x2 = some p13 := by simp only [fV_approach, if_neg h1, if_neg h6, if_neg h7, if_pos h9, e12, ab_bd_s, if_pos h10, e13]
            obtain rfl := Option.some.inj (e.symm.trans hv)
            exact ab_vret ckV_approach rfl rfl ⟨rfl, rfl⟩
          · refine ab_go 3 [] (pc' := 122) (lo' := [some (.ref 20), some (.int x1), some (.int x2), some (.int (c.1 1 21)), some (.int (c.1 1 27)), some (.int (x1 - (c.1 0 10))), some (.int (0 : Int32)), some (.int (i_abs (c.1 1 21))), some (.int (i_min ((i_abs (c.1 1 21)) + (c.1 1 27)) x2)), some (.int p12), some (.int (i_max p12 ((i_abs (c.1 1 21)) - (c.1 1 27))))]) (st' := [.int (-(i_max p12 ((i_abs (c.1 1 21)) - (c.1 1 27)))), .ref 20]) (h' := cs_H c rest) ckV_approach rfl ?_
            refine ab_callV (bc2 := 0) (bs2 := 0) (as := [_]) (rest := []) ckV_approach rfl (by decide +kernel) wV_moveWith (tV_moveWith (d := d + 1) (x1 := (-(i_max p12 ((i_abs (c.1 1 21)) - (c.1 1 27))))) (c := c)) rfl rfl (by omega) ⟨Nat.le_refl _, Nat.le_refl _⟩ (Nat.le_of_ble_eq_true rfl) ?_
            rintro _ _ ⟨rfl, rfl⟩
            generalize e14 : fV_moveWith c (-(i_max p12 ((i_abs (c.1 1 21)) - (c.1 1 27)))) = p14
            have e : fV_approach c x1 x2 = some p14 := by simp only [fV_approach, if_neg h1, if_neg h6, if_neg h7, if_pos h9, e12, ab_bd_s, if_neg h10, e14]
            obtain rfl := Option.some.inj (e.symm.trans hv)
            exact ab_vret ckV_approach rfl rfl ⟨rfl, rfl⟩
        · refine ab_go 4 [] (pc' := 52) (lo' := [some (.ref 20), some (.int x1), some (.int x2), some (.int (c.1 1 21)), some (.int (c.1 1 27)), some (.int (x1 - (c.1 0 10))), some (.int (1 : Int32)), none, none, none, none]) (st' := [.int (1 : Int32)]) (h' := cs_H c rest) ckV_approach rfl ?_
          refine ab_if_eq ckV_approach rfl (fun hh => absurd hh (by decide)) (fun _ => ?_)
          refine ab_go 3 [] (pc' := 59) (lo' := [some (.ref 20), some (.int x1), some (.int x2), some (.int (c.1 1 21)), some (.int (c.1 1 27)), some (.int (x1 - (c.1 0 10))), some (.int (1 : Int32)), none, none, none, none]) (st' := [.int (c.1 1 27), .int (c.1 1 21), .ref 20]) (h' := cs_H c rest) ckV_approach rfl ?_
          refine ab_callS (bc2 := 0) (bs2 := 0) (as := [_, _]) (rest := [_]) ckV_approach rfl (by decide +kernel) wV_slower (tV_slower (d := d) (x1 := (c.1 1 21)) (x2 := (c.1 1 27))) (by omega) ⟨Nat.le_refl _, Nat.le_refl _⟩ (Nat.le_of_ble_eq_true rfl) ?_
          rintro _ _ ⟨rfl, rfl⟩
          refine ab_callV (bc2 := 0) (bs2 := 0) (as := [_]) (rest := []) ckV_approach rfl (by decide +kernel) wV_moveWith (tV_moveWith (d := d + 1) (x1 := (fV_slower (c.1 1 21) (c.1 1 27))) (c := c)) rfl rfl (by omega) ⟨Nat.le_refl _, Nat.le_refl _⟩ (Nat.le_of_ble_eq_true rfl) ?_
          rintro _ _ ⟨rfl, rfl⟩
          generalize e15 : fV_moveWith c (fV_slower (c.1 1 21) (c.1 1 27)) = p15
          have e : fV_approach c x1 x2 = some p15 := by simp only [fV_approach, if_neg h1, if_neg h6, if_neg h7, if_neg h9, e15]
          obtain rfl := Option.some.inj (e.symm.trans hv)
          exact ab_vret ckV_approach rfl rfl ⟨rfl, rfl⟩
def fV_follow (c : cs_S)  : Option (cs_S) := (if (c.1 1 18) = (1 : Int32) then (ab_bd (fV_approach c (fV_positionAim c) (i_min (c.1 1 26) (c.1 1 25))) (fun p2 => (some p2))) else (ab_bd (fV_approach c (fV_speedAim c) (i_min (i_abs (c.1 1 29)) (c.1 1 25))) (fun p1 => (some p1))))
theorem tV_follow {v : cs_S} (hv : fV_follow c = some v) : ab_M X mV_follow (d + 3) 0 0 [.ref 20] (cs_H c rest) (fun r9 h9 => r9 = none ∧ h9 = cs_H v rest) := by
  refine ab_entry (by decide) (Nat.le_of_ble_eq_true rfl) ?_
  refine ab_go 5 [] (pc' := 8) (lo' := [some (.ref 20), none]) (st' := [.int (1 : Int32), .int (c.1 1 18)]) (h' := cs_H c rest) ckV_follow rfl ?_
  refine ab_icmp_ne ckV_follow rfl (fun (h1 : ¬ ((c.1 1 18) = (1 : Int32))) => ?_) (fun (h1 : (c.1 1 18) = (1 : Int32)) => ?_)
  · refine ab_go 4 [] (pc' := 46) (lo' := [some (.ref 20), none]) (st' := [.int (c.1 1 29)]) (h' := cs_H c rest) ckV_follow rfl ?_
    refine ab_mabs ckV_follow rfl (by decide +kernel) (by omega) (Nat.le_of_ble_eq_true rfl) ?_
    refine ab_go 3 [] (pc' := 52) (lo' := [some (.ref 20), some (.int (i_abs (c.1 1 29)))]) (st' := [.ref 20, .ref 20]) (h' := cs_H c rest) ckV_follow rfl ?_
    refine ab_callV (bc2 := 0) (bs2 := 0) (as := []) (rest := [_]) ckV_follow rfl (by decide +kernel) wV_speedAim (tV_speedAim (d := d + 1) (c := c)) rfl rfl (by omega) ⟨Nat.le_refl _, Nat.le_refl _⟩ (Nat.le_of_ble_eq_true rfl) ?_
    rintro _ _ ⟨rfl, rfl⟩
    refine ab_go 5 [] (pc' := 63) (lo' := [some (.ref 20), some (.int (i_abs (c.1 1 29)))]) (st' := [.int (c.1 1 25), .int (i_abs (c.1 1 29)), .int (fV_speedAim c), .ref 20]) (h' := cs_H c rest) ckV_follow rfl ?_
    refine ab_mmin ckV_follow rfl (by decide +kernel) (by omega) (Nat.le_of_ble_eq_true rfl) ?_
    rcases e1 : fV_approach c (fV_speedAim c) (i_min (i_abs (c.1 1 29)) (c.1 1 25)) with _ | p1
    · exact ab_no hv (by simp only [fV_follow, if_neg h1, e1, ab_bd_n])
    refine ab_callV (bc2 := 0) (bs2 := 0) (as := [_, _]) (rest := []) ckV_follow rfl (by decide +kernel) wV_approach (tV_approach (d := d) (x1 := (fV_speedAim c)) (x2 := (i_min (i_abs (c.1 1 29)) (c.1 1 25))) (c := c) (v := p1) e1) rfl rfl (by omega) ⟨Nat.le_refl _, Nat.le_refl _⟩ (Nat.le_of_ble_eq_true rfl) ?_
    rintro _ _ ⟨rfl, rfl⟩
    have e : fV_follow c = some p1 := by simp only [fV_follow, if_neg h1, e1, ab_bd_s]
    obtain rfl := Option.some.inj (e.symm.trans hv)
    exact ab_vret ckV_follow rfl rfl ⟨rfl, rfl⟩
  · refine ab_go 2 [] (pc' := 13) (lo' := [some (.ref 20), none]) (st' := [.ref 20, .ref 20]) (h' := cs_H c rest) ckV_follow rfl ?_
    refine ab_callV (bc2 := 0) (bs2 := 0) (as := []) (rest := [_]) ckV_follow rfl (by decide +kernel) wV_positionAim (tV_positionAim (d := d + 1) (c := c)) rfl rfl (by omega) ⟨Nat.le_refl _, Nat.le_refl _⟩ (Nat.le_of_ble_eq_true rfl) ?_
    rintro _ _ ⟨rfl, rfl⟩
    refine ab_go 8 [] (pc' := 30) (lo' := [some (.ref 20), none]) (st' := [.int (c.1 1 25), .int (c.1 1 26), .int (fV_positionAim c), .ref 20]) (h' := cs_H c rest) ckV_follow rfl ?_
    refine ab_mmin ckV_follow rfl (by decide +kernel) (by omega) (Nat.le_of_ble_eq_true rfl) ?_
    rcases e2 : fV_approach c (fV_positionAim c) (i_min (c.1 1 26) (c.1 1 25)) with _ | p2
    · exact ab_no hv (by simp only [fV_follow, if_pos h1, e2, ab_bd_n])
    refine ab_callV (bc2 := 0) (bs2 := 0) (as := [_, _]) (rest := []) ckV_follow rfl (by decide +kernel) wV_approach (tV_approach (d := d) (x1 := (fV_positionAim c)) (x2 := (i_min (c.1 1 26) (c.1 1 25))) (c := c) (v := p2) e2) rfl rfl (by omega) ⟨Nat.le_refl _, Nat.le_refl _⟩ (Nat.le_of_ble_eq_true rfl) ?_
    rintro _ _ ⟨rfl, rfl⟩
    refine ab_go 1 [] (pc' := 69) (lo' := [some (.ref 20), none]) (st' := []) (h' := cs_H p2 rest) ckV_follow rfl ?_
    have e : fV_follow c = some p2 := by simp only [fV_follow, if_pos h1, e2, ab_bd_s]
    obtain rfl := Option.some.inj (e.symm.trans hv)
    exact ab_vret ckV_follow rfl rfl ⟨rfl, rfl⟩
def fG_number (x1 : Int64) (x2 : Int32) : Int32 := (if x2 < (4 : Int32) then ((x1).toInt32 &&& (((1 : Int32) <<< (((8 : Int32) * x2) &&& 31)) - (1 : Int32))) else (x1).toInt32)
theorem tG_number {x1 : Int64} {x2 : Int32} : ab_M X mG_number (d) 0 0 [.long x1, .int x2] (hp) (fun r9 h9 => r9 = some (Value.int (fG_number x1 x2)) ∧ h9 = hp) := by
  refine ab_entry (by decide) (Nat.le_of_ble_eq_true rfl) ?_
  refine ab_go 2 [] (pc' := 2) (lo' := [some (.long x1), none, some (.int x2)]) (st' := [.int (4 : Int32), .int x2]) (h' := hp) ckG_number rfl ?_
  refine ab_icmp_lt ckG_number rfl (fun (h1 : x2 < (4 : Int32)) => ?_) (fun (h1 : ¬ (x2 < (4 : Int32))) => ?_)
  · refine ab_go 10 [] (pc' := 21) (lo' := [some (.long x1), none, some (.int x2)]) (st' := [.int ((x1).toInt32 &&& (((1 : Int32) <<< (((8 : Int32) * x2) &&& 31)) - (1 : Int32)))]) (h' := hp) ckG_number rfl ?_
    have e : fG_number x1 x2 = ((x1).toInt32 &&& (((1 : Int32) <<< (((8 : Int32) * x2) &&& 31)) - (1 : Int32))) := by simp only [fG_number, if_pos h1]
    exact ab_iret ckG_number rfl rfl ⟨(congrArg (fun q : Int32 => some (Value.int q)) e).symm, rfl⟩
  · refine ab_go 3 [] (pc' := 21) (lo' := [some (.long x1), none, some (.int x2)]) (st' := [.int (x1).toInt32]) (h' := hp) ckG_number rfl ?_
    have e : fG_number x1 x2 = (x1).toInt32 := by simp only [fG_number, if_neg h1]
    exact ab_iret ckG_number rfl rfl ⟨(congrArg (fun q : Int32 => some (Value.int q)) e).symm, rfl⟩
def fG_slotOf (x1 : Int32) : Option (Int32) := (ab_bd (fC_find ((x1).toUInt32 >>> (((16 : Int32)).toUInt32 &&& Int32.toUInt32 31)).toInt32 (((x1).toUInt32 >>> (((8 : Int32)).toUInt32 &&& Int32.toUInt32 31)).toInt32 &&& (255 : Int32))) (fun p1 => (if p1 = (-1 : Int32) then (some (-1 : Int32)) else (if ((x1).toUInt32 >>> (((16 : Int32)).toUInt32 &&& Int32.toUInt32 31)).toInt32 < (24576 : Int32) then (some (-1 : Int32)) else (ab_bd (fC_bytes p1) (fun p2 => (if (x1 &&& (255 : Int32)) = ((8 : Int32) * p2) then (some p1) else (some (-1 : Int32)))))))))
theorem tG_slotOf {x1 : Int32} (hX : cs_X X) {v : Int32} (hv : fG_slotOf x1 = some v) : ab_M X mG_slotOf (d + 1) 0 0 [.int x1] (hp) (fun r9 h9 => r9 = some (Value.int v) ∧ h9 = hp) := by
  refine ab_entry (by decide) (Nat.le_of_ble_eq_true rfl) ?_
  refine ab_go 10 [] (pc' := 14) (lo' := [some (.int x1), some (.int ((x1).toUInt32 >>> (((16 : Int32)).toUInt32 &&& Int32.toUInt32 31)).toInt32), none]) (st' := [.int (((x1).toUInt32 >>> (((8 : Int32)).toUInt32 &&& Int32.toUInt32 31)).toInt32 &&& (255 : Int32)), .int ((x1).toUInt32 >>> (((16 : Int32)).toUInt32 &&& Int32.toUInt32 31)).toInt32]) (h' := hp) ckG_slotOf rfl ?_
  rcases e1 : fC_find ((x1).toUInt32 >>> (((16 : Int32)).toUInt32 &&& Int32.toUInt32 31)).toInt32 (((x1).toUInt32 >>> (((8 : Int32)).toUInt32 &&& Int32.toUInt32 31)).toInt32 &&& (255 : Int32)) with _ | p1
  · exact ab_no hv (by simp only [fG_slotOf, e1, ab_bd_n])
  refine ab_callS (bc2 := 0) (bs2 := 0) (as := [_, _]) (rest := []) ckG_slotOf rfl (by decide +kernel) wC_find (tC_find (d := d) (x1 := ((x1).toUInt32 >>> (((16 : Int32)).toUInt32 &&& Int32.toUInt32 31)).toInt32) (x2 := (((x1).toUInt32 >>> (((8 : Int32)).toUInt32 &&& Int32.toUInt32 31)).toInt32 &&& (255 : Int32))) hX (v := p1) e1) (by omega) ⟨Nat.le_refl _, Nat.le_refl _⟩ (Nat.le_of_ble_eq_true rfl) ?_
  rintro _ h9 ⟨rfl, q9⟩
  rw [q9]
  clear q9 h9
  refine ab_go 3 [] (pc' := 20) (lo' := [some (.int x1), some (.int ((x1).toUInt32 >>> (((16 : Int32)).toUInt32 &&& Int32.toUInt32 31)).toInt32), some (.int p1)]) (st' := [.int (-1 : Int32), .int p1]) (h' := hp) ckG_slotOf rfl ?_
  refine ab_icmp_eq ckG_slotOf rfl (fun (h1 : p1 = (-1 : Int32)) => ?_) (fun (h1 : ¬ (p1 = (-1 : Int32))) => ?_)
  · refine ab_go 1 [] (pc' := 46) (lo' := [some (.int x1), some (.int ((x1).toUInt32 >>> (((16 : Int32)).toUInt32 &&& Int32.toUInt32 31)).toInt32), some (.int p1)]) (st' := [.int (-1 : Int32)]) (h' := hp) ckG_slotOf rfl ?_
    have e : fG_slotOf x1 = some (-1 : Int32) := by simp only [fG_slotOf, e1, ab_bd_s, if_pos h1]
    obtain rfl := Option.some.inj (e.symm.trans hv)
    exact ab_iret ckG_slotOf rfl rfl ⟨rfl, rfl⟩
  · refine ab_go 2 [] (pc' := 27) (lo' := [some (.int x1), some (.int ((x1).toUInt32 >>> (((16 : Int32)).toUInt32 &&& Int32.toUInt32 31)).toInt32), some (.int p1)]) (st' := [.int (24576 : Int32), .int ((x1).toUInt32 >>> (((16 : Int32)).toUInt32 &&& Int32.toUInt32 31)).toInt32]) (h' := hp) ckG_slotOf rfl ?_
    refine ab_icmp_lt ckG_slotOf rfl (fun (h2 : ((x1).toUInt32 >>> (((16 : Int32)).toUInt32 &&& Int32.toUInt32 31)).toInt32 < (24576 : Int32)) => ?_) (fun (h2 : ¬ (((x1).toUInt32 >>> (((16 : Int32)).toUInt32 &&& Int32.toUInt32 31)).toInt32 < (24576 : Int32))) => ?_)
    · refine ab_go 1 [] (pc' := 46) (lo' := [some (.int x1), some (.int ((x1).toUInt32 >>> (((16 : Int32)).toUInt32 &&& Int32.toUInt32 31)).toInt32), some (.int p1)]) (st' := [.int (-1 : Int32)]) (h' := hp) ckG_slotOf rfl ?_
      have e : fG_slotOf x1 = some (-1 : Int32) := by simp only [fG_slotOf, e1, ab_bd_s, if_neg h1, if_pos h2]
      obtain rfl := Option.some.inj (e.symm.trans hv)
      exact ab_iret ckG_slotOf rfl rfl ⟨rfl, rfl⟩
    · refine ab_go 5 [] (pc' := 38) (lo' := [some (.int x1), some (.int ((x1).toUInt32 >>> (((16 : Int32)).toUInt32 &&& Int32.toUInt32 31)).toInt32), some (.int p1)]) (st' := [.int p1, .int (8 : Int32), .int (x1 &&& (255 : Int32))]) (h' := hp) ckG_slotOf rfl ?_
      rcases e2 : fC_bytes p1 with _ | p2
      · exact ab_no hv (by simp only [fG_slotOf, e1, ab_bd_s, if_neg h1, if_neg h2, e2, ab_bd_n])
      refine ab_callS (bc2 := 0) (bs2 := 0) (as := [_]) (rest := [_, _]) ckG_slotOf rfl (by decide +kernel) wC_bytes (tC_bytes (d := d) (x1 := p1) hX (v := p2) e2) (by omega) ⟨Nat.le_refl _, Nat.le_refl _⟩ (Nat.le_of_ble_eq_true rfl) ?_
      rintro _ h9 ⟨rfl, q9⟩
      rw [q9]
      clear q9 h9
      refine ab_go 1 [] (pc' := 42) (lo' := [some (.int x1), some (.int ((x1).toUInt32 >>> (((16 : Int32)).toUInt32 &&& Int32.toUInt32 31)).toInt32), some (.int p1)]) (st' := [.int ((8 : Int32) * p2), .int (x1 &&& (255 : Int32))]) (h' := hp) ckG_slotOf rfl ?_
      refine ab_icmp_eq ckG_slotOf rfl (fun (h3 : (x1 &&& (255 : Int32)) = ((8 : Int32) * p2)) => ?_) (fun (h3 : ¬ ((x1 &&& (255 : Int32)) = ((8 : Int32) * p2))) => ?_)
      · refine ab_go 1 [] (pc' := 48) (lo' := [some (.int x1), some (.int ((x1).toUInt32 >>> (((16 : Int32)).toUInt32 &&& Int32.toUInt32 31)).toInt32), some (.int p1)]) (st' := [.int p1]) (h' := hp) ckG_slotOf rfl ?_
        have e : fG_slotOf x1 = some p1 := by simp only [fG_slotOf, e1, ab_bd_s, if_neg h1, if_neg h2, e2, ab_bd_s, if_pos h3]
        obtain rfl := Option.some.inj (e.symm.trans hv)
        exact ab_iret ckG_slotOf rfl rfl ⟨rfl, rfl⟩
      · refine ab_go 1 [] (pc' := 46) (lo' := [some (.int x1), some (.int ((x1).toUInt32 >>> (((16 : Int32)).toUInt32 &&& Int32.toUInt32 31)).toInt32), some (.int p1)]) (st' := [.int (-1 : Int32)]) (h' := hp) ckG_slotOf rfl ?_
        have e : fG_slotOf x1 = some (-1 : Int32) := by simp only [fG_slotOf, e1, ab_bd_s, if_neg h1, if_neg h2, e2, ab_bd_s, if_neg h3]
        obtain rfl := Option.some.inj (e.symm.trans hv)
        exact ab_iret ckG_slotOf rfl rfl ⟨rfl, rfl⟩
def fG_isMappable (x1 : Int32) (x2 : Int32) : Option (Int32) := (ab_bd (fC_kind x1) (fun p1 => (if x2 = (5 : Int32) then (if p1 = (2 : Int32) then (some (1 : Int32)) else (some (0 : Int32))) else (if p1 = 0 then (some (1 : Int32)) else (if p1 = (2 : Int32) then (some (1 : Int32)) else (if p1 = (3 : Int32) then (some (1 : Int32)) else (some (0 : Int32))))))))
theorem tG_isMappable {x1 : Int32} {x2 : Int32} (hX : cs_X X) {v : Int32} (hv : fG_isMappable x1 x2 = some v) : ab_M X mG_isMappable (d + 1) 0 0 [.int x1, .int x2] (hp) (fun r9 h9 => r9 = some (Value.int v) ∧ h9 = hp) := by
  refine ab_entry (by decide) (Nat.le_of_ble_eq_true rfl) ?_
  refine ab_go 1 [] (pc' := 1) (lo' := [some (.int x1), some (.int x2), none]) (st' := [.int x1]) (h' := hp) ckG_isMappable rfl ?_
  rcases e1 : fC_kind x1 with _ | p1
  · exact ab_no hv (by simp only [fG_isMappable, e1, ab_bd_n])
  refine ab_callS (bc2 := 0) (bs2 := 0) (as := [_]) (rest := []) ckG_isMappable rfl (by decide +kernel) wC_kind (tC_kind (d := d) (x1 := x1) hX (v := p1) e1) (by omega) ⟨Nat.le_refl _, Nat.le_refl _⟩ (Nat.le_of_ble_eq_true rfl) ?_
  rintro _ h9 ⟨rfl, q9⟩
  rw [q9]
  clear q9 h9
  refine ab_go 3 [] (pc' := 7) (lo' := [some (.int x1), some (.int x2), some (.int p1)]) (st' := [.int (5 : Int32), .int x2]) (h' := hp) ckG_isMappable rfl ?_
  refine ab_icmp_ne ckG_isMappable rfl (fun (h1 : ¬ (x2 = (5 : Int32))) => ?_) (fun (h1 : x2 = (5 : Int32)) => ?_)
  · refine ab_go 1 [] (pc' := 22) (lo' := [some (.int x1), some (.int x2), some (.int p1)]) (st' := [.int p1]) (h' := hp) ckG_isMappable rfl ?_
    refine ab_if_eq ckG_isMappable rfl (fun (h2 : p1 = 0) => ?_) (fun (h2 : ¬ (p1 = 0)) => ?_)
    · refine ab_go 2 [] (pc' := 40) (lo' := [some (.int x1), some (.int x2), some (.int p1)]) (st' := [.int (1 : Int32)]) (h' := hp) ckG_isMappable rfl ?_
      have e : fG_isMappable x1 x2 = some (1 : Int32) := by simp only [fG_isMappable, e1, ab_bd_s, if_neg h1, if_pos h2]
      obtain rfl := Option.some.inj (e.symm.trans hv)
      exact ab_zret ckG_isMappable rfl rfl (Or.inr rfl) ⟨rfl, rfl⟩
    · refine ab_go 2 [] (pc' := 27) (lo' := [some (.int x1), some (.int x2), some (.int p1)]) (st' := [.int (2 : Int32), .int p1]) (h' := hp) ckG_isMappable rfl ?_
      refine ab_icmp_eq ckG_isMappable rfl (fun (h3 : p1 = (2 : Int32)) => ?_) (fun (h3 : ¬ (p1 = (2 : Int32))) => ?_)
      · refine ab_go 2 [] (pc' := 40) (lo' := [some (.int x1), some (.int x2), some (.int p1)]) (st' := [.int (1 : Int32)]) (h' := hp) ckG_isMappable rfl ?_
        have e : fG_isMappable x1 x2 = some (1 : Int32) := by simp only [fG_isMappable, e1, ab_bd_s, if_neg h1, if_neg h2, if_pos h3]
        obtain rfl := Option.some.inj (e.symm.trans hv)
        exact ab_zret ckG_isMappable rfl rfl (Or.inr rfl) ⟨rfl, rfl⟩
      · refine ab_go 2 [] (pc' := 32) (lo' := [some (.int x1), some (.int x2), some (.int p1)]) (st' := [.int (3 : Int32), .int p1]) (h' := hp) ckG_isMappable rfl ?_
        refine ab_icmp_ne ckG_isMappable rfl (fun (h4 : ¬ (p1 = (3 : Int32))) => ?_) (fun (h4 : p1 = (3 : Int32)) => ?_)
        · refine ab_go 1 [] (pc' := 40) (lo' := [some (.int x1), some (.int x2), some (.int p1)]) (st' := [.int (0 : Int32)]) (h' := hp) ckG_isMappable rfl ?_
          have e : fG_isMappable x1 x2 = some (0 : Int32) := by simp only [fG_isMappable, e1, ab_bd_s, if_neg h1, if_neg h2, if_neg h3, if_neg h4]
          obtain rfl := Option.some.inj (e.symm.trans hv)
          exact ab_zret ckG_isMappable rfl rfl (Or.inl rfl) ⟨rfl, rfl⟩
        · refine ab_go 2 [] (pc' := 40) (lo' := [some (.int x1), some (.int x2), some (.int p1)]) (st' := [.int (1 : Int32)]) (h' := hp) ckG_isMappable rfl ?_
          have e : fG_isMappable x1 x2 = some (1 : Int32) := by simp only [fG_isMappable, e1, ab_bd_s, if_neg h1, if_neg h2, if_neg h3, if_pos h4]
          obtain rfl := Option.some.inj (e.symm.trans hv)
          exact ab_zret ckG_isMappable rfl rfl (Or.inr rfl) ⟨rfl, rfl⟩
  · refine ab_go 2 [] (pc' := 12) (lo' := [some (.int x1), some (.int x2), some (.int p1)]) (st' := [.int (2 : Int32), .int p1]) (h' := hp) ckG_isMappable rfl ?_
    refine ab_icmp_ne ckG_isMappable rfl (fun (h5 : ¬ (p1 = (2 : Int32))) => ?_) (fun (h5 : p1 = (2 : Int32)) => ?_)
    · refine ab_go 1 [] (pc' := 20) (lo' := [some (.int x1), some (.int x2), some (.int p1)]) (st' := [.int (0 : Int32)]) (h' := hp) ckG_isMappable rfl ?_
      have e : fG_isMappable x1 x2 = some (0 : Int32) := by simp only [fG_isMappable, e1, ab_bd_s, if_pos h1, if_neg h5]
      obtain rfl := Option.some.inj (e.symm.trans hv)
      exact ab_zret ckG_isMappable rfl rfl (Or.inl rfl) ⟨rfl, rfl⟩
    · refine ab_go 2 [] (pc' := 20) (lo' := [some (.int x1), some (.int x2), some (.int p1)]) (st' := [.int (1 : Int32)]) (h' := hp) ckG_isMappable rfl ?_
      have e : fG_isMappable x1 x2 = some (1 : Int32) := by simp only [fG_isMappable, e1, ab_bd_s, if_pos h1, if_pos h5]
      obtain rfl := Option.some.inj (e.symm.trans hv)
      exact ab_zret ckG_isMappable rfl rfl (Or.inr rfl) ⟨rfl, rfl⟩
def fG_refusalOfCount_5 : Nat → cs_S → Int32 → Int32 → Int32 → Int32 → Option (Int32)
  | 0, _, _, _, _, _ => none
  | n + 1, c, y1, y2, y3, y4 => (if y2 < y4 then (some (0 : Int32)) else (if ab_inb (y1 + y4) 30 = true then (ab_bd (fG_slotOf (c.1 1 ((y1 + y4)).toNatClampNeg)) (fun p1 => (if p1 = (-1 : Int32) then (some (100925505 : Int32)) else (ab_bd (fG_isMappable p1 y1) (fun p2 => (if p2 = 0 then (some (100925505 : Int32)) else (ab_bd (fC_bytes p1) (fun p3 => (if (y3 + p3) ≤ (8 : Int32) then fG_refusalOfCount_5 n c y1 y2 (y3 + p3) (y4 + (1 : Int32)) else (some (100925506 : Int32))))))))))) else none))
def fG_refusalOfCount (c : cs_S) (x2 : Int32) (x3 : Int32) : Option (Int32) := fG_refusalOfCount_5 40 c x2 x3 (0 : Int32) (1 : Int32)
theorem tG_refusalOfCount_5 (hX : cs_X X) (n : Nat)   : ∀ (c : cs_S) (y1 : Int32) (y2 : Int32) (y3 : Int32) (y4 : Int32)  (v : Int32) (hv : fG_refusalOfCount_5 n c y1 y2 y3 y4 = some v), ab_W X mG_refusalOfCount (d + 2) 0 0 5 [some (.ref 9), some (.int y1), some (.int y2), some (.int y3), some (.int y4), none, none] [] (cs_H c rest) (fun r9 h9 => r9 = some (Value.int v) ∧ h9 = cs_H c rest) := by
  induction n with
  | zero =>
    intro c y1 y2 y3 y4 v hv
    cases hv
  | succ n ih =>
    intro c y1 y2 y3 y4 v hv
    refine ab_go 2 [5] (pc' := 8) (lo' := [some (.ref 9), some (.int y1), some (.int y2), some (.int y3), some (.int y4), none, none]) (st' := [.int y2, .int y4]) (h' := cs_H c rest) ckG_refusalOfCount rfl ?_
    refine ab_icmp_gt ckG_refusalOfCount rfl (fun (h1 : y2 < y4) => ?_) (fun (h1 : ¬ (y2 < y4)) => ?_)
    · refine ab_go 1 [5] (pc' := 68) (lo' := [some (.ref 9), some (.int y1), some (.int y2), some (.int y3), some (.int y4), none, none]) (st' := [.int (0 : Int32)]) (h' := cs_H c rest) ckG_refusalOfCount rfl ?_
      have e : fG_refusalOfCount_5 (n + 1) c y1 y2 y3 y4 = some (0 : Int32) := by simp only [fG_refusalOfCount_5, if_pos h1]
      obtain rfl := Option.some.inj (e.symm.trans hv)
      exact ab_iret ckG_refusalOfCount rfl rfl ⟨rfl, rfl⟩
    · refine ab_go 4 [5] (pc' := 16) (lo' := [some (.ref 9), some (.int y1), some (.int y2), some (.int y3), some (.int y4), none, none]) (st' := [.int (y1 + y4), .ref 9]) (h' := cs_H c rest) ckG_refusalOfCount rfl ?_
      by_cases h2 : ab_inb (y1 + y4) 30 = true
      case neg => exact ab_no hv (by simp only [fG_refusalOfCount_5, if_neg h1, if_neg h2])
      refine ab_iald ckG_refusalOfCount rfl rfl (ab_inb_ok h2) ?_
      refine ab_go 2 [5] (pc' := 21) (lo' := [some (.ref 9), some (.int y1), some (.int y2), some (.int y3), some (.int y4), some (.int (c.1 1 ((y1 + y4)).toNatClampNeg)), none]) (st' := [.int (c.1 1 ((y1 + y4)).toNatClampNeg)]) (h' := cs_H c rest) ckG_refusalOfCount rfl ?_
      rcases e1 : fG_slotOf (c.1 1 ((y1 + y4)).toNatClampNeg) with _ | p1
      · exact ab_no hv (by simp only [fG_refusalOfCount_5, if_neg h1, if_pos h2, e1, ab_bd_n])
      refine ab_callS (bc2 := 0) (bs2 := 0) (as := [_]) (rest := []) ckG_refusalOfCount rfl (by decide +kernel) wG_slotOf (tG_slotOf (d := d) (x1 := (c.1 1 ((y1 + y4)).toNatClampNeg)) hX (v := p1) e1) (by omega) ⟨Nat.le_refl _, Nat.le_refl _⟩ (Nat.le_of_ble_eq_true rfl) ?_
      rintro _ _ ⟨rfl, rfl⟩
      refine ab_go 3 [5] (pc' := 29) (lo' := [some (.ref 9), some (.int y1), some (.int y2), some (.int y3), some (.int y4), some (.int (c.1 1 ((y1 + y4)).toNatClampNeg)), some (.int p1)]) (st' := [.int (-1 : Int32), .int p1]) (h' := cs_H c rest) ckG_refusalOfCount rfl ?_
      refine ab_icmp_eq ckG_refusalOfCount rfl (fun (h3 : p1 = (-1 : Int32)) => ?_) (fun (h3 : ¬ (p1 = (-1 : Int32))) => ?_)
      · refine ab_go 1 [5] (pc' := 43) (lo' := [some (.ref 9), some (.int y1), some (.int y2), some (.int y3), some (.int y4), some (.int (c.1 1 ((y1 + y4)).toNatClampNeg)), some (.int p1)]) (st' := [.int (100925505 : Int32)]) (h' := cs_H c rest) ckG_refusalOfCount rfl ?_
        have e : fG_refusalOfCount_5 (n + 1) c y1 y2 y3 y4 = some (100925505 : Int32) := by simp only [fG_refusalOfCount_5, if_neg h1, if_pos h2, e1, ab_bd_s, if_pos h3]
        obtain rfl := Option.some.inj (e.symm.trans hv)
        exact ab_iret ckG_refusalOfCount rfl rfl ⟨rfl, rfl⟩
      · refine ab_go 2 [5] (pc' := 35) (lo' := [some (.ref 9), some (.int y1), some (.int y2), some (.int y3), some (.int y4), some (.int (c.1 1 ((y1 + y4)).toNatClampNeg)), some (.int p1)]) (st' := [.int y1, .int p1]) (h' := cs_H c rest) ckG_refusalOfCount rfl ?_
        rcases e2 : fG_isMappable p1 y1 with _ | p2
        · exact ab_no hv (by simp only [fG_refusalOfCount_5, if_neg h1, if_pos h2, e1, ab_bd_s, if_neg h3, e2, ab_bd_n])
        refine ab_callS (bc2 := 0) (bs2 := 0) (as := [_, _]) (rest := []) ckG_refusalOfCount rfl (by decide +kernel) wG_isMappable (tG_isMappable (d := d) (x1 := p1) (x2 := y1) hX (v := p2) e2) (by omega) ⟨Nat.le_refl _, Nat.le_refl _⟩ (Nat.le_of_ble_eq_true rfl) ?_
        rintro _ _ ⟨rfl, rfl⟩
        refine ab_if_ne ckG_refusalOfCount rfl (fun (h4 : ¬ (p2 = 0)) => ?_) (fun (h4 : p2 = 0) => ?_)
        · refine ab_go 2 [5] (pc' := 47) (lo' := [some (.ref 9), some (.int y1), some (.int y2), some (.int y3), some (.int y4), some (.int (c.1 1 ((y1 + y4)).toNatClampNeg)), some (.int p1)]) (st' := [.int p1, .int y3]) (h' := cs_H c rest) ckG_refusalOfCount rfl ?_
          rcases e3 : fC_bytes p1 with _ | p3
          · exact ab_no hv (by simp only [fG_refusalOfCount_5, if_neg h1, if_pos h2, e1, ab_bd_s, if_neg h3, e2, ab_bd_s, if_neg h4, e3, ab_bd_n])
          refine ab_callS (bc2 := 0) (bs2 := 0) (as := [_]) (rest := [_]) ckG_refusalOfCount rfl (by decide +kernel) wC_bytes (tC_bytes (d := d + 1) (x1 := p1) hX (v := p3) e3) (by omega) ⟨Nat.le_refl _, Nat.le_refl _⟩ (Nat.le_of_ble_eq_true rfl) ?_
          rintro _ _ ⟨rfl, rfl⟩
          refine ab_go 4 [5] (pc' := 55) (lo' := [some (.ref 9), some (.int y1), some (.int y2), some (.int (y3 + p3)), some (.int y4), some (.int (c.1 1 ((y1 + y4)).toNatClampNeg)), some (.int p1)]) (st' := [.int (8 : Int32), .int (y3 + p3)]) (h' := cs_H c rest) ckG_refusalOfCount rfl ?_
          refine ab_icmp_le ckG_refusalOfCount rfl (fun (h5 : (y3 + p3) ≤ (8 : Int32)) => ?_) (fun (h5 : ¬ ((y3 + p3) ≤ (8 : Int32))) => ?_)
          · refine ab_go 2 [5] (pc' := 5) (lo' := [some (.ref 9), some (.int y1), some (.int y2), some (.int (y3 + p3)), some (.int (y4 + (1 : Int32))), some (.int (c.1 1 ((y1 + y4)).toNatClampNeg)), some (.int p1)]) (st' := []) (h' := cs_H c rest) ckG_refusalOfCount rfl ?_
            have e : fG_refusalOfCount_5 (n + 1) c y1 y2 y3 y4 = fG_refusalOfCount_5 n c y1 y2 (y3 + p3) (y4 + (1 : Int32)) := by simp only [fG_refusalOfCount_5, if_neg h1, if_pos h2, e1, ab_bd_s, if_neg h3, e2, ab_bd_s, if_neg h4, e3, ab_bd_s, if_pos h5]
            exact ab_W.weak (ih c y1 y2 (y3 + p3) (y4 + (1 : Int32)) v (e.symm.trans hv)) ⟨rfl, rfl, rfl, rfl, rfl, trivial⟩
          · refine ab_go 1 [5] (pc' := 60) (lo' := [some (.ref 9), some (.int y1), some (.int y2), some (.int (y3 + p3)), some (.int y4), some (.int (c.1 1 ((y1 + y4)).toNatClampNeg)), some (.int p1)]) (st' := [.int (100925506 : Int32)]) (h' := cs_H c rest) ckG_refusalOfCount rfl ?_
            have e : fG_refusalOfCount_5 (n + 1) c y1 y2 y3 y4 = some (100925506 : Int32) := by simp only [fG_refusalOfCount_5, if_neg h1, if_pos h2, e1, ab_bd_s, if_neg h3, e2, ab_bd_s, if_neg h4, e3, ab_bd_s, if_neg h5]
            obtain rfl := Option.some.inj (e.symm.trans hv)
            exact ab_iret ckG_refusalOfCount rfl rfl ⟨rfl, rfl⟩
        · refine ab_go 1 [5] (pc' := 43) (lo' := [some (.ref 9), some (.int y1), some (.int y2), some (.int y3), some (.int y4), some (.int (c.1 1 ((y1 + y4)).toNatClampNeg)), some (.int p1)]) (st' := [.int (100925505 : Int32)]) (h' := cs_H c rest) ckG_refusalOfCount rfl ?_
          have e : fG_refusalOfCount_5 (n + 1) c y1 y2 y3 y4 = some (100925505 : Int32) := by simp only [fG_refusalOfCount_5, if_neg h1, if_pos h2, e1, ab_bd_s, if_neg h3, e2, ab_bd_s, if_pos h4]
          obtain rfl := Option.some.inj (e.symm.trans hv)
          exact ab_iret ckG_refusalOfCount rfl rfl ⟨rfl, rfl⟩
theorem tG_refusalOfCount {x2 : Int32} {x3 : Int32} (hX : cs_X X) {v : Int32} (hv : fG_refusalOfCount c x2 x3 = some v) : ab_M X mG_refusalOfCount (d + 2) 0 0 [.ref 9, .int x2, .int x3] (cs_H c rest) (fun r9 h9 => r9 = some (Value.int v) ∧ h9 = cs_H c rest) := by
  refine ab_entry (by decide) (Nat.le_of_ble_eq_true rfl) ?_
  refine ab_go 4 [5] (pc' := 5) (lo' := [some (.ref 9), some (.int x2), some (.int x3), some (.int (0 : Int32)), some (.int (1 : Int32)), none, none]) (st' := []) (h' := cs_H c rest) ckG_refusalOfCount rfl ?_
  have e : fG_refusalOfCount c x2 x3 = fG_refusalOfCount_5 40 c x2 x3 (0 : Int32) (1 : Int32) := by simp only [fG_refusalOfCount]
  exact ab_W.weak (tG_refusalOfCount_5 hX 40 c x2 x3 (0 : Int32) (1 : Int32) v (e.symm.trans hv)) ⟨rfl, rfl, rfl, rfl, rfl, trivial⟩
def fG_totalBytes_9 : Nat → cs_S → Int32 → Int32 → Int32 → Int32 → Option (Int32)
  | 0, _, _, _, _, _ => none
  | n + 1, c, y1, y2, y3, y4 => (if y3 < y4 then (some y2) else (if ab_inb (y1 + y4) 30 = true then fG_totalBytes_9 n c y1 (y2 + (((c.1 1 ((y1 + y4)).toNatClampNeg) &&& (255 : Int32)) / (8 : Int32))) y3 (y4 + (1 : Int32)) else none))
def fG_totalBytes (c : cs_S) (x2 : Int32) : Option (Int32) := (if ab_inb x2 30 = true then fG_totalBytes_9 40 c x2 (0 : Int32) (c.1 1 (x2).toNatClampNeg) (1 : Int32) else none)
theorem tG_totalBytes_9 (n : Nat)   : ∀ (c : cs_S) (y1 : Int32) (y2 : Int32) (y3 : Int32) (y4 : Int32)  (v : Int32) (hv : fG_totalBytes_9 n c y1 y2 y3 y4 = some v), ab_W X mG_totalBytes (d) 0 0 9 [some (.ref 9), some (.int y1), some (.int y2), some (.int y3), some (.int y4)] [] (cs_H c rest) (fun r9 h9 => r9 = some (Value.int v) ∧ h9 = cs_H c rest) := by
  induction n with
  | zero =>
    intro c y1 y2 y3 y4 v hv
    cases hv
  | succ n ih =>
    intro c y1 y2 y3 y4 v hv
    refine ab_go 2 [9] (pc' := 12) (lo' := [some (.ref 9), some (.int y1), some (.int y2), some (.int y3), some (.int y4)]) (st' := [.int y3, .int y4]) (h' := cs_H c rest) ckG_totalBytes rfl ?_
    refine ab_icmp_gt ckG_totalBytes rfl (fun (h1 : y3 < y4) => ?_) (fun (h1 : ¬ (y3 < y4)) => ?_)
    · refine ab_go 1 [9] (pc' := 38) (lo' := [some (.ref 9), some (.int y1), some (.int y2), some (.int y3), some (.int y4)]) (st' := [.int y2]) (h' := cs_H c rest) ckG_totalBytes rfl ?_
      have e : fG_totalBytes_9 (n + 1) c y1 y2 y3 y4 = some y2 := by simp only [fG_totalBytes_9, if_pos h1]
      obtain rfl := Option.some.inj (e.symm.trans hv)
      exact ab_iret ckG_totalBytes rfl rfl ⟨rfl, rfl⟩
    · refine ab_go 5 [9] (pc' := 21) (lo' := [some (.ref 9), some (.int y1), some (.int y2), some (.int y3), some (.int y4)]) (st' := [.int (y1 + y4), .ref 9, .int y2]) (h' := cs_H c rest) ckG_totalBytes rfl ?_
      by_cases h2 : ab_inb (y1 + y4) 30 = true
      case neg => exact ab_no hv (by simp only [fG_totalBytes_9, if_neg h1, if_neg h2])
      refine ab_iald ckG_totalBytes rfl rfl (ab_inb_ok h2) ?_
      refine ab_go 8 [9] (pc' := 9) (lo' := [some (.ref 9), some (.int y1), some (.int (y2 + (((c.1 1 ((y1 + y4)).toNatClampNeg) &&& (255 : Int32)) / (8 : Int32)))), some (.int y3), some (.int (y4 + (1 : Int32)))]) (st' := []) (h' := cs_H c rest) ckG_totalBytes rfl ?_
      have e : fG_totalBytes_9 (n + 1) c y1 y2 y3 y4 = fG_totalBytes_9 n c y1 (y2 + (((c.1 1 ((y1 + y4)).toNatClampNeg) &&& (255 : Int32)) / (8 : Int32))) y3 (y4 + (1 : Int32)) := by simp only [fG_totalBytes_9, if_neg h1, if_pos h2]
      exact ab_W.weak (ih c y1 (y2 + (((c.1 1 ((y1 + y4)).toNatClampNeg) &&& (255 : Int32)) / (8 : Int32))) y3 (y4 + (1 : Int32)) v (e.symm.trans hv)) ⟨rfl, rfl, rfl, rfl, rfl, trivial⟩
theorem tG_totalBytes {x2 : Int32} {v : Int32} (hv : fG_totalBytes c x2 = some v) : ab_M X mG_totalBytes (d) 0 0 [.ref 9, .int x2] (cs_H c rest) (fun r9 h9 => r9 = some (Value.int v) ∧ h9 = cs_H c rest) := by
  refine ab_entry (by decide) (Nat.le_of_ble_eq_true rfl) ?_
  refine ab_go 4 [9] (pc' := 4) (lo' := [some (.ref 9), some (.int x2), some (.int (0 : Int32)), none, none]) (st' := [.int x2, .ref 9]) (h' := cs_H c rest) ckG_totalBytes rfl ?_
  by_cases h1 : ab_inb x2 30 = true
  case neg => exact ab_no hv (by simp only [fG_totalBytes, if_neg h1])
  refine ab_iald ckG_totalBytes rfl rfl (ab_inb_ok h1) ?_
  refine ab_go 3 [9] (pc' := 9) (lo' := [some (.ref 9), some (.int x2), some (.int (0 : Int32)), some (.int (c.1 1 (x2).toNatClampNeg)), some (.int (1 : Int32))]) (st' := []) (h' := cs_H c rest) ckG_totalBytes rfl ?_
  have e : fG_totalBytes c x2 = fG_totalBytes_9 40 c x2 (0 : Int32) (c.1 1 (x2).toNatClampNeg) (1 : Int32) := by simp only [fG_totalBytes, if_pos h1]
  exact ab_W.weak (tG_totalBytes_9 40 c x2 (0 : Int32) (c.1 1 (x2).toNatClampNeg) (1 : Int32) v (e.symm.trans hv)) ⟨rfl, rfl, rfl, rfl, rfl, trivial⟩
def fG_pack_13 : Nat → cs_S → Int64 → Int32 → Int32 → Int32 → Option (Int64)
  | 0, _, _, _, _, _ => none
  | n + 1, c, y1, y3, y4, y5 => (if y4 < y5 then (some y1) else (if ab_inb ((12 : Int32) + y5) 30 = true then (ab_bd (fG_slotOf (c.1 1 (((12 : Int32) + y5)).toNatClampNeg)) (fun p1 => (if p1 = (-1 : Int32) then fG_pack_13 n c y1 y3 y4 (y5 + (1 : Int32)) else (if ab_inb p1 30 = true then (ab_bd (fC_bytes p1) (fun p2 => fG_pack_13 n c (y1 ||| ((((c.1 1 (p1).toNatClampNeg)).toInt64 &&& (4294967295 : Int64)) <<< ((y3).toInt64 &&& 63))) (y3 + ((8 : Int32) * p2)) y4 (y5 + (1 : Int32)))) else none)))) else none))
def fG_pack (c : cs_S)  : Option (Int64) := fG_pack_13 40 c (0 : Int64) (0 : Int32) (c.1 1 12) (1 : Int32)
theorem tG_pack_13 (hX : cs_X X) (n : Nat)   : ∀ (c : cs_S) (y1 : Int64) (y3 : Int32) (y4 : Int32) (y5 : Int32)  (v : Int64) (hv : fG_pack_13 n c y1 y3 y4 y5 = some v), ab_W X mG_pack (d + 2) 0 0 13 [some (.ref 9), some (.long y1), none, some (.int y3), some (.int y4), some (.int y5), none] [] (cs_H c rest) (fun r9 h9 => r9 = some (Value.long v) ∧ h9 = cs_H c rest) := by
  induction n with
  | zero =>
    intro c y1 y3 y4 y5 v hv
    cases hv
  | succ n ih =>
    intro c y1 y3 y4 y5 v hv
    refine ab_go 2 [13] (pc' := 17) (lo' := [some (.ref 9), some (.long y1), none, some (.int y3), some (.int y4), some (.int y5), none]) (st' := [.int y4, .int y5]) (h' := cs_H c rest) ckG_pack rfl ?_
    refine ab_icmp_gt ckG_pack rfl (fun (h1 : y4 < y5) => ?_) (fun (h1 : ¬ (y4 < y5)) => ?_)
    · refine ab_go 1 [13] (pc' := 70) (lo' := [some (.ref 9), some (.long y1), none, some (.int y3), some (.int y4), some (.int y5), none]) (st' := [.long y1]) (h' := cs_H c rest) ckG_pack rfl ?_
      have e : fG_pack_13 (n + 1) c y1 y3 y4 y5 = some y1 := by simp only [fG_pack_13, if_pos h1]
      obtain rfl := Option.some.inj (e.symm.trans hv)
      exact ab_lret ckG_pack rfl rfl ⟨rfl, rfl⟩
    · refine ab_go 4 [13] (pc' := 26) (lo' := [some (.ref 9), some (.long y1), none, some (.int y3), some (.int y4), some (.int y5), none]) (st' := [.int ((12 : Int32) + y5), .ref 9]) (h' := cs_H c rest) ckG_pack rfl ?_
      by_cases h2 : ab_inb ((12 : Int32) + y5) 30 = true
      case neg => exact ab_no hv (by simp only [fG_pack_13, if_neg h1, if_neg h2])
      refine ab_iald ckG_pack rfl rfl (ab_inb_ok h2) ?_
      rcases e1 : fG_slotOf (c.1 1 (((12 : Int32) + y5)).toNatClampNeg) with _ | p1
      · exact ab_no hv (by simp only [fG_pack_13, if_neg h1, if_pos h2, e1, ab_bd_n])
      refine ab_callS (bc2 := 0) (bs2 := 0) (as := [_]) (rest := []) ckG_pack rfl (by decide +kernel) wG_slotOf (tG_slotOf (d := d) (x1 := (c.1 1 (((12 : Int32) + y5)).toNatClampNeg)) hX (v := p1) e1) (by omega) ⟨Nat.le_refl _, Nat.le_refl _⟩ (Nat.le_of_ble_eq_true rfl) ?_
      rintro _ _ ⟨rfl, rfl⟩
      refine ab_go 3 [13] (pc' := 35) (lo' := [some (.ref 9), some (.long y1), none, some (.int y3), some (.int y4), some (.int y5), some (.int p1)]) (st' := [.int (-1 : Int32), .int p1]) (h' := cs_H c rest) ckG_pack rfl ?_
      refine ab_icmp_eq ckG_pack rfl (fun (h3 : p1 = (-1 : Int32)) => ?_) (fun (h3 : ¬ (p1 = (-1 : Int32))) => ?_)
      · refine ab_go 2 [13] (pc' := 13) (lo' := [some (.ref 9), some (.long y1), none, some (.int y3), some (.int y4), some (.int (y5 + (1 : Int32))), some (.int p1)]) (st' := []) (h' := cs_H c rest) ckG_pack rfl ?_
        have e : fG_pack_13 (n + 1) c y1 y3 y4 y5 = fG_pack_13 n c y1 y3 y4 (y5 + (1 : Int32)) := by simp only [fG_pack_13, if_neg h1, if_pos h2, e1, ab_bd_s, if_pos h3]
        exact ab_W.weak (ih c y1 y3 y4 (y5 + (1 : Int32)) v (e.symm.trans hv)) ⟨rfl, rfl, rfl, rfl, rfl, trivial⟩
      · refine ab_go 3 [13] (pc' := 42) (lo' := [some (.ref 9), some (.long y1), none, some (.int y3), some (.int y4), some (.int y5), some (.int p1)]) (st' := [.int p1, .ref 9, .long y1]) (h' := cs_H c rest) ckG_pack rfl ?_
        by_cases h4 : ab_inb p1 30 = true
        case neg => exact ab_no hv (by simp only [fG_pack_13, if_neg h1, if_pos h2, e1, ab_bd_s, if_neg h3, if_neg h4])
        refine ab_iald ckG_pack rfl rfl (ab_inb_ok h4) ?_
        refine ab_go 10 [13] (pc' := 57) (lo' := [some (.ref 9), some (.long (y1 ||| ((((c.1 1 (p1).toNatClampNeg)).toInt64 &&& (4294967295 : Int64)) <<< ((y3).toInt64 &&& 63)))), none, some (.int y3), some (.int y4), some (.int y5), some (.int p1)]) (st' := [.int p1, .int (8 : Int32), .int y3]) (h' := cs_H c rest) ckG_pack rfl ?_
        rcases e2 : fC_bytes p1 with _ | p2
        · exact ab_no hv (by simp only [fG_pack_13, if_neg h1, if_pos h2, e1, ab_bd_s, if_neg h3, if_pos h4, e2, ab_bd_n])
        refine ab_callS (bc2 := 0) (bs2 := 0) (as := [_]) (rest := [_, _]) ckG_pack rfl (by decide +kernel) wC_bytes (tC_bytes (d := d + 1) (x1 := p1) hX (v := p2) e2) (by omega) ⟨Nat.le_refl _, Nat.le_refl _⟩ (Nat.le_of_ble_eq_true rfl) ?_
        rintro _ _ ⟨rfl, rfl⟩
        refine ab_go 5 [13] (pc' := 13) (lo' := [some (.ref 9), some (.long (y1 ||| ((((c.1 1 (p1).toNatClampNeg)).toInt64 &&& (4294967295 : Int64)) <<< ((y3).toInt64 &&& 63)))), none, some (.int (y3 + ((8 : Int32) * p2))), some (.int y4), some (.int (y5 + (1 : Int32))), some (.int p1)]) (st' := []) (h' := cs_H c rest) ckG_pack rfl ?_
        have e : fG_pack_13 (n + 1) c y1 y3 y4 y5 = fG_pack_13 n c (y1 ||| ((((c.1 1 (p1).toNatClampNeg)).toInt64 &&& (4294967295 : Int64)) <<< ((y3).toInt64 &&& 63))) (y3 + ((8 : Int32) * p2)) y4 (y5 + (1 : Int32)) := by simp only [fG_pack_13, if_neg h1, if_pos h2, e1, ab_bd_s, if_neg h3, if_pos h4, e2, ab_bd_s]
        exact ab_W.weak (ih c (y1 ||| ((((c.1 1 (p1).toNatClampNeg)).toInt64 &&& (4294967295 : Int64)) <<< ((y3).toInt64 &&& 63))) (y3 + ((8 : Int32) * p2)) y4 (y5 + (1 : Int32)) v (e.symm.trans hv)) ⟨rfl, rfl, rfl, rfl, rfl, trivial⟩
theorem tG_pack (hX : cs_X X) {v : Int64} (hv : fG_pack c = some v) : ab_M X mG_pack (d + 2) 0 0 [.ref 9] (cs_H c rest) (fun r9 h9 => r9 = some (Value.long v) ∧ h9 = cs_H c rest) := by
  refine ab_entry (by decide) (Nat.le_of_ble_eq_true rfl) ?_
  refine ab_go 10 [13] (pc' := 13) (lo' := [some (.ref 9), some (.long (0 : Int64)), none, some (.int (0 : Int32)), some (.int (c.1 1 12)), some (.int (1 : Int32)), none]) (st' := []) (h' := cs_H c rest) ckG_pack rfl ?_
  have e : fG_pack c = fG_pack_13 40 c (0 : Int64) (0 : Int32) (c.1 1 12) (1 : Int32) := by simp only [fG_pack]
  exact ab_W.weak (tG_pack_13 hX 40 c (0 : Int64) (0 : Int32) (c.1 1 12) (1 : Int32) v (e.symm.trans hv)) ⟨rfl, rfl, rfl, rfl, rfl, trivial⟩
def fG_unpack_10 : Nat → cs_S → Int64 → Int32 → Int32 → Option (cs_S)
  | 0, _, _, _, _ => none
  | n + 1, c, y3, y5, y6 => (if y5 < y6 then (some c) else (if ab_inb ((5 : Int32) + y6) 30 = true then (ab_bd (fG_slotOf (c.1 1 (((5 : Int32) + y6)).toNatClampNeg)) (fun p1 => (if p1 = (-1 : Int32) then fG_unpack_10 n c y3 y5 (y6 + (1 : Int32)) else (ab_bd (fC_bytes p1) (fun p2 => (ab_bd (fN_refusalOfValue p1 (fG_number y3 p2)) (fun p3 => (if p3 = 0 then (if ab_inb p1 30 = true then fG_unpack_10 n (cs_u c 1 (p1).toNatClampNeg (fG_number y3 p2)) ((y3).toUInt64 >>> ((((8 : Int32) * p2)).toInt64.toUInt64 &&& Int64.toUInt64 63)).toInt64 y5 (y6 + (1 : Int32)) else none) else fG_unpack_10 n c ((y3).toUInt64 >>> ((((8 : Int32) * p2)).toInt64.toUInt64 &&& Int64.toUInt64 63)).toInt64 y5 (y6 + (1 : Int32)))))))))) else none))
def fG_unpack (c : cs_S) (x2 : Int64) : Option (cs_S) := fG_unpack_10 40 c x2 (c.1 1 5) (1 : Int32)
theorem tG_unpack_10 (hX : cs_X X) (n : Nat)   : ∀ (c : cs_S) (y3 : Int64) (y5 : Int32) (y6 : Int32)  (v : cs_S) (hv : fG_unpack_10 n c y3 y5 y6 = some v), ab_W X mG_unpack (d + 2) 0 0 10 [some (.ref 9), none, none, some (.long y3), none, some (.int y5), some (.int y6), none, none] [] (cs_H c rest) (fun r9 h9 => r9 = none ∧ h9 = cs_H v rest) := by
  induction n with
  | zero =>
    intro c y3 y5 y6 v hv
    cases hv
  | succ n ih =>
    intro c y3 y5 y6 v hv
    refine ab_go 2 [10] (pc' := 14) (lo' := [some (.ref 9), none, none, some (.long y3), none, some (.int y5), some (.int y6), none, none]) (st' := [.int y5, .int y6]) (h' := cs_H c rest) ckG_unpack rfl ?_
    refine ab_icmp_gt ckG_unpack rfl (fun (h1 : y5 < y6) => ?_) (fun (h1 : ¬ (y5 < y6)) => ?_)
    · have e : fG_unpack_10 (n + 1) c y3 y5 y6 = some c := by simp only [fG_unpack_10, if_pos h1]
      obtain rfl := Option.some.inj (e.symm.trans hv)
      exact ab_vret ckG_unpack rfl rfl ⟨rfl, rfl⟩
    · refine ab_go 4 [10] (pc' := 22) (lo' := [some (.ref 9), none, none, some (.long y3), none, some (.int y5), some (.int y6), none, none]) (st' := [.int ((5 : Int32) + y6), .ref 9]) (h' := cs_H c rest) ckG_unpack rfl ?_
      by_cases h2 : ab_inb ((5 : Int32) + y6) 30 = true
      case neg => exact ab_no hv (by simp only [fG_unpack_10, if_neg h1, if_neg h2])
      refine ab_iald ckG_unpack rfl rfl (ab_inb_ok h2) ?_
      rcases e1 : fG_slotOf (c.1 1 (((5 : Int32) + y6)).toNatClampNeg) with _ | p1
      · exact ab_no hv (by simp only [fG_unpack_10, if_neg h1, if_pos h2, e1, ab_bd_n])
      refine ab_callS (bc2 := 0) (bs2 := 0) (as := [_]) (rest := []) ckG_unpack rfl (by decide +kernel) wG_slotOf (tG_slotOf (d := d) (x1 := (c.1 1 (((5 : Int32) + y6)).toNatClampNeg)) hX (v := p1) e1) (by omega) ⟨Nat.le_refl _, Nat.le_refl _⟩ (Nat.le_of_ble_eq_true rfl) ?_
      rintro _ _ ⟨rfl, rfl⟩
      refine ab_go 3 [10] (pc' := 31) (lo' := [some (.ref 9), none, none, some (.long y3), none, some (.int y5), some (.int y6), some (.int p1), none]) (st' := [.int (-1 : Int32), .int p1]) (h' := cs_H c rest) ckG_unpack rfl ?_
      refine ab_icmp_eq ckG_unpack rfl (fun (h3 : p1 = (-1 : Int32)) => ?_) (fun (h3 : ¬ (p1 = (-1 : Int32))) => ?_)
      · refine ab_go 2 [10] (pc' := 10) (lo' := [some (.ref 9), none, none, some (.long y3), none, some (.int y5), some (.int (y6 + (1 : Int32))), some (.int p1), none]) (st' := []) (h' := cs_H c rest) ckG_unpack rfl ?_
        have e : fG_unpack_10 (n + 1) c y3 y5 y6 = fG_unpack_10 n c y3 y5 (y6 + (1 : Int32)) := by simp only [fG_unpack_10, if_neg h1, if_pos h2, e1, ab_bd_s, if_pos h3]
        exact ab_W.weak (ih c y3 y5 (y6 + (1 : Int32)) v (e.symm.trans hv)) ⟨rfl, rfl, rfl, rfl, trivial⟩
      · refine ab_go 2 [10] (pc' := 37) (lo' := [some (.ref 9), none, none, some (.long y3), none, some (.int y5), some (.int y6), some (.int p1), none]) (st' := [.int p1, .long y3]) (h' := cs_H c rest) ckG_unpack rfl ?_
        rcases e2 : fC_bytes p1 with _ | p2
        · exact ab_no hv (by simp only [fG_unpack_10, if_neg h1, if_pos h2, e1, ab_bd_s, if_neg h3, e2, ab_bd_n])
        refine ab_callS (bc2 := 0) (bs2 := 0) (as := [_]) (rest := [_]) ckG_unpack rfl (by decide +kernel) wC_bytes (tC_bytes (d := d + 1) (x1 := p1) hX (v := p2) e2) (by omega) ⟨Nat.le_refl _, Nat.le_refl _⟩ (Nat.le_of_ble_eq_true rfl) ?_
        rintro _ _ ⟨rfl, rfl⟩
        refine ab_callS (bc2 := 0) (bs2 := 0) (as := [_, _]) (rest := []) ckG_unpack rfl (by decide +kernel) wG_number (tG_number (d := d + 1) (x1 := y3) (x2 := p2)) (by omega) ⟨Nat.le_refl _, Nat.le_refl _⟩ (Nat.le_of_ble_eq_true rfl) ?_
        rintro _ _ ⟨rfl, rfl⟩
        refine ab_go 3 [10] (pc' := 49) (lo' := [some (.ref 9), none, none, some (.long y3), none, some (.int y5), some (.int y6), some (.int p1), some (.int (fG_number y3 p2))]) (st' := [.int (fG_number y3 p2), .int p1]) (h' := cs_H c rest) ckG_unpack rfl ?_
        rcases e3 : fN_refusalOfValue p1 (fG_number y3 p2) with _ | p3
        · exact ab_no hv (by simp only [fG_unpack_10, if_neg h1, if_pos h2, e1, ab_bd_s, if_neg h3, e2, ab_bd_s, e3, ab_bd_n])
        refine ab_callS (bc2 := 0) (bs2 := 0) (as := [_, _]) (rest := []) ckG_unpack rfl (by decide +kernel) wN_refusalOfValue (tN_refusalOfValue (d := d) (x1 := p1) (x2 := (fG_number y3 p2)) hX (v := p3) e3) (by omega) ⟨Nat.le_refl _, Nat.le_refl _⟩ (Nat.le_of_ble_eq_true rfl) ?_
        rintro _ _ ⟨rfl, rfl⟩
        refine ab_if_ne ckG_unpack rfl (fun (h4 : ¬ (p3 = 0)) => ?_) (fun (h4 : p3 = 0) => ?_)
        · refine ab_go 3 [10] (pc' := 66) (lo' := [some (.ref 9), none, none, some (.long y3), none, some (.int y5), some (.int y6), some (.int p1), some (.int (fG_number y3 p2))]) (st' := [.int p1, .int (8 : Int32), .long y3]) (h' := cs_H c rest) ckG_unpack rfl ?_
          refine ab_callS (bc2 := 0) (bs2 := 0) (as := [_]) (rest := [_, _]) ckG_unpack rfl (by decide +kernel) wC_bytes (tC_bytes (d := d + 1) (x1 := p1) hX (v := p2) e2) (by omega) ⟨Nat.le_refl _, Nat.le_refl _⟩ (Nat.le_of_ble_eq_true rfl) ?_
          rintro _ _ ⟨rfl, rfl⟩
          refine ab_go 5 [10] (pc' := 10) (lo' := [some (.ref 9), none, none, some (.long ((y3).toUInt64 >>> ((((8 : Int32) * p2)).toInt64.toUInt64 &&& Int64.toUInt64 63)).toInt64), none, some (.int y5), some (.int (y6 + (1 : Int32))), some (.int p1), some (.int (fG_number y3 p2))]) (st' := []) (h' := cs_H c rest) ckG_unpack rfl ?_
          have e : fG_unpack_10 (n + 1) c y3 y5 y6 = fG_unpack_10 n c ((y3).toUInt64 >>> ((((8 : Int32) * p2)).toInt64.toUInt64 &&& Int64.toUInt64 63)).toInt64 y5 (y6 + (1 : Int32)) := by simp only [fG_unpack_10, if_neg h1, if_pos h2, e1, ab_bd_s, if_neg h3, e2, ab_bd_s, e3, ab_bd_s, if_neg h4]
          exact ab_W.weak (ih c ((y3).toUInt64 >>> ((((8 : Int32) * p2)).toInt64.toUInt64 &&& Int64.toUInt64 63)).toInt64 y5 (y6 + (1 : Int32)) v (e.symm.trans hv)) ⟨rfl, rfl, rfl, rfl, trivial⟩
        · refine ab_go 3 [10] (pc' := 60) (lo' := [some (.ref 9), none, none, some (.long y3), none, some (.int y5), some (.int y6), some (.int p1), some (.int (fG_number y3 p2))]) (st' := [.int (fG_number y3 p2), .int p1, .ref 9]) (h' := cs_H c rest) ckG_unpack rfl ?_
          by_cases h5 : ab_inb p1 30 = true
          case neg => exact ab_no hv (by simp only [fG_unpack_10, if_neg h1, if_pos h2, e1, ab_bd_s, if_neg h3, e2, ab_bd_s, e3, ab_bd_s, if_pos h4, if_neg h5])
          refine ab_iast ckG_unpack rfl rfl (ab_inb_ok h5) ?_
          refine ab_go 3 [10] (pc' := 66) (lo' := [some (.ref 9), none, none, some (.long y3), none, some (.int y5), some (.int y6), some (.int p1), some (.int (fG_number y3 p2))]) (st' := [.int p1, .int (8 : Int32), .long y3]) (h' := cs_H (cs_u c 1 (p1).toNatClampNeg (fG_number y3 p2)) rest) ckG_unpack rfl ?_
          refine ab_callS (bc2 := 0) (bs2 := 0) (as := [_]) (rest := [_, _]) ckG_unpack rfl (by decide +kernel) wC_bytes (tC_bytes (d := d + 1) (x1 := p1) hX (v := p2) e2) (by omega) ⟨Nat.le_refl _, Nat.le_refl _⟩ (Nat.le_of_ble_eq_true rfl) ?_
          rintro _ _ ⟨rfl, rfl⟩
          refine ab_go 5 [10] (pc' := 10) (lo' := [some (.ref 9), none, none, some (.long ((y3).toUInt64 >>> ((((8 : Int32) * p2)).toInt64.toUInt64 &&& Int64.toUInt64 63)).toInt64), none, some (.int y5), some (.int (y6 + (1 : Int32))), some (.int p1), some (.int (fG_number y3 p2))]) (st' := []) (h' := cs_H (cs_u c 1 (p1).toNatClampNeg (fG_number y3 p2)) rest) ckG_unpack rfl ?_
          have e : fG_unpack_10 (n + 1) c y3 y5 y6 = fG_unpack_10 n (cs_u c 1 (p1).toNatClampNeg (fG_number y3 p2)) ((y3).toUInt64 >>> ((((8 : Int32) * p2)).toInt64.toUInt64 &&& Int64.toUInt64 63)).toInt64 y5 (y6 + (1 : Int32)) := by simp only [fG_unpack_10, if_neg h1, if_pos h2, e1, ab_bd_s, if_neg h3, e2, ab_bd_s, e3, ab_bd_s, if_pos h4, if_pos h5]
          exact ab_W.weak (ih (cs_u c 1 (p1).toNatClampNeg (fG_number y3 p2)) ((y3).toUInt64 >>> ((((8 : Int32) * p2)).toInt64.toUInt64 &&& Int64.toUInt64 63)).toInt64 y5 (y6 + (1 : Int32)) v (e.symm.trans hv)) ⟨rfl, rfl, rfl, rfl, trivial⟩
theorem tG_unpack {x2 : Int64} (hX : cs_X X) {v : cs_S} (hv : fG_unpack c x2 = some v) : ab_M X mG_unpack (d + 2) 0 0 [.ref 9, .long x2] (cs_H c rest) (fun r9 h9 => r9 = none ∧ h9 = cs_H v rest) := by
  refine ab_entry (by decide) (Nat.le_of_ble_eq_true rfl) ?_
  refine ab_go 8 [10] (pc' := 10) (lo' := [some (.ref 9), some (.long x2), none, some (.long x2), none, some (.int (c.1 1 5)), some (.int (1 : Int32)), none, none]) (st' := []) (h' := cs_H c rest) ckG_unpack rfl ?_
  have e : fG_unpack c x2 = fG_unpack_10 40 c x2 (c.1 1 5) (1 : Int32) := by simp only [fG_unpack]
  exact ab_W.weak (tG_unpack_10 hX 40 c x2 (c.1 1 5) (1 : Int32) v (e.symm.trans hv)) ⟨rfl, rfl, rfl, rfl, trivial⟩
def fT_wordAt (c : cs_S) (x1 : Int32) (x2 : Int32) : Option (Int32) := (if x1 < 0 then (some (0 : Int32)) else (if (1 : Int32) < x1 then (some (0 : Int32)) else (if x2 < 0 then (some (0 : Int32)) else (if x2 < (22 : Int32) then (if x1 = (0 : Int32) then (if ab_inb x2 22 = true then (some (c.1 4 (x2).toNatClampNeg)) else none) else (if x1 = (1 : Int32) then (if ab_inb x2 22 = true then (some (c.1 5 (x2).toNatClampNeg)) else none) else none)) else (some (0 : Int32))))))
theorem tT_wordAt {x1 : Int32} {x2 : Int32} {v : Int32} (hv : fT_wordAt c x1 x2 = some v) : ab_M X mT_wordAt (d) 0 0 [.ref 14, .int x1, .int x2] (cs_H c rest) (fun r9 h9 => r9 = some (Value.int v) ∧ h9 = cs_H c rest) := by
  refine ab_entry (by decide) (Nat.le_of_ble_eq_true rfl) ?_
  refine ab_go 1 [] (pc' := 1) (lo' := [some (.ref 14), some (.int x1), some (.int x2)]) (st' := [.int x1]) (h' := cs_H c rest) ckT_wordAt rfl ?_
  refine ab_if_lt ckT_wordAt rfl (fun (h1 : x1 < 0) => ?_) (fun (h1 : ¬ (x1 < 0)) => ?_)
  · refine ab_go 1 [] (pc' := 20) (lo' := [some (.ref 14), some (.int x1), some (.int x2)]) (st' := [.int (0 : Int32)]) (h' := cs_H c rest) ckT_wordAt rfl ?_
    have e : fT_wordAt c x1 x2 = some (0 : Int32) := by simp only [fT_wordAt, if_pos h1]
    obtain rfl := Option.some.inj (e.symm.trans hv)
    exact ab_iret ckT_wordAt rfl rfl ⟨rfl, rfl⟩
  · refine ab_go 2 [] (pc' := 6) (lo' := [some (.ref 14), some (.int x1), some (.int x2)]) (st' := [.int (1 : Int32), .int x1]) (h' := cs_H c rest) ckT_wordAt rfl ?_
    refine ab_icmp_gt ckT_wordAt rfl (fun (h2 : (1 : Int32) < x1) => ?_) (fun (h2 : ¬ ((1 : Int32) < x1)) => ?_)
    · refine ab_go 1 [] (pc' := 20) (lo' := [some (.ref 14), some (.int x1), some (.int x2)]) (st' := [.int (0 : Int32)]) (h' := cs_H c rest) ckT_wordAt rfl ?_
      have e : fT_wordAt c x1 x2 = some (0 : Int32) := by simp only [fT_wordAt, if_neg h1, if_pos h2]
      obtain rfl := Option.some.inj (e.symm.trans hv)
      exact ab_iret ckT_wordAt rfl rfl ⟨rfl, rfl⟩
    · refine ab_go 1 [] (pc' := 10) (lo' := [some (.ref 14), some (.int x1), some (.int x2)]) (st' := [.int x2]) (h' := cs_H c rest) ckT_wordAt rfl ?_
      refine ab_if_lt ckT_wordAt rfl (fun (h3 : x2 < 0) => ?_) (fun (h3 : ¬ (x2 < 0)) => ?_)
      · refine ab_go 1 [] (pc' := 20) (lo' := [some (.ref 14), some (.int x1), some (.int x2)]) (st' := [.int (0 : Int32)]) (h' := cs_H c rest) ckT_wordAt rfl ?_
        have e : fT_wordAt c x1 x2 = some (0 : Int32) := by simp only [fT_wordAt, if_neg h1, if_neg h2, if_pos h3]
        obtain rfl := Option.some.inj (e.symm.trans hv)
        exact ab_iret ckT_wordAt rfl rfl ⟨rfl, rfl⟩
      · refine ab_go 2 [] (pc' := 16) (lo' := [some (.ref 14), some (.int x1), some (.int x2)]) (st' := [.int (22 : Int32), .int x2]) (h' := cs_H c rest) ckT_wordAt rfl ?_
        refine ab_icmp_lt ckT_wordAt rfl (fun (h4 : x2 < (22 : Int32)) => ?_) (fun (h4 : ¬ (x2 < (22 : Int32))) => ?_)
        · refine ab_go 3 [] (pc' := 26) (lo' := [some (.ref 14), some (.int x1), some (.int x2)]) (st' := [.int x1, .ref 15]) (h' := cs_H c rest) ckT_wordAt rfl ?_
          by_cases h5 : x1 = (0 : Int32)
          · refine ab_aald (q := 16) ckT_wordAt rfl rfl (by rw [h5]; exact ab_inb_ok (by decide)) (by rw [h5]; rfl) ?_
            refine ab_go 1 [] (pc' := 28) (lo' := [some (.ref 14), some (.int x1), some (.int x2)]) (st' := [.int x2, .ref 16]) (h' := cs_H c rest) ckT_wordAt rfl ?_
            by_cases h7 : ab_inb x2 22 = true
            case neg => exact ab_no hv (by simp only [fT_wordAt, if_neg h1, if_neg h2, if_neg h3, if_pos h4, if_pos h5, if_neg h7])
            refine ab_iald ckT_wordAt rfl rfl (ab_inb_ok h7) ?_
            have e : fT_wordAt c x1 x2 = some (c.1 4 (x2).toNatClampNeg) := by simp only [fT_wordAt, if_neg h1, if_neg h2, if_neg h3, if_pos h4, if_pos h5, if_pos h7]
            obtain rfl := Option.some.inj (e.symm.trans hv)
            exact ab_iret ckT_wordAt rfl rfl ⟨rfl, rfl⟩
          by_cases h6 : x1 = (1 : Int32)
          case neg => exact ab_no hv (by simp only [fT_wordAt, if_neg h1, if_neg h2, if_neg h3, if_pos h4, if_neg h5, if_neg h6])
          refine ab_aald (q := 17) ckT_wordAt rfl rfl (by rw [h6]; exact ab_inb_ok (by decide)) (by rw [h6]; rfl) ?_
          refine ab_go 1 [] (pc' := 28) (lo' := [some (.ref 14), some (.int x1), some (.int x2)]) (st' := [.int x2, .ref 17]) (h' := cs_H c rest) ckT_wordAt rfl ?_
          by_cases h8 : ab_inb x2 22 = true
          case neg => exact ab_no hv (by simp only [fT_wordAt, if_neg h1, if_neg h2, if_neg h3, if_pos h4, if_neg h5, if_pos h6, if_neg h8])
          refine ab_iald ckT_wordAt rfl rfl (ab_inb_ok h8) ?_
          have e : fT_wordAt c x1 x2 = some (c.1 5 (x2).toNatClampNeg) := by simp only [fT_wordAt, if_neg h1, if_neg h2, if_neg h3, if_pos h4, if_neg h5, if_pos h6, if_pos h8]
          obtain rfl := Option.some.inj (e.symm.trans hv)
          exact ab_iret ckT_wordAt rfl rfl ⟨rfl, rfl⟩
        · refine ab_go 1 [] (pc' := 20) (lo' := [some (.ref 14), some (.int x1), some (.int x2)]) (st' := [.int (0 : Int32)]) (h' := cs_H c rest) ckT_wordAt rfl ?_
          have e : fT_wordAt c x1 x2 = some (0 : Int32) := by simp only [fT_wordAt, if_neg h1, if_neg h2, if_neg h3, if_neg h4]
          obtain rfl := Option.some.inj (e.symm.trans hv)
          exact ab_iret ckT_wordAt rfl rfl ⟨rfl, rfl⟩
def fT_isBusy (c : cs_S)  : Int32 := (if (c.1 0 7) = (-1 : Int32) then (0 : Int32) else (1 : Int32))
theorem tT_isBusy : ab_M X mT_isBusy (d) 0 0 [.ref 14] (cs_H c rest) (fun r9 h9 => r9 = some (Value.int (fT_isBusy c)) ∧ h9 = cs_H c rest) := by
  refine ab_entry (by decide) (Nat.le_of_ble_eq_true rfl) ?_
  refine ab_go 3 [] (pc' := 5) (lo' := [some (.ref 14)]) (st' := [.int (-1 : Int32), .int (c.1 0 7)]) (h' := cs_H c rest) ckT_isBusy rfl ?_
  refine ab_icmp_eq ckT_isBusy rfl (fun (h1 : (c.1 0 7) = (-1 : Int32)) => ?_) (fun (h1 : ¬ ((c.1 0 7) = (-1 : Int32))) => ?_)
  · refine ab_go 1 [] (pc' := 13) (lo' := [some (.ref 14)]) (st' := [.int (0 : Int32)]) (h' := cs_H c rest) ckT_isBusy rfl ?_
    have e : fT_isBusy c = (0 : Int32) := by simp only [fT_isBusy, if_pos h1]
    exact ab_zret ckT_isBusy rfl rfl (Or.inl rfl) ⟨(congrArg (fun q : Int32 => some (Value.int q)) e).symm, rfl⟩
  · refine ab_go 2 [] (pc' := 13) (lo' := [some (.ref 14)]) (st' := [.int (1 : Int32)]) (h' := cs_H c rest) ckT_isBusy rfl ?_
    have e : fT_isBusy c = (1 : Int32) := by simp only [fT_isBusy, if_neg h1]
    exact ab_zret ckT_isBusy rfl rfl (Or.inr rfl) ⟨(congrArg (fun q : Int32 => some (Value.int q)) e).symm, rfl⟩
def fT_giveUp (c : cs_S)  : cs_S := (cs_u c 0 7 (-1 : Int32))
theorem tT_giveUp : ab_M X mT_giveUp (d) 0 0 [.ref 14] (cs_H c rest) (fun r9 h9 => r9 = none ∧ h9 = cs_H (fT_giveUp c) rest) := by
  refine ab_entry (by decide) (Nat.le_of_ble_eq_true rfl) ?_
  refine ab_go 3 [] (pc' := 5) (lo' := [some (.ref 14)]) (st' := []) (h' := cs_H (cs_u c 0 7 (-1 : Int32)) rest) ckT_giveUp rfl ?_
  have e : fT_giveUp c = (cs_u c 0 7 (-1 : Int32)) := by simp only [fT_giveUp]
  exact ab_vret ckT_giveUp rfl rfl ⟨rfl, (congrArg (fun q : cs_S => cs_H q rest) e).symm⟩
def fT_begin (c : cs_S)  : cs_S := (if (c.1 4 0) ≤ (c.1 5 0) then (cs_u (cs_u c 0 6 (0 : Int32)) 0 7 (0 : Int32)) else (cs_u (cs_u c 0 6 (1 : Int32)) 0 7 (0 : Int32)))
theorem tT_begin : ab_M X mT_begin (d) 0 0 [.ref 14] (cs_H c rest) (fun r9 h9 => r9 = none ∧ h9 = cs_H (fT_begin c) rest) := by
  refine ab_entry (by decide) (Nat.le_of_ble_eq_true rfl) ?_
  refine ab_go 12 [] (pc' := 16) (lo' := [some (.ref 14)]) (st' := [.int (0 : Int32), .ref 16, .int (c.1 5 0), .ref 14]) (h' := cs_H c rest) ckT_begin rfl ?_
  refine ab_go 1 [] (pc' := 17) (lo' := [some (.ref 14)]) (st' := [.int (c.1 4 0), .int (c.1 5 0), .ref 14]) (h' := cs_H c rest) ckT_begin rfl ?_
  refine ab_icmp_ge ckT_begin rfl (fun (h1 : (c.1 4 0) ≤ (c.1 5 0)) => ?_) (fun (h1 : ¬ ((c.1 4 0) ≤ (c.1 5 0))) => ?_)
  · refine ab_go 5 [] (pc' := 33) (lo' := [some (.ref 14)]) (st' := []) (h' := cs_H (cs_u (cs_u c 0 6 (0 : Int32)) 0 7 (0 : Int32)) rest) ckT_begin rfl ?_
    have e : fT_begin c = (cs_u (cs_u c 0 6 (0 : Int32)) 0 7 (0 : Int32)) := by simp only [fT_begin, if_pos h1]
    exact ab_vret ckT_begin rfl rfl ⟨rfl, (congrArg (fun q : cs_S => cs_H q rest) e).symm⟩
  · refine ab_go 6 [] (pc' := 33) (lo' := [some (.ref 14)]) (st' := []) (h' := cs_H (cs_u (cs_u c 0 6 (1 : Int32)) 0 7 (0 : Int32)) rest) ckT_begin rfl ?_
    have e : fT_begin c = (cs_u (cs_u c 0 6 (1 : Int32)) 0 7 (0 : Int32)) := by simp only [fT_begin, if_neg h1]
    exact ab_vret ckT_begin rfl rfl ⟨rfl, (congrArg (fun q : cs_S => cs_H q rest) e).symm⟩
def fT_beginSave_2 : Nat → cs_S → Int32 → Option (cs_S)
  | 0, _, _ => none
  | n + 1, c, y2 => (if (22 : Int32) ≤ y2 then (let p1 := fT_begin c; (some p1)) else (ab_bd (fC_kept (y2 - (1 : Int32))) (fun p2 => (if ab_inb p2 30 = true then (if ab_inb y2 22 = true then fT_beginSave_2 n (cs_u c 6 (y2).toNatClampNeg (c.1 1 (p2).toNatClampNeg)) (y2 + (1 : Int32)) else none) else none))))
def fT_beginSave (c : cs_S)  : Option (cs_S) := fT_beginSave_2 40 c (1 : Int32)
theorem tT_beginSave_2 (hX : cs_X X) (n : Nat)   : ∀ (c : cs_S) (y2 : Int32)  (v : cs_S) (hv : fT_beginSave_2 n c y2 = some v), ab_W X mT_beginSave (d + 1) 0 0 2 [some (.ref 14), some (.ref 9), some (.int y2)] [] (cs_H c rest) (fun r9 h9 => r9 = none ∧ h9 = cs_H v rest) := by
  induction n with
  | zero =>
    intro c y2 v hv
    cases hv
  | succ n ih =>
    intro c y2 v hv
    refine ab_go 2 [2] (pc' := 5) (lo' := [some (.ref 14), some (.ref 9), some (.int y2)]) (st' := [.int (22 : Int32), .int y2]) (h' := cs_H c rest) ckT_beginSave rfl ?_
    refine ab_icmp_ge ckT_beginSave rfl (fun (h1 : (22 : Int32) ≤ y2) => ?_) (fun (h1 : ¬ ((22 : Int32) ≤ y2)) => ?_)
    · refine ab_go 1 [2] (pc' := 29) (lo' := [some (.ref 14), some (.ref 9), some (.int y2)]) (st' := [.ref 14]) (h' := cs_H c rest) ckT_beginSave rfl ?_
      refine ab_callV (bc2 := 0) (bs2 := 0) (as := []) (rest := []) ckT_beginSave rfl (by decide +kernel) wT_begin (tT_begin (d := d) (c := c)) rfl rfl (by omega) ⟨Nat.le_refl _, Nat.le_refl _⟩ (Nat.le_of_ble_eq_true rfl) ?_
      rintro _ _ ⟨rfl, rfl⟩
      generalize e1 : fT_begin c = p1
      have e : fT_beginSave_2 (n + 1) c y2 = some p1 := by simp only [fT_beginSave_2, if_pos h1, e1]
      obtain rfl := Option.some.inj (e.symm.trans hv)
      exact ab_vret ckT_beginSave rfl rfl ⟨rfl, rfl⟩
    · refine ab_go 7 [2] (pc' := 17) (lo' := [some (.ref 14), some (.ref 9), some (.int y2)]) (st' := [.int (y2 - (1 : Int32)), .ref 9, .int y2, .ref 18]) (h' := cs_H c rest) ckT_beginSave rfl ?_
      rcases e2 : fC_kept (y2 - (1 : Int32)) with _ | p2
      · exact ab_no hv (by simp only [fT_beginSave_2, if_neg h1, e2, ab_bd_n])
      refine ab_callS (bc2 := 0) (bs2 := 0) (as := [_]) (rest := [_, _, _]) ckT_beginSave rfl (by decide +kernel) wC_kept (tC_kept (d := d) (x1 := (y2 - (1 : Int32))) hX (v := p2) e2) (by omega) ⟨Nat.le_refl _, Nat.le_refl _⟩ (Nat.le_of_ble_eq_true rfl) ?_
      rintro _ _ ⟨rfl, rfl⟩
      by_cases h2 : ab_inb p2 30 = true
      case neg => exact ab_no hv (by simp only [fT_beginSave_2, if_neg h1, e2, ab_bd_s, if_neg h2])
      refine ab_iald ckT_beginSave rfl rfl (ab_inb_ok h2) ?_
      by_cases h3 : ab_inb y2 22 = true
      case neg => exact ab_no hv (by simp only [fT_beginSave_2, if_neg h1, e2, ab_bd_s, if_pos h2, if_neg h3])
      refine ab_iast ckT_beginSave rfl rfl (ab_inb_ok h3) ?_
      refine ab_go 2 [2] (pc' := 2) (lo' := [some (.ref 14), some (.ref 9), some (.int (y2 + (1 : Int32)))]) (st' := []) (h' := cs_H (cs_u c 6 (y2).toNatClampNeg (c.1 1 (p2).toNatClampNeg)) rest) ckT_beginSave rfl ?_
      have e : fT_beginSave_2 (n + 1) c y2 = fT_beginSave_2 n (cs_u c 6 (y2).toNatClampNeg (c.1 1 (p2).toNatClampNeg)) (y2 + (1 : Int32)) := by simp only [fT_beginSave_2, if_neg h1, e2, ab_bd_s, if_pos h2, if_pos h3]
      exact ab_W.weak (ih (cs_u c 6 (y2).toNatClampNeg (c.1 1 (p2).toNatClampNeg)) (y2 + (1 : Int32)) v (e.symm.trans hv)) ⟨rfl, rfl, rfl, trivial⟩
theorem tT_beginSave (hX : cs_X X) {v : cs_S} (hv : fT_beginSave c = some v) : ab_M X mT_beginSave (d + 1) 0 0 [.ref 14, .ref 9] (cs_H c rest) (fun r9 h9 => r9 = none ∧ h9 = cs_H v rest) := by
  refine ab_entry (by decide) (Nat.le_of_ble_eq_true rfl) ?_
  refine ab_go 2 [2] (pc' := 2) (lo' := [some (.ref 14), some (.ref 9), some (.int (1 : Int32))]) (st' := []) (h' := cs_H c rest) ckT_beginSave rfl ?_
  have e : fT_beginSave c = fT_beginSave_2 40 c (1 : Int32) := by simp only [fT_beginSave]
  exact ab_W.weak (tT_beginSave_2 hX 40 c (1 : Int32) v (e.symm.trans hv)) ⟨rfl, rfl, rfl, trivial⟩
def fT_beginRestore_2 : Nat → cs_S → Int32 → Option (cs_S)
  | 0, _, _ => none
  | n + 1, c, y1 => (if (22 : Int32) ≤ y1 then (let p1 := fT_begin c; (some p1)) else (ab_bd (fC_kept (y1 - (1 : Int32))) (fun p2 => (ab_bd (fC_start p2) (fun p3 => (if ab_inb y1 22 = true then fT_beginRestore_2 n (cs_u c 6 (y1).toNatClampNeg p3) (y1 + (1 : Int32)) else none))))))
def fT_beginRestore (c : cs_S)  : Option (cs_S) := fT_beginRestore_2 40 c (1 : Int32)
theorem tT_beginRestore_2 (hX : cs_X X) (n : Nat)   : ∀ (c : cs_S) (y1 : Int32)  (v : cs_S) (hv : fT_beginRestore_2 n c y1 = some v), ab_W X mT_beginRestore (d + 1) 0 0 2 [some (.ref 14), some (.int y1)] [] (cs_H c rest) (fun r9 h9 => r9 = none ∧ h9 = cs_H v rest) := by
  induction n with
  | zero =>
    intro c y1 v hv
    cases hv
  | succ n ih =>
    intro c y1 v hv
    refine ab_go 2 [2] (pc' := 5) (lo' := [some (.ref 14), some (.int y1)]) (st' := [.int (22 : Int32), .int y1]) (h' := cs_H c rest) ckT_beginRestore rfl ?_
    refine ab_icmp_ge ckT_beginRestore rfl (fun (h1 : (22 : Int32) ≤ y1) => ?_) (fun (h1 : ¬ ((22 : Int32) ≤ y1)) => ?_)
    · refine ab_go 1 [2] (pc' := 30) (lo' := [some (.ref 14), some (.int y1)]) (st' := [.ref 14]) (h' := cs_H c rest) ckT_beginRestore rfl ?_
      refine ab_callV (bc2 := 0) (bs2 := 0) (as := []) (rest := []) ckT_beginRestore rfl (by decide +kernel) wT_begin (tT_begin (d := d) (c := c)) rfl rfl (by omega) ⟨Nat.le_refl _, Nat.le_refl _⟩ (Nat.le_of_ble_eq_true rfl) ?_
      rintro _ _ ⟨rfl, rfl⟩
      generalize e1 : fT_begin c = p1
      have e : fT_beginRestore_2 (n + 1) c y1 = some p1 := by simp only [fT_beginRestore_2, if_pos h1, e1]
      obtain rfl := Option.some.inj (e.symm.trans hv)
      exact ab_vret ckT_beginRestore rfl rfl ⟨rfl, rfl⟩
    · refine ab_go 6 [2] (pc' := 16) (lo' := [some (.ref 14), some (.int y1)]) (st' := [.int (y1 - (1 : Int32)), .int y1, .ref 18]) (h' := cs_H c rest) ckT_beginRestore rfl ?_
      rcases e2 : fC_kept (y1 - (1 : Int32)) with _ | p2
      · exact ab_no hv (by simp only [fT_beginRestore_2, if_neg h1, e2, ab_bd_n])
      refine ab_callS (bc2 := 0) (bs2 := 0) (as := [_]) (rest := [_, _]) ckT_beginRestore rfl (by decide +kernel) wC_kept (tC_kept (d := d) (x1 := (y1 - (1 : Int32))) hX (v := p2) e2) (by omega) ⟨Nat.le_refl _, Nat.le_refl _⟩ (Nat.le_of_ble_eq_true rfl) ?_
      rintro _ _ ⟨rfl, rfl⟩
      rcases e3 : fC_start p2 with _ | p3
      · exact ab_no hv (by simp only [fT_beginRestore_2, if_neg h1, e2, ab_bd_s, e3, ab_bd_n])
      refine ab_callS (bc2 := 0) (bs2 := 0) (as := [_]) (rest := [_, _]) ckT_beginRestore rfl (by decide +kernel) wC_start (tC_start (d := d) (x1 := p2) hX (v := p3) e3) (by omega) ⟨Nat.le_refl _, Nat.le_refl _⟩ (Nat.le_of_ble_eq_true rfl) ?_
      rintro _ _ ⟨rfl, rfl⟩
      by_cases h2 : ab_inb y1 22 = true
      case neg => exact ab_no hv (by simp only [fT_beginRestore_2, if_neg h1, e2, ab_bd_s, e3, ab_bd_s, if_neg h2])
      refine ab_iast ckT_beginRestore rfl rfl (ab_inb_ok h2) ?_
      refine ab_go 2 [2] (pc' := 2) (lo' := [some (.ref 14), some (.int (y1 + (1 : Int32)))]) (st' := []) (h' := cs_H (cs_u c 6 (y1).toNatClampNeg p3) rest) ckT_beginRestore rfl ?_
      have e : fT_beginRestore_2 (n + 1) c y1 = fT_beginRestore_2 n (cs_u c 6 (y1).toNatClampNeg p3) (y1 + (1 : Int32)) := by simp only [fT_beginRestore_2, if_neg h1, e2, ab_bd_s, e3, ab_bd_s, if_pos h2]
      exact ab_W.weak (ih (cs_u c 6 (y1).toNatClampNeg p3) (y1 + (1 : Int32)) v (e.symm.trans hv)) ⟨rfl, rfl, trivial⟩
theorem tT_beginRestore (hX : cs_X X) {v : cs_S} (hv : fT_beginRestore c = some v) : ab_M X mT_beginRestore (d + 1) 0 0 [.ref 14] (cs_H c rest) (fun r9 h9 => r9 = none ∧ h9 = cs_H v rest) := by
  refine ab_entry (by decide) (Nat.le_of_ble_eq_true rfl) ?_
  refine ab_go 2 [2] (pc' := 2) (lo' := [some (.ref 14), some (.int (1 : Int32))]) (st' := []) (h' := cs_H c rest) ckT_beginRestore rfl ?_
  have e : fT_beginRestore c = fT_beginRestore_2 40 c (1 : Int32) := by simp only [fT_beginRestore]
  exact ab_W.weak (tT_beginRestore_2 hX 40 c (1 : Int32) v (e.symm.trans hv)) ⟨rfl, rfl, trivial⟩
def fT_goOn (c : cs_S)  : Option (cs_S) := (if (c.1 0 7) = (-1 : Int32) then (some c) else (if (c.1 0 7) = (22 : Int32) then (if (c.1 0 6) = (0 : Int32) then (if ((1 : Int32) - (c.1 0 6)) = (0 : Int32) then (some (cs_u (cs_u c 4 0 ((c.1 4 0) + (1 : Int32))) 0 7 (-1 : Int32))) else (if ((1 : Int32) - (c.1 0 6)) = (1 : Int32) then (some (cs_u (cs_u c 4 0 ((c.1 5 0) + (1 : Int32))) 0 7 (-1 : Int32))) else none)) else (if (c.1 0 6) = (1 : Int32) then (if ((1 : Int32) - (c.1 0 6)) = (0 : Int32) then (some (cs_u (cs_u c 5 0 ((c.1 4 0) + (1 : Int32))) 0 7 (-1 : Int32))) else (if ((1 : Int32) - (c.1 0 6)) = (1 : Int32) then (some (cs_u (cs_u c 5 0 ((c.1 5 0) + (1 : Int32))) 0 7 (-1 : Int32))) else none)) else none)) else (if (c.1 0 6) = (0 : Int32) then (if (c.1 0 7) = 0 then (if ab_inb (c.1 0 7) 22 = true then (some (cs_u (cs_u c 4 ((c.1 0 7)).toNatClampNeg (0 : Int32)) 0 7 ((c.1 0 7) + (1 : Int32)))) else none) else (if ab_inb (c.1 0 7) 22 = true then (some (cs_u (cs_u c 4 ((c.1 0 7)).toNatClampNeg (c.1 6 ((c.1 0 7)).toNatClampNeg)) 0 7 ((c.1 0 7) + (1 : Int32)))) else none)) else (if (c.1 0 6) = (1 : Int32) then (if (c.1 0 7) = 0 then (if ab_inb (c.1 0 7) 22 = true then (some (cs_u (cs_u c 5 ((c.1 0 7)).toNatClampNeg (0 : Int32)) 0 7 ((c.1 0 7) + (1 : Int32)))) else none) else (if ab_inb (c.1 0 7) 22 = true then (some (cs_u (cs_u c 5 ((c.1 0 7)).toNatClampNeg (c.1 6 ((c.1 0 7)).toNatClampNeg)) 0 7 ((c.1 0 7) + (1 : Int32)))) else none)) else none))))
theorem tT_goOn {v : cs_S} (hv : fT_goOn c = some v) : ab_M X mT_goOn (d) 0 0 [.ref 14] (cs_H c rest) (fun r9 h9 => r9 = none ∧ h9 = cs_H v rest) := by
  refine ab_entry (by decide) (Nat.le_of_ble_eq_true rfl) ?_
  refine ab_go 3 [] (pc' := 5) (lo' := [some (.ref 14)]) (st' := [.int (-1 : Int32), .int (c.1 0 7)]) (h' := cs_H c rest) ckT_goOn rfl ?_
  refine ab_icmp_ne ckT_goOn rfl (fun (h1 : ¬ ((c.1 0 7) = (-1 : Int32))) => ?_) (fun (h1 : (c.1 0 7) = (-1 : Int32)) => ?_)
  · refine ab_go 3 [] (pc' := 15) (lo' := [some (.ref 14)]) (st' := [.int (22 : Int32), .int (c.1 0 7)]) (h' := cs_H c rest) ckT_goOn rfl ?_
    refine ab_icmp_ne ckT_goOn rfl (fun (h2 : ¬ ((c.1 0 7) = (22 : Int32))) => ?_) (fun (h2 : (c.1 0 7) = (22 : Int32)) => ?_)
    · refine ab_go 4 [] (pc' := 58) (lo' := [some (.ref 14)]) (st' := [.int (c.1 0 6), .ref 15]) (h' := cs_H c rest) ckT_goOn rfl ?_
      by_cases h3 : (c.1 0 6) = (0 : Int32)
      · refine ab_aald (q := 16) ckT_goOn rfl rfl (by rw [h3]; exact ab_inb_ok (by decide)) (by rw [h3]; rfl) ?_
        refine ab_go 4 [] (pc' := 67) (lo' := [some (.ref 14)]) (st' := [.int (c.1 0 7), .int (c.1 0 7), .ref 16]) (h' := cs_H c rest) ckT_goOn rfl ?_
        refine ab_if_ne ckT_goOn rfl (fun (h5 : ¬ ((c.1 0 7) = 0)) => ?_) (fun (h5 : (c.1 0 7) = 0) => ?_)
        · refine ab_go 4 [] (pc' := 82) (lo' := [some (.ref 14)]) (st' := [.int (c.1 0 7), .ref 18, .int (c.1 0 7), .ref 16]) (h' := cs_H c rest) ckT_goOn rfl ?_
          by_cases h6 : ab_inb (c.1 0 7) 22 = true
          case neg => exact ab_no hv (by simp only [fT_goOn, if_neg h1, if_neg h2, if_pos h3, if_neg h5, if_neg h6])
          refine ab_iald ckT_goOn rfl rfl (ab_inb_ok h6) ?_
          refine ab_iast ckT_goOn rfl rfl (ab_inb_ok h6) ?_
          refine ab_go 6 [] (pc' := 94) (lo' := [some (.ref 14)]) (st' := []) (h' := cs_H (cs_u (cs_u c 4 ((c.1 0 7)).toNatClampNeg (c.1 6 ((c.1 0 7)).toNatClampNeg)) 0 7 ((c.1 0 7) + (1 : Int32))) rest) ckT_goOn rfl ?_
          have e : fT_goOn c = some (cs_u (cs_u c 4 ((c.1 0 7)).toNatClampNeg (c.1 6 ((c.1 0 7)).toNatClampNeg)) 0 7 ((c.1 0 7) + (1 : Int32))) := by simp only [fT_goOn, if_neg h1, if_neg h2, if_pos h3, if_neg h5, if_pos h6]
          obtain rfl := Option.some.inj (e.symm.trans hv)
          exact ab_vret ckT_goOn rfl rfl ⟨rfl, rfl⟩
        · refine ab_go 2 [] (pc' := 83) (lo' := [some (.ref 14)]) (st' := [.int (0 : Int32), .int (c.1 0 7), .ref 16]) (h' := cs_H c rest) ckT_goOn rfl ?_
          by_cases h7 : ab_inb (c.1 0 7) 22 = true
          case neg => exact ab_no hv (by simp only [fT_goOn, if_neg h1, if_neg h2, if_pos h3, if_pos h5, if_neg h7])
          refine ab_iast ckT_goOn rfl rfl (ab_inb_ok h7) ?_
          refine ab_go 6 [] (pc' := 94) (lo' := [some (.ref 14)]) (st' := []) (h' := cs_H (cs_u (cs_u c 4 ((c.1 0 7)).toNatClampNeg (0 : Int32)) 0 7 ((c.1 0 7) + (1 : Int32))) rest) ckT_goOn rfl ?_
          have e : fT_goOn c = some (cs_u (cs_u c 4 ((c.1 0 7)).toNatClampNeg (0 : Int32)) 0 7 ((c.1 0 7) + (1 : Int32))) := by simp only [fT_goOn, if_neg h1, if_neg h2, if_pos h3, if_pos h5, if_pos h7]
          obtain rfl := Option.some.inj (e.symm.trans hv)
          exact ab_vret ckT_goOn rfl rfl ⟨rfl, rfl⟩
      by_cases h4 : (c.1 0 6) = (1 : Int32)
      case neg => exact ab_no hv (by simp only [fT_goOn, if_neg h1, if_neg h2, if_neg h3, if_neg h4])
      refine ab_aald (q := 17) ckT_goOn rfl rfl (by rw [h4]; exact ab_inb_ok (by decide)) (by rw [h4]; rfl) ?_
      refine ab_go 4 [] (pc' := 67) (lo' := [some (.ref 14)]) (st' := [.int (c.1 0 7), .int (c.1 0 7), .ref 17]) (h' := cs_H c rest) ckT_goOn rfl ?_
      refine ab_if_ne ckT_goOn rfl (fun (h8 : ¬ ((c.1 0 7) = 0)) => ?_) (fun (h8 : (c.1 0 7) = 0) => ?_)
      · refine ab_go 4 [] (pc' := 82) (lo' := [some (.ref 14)]) (st' := [.int (c.1 0 7), .ref 18, .int (c.1 0 7), .ref 17]) (h' := cs_H c rest) ckT_goOn rfl ?_
        by_cases h9 : ab_inb (c.1 0 7) 22 = true
        case neg => exact ab_no hv (by simp only [fT_goOn, if_neg h1, if_neg h2, if_neg h3, if_pos h4, if_neg h8, if_neg h9])
        refine ab_iald ckT_goOn rfl rfl (ab_inb_ok h9) ?_
        refine ab_iast ckT_goOn rfl rfl (ab_inb_ok h9) ?_
        refine ab_go 6 [] (pc' := 94) (lo' := [some (.ref 14)]) (st' := []) (h' := cs_H (cs_u (cs_u c 5 ((c.1 0 7)).toNatClampNeg (c.1 6 ((c.1 0 7)).toNatClampNeg)) 0 7 ((c.1 0 7) + (1 : Int32))) rest) ckT_goOn rfl ?_
        have e : fT_goOn c = some (cs_u (cs_u c 5 ((c.1 0 7)).toNatClampNeg (c.1 6 ((c.1 0 7)).toNatClampNeg)) 0 7 ((c.1 0 7) + (1 : Int32))) := by simp only [fT_goOn, if_neg h1, if_neg h2, if_neg h3, if_pos h4, if_neg h8, if_pos h9]
        obtain rfl := Option.some.inj (e.symm.trans hv)
        exact ab_vret ckT_goOn rfl rfl ⟨rfl, rfl⟩
      · refine ab_go 2 [] (pc' := 83) (lo' := [some (.ref 14)]) (st' := [.int (0 : Int32), .int (c.1 0 7), .ref 17]) (h' := cs_H c rest) ckT_goOn rfl ?_
        by_cases h10 : ab_inb (c.1 0 7) 22 = true
        case neg => exact ab_no hv (by simp only [fT_goOn, if_neg h1, if_neg h2, if_neg h3, if_pos h4, if_pos h8, if_neg h10])
        refine ab_iast ckT_goOn rfl rfl (ab_inb_ok h10) ?_
        refine ab_go 6 [] (pc' := 94) (lo' := [some (.ref 14)]) (st' := []) (h' := cs_H (cs_u (cs_u c 5 ((c.1 0 7)).toNatClampNeg (0 : Int32)) 0 7 ((c.1 0 7) + (1 : Int32))) rest) ckT_goOn rfl ?_
        have e : fT_goOn c = some (cs_u (cs_u c 5 ((c.1 0 7)).toNatClampNeg (0 : Int32)) 0 7 ((c.1 0 7) + (1 : Int32))) := by simp only [fT_goOn, if_neg h1, if_neg h2, if_neg h3, if_pos h4, if_pos h8, if_pos h10]
        obtain rfl := Option.some.inj (e.symm.trans hv)
        exact ab_vret ckT_goOn rfl rfl ⟨rfl, rfl⟩
    · refine ab_go 4 [] (pc' := 26) (lo' := [some (.ref 14)]) (st' := [.int (c.1 0 6), .ref 15]) (h' := cs_H c rest) ckT_goOn rfl ?_
      by_cases h11 : (c.1 0 6) = (0 : Int32)
      · refine ab_aald (q := 16) ckT_goOn rfl rfl (by rw [h11]; exact ab_inb_ok (by decide)) (by rw [h11]; rfl) ?_
        refine ab_go 7 [] (pc' := 38) (lo' := [some (.ref 14)]) (st' := [.int ((1 : Int32) - (c.1 0 6)), .ref 15, .int (0 : Int32), .ref 16]) (h' := cs_H c rest) ckT_goOn rfl ?_
        by_cases h13 : ((1 : Int32) - (c.1 0 6)) = (0 : Int32)
        · refine ab_aald (q := 16) ckT_goOn rfl rfl (by rw [h13]; exact ab_inb_ok (by decide)) (by rw [h13]; rfl) ?_
          refine ab_go 8 [] (pc' := 49) (lo' := [some (.ref 14)]) (st' := []) (h' := cs_H (cs_u (cs_u c 4 0 ((c.1 4 0) + (1 : Int32))) 0 7 (-1 : Int32)) rest) ckT_goOn rfl ?_
          have e : fT_goOn c = some (cs_u (cs_u c 4 0 ((c.1 4 0) + (1 : Int32))) 0 7 (-1 : Int32)) := by simp only [fT_goOn, if_neg h1, if_pos h2, if_pos h11, if_pos h13]
          obtain rfl := Option.some.inj (e.symm.trans hv)
          exact ab_vret ckT_goOn rfl rfl ⟨rfl, rfl⟩
        by_cases h14 : ((1 : Int32) - (c.1 0 6)) = (1 : Int32)
        case neg => exact ab_no hv (by simp only [fT_goOn, if_neg h1, if_pos h2, if_pos h11, if_neg h13, if_neg h14])
        refine ab_aald (q := 17) ckT_goOn rfl rfl (by rw [h14]; exact ab_inb_ok (by decide)) (by rw [h14]; rfl) ?_
        refine ab_go 8 [] (pc' := 49) (lo' := [some (.ref 14)]) (st' := []) (h' := cs_H (cs_u (cs_u c 4 0 ((c.1 5 0) + (1 : Int32))) 0 7 (-1 : Int32)) rest) ckT_goOn rfl ?_
        have e : fT_goOn c = some (cs_u (cs_u c 4 0 ((c.1 5 0) + (1 : Int32))) 0 7 (-1 : Int32)) := by simp only [fT_goOn, if_neg h1, if_pos h2, if_pos h11, if_neg h13, if_pos h14]
        obtain rfl := Option.some.inj (e.symm.trans hv)
        exact ab_vret ckT_goOn rfl rfl ⟨rfl, rfl⟩
      by_cases h12 : (c.1 0 6) = (1 : Int32)
      case neg => exact ab_no hv (by simp only [fT_goOn, if_neg h1, if_pos h2, if_neg h11, if_neg h12])
      refine ab_aald (q := 17) ckT_goOn rfl rfl (by rw [h12]; exact ab_inb_ok (by decide)) (by rw [h12]; rfl) ?_
      refine ab_go 7 [] (pc' := 38) (lo' := [some (.ref 14)]) (st' := [.int ((1 : Int32) - (c.1 0 6)), .ref 15, .int (0 : Int32), .ref 17]) (h' := cs_H c rest) ckT_goOn rfl ?_
      by_cases h15 : ((1 : Int32) - (c.1 0 6)) = (0 : Int32)
      · refine ab_aald (q := 16) ckT_goOn rfl rfl (by rw [h15]; exact ab_inb_ok (by decide)) (by rw [h15]; rfl) ?_
        refine ab_go 8 [] (pc' := 49) (lo' := [some (.ref 14)]) (st' := []) (h' := cs_H (cs_u (cs_u c 5 0 ((c.1 4 0) + (1 : Int32))) 0 7 (-1 : Int32)) rest) ckT_goOn rfl ?_
        have e : fT_goOn c = some (cs_u (cs_u c 5 0 ((c.1 4 0) + (1 : Int32))) 0 7 (-1 : Int32)) := by simp only [fT_goOn, if_neg h1, if_pos h2, if_neg h11, if_pos h12, if_pos h15]
        obtain rfl := Option.some.inj (e.symm.trans hv)
        exact ab_vret ckT_goOn rfl rfl ⟨rfl, rfl⟩
      by_cases h16 : ((1 : Int32) - (c.1 0 6)) = (1 : Int32)
      case neg => exact ab_no hv (by simp only [fT_goOn, if_neg h1, if_pos h2, if_neg h11, if_pos h12, if_neg h15, if_neg h16])
      refine ab_aald (q := 17) ckT_goOn rfl rfl (by rw [h16]; exact ab_inb_ok (by decide)) (by rw [h16]; rfl) ?_
      refine ab_go 8 [] (pc' := 49) (lo' := [some (.ref 14)]) (st' := []) (h' := cs_H (cs_u (cs_u c 5 0 ((c.1 5 0) + (1 : Int32))) 0 7 (-1 : Int32)) rest) ckT_goOn rfl ?_
      have e : fT_goOn c = some (cs_u (cs_u c 5 0 ((c.1 5 0) + (1 : Int32))) 0 7 (-1 : Int32)) := by simp only [fT_goOn, if_neg h1, if_pos h2, if_neg h11, if_pos h12, if_neg h15, if_pos h16]
      obtain rfl := Option.some.inj (e.symm.trans hv)
      exact ab_vret ckT_goOn rfl rfl ⟨rfl, rfl⟩
  · have e : fT_goOn c = some c := by simp only [fT_goOn, if_pos h1]
    obtain rfl := Option.some.inj (e.symm.trans hv)
    exact ab_vret ckT_goOn rfl rfl ⟨rfl, rfl⟩
def fT_load_60 : Nat → cs_S → Int32 → Int32 → Option (cs_S)
  | 0, _, _, _ => none
  | n + 1, c, y2, y3 => (if (22 : Int32) ≤ y3 then (some c) else (ab_bd (fC_kept (y3 - (1 : Int32))) (fun p1 => (if y2 = (0 : Int32) then (if ab_inb y3 22 = true then (if ab_inb p1 30 = true then fT_load_60 n (cs_u c 1 (p1).toNatClampNeg (c.1 4 (y3).toNatClampNeg)) y2 (y3 + (1 : Int32)) else none) else none) else (if y2 = (1 : Int32) then (if ab_inb y3 22 = true then (if ab_inb p1 30 = true then fT_load_60 n (cs_u c 1 (p1).toNatClampNeg (c.1 5 (y3).toNatClampNeg)) y2 (y3 + (1 : Int32)) else none) else none) else none)))))
def fT_load_2 : Nat → cs_S → Int32 → Option (cs_S)
  | 0, _, _ => none
  | n + 1, c, y2 => (if (30 : Int32) ≤ y2 then (if (c.1 5 0) ≤ (c.1 4 0) then (if (c.1 4 0) = 0 then (some c) else fT_load_60 40 c (0 : Int32) (1 : Int32)) else (if (c.1 5 0) = 0 then (some c) else fT_load_60 40 c (1 : Int32) (1 : Int32))) else (ab_bd (fC_start y2) (fun p1 => (if ab_inb y2 30 = true then fT_load_2 n (cs_u c 1 (y2).toNatClampNeg p1) (y2 + (1 : Int32)) else none))))
def fT_load (c : cs_S)  : Option (cs_S) := fT_load_2 40 c (0 : Int32)
theorem tT_load_60 (hX : cs_X X) (n : Nat)   : ∀ (c : cs_S) (y2 : Int32) (y3 : Int32)  (v : cs_S) (hv : fT_load_60 n c y2 y3 = some v), ab_W X mT_load (d + 1) 0 0 60 [some (.ref 14), some (.ref 9), some (.int y2), some (.int y3)] [] (cs_H c rest) (fun r9 h9 => r9 = none ∧ h9 = cs_H v rest) := by
  induction n with
  | zero =>
    intro c y2 y3 v hv
    cases hv
  | succ n ih =>
    intro c y2 y3 v hv
    refine ab_go 2 [2, 60] (pc' := 63) (lo' := [some (.ref 14), some (.ref 9), some (.int y2), some (.int y3)]) (st' := [.int (22 : Int32), .int y3]) (h' := cs_H c rest) ckT_load rfl ?_
    refine ab_icmp_ge ckT_load rfl (fun (h1 : (22 : Int32) ≤ y3) => ?_) (fun (h1 : ¬ ((22 : Int32) ≤ y3)) => ?_)
    · have e : fT_load_60 (n + 1) c y2 y3 = some c := by simp only [fT_load_60, if_pos h1]
      obtain rfl := Option.some.inj (e.symm.trans hv)
      exact ab_vret ckT_load rfl rfl ⟨rfl, rfl⟩
    · refine ab_go 4 [2, 60] (pc' := 70) (lo' := [some (.ref 14), some (.ref 9), some (.int y2), some (.int y3)]) (st' := [.int (y3 - (1 : Int32)), .ref 9]) (h' := cs_H c rest) ckT_load rfl ?_
      rcases e1 : fC_kept (y3 - (1 : Int32)) with _ | p1
      · exact ab_no hv (by simp only [fT_load_60, if_neg h1, e1, ab_bd_n])
      refine ab_callS (bc2 := 0) (bs2 := 0) (as := [_]) (rest := [_]) ckT_load rfl (by decide +kernel) wC_kept (tC_kept (d := d) (x1 := (y3 - (1 : Int32))) hX (v := p1) e1) (by omega) ⟨Nat.le_refl _, Nat.le_refl _⟩ (Nat.le_of_ble_eq_true rfl) ?_
      rintro _ _ ⟨rfl, rfl⟩
      refine ab_go 3 [2, 60] (pc' := 78) (lo' := [some (.ref 14), some (.ref 9), some (.int y2), some (.int y3)]) (st' := [.int y2, .ref 15, .int p1, .ref 9]) (h' := cs_H c rest) ckT_load rfl ?_
      by_cases h2 : y2 = (0 : Int32)
      · refine ab_aald (q := 16) ckT_load rfl rfl (by rw [h2]; exact ab_inb_ok (by decide)) (by rw [h2]; rfl) ?_
        refine ab_go 1 [2, 60] (pc' := 80) (lo' := [some (.ref 14), some (.ref 9), some (.int y2), some (.int y3)]) (st' := [.int y3, .ref 16, .int p1, .ref 9]) (h' := cs_H c rest) ckT_load rfl ?_
        by_cases h4 : ab_inb y3 22 = true
        case neg => exact ab_no hv (by simp only [fT_load_60, if_neg h1, e1, ab_bd_s, if_pos h2, if_neg h4])
        refine ab_iald ckT_load rfl rfl (ab_inb_ok h4) ?_
        by_cases h5 : ab_inb p1 30 = true
        case neg => exact ab_no hv (by simp only [fT_load_60, if_neg h1, e1, ab_bd_s, if_pos h2, if_pos h4, if_neg h5])
        refine ab_iast ckT_load rfl rfl (ab_inb_ok h5) ?_
        refine ab_go 2 [2, 60] (pc' := 60) (lo' := [some (.ref 14), some (.ref 9), some (.int y2), some (.int (y3 + (1 : Int32)))]) (st' := []) (h' := cs_H (cs_u c 1 (p1).toNatClampNeg (c.1 4 (y3).toNatClampNeg)) rest) ckT_load rfl ?_
        have e : fT_load_60 (n + 1) c y2 y3 = fT_load_60 n (cs_u c 1 (p1).toNatClampNeg (c.1 4 (y3).toNatClampNeg)) y2 (y3 + (1 : Int32)) := by simp only [fT_load_60, if_neg h1, e1, ab_bd_s, if_pos h2, if_pos h4, if_pos h5]
        exact ab_W.weak (ih (cs_u c 1 (p1).toNatClampNeg (c.1 4 (y3).toNatClampNeg)) y2 (y3 + (1 : Int32)) v (e.symm.trans hv)) ⟨rfl, rfl, rfl, rfl, trivial⟩
      by_cases h3 : y2 = (1 : Int32)
      case neg => exact ab_no hv (by simp only [fT_load_60, if_neg h1, e1, ab_bd_s, if_neg h2, if_neg h3])
      refine ab_aald (q := 17) ckT_load rfl rfl (by rw [h3]; exact ab_inb_ok (by decide)) (by rw [h3]; rfl) ?_
      refine ab_go 1 [2, 60] (pc' := 80) (lo' := [some (.ref 14), some (.ref 9), some (.int y2), some (.int y3)]) (st' := [.int y3, .ref 17, .int p1, .ref 9]) (h' := cs_H c rest) ckT_load rfl ?_
      by_cases h6 : ab_inb y3 22 = true
      case neg => exact ab_no hv (by simp only [fT_load_60, if_neg h1, e1, ab_bd_s, if_neg h2, if_pos h3, if_neg h6])
      refine ab_iald ckT_load rfl rfl (ab_inb_ok h6) ?_
      by_cases h7 : ab_inb p1 30 = true
      case neg => exact ab_no hv (by simp only [fT_load_60, if_neg h1, e1, ab_bd_s, if_neg h2, if_pos h3, if_pos h6, if_neg h7])
      refine ab_iast ckT_load rfl rfl (ab_inb_ok h7) ?_
      refine ab_go 2 [2, 60] (pc' := 60) (lo' := [some (.ref 14), some (.ref 9), some (.int y2), some (.int (y3 + (1 : Int32)))]) (st' := []) (h' := cs_H (cs_u c 1 (p1).toNatClampNeg (c.1 5 (y3).toNatClampNeg)) rest) ckT_load rfl ?_
      have e : fT_load_60 (n + 1) c y2 y3 = fT_load_60 n (cs_u c 1 (p1).toNatClampNeg (c.1 5 (y3).toNatClampNeg)) y2 (y3 + (1 : Int32)) := by simp only [fT_load_60, if_neg h1, e1, ab_bd_s, if_neg h2, if_pos h3, if_pos h6, if_pos h7]
      exact ab_W.weak (ih (cs_u c 1 (p1).toNatClampNeg (c.1 5 (y3).toNatClampNeg)) y2 (y3 + (1 : Int32)) v (e.symm.trans hv)) ⟨rfl, rfl, rfl, rfl, trivial⟩
theorem tT_load_2 (hX : cs_X X) (n : Nat)   : ∀ (c : cs_S) (y2 : Int32)  (v : cs_S) (hv : fT_load_2 n c y2 = some v), ab_W X mT_load (d + 1) 0 0 2 [some (.ref 14), some (.ref 9), some (.int y2), none] [] (cs_H c rest) (fun r9 h9 => r9 = none ∧ h9 = cs_H v rest) := by
  induction n with
  | zero =>
    intro c y2 v hv
    cases hv
  | succ n ih =>
    intro c y2 v hv
    refine ab_go 2 [2, 60] (pc' := 5) (lo' := [some (.ref 14), some (.ref 9), some (.int y2), none]) (st' := [.int (30 : Int32), .int y2]) (h' := cs_H c rest) ckT_load rfl ?_
    refine ab_icmp_ge ckT_load rfl (fun (h1 : (30 : Int32) ≤ y2) => ?_) (fun (h1 : ¬ ((30 : Int32) ≤ y2)) => ?_)
    · refine ab_go 12 [2, 60] (pc' := 37) (lo' := [some (.ref 14), some (.ref 9), some (.int y2), none]) (st' := [.int (c.1 4 0), .int (c.1 5 0)]) (h' := cs_H c rest) ckT_load rfl ?_
      refine ab_icmp_le ckT_load rfl (fun (h2 : (c.1 5 0) ≤ (c.1 4 0)) => ?_) (fun (h2 : ¬ ((c.1 5 0) ≤ (c.1 4 0))) => ?_)
      · refine ab_go 5 [2, 60] (pc' := 51) (lo' := [some (.ref 14), some (.ref 9), some (.int (0 : Int32)), none]) (st' := [.int (0 : Int32), .ref 15]) (h' := cs_H c rest) ckT_load rfl ?_
        refine ab_aald (q := 16) ckT_load rfl rfl (ab_inb_ok (by decide)) rfl ?_
        refine ab_go 2 [2, 60] (pc' := 54) (lo' := [some (.ref 14), some (.ref 9), some (.int (0 : Int32)), none]) (st' := [.int (c.1 4 0)]) (h' := cs_H c rest) ckT_load rfl ?_
        refine ab_if_ne ckT_load rfl (fun (h3 : ¬ ((c.1 4 0) = 0)) => ?_) (fun (h3 : (c.1 4 0) = 0) => ?_)
        · refine ab_go 2 [2, 60] (pc' := 60) (lo' := [some (.ref 14), some (.ref 9), some (.int (0 : Int32)), some (.int (1 : Int32))]) (st' := []) (h' := cs_H c rest) ckT_load rfl ?_
          have e : fT_load_2 (n + 1) c y2 = fT_load_60 40 c (0 : Int32) (1 : Int32) := by simp only [fT_load_2, if_pos h1, if_pos h2, if_neg h3]
          exact ab_W.weak (tT_load_60 hX 40 c (0 : Int32) (1 : Int32) v (e.symm.trans hv)) ⟨rfl, rfl, rfl, rfl, trivial⟩
        · have e : fT_load_2 (n + 1) c y2 = some c := by simp only [fT_load_2, if_pos h1, if_pos h2, if_pos h3]
          obtain rfl := Option.some.inj (e.symm.trans hv)
          exact ab_vret ckT_load rfl rfl ⟨rfl, rfl⟩
      · refine ab_go 6 [2, 60] (pc' := 51) (lo' := [some (.ref 14), some (.ref 9), some (.int (1 : Int32)), none]) (st' := [.int (1 : Int32), .ref 15]) (h' := cs_H c rest) ckT_load rfl ?_
        refine ab_aald (q := 17) ckT_load rfl rfl (ab_inb_ok (by decide)) rfl ?_
        refine ab_go 2 [2, 60] (pc' := 54) (lo' := [some (.ref 14), some (.ref 9), some (.int (1 : Int32)), none]) (st' := [.int (c.1 5 0)]) (h' := cs_H c rest) ckT_load rfl ?_
        refine ab_if_ne ckT_load rfl (fun (h4 : ¬ ((c.1 5 0) = 0)) => ?_) (fun (h4 : (c.1 5 0) = 0) => ?_)
        · refine ab_go 2 [2, 60] (pc' := 60) (lo' := [some (.ref 14), some (.ref 9), some (.int (1 : Int32)), some (.int (1 : Int32))]) (st' := []) (h' := cs_H c rest) ckT_load rfl ?_
          have e : fT_load_2 (n + 1) c y2 = fT_load_60 40 c (1 : Int32) (1 : Int32) := by simp only [fT_load_2, if_pos h1, if_neg h2, if_neg h4]
          exact ab_W.weak (tT_load_60 hX 40 c (1 : Int32) (1 : Int32) v (e.symm.trans hv)) ⟨rfl, rfl, rfl, rfl, trivial⟩
        · have e : fT_load_2 (n + 1) c y2 = some c := by simp only [fT_load_2, if_pos h1, if_neg h2, if_pos h4]
          obtain rfl := Option.some.inj (e.symm.trans hv)
          exact ab_vret ckT_load rfl rfl ⟨rfl, rfl⟩
    · refine ab_go 3 [2, 60] (pc' := 11) (lo' := [some (.ref 14), some (.ref 9), some (.int y2), none]) (st' := [.int y2, .int y2, .ref 9]) (h' := cs_H c rest) ckT_load rfl ?_
      rcases e1 : fC_start y2 with _ | p1
      · exact ab_no hv (by simp only [fT_load_2, if_neg h1, e1, ab_bd_n])
      refine ab_callS (bc2 := 0) (bs2 := 0) (as := [_]) (rest := [_, _]) ckT_load rfl (by decide +kernel) wC_start (tC_start (d := d) (x1 := y2) hX (v := p1) e1) (by omega) ⟨Nat.le_refl _, Nat.le_refl _⟩ (Nat.le_of_ble_eq_true rfl) ?_
      rintro _ _ ⟨rfl, rfl⟩
      by_cases h5 : ab_inb y2 30 = true
      case neg => exact ab_no hv (by simp only [fT_load_2, if_neg h1, e1, ab_bd_s, if_neg h5])
      refine ab_iast ckT_load rfl rfl (ab_inb_ok h5) ?_
      refine ab_go 2 [2, 60] (pc' := 2) (lo' := [some (.ref 14), some (.ref 9), some (.int (y2 + (1 : Int32))), none]) (st' := []) (h' := cs_H (cs_u c 1 (y2).toNatClampNeg p1) rest) ckT_load rfl ?_
      have e : fT_load_2 (n + 1) c y2 = fT_load_2 n (cs_u c 1 (y2).toNatClampNeg p1) (y2 + (1 : Int32)) := by simp only [fT_load_2, if_neg h1, e1, ab_bd_s, if_pos h5]
      exact ab_W.weak (ih (cs_u c 1 (y2).toNatClampNeg p1) (y2 + (1 : Int32)) v (e.symm.trans hv)) ⟨rfl, rfl, rfl, trivial⟩
theorem tT_load (hX : cs_X X) {v : cs_S} (hv : fT_load c = some v) : ab_M X mT_load (d + 1) 0 0 [.ref 14, .ref 9] (cs_H c rest) (fun r9 h9 => r9 = none ∧ h9 = cs_H v rest) := by
  refine ab_entry (by decide) (Nat.le_of_ble_eq_true rfl) ?_
  refine ab_go 2 [2, 60] (pc' := 2) (lo' := [some (.ref 14), some (.ref 9), some (.int (0 : Int32)), none]) (st' := []) (h' := cs_H c rest) ckT_load rfl ?_
  have e : fT_load c = fT_load_2 40 c (0 : Int32) := by simp only [fT_load]
  exact ab_W.weak (tT_load_2 hX 40 c (0 : Int32) v (e.symm.trans hv)) ⟨rfl, rfl, rfl, trivial⟩
end LEAF
