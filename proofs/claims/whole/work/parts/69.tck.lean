/-! The pieces of a tick: beat, watch, window, orders, move -/
theorem bea {tp ts : Nat} {g : Int32 × Int32 × Int32} {c r : cs_S} (h : LRt tp ts g c r) (y : Int32) : ∃ c' r', fS_beat c = some c' ∧ LRt tp ts g c' r' ∧ (if (r.1 1 4) ≤ 0 then fR_step_89 (cs_u r 0 12 ((r.1 0 12) + (1 : Int32))) y else (if ((r.1 0 12) + (1 : Int32)) < (r.1 1 4) then fR_step_89 (cs_u r 0 12 ((r.1 0 12) + (1 : Int32))) y else (ab_bd (fR_send (cs_u (cs_u r 0 12 ((r.1 0 12) + (1 : Int32))) 0 12 (0 : Int32)) ((1792 : Int32) + (r.1 0 4)) (1 : Int32) ((r.1 0 5)).toInt64) (fun p2 => fR_step_89 p2 y)))) = fR_step_89 r' y := by
  have k : LRt tp ts g (cs_u c 0 2 (r.1 0 12 + 1)) (cs_u r 0 12 (r.1 0 12 + 1)) := ⟨⟨h.1.ve, h.1.iv, h.1.nd, h.1.nt, rfl, h.1.lo, h.1.bu, h.1.pw, h.1.sv, h.1.pl, h.1.wa, h.1.se, h.1.ag, h.1.ll, h.1.sy, h.1.ld, h.1.sa⟩, h.2.1, h.2.2⟩
  have k0 : LRt tp ts g (cs_u (cs_u c 0 2 (r.1 0 12 + 1)) 0 2 0) (cs_u (cs_u r 0 12 (r.1 0 12 + 1)) 0 12 0) := ⟨⟨h.1.ve, h.1.iv, h.1.nd, h.1.nt, rfl, h.1.lo, h.1.bu, h.1.pw, h.1.sv, h.1.pl, h.1.wa, h.1.se, h.1.ag, h.1.ll, h.1.sy, h.1.ld, h.1.sa⟩, h.2.1, h.2.2⟩
  unfold fS_beat
  rw [h.1.ve 4 (by decide) (by decide), h.1.bt, h.1.nd, h.1.nt]
  by_cases e1 : r.1 1 4 ≤ 0
  · exact ⟨_, _, if_pos e1, k, if_pos e1⟩
  · by_cases e2 : r.1 0 12 + 1 < r.1 1 4
    · exact ⟨_, _, by rw [if_neg e1, if_pos e2], k, by rw [if_neg e1, if_pos e2]⟩
    · obtain ⟨c', r', f1, f2, f3, _⟩ := LRt_send k0 (1792 + r.1 0 4) 1 (r.1 0 5).toInt64
      refine ⟨c', r', ?_, f3, ?_⟩
      · rw [if_neg e1, if_neg e2, ab_id]
        exact f1
      · rw [if_neg e1, if_neg e2, f2]
        rfl
theorem wat {tp ts : Nat} {g : Int32 × Int32 × Int32} {c r : cs_S} (h : LRt tp ts g c r) (y : Int32) : ∃ c' r', LRt tp ts g c' r' ∧ fR_step_89 r y = fR_step_147 r' y ∧ (((fH_runsOut c (fS_watchTime c)).1 = 0 ∧ (fH_runsOut c (fS_watchTime c)).2 = c') ∨ ((fH_runsOut c (fS_watchTime c)).1 = 1 ∧ fS_fault (fH_runsOut c (fS_watchTime c)).2 33072 = some c')) := by
  have hw := h.1.wa
  have ht : fS_watchTime c = (r.1 1 3 &&& 65535) := by
    unfold fS_watchTime
    rw [h.1.ve 3 (by decide) (by decide)]
  rw [ht]
  by_cases e : r.1 0 9 = 0
  · have k : fH_runsOut c (r.1 1 3 &&& 65535) = (0, c) := by
      unfold fH_runsOut
      rw [hw.1, if_pos e]
    rw [k]
    refine ⟨c, cs_u r 0 13 (r.1 0 13), ⟨⟨h.1.ve, h.1.iv, h.1.nd, h.1.nt, h.1.bt, h.1.lo, h.1.bu, h.1.pw, h.1.sv, h.1.pl, ⟨hw.1, fun n => absurd e n⟩, h.1.se, h.1.ag, h.1.ll, h.1.sy, h.1.ld, h.1.sa⟩, h.2.1, h.2.2⟩, ?_, Or.inl ⟨rfl, rfl⟩⟩
    unfold fR_step_89
    rw [if_pos e]
    unfold fR_step_110
    rw [if_pos e]
  · have hc := hw.2 e
    by_cases e2 : (r.1 1 3 &&& 65535) ≤ r.1 0 13 + 1
    · have k : fH_runsOut c (r.1 1 3 &&& 65535) = (1, cs_u (cs_u c 0 12 (r.1 0 13 + 1)) 0 11 0) := by
        unfold fH_runsOut fH_disarm
        rw [hw.1, if_neg e, hc]
        exact if_pos e2
      have k2 : LRt tp ts g (cs_u (cs_u c 0 12 (r.1 0 13 + 1)) 0 11 0) (cs_u (cs_u r 0 13 (r.1 0 13 + 1)) 0 9 0) := ⟨⟨h.1.ve, h.1.iv, h.1.nd, h.1.nt, h.1.bt, h.1.lo, h.1.bu, h.1.pw, h.1.sv, h.1.pl, ⟨rfl, fun n => absurd rfl n⟩, h.1.se, h.1.ag, h.1.ll, h.1.sy, h.1.ld, h.1.sa⟩, h.2.1, h.2.2⟩
      obtain ⟨c', r', f1, f2, f3, _⟩ := flt k2 33072
      rw [k]
      refine ⟨c', r', f3, ?_, Or.inr ⟨rfl, f1⟩⟩
      unfold fR_step_89
      rw [if_neg e]
      unfold fR_step_110
      rw [if_neg e, if_neg (i_nlt e2), f2]
      rfl
    · have k : fH_runsOut c (r.1 1 3 &&& 65535) = (0, cs_u c 0 12 (r.1 0 13 + 1)) := by
        unfold fH_runsOut fH_disarm
        rw [hw.1, if_neg e, hc]
        exact if_neg e2
      rw [k]
      refine ⟨cs_u c 0 12 (r.1 0 13 + 1), cs_u r 0 13 (r.1 0 13 + 1), ⟨⟨h.1.ve, h.1.iv, h.1.nd, h.1.nt, h.1.bt, h.1.lo, h.1.bu, h.1.pw, h.1.sv, h.1.pl, ⟨hw.1, fun _ => rfl⟩, h.1.se, h.1.ag, h.1.ll, h.1.sy, h.1.ld, h.1.sa⟩, h.2.1, h.2.2⟩, ?_, Or.inl ⟨rfl, rfl⟩⟩
      unfold fR_step_89
      rw [if_neg e]
      unfold fR_step_110
      rw [if_neg e, if_pos (i_nle e2)]
theorem win {tp ts : Nat} {g : Int32 × Int32 × Int32} {c r : cs_S} (h : LRt tp ts g c r) {y : Int32} (hy : rg y (-(1000000 + 1000 * (tp : Int))) (1000000 + 1000 * (tp : Int))) (ht : tp ≤ 100000) : ∃ c' r', LRt tp ts g c' r' ∧ fR_step_147 r y = fR_step_191 r' y ∧ ((fP_isEnabled c = 0 ∧ c' = c) ∨ (¬ fP_isEnabled c = 0 ∧ i_abs (y - fV_demanded c) ≤ c.1 1 20 ∧ c' = c) ∨ (¬ fP_isEnabled c = 0 ∧ ¬ i_abs (y - fV_demanded c) ≤ c.1 1 20 ∧ fS_fault c 34321 = some c')) := by
  have hp := h.1.pw
  have hd : fV_demanded c = r.1 0 7 := h.1.pl.1
  rw [hd, h.1.ve 20 (by decide) (by decide)]
  unfold fR_step_147
  by_cases e : r.1 0 6 = 4
  · have en : ¬ fP_isEnabled c = 0 := by
      unfold fP_isEnabled
      rw [hp.1, if_pos e]
      decide
    have p1 := h.1.pl.2.1
    have p2 := h.1.pl.2.2
    have y1 := hy.1
    have y2 := hy.2
    have hs : (y - r.1 0 7).toInt = y.toInt - (r.1 0 7).toInt := ia_sub (by omega) (by omega)
    have hn : (-(y - r.1 0 7)).toInt = -(y.toInt - (r.1 0 7).toInt) := by rw [ia_neg (by omega), hs]
    have ha : (i_abs (y - r.1 0 7)).toInt = ((y.toInt - (r.1 0 7).toInt).natAbs : Int) := by
      rw [i_abs_nI (by omega), nI_toInt (by omega), hs]
    have h20 := h.1.iv.1.2.2.2.1.1
    rw [if_pos e]
    by_cases a : i_abs (y - r.1 0 7) ≤ r.1 1 20
    · refine ⟨c, r, h, ?_, Or.inr (Or.inl ⟨en, a, rfl⟩)⟩
      rw [Int32.le_iff_toInt_le, ha] at a
      rw [if_neg (show ¬ r.1 1 20 < y - r.1 0 7 by rw [Int32.lt_iff_toInt_lt, hs]; omega), if_pos (show -(y - r.1 0 7) ≤ r.1 1 20 by rw [Int32.le_iff_toInt_le, hn]; omega)]
    · obtain ⟨c', r', f1, f2, f3, _⟩ := flt h 34321
      refine ⟨c', r', f3, ?_, Or.inr (Or.inr ⟨en, a, f1⟩)⟩
      rw [Int32.le_iff_toInt_le, ha] at a
      by_cases b : r.1 1 20 < y - r.1 0 7
      · rw [if_pos b, f2]
        rfl
      · rw [if_neg b, if_neg (show ¬ -(y - r.1 0 7) ≤ r.1 1 20 by rw [Int32.le_iff_toInt_le, hn]; rw [Int32.lt_iff_toInt_lt, hs] at b; omega), f2]
        rfl
  · have en : fP_isEnabled c = 0 := by
      unfold fP_isEnabled
      rw [hp.1, if_neg e]
    exact ⟨c, r, h, if_neg e, Or.inl ⟨en, rfl⟩⟩
def OC (a b : Int32) : Prop := (a = 0 ∧ b = 0) ∨ (a = 1 ∧ b = 6) ∨ (a = 2 ∧ b = 1) ∨ (a = 3 ∧ b = 2) ∨ (a = 4 ∧ b = 3) ∨ (a = 5 ∧ b = 4) ∨ (a = 6 ∧ b = 5)
theorem ordr {c r : cs_S} (h9 : c.1 0 9 = r.1 0 10) (h16 : c.1 1 16 = r.1 1 16) : ∃ a b z, fP_orderOf c (c.1 1 16) = some (a, cs_u c 0 9 z) ∧ fR_order r = b ∧ OC a b ∧ (((r.1 1 16 &&& 128) = 0 ∧ z = 0) ∨ (¬ (r.1 1 16 &&& 128) = 0 ∧ z = 1)) := by
  rw [h16]
  unfold fP_orderOf fR_order
  rw [h9]
  by_cases e1 : (r.1 1 16 &&& 128) = 0
  · by_cases e2 : (r.1 1 16 &&& 2) = 0
    · exact ⟨2, 1, 0, by rw [if_pos e1, if_pos e2], by rw [if_pos e1, if_pos e2], Or.inr (Or.inr (Or.inl ⟨rfl, rfl⟩)), Or.inl ⟨e1, rfl⟩⟩
    · by_cases e3 : (r.1 1 16 &&& 4) = 0
      · exact ⟨3, 2, 0, by rw [if_pos e1, if_neg e2, if_pos e3], by rw [if_pos e1, if_neg e2, if_pos e3], Or.inr (Or.inr (Or.inr (Or.inl ⟨rfl, rfl⟩))), Or.inl ⟨e1, rfl⟩⟩
      · by_cases e4 : (r.1 1 16 &&& 1) = 0
        · exact ⟨4, 3, 0, by rw [if_pos e1, if_neg e2, if_neg e3, if_pos e4], by rw [if_pos e1, if_neg e2, if_neg e3, if_pos e4], Or.inr (Or.inr (Or.inr (Or.inr (Or.inl ⟨rfl, rfl⟩)))), Or.inl ⟨e1, rfl⟩⟩
        · by_cases e5 : (r.1 1 16 &&& 8) = 0
          · exact ⟨5, 4, 0, by rw [if_pos e1, if_neg e2, if_neg e3, if_neg e4, if_pos e5], by rw [if_pos e1, if_neg e2, if_neg e3, if_neg e4, if_pos e5], Or.inr (Or.inr (Or.inr (Or.inr (Or.inr (Or.inl ⟨rfl, rfl⟩))))), Or.inl ⟨e1, rfl⟩⟩
          · exact ⟨6, 5, 0, by rw [if_pos e1, if_neg e2, if_neg e3, if_neg e4, if_neg e5], by rw [if_pos e1, if_neg e2, if_neg e3, if_neg e4, if_neg e5], Or.inr (Or.inr (Or.inr (Or.inr (Or.inr (Or.inr ⟨rfl, rfl⟩))))), Or.inl ⟨e1, rfl⟩⟩
  · by_cases e2 : r.1 0 10 = 0
    · exact ⟨1, 6, 1, by rw [if_neg e1, if_pos e2], by rw [if_neg e1, if_pos e2], Or.inr (Or.inl ⟨rfl, rfl⟩), Or.inr ⟨e1, rfl⟩⟩
    · exact ⟨0, 0, 1, by rw [if_neg e1, if_neg e2], by rw [if_neg e1, if_neg e2], Or.inl ⟨rfl, rfl⟩, Or.inr ⟨e1, rfl⟩⟩
theorem fR_obey_b {r : cs_S} {y z b : Int32} (hb : (b = 1 ∧ r.1 1 21 = 0) ∨ (b = 0 ∧ ¬ r.1 1 21 = 0)) : fR_obey_15 r y z = fR_obey_31 r y z b := by
  unfold fR_obey_15
  rcases hb with ⟨rfl, e⟩ | ⟨rfl, e⟩
  · rw [if_pos e]
  · rw [if_neg e]
def obG (c r : cs_S) (a b y : Int32) : Prop := (∃ q, rg q 1 7 ∧ fP_obey c a y = (0, cs_u c 0 8 q) ∧ (fR_obey r b = some (cs_u r 0 6 q) ∨ (fR_obey r b = some r ∧ q = r.1 0 6))) ∨ (fP_obey c a y = (1, cs_u c 0 8 1) ∧ fR_obey r b = fR_emergency (cs_u (cs_u r 0 6 1) 1 0 0) 0)
theorem oby1 {c r : cs_S} (hp : c.1 0 8 = r.1 0 6) (e : r.1 0 6 = 1) {a b y : Int32} (ho : OC a b) (hy : (y = 1 ∧ r.1 1 21 = 0) ∨ (y = 0 ∧ ¬ r.1 1 21 = 0)) : obG c r a b y := by
  have kb : ∀ x z, fR_obey_15 r x z = fR_obey_31 r x z y := fun x z => fR_obey_b hy
  rcases ho with ⟨rfl, rfl⟩ | ⟨rfl, rfl⟩ | ⟨rfl, rfl⟩ | ⟨rfl, rfl⟩ | ⟨rfl, rfl⟩ | ⟨rfl, rfl⟩ | ⟨rfl, rfl⟩
  · have k0 : fR_obey r 0 = fR_obey_15 r 0 0 := rfl
    rw [kb] at k0
    rcases hy with ⟨rfl, hy⟩ | ⟨rfl, hy⟩
    · refine Or.inl ⟨1, ⟨by decide, by decide⟩, ?_, Or.inl ?_⟩
      · unfold fP_obey fP_stateAfter
        rw [hp, e]
        rfl
      · rw [k0]
        unfold fR_obey_31
        rw [e]
        rfl
    · refine Or.inl ⟨1, ⟨by decide, by decide⟩, ?_, Or.inl ?_⟩
      · unfold fP_obey fP_stateAfter
        rw [hp, e]
        rfl
      · rw [k0]
        unfold fR_obey_31
        rw [e]
        rfl
  · have k0 : fR_obey r 6 = fR_obey_15 r 6 0 := rfl
    rw [kb] at k0
    rcases hy with ⟨rfl, hy⟩ | ⟨rfl, hy⟩
    · refine Or.inl ⟨1, ⟨by decide, by decide⟩, ?_, Or.inl ?_⟩
      · unfold fP_obey fP_stateAfter
        rw [hp, e]
        rfl
      · rw [k0]
        unfold fR_obey_31
        rw [e]
        rfl
    · refine Or.inl ⟨1, ⟨by decide, by decide⟩, ?_, Or.inl ?_⟩
      · unfold fP_obey fP_stateAfter
        rw [hp, e]
        rfl
      · rw [k0]
        unfold fR_obey_31
        rw [e]
        rfl
  · have k0 : fR_obey r 1 = fR_obey_15 r 1 1 := rfl
    rw [kb] at k0
    rcases hy with ⟨rfl, hy⟩ | ⟨rfl, hy⟩
    · refine Or.inl ⟨1, ⟨by decide, by decide⟩, ?_, Or.inl ?_⟩
      · unfold fP_obey fP_stateAfter
        rw [hp, e]
        rfl
      · rw [k0]
        unfold fR_obey_31
        rw [e]
        rfl
    · refine Or.inl ⟨1, ⟨by decide, by decide⟩, ?_, Or.inl ?_⟩
      · unfold fP_obey fP_stateAfter
        rw [hp, e]
        rfl
      · rw [k0]
        unfold fR_obey_31
        rw [e]
        rfl
  · have k0 : fR_obey r 2 = fR_obey_15 r 2 1 := rfl
    rw [kb] at k0
    rcases hy with ⟨rfl, hy⟩ | ⟨rfl, hy⟩
    · refine Or.inl ⟨1, ⟨by decide, by decide⟩, ?_, Or.inl ?_⟩
      · unfold fP_obey fP_stateAfter
        rw [hp, e]
        rfl
      · rw [k0]
        unfold fR_obey_31
        rw [e]
        rfl
    · refine Or.inl ⟨1, ⟨by decide, by decide⟩, ?_, Or.inl ?_⟩
      · unfold fP_obey fP_stateAfter
        rw [hp, e]
        rfl
      · rw [k0]
        unfold fR_obey_31
        rw [e]
        rfl
  · have k0 : fR_obey r 3 = fR_obey_15 r 3 0 := rfl
    rw [kb] at k0
    rcases hy with ⟨rfl, hy⟩ | ⟨rfl, hy⟩
    · refine Or.inl ⟨2, ⟨by decide, by decide⟩, ?_, Or.inl ?_⟩
      · unfold fP_obey fP_stateAfter
        rw [hp, e]
        rfl
      · rw [k0]
        unfold fR_obey_31
        rw [e]
        rfl
    · refine Or.inl ⟨2, ⟨by decide, by decide⟩, ?_, Or.inl ?_⟩
      · unfold fP_obey fP_stateAfter
        rw [hp, e]
        rfl
      · rw [k0]
        unfold fR_obey_31
        rw [e]
        rfl
  · have k0 : fR_obey r 4 = fR_obey_15 r 4 0 := rfl
    rw [kb] at k0
    rcases hy with ⟨rfl, hy⟩ | ⟨rfl, hy⟩
    · refine Or.inl ⟨1, ⟨by decide, by decide⟩, ?_, Or.inl ?_⟩
      · unfold fP_obey fP_stateAfter
        rw [hp, e]
        rfl
      · rw [k0]
        unfold fR_obey_31
        rw [e]
        rfl
    · refine Or.inl ⟨1, ⟨by decide, by decide⟩, ?_, Or.inl ?_⟩
      · unfold fP_obey fP_stateAfter
        rw [hp, e]
        rfl
      · rw [k0]
        unfold fR_obey_31
        rw [e]
        rfl
  · have k0 : fR_obey r 5 = fR_obey_15 r 5 0 := rfl
    rw [kb] at k0
    rcases hy with ⟨rfl, hy⟩ | ⟨rfl, hy⟩
    · refine Or.inl ⟨1, ⟨by decide, by decide⟩, ?_, Or.inl ?_⟩
      · unfold fP_obey fP_stateAfter
        rw [hp, e]
        rfl
      · rw [k0]
        unfold fR_obey_31
        rw [e]
        rfl
    · refine Or.inl ⟨1, ⟨by decide, by decide⟩, ?_, Or.inl ?_⟩
      · unfold fP_obey fP_stateAfter
        rw [hp, e]
        rfl
      · rw [k0]
        unfold fR_obey_31
        rw [e]
        rfl
theorem oby2 {c r : cs_S} (hp : c.1 0 8 = r.1 0 6) (e : r.1 0 6 = 2) {a b y : Int32} (ho : OC a b) (hy : (y = 1 ∧ r.1 1 21 = 0) ∨ (y = 0 ∧ ¬ r.1 1 21 = 0)) : obG c r a b y := by
  have kb : ∀ x z, fR_obey_15 r x z = fR_obey_31 r x z y := fun x z => fR_obey_b hy
  rcases ho with ⟨rfl, rfl⟩ | ⟨rfl, rfl⟩ | ⟨rfl, rfl⟩ | ⟨rfl, rfl⟩ | ⟨rfl, rfl⟩ | ⟨rfl, rfl⟩ | ⟨rfl, rfl⟩
  · have k0 : fR_obey r 0 = fR_obey_15 r 0 0 := rfl
    rw [kb] at k0
    rcases hy with ⟨rfl, hy⟩ | ⟨rfl, hy⟩
    · refine Or.inl ⟨2, ⟨by decide, by decide⟩, ?_, Or.inl ?_⟩
      · unfold fP_obey fP_stateAfter fP_afterReady
        rw [hp, e]
        rfl
      · rw [k0]
        unfold fR_obey_31
        rw [e]
        rfl
    · refine Or.inl ⟨2, ⟨by decide, by decide⟩, ?_, Or.inl ?_⟩
      · unfold fP_obey fP_stateAfter fP_afterReady
        rw [hp, e]
        rfl
      · rw [k0]
        unfold fR_obey_31
        rw [e]
        rfl
  · have k0 : fR_obey r 6 = fR_obey_15 r 6 0 := rfl
    rw [kb] at k0
    rcases hy with ⟨rfl, hy⟩ | ⟨rfl, hy⟩
    · refine Or.inl ⟨2, ⟨by decide, by decide⟩, ?_, Or.inl ?_⟩
      · unfold fP_obey fP_stateAfter fP_afterReady
        rw [hp, e]
        rfl
      · rw [k0]
        unfold fR_obey_31
        rw [e]
        rfl
    · refine Or.inl ⟨2, ⟨by decide, by decide⟩, ?_, Or.inl ?_⟩
      · unfold fP_obey fP_stateAfter fP_afterReady
        rw [hp, e]
        rfl
      · rw [k0]
        unfold fR_obey_31
        rw [e]
        rfl
  · have k0 : fR_obey r 1 = fR_obey_15 r 1 1 := rfl
    rw [kb] at k0
    rcases hy with ⟨rfl, hy⟩ | ⟨rfl, hy⟩
    · refine Or.inl ⟨1, ⟨by decide, by decide⟩, ?_, Or.inl ?_⟩
      · unfold fP_obey fP_stateAfter fP_afterReady
        rw [hp, e]
        rfl
      · rw [k0]
        unfold fR_obey_31
        rw [e]
        rfl
    · refine Or.inl ⟨1, ⟨by decide, by decide⟩, ?_, Or.inl ?_⟩
      · unfold fP_obey fP_stateAfter fP_afterReady
        rw [hp, e]
        rfl
      · rw [k0]
        unfold fR_obey_31
        rw [e]
        rfl
  · have k0 : fR_obey r 2 = fR_obey_15 r 2 1 := rfl
    rw [kb] at k0
    rcases hy with ⟨rfl, hy⟩ | ⟨rfl, hy⟩
    · refine Or.inl ⟨1, ⟨by decide, by decide⟩, ?_, Or.inl ?_⟩
      · unfold fP_obey fP_stateAfter fP_afterReady
        rw [hp, e]
        rfl
      · rw [k0]
        unfold fR_obey_31
        rw [e]
        rfl
    · refine Or.inl ⟨1, ⟨by decide, by decide⟩, ?_, Or.inl ?_⟩
      · unfold fP_obey fP_stateAfter fP_afterReady
        rw [hp, e]
        rfl
      · rw [k0]
        unfold fR_obey_31
        rw [e]
        rfl
  · have k0 : fR_obey r 3 = fR_obey_15 r 3 0 := rfl
    rw [kb] at k0
    rcases hy with ⟨rfl, hy⟩ | ⟨rfl, hy⟩
    · refine Or.inl ⟨2, ⟨by decide, by decide⟩, ?_, Or.inl ?_⟩
      · unfold fP_obey fP_stateAfter fP_afterReady
        rw [hp, e]
        rfl
      · rw [k0]
        unfold fR_obey_31
        rw [e]
        rfl
    · refine Or.inl ⟨2, ⟨by decide, by decide⟩, ?_, Or.inl ?_⟩
      · unfold fP_obey fP_stateAfter fP_afterReady
        rw [hp, e]
        rfl
      · rw [k0]
        unfold fR_obey_31
        rw [e]
        rfl
  · have k0 : fR_obey r 4 = fR_obey_15 r 4 0 := rfl
    rw [kb] at k0
    rcases hy with ⟨rfl, hy⟩ | ⟨rfl, hy⟩
    · refine Or.inl ⟨3, ⟨by decide, by decide⟩, ?_, Or.inl ?_⟩
      · unfold fP_obey fP_stateAfter fP_afterReady
        rw [hp, e]
        rfl
      · rw [k0]
        unfold fR_obey_31
        rw [e]
        rfl
    · refine Or.inl ⟨3, ⟨by decide, by decide⟩, ?_, Or.inl ?_⟩
      · unfold fP_obey fP_stateAfter fP_afterReady
        rw [hp, e]
        rfl
      · rw [k0]
        unfold fR_obey_31
        rw [e]
        rfl
  · have k0 : fR_obey r 5 = fR_obey_15 r 5 0 := rfl
    rw [kb] at k0
    rcases hy with ⟨rfl, hy⟩ | ⟨rfl, hy⟩
    · refine Or.inl ⟨3, ⟨by decide, by decide⟩, ?_, Or.inl ?_⟩
      · unfold fP_obey fP_stateAfter fP_afterReady
        rw [hp, e]
        rfl
      · rw [k0]
        unfold fR_obey_31
        rw [e]
        rfl
    · refine Or.inl ⟨3, ⟨by decide, by decide⟩, ?_, Or.inl ?_⟩
      · unfold fP_obey fP_stateAfter fP_afterReady
        rw [hp, e]
        rfl
      · rw [k0]
        unfold fR_obey_31
        rw [e]
        rfl
theorem oby3 {c r : cs_S} (hp : c.1 0 8 = r.1 0 6) (e : r.1 0 6 = 3) {a b y : Int32} (ho : OC a b) (hy : (y = 1 ∧ r.1 1 21 = 0) ∨ (y = 0 ∧ ¬ r.1 1 21 = 0)) : obG c r a b y := by
  have kb : ∀ x z, fR_obey_15 r x z = fR_obey_31 r x z y := fun x z => fR_obey_b hy
  rcases ho with ⟨rfl, rfl⟩ | ⟨rfl, rfl⟩ | ⟨rfl, rfl⟩ | ⟨rfl, rfl⟩ | ⟨rfl, rfl⟩ | ⟨rfl, rfl⟩ | ⟨rfl, rfl⟩
  · have k0 : fR_obey r 0 = fR_obey_15 r 0 0 := rfl
    rw [kb] at k0
    rcases hy with ⟨rfl, hy⟩ | ⟨rfl, hy⟩
    · refine Or.inl ⟨3, ⟨by decide, by decide⟩, ?_, Or.inl ?_⟩
      · unfold fP_obey fP_stateAfter fP_afterSwitchedOn
        rw [hp, e]
        rfl
      · rw [k0]
        unfold fR_obey_31
        rw [e]
        rfl
    · refine Or.inl ⟨3, ⟨by decide, by decide⟩, ?_, Or.inl ?_⟩
      · unfold fP_obey fP_stateAfter fP_afterSwitchedOn
        rw [hp, e]
        rfl
      · rw [k0]
        unfold fR_obey_31
        rw [e]
        rfl
  · have k0 : fR_obey r 6 = fR_obey_15 r 6 0 := rfl
    rw [kb] at k0
    rcases hy with ⟨rfl, hy⟩ | ⟨rfl, hy⟩
    · refine Or.inl ⟨3, ⟨by decide, by decide⟩, ?_, Or.inl ?_⟩
      · unfold fP_obey fP_stateAfter fP_afterSwitchedOn
        rw [hp, e]
        rfl
      · rw [k0]
        unfold fR_obey_31
        rw [e]
        rfl
    · refine Or.inl ⟨3, ⟨by decide, by decide⟩, ?_, Or.inl ?_⟩
      · unfold fP_obey fP_stateAfter fP_afterSwitchedOn
        rw [hp, e]
        rfl
      · rw [k0]
        unfold fR_obey_31
        rw [e]
        rfl
  · have k0 : fR_obey r 1 = fR_obey_15 r 1 1 := rfl
    rw [kb] at k0
    rcases hy with ⟨rfl, hy⟩ | ⟨rfl, hy⟩
    · refine Or.inl ⟨1, ⟨by decide, by decide⟩, ?_, Or.inl ?_⟩
      · unfold fP_obey fP_stateAfter fP_afterSwitchedOn
        rw [hp, e]
        rfl
      · rw [k0]
        unfold fR_obey_31
        rw [e]
        rfl
    · refine Or.inl ⟨1, ⟨by decide, by decide⟩, ?_, Or.inl ?_⟩
      · unfold fP_obey fP_stateAfter fP_afterSwitchedOn
        rw [hp, e]
        rfl
      · rw [k0]
        unfold fR_obey_31
        rw [e]
        rfl
  · have k0 : fR_obey r 2 = fR_obey_15 r 2 1 := rfl
    rw [kb] at k0
    rcases hy with ⟨rfl, hy⟩ | ⟨rfl, hy⟩
    · refine Or.inl ⟨1, ⟨by decide, by decide⟩, ?_, Or.inl ?_⟩
      · unfold fP_obey fP_stateAfter fP_afterSwitchedOn
        rw [hp, e]
        rfl
      · rw [k0]
        unfold fR_obey_31
        rw [e]
        rfl
    · refine Or.inl ⟨1, ⟨by decide, by decide⟩, ?_, Or.inl ?_⟩
      · unfold fP_obey fP_stateAfter fP_afterSwitchedOn
        rw [hp, e]
        rfl
      · rw [k0]
        unfold fR_obey_31
        rw [e]
        rfl
  · have k0 : fR_obey r 3 = fR_obey_15 r 3 0 := rfl
    rw [kb] at k0
    rcases hy with ⟨rfl, hy⟩ | ⟨rfl, hy⟩
    · refine Or.inl ⟨2, ⟨by decide, by decide⟩, ?_, Or.inl ?_⟩
      · unfold fP_obey fP_stateAfter fP_afterSwitchedOn
        rw [hp, e]
        rfl
      · rw [k0]
        unfold fR_obey_31
        rw [e]
        rfl
    · refine Or.inl ⟨2, ⟨by decide, by decide⟩, ?_, Or.inl ?_⟩
      · unfold fP_obey fP_stateAfter fP_afterSwitchedOn
        rw [hp, e]
        rfl
      · rw [k0]
        unfold fR_obey_31
        rw [e]
        rfl
  · have k0 : fR_obey r 4 = fR_obey_15 r 4 0 := rfl
    rw [kb] at k0
    rcases hy with ⟨rfl, hy⟩ | ⟨rfl, hy⟩
    · refine Or.inl ⟨3, ⟨by decide, by decide⟩, ?_, Or.inl ?_⟩
      · unfold fP_obey fP_stateAfter fP_afterSwitchedOn
        rw [hp, e]
        rfl
      · rw [k0]
        unfold fR_obey_31
        rw [e]
        rfl
    · refine Or.inl ⟨3, ⟨by decide, by decide⟩, ?_, Or.inl ?_⟩
      · unfold fP_obey fP_stateAfter fP_afterSwitchedOn
        rw [hp, e]
        rfl
      · rw [k0]
        unfold fR_obey_31
        rw [e]
        rfl
  · have k0 : fR_obey r 5 = fR_obey_15 r 5 0 := rfl
    rw [kb] at k0
    rcases hy with ⟨rfl, hy⟩ | ⟨rfl, hy⟩
    · refine Or.inl ⟨4, ⟨by decide, by decide⟩, ?_, Or.inl ?_⟩
      · unfold fP_obey fP_stateAfter fP_afterSwitchedOn
        rw [hp, e]
        rfl
      · rw [k0]
        unfold fR_obey_31
        rw [e]
        rfl
    · refine Or.inl ⟨4, ⟨by decide, by decide⟩, ?_, Or.inl ?_⟩
      · unfold fP_obey fP_stateAfter fP_afterSwitchedOn
        rw [hp, e]
        rfl
      · rw [k0]
        unfold fR_obey_31
        rw [e]
        rfl
theorem oby4 {c r : cs_S} (hp : c.1 0 8 = r.1 0 6) (e : r.1 0 6 = 4) {a b y : Int32} (ho : OC a b) (hy : (y = 1 ∧ r.1 1 21 = 0) ∨ (y = 0 ∧ ¬ r.1 1 21 = 0)) : obG c r a b y := by
  have kb : ∀ x z, fR_obey_15 r x z = fR_obey_31 r x z y := fun x z => fR_obey_b hy
  rcases ho with ⟨rfl, rfl⟩ | ⟨rfl, rfl⟩ | ⟨rfl, rfl⟩ | ⟨rfl, rfl⟩ | ⟨rfl, rfl⟩ | ⟨rfl, rfl⟩ | ⟨rfl, rfl⟩
  · have k0 : fR_obey r 0 = fR_obey_15 r 0 0 := rfl
    rw [kb] at k0
    rcases hy with ⟨rfl, hy⟩ | ⟨rfl, hy⟩
    · refine Or.inl ⟨4, ⟨by decide, by decide⟩, ?_, Or.inl ?_⟩
      · unfold fP_obey fP_stateAfter fP_afterEnabled
        rw [hp, e]
        rfl
      · rw [k0]
        unfold fR_obey_31
        rw [e]
        rfl
    · refine Or.inl ⟨4, ⟨by decide, by decide⟩, ?_, Or.inl ?_⟩
      · unfold fP_obey fP_stateAfter fP_afterEnabled
        rw [hp, e]
        rfl
      · rw [k0]
        unfold fR_obey_31
        rw [e]
        rfl
  · have k0 : fR_obey r 6 = fR_obey_15 r 6 0 := rfl
    rw [kb] at k0
    rcases hy with ⟨rfl, hy⟩ | ⟨rfl, hy⟩
    · refine Or.inl ⟨4, ⟨by decide, by decide⟩, ?_, Or.inl ?_⟩
      · unfold fP_obey fP_stateAfter fP_afterEnabled
        rw [hp, e]
        rfl
      · rw [k0]
        unfold fR_obey_31
        rw [e]
        rfl
    · refine Or.inl ⟨4, ⟨by decide, by decide⟩, ?_, Or.inl ?_⟩
      · unfold fP_obey fP_stateAfter fP_afterEnabled
        rw [hp, e]
        rfl
      · rw [k0]
        unfold fR_obey_31
        rw [e]
        rfl
  · have k0 : fR_obey r 1 = fR_obey_15 r 1 1 := rfl
    rw [kb] at k0
    rcases hy with ⟨rfl, hy⟩ | ⟨rfl, hy⟩
    · refine Or.inl ⟨1, ⟨by decide, by decide⟩, ?_, Or.inl ?_⟩
      · unfold fP_obey fP_stateAfter fP_afterEnabled
        rw [hp, e]
        rfl
      · rw [k0]
        unfold fR_obey_31
        rw [e]
        rfl
    · refine Or.inl ⟨1, ⟨by decide, by decide⟩, ?_, Or.inl ?_⟩
      · unfold fP_obey fP_stateAfter fP_afterEnabled
        rw [hp, e]
        rfl
      · rw [k0]
        unfold fR_obey_31
        rw [e]
        rfl
  · have k0 : fR_obey r 2 = fR_obey_15 r 2 1 := rfl
    rw [kb] at k0
    rcases hy with ⟨rfl, hy⟩ | ⟨rfl, hy⟩
    · refine Or.inl ⟨5, ⟨by decide, by decide⟩, ?_, Or.inl ?_⟩
      · unfold fP_obey fP_stateAfter fP_afterEnabled
        rw [hp, e]
        rfl
      · rw [k0]
        unfold fR_obey_31
        rw [e]
        rfl
    · refine Or.inl ⟨5, ⟨by decide, by decide⟩, ?_, Or.inl ?_⟩
      · unfold fP_obey fP_stateAfter fP_afterEnabled
        rw [hp, e]
        rfl
      · rw [k0]
        unfold fR_obey_31
        rw [e]
        rfl
  · have k0 : fR_obey r 3 = fR_obey_15 r 3 0 := rfl
    rw [kb] at k0
    rcases hy with ⟨rfl, hy⟩ | ⟨rfl, hy⟩
    · refine Or.inl ⟨2, ⟨by decide, by decide⟩, ?_, Or.inl ?_⟩
      · unfold fP_obey fP_stateAfter fP_afterEnabled
        rw [hp, e]
        rfl
      · rw [k0]
        unfold fR_obey_31
        rw [e]
        rfl
    · refine Or.inl ⟨2, ⟨by decide, by decide⟩, ?_, Or.inl ?_⟩
      · unfold fP_obey fP_stateAfter fP_afterEnabled
        rw [hp, e]
        rfl
      · rw [k0]
        unfold fR_obey_31
        rw [e]
        rfl
  · have k0 : fR_obey r 4 = fR_obey_15 r 4 0 := rfl
    rw [kb] at k0
    rcases hy with ⟨rfl, hy⟩ | ⟨rfl, hy⟩
    · refine Or.inl ⟨3, ⟨by decide, by decide⟩, ?_, Or.inl ?_⟩
      · unfold fP_obey fP_stateAfter fP_afterEnabled
        rw [hp, e]
        rfl
      · rw [k0]
        unfold fR_obey_31
        rw [e]
        rfl
    · refine Or.inl ⟨3, ⟨by decide, by decide⟩, ?_, Or.inl ?_⟩
      · unfold fP_obey fP_stateAfter fP_afterEnabled
        rw [hp, e]
        rfl
      · rw [k0]
        unfold fR_obey_31
        rw [e]
        rfl
  · have k0 : fR_obey r 5 = fR_obey_15 r 5 0 := rfl
    rw [kb] at k0
    rcases hy with ⟨rfl, hy⟩ | ⟨rfl, hy⟩
    · refine Or.inl ⟨4, ⟨by decide, by decide⟩, ?_, Or.inl ?_⟩
      · unfold fP_obey fP_stateAfter fP_afterEnabled
        rw [hp, e]
        rfl
      · rw [k0]
        unfold fR_obey_31
        rw [e]
        rfl
    · refine Or.inl ⟨4, ⟨by decide, by decide⟩, ?_, Or.inl ?_⟩
      · unfold fP_obey fP_stateAfter fP_afterEnabled
        rw [hp, e]
        rfl
      · rw [k0]
        unfold fR_obey_31
        rw [e]
        rfl
theorem oby5 {c r : cs_S} (hp : c.1 0 8 = r.1 0 6) (e : r.1 0 6 = 5) {a b y : Int32} (ho : OC a b) (hy : (y = 1 ∧ r.1 1 21 = 0) ∨ (y = 0 ∧ ¬ r.1 1 21 = 0)) : obG c r a b y := by
  have kb : ∀ x z, fR_obey_15 r x z = fR_obey_31 r x z y := fun x z => fR_obey_b hy
  rcases ho with ⟨rfl, rfl⟩ | ⟨rfl, rfl⟩ | ⟨rfl, rfl⟩ | ⟨rfl, rfl⟩ | ⟨rfl, rfl⟩ | ⟨rfl, rfl⟩ | ⟨rfl, rfl⟩
  · have k0 : fR_obey r 0 = fR_obey_15 r 0 0 := rfl
    rw [kb] at k0
    rcases hy with ⟨rfl, hy⟩ | ⟨rfl, hy⟩
    · refine Or.inl ⟨1, ⟨by decide, by decide⟩, ?_, Or.inl ?_⟩
      · unfold fP_obey fP_stateAfter
        rw [hp, e]
        rfl
      · rw [k0]
        unfold fR_obey_31
        rw [e]
        rfl
    · refine Or.inl ⟨5, ⟨by decide, by decide⟩, ?_, Or.inl ?_⟩
      · unfold fP_obey fP_stateAfter
        rw [hp, e]
        rfl
      · rw [k0]
        unfold fR_obey_31
        rw [e]
        rfl
  · have k0 : fR_obey r 6 = fR_obey_15 r 6 0 := rfl
    rw [kb] at k0
    rcases hy with ⟨rfl, hy⟩ | ⟨rfl, hy⟩
    · refine Or.inl ⟨1, ⟨by decide, by decide⟩, ?_, Or.inl ?_⟩
      · unfold fP_obey fP_stateAfter
        rw [hp, e]
        rfl
      · rw [k0]
        unfold fR_obey_31
        rw [e]
        rfl
    · refine Or.inl ⟨5, ⟨by decide, by decide⟩, ?_, Or.inl ?_⟩
      · unfold fP_obey fP_stateAfter
        rw [hp, e]
        rfl
      · rw [k0]
        unfold fR_obey_31
        rw [e]
        rfl
  · have k0 : fR_obey r 1 = fR_obey_15 r 1 1 := rfl
    rw [kb] at k0
    rcases hy with ⟨rfl, hy⟩ | ⟨rfl, hy⟩
    · refine Or.inl ⟨1, ⟨by decide, by decide⟩, ?_, Or.inl ?_⟩
      · unfold fP_obey fP_stateAfter
        rw [hp, e]
        rfl
      · rw [k0]
        unfold fR_obey_31
        rw [e]
        rfl
    · refine Or.inl ⟨1, ⟨by decide, by decide⟩, ?_, Or.inl ?_⟩
      · unfold fP_obey fP_stateAfter
        rw [hp, e]
        rfl
      · rw [k0]
        unfold fR_obey_31
        rw [e]
        rfl
  · have k0 : fR_obey r 2 = fR_obey_15 r 2 1 := rfl
    rw [kb] at k0
    rcases hy with ⟨rfl, hy⟩ | ⟨rfl, hy⟩
    · refine Or.inl ⟨1, ⟨by decide, by decide⟩, ?_, Or.inl ?_⟩
      · unfold fP_obey fP_stateAfter
        rw [hp, e]
        rfl
      · rw [k0]
        unfold fR_obey_31
        rw [e]
        rfl
    · refine Or.inl ⟨5, ⟨by decide, by decide⟩, ?_, Or.inl ?_⟩
      · unfold fP_obey fP_stateAfter
        rw [hp, e]
        rfl
      · rw [k0]
        unfold fR_obey_31
        rw [e]
        rfl
  · have k0 : fR_obey r 3 = fR_obey_15 r 3 0 := rfl
    rw [kb] at k0
    rcases hy with ⟨rfl, hy⟩ | ⟨rfl, hy⟩
    · refine Or.inl ⟨1, ⟨by decide, by decide⟩, ?_, Or.inl ?_⟩
      · unfold fP_obey fP_stateAfter
        rw [hp, e]
        rfl
      · rw [k0]
        unfold fR_obey_31
        rw [e]
        rfl
    · refine Or.inl ⟨5, ⟨by decide, by decide⟩, ?_, Or.inl ?_⟩
      · unfold fP_obey fP_stateAfter
        rw [hp, e]
        rfl
      · rw [k0]
        unfold fR_obey_31
        rw [e]
        rfl
  · have k0 : fR_obey r 4 = fR_obey_15 r 4 0 := rfl
    rw [kb] at k0
    rcases hy with ⟨rfl, hy⟩ | ⟨rfl, hy⟩
    · refine Or.inl ⟨1, ⟨by decide, by decide⟩, ?_, Or.inl ?_⟩
      · unfold fP_obey fP_stateAfter
        rw [hp, e]
        rfl
      · rw [k0]
        unfold fR_obey_31
        rw [e]
        rfl
    · refine Or.inl ⟨5, ⟨by decide, by decide⟩, ?_, Or.inl ?_⟩
      · unfold fP_obey fP_stateAfter
        rw [hp, e]
        rfl
      · rw [k0]
        unfold fR_obey_31
        rw [e]
        rfl
  · have k0 : fR_obey r 5 = fR_obey_15 r 5 0 := rfl
    rw [kb] at k0
    rcases hy with ⟨rfl, hy⟩ | ⟨rfl, hy⟩
    · refine Or.inl ⟨1, ⟨by decide, by decide⟩, ?_, Or.inl ?_⟩
      · unfold fP_obey fP_stateAfter
        rw [hp, e]
        rfl
      · rw [k0]
        unfold fR_obey_31
        rw [e]
        rfl
    · refine Or.inl ⟨5, ⟨by decide, by decide⟩, ?_, Or.inl ?_⟩
      · unfold fP_obey fP_stateAfter
        rw [hp, e]
        rfl
      · rw [k0]
        unfold fR_obey_31
        rw [e]
        rfl
theorem oby6 {c r : cs_S} (hp : c.1 0 8 = r.1 0 6) (e : r.1 0 6 = 6) {a b y : Int32} (ho : OC a b) (hy : (y = 1 ∧ r.1 1 21 = 0) ∨ (y = 0 ∧ ¬ r.1 1 21 = 0)) : obG c r a b y := by
  have kb : ∀ x z, fR_obey_15 r x z = fR_obey_31 r x z y := fun x z => fR_obey_b hy
  rcases ho with ⟨rfl, rfl⟩ | ⟨rfl, rfl⟩ | ⟨rfl, rfl⟩ | ⟨rfl, rfl⟩ | ⟨rfl, rfl⟩ | ⟨rfl, rfl⟩ | ⟨rfl, rfl⟩
  · have k0 : fR_obey r 0 = fR_obey_15 r 0 0 := rfl
    rw [kb] at k0
    rcases hy with ⟨rfl, hy⟩ | ⟨rfl, hy⟩
    · refine Or.inl ⟨7, ⟨by decide, by decide⟩, ?_, Or.inl ?_⟩
      · unfold fP_obey fP_stateAfter
        rw [hp, e]
        rfl
      · rw [k0]
        unfold fR_obey_31
        rw [e]
        rfl
    · refine Or.inl ⟨6, ⟨by decide, by decide⟩, ?_, Or.inl ?_⟩
      · unfold fP_obey fP_stateAfter
        rw [hp, e]
        rfl
      · rw [k0]
        unfold fR_obey_31
        rw [e]
        rfl
  · have k0 : fR_obey r 6 = fR_obey_15 r 6 0 := rfl
    rw [kb] at k0
    rcases hy with ⟨rfl, hy⟩ | ⟨rfl, hy⟩
    · refine Or.inl ⟨7, ⟨by decide, by decide⟩, ?_, Or.inl ?_⟩
      · unfold fP_obey fP_stateAfter
        rw [hp, e]
        rfl
      · rw [k0]
        unfold fR_obey_31
        rw [e]
        rfl
    · refine Or.inl ⟨6, ⟨by decide, by decide⟩, ?_, Or.inl ?_⟩
      · unfold fP_obey fP_stateAfter
        rw [hp, e]
        rfl
      · rw [k0]
        unfold fR_obey_31
        rw [e]
        rfl
  · have k0 : fR_obey r 1 = fR_obey_15 r 1 1 := rfl
    rw [kb] at k0
    rcases hy with ⟨rfl, hy⟩ | ⟨rfl, hy⟩
    · refine Or.inl ⟨7, ⟨by decide, by decide⟩, ?_, Or.inl ?_⟩
      · unfold fP_obey fP_stateAfter
        rw [hp, e]
        rfl
      · rw [k0]
        unfold fR_obey_31
        rw [e]
        rfl
    · refine Or.inl ⟨6, ⟨by decide, by decide⟩, ?_, Or.inl ?_⟩
      · unfold fP_obey fP_stateAfter
        rw [hp, e]
        rfl
      · rw [k0]
        unfold fR_obey_31
        rw [e]
        rfl
  · have k0 : fR_obey r 2 = fR_obey_15 r 2 1 := rfl
    rw [kb] at k0
    rcases hy with ⟨rfl, hy⟩ | ⟨rfl, hy⟩
    · refine Or.inl ⟨7, ⟨by decide, by decide⟩, ?_, Or.inl ?_⟩
      · unfold fP_obey fP_stateAfter
        rw [hp, e]
        rfl
      · rw [k0]
        unfold fR_obey_31
        rw [e]
        rfl
    · refine Or.inl ⟨6, ⟨by decide, by decide⟩, ?_, Or.inl ?_⟩
      · unfold fP_obey fP_stateAfter
        rw [hp, e]
        rfl
      · rw [k0]
        unfold fR_obey_31
        rw [e]
        rfl
  · have k0 : fR_obey r 3 = fR_obey_15 r 3 0 := rfl
    rw [kb] at k0
    rcases hy with ⟨rfl, hy⟩ | ⟨rfl, hy⟩
    · refine Or.inl ⟨7, ⟨by decide, by decide⟩, ?_, Or.inl ?_⟩
      · unfold fP_obey fP_stateAfter
        rw [hp, e]
        rfl
      · rw [k0]
        unfold fR_obey_31
        rw [e]
        rfl
    · refine Or.inl ⟨6, ⟨by decide, by decide⟩, ?_, Or.inl ?_⟩
      · unfold fP_obey fP_stateAfter
        rw [hp, e]
        rfl
      · rw [k0]
        unfold fR_obey_31
        rw [e]
        rfl
  · have k0 : fR_obey r 4 = fR_obey_15 r 4 0 := rfl
    rw [kb] at k0
    rcases hy with ⟨rfl, hy⟩ | ⟨rfl, hy⟩
    · refine Or.inl ⟨7, ⟨by decide, by decide⟩, ?_, Or.inl ?_⟩
      · unfold fP_obey fP_stateAfter
        rw [hp, e]
        rfl
      · rw [k0]
        unfold fR_obey_31
        rw [e]
        rfl
    · refine Or.inl ⟨6, ⟨by decide, by decide⟩, ?_, Or.inl ?_⟩
      · unfold fP_obey fP_stateAfter
        rw [hp, e]
        rfl
      · rw [k0]
        unfold fR_obey_31
        rw [e]
        rfl
  · have k0 : fR_obey r 5 = fR_obey_15 r 5 0 := rfl
    rw [kb] at k0
    rcases hy with ⟨rfl, hy⟩ | ⟨rfl, hy⟩
    · refine Or.inl ⟨7, ⟨by decide, by decide⟩, ?_, Or.inl ?_⟩
      · unfold fP_obey fP_stateAfter
        rw [hp, e]
        rfl
      · rw [k0]
        unfold fR_obey_31
        rw [e]
        rfl
    · refine Or.inl ⟨6, ⟨by decide, by decide⟩, ?_, Or.inl ?_⟩
      · unfold fP_obey fP_stateAfter
        rw [hp, e]
        rfl
      · rw [k0]
        unfold fR_obey_31
        rw [e]
        rfl
theorem oby7 {c r : cs_S} (hp : c.1 0 8 = r.1 0 6) (e : r.1 0 6 = 7) {a b y : Int32} (ho : OC a b) (hy : (y = 1 ∧ r.1 1 21 = 0) ∨ (y = 0 ∧ ¬ r.1 1 21 = 0)) : obG c r a b y := by
  have kb : ∀ x z, fR_obey_15 r x z = fR_obey_31 r x z y := fun x z => fR_obey_b hy
  rcases ho with ⟨rfl, rfl⟩ | ⟨rfl, rfl⟩ | ⟨rfl, rfl⟩ | ⟨rfl, rfl⟩ | ⟨rfl, rfl⟩ | ⟨rfl, rfl⟩ | ⟨rfl, rfl⟩
  · have k0 : fR_obey r 0 = fR_obey_15 r 0 0 := rfl
    rw [kb] at k0
    rcases hy with ⟨rfl, hy⟩ | ⟨rfl, hy⟩
    · refine Or.inl ⟨7, ⟨by decide, by decide⟩, ?_, Or.inr ⟨?_, e.symm⟩⟩
      · unfold fP_obey fP_stateAfter
        rw [hp, e]
        rfl
      · rw [k0]
        unfold fR_obey_31
        rw [e]
        rfl
    · refine Or.inl ⟨7, ⟨by decide, by decide⟩, ?_, Or.inr ⟨?_, e.symm⟩⟩
      · unfold fP_obey fP_stateAfter
        rw [hp, e]
        rfl
      · rw [k0]
        unfold fR_obey_31
        rw [e]
        rfl
  · have k0 : fR_obey r 6 = fR_obey_15 r 6 0 := rfl
    rw [kb] at k0
    rcases hy with ⟨rfl, hy⟩ | ⟨rfl, hy⟩
    · refine Or.inr ⟨?_, ?_⟩
      · unfold fP_obey fP_stateAfter
        rw [hp, e]
        rfl
      · rw [k0]
        unfold fR_obey_31
        rw [e]
        show ab_bd (fR_emergency (cs_u (cs_u r 0 6 1) 1 0 0) 0) (fun p1 => some p1) = _
        exact ab_id _
    · refine Or.inr ⟨?_, ?_⟩
      · unfold fP_obey fP_stateAfter
        rw [hp, e]
        rfl
      · rw [k0]
        unfold fR_obey_31
        rw [e]
        show ab_bd (fR_emergency (cs_u (cs_u r 0 6 1) 1 0 0) 0) (fun p1 => some p1) = _
        exact ab_id _
  · have k0 : fR_obey r 1 = fR_obey_15 r 1 1 := rfl
    rw [kb] at k0
    rcases hy with ⟨rfl, hy⟩ | ⟨rfl, hy⟩
    · refine Or.inl ⟨7, ⟨by decide, by decide⟩, ?_, Or.inr ⟨?_, e.symm⟩⟩
      · unfold fP_obey fP_stateAfter
        rw [hp, e]
        rfl
      · rw [k0]
        unfold fR_obey_31
        rw [e]
        rfl
    · refine Or.inl ⟨7, ⟨by decide, by decide⟩, ?_, Or.inr ⟨?_, e.symm⟩⟩
      · unfold fP_obey fP_stateAfter
        rw [hp, e]
        rfl
      · rw [k0]
        unfold fR_obey_31
        rw [e]
        rfl
  · have k0 : fR_obey r 2 = fR_obey_15 r 2 1 := rfl
    rw [kb] at k0
    rcases hy with ⟨rfl, hy⟩ | ⟨rfl, hy⟩
    · refine Or.inl ⟨7, ⟨by decide, by decide⟩, ?_, Or.inr ⟨?_, e.symm⟩⟩
      · unfold fP_obey fP_stateAfter
        rw [hp, e]
        rfl
      · rw [k0]
        unfold fR_obey_31
        rw [e]
        rfl
    · refine Or.inl ⟨7, ⟨by decide, by decide⟩, ?_, Or.inr ⟨?_, e.symm⟩⟩
      · unfold fP_obey fP_stateAfter
        rw [hp, e]
        rfl
      · rw [k0]
        unfold fR_obey_31
        rw [e]
        rfl
  · have k0 : fR_obey r 3 = fR_obey_15 r 3 0 := rfl
    rw [kb] at k0
    rcases hy with ⟨rfl, hy⟩ | ⟨rfl, hy⟩
    · refine Or.inl ⟨7, ⟨by decide, by decide⟩, ?_, Or.inr ⟨?_, e.symm⟩⟩
      · unfold fP_obey fP_stateAfter
        rw [hp, e]
        rfl
      · rw [k0]
        unfold fR_obey_31
        rw [e]
        rfl
    · refine Or.inl ⟨7, ⟨by decide, by decide⟩, ?_, Or.inr ⟨?_, e.symm⟩⟩
      · unfold fP_obey fP_stateAfter
        rw [hp, e]
        rfl
      · rw [k0]
        unfold fR_obey_31
        rw [e]
        rfl
  · have k0 : fR_obey r 4 = fR_obey_15 r 4 0 := rfl
    rw [kb] at k0
    rcases hy with ⟨rfl, hy⟩ | ⟨rfl, hy⟩
    · refine Or.inl ⟨7, ⟨by decide, by decide⟩, ?_, Or.inr ⟨?_, e.symm⟩⟩
      · unfold fP_obey fP_stateAfter
        rw [hp, e]
        rfl
      · rw [k0]
        unfold fR_obey_31
        rw [e]
        rfl
    · refine Or.inl ⟨7, ⟨by decide, by decide⟩, ?_, Or.inr ⟨?_, e.symm⟩⟩
      · unfold fP_obey fP_stateAfter
        rw [hp, e]
        rfl
      · rw [k0]
        unfold fR_obey_31
        rw [e]
        rfl
  · have k0 : fR_obey r 5 = fR_obey_15 r 5 0 := rfl
    rw [kb] at k0
    rcases hy with ⟨rfl, hy⟩ | ⟨rfl, hy⟩
    · refine Or.inl ⟨7, ⟨by decide, by decide⟩, ?_, Or.inr ⟨?_, e.symm⟩⟩
      · unfold fP_obey fP_stateAfter
        rw [hp, e]
        rfl
      · rw [k0]
        unfold fR_obey_31
        rw [e]
        rfl
    · refine Or.inl ⟨7, ⟨by decide, by decide⟩, ?_, Or.inr ⟨?_, e.symm⟩⟩
      · unfold fP_obey fP_stateAfter
        rw [hp, e]
        rfl
      · rw [k0]
        unfold fR_obey_31
        rw [e]
        rfl
theorem oby {c r : cs_S} (hp : c.1 0 8 = r.1 0 6) (hr : rg (r.1 0 6) 1 7) {a b y : Int32} (ho : OC a b) (hy : (y = 1 ∧ r.1 1 21 = 0) ∨ (y = 0 ∧ ¬ r.1 1 21 = 0)) : obG c r a b y := by
  rcases pw7 hr with e | e | e | e | e | e | e
  · exact oby1 hp e ho hy
  · exact oby2 hp e ho hy
  · exact oby3 hp e ho hy
  · exact oby4 hp e ho hy
  · exact oby5 hp e ho hy
  · exact oby6 hp e ho hy
  · exact oby7 hp e ho hy
theorem obe {tp ts : Nat} {ag s : Int32} {c r : cs_S} (h : LRt tp ts (ag, s, s) c r) (x : Int32) : ∃ c' r' z, fS_obeyControl c = some c' ∧ fR_step_191 r x = (ab_bd (fR_move r' x) (fun p1 => (ab_bd (fR_outByTime p1) (fun p2 => (some p2))))) ∧ LRt tp ts (ag, z, z) c' r' := by
  obtain ⟨a, b, z, o1, o2, o3, o4⟩ := ordr (h.1.sv.1.trans h.1.sv.2.symm) (h.1.ve 16 (by decide) (by decide))
  obtain ⟨y, hy⟩ : ∃ y : Int32, (y = 1 ∧ r.1 1 21 = 0) ∨ (y = 0 ∧ ¬ r.1 1 21 = 0) := by
    by_cases e : r.1 1 21 = 0
    · exact ⟨1, Or.inl ⟨rfl, e⟩⟩
    · exact ⟨0, Or.inr ⟨rfl, e⟩⟩
  have s21 : (cs_u c 0 9 z).1 1 21 = r.1 1 21 := h.1.ve 21 (by decide) (by decide)
  have k1 : ∀ q c2, fP_obey (cs_u c 0 9 z) a y = (q, c2) → fS_obeyControl c = if q = 0 then some c2 else fS_sendEmergency (cs_u c2 1 0 0) 0 := by
    intro q c2 hq
    unfold fS_obeyControl
    rw [o1]
    show (if (cs_u c 0 9 z).1 1 21 = 0 then (if (fP_obey (cs_u c 0 9 z) a 1).1 = 0 then some (fP_obey (cs_u c 0 9 z) a 1).2 else (ab_bd (fS_sendEmergency (cs_u (fP_obey (cs_u c 0 9 z) a 1).2 1 0 0) 0) (fun p => some p))) else (if (fP_obey (cs_u c 0 9 z) a 0).1 = 0 then some (fP_obey (cs_u c 0 9 z) a 0).2 else (ab_bd (fS_sendEmergency (cs_u (fP_obey (cs_u c 0 9 z) a 0).2 1 0 0) 0) (fun p => some p)))) = _
    rw [s21]
    rcases hy with ⟨rfl, e⟩ | ⟨rfl, e⟩
    · rw [if_pos e, hq, ab_id]
    · rw [if_neg e, hq, ab_id]
  have k2 : ∀ r1, fR_obey r b = some r1 → r1.1 1 16 = r.1 1 16 → fR_step_191 r x = (ab_bd (fR_move (cs_u r1 0 10 z) x) (fun p1 => (ab_bd (fR_outByTime p1) (fun p2 => (some p2))))) := by
    intro r1 e1 e2
    unfold fR_step_191
    rw [o2, e1]
    show (if (r1.1 1 16 &&& 128) = 0 then fR_step_219 r1 x 0 else fR_step_219 r1 x 1) = _
    rw [e2]
    rcases o4 with ⟨e, rfl⟩ | ⟨e, rfl⟩
    · rw [if_pos e]
      unfold fR_step_219
      rw [if_pos (by decide)]
    · rw [if_neg e]
      unfold fR_step_219
      rw [if_pos (by decide)]
  rcases oby (c := cs_u c 0 9 z) (r := r) h.1.pw.1 h.1.pw.2 o3 hy with ⟨q, hq, f1, f2⟩ | ⟨f1, f2⟩
  · rcases f2 with f2 | ⟨f2, f3⟩
    · exact ⟨cs_u (cs_u c 0 9 z) 0 8 q, cs_u (cs_u r 0 6 q) 0 10 z, z, by rw [k1 _ _ f1, if_pos rfl], k2 _ f2 rfl, ⟨⟨h.1.ve, h.1.iv, h.1.nd, h.1.nt, h.1.bt, h.1.lo, h.1.bu, ⟨rfl, hq⟩, ⟨rfl, rfl⟩, h.1.pl, h.1.wa, h.1.se, h.1.ag, h.1.ll, h.1.sy, h.1.ld, h.1.sa⟩, h.2.1, h.2.2⟩⟩
    · exact ⟨cs_u (cs_u c 0 9 z) 0 8 q, cs_u r 0 10 z, z, by rw [k1 _ _ f1, if_pos rfl], k2 _ f2 rfl, ⟨⟨h.1.ve, h.1.iv, h.1.nd, h.1.nt, h.1.bt, h.1.lo, h.1.bu, ⟨f3, h.1.pw.2⟩, ⟨rfl, rfl⟩, h.1.pl, h.1.wa, h.1.se, h.1.ag, h.1.ll, h.1.sy, h.1.ld, h.1.sa⟩, h.2.1, h.2.2⟩⟩
  · have k3 : LRt tp ts (ag, z, s) (cs_u (cs_u (cs_u c 0 9 z) 0 8 1) 1 0 0) (cs_u (cs_u r 0 6 1) 1 0 0) := LRt_f (g := (ag, z, s)) (c := cs_u c 0 9 z) (r := r) ⟨⟨h.1.ve, h.1.iv, h.1.nd, h.1.nt, h.1.bt, h.1.lo, h.1.bu, h.1.pw, ⟨rfl, h.1.sv.2⟩, h.1.pl, h.1.wa, h.1.se, h.1.ag, h.1.ll, h.1.sy, h.1.ld, h.1.sa⟩, h.2.1, h.2.2⟩ 1 0 ⟨by decide, by decide⟩
    obtain ⟨c', r', d1, d2, d3, d4⟩ := emg k3 0
    refine ⟨c', cs_u r' 0 10 z, z, ?_, k2 _ (f2.trans d2) ?_, ⟨⟨d3.1.ve, d3.1.iv, d3.1.nd, d3.1.nt, d3.1.bt, d3.1.lo, d3.1.bu, d3.1.pw, ⟨d3.1.sv.1, rfl⟩, d3.1.pl, d3.1.wa, d3.1.se, d3.1.ag, d3.1.ll, d3.1.sy, d3.1.ld, d3.1.sa⟩, d3.2.1, d3.2.2⟩⟩
    · rw [k1 _ _ f1, if_neg (by decide)]
      exact d1
    · rw [d4.1]
      rfl
theorem LRt_mv {tp ts : Nat} {g : Int32 × Int32 × Int32} {c r : cs_S} (h : LRt tp ts g c r) (ht : tp ≤ 100000) {x : Int32} (hx : rg x (-1000) 1000) : LRt (tp + 1) ts g (fV_moveWith c x) (cs_u (cs_u r 1 21 x) 0 7 (r.1 0 7 + x)) := by
  have p1 := h.1.pl.2.1
  have p2 := h.1.pl.2.2
  have x1 := hx.1
  have x2 := hx.2
  have ha : (r.1 0 7 + x).toInt = (r.1 0 7).toInt + x.toInt := ia_add (by omega) (by omega)
  exact ⟨⟨VE_u h.1.ve 21 x, IV_21 h.1.iv hx, h.1.nd, h.1.nt, h.1.bt, h.1.lo, h.1.bu, h.1.pw, h.1.sv, ⟨(by show c.1 0 10 + x = r.1 0 7 + x; rw [h.1.pl.1]), (by show rg (r.1 0 7 + x) _ _; exact ⟨by rw [ha]; omega, by rw [ha]; omega⟩)⟩, h.1.wa, h.1.se, h.1.ag, h.1.ll, h.1.sy, h.1.ld, rg_w h.1.sa (by omega) (by omega)⟩, h.2.1, h.2.2⟩
theorem IV_TV {v : Nat → Int32} (h : IV v) : TV v := ⟨h.2.2.1, h.2.2.2.1, h.1.2.2.2.2.1, h.1.2.2.2.2.2.1, h.1.2.2.2.2.2.2.1, h.1.2.2.2.2.2.2.2.1, h.1.2.2.2.2.2.2.2.2.1, h.1.2.2.2.2.2.2.2.2.2, h.2.2.2.2⟩
theorem mov {tp ts : Nat} {g : Int32 × Int32 × Int32} {c r : cs_S} (h : LRt tp ts g c r) {x : Int32} (hx : rg x (-(1000000 + 1000 * (tp : Int))) (1000000 + 1000 * (tp : Int))) (ht : tp ≤ 100000) : ∃ c' r', fS_move c x = some c' ∧ fR_move r x = some r' ∧ LRt (tp + 1) ts g c' r' ∧ SP r' := by
  have hp := h.1.pw
  have p1 := h.1.pl.2.1
  have p2 := h.1.pl.2.2
  have k0 : LRt (tp + 1) ts g (fV_rest c x) (cs_u (cs_u r 1 21 0) 0 7 x) := ⟨⟨VE_u h.1.ve 21 0, IV_21 h.1.iv ⟨by decide, by decide⟩, h.1.nd, h.1.nt, h.1.bt, h.1.lo, h.1.bu, h.1.pw, h.1.sv, ⟨rfl, rg_w hx (by omega) (by omega)⟩, h.1.wa, h.1.se, h.1.ag, h.1.ll, h.1.sy, h.1.ld, rg_w h.1.sa (by omega) (by omega)⟩, h.2.1, h.2.2⟩
  have tv := IV_TV h.1.iv
  unfold fS_move fR_move
  rcases pw7 hp.2 with e | e | e | e | e | e | e
  · refine ⟨fV_rest c x, cs_u (cs_u r 1 21 0) 0 7 x, ?_, ?_, k0, Or.inr (Or.inr (Or.inr rfl))⟩
    · rw [if_pos (show fP_isEnabled c = 0 by unfold fP_isEnabled; rw [hp.1, e]; rfl), if_pos (show fP_isStageOn c = 0 by unfold fP_isStageOn; rw [hp.1, e]; rfl)]
    · rw [if_pos (show fR_stage r = 0 by unfold fR_stage; rw [e]; rfl)]
  · refine ⟨fV_rest c x, cs_u (cs_u r 1 21 0) 0 7 x, ?_, ?_, k0, Or.inr (Or.inr (Or.inr rfl))⟩
    · rw [if_pos (show fP_isEnabled c = 0 by unfold fP_isEnabled; rw [hp.1, e]; rfl), if_pos (show fP_isStageOn c = 0 by unfold fP_isStageOn; rw [hp.1, e]; rfl)]
    · rw [if_pos (show fR_stage r = 0 by unfold fR_stage; rw [e]; rfl)]
  · refine ⟨fV_rest c x, cs_u (cs_u r 1 21 0) 0 7 x, ?_, ?_, k0, Or.inr (Or.inr (Or.inr rfl))⟩
    · rw [if_pos (show fP_isEnabled c = 0 by unfold fP_isEnabled; rw [hp.1, e]; rfl), if_pos (show fP_isStageOn c = 0 by unfold fP_isStageOn; rw [hp.1, e]; rfl)]
    · rw [if_pos (show fR_stage r = 0 by unfold fR_stage; rw [e]; rfl)]
  · obtain ⟨y, r1, f1, f2, f3, f4⟩ := flw h.1.ve tv h.1.pl.1 ⟨by omega, by omega⟩
    refine ⟨fV_moveWith c y, cs_u (cs_u r1 1 21 y) 0 7 (r1.1 0 7 + y), ?_, ?_, LRt_mv (LRt_wy h f3) ht f4, Or.inl (by show r1.1 0 6 = 4; rw [f3.1 0 (by decide)]; exact e)⟩
    · rw [if_neg (show ¬ fP_isEnabled c = 0 by unfold fP_isEnabled; rw [hp.1, e]; decide), ab_id]
      exact f1
    · rw [if_neg (show ¬ fR_stage r = 0 by unfold fR_stage; rw [e]; decide), if_pos e, f2]
      rfl
  · have sl := slow_eq (x := r.1 1 21) (b := r.1 1 28) tv.1 ⟨by have := tv.2.2.2.2.2.2.2.1.1; omega, tv.2.2.2.2.2.2.2.1.2⟩
    have sc : fV_brake c = fV_moveWith c (fR_slower (r.1 1 21) (r.1 1 28)) := by
      unfold fV_brake
      rw [h.1.ve 21 (by decide) (by decide), h.1.ve 28 (by decide) (by decide), sl.1]
    rw [sl.1] at sl
    refine ⟨fV_moveWith c (fR_slower (r.1 1 21) (r.1 1 28)), cs_u (cs_u r 1 21 (fR_slower (r.1 1 21) (r.1 1 28))) 0 7 (r.1 0 7 + fR_slower (r.1 1 21) (r.1 1 28)), ?_, ?_, LRt_mv h ht sl.2, Or.inr (Or.inl e)⟩
    · rw [if_pos (show fP_isEnabled c = 0 by unfold fP_isEnabled; rw [hp.1, e]; rfl), if_neg (show ¬ fP_isStageOn c = 0 by unfold fP_isStageOn; rw [hp.1, e]; decide), sc]
    · rw [if_neg (show ¬ fR_stage r = 0 by unfold fR_stage; rw [e]; decide), if_neg (by rw [e]; decide)]
  · have sl := slow_eq (x := r.1 1 21) (b := r.1 1 28) tv.1 ⟨by have := tv.2.2.2.2.2.2.2.1.1; omega, tv.2.2.2.2.2.2.2.1.2⟩
    have sc : fV_brake c = fV_moveWith c (fR_slower (r.1 1 21) (r.1 1 28)) := by
      unfold fV_brake
      rw [h.1.ve 21 (by decide) (by decide), h.1.ve 28 (by decide) (by decide), sl.1]
    rw [sl.1] at sl
    refine ⟨fV_moveWith c (fR_slower (r.1 1 21) (r.1 1 28)), cs_u (cs_u r 1 21 (fR_slower (r.1 1 21) (r.1 1 28))) 0 7 (r.1 0 7 + fR_slower (r.1 1 21) (r.1 1 28)), ?_, ?_, LRt_mv h ht sl.2, Or.inr (Or.inr (Or.inl e))⟩
    · rw [if_pos (show fP_isEnabled c = 0 by unfold fP_isEnabled; rw [hp.1, e]; rfl), if_neg (show ¬ fP_isStageOn c = 0 by unfold fP_isStageOn; rw [hp.1, e]; decide), sc]
    · rw [if_neg (show ¬ fR_stage r = 0 by unfold fR_stage; rw [e]; decide), if_neg (by rw [e]; decide)]
  · refine ⟨fV_rest c x, cs_u (cs_u r 1 21 0) 0 7 x, ?_, ?_, k0, Or.inr (Or.inr (Or.inr rfl))⟩
    · rw [if_pos (show fP_isEnabled c = 0 by unfold fP_isEnabled; rw [hp.1, e]; rfl), if_pos (show fP_isStageOn c = 0 by unfold fP_isStageOn; rw [hp.1, e]; rfl)]
    · rw [if_pos (show fR_stage r = 0 by unfold fR_stage; rw [e]; rfl)]
