/-! All methods: lw_ok -/
theorem rcv {tp ts : Nat} {s : Int32} {c r : cs_S} (h : LRt tp ts (0, s, s) c r) (sp : SP r) (x1 x2 : Int32) (x3 : Int64) : ∃ v c' r' z, fS_receive c x1 x2 x3 = some (v, c') ∧ fR_receive r x1 x2 x3 = some (v, r') ∧ LRt tp ts (0, z, z) c' r' ∧ SP r' := by
  unfold fS_receive fR_receive fB_isBusOn
  rw [h.1.bu.1, if_pos (bs1 h.1.bu.2), ab_bd_s, h.1.nd]
  by_cases a1 : x1 < 0
  · exact ⟨-1, c, r, s, if_pos a1, if_pos a1, h, sp⟩
  rw [if_neg a1, if_neg a1]
  by_cases a2 : (2047 : Int32) < x1
  · exact ⟨-1, c, r, s, if_pos a2, if_pos a2, h, sp⟩
  rw [if_neg a2, if_neg a2]
  by_cases a3 : x2 < 0
  · exact ⟨-1, c, r, s, if_pos a3, if_pos a3, h, sp⟩
  rw [if_neg a3, if_neg a3]
  by_cases a4 : x2 ≤ 8
  rotate_left
  · exact ⟨-1, c, r, s, if_neg a4, if_neg a4, h, sp⟩
  rw [if_pos a4, if_pos a4]
  by_cases a5 : r.1 0 8 = 0
  · exact ⟨0, c, r, s, if_pos a5, if_pos a5, h, sp⟩
  rw [if_neg a5, if_neg a5]
  by_cases b0 : x1 = 0
  · rw [if_pos b0, if_pos b0]
    obtain ⟨v, c', r', z, e1, e2, e3, e4⟩ := nwk h sp x2 x3
    refine ⟨v, c', r', z, by rw [e1, ab_bd_s], ?_, e3, e4⟩
    by_cases d : x2 = 2
    · rw [if_pos d] at e2 ⊢
      rw [e2, ab_bd_s]
    · rw [if_neg d] at e2 ⊢
      exact e2
  rw [if_neg b0, if_neg b0]
  by_cases b1 : x1 = 128
  · rw [if_pos b1, if_pos b1]
    obtain ⟨v, c', r', e1, e2, e3, e4⟩ := syn h
    refine ⟨v, c', r', s, by rw [e1, ab_bd_s], by rw [e2, ab_bd_s], e3, ?_⟩
    unfold SP
    rw [e4.1, e4.2]
    exact sp
  rw [if_neg b1, if_neg b1]
  by_cases b2 : x1 = 512 + r.1 0 4
  · rw [if_pos b2, if_pos b2]
    obtain ⟨v, c', r', e1, e2, e3, e4⟩ := ain h sp x2 x3
    exact ⟨v, c', r', s, by rw [e1, ab_bd_s], by rw [e2, ab_bd_s], e3, e4⟩
  rw [if_neg b2, if_neg b2]
  by_cases b3 : x1 = 1536 + r.1 0 4
  · rw [if_pos b3, if_pos b3]
    obtain ⟨v, c', r', e1, e2, e3, e4⟩ := chn h sp x2 x3
    refine ⟨v, c', r', s, by rw [e1, ab_bd_s], ?_, e3, e4⟩
    by_cases d : x2 = 8
    · rw [if_pos d] at e2 ⊢
      rw [e2, ab_bd_s]
    · rw [if_neg d] at e2 ⊢
      exact e2
  rw [if_neg b3, if_neg b3]
  obtain ⟨v, c', r', e1, e2, e3, e4⟩ := hbt h sp x1 x2
  refine ⟨v, c', r', s, ?_, e2, e3, e4⟩
  show some ((fS_acceptHeartbeat c (x1 - 1792) x2).1, (fS_acceptHeartbeat c (x1 - 1792) x2).2) = _
  rw [e1]
def LR (n : Nat) (c r : cs_S) : Prop := ∃ s, LRt (100 * n) (100 * n) (0, s, s) c r ∧ SP r
theorem LR_w {n : Nat} {c r : cs_S} (h : LR n c r) : LR (n + 1) c r := by
  obtain ⟨s, h1, h2⟩ := h
  exact ⟨s, LRt_w h1 (by omega) (by omega), h2⟩
theorem LR_i {n a b : Nat} {s : Int32} {c r : cs_S} (h : LRt a b (0, s, s) c r) (sp : SP r) (ha : a ≤ 100 * (n + 1)) (hb : b ≤ 100 * (n + 1)) : LR (n + 1) c r := ⟨s, LRt_w h ha hb, sp⟩
theorem ok_0 : lw_ok0 LR := by
  intro x
  obtain ⟨c, r, e1, e2, e3, e4⟩ := cup (tp := 0) (ts := 0) (c := cs_0 (cs_node x)) (r := rs_0 (cs_node x)) ⟨rfl, rfl, rfl, rfl, rfl, rfl, (show rg (0 : Int32) _ _ from ⟨by decide, by decide⟩), ⟨fun _ _ => rfl, fun _ _ => rfl⟩, (show rg (0 : Int32) _ _ from ⟨by decide, by decide⟩), (show rg (0 : Int32) _ _ from ⟨by decide, by decide⟩), fun _ => rfl, fun n => absurd rfl n, fun n => absurd rfl n⟩
  exact ⟨c, r, e1, e2, 0, e3, e4⟩
theorem ok_receive : lw_ok_receive LR := by
  intro n c r hn ⟨s, h, sp⟩ a1 a2 a3
  obtain ⟨v, c', r', z, e1, e2, e3, e4⟩ := rcv h sp a1 a2 a3
  exact ⟨v, c', r', e1, e2, LR_i e3 e4 (by omega) (by omega)⟩
theorem ok_tick : lw_ok_tick LR := by
  intro n c r hn ⟨s, h, sp⟩ a1
  unfold fS_tick fR_tick
  by_cases b1 : a1 < -1000000
  · exact ⟨0, c, r, if_pos b1, if_pos b1, LR_i h sp (by omega) (by omega)⟩
  by_cases b2 : a1 ≤ 1000000
  rotate_left
  · exact ⟨0, c, r, by rw [if_neg b1, if_neg b2], by rw [if_neg b1, if_neg b2], LR_i h sp (by omega) (by omega)⟩
  have hx : rg a1 (-(1000000 + 1000 * ((100 * n : Nat) : Int))) (1000000 + 1000 * ((100 * n : Nat) : Int)) := by
    rw [Int32.lt_iff_toInt_lt] at b1
    rw [Int32.le_iff_toInt_le] at b2
    have t1 : (-1000000 : Int32).toInt = -1000000 := by decide
    have t2 : (1000000 : Int32).toInt = 1000000 := by decide
    exact ⟨by omega, by omega⟩
  obtain ⟨c', r', z, e1, e2, e3, e4⟩ := mtk h sp hx (by omega) (by omega)
  exact ⟨1, c', r', by rw [if_neg b1, if_pos b2, e1, ab_bd_s], by rw [if_neg b1, if_pos b2, e2, ab_bd_s], LR_i e3 e4 (by omega) (by omega)⟩
theorem ok_run : lw_ok_run LR := by
  intro n c r hn ⟨s, h, sp⟩ a1
  unfold fS_run fR_run
  by_cases b1 : a1 < 0
  · exact ⟨-1, c, r, if_pos b1, if_pos b1, LR_i h sp (by omega) (by omega)⟩
  by_cases b2 : a1 ≤ 100
  rotate_left
  · exact ⟨-1, c, r, by rw [if_neg b1, if_neg b2], by rw [if_neg b1, if_neg b2], LR_i h sp (by omega) (by omega)⟩
  rw [if_neg b1, if_neg b1, if_pos b2, if_pos b2]
  rw [Int32.lt_iff_toInt_lt, i0] at b1
  rw [Int32.le_iff_toInt_le] at b2
  have t2 : (100 : Int32).toInt = 100 := by decide
  obtain ⟨m, hm, rfl⟩ := rg_nI (x := a1) (b := 100) (by decide) ⟨by omega, by omega⟩
  obtain ⟨v, c', r', z, e1, e2, e3, e4⟩ := run_l hm m 0 102 (100 * n) (100 * n) s 0 c r (by omega) (by omega) (by omega) (by omega) h sp
  exact ⟨v, c', r', e1, e2, LR_i e3 e4 (by omega) (by omega)⟩
theorem ok_bus : lw_ok_bus LR := by
  intro n c r hn ⟨s, h, sp⟩ a1 ha
  obtain ⟨c', r', e1, e2, e3, e4⟩ := bss h sp ha
  exact ⟨c', r', e1, e2, LR_i e3 e4 (by omega) (by omega)⟩
theorem ok_restart : lw_ok_restart LR := by
  intro n c r hn ⟨s, h, sp⟩
  obtain ⟨c', r', e1, e2, e3, e4⟩ := cup' h
  refine ⟨c', r', ?_, e2, LR_i e3 e4 (by omega) (by omega)⟩
  unfold fS_restart
  rw [ab_id]
  exact e1
theorem ok_nextIdentifier : lw_ok_nextIdentifier LR := by
  intro n c r hn h
  obtain ⟨s, h1, _⟩ := id h
  obtain ⟨m, hm⟩ := h1.2.1
  exact ⟨_, rfl, (BX_next hm).1, LR_w h⟩
theorem ok_nextLength : lw_ok_nextLength LR := by
  intro n c r hn h
  obtain ⟨s, h1, _⟩ := id h
  obtain ⟨m, hm⟩ := h1.2.1
  exact ⟨_, rfl, (BX_next hm).2.1, LR_w h⟩
theorem ok_nextData : lw_ok_nextData LR := by
  intro n c r hn h
  obtain ⟨s, h1, _⟩ := id h
  obtain ⟨m, hm⟩ := h1.2.1
  obtain ⟨v, e1, e2⟩ := (BX_next hm).2.2
  exact ⟨v, e1, e2, LR_w h⟩
theorem ok_take : lw_ok_take LR := by
  intro n c r hn ⟨s, h, sp⟩
  obtain ⟨ho, ⟨m, hm⟩, hs⟩ := h
  obtain ⟨v, c', r', m', e1, e2, e3, e4, e5⟩ := BX_take hm
  refine ⟨v, c', r', e1, e2, LR_i (n := n) (s := s) ⟨OTb_fm ho e4 e5, ⟨m', e3⟩, ST_fm hs e4 e5⟩ ?_ (by omega) (by omega)⟩
  unfold SP
  rw [e5.1 1 (by decide) (by decide) (by decide), e5.2.1 6 (by decide)]
  exact sp
theorem ok_waiting : lw_ok_waiting LR := by
  intro n c r hn h
  obtain ⟨s, h1, _⟩ := id h
  obtain ⟨m, hm⟩ := h1.2.1
  exact ⟨_, rfl, hm.2.2.1.trans hm.2.1.symm, LR_w h⟩
theorem ok_lost : lw_ok_lost LR := by
  intro n c r hn h
  obtain ⟨s, h1, _⟩ := id h
  exact ⟨_, rfl, h1.1.lo.symm, LR_w h⟩
theorem ok_object : lw_ok_object LR := by
  intro n c r hn ⟨s, h, sp⟩ a1 a2
  obtain ⟨v, c', e1, e2, e3⟩ := obj h a1 a2
  exact ⟨v, c', e1, e2, LR_i e3 sp (by omega) (by omega)⟩
theorem ok_network : lw_ok_network LR := by
  intro n c r hn h
  obtain ⟨s, h1, _⟩ := id h
  exact ⟨_, rfl, h1.1.nt.symm, LR_w h⟩
theorem ok_power : lw_ok_power LR := by
  intro n c r hn h
  obtain ⟨s, h1, _⟩ := id h
  exact ⟨_, rfl, h1.1.pw.1.symm, LR_w h⟩
theorem ok_speed : lw_ok_speed LR := by
  intro n c r hn h
  obtain ⟨s, h1, _⟩ := id h
  exact ⟨_, rfl, (h1.1.ve 21 (by decide) (by decide)).symm, LR_w h⟩
theorem ok_position : lw_ok_position LR := by
  intro n c r hn h
  obtain ⟨s, h1, _⟩ := id h
  exact ⟨_, rfl, h1.1.pl.1.symm, LR_w h⟩
theorem ok_word : lw_ok_word LR := by
  intro n c r hn h a1 a2
  obtain ⟨s, h1, _⟩ := id h
  obtain ⟨v, e1, e2⟩ := wrd h1.2.2.1 a1 a2
  exact ⟨v, e1, e2, LR_w h⟩
theorem ok_all : lw_ok LR := ⟨ok_0, fun _ _ _ h => LR_w h, ok_receive, ok_tick, ok_run, ok_bus, ok_restart, ok_nextIdentifier, ok_nextLength, ok_nextData, ok_take, ok_waiting, ok_lost, ok_object, ok_network, ok_power, ok_speed, ok_position, ok_word⟩
