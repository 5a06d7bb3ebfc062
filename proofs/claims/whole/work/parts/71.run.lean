/-! A whole tick, and a run of them -/
def tl (c : cs_S) (x : Int32) : Option cs_S := ab_bd (fS_obeyControl c) (fun p => ab_bd (fS_move p x) (fun q => let s := fO_countTick q; ab_bd (fS_sendOutWhenDue s) (fun t => some t)))
def wt (c : cs_S) (x : Int32) : Option cs_S := if fP_isEnabled c = 0 then tl c x else (if i_abs (x - fV_demanded c) ≤ c.1 1 20 then tl c x else ab_bd (fS_fault c 34321) (fun p => tl p x))
def gt (c : cs_S) (x : Int32) : Option cs_S := let p3 := fH_runsOut c (fS_watchTime c); if p3.1 = 0 then wt p3.2 x else ab_bd (fS_fault p3.2 33072) (fun p => wt p x)
def st (c : cs_S) (x : Int32) : Option cs_S := ab_bd (fT_goOn c) (fun p1 => ab_bd (fS_beat p1) (fun p2 => gt p2 x))
theorem mk_st (c : cs_S) (x : Int32) : fS_makeTick c x = if fP_isStageOn (cs_u c 1 19 x) = 0 then st (fV_rest (cs_u c 1 19 x) x) x else st (cs_u c 1 19 x) x := rfl
theorem tai {tp ts : Nat} {s : Int32} {c r : cs_S} (h : LRt tp ts (1, s, s) c r) {x : Int32} (hx : rg x (-(1000000 + 1000 * (tp : Int))) (1000000 + 1000 * (tp : Int))) (ht : tp ≤ 100000) : ∃ c' r' z, fR_step_191 r x = some r' ∧ LRt (tp + 1) ts (0, z, z) c' r' ∧ SP r' ∧ tl c x = some c' := by
  obtain ⟨c1, r1, z, e1, e2, e3⟩ := obe h x
  obtain ⟨c2, r2, f1, f2, f3, f4⟩ := mov e3 hx ht
  have hag : r2.1 0 15 = c2.1 0 14 + 1 := f3.1.ag
  have k : LRt (tp + 1) ts (0, z, z) (fO_countTick c2) r2 := ⟨⟨f3.1.ve, f3.1.iv, f3.1.nd, f3.1.nt, f3.1.bt, f3.1.lo, f3.1.bu, f3.1.pw, f3.1.sv, f3.1.pl, f3.1.wa, f3.1.se, (by show r2.1 0 15 = c2.1 0 14 + 1 + 0; rw [Int32.add_zero]; exact hag), f3.1.ll, f3.1.sy, f3.1.ld, f3.1.sa⟩, f3.2.1, f3.2.2⟩
  obtain ⟨c3, r3, g1, g2, g3, g4⟩ := obt k
  refine ⟨c3, r3, z, ?_, g3, ?_, ?_⟩
  · rw [e2, f2]
    show ab_bd (fR_outByTime r2) (fun p2 => some p2) = _
    rw [ab_id]
    exact g2
  · unfold SP
    rw [g4.1, g4.2]
    exact f4
  · unfold tl
    rw [e1]
    show ab_bd (fS_move c1 x) (fun q => ab_bd (fS_sendOutWhenDue (fO_countTick q)) (fun t => some t)) = _
    rw [f1]
    show ab_bd (fS_sendOutWhenDue (fO_countTick c2)) (fun t => some t) = _
    rw [ab_id]
    exact g1
theorem wnd {tp ts : Nat} {s : Int32} {c r : cs_S} (h : LRt tp ts (1, s, s) c r) {x : Int32} (hx : rg x (-(1000000 + 1000 * (tp : Int))) (1000000 + 1000 * (tp : Int))) (ht : tp ≤ 100000) : ∃ c' r' z, fR_step_147 r x = some r' ∧ LRt (tp + 1) ts (0, z, z) c' r' ∧ SP r' ∧ wt c x = some c' := by
  obtain ⟨c1, r1, e1, e2, e3⟩ := win h hx ht
  obtain ⟨c2, r2, z, f1, f2, f3, f4⟩ := tai e1 hx ht
  refine ⟨c2, r2, z, by rw [e2]; exact f1, f2, f3, ?_⟩
  unfold wt
  rcases e3 with ⟨k, k3⟩ | ⟨k, k2, k3⟩ | ⟨k, k2, k3⟩
  · rw [if_pos k, ← k3]
    exact f4
  · rw [if_neg k, if_pos k2, ← k3]
    exact f4
  · rw [if_neg k, if_neg k2, k3]
    exact f4
theorem stp {tp ts : Nat} {s : Int32} {c r : cs_S} (h : LRt tp ts (1, s, s) c r) {x : Int32} (hx : rg x (-(1000000 + 1000 * (tp : Int))) (1000000 + 1000 * (tp : Int))) (ht : tp ≤ 100000) (hts : ts ≤ 1000000) : ∃ c' r' z, st c x = some c' ∧ fR_step_30 r x = some r' ∧ LRt (tp + 1) (ts + 1) (0, z, z) c' r' ∧ SP r' := by
  obtain ⟨c1, r1, e1, e2, e3, e4⟩ := ST_go hts h.2.2
  obtain ⟨c2, r2, f1, f2, f3⟩ := bea (LRt_sf h e4 e3) x
  obtain ⟨c3, r3, g1, g2, g3⟩ := wat f2 x
  obtain ⟨c4, r4, z, k1, k2, k3, k4⟩ := wnd g1 hx ht
  refine ⟨c4, r4, z, ?_, ?_, k2, k3⟩
  · unfold st
    rw [e1]
    show ab_bd (fS_beat c1) (fun p2 => gt p2 x) = _
    rw [f1]
    show (if (fH_runsOut c2 (fS_watchTime c2)).1 = 0 then wt (fH_runsOut c2 (fS_watchTime c2)).2 x else ab_bd (fS_fault (fH_runsOut c2 (fS_watchTime c2)).2 33072) (fun p => wt p x)) = _
    rcases g3 with ⟨a, b⟩ | ⟨a, b⟩
    · rw [if_pos a, b]
      exact k4
    · rw [if_neg (by rw [a]; decide), b]
      exact k4
  · unfold fR_step_30
    rw [e2]
    exact f3.trans (g2.trans k1)
theorem stg {tp ts : Nat} {g : Int32 × Int32 × Int32} {c r : cs_S} (h : LRt tp ts g c r) : fP_isStageOn c = fR_stage r := by
  have hp := h.1.pw
  unfold fP_isStageOn fR_stage
  rw [hp.1]
  rcases pw7 hp.2 with e | e | e | e | e | e | e <;> rw [e] <;> rfl
theorem mtk {tp ts : Nat} {s : Int32} {c r : cs_S} (h : LRt tp ts (0, s, s) c r) (sp : SP r) {x : Int32} (hx : rg x (-(1000000 + 1000 * (tp : Int))) (1000000 + 1000 * (tp : Int))) (ht : tp ≤ 100000) (hts : ts ≤ 1000000) : ∃ c' r' z, fS_makeTick c x = some c' ∧ fR_step r x = some r' ∧ LRt (tp + 1) (ts + 1) (0, z, z) c' r' ∧ SP r' := by
  have hag : r.1 0 15 + 1 = c.1 0 14 + 1 := by
    have q : r.1 0 15 = c.1 0 14 + 0 := h.1.ag
    rw [Int32.add_zero] at q
    rw [q]
  have sc0 : fP_isStageOn c = fR_stage r := stg h
  have sc : fP_isStageOn (cs_u c 1 19 x) = fR_stage r := sc0
  have sr : fR_stage (cs_u (cs_u r 0 15 (r.1 0 15 + 1)) 1 19 x) = fR_stage r := rfl
  rw [mk_st]
  unfold fR_step
  rw [sc, sr]
  have k1 : LRt tp ts (1, s, s) (cs_u c 1 19 x) (cs_u (cs_u r 0 15 (r.1 0 15 + 1)) 1 19 x) := ⟨⟨VE_u (c := c) (r := cs_u r 0 15 (r.1 0 15 + 1)) h.1.ve 19 x, IV_u (r := cs_u r 0 15 (r.1 0 15 + 1)) h.1.iv (by decide) x, h.1.nd, h.1.nt, h.1.bt, h.1.lo, h.1.bu, h.1.pw, h.1.sv, h.1.pl, h.1.wa, h.1.se, hag, h.1.ll, h.1.sy, h.1.ld, hx⟩, h.2.1, h.2.2⟩
  by_cases e : fR_stage r = 0
  · have s21 : r.1 1 21 = 0 := by
      rcases sp with s | s | s | s
      · unfold fR_stage at e
        rw [s] at e
        exact absurd e (by decide)
      · unfold fR_stage at e
        rw [s] at e
        exact absurd e (by decide)
      · unfold fR_stage at e
        rw [s] at e
        exact absurd e (by decide)
      · exact s
    have hv : VE (cs_u (cs_u c 1 19 x) 1 21 0) (cs_u r 1 19 x) := fun k hk h17 => by
      rw [cs_u_r]
      by_cases e : k = 21
      · subst e
        rw [if_pos rfl]
        exact s21.symm
      · rw [if_neg e]
        exact VE_u h.1.ve 19 x k hk h17
    have k2 : LRt tp ts (1, s, s) (fV_rest (cs_u c 1 19 x) x) (cs_u (cs_u (cs_u r 0 15 (r.1 0 15 + 1)) 1 19 x) 0 7 x) := ⟨⟨hv, k1.1.iv, k1.1.nd, k1.1.nt, k1.1.bt, k1.1.lo, k1.1.bu, k1.1.pw, k1.1.sv, ⟨rfl, hx⟩, k1.1.wa, k1.1.se, k1.1.ag, k1.1.ll, k1.1.sy, k1.1.ld, k1.1.sa⟩, k1.2.1, k1.2.2⟩
    rw [if_pos e, if_pos e]
    exact stp k2 hx ht hts
  · rw [if_neg e, if_neg e]
    exact stp k1 hx ht hts
theorem run_l {n : Nat} (hn : n ≤ 100) : ∀ (m j fu tp ts : Nat) (s y : Int32) (c r : cs_S), j + m = n → m < fu → tp + m ≤ 100000 → ts + m ≤ 1000000 → LRt tp ts (0, s, s) c r → SP r → ∃ v c' r' z, fS_run_16 fu c (nI n) y (nI j) = some (v, c') ∧ fR_run_16 fu r (nI n) y (nI j) = some (v, r') ∧ LRt (tp + m) (ts + m) (0, z, z) c' r' ∧ SP r'
  | 0, j, fu, tp, ts, s, y, c, r, hj, hf, _, _, h, sp => by
    obtain ⟨fu, rfl⟩ : ∃ z, fu = z + 1 := ⟨fu - 1, by omega⟩
    have hj' : j = n := by omega
    subst hj'
    refine ⟨y, c, r, s, ?_, ?_, h, sp⟩
    · unfold fS_run_16
      rw [if_pos (Int32.le_refl _)]
    · unfold fR_run_16
      rw [if_pos (Int32.le_refl _)]
  | m + 1, j, fu, tp, ts, s, y, c, r, hj, hf, h1, h2, h, sp => by
    obtain ⟨fu, rfl⟩ : ∃ z, fu = z + 1 := ⟨fu - 1, by omega⟩
    obtain ⟨c1, r1, z, e1, e2, e3, e4⟩ := mtk h sp h.1.pl.2 (by omega) (by omega)
    have hd : fV_demanded c = r.1 0 7 := h.1.pl.1
    have hg : ¬ nI n ≤ nI j := nI_ge (by omega) (by omega)
    have hst := stg e3
    obtain ⟨v, c', r', z', f1, f2, f3, f4⟩ := run_l hn m (j + 1) fu (tp + 1) (ts + 1) z (if fR_stage r1 = 0 then y else y + 1) c1 r1 (by omega) (by omega) (by omega) (by omega) e3 e4
    refine ⟨v, c', r', z', ?_, ?_, by rw [show tp + (m + 1) = tp + 1 + m by omega, show ts + (m + 1) = ts + 1 + m by omega]; exact f3, f4⟩
    · unfold fS_run_16
      rw [if_neg hg, hd, e1, ab_bd_s, hst, nI_1]
      by_cases k : fR_stage r1 = 0
      · rw [if_pos k]
        rw [if_pos k] at f1
        exact f1
      · rw [if_neg k]
        rw [if_neg k] at f1
        exact f1
    · unfold fR_run_16
      rw [if_neg hg, e2, ab_bd_s, nI_1]
      by_cases k : fR_stage r1 = 0
      · rw [if_pos k, Int32.add_zero]
        rw [if_pos k] at f2
        exact f2
      · rw [if_neg k]
        rw [if_neg k] at f2
        exact f2
