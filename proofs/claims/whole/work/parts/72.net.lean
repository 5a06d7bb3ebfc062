/-! The process frame that comes in, heartbeats, coming up, the network state, the bus -/
theorem LRt_v {tp ts : Nat} {g : Int32 × Int32 × Int32} {c r : cs_S} (h : LRt tp ts g c r) {k : Nat} {x : Int32} (hk : k ≠ 19) (iv : IV ((cs_u r 1 k x).1 1)) : LRt tp ts g (cs_u c 1 k x) (cs_u r 1 k x) :=
  ⟨⟨VE_u h.1.ve k x, iv, h.1.nd, h.1.nt, h.1.bt, h.1.lo, h.1.bu, h.1.pw, h.1.sv, h.1.pl, h.1.wa, h.1.se, h.1.ag, h.1.ll, h.1.sy, h.1.ld, (by rw [cs_u_r, if_neg (fun e => hk e.symm)]; exact h.1.sa)⟩, h.2.1, h.2.2⟩
theorem SP_v {r : cs_S} (s : SP r) {k : Nat} {x : Int32} (hk : k ≠ 21) : SP (cs_u r 1 k x) := by
  rcases s with s | s | s | s
  · exact Or.inl s
  · exact Or.inr (Or.inl s)
  · exact Or.inr (Or.inr (Or.inl s))
  · exact Or.inr (Or.inr (Or.inr (by rw [cs_u_r, if_neg (fun e => hk e.symm)]; exact s)))
theorem mpb5 : ∀ k, k < 30 → 16 ≤ k → mpb 5 k = true → k ≠ 19 ∧ k ≠ 21 ∧ k ≠ 17 := by decide +kernel
theorem ain {tp ts : Nat} {g : Int32 × Int32 × Int32} {c r : cs_S} (h : LRt tp ts g c r) (sp : SP r) (x1 : Int32) (x2 : Int64) : ∃ v c' r', fS_acceptIn c x1 x2 = some (v, c') ∧ fR_mapped r x1 x2 = some (v, r') ∧ LRt tp ts g c' r' ∧ SP r' := by
  have m5 : MP 5 (r.1 1) := h.1.iv.1.1
  have he : ∀ j, j ≤ 3 → c.1 1 (5 + j) = r.1 1 (5 + j) := fun j hj => h.1.ve _ (by omega) (by omega)
  have mc : MP 5 (c.1 1) := MP_cg m5 (fun j hj => (he j hj).symm)
  have z1 : fR_size r 5 = some (sz 5 (r.1 1)) := fR_sizeT r (Or.inl rfl) m5
  have z2 : fG_totalBytes c 5 = some (sz 5 (r.1 1)) := by
    rw [← sz_cg mc he]
    exact fG_total c (Or.inl rfl) mc
  unfold fS_acceptIn fR_mapped
  rw [h.1.nt, h.1.ve 5 (by decide) (by decide), z1, z2, ab_bd_s, ab_bd_s]
  by_cases n5 : r.1 0 5 = 5
  rotate_left
  · exact ⟨0, c, r, if_neg n5, if_neg n5, h, sp⟩
  by_cases a : r.1 1 5 = 0
  · exact ⟨0, c, r, by rw [if_pos n5, if_pos a], by rw [if_pos n5, if_pos a], h, sp⟩
  by_cases b : sz 5 (r.1 1) ≤ x1
  rotate_left
  · exact ⟨0, c, r, by rw [if_pos n5, if_neg a, if_neg b], by rw [if_pos n5, if_neg a, if_neg b], h, sp⟩
  obtain ⟨m, hm, hm1, hm2⟩ := m5
  obtain ⟨n, hn, rfl⟩ := wb_of x2
  obtain ⟨c', r', e1, e2, e3⟩ := up_sim (fun c' r' => LRt tp ts g c' r' ∧ SP r' ∧ ∀ j, j ≤ 3 → r'.1 1 (5 + j) = r.1 1 (5 + j)) (w := r.1 1) hm hn hm1 (fun c' r' hp j hj => ⟨(hp.1.1.ve (5 + j) (by omega) (by omega)).trans (hp.2.2 j hj), hp.2.2 j hj⟩) (fun c' r' k x hp h16 h30 hb hv => by
      obtain ⟨k1, k2, k3⟩ := mpb5 k h30 h16 hb
      refine ⟨LRt_v hp.1 k1 (IV_rv hp.1.1.iv h16 k2 hv), SP_v hp.2.1 k2, fun j hj => ?_⟩
      rw [cs_u_r, if_neg (by omega)]
      exact hp.2.2 j hj) m 1 40 0 c r (by omega) (by omega) (by omega) (by omega) hm2 ⟨h, sp, fun _ _ => rfl⟩
  rw [Nat.mul_zero, Nat.pow_zero, Nat.div_one] at e1
  refine ⟨3, c', r', ?_, ?_, e3.1, e3.2.1⟩
  · rw [if_pos n5, if_neg a, if_pos b]
    unfold fG_unpack
    rw [h.1.ve 5 (by decide) (by decide), hm1, show (1 : Int32) = nI 1 from rfl, e1, ab_bd_s]
  · rw [if_pos n5, if_neg a, if_pos b]
    exact e2
theorem hbt {tp ts : Nat} {g : Int32 × Int32 × Int32} {c r : cs_S} (h : LRt tp ts g c r) (sp : SP r) (x1 x2 : Int32) : ∃ v c' r', fS_acceptHeartbeat c (x1 - 1792) x2 = (v, c') ∧ (if ((r.1 1 3) >>> ((16 : Int32) &&& 31)) < (1 : Int32) then (some ((0 : Int32), r)) else (if x1 = ((1792 : Int32) + ((r.1 1 3) >>> ((16 : Int32) &&& 31))) then (if x2 = (1 : Int32) then (if ((r.1 1 3) &&& (65535 : Int32)) = 0 then (some ((0 : Int32), r)) else (some ((5 : Int32), (cs_u (cs_u r 0 9 (1 : Int32)) 0 13 (0 : Int32))))) else (some ((0 : Int32), r))) else (some ((0 : Int32), r)))) = some (v, r') ∧ LRt tp ts g c' r' ∧ SP r' := by
  have ht : fS_watchTime c = (r.1 1 3 &&& 65535) := by
    unfold fS_watchTime
    rw [h.1.ve 3 (by decide) (by decide)]
  unfold fS_acceptHeartbeat
  rw [h.1.ve 3 (by decide) (by decide), ht]
  by_cases a : x2 = 1
  rotate_left
  · refine ⟨0, c, r, if_neg a, ?_, h, sp⟩
    by_cases b : ((r.1 1 3) >>> ((16 : Int32) &&& 31)) < (1 : Int32)
    · rw [if_pos b]
    · rw [if_neg b, if_neg a]
      by_cases d : x1 = ((1792 : Int32) + ((r.1 1 3) >>> ((16 : Int32) &&& 31)))
      · rw [if_pos d]
      · rw [if_neg d]
  by_cases d : x1 = ((1792 : Int32) + ((r.1 1 3) >>> ((16 : Int32) &&& 31)))
  · have d' : x1 - 1792 = ((r.1 1 3) >>> ((16 : Int32) &&& 31)) := by
      rw [d, Int32.add_comm, Int32.add_sub_cancel]
    rw [d']
    by_cases b : ((r.1 1 3) >>> ((16 : Int32) &&& 31)) < (1 : Int32)
    · exact ⟨0, c, r, by rw [if_pos a, if_pos b], if_pos b, h, sp⟩
    · by_cases w : (r.1 1 3 &&& 65535) = 0
      · exact ⟨0, c, r, by rw [if_pos a, if_neg b, if_pos rfl, if_pos w], by rw [if_neg b, if_pos d, if_pos a, if_pos w], h, sp⟩
      · refine ⟨5, cs_u (cs_u c 0 11 1) 0 12 0, cs_u (cs_u r 0 9 1) 0 13 0, ?_, by rw [if_neg b, if_pos d, if_pos a, if_neg w], ⟨⟨h.1.ve, h.1.iv, h.1.nd, h.1.nt, h.1.bt, h.1.lo, h.1.bu, h.1.pw, h.1.sv, h.1.pl, ⟨rfl, fun _ => rfl⟩, h.1.se, h.1.ag, h.1.ll, h.1.sy, h.1.ld, h.1.sa⟩, h.2.1, h.2.2⟩, sp⟩
        rw [if_pos a, if_neg b, if_pos rfl, if_neg w]
        rfl
  · have d' : ¬ x1 - 1792 = ((r.1 1 3) >>> ((16 : Int32) &&& 31)) := fun z => d (by
      rw [← z, Int32.add_comm, Int32.sub_add_cancel])
    refine ⟨0, c, r, ?_, ?_, h, sp⟩
    · rw [if_pos a, if_neg d']
      by_cases b : x1 - 1792 < 1
      · rw [if_pos b]
      · rw [if_neg b]
    · rw [if_neg d]
      by_cases b : ((r.1 1 3) >>> ((16 : Int32) &&& 31)) < (1 : Int32)
      · rw [if_pos b]
      · rw [if_neg b]
theorem IV_cg {v w : Nat → Int32} (h : IV v) (e : ∀ k, k < 30 → k ≠ 19 → v k = w k) : IV w := by
  obtain ⟨h1, i1, i2, i3, i4⟩ := h
  refine ⟨KVs_cg h1 (fun k hk hw => e k hk (fun z => hw (by rw [z]; rfl))), ?_, ?_, ?_, ?_⟩
  · rw [← e 16 (by decide) (by decide)]
    exact i1
  · rw [← e 21 (by decide) (by decide)]
    exact i2
  · rw [← e 22 (by decide) (by decide)]
    exact i3
  · rw [← e 29 (by decide) (by decide)]
    exact i4
theorem rvl_w0 (w : Nat → Int32) (o : Option Nat) {k : Nat} (h : wd k = 0) : rvl w o k = mdStart k := by
  unfold rvl
  cases o with
  | none => rfl
  | some b =>
    show (if 1 ≤ wd k then w (22 * b + wd k) else mdStart k) = mdStart k
    rw [if_neg (by omega)]
theorem rvl_IV {w : Nat → Int32} {o : Option Nat} (ho : ∀ b, o = some b → KV (fun j => w (22 * b + j))) : IV (rvl w o) := by
  cases o with
  | none => exact IV_start
  | some b =>
    have hk := ho b rfl
    refine ⟨KVs_cg hk (fun k hk hw => ?_), ?_, ?_, ?_, ?_⟩
    · show w (22 * b + wd k) = (if 1 ≤ wd k then w (22 * b + wd k) else mdStart k)
      rw [if_pos (by omega)]
    · rw [rvl_w0 w (some b) (k := 16) rfl]
      exact IV_start.2.1
    · rw [rvl_w0 w (some b) (k := 21) rfl]
      exact IV_start.2.2.1
    · rw [rvl_w0 w (some b) (k := 22) rfl]
      exact IV_start.2.2.2.1
    · rw [rvl_w0 w (some b) (k := 29) rfl]
      exact IV_start.2.2.2.2
theorem bnk {ts : Nat} {r : cs_S} (h : SI ts (r.1 4)) : (∀ b, lb (r.1 4) = some b → b ≤ 1 ∧ KV (fun j => r.1 4 (22 * b + j))) ∧ fR_restart r = fR_restart_46 40 r (io (lb (r.1 4))) (nI 1) (nI 0) := by
  obtain ⟨s1, s2, s3, s4, s5⟩ := h
  have t1 := s1.1
  have t2 := s2.1
  unfold fR_restart
  by_cases a : r.1 4 0 ≤ r.1 4 22
  · by_cases b : r.1 4 22 ≤ r.1 4 0
    · have e : r.1 4 0 = r.1 4 22 := by
        rw [Int32.le_iff_toInt_le] at a b
        exact ia_eq (by omega)
      have hl : lb (r.1 4) = none := by
        unfold lb
        rw [if_pos b, if_pos (s3 e)]
      rw [hl, if_pos a, if_pos b]
      exact ⟨fun b hb => (by cases hb), rfl⟩
    · have n : r.1 4 22 ≠ 0 := fun z => by
        rw [Int32.le_iff_toInt_le] at b
        rw [z] at b
        have := i0
        omega
      have hl : lb (r.1 4) = some 1 := by
        unfold lb
        rw [if_neg b, if_neg n]
      rw [hl, if_pos a, if_neg b]
      refine ⟨fun b hb => ?_, rfl⟩
      cases hb
      exact ⟨by omega, s5 n⟩
  · have b : r.1 4 22 ≤ r.1 4 0 := by
      rw [Int32.le_iff_toInt_le] at a ⊢
      omega
    have n : r.1 4 0 ≠ 0 := fun z => by
      rw [Int32.le_iff_toInt_le] at a
      rw [z] at a
      have := i0
      omega
    have hl : lb (r.1 4) = some 0 := by
      unfold lb
      rw [if_pos b, if_neg n]
    rw [hl, if_neg a]
    refine ⟨fun b hb => ?_, rfl⟩
    cases hb
    refine ⟨by omega, ?_⟩
    have := s4 n
    exact KV_cg this (fun j _ _ => by rw [Nat.mul_zero, Nat.zero_add])
def rsR (r : cs_S) : cs_S := (cs_u (cs_u (cs_u (cs_u (cs_u (cs_u (cs_u (cs_u (cs_u (cs_u (cs_u (cs_u r 0 0 (0 : Int32)) 0 2 (0 : Int32)) 0 5 (127 : Int32)) 0 6 (1 : Int32)) 0 7 (r.1 1 19)) 0 8 (1 : Int32)) 0 9 (0 : Int32)) 0 10 (0 : Int32)) 0 11 (0 : Int32)) 0 12 (0 : Int32)) 0 13 (0 : Int32)) 0 14 (0 : Int32))
def rsC (c : cs_S) (x : Int32) : cs_S := cs_u (cs_u (cs_u (cs_u (cs_u (cs_u (cs_u (cs_u (cs_u (cs_u (cs_u c 1 19 x) 1 21 0) 0 10 x) 0 8 1) 0 9 0) 0 11 0) 0 16 0) 0 1 127) 0 2 0) 0 5 1) 0 3 0
theorem rs_end (z : Nat) (r : cs_S) (y : Int32) : fR_restart_46 (z + 1) r y (nI 22) (nI 30) = fR_send (rsR r) (1792 + r.1 0 4) 1 0 := by
  rw [fR_restart_46, if_pos (by decide)]
  exact ab_id _
theorem cu_end {c c1 : cs_S} (h : fT_load (cs_u c 0 7 (-1)) = some c1) : fS_comeUp c = fB_send (rsC c1 (c.1 1 19)) (1792 + c1.1 0 0) 1 0 := by
  unfold fS_comeUp fT_giveUp
  show ab_bd (fT_load (cs_u c 0 7 (-1))) (fun p2 => ab_bd (fB_setBus (cs_u (cs_u (cs_u (cs_u (cs_u (cs_u (cs_u (cs_u (cs_u p2 1 19 (c.1 1 19)) 1 21 0) 0 10 (c.1 1 19)) 0 8 1) 0 9 0) 0 11 0) 0 16 0) 0 1 127) 0 2 0) 1) (fun p7 => ab_bd (fB_send (fB_clear p7) (1792 + (fB_clear p7).1 0 0) 1 0) (fun p9 => some p9))) = _
  rw [h, ab_bd_s]
  have s : ∀ X, fB_setBus X 1 = some (cs_u X 0 5 1) := fun X => rfl
  rw [s, ab_bd_s, ab_id]
  rfl
def CU (tp ts : Nat) (c r : cs_S) : Prop := c.1 0 0 = r.1 0 4 ∧ c.1 0 4 = r.1 0 1 ∧ r.1 0 15 = c.1 0 14 + 0 ∧ c.1 0 15 = r.1 0 16 ∧ c.2.2 = r.2.2 ∧ c.1 1 19 = r.1 1 19 ∧ rg (r.1 1 19) (-(1000000 + 1000 * (tp : Int))) (1000000 + 1000 * (tp : Int)) ∧ BK c r ∧ SI ts (r.1 4)
theorem cup {tp ts : Nat} {c r : cs_S} (h : CU tp ts c r) : ∃ c' r', fS_comeUp c = some c' ∧ fR_restart r = some r' ∧ LRt tp ts (0, 0, 0) c' r' ∧ SP r' := by
  obtain ⟨h1, h2, h3, h4, h5, h6, h7, h8, h9⟩ := h
  obtain ⟨b1, b2⟩ := bnk h9
  obtain ⟨c1, l1, l2, l3⟩ := loadC (c := cs_u c 0 7 (-1)) (r := r) h8
  obtain ⟨r1, m1, m2, m3⟩ := rs46 (o := lb (r.1 4)) (fun b hb => (b1 b hb).1) rfl 30 0 40 r (by omega) (by omega)
  have hw0 : wk 0 = 1 := rfl
  rw [hw0] at m3
  have c0 : c1.1 0 = (cs_u c 0 7 (-1)).1 0 := l1.1 0 (by decide)
  have r0 : r1.1 0 = r.1 0 := m1.1 0 (by decide)
  have q19 : r1.1 1 19 = r.1 1 19 := by
    rw [m2 19 (by decide), if_neg (by omega)]
  have qk : ∀ k, k < 30 → k ≠ 19 → r1.1 1 k = rvl (r.1 4) (lb (r.1 4)) k := fun k hk h19 => by
    rw [m2 k hk, if_pos ⟨by omega, h19⟩]
  have e1 : fR_restart r = fR_send (rsR r1) (1792 + r1.1 0 4) 1 0 := by
    rw [b2, m3, show 40 - 30 = 9 + 1 from rfl]
    exact rs_end 9 r1 _
  have e2 := cu_end l3
  have iv : IV (r1.1 1) := IV_cg (rvl_IV (fun b hb => (b1 b hb).2)) (fun k hk h19 => (qk k hk h19).symm)
  have ve : VE (cs_u (cs_u c1 1 19 (c.1 1 19)) 1 21 0) r1 := fun k hk h17 => by
    rw [cs_u_r]
    by_cases k21 : k = 21
    · subst k21
      rw [if_pos rfl, qk 21 (by decide) (by decide), rvl_w0 _ _ rfl]
      rfl
    · rw [if_neg k21, cs_u_r]
      by_cases k19 : k = 19
      · subst k19
        rw [if_pos rfl, q19]
        exact h6
      · rw [if_neg k19, qk k hk k19, l2 k hk]
        rfl
  have L0 : LRt tp ts (0, 0, 0) (rsC c1 (c.1 1 19)) (rsR r1) := by
    refine ⟨⟨ve, iv, ?_, rfl, rfl, ?_, ⟨rfl, Or.inr rfl⟩, ⟨rfl, (show rg (1 : Int32) 1 7 from ⟨by decide, by decide⟩)⟩, ⟨rfl, rfl⟩, ⟨?_, ?_⟩, ⟨rfl, fun n => absurd rfl n⟩, fun n => absurd (show (127 : Int32) = 5 from n) (by decide), ?_, ?_, rfl, ?_, ?_⟩, ⟨0, by omega, rfl, rfl, rfl⟩, ⟨fun j hj => ?_, fun j hj => ?_⟩, ?_, Or.inl ⟨?_, rfl⟩⟩
    · show c1.1 0 0 = r1.1 0 4
      rw [c0, r0]
      exact h1
    · show c1.1 0 4 = r1.1 0 1
      rw [c0, r0]
      exact h2
    · show c.1 1 19 = r1.1 1 19
      rw [q19]
      exact h6
    · show rg (r1.1 1 19) _ _
      rw [q19]
      exact h7
    · show r1.1 0 15 = c1.1 0 14 + 0
      rw [c0, r0]
      exact h3
    · show c1.1 0 15 = r1.1 0 16
      rw [c0, r0]
      exact h4
    · show c1.2.2 = r1.2.2
      rw [l1.2, m1.2]
      exact h5
    · show rg (r1.1 1 19) _ _
      rw [q19]
      exact h7
    · show c1.1 4 j = r1.1 4 j
      rw [l1.1 4 (by decide), m1.1 4 (by decide)]
      exact h8.1 j hj
    · show c1.1 5 j = r1.1 4 (22 + j)
      rw [l1.1 5 (by decide), m1.1 4 (by decide)]
      exact h8.2 j hj
    · show SI ts (r1.1 4)
      rw [m1.1 4 (by decide)]
      exact h9
    · show c1.1 0 7 = -1
      rw [c0]
      rfl
  obtain ⟨c', r', f1, f2, f3, f4⟩ := LRt_send L0 (1792 + r1.1 0 4) 1 0
  refine ⟨c', r', ?_, ?_, f3, f4.sp (Or.inr (Or.inr (Or.inr ?_)))⟩
  · rw [e2, show c1.1 0 0 = r1.1 0 4 by rw [c0, r0]; exact h1]
    exact f1
  · rw [e1]
    exact f2
  · show r1.1 1 21 = 0
    rw [qk 21 (by decide) (by decide), rvl_w0 _ _ rfl]
    rfl
theorem cup' {tp ts : Nat} {s1 s2 : Int32} {c r : cs_S} (h : LRt tp ts (0, s1, s2) c r) : ∃ c' r', fS_comeUp c = some c' ∧ fR_restart r = some r' ∧ LRt tp ts (0, 0, 0) c' r' ∧ SP r' :=
  cup ⟨h.1.nd, h.1.lo, h.1.ag, h.1.ll, h.1.ld, h.1.ve 19 (by decide) (by decide), h.1.sa, h.2.2.1, h.2.2.2.1⟩
theorem act {tp ts : Nat} {s : Int32} {c r : cs_S} (h : LRt tp ts (0, s, s) c r) (sp : SP r) (x : Int32) : ∃ v c' r' z, (if x = (1 : Int32) then (some ((1 : Int32), fS_enterOperating c)) else (if x = (2 : Int32) then (some ((1 : Int32), (cs_u c 0 1 (4 : Int32)))) else (if x = (128 : Int32) then (some ((1 : Int32), (cs_u c 0 1 (127 : Int32)))) else (if x = (129 : Int32) then (ab_bd (fS_comeUp c) (fun p2 => (some ((1 : Int32), p2)))) else (some ((0 : Int32), c)))))) = some (v, c') ∧ (if x = (129 : Int32) then (ab_bd (fR_restart r) (fun p1 => (some ((1 : Int32), p1)))) else (if x = (1 : Int32) then (if (r.1 0 11) = 0 then (some ((1 : Int32), (cs_u (cs_u r 0 11 (0 : Int32)) 0 5 (5 : Int32)))) else (if (r.1 0 5) = (5 : Int32) then (some ((1 : Int32), (cs_u (cs_u r 0 11 (1 : Int32)) 0 5 (5 : Int32)))) else (some ((1 : Int32), (cs_u (cs_u r 0 11 (0 : Int32)) 0 5 (5 : Int32)))))) else (if x = (2 : Int32) then (some ((1 : Int32), (cs_u r 0 5 (4 : Int32)))) else (if x = (128 : Int32) then (some ((1 : Int32), (cs_u r 0 5 (127 : Int32)))) else (some ((0 : Int32), r)))))) = some (v, r') ∧ LRt tp ts (0, z, z) c' r' ∧ SP r' := by
  by_cases e129 : x = 129
  · obtain ⟨c', r', f1, f2, f3, f4⟩ := cup' h
    refine ⟨1, c', r', 0, ?_, ?_, f3, f4⟩
    · rw [if_neg (by rw [e129]; decide), if_neg (by rw [e129]; decide), if_neg (by rw [e129]; decide), if_pos e129, f1, ab_bd_s]
    · rw [if_pos e129, f2, ab_bd_s]
  by_cases e1 : x = 1
  · rw [if_pos e1, if_neg e129, if_pos e1]
    unfold fS_enterOperating fO_beginOperating
    rw [h.1.nt]
    by_cases n5 : r.1 0 5 = 5
    · rw [if_pos n5, if_pos n5]
      have hse := h.1.se n5
      by_cases e0 : r.1 0 11 = 0
      · exact ⟨1, c, _, s, rfl, if_pos e0, ⟨⟨h.1.ve, h.1.iv, h.1.nd, h.1.nt.trans n5, h.1.bt, h.1.lo, h.1.bu, h.1.pw, h.1.sv, h.1.pl, h.1.wa, fun _ => ⟨hse.1.trans e0, Or.inl rfl⟩, h.1.ag, h.1.ll, h.1.sy, h.1.ld, h.1.sa⟩, h.2.1, h.2.2⟩, sp⟩
      · have ez1 : r.1 0 11 = 1 := by
          rcases hse.2 with z | z
          · exact absurd z e0
          · exact z
        exact ⟨1, c, _, s, rfl, if_neg e0, ⟨⟨h.1.ve, h.1.iv, h.1.nd, h.1.nt.trans n5, h.1.bt, h.1.lo, h.1.bu, h.1.pw, h.1.sv, h.1.pl, h.1.wa, fun _ => ⟨hse.1.trans ez1, Or.inr rfl⟩, h.1.ag, h.1.ll, h.1.sy, h.1.ld, h.1.sa⟩, h.2.1, h.2.2⟩, sp⟩
    · rw [if_neg n5, if_neg n5]
      refine ⟨1, cs_u (cs_u c 0 1 5) 0 13 0, cs_u (cs_u r 0 11 0) 0 5 5, s, rfl, ?_, ⟨⟨h.1.ve, h.1.iv, h.1.nd, rfl, h.1.bt, h.1.lo, h.1.bu, h.1.pw, h.1.sv, h.1.pl, h.1.wa, fun _ => ⟨rfl, Or.inl rfl⟩, h.1.ag, h.1.ll, h.1.sy, h.1.ld, h.1.sa⟩, h.2.1, h.2.2⟩, sp⟩
      by_cases e0 : r.1 0 11 = 0
      · rw [if_pos e0]
      · rw [if_neg e0]
  rw [if_neg e1, if_neg e129, if_neg e129, if_neg e1]
  by_cases e2 : x = 2
  · rw [if_pos e2, if_pos e2]
    exact ⟨1, _, _, s, rfl, rfl, ⟨⟨h.1.ve, h.1.iv, h.1.nd, rfl, h.1.bt, h.1.lo, h.1.bu, h.1.pw, h.1.sv, h.1.pl, h.1.wa, fun n => absurd (show (4 : Int32) = 5 from n) (by decide), h.1.ag, h.1.ll, h.1.sy, h.1.ld, h.1.sa⟩, h.2.1, h.2.2⟩, sp⟩
  rw [if_neg e2, if_neg e2]
  by_cases e128 : x = 128
  · rw [if_pos e128, if_pos e128]
    exact ⟨1, _, _, s, rfl, rfl, ⟨⟨h.1.ve, h.1.iv, h.1.nd, rfl, h.1.bt, h.1.lo, h.1.bu, h.1.pw, h.1.sv, h.1.pl, h.1.wa, fun n => absurd (show (127 : Int32) = 5 from n) (by decide), h.1.ag, h.1.ll, h.1.sy, h.1.ld, h.1.sa⟩, h.2.1, h.2.2⟩, sp⟩
  rw [if_neg e128, if_neg e128]
  exact ⟨0, c, r, s, rfl, rfl, h, sp⟩
theorem nwk {tp ts : Nat} {s : Int32} {c r : cs_S} (h : LRt tp ts (0, s, s) c r) (sp : SP r) (x1 : Int32) (x2 : Int64) : ∃ v c' r' z, fS_acceptNetwork c x1 x2 = some (v, c') ∧ (if x1 = (2 : Int32) then (fR_state r ((x2 &&& (255 : Int64))).toInt32 (((x2 >>> (((8 : Int32)).toInt64 &&& 63)) &&& (255 : Int64))).toInt32) else (some ((0 : Int32), r))) = some (v, r') ∧ LRt tp ts (0, z, z) c' r' ∧ SP r' := by
  rw [ch_cmd, ch_sub8]
  unfold fS_acceptNetwork fR_state
  by_cases a : x1 = 2
  rotate_left
  · exact ⟨0, c, r, s, if_neg a, if_neg a, h, sp⟩
  rw [if_pos a, if_pos a, h.1.nd]
  by_cases b : ((((x2).toUInt64 >>> (((8 : Int32)).toInt64.toUInt64 &&& Int64.toUInt64 63)).toInt64).toInt32 &&& (255 : Int32)) = 0
  · rw [if_pos b, if_pos b]
    exact act h sp _
  · rw [if_neg b, if_neg b]
    by_cases d : ((((x2).toUInt64 >>> (((8 : Int32)).toInt64.toUInt64 &&& Int64.toUInt64 63)).toInt64).toInt32 &&& (255 : Int32)) = r.1 0 4
    · rw [if_pos d, if_pos d]
      exact act h sp _
    · rw [if_neg d, if_neg d]
      exact ⟨0, c, r, s, rfl, rfl, h, sp⟩
theorem bs1 {x : Int32} (h : x = 0 ∨ x = 1) : ab_z01 x = true := by
  rcases h with rfl | rfl <;> rfl
theorem bss {tp ts : Nat} {s : Int32} {c r : cs_S} (h : LRt tp ts (0, s, s) c r) (sp : SP r) {x : Int32} (hx : x = 0 ∨ x = 1) : ∃ c' r', fS_bus c x = some c' ∧ fR_bus r x = some r' ∧ LRt tp ts (0, s, s) c' r' ∧ SP r' := by
  unfold fS_bus fR_bus fB_isBusOn fB_setBus
  rw [h.1.bu.1, if_pos (bs1 h.1.bu.2), ab_bd_s, if_pos (bs1 hx), ab_bd_s, if_pos (bs1 hx)]
  by_cases e : x = r.1 0 8
  · exact ⟨c, r, if_pos e, if_pos e, h, sp⟩
  rw [if_neg e, if_neg e]
  by_cases e0 : x = 0
  · rw [if_pos e0, if_pos e0]
    have k : LRt tp ts (0, s, s) (cs_u (cs_u c 0 5 x) 0 3 0) (cs_u (cs_u r 0 8 x) 0 0 0) := ⟨⟨h.1.ve, h.1.iv, h.1.nd, h.1.nt, h.1.bt, h.1.lo, ⟨rfl, hx⟩, h.1.pw, h.1.sv, h.1.pl, h.1.wa, h.1.se, h.1.ag, h.1.ll, h.1.sy, h.1.ld, h.1.sa⟩, ⟨0, by omega, rfl, rfl, rfl⟩, h.2.2⟩
    obtain ⟨c', r', f1, f2, f3, f4⟩ := flt k 33088
    refine ⟨c', r', ?_, ?_, f3, f4 sp⟩
    · show ab_bd (fS_fault (cs_u (cs_u c 0 5 x) 0 3 0) 33088) (fun p4 => some p4) = _
      rw [ab_id]
      exact f1
    · rw [ab_id]
      exact f2
  · rw [if_neg e0, if_neg e0]
    exact ⟨_, _, rfl, rfl, ⟨⟨h.1.ve, h.1.iv, h.1.nd, h.1.nt, h.1.bt, h.1.lo, ⟨rfl, hx⟩, h.1.pw, h.1.sv, h.1.pl, h.1.wa, h.1.se, h.1.ag, h.1.ll, h.1.sy, h.1.ld, h.1.sa⟩, h.2.1, h.2.2⟩, sp⟩
