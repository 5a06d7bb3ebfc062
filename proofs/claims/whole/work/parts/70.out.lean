/-! Status, the process frame that goes out, a whole tick -/
theorem rg_nI {x : Int32} {b : Nat} (hb : b < 2 ^ 31) (h : rg x 0 b) : ∃ j, j ≤ b ∧ x = nI j := by
  obtain ⟨h1, h2⟩ := h
  refine ⟨x.toInt.toNat, by omega, ia_nI (by omega) (by omega)⟩
theorem sb_small {b : Int32} (hb : b = 64 ∨ b = 33 ∨ b = 35 ∨ b = 39 ∨ b = 7 ∨ b = 15 ∨ b = 8) : b ||| 512 = b + 512 ∧ (b ||| 512) ||| 1024 = b + 512 + 1024 ∧ b ||| 1024 = b + 1024 ∧ rg b 0 65535 ∧ rg (b + 512) 0 65535 ∧ rg (b + 512 + 1024) 0 65535 ∧ rg (b + 1024) 0 65535 := by
  rcases hb with rfl | rfl | rfl | rfl | rfl | rfl | rfl <;> exact ⟨by decide, by decide, by decide, ⟨by decide, by decide⟩, ⟨by decide, by decide⟩, ⟨by decide, by decide⟩, ⟨by decide, by decide⟩⟩
theorem lk109 {tp ts : Nat} {g : Int32 × Int32 × Int32} {c r : cs_S} (h : LRt tp ts g c r) : ((∀ y, fR_look_109 r y = some y) ∧ (fP_isEnabled c = 0 ∨ (¬ fP_isEnabled c = 0 ∧ fV_isArrived c = 0))) ∨ ((∀ y, fR_look_109 r y = some (y + 1024)) ∧ ¬ fP_isEnabled c = 0 ∧ ¬ fV_isArrived c = 0) := by
  have hp := h.1.pw
  by_cases e4 : r.1 0 6 = 4
  · have en : ¬ fP_isEnabled c = 0 := by
      unfold fP_isEnabled
      rw [hp.1, if_pos e4]
      decide
    by_cases e18 : r.1 1 18 = 1
    · by_cases e21 : r.1 1 21 = 0
      · have ha := aim_eq h.1.ve h.1.pl.1
        rw [if_pos e18] at ha
        by_cases ep : r.1 0 7 = fR_aim r
        · refine Or.inr ⟨fun y => ?_, en, ?_⟩
          · unfold fR_look_109
            rw [if_pos e4, if_pos e18, if_pos e21, if_pos ep]
          · unfold fV_isArrived
            rw [h.1.ve 18 (by decide) (by decide), h.1.ve 21 (by decide) (by decide), h.1.pl.1, ← ha, if_pos e18, if_pos e21, if_pos ep]
            decide
        · refine Or.inl ⟨fun y => ?_, Or.inr ⟨en, ?_⟩⟩
          · unfold fR_look_109
            rw [if_pos e4, if_pos e18, if_pos e21, if_neg ep]
          · unfold fV_isArrived
            rw [h.1.ve 18 (by decide) (by decide), h.1.ve 21 (by decide) (by decide), h.1.pl.1, ← ha, if_pos e18, if_pos e21, if_neg ep]
      · refine Or.inl ⟨fun y => ?_, Or.inr ⟨en, ?_⟩⟩
        · unfold fR_look_109
          rw [if_pos e4, if_pos e18, if_neg e21]
        · unfold fV_isArrived
          rw [h.1.ve 18 (by decide) (by decide), h.1.ve 21 (by decide) (by decide), if_pos e18, if_neg e21]
    · refine Or.inl ⟨fun y => ?_, Or.inr ⟨en, ?_⟩⟩
      · unfold fR_look_109
        rw [if_pos e4, if_neg e18]
      · unfold fV_isArrived
        rw [h.1.ve 18 (by decide) (by decide), if_neg e18]
  · refine Or.inl ⟨fun y => ?_, Or.inl ?_⟩
    · unfold fR_look_109
      rw [if_neg e4]
    · unfold fP_isEnabled
      rw [hp.1, if_neg e4]
theorem stb {tp ts : Nat} {g : Int32 × Int32 × Int32} {c r : cs_S} (h : LRt tp ts g c r) : ∃ b, fP_statusBits c = some b ∧ fR_look r 17 = fR_look_94 r b ∧ (b = 64 ∨ b = 33 ∨ b = 35 ∨ b = 39 ∨ b = 7 ∨ b = 15 ∨ b = 8) := by
  have hp := h.1.pw
  unfold fP_statusBits fR_look
  rw [hp.1, if_pos (show (17 : Int32) = 17 from rfl)]
  rcases pw7 hp.2 with e | e | e | e | e | e | e
  · exact ⟨64, by rw [e]; decide, by rw [e]; rfl, Or.inl rfl⟩
  · exact ⟨33, by rw [e]; decide, by rw [e]; rfl, Or.inr (Or.inl rfl)⟩
  · exact ⟨35, by rw [e]; decide, by rw [e]; rfl, Or.inr (Or.inr (Or.inl rfl))⟩
  · exact ⟨39, by rw [e]; decide, by rw [e]; rfl, Or.inr (Or.inr (Or.inr (Or.inl rfl)))⟩
  · exact ⟨7, by rw [e]; decide, by rw [e]; rfl, Or.inr (Or.inr (Or.inr (Or.inr (Or.inl rfl))))⟩
  · exact ⟨15, by rw [e]; decide, by rw [e]; rfl, Or.inr (Or.inr (Or.inr (Or.inr (Or.inr (Or.inl rfl)))))⟩
  · exact ⟨8, by rw [e]; decide, by rw [e]; rfl, Or.inr (Or.inr (Or.inr (Or.inr (Or.inr (Or.inr rfl)))))⟩
theorem rfs0 {tp ts : Nat} {g : Int32 × Int32 × Int32} {c r : cs_S} (h : LRt tp ts g c r) : ∃ s, fS_refreshStatus c = some (cs_u c 1 17 s) ∧ fR_look r 17 = some s ∧ rg s 0 65535 := by
  obtain ⟨b, b1, b2, b3⟩ := stb h
  obtain ⟨q1, q2, q3, q4, q5, q6, q7⟩ := sb_small b3
  unfold fS_refreshStatus
  rw [b1, b2, ab_bd_s, h.1.nt]
  unfold fR_look_94
  by_cases n5 : r.1 0 5 = 5
  · rcases lk109 h with ⟨k, e | ⟨e, f⟩⟩ | ⟨k, e, f⟩
    · exact ⟨b + 512, by rw [if_pos n5, if_pos e, q1], by rw [if_pos n5, k], q5⟩
    · exact ⟨b + 512, by rw [if_pos n5, if_neg e, if_pos f, q1], by rw [if_pos n5, k], q5⟩
    · exact ⟨b + 512 + 1024, by rw [if_pos n5, if_neg e, if_neg f, q2], by rw [if_pos n5, k], q6⟩
  · rcases lk109 h with ⟨k, e | ⟨e, f⟩⟩ | ⟨k, e, f⟩
    · exact ⟨b, by rw [if_neg n5, if_pos e], by rw [if_neg n5, k], q4⟩
    · exact ⟨b, by rw [if_neg n5, if_neg e, if_pos f], by rw [if_neg n5, k], q4⟩
    · exact ⟨b + 1024, by rw [if_neg n5, if_neg e, if_neg f, q3], by rw [if_neg n5, k], q7⟩
theorem LRt_17 {tp ts : Nat} {g : Int32 × Int32 × Int32} {c r : cs_S} (h : LRt tp ts g c r) (s : Int32) : LRt tp ts g (cs_u c 1 17 s) r := ⟨⟨VE_17 h.1.ve s, h.1.iv, h.1.nd, h.1.nt, h.1.bt, h.1.lo, h.1.bu, h.1.pw, h.1.sv, h.1.pl, h.1.wa, h.1.se, h.1.ag, h.1.ll, h.1.sy, h.1.ld, h.1.sa⟩, h.2.1, h.2.2⟩
theorem rfs {tp ts : Nat} {g : Int32 × Int32 × Int32} {c r : cs_S} (h : LRt tp ts g c r) : ∃ s, fS_refreshStatus c = some (cs_u c 1 17 s) ∧ rg s 0 65535 ∧ ∀ k, k < 30 → fR_look r (nI k) = some ((cs_u c 1 17 s).1 1 k) := by
  obtain ⟨s, s1, s2, s3⟩ := rfs0 h
  refine ⟨s, s1, s3, fun k hk => ?_⟩
  rw [cs_u_r]
  by_cases e : k = 17
  · subst e
    rw [if_pos rfl]
    exact s2
  · unfold fR_look
    rw [if_neg (show ¬ nI k = 17 from fun z => e ((nI_eq (b := 17) (by omega) (by decide)).mp z)), if_pos (inb_nI hk (by decide)), nI_clamp (by omega), if_neg e, h.1.ve k hk e]
theorem bq_ix : ∀ k, 16 ≤ k → k < 30 → (mdBytes k = nI 1 → k = 18) ∧ (mdBytes k = nI 2 → k = 16 ∨ k = 17) := by
  have : ∀ k, k < 30 → 16 ≤ k → (mdBytes k = nI 1 → k = 18) ∧ (mdBytes k = nI 2 → k = 16 ∨ k = 17) := by decide +kernel
  exact fun k h1 h2 => this k h2 h1
theorem pks {tp ts : Nat} {g : Int32 × Int32 × Int32} {c r : cs_S} (h : LRt tp ts g c r) {s : Int32} (hs : rg s 0 65535) : pk_small ((cs_u c 1 17 s).1 1) := by
  intro k h1 h2
  obtain ⟨k1, k2⟩ := bq_ix k h1 h2
  constructor
  · intro e
    have e' := k1 e
    subst e'
    rw [cs_u_r, if_neg (by decide), h.1.ve 18 (by decide) (by decide)]
    obtain ⟨j, j1, j2⟩ := rg_nI (b := 255) (by decide) h.1.iv.1.2.2.1
    exact ⟨j, by omega, j2⟩
  · intro e
    rw [cs_u_r]
    rcases k2 e with e' | e'
    · subst e'
      rw [if_neg (by decide), h.1.ve 16 (by decide) (by decide)]
      obtain ⟨j, j1, j2⟩ := rg_nI (b := 65535) (by decide) h.1.iv.2.1
      exact ⟨j, by omega, j2⟩
    · subst e'
      rw [if_pos rfl]
      obtain ⟨j, j1, j2⟩ := rg_nI (b := 65535) (by decide) hs
      exact ⟨j, by omega, j2⟩
theorem gat {tp ts : Nat} {g : Int32 × Int32 × Int32} {c r : cs_S} (h : LRt tp ts g c r) : ∃ s d l, fS_refreshStatus c = some (cs_u c 1 17 s) ∧ fG_pack (cs_u c 1 17 s) = some d ∧ fG_totalBytes (cs_u c 1 17 s) 12 = some l ∧ fR_gathered r = some d ∧ (∀ r', r'.1 1 = r.1 1 → fR_size r' 12 = some l) := by
  obtain ⟨s, s1, s2, s3⟩ := rfs h
  have m12 : MP 12 (r.1 1) := h.1.iv.1.2.1
  have he : ∀ j, j ≤ 3 → (cs_u c 1 17 s).1 1 (12 + j) = r.1 1 (12 + j) := fun j hj => by
    rw [cs_u_r, if_neg (by omega)]
    exact h.1.ve _ (by omega) (by omega)
  have mc : MP 12 ((cs_u c 1 17 s).1 1) := MP_cg m12 (fun j hj => (he j hj).symm)
  refine ⟨s, pk ((cs_u c 1 17 s).1 1), sz 12 (r.1 1), s1, fG_packT _ mc, ?_, fR_gathT r m12 s3 (pks h s2) he, fun r' e => ?_⟩
  · rw [show (12 : Int32) = nI 12 from rfl, fG_total _ (Or.inr rfl) mc, sz_cg mc he]
  · rw [show (12 : Int32) = nI 12 from rfl, fR_sizeT r' (Or.inr rfl) (by rw [e]; exact m12), e]
theorem sno {tp ts : Nat} {a s1 s2 : Int32} {c r : cs_S} (h : LRt tp ts (a, s1, s2) c r) {d : Int64} {l : Int32} (h12 : ¬ r.1 1 12 = 0) (hg : fR_gathered r = some d) (hl : ∀ r', r'.1 1 = r.1 1 → fR_size r' 12 = some l) : ∃ c' r', fS_sendOut c d l = some c' ∧ fR_out r = some r' ∧ LRt tp ts (0, s1, s2) c' r' ∧ (r'.1 1 = r.1 1 ∧ r'.1 0 6 = r.1 0 6) := by
  have k : LRt tp ts (0, s1, s2) (cs_u (cs_d (cs_u (cs_u c 0 13 1) 0 14 0) d) 0 15 l) (cs_u (cs_u (cs_u (cs_d r d) 0 16 l) 0 11 1) 0 15 0) := ⟨⟨h.1.ve, h.1.iv, h.1.nd, h.1.nt, h.1.bt, h.1.lo, h.1.bu, h.1.pw, h.1.sv, h.1.pl, h.1.wa, fun _ => ⟨rfl, Or.inr rfl⟩, rfl, rfl, h.1.sy, rfl, h.1.sa⟩, h.2.1, h.2.2⟩
  obtain ⟨c', r', e1, e2, e3, e4⟩ := LRt_send k (384 + r.1 0 4) l d
  refine ⟨c', r', ?_, ?_, e3, e4.1, e4.2 6 (by decide)⟩
  · unfold fS_sendOut fO_noteSent
    show ab_bd (fB_send (cs_u (cs_d (cs_u (cs_u c 0 13 1) 0 14 0) d) 0 15 l) (384 + c.1 0 0) l d) (fun p => some p) = some c'
    rw [ab_id, h.1.nd]
    exact e1
  · unfold fR_out
    rw [if_neg h12, hg]
    show ab_bd (fR_size (cs_d r d) 12) (fun p2 => ab_bd (fR_send (cs_u (cs_u (cs_u (cs_d r d) 0 16 p2) 0 11 1) 0 15 0) (384 + r.1 0 4) p2 d) (fun p3 => some p3)) = some r'
    rw [hl (cs_d r d) rfl]
    show ab_bd (fR_send (cs_u (cs_u (cs_u (cs_d r d) 0 16 l) 0 11 1) 0 15 0) (384 + r.1 0 4) l d) (fun p3 => some p3) = some r'
    rw [ab_id]
    exact e2
theorem due1 {tp ts : Nat} {s1 s2 : Int32} {c r c' : cs_S} (h : LRt tp ts (0, s1, s2) c r) (n5 : r.1 0 5 = 5) (h9 : ¬ r.1 1 9 ≤ 240) (h12 : ¬ r.1 1 12 = 0) (hh : fO_isHeld c (r.1 1 10) = 0) {s : Int32} {d : Int64} {l : Int32} (g1 : fS_refreshStatus c = some (cs_u c 1 17 s)) (g2 : fG_pack (cs_u c 1 17 s) = some d) (g3 : fG_totalBytes (cs_u c 1 17 s) 12 = some l) (hd : fO_isDue (cs_u c 1 17 s) d l (r.1 1 11) = 1) (hs : fS_sendOut (cs_u c 1 17 s) d l = some c') : fS_sendOutWhenDue c = some c' := by
  unfold fS_sendOutWhenDue
  rw [h.1.nt, h.1.ve 9 (by decide) (by decide), h.1.ve 12 (by decide) (by decide), h.1.ve 10 (by decide) (by decide), if_pos n5, if_neg h9, if_neg h12, if_pos hh, g1, ab_bd_s, g2, ab_bd_s, g3, ab_bd_s, show (cs_u c 1 17 s).1 1 11 = r.1 1 11 from h.1.ve 11 (by decide) (by decide), hd, if_neg (by decide), ab_id]
  exact hs
theorem due0 {tp ts : Nat} {s1 s2 : Int32} {c r : cs_S} (h : LRt tp ts (0, s1, s2) c r) (n5 : r.1 0 5 = 5) (h9 : ¬ r.1 1 9 ≤ 240) (h12 : ¬ r.1 1 12 = 0) (hh : fO_isHeld c (r.1 1 10) = 0) {s : Int32} {d : Int64} {l : Int32} (g1 : fS_refreshStatus c = some (cs_u c 1 17 s)) (g2 : fG_pack (cs_u c 1 17 s) = some d) (g3 : fG_totalBytes (cs_u c 1 17 s) 12 = some l) (hd : fO_isDue (cs_u c 1 17 s) d l (r.1 1 11) = 0) : fS_sendOutWhenDue c = some (cs_u c 1 17 s) := by
  unfold fS_sendOutWhenDue
  rw [h.1.nt, h.1.ve 9 (by decide) (by decide), h.1.ve 12 (by decide) (by decide), h.1.ve 10 (by decide) (by decide), if_pos n5, if_neg h9, if_neg h12, if_pos hh, g1, ab_bd_s, g2, ab_bd_s, g3, ab_bd_s, show (cs_u c 1 17 s).1 1 11 = r.1 1 11 from h.1.ve 11 (by decide) (by decide), hd, if_pos rfl]
theorem obt {tp ts : Nat} {s1 s2 : Int32} {c r : cs_S} (h : LRt tp ts (0, s1, s2) c r) : ∃ c' r', fS_sendOutWhenDue c = some c' ∧ fR_outByTime r = some r' ∧ LRt tp ts (0, s1, s2) c' r' ∧ (r'.1 1 = r.1 1 ∧ r'.1 0 6 = r.1 0 6) := by
  have stay : fS_sendOutWhenDue c = some c → fR_outByTime r = some r → ∃ c' r', fS_sendOutWhenDue c = some c' ∧ fR_outByTime r = some r' ∧ LRt tp ts (0, s1, s2) c' r' ∧ (r'.1 1 = r.1 1 ∧ r'.1 0 6 = r.1 0 6) := fun e1 e2 => ⟨c, r, e1, e2, h, rfl, rfl⟩
  by_cases n5 : r.1 0 5 = 5
  rotate_left
  · refine stay ?_ ?_
    · unfold fS_sendOutWhenDue
      rw [h.1.nt, if_neg n5]
    · unfold fR_outByTime
      rw [if_neg n5]
  by_cases h9 : r.1 1 9 ≤ 240
  · refine stay ?_ ?_
    · unfold fS_sendOutWhenDue
      rw [h.1.nt, if_pos n5, h.1.ve 9 (by decide) (by decide), if_pos h9]
    · unfold fR_outByTime
      rw [if_pos n5, if_pos (show r.1 1 9 < 241 by
        rw [Int32.le_iff_toInt_le] at h9
        rw [Int32.lt_iff_toInt_lt]
        have : (240 : Int32).toInt = 240 := by decide
        have : (241 : Int32).toInt = 241 := by decide
        omega)]
  have h9' : ¬ r.1 1 9 < 241 := by
    rw [Int32.le_iff_toInt_le] at h9
    rw [Int32.lt_iff_toInt_lt]
    have : (240 : Int32).toInt = 240 := by decide
    have : (241 : Int32).toInt = 241 := by decide
    omega
  by_cases h12 : r.1 1 12 = 0
  · refine stay ?_ ?_
    · unfold fS_sendOutWhenDue
      rw [h.1.nt, if_pos n5, h.1.ve 9 (by decide) (by decide), if_neg h9, h.1.ve 12 (by decide) (by decide), if_pos h12]
    · unfold fR_outByTime
      rw [if_pos n5, if_neg h9', if_pos h12]
  obtain ⟨s, d, l, g1, g2, g3, g4, g5⟩ := gat h
  have hse := (h.1.se n5).1
  have hag : c.1 0 14 = r.1 0 15 := by
    have q : r.1 0 15 = c.1 0 14 + 0 := h.1.ag
    rw [Int32.add_zero] at q
    exact q.symm
  have h17 := LRt_17 h s
  by_cases hs : r.1 0 11 = 0
  · obtain ⟨c', r', e1, e2, e3, e4⟩ := sno h17 h12 g4 g5
    refine ⟨c', r', ?_, ?_, e3, e4⟩
    · refine due1 h n5 h9 h12 ?_ g1 g2 g3 ?_ e1
      · unfold fO_isHeld
        rw [hse, if_pos hs]
      · unfold fO_isDue
        rw [show (cs_u c 1 17 s).1 0 13 = r.1 0 11 from hse, if_pos hs]
    · unfold fR_outByTime
      rw [if_pos n5, if_neg h9', if_neg h12, if_pos hs, ab_id]
      exact e2
  by_cases hh : r.1 1 10 ≤ r.1 0 15
  rotate_left
  · refine stay ?_ ?_
    · unfold fS_sendOutWhenDue
      rw [h.1.nt, if_pos n5, h.1.ve 9 (by decide) (by decide), if_neg h9, h.1.ve 12 (by decide) (by decide), if_neg h12, h.1.ve 10 (by decide) (by decide), if_neg (show ¬ fO_isHeld c (r.1 1 10) = 0 by
        unfold fO_isHeld
        rw [hse, if_neg hs, hag, if_neg hh]
        decide)]
    · unfold fR_outByTime
      rw [if_pos n5, if_neg h9', if_neg h12, if_neg hs, g4, ab_bd_s]
      by_cases e1 : lg_cmp d r.2.2 = 0
      · rw [if_pos e1, g5 r rfl, ab_bd_s]
        by_cases e2 : l = r.1 0 16
        · rw [if_pos e2]
          by_cases e3 : r.1 1 11 ≤ 0
          · rw [if_pos e3, if_neg hh]
          · rw [if_neg e3]
            by_cases e4 : r.1 0 15 < r.1 1 11
            · rw [if_pos e4, if_neg hh]
            · rw [if_neg e4, if_neg hh]
        · rw [if_neg e2, if_neg hh]
      · rw [if_neg e1, if_neg hh]
  have held : fO_isHeld c (r.1 1 10) = 0 := by
    unfold fO_isHeld
    rw [hse, if_neg hs, hag, if_pos hh]
  have d13 : (cs_u c 1 17 s).1 0 13 = r.1 0 11 := hse
  have d22 : (cs_u c 1 17 s).2.2 = r.2.2 := h.1.ld
  have d15 : (cs_u c 1 17 s).1 0 15 = r.1 0 16 := h.1.ll
  have d14 : (cs_u c 1 17 s).1 0 14 = r.1 0 15 := hag
  by_cases e1 : lg_cmp d r.2.2 = 0
  · by_cases e2 : l = r.1 0 16
    · by_cases e3 : r.1 1 11 ≤ 0
      · refine ⟨cs_u c 1 17 s, r, due0 h n5 h9 h12 held g1 g2 g3 ?_, ?_, h17, rfl, rfl⟩
        · unfold fO_isDue
          rw [d13, if_neg hs, d22, if_pos e1, d15, if_pos e2, if_pos e3]
        · unfold fR_outByTime
          rw [if_pos n5, if_neg h9', if_neg h12, if_neg hs, g4, ab_bd_s, if_pos e1, g5 r rfl, ab_bd_s, if_pos e2, if_pos e3, if_pos hh]
      · by_cases e4 : r.1 0 15 < r.1 1 11
        · refine ⟨cs_u c 1 17 s, r, due0 h n5 h9 h12 held g1 g2 g3 ?_, ?_, h17, rfl, rfl⟩
          · unfold fO_isDue
            rw [d13, if_neg hs, d22, if_pos e1, d15, if_pos e2, if_neg e3, d14, if_pos e4]
          · unfold fR_outByTime
            rw [if_pos n5, if_neg h9', if_neg h12, if_neg hs, g4, ab_bd_s, if_pos e1, g5 r rfl, ab_bd_s, if_pos e2, if_neg e3, if_pos e4, if_pos hh]
        · obtain ⟨c', r', f1, f2, f3, f4⟩ := sno h17 h12 g4 g5
          refine ⟨c', r', due1 h n5 h9 h12 held g1 g2 g3 ?_ f1, ?_, f3, f4⟩
          · unfold fO_isDue
            rw [d13, if_neg hs, d22, if_pos e1, d15, if_pos e2, if_neg e3, d14, if_neg e4]
          · unfold fR_outByTime
            rw [if_pos n5, if_neg h9', if_neg h12, if_neg hs, g4, ab_bd_s, if_pos e1, g5 r rfl, ab_bd_s, if_pos e2, if_neg e3, if_neg e4, if_pos hh, ab_id]
            exact f2
    · obtain ⟨c', r', f1, f2, f3, f4⟩ := sno h17 h12 g4 g5
      refine ⟨c', r', due1 h n5 h9 h12 held g1 g2 g3 ?_ f1, ?_, f3, f4⟩
      · unfold fO_isDue
        rw [d13, if_neg hs, d22, if_pos e1, d15, if_neg e2]
      · unfold fR_outByTime
        rw [if_pos n5, if_neg h9', if_neg h12, if_neg hs, g4, ab_bd_s, if_pos e1, g5 r rfl, ab_bd_s, if_neg e2, if_pos hh, ab_id]
        exact f2
  · obtain ⟨c', r', f1, f2, f3, f4⟩ := sno h17 h12 g4 g5
    refine ⟨c', r', due1 h n5 h9 h12 held g1 g2 g3 ?_ f1, ?_, f3, f4⟩
    · unfold fO_isDue
      rw [d13, if_neg hs, d22, if_neg e1]
    · unfold fR_outByTime
      rw [if_pos n5, if_neg h9', if_neg h12, if_neg hs, g4, ab_bd_s, if_neg e1, if_pos hh, ab_id]
      exact f2
theorem syn {tp ts : Nat} {s1 s2 : Int32} {c r : cs_S} (h : LRt tp ts (0, s1, s2) c r) : ∃ v c' r', fS_acceptSync c = some (v, c') ∧ fR_sync r = some (v, r') ∧ LRt tp ts (0, s1, s2) c' r' ∧ (r'.1 1 = r.1 1 ∧ r'.1 0 6 = r.1 0 6) := by
  unfold fS_acceptSync fR_sync fO_countSync
  rw [h.1.nt, h.1.ve 9 (by decide) (by decide), h.1.sy]
  by_cases n5 : r.1 0 5 = 5
  rotate_left
  · exact ⟨0, c, r, if_neg n5, if_neg n5, h, rfl, rfl⟩
  by_cases a1 : r.1 1 9 < 1
  · exact ⟨2, c, r, by rw [if_pos n5, if_pos a1], by rw [if_pos n5, if_pos a1], h, rfl, rfl⟩
  by_cases a2 : (240 : Int32) < r.1 1 9
  · exact ⟨2, c, r, by rw [if_pos n5, if_neg a1, if_pos a2], by rw [if_pos n5, if_neg a1, if_neg (show ¬ r.1 1 9 ≤ 240 from fun z => i_nlt z a2)], h, rfl, rfl⟩
  have a2' : r.1 1 9 ≤ 240 := i_le_of a2
  by_cases a3 : r.1 1 9 ≤ r.1 0 14 + 1
  rotate_left
  · refine ⟨2, cs_u c 0 16 (r.1 0 14 + 1), cs_u r 0 14 (r.1 0 14 + 1), ?_, ?_, ⟨⟨h.1.ve, h.1.iv, h.1.nd, h.1.nt, h.1.bt, h.1.lo, h.1.bu, h.1.pw, h.1.sv, h.1.pl, h.1.wa, h.1.se, h.1.ag, h.1.ll, rfl, h.1.ld, h.1.sa⟩, h.2.1, h.2.2⟩, rfl, rfl⟩
    · rw [if_pos n5, if_neg a1, if_neg a2, if_neg a3]
      rfl
    · rw [if_pos n5, if_neg a1, if_pos a2', if_pos (i_nle a3)]
  have k : LRt tp ts (0, s1, s2) (cs_u (cs_u c 0 16 (r.1 0 14 + 1)) 0 16 0) (cs_u (cs_u r 0 14 (r.1 0 14 + 1)) 0 14 0) := ⟨⟨h.1.ve, h.1.iv, h.1.nd, h.1.nt, h.1.bt, h.1.lo, h.1.bu, h.1.pw, h.1.sv, h.1.pl, h.1.wa, h.1.se, h.1.ag, h.1.ll, rfl, h.1.ld, h.1.sa⟩, h.2.1, h.2.2⟩
  have c12 : (cs_u (cs_u c 0 16 (r.1 0 14 + 1)) 0 16 0).1 1 12 = r.1 1 12 := h.1.ve 12 (by decide) (by decide)
  obtain ⟨m, hm, e12, _⟩ := h.1.iv.1.2.1
  by_cases h12 : r.1 1 12 = 0
  · refine ⟨2, cs_u (cs_u c 0 16 (r.1 0 14 + 1)) 0 16 0, cs_u (cs_u r 0 14 (r.1 0 14 + 1)) 0 14 0, ?_, ?_, k, rfl, rfl⟩
    · rw [if_pos n5, if_neg a1, if_neg a2, if_pos a3]
      show (if (cs_u (cs_u c 0 16 (r.1 0 14 + 1)) 0 16 0).1 1 12 ≤ 0 then some ((2 : Int32), cs_u (cs_u c 0 16 (r.1 0 14 + 1)) 0 16 0) else _) = _
      rw [c12, if_pos (show r.1 1 12 ≤ 0 by rw [h12]; decide)]
    · rw [if_pos n5, if_neg a1, if_pos a2', if_neg (i_nlt a3)]
      unfold fR_out
      rw [show (cs_u (cs_u r 0 14 (r.1 0 14 + 1)) 0 14 0).1 1 12 = r.1 1 12 from rfl, if_pos h12]
      rfl
  · have n12 : ¬ r.1 1 12 ≤ 0 := by
      rw [e12] at h12 ⊢
      rw [Int32.le_iff_toInt_le, nI_toInt (by omega), i0]
      intro z
      exact h12 (by rw [show m = 0 by omega]; rfl)
    obtain ⟨s, d, l, g1, g2, g3, g4, g5⟩ := gat k
    obtain ⟨c', r', f1, f2, f3, f4⟩ := sno (LRt_17 k s) h12 g4 g5
    refine ⟨2, c', r', ?_, ?_, f3, f4⟩
    · rw [if_pos n5, if_neg a1, if_neg a2, if_pos a3]
      show (if (cs_u (cs_u c 0 16 (r.1 0 14 + 1)) 0 16 0).1 1 12 ≤ 0 then some ((2 : Int32), cs_u (cs_u c 0 16 (r.1 0 14 + 1)) 0 16 0) else (ab_bd (fS_refreshStatus (cs_u (cs_u c 0 16 (r.1 0 14 + 1)) 0 16 0)) (fun p2 => (ab_bd (fG_pack p2) (fun p3 => (ab_bd (fG_totalBytes p2 (12 : Int32)) (fun p4 => (ab_bd (fS_sendOut p2 p3 p4) (fun p5 => (some ((2 : Int32), p5))))))))))) = _
      rw [c12, if_neg n12, g1, ab_bd_s, g2, ab_bd_s, g3, ab_bd_s, f1, ab_bd_s]
    · rw [if_pos n5, if_neg a1, if_pos a2', if_neg (i_nlt a3), f2, ab_bd_s]
