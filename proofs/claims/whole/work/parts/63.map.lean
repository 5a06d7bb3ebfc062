/-! Sizes, packing and unpacking of mapped objects; what the channel cuts out of a frame -/
theorem sh_low (x : Int64) {k : Nat} (hk : k ≤ 32) : (x >>> ((nI k).toInt64 &&& 63)).toInt32 = ((x.toUInt64 >>> ((nI k).toInt64.toUInt64 &&& Int64.toUInt64 63)).toInt64).toInt32 := by
  rw [wb_c k (by omega), wb_cu k (by omega)]
  apply Int32.toBitVec_inj.mp
  apply BitVec.eq_of_getLsbD_eq
  intro i hi
  have e1 : (x >>> lN k).toBitVec = x.toBitVec.sshiftRight k := by
    show x.toBitVec.sshiftRight ((lN k).toBitVec.smod 64).toNat = _
    rw [wb_tb, wb_sm k (by omega), BitVec.toNat_ofNat, Nat.mod_eq_of_lt (by omega)]
  have e2 : ((x.toUInt64 >>> UInt64.ofNat k).toInt64).toBitVec = x.toBitVec >>> k := by
    show x.toBitVec >>> ((BitVec.ofNat 64 k) % 64#64).toNat = _
    congr 1
    rw [BitVec.toNat_umod, BitVec.toNat_ofNat, Nat.mod_eq_of_lt (show k < 2 ^ 64 by omega)]
    exact Nat.mod_eq_of_lt (show k < 64 by omega)
  rw [Int64.toBitVec_toInt32, Int64.toBitVec_toInt32, e1, e2, BitVec.getLsbD_signExtend, BitVec.getLsbD_signExtend, BitVec.getLsbD_sshiftRight, BitVec.getLsbD_ushiftRight]
  simp [hi, show i < 64 by omega, show k + i < 64 by omega]
theorem ch_cmd (x : Int64) : (x &&& 255).toInt32 = x.toInt32 &&& 255 := Int64.toInt32_and x 255
theorem ch_sub8 (x : Int64) : ((x >>> (((8 : Int32)).toInt64 &&& 63)) &&& (255 : Int64)).toInt32 = (((x).toUInt64 >>> (((8 : Int32)).toInt64.toUInt64 &&& Int64.toUInt64 63)).toInt64).toInt32 &&& (255 : Int32) := by
  rw [Int64.toInt32_and]
  exact congrArg (· &&& (255 : Int32)) (sh_low x (k := 8) (by decide))
theorem ch_idx (x : Int64) : ((x >>> (((8 : Int32)).toInt64 &&& 63)) &&& (65535 : Int64)).toInt32 = (((x).toUInt64 >>> (((8 : Int32)).toInt64.toUInt64 &&& Int64.toUInt64 63)).toInt64).toInt32 &&& (65535 : Int32) := by
  rw [Int64.toInt32_and]
  exact congrArg (· &&& (65535 : Int32)) (sh_low x (k := 8) (by decide))
theorem ch_sub (x : Int64) : ((x >>> (((24 : Int32)).toInt64 &&& 63)) &&& (255 : Int64)).toInt32 = (((x).toUInt64 >>> (((24 : Int32)).toInt64.toUInt64 &&& Int64.toUInt64 63)).toInt64).toInt32 &&& (255 : Int32) := by
  rw [Int64.toInt32_and]
  exact congrArg (· &&& (255 : Int32)) (sh_low x (k := 24) (by decide))
theorem ch_v (x : Int64) : (x >>> (((32 : Int32)).toInt64 &&& 63)).toInt32 = (((x).toUInt64 >>> (((32 : Int32)).toInt64.toUInt64 &&& Int64.toUInt64 63)).toInt64).toInt32 := sh_low x (k := 32) (by decide)
theorem an_hi (x : Int32) {m : Int32} (k : Nat) (hm : m.toBitVec.toNat = 2 ^ k - 1) (hk : k ≤ 16) : ¬ (x &&& m) < 0 ∧ (x &&& m) ≤ m := by
  obtain ⟨j, hj, e⟩ := pk_andE x k hm
  have h2 : 2 ^ k ≤ 2 ^ 16 := Nat.pow_le_pow_right (by decide) hk
  rw [e]
  refine ⟨nI_pos (by omega), ?_⟩
  rw [i_nI m, hm]
  exact nI_le (by omega) (by omega)
/-! number and cut -/
theorem mdB : ∀ k, k < 30 → mdBytes k = nI 1 ∨ mdBytes k = nI 2 ∨ mdBytes k = nI 4 := by decide +kernel
theorem num_cut (y : Int64) {b : Int32} (hb : b = nI 1 ∨ b = nI 2 ∨ b = nI 4) : fG_number y b = fR_cut y.toInt32 b := by
  unfold fG_number fR_cut
  rcases hb with rfl | rfl | rfl
  · rw [if_pos (by decide), if_pos (by decide)]
    rfl
  · rw [if_pos (by decide), if_neg (by decide), if_pos (by decide)]
    rfl
  · rw [if_neg (by decide), if_neg (by decide), if_neg (by decide)]
/-! sizes -/
def szF (q : Nat) (v : Nat → Int32) : Nat → Nat → Int32 → Int32
  | 0, _, a => a
  | s + 1, e, a => match ms (v (q + e)) with
    | none => a
    | some k => szF q v s (e + 1) (a + mdBytes k)
theorem szF_cg {q : Nat} {v w : Nat → Int32} : ∀ (s e : Nat) (a : Int32), (∀ j, e ≤ j → j < e + s → v (q + j) = w (q + j)) → szF q v s e a = szF q w s e a
  | 0, _, _, _ => rfl
  | s + 1, e, a, h => by
    unfold szF
    rw [h e (by omega) (by omega)]
    split
    · rfl
    · rw [szF_cg s (e + 1) _ (fun j h1 h2 => h j (by omega) (by omega))]
theorem mdB8 : ∀ k, k < 30 → (8 * mdBytes k) / 8 = mdBytes k := by decide +kernel
theorem fG_total_eq (c : cs_S) {q m : Nat} (hq : q = 5 ∨ q = 12) (hm : m ≤ 3) : ∀ (s e fu : Nat) (b a : Int32), e + s = m + 1 → s < fu → entL q (c.1 1) s e b = 0 → fG_totalBytes_9 fu c (nI q) a (nI m) (nI e) = some (szF q (c.1 1) s e a)
  | 0, e, fu, b, a, he, hf, _ => by
    obtain ⟨fu, rfl⟩ : ∃ z, fu = z + 1 := ⟨fu - 1, by omega⟩
    unfold fG_totalBytes_9
    rw [if_pos (nI_lt (by omega) (by omega))]
    rfl
  | s + 1, e, fu, b, a, he, hf, hv => by
    obtain ⟨fu, rfl⟩ : ∃ z, fu = z + 1 := ⟨fu - 1, by omega⟩
    obtain ⟨k, hk, _, _, hv⟩ := entL_s hv
    obtain ⟨_, _, h8, _, hk30⟩ := ms_some hk
    unfold fG_totalBytes_9 szF
    rw [if_neg (nI_nlt (by omega) (by omega)), nI_add, if_pos (inb_nI (by omega) (by omega)), nI_clamp (by omega), h8, mdB8 k hk30, nI_1, fG_total_eq c hq hm s (e + 1) fu _ _ (by omega) (by omega) hv, hk]
theorem fR_size_eq (r : cs_S) {q m : Nat} (hq : q = 5 ∨ q = 12) (hm : m ≤ 3) (hr : r.1 1 q = nI m) : ∀ (s e fu : Nat) (b a : Int32), e + s = m + 1 → s < fu → entL q (r.1 1) s e b = 0 → fR_size_4 fu r (nI q) a (nI e) = some (szF q (r.1 1) s e a)
  | 0, e, fu, b, a, he, hf, _ => by
    obtain ⟨fu, rfl⟩ : ∃ z, fu = z + 1 := ⟨fu - 1, by omega⟩
    unfold fR_size_4
    rw [if_pos (inb_nI (by omega) (by omega)), nI_clamp (by omega), hr, if_pos (nI_lt (by omega) (by omega))]
    rfl
  | s + 1, e, fu, b, a, he, hf, hv => by
    obtain ⟨fu, rfl⟩ : ∃ z, fu = z + 1 := ⟨fu - 1, by omega⟩
    obtain ⟨k, hk, _, _, hv⟩ := entL_s hv
    obtain ⟨hd, _, h8, _, hk30⟩ := ms_some hk
    unfold fR_size_4 szF
    rw [if_pos (inb_nI (by omega) (by omega)), nI_clamp (n := q) (by omega), hr, if_neg (nI_nlt (by omega) (by omega)), nI_add, if_pos (inb_nI (by omega) (by omega)), nI_clamp (n := q + e) (by omega)]
    change ab_bd (fR_find r (us8 (r.1 1 (q + e)))) _ = _
    rw [fR_find_eq, hd, ab_bd_s]
    show (if 0 ≤ nI k then if ab_inb (nI k) 30 = true then _ else _ else _) = _
    rw [if_pos (nI_pos' (by omega)), if_pos (inb_nI (by omega) (by omega)), show io (some k) = nI k from rfl, nI_clamp (n := k) (by omega), nI_1, fR_size_eq r hq hm hr s (e + 1) fu _ _ (by omega) (by omega) hv, hk]
/-- the mapping at q is as its count says, and valid -/
def MP (q : Nat) (v : Nat → Int32) : Prop := ∃ m, m ≤ 3 ∧ v q = nI m ∧ entL q v m 1 0 = 0
def sz (q : Nat) (v : Nat → Int32) : Int32 := szF q v (v q).toNatClampNeg 1 0
theorem fG_total (c : cs_S) {q : Nat} (hq : q = 5 ∨ q = 12) (h : MP q (c.1 1)) : fG_totalBytes c (nI q) = some (sz q (c.1 1)) := by
  obtain ⟨m, hm, h1, h2⟩ := h
  unfold fG_totalBytes sz
  rw [if_pos (inb_nI (by omega) (by omega)), nI_clamp (by omega), h1, nI_clamp (by omega)]
  exact fG_total_eq c hq hm m 1 40 0 0 (by omega) (by omega) h2
theorem fR_sizeT (r : cs_S) {q : Nat} (hq : q = 5 ∨ q = 12) (h : MP q (r.1 1)) : fR_size r (nI q) = some (sz q (r.1 1)) := by
  obtain ⟨m, hm, h1, h2⟩ := h
  unfold fR_size sz
  rw [h1, nI_clamp (by omega)]
  exact fR_size_eq r hq hm h1 m 1 40 0 0 (by omega) (by omega) h2
theorem MP_cg {q : Nat} {v w : Nat → Int32} (h : MP q v) (he : ∀ j, j ≤ 3 → v (q + j) = w (q + j)) : MP q w := by
  obtain ⟨m, hm, h1, h2⟩ := h
  refine ⟨m, hm, ?_, ?_⟩
  · have := he 0 (by omega)
    rw [Nat.add_zero] at this
    rw [← this, h1]
  · exact (entL_cg m 1 0 (fun j _ hj => he j (by omega))).symm.trans h2
theorem sz_cg {q : Nat} {v w : Nat → Int32} (h : MP q v) (he : ∀ j, j ≤ 3 → v (q + j) = w (q + j)) : sz q v = sz q w := by
  obtain ⟨m, hm, h1, h2⟩ := h
  have e0 : v q = w q := he 0 (by omega)
  unfold sz
  rw [← e0, h1, nI_clamp (by omega)]
  exact szF_cg m 1 0 (fun j _ hj => he j (by omega))
/-! packing -/
def pkF (v w : Nat → Int32) : Nat → Nat → Int64 → Int32 → Int64
  | 0, _, d, _ => d
  | s + 1, e, d, a => match ms (w (12 + e)) with
    | none => d
    | some k => pkF v w s (e + 1) (d ||| (((v k).toInt64 &&& (4294967295 : Int64)) <<< ((8 * a).toInt64 &&& 63))) (a + mdBytes k)
theorem pkF_cg {v w w' : Nat → Int32} : ∀ (s e : Nat) (d : Int64) (a : Int32), (∀ j, e ≤ j → j < e + s → w (12 + j) = w' (12 + j)) → pkF v w s e d a = pkF v w' s e d a
  | 0, _, _, _, _ => rfl
  | s + 1, e, d, a, h => by
    unfold pkF
    rw [h e (by omega) (by omega)]
    split
    · rfl
    · rw [pkF_cg s (e + 1) _ _ (fun j h1 h2 => h j (by omega) (by omega))]
theorem fG_pack_eq (c : cs_S) {m : Nat} (hm : m ≤ 3) : ∀ (s e fu : Nat) (b a : Int32) (d : Int64), e + s = m + 1 → s < fu → entL 12 (c.1 1) s e b = 0 → fG_pack_13 fu c d (8 * a) (nI m) (nI e) = some (pkF (c.1 1) (c.1 1) s e d a)
  | 0, e, fu, b, a, d, he, hf, _ => by
    obtain ⟨fu, rfl⟩ : ∃ z, fu = z + 1 := ⟨fu - 1, by omega⟩
    unfold fG_pack_13
    rw [if_pos (nI_lt (by omega) (by omega))]
    rfl
  | s + 1, e, fu, b, a, d, he, hf, hv => by
    obtain ⟨fu, rfl⟩ : ∃ z, fu = z + 1 := ⟨fu - 1, by omega⟩
    obtain ⟨k, hk, _, _, hv⟩ := entL_s hv
    obtain ⟨_, _, h8, _, hk30⟩ := ms_some hk
    unfold fG_pack_13 pkF
    rw [if_neg (nI_nlt (by omega) (by omega)), show (12 : Int32) = nI 12 from rfl, nI_add, if_pos (inb_nI (by omega) (by omega)), nI_clamp (n := 12 + e) (by omega), fG_slotOf_eq, hk, ab_bd_s]
    show (if nI k = -1 then _ else if ab_inb (nI k) 30 = true then ab_bd (fC_bytes (nI k)) _ else _) = _
    rw [if_neg (nI_m1 hk30), if_pos (inb_nI (by omega) (by omega)), cC_bytes k hk30, ab_bd_s, show io (some k) = nI k from rfl, nI_clamp (n := k) (by omega), nI_1, ← Int32.mul_add, fG_pack_eq c hm s (e + 1) fu _ _ _ (by omega) (by omega) hv]
def pk_small (v : Nat → Int32) : Prop := ∀ k, 16 ≤ k → k < 30 → (mdBytes k = nI 1 → ∃ j, j < 256 ∧ v k = nI j) ∧ (mdBytes k = nI 2 → ∃ j, j < 65536 ∧ v k = nI j)
theorem mk16 {x : Int32} (h : ∃ j, j < 65536 ∧ x = nI j) : x.toInt64 &&& (65535 : Int64) = x.toInt64 &&& (4294967295 : Int64) := by
  obtain ⟨j, hj, rfl⟩ := h
  rw [nI_l (by omega), show (65535 : Int64) = lN (2 ^ 16 - 1) by decide, show (4294967295 : Int64) = lN (2 ^ 32 - 1) by decide, wb_mask (by omega) (by decide), wb_mask (by omega) (by decide), Nat.mod_eq_of_lt (by omega), Nat.mod_eq_of_lt (by omega)]
theorem mk8 {x : Int32} (h : ∃ j, j < 256 ∧ x = nI j) : x.toInt64 &&& (255 : Int64) = x.toInt64 &&& (4294967295 : Int64) := by
  obtain ⟨j, hj, rfl⟩ := h
  rw [nI_l (by omega), show (255 : Int64) = lN (2 ^ 8 - 1) by decide, show (4294967295 : Int64) = lN (2 ^ 32 - 1) by decide, wb_mask (by omega) (by decide), wb_mask (by omega) (by decide), Nat.mod_eq_of_lt (by omega), Nat.mod_eq_of_lt (by omega)]
theorem fR_gath_eq (r : cs_S) {m : Nat} {v : Nat → Int32} (hm : m ≤ 3) (hr : r.1 1 12 = nI m) (hl : ∀ k, k < 30 → fR_look r (nI k) = some (v k)) (hs : pk_small v) : ∀ (s e fu : Nat) (b a : Int32) (d : Int64), e + s = m + 1 → s < fu → entL 12 (r.1 1) s e b = 0 → fR_gathered_7 fu r d a (nI e) = some (pkF v (r.1 1) s e d a)
  | 0, e, fu, b, a, d, he, hf, _ => by
    obtain ⟨fu, rfl⟩ : ∃ z, fu = z + 1 := ⟨fu - 1, by omega⟩
    unfold fR_gathered_7
    rw [hr, if_pos (nI_lt (by omega) (by omega))]
    rfl
  | s + 1, e, fu, b, a, d, he, hf, hv => by
    obtain ⟨fu, rfl⟩ : ∃ z, fu = z + 1 := ⟨fu - 1, by omega⟩
    obtain ⟨k, hk, _, _, hv⟩ := entL_s hv
    obtain ⟨hd, _, h8, h16, hk30⟩ := ms_some hk
    have ih := fun a d => fR_gath_eq r hm hr hl hs s (e + 1) fu _ a d (by omega) (by omega) hv
    unfold fR_gathered_7 pkF
    rw [hr, if_neg (nI_nlt (by omega) (by omega)), show (12 : Int32) = nI 12 from rfl, nI_add, if_pos (inb_nI (by omega) (by omega)), nI_clamp (n := 12 + e) (by omega)]
    change ab_bd (fR_find r (us8 (r.1 1 (12 + e)))) _ = _
    rw [fR_find_eq, hd, ab_bd_s]
    show ab_bd (fR_look r (nI k)) _ = _
    rw [hl k hk30, ab_bd_s, show io (some k) = nI k from rfl, if_pos (inb_nI (by omega) (by omega)), nI_clamp (n := k) (by omega), nI_1, hk, ih, ih, ih]
    dsimp only
    rcases mdB k hk30 with hb | hb | hb
    · rw [hb, if_neg (by decide), if_neg (by decide), mk8 ((hs k h16 hk30).1 hb)]
    · rw [hb, if_neg (by decide), if_pos (by decide), mk16 ((hs k h16 hk30).2 hb)]
    · rw [hb, if_pos (by decide)]
def pk (v : Nat → Int32) : Int64 := pkF v v (v 12).toNatClampNeg 1 0 0
theorem fG_packT (c : cs_S) (h : MP 12 (c.1 1)) : fG_pack c = some (pk (c.1 1)) := by
  obtain ⟨m, hm, h1, h2⟩ := h
  unfold fG_pack pk
  rw [h1, nI_clamp (by omega)]
  exact fG_pack_eq c hm m 1 40 0 0 0 (by omega) (by omega) h2
theorem fR_gathT (r : cs_S) {v : Nat → Int32} (h : MP 12 (r.1 1)) (hl : ∀ k, k < 30 → fR_look r (nI k) = some (v k)) (hs : pk_small v) (he : ∀ j, j ≤ 3 → v (12 + j) = r.1 1 (12 + j)) : fR_gathered r = some (pk v) := by
  obtain ⟨m, hm, h1, h2⟩ := h
  have e0 : v 12 = r.1 1 12 := he 0 (by omega)
  unfold fR_gathered pk
  rw [e0, h1, nI_clamp (by omega)]
  rw [pkF_cg (v := v) (w := v) (w' := r.1 1) m 1 0 0 (fun j _ hj => he j (by omega))]
  exact fR_gath_eq r hm h1 hl hs m 1 40 0 0 0 (by omega) (by omega) h2
/-! unpacking -/
theorem up_sim (P : cs_S → cs_S → Prop) {w : Nat → Int32} {m n : Nat} (hm : m ≤ 3) (hn : n < 2 ^ 64) (h5 : w 5 = nI m) (hw : ∀ c r, P c r → ∀ j, j ≤ 3 → c.1 1 (5 + j) = w (5 + j) ∧ r.1 1 (5 + j) = w (5 + j)) (hP : ∀ c r k x, P c r → 16 ≤ k → k < 30 → mpb 5 k = true → rv k x = 0 → P (cs_u c 1 k x) (cs_u r 1 k x)) : ∀ (s e fu a : Nat) (c r : cs_S), e + s = m + 1 → s < fu → 1 ≤ e → a ≤ 8 → entL 5 w s e (nI a) = 0 → P c r → ∃ c' r', fG_unpack_10 fu c (lN (n / 2 ^ (8 * a))) (nI m) (nI e) = some c' ∧ fR_mapped_38 fu r (lN n) (nI a) (nI e) = some (3, r') ∧ P c' r'
  | 0, e, fu, a, c, r, he, hf, h1, ha, _, hp => by
    obtain ⟨fu, rfl⟩ : ∃ z, fu = z + 1 := ⟨fu - 1, by omega⟩
    have hr : r.1 1 5 = nI m := by rw [← h5]; exact (hw c r hp 0 (by omega)).2
    unfold fG_unpack_10 fR_mapped_38
    rw [hr, if_pos (nI_lt (by omega) (by omega)), if_pos (nI_lt (by omega) (by omega))]
    exact ⟨c, r, rfl, rfl, hp⟩
  | s + 1, e, fu, a, c, r, he, hf, h1, ha, hv, hp => by
    obtain ⟨fu, rfl⟩ : ∃ z, fu = z + 1 := ⟨fu - 1, by omega⟩
    have hr : r.1 1 5 = nI m := by rw [← h5]; exact (hw c r hp 0 (by omega)).2
    have hce := (hw c r hp e (by omega)).1
    have hre := (hw c r hp e (by omega)).2
    obtain ⟨k, hk, hmp, hl8, hv⟩ := entL_s hv
    obtain ⟨hd, _, h8, h16, hk30⟩ := ms_some hk
    obtain ⟨b, hb, hbn⟩ : ∃ b, mdBytes k = nI b ∧ 1 ≤ b ∧ b ≤ 4 := by
      rcases mdB k hk30 with h | h | h
      · exact ⟨1, h, by omega, by omega⟩
      · exact ⟨2, h, by omega, by omega⟩
      · exact ⟨4, h, by omega, by omega⟩
    have hab : a + b ≤ 8 := by
      rw [hb, nI_add] at hl8
      exact (nI_leI (b := 8) (by omega) (by omega)).mp hl8
    have hnum : fG_number (lN (n / 2 ^ (8 * a))) (mdBytes k) = fR_cut (lN (n / 2 ^ (8 * a))).toInt32 (mdBytes k) := num_cut _ (mdB k hk30)
    have hsh1 : ((lN n).toUInt64 >>> ((((8 : Int32) * nI a)).toInt64.toUInt64 &&& Int64.toUInt64 63)).toInt64 = lN (n / 2 ^ (8 * a)) := by
      rw [show (8 : Int32) = nI 8 from rfl, pk_mul]
      exact wb_shr hn (by omega)
    have hsh2 : ((lN (n / 2 ^ (8 * a))).toUInt64 >>> ((((8 : Int32) * mdBytes k)).toInt64.toUInt64 &&& Int64.toUInt64 63)).toInt64 = lN (n / 2 ^ (8 * (a + b))) := by
      rw [hb, show (8 : Int32) = nI 8 from rfl, pk_mul, wb_shr (Nat.lt_of_le_of_lt (Nat.div_le_self _ _) hn) (by omega), Nat.div_div_eq_div_mul, ← Nat.pow_add]
      congr 3
      omega
    have ih := fun c r hp => up_sim P hm hn h5 hw hP s (e + 1) fu (a + b) c r (by omega) (by omega) (by omega) hab (by rw [← nI_add, ← hb]; exact hv) hp
    unfold fG_unpack_10 fR_mapped_38
    rw [hr, if_neg (nI_nlt (by omega) (by omega)), if_neg (nI_nlt (by omega) (by omega)), show (5 : Int32) = nI 5 from rfl, nI_add 5 e, if_pos (inb_nI (by omega) (by omega)), if_pos (inb_nI (by omega) (by omega)), nI_clamp (n := 5 + e) (by omega), hce, hre, fG_slotOf_eq, hk, ab_bd_s, hsh1]
    change ∃ c' r', (if nI k = -1 then _ else ab_bd (fC_bytes (nI k)) _) = some c' ∧ ab_bd (fR_find r (us8 (w (5 + e)))) _ = some (3, r') ∧ P c' r'
    rw [if_neg (nI_m1 hk30), fR_find_eq, hd, ab_bd_s, cC_bytes k hk30, ab_bd_s, show io (some k) = nI k from rfl, cC_value hk30 (by omega) (by intro z; subst z; revert hmp; decide), ab_bd_s, if_pos (inb_nI hk30 (by omega)), if_pos (inb_nI hk30 (by omega)), nI_clamp (n := k) (by omega), hsh2, ← hnum, nI_1]
    rw [show nI a + mdBytes k = nI (a + b) by rw [hb, nI_add]]
    generalize fG_number (lN (n / 2 ^ (8 * a))) (mdBytes k) = x
    by_cases hrv : rv k x = 0
    · obtain ⟨z1, z2, z3⟩ := rv_0 hrv
      rw [if_pos hrv, if_neg (by rw [Int32.le_iff_toInt_le] at z2; rw [Int32.lt_iff_toInt_lt]; omega), if_neg (by rw [Int32.le_iff_toInt_le] at z1; rw [Int32.lt_iff_toInt_lt]; omega)]
      have hgo := ih (cs_u c 1 k x) (cs_u r 1 k x) (hP c r k x hp h16 hk30 hmp hrv)
      by_cases h18 : nI k = 18
      · have hk18 : k = 18 := (nI_eq (b := 18) (by omega) (by omega)).mp h18
        rw [if_pos h18, if_neg (fun z => z3 ⟨hk18, z⟩)]
        exact hgo
      · rw [if_neg h18]
        exact hgo
    · rw [if_neg hrv]
      have hgo := ih c r hp
      unfold rv at hrv
      by_cases g1 : x < mdLeast k
      · rw [if_pos g1]; exact hgo
      · rw [if_neg g1]
        by_cases g2 : mdMost k < x
        · rw [if_pos g2]; exact hgo
        · rw [if_neg g2]
          rw [if_pos (by rw [Int32.lt_iff_toInt_lt] at g2; rw [Int32.le_iff_toInt_le]; omega), if_pos (by rw [Int32.lt_iff_toInt_lt] at g1; rw [Int32.le_iff_toInt_le]; omega)] at hrv
          by_cases h18 : k = 18
          · rw [if_pos h18] at hrv
            by_cases h2 : x = 2
            · rw [if_pos (by rw [h18]; rfl), if_pos h2]; exact hgo
            · rw [if_neg h2] at hrv; exact absurd rfl hrv
          · rw [if_neg h18] at hrv; exact absurd rfl hrv
