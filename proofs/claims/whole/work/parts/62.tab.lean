/-! The tables of the two; entries of the mapping; the bits (wb_*: pasted from kit/laws/BITS.to-paste) -/
theorem wb_tb (n : Nat) : (lN n).toBitVec = BitVec.ofNat 64 n := rfl
theorem wb_inj {a b : Int64} (h : a.toBitVec = b.toBitVec) : a = b := Int64.toBitVec_inj.mp h
theorem wb_tn {n : Nat} (h : n < 2 ^ 64) : (lN n).toBitVec.toNat = n := by rw [wb_tb, BitVec.toNat_ofNat, Nat.mod_eq_of_lt h]
theorem wb_of (x : Int64) : ∃ n, n < 2 ^ 64 ∧ x = lN n := ⟨x.toBitVec.toNat, x.toBitVec.isLt, wb_inj (by rw [wb_tb]; simp)⟩
theorem wb_of32 (x : Int32) : ∃ n, n < 2 ^ 32 ∧ x = nI n := ⟨x.toBitVec.toNat, x.toBitVec.isLt, Int32.toBitVec_inj.mp (by show _ = BitVec.ofNat 32 _; simp)⟩
theorem wb_c : ∀ k, k < 64 → ((nI k).toInt64 &&& 63) = lN k := by decide +kernel
theorem wb_cu : ∀ k, k < 64 → ((nI k).toInt64.toUInt64 &&& Int64.toUInt64 63) = UInt64.ofNat k := by decide +kernel
theorem wb_sm : ∀ k, k < 64 → (BitVec.ofNat 64 k).smod 64 = BitVec.ofNat 64 k := by decide +kernel
theorem wb_pw {a b : Nat} (h : a ≤ b) : 2 ^ b = 2 ^ a * 2 ^ (b - a) := by rw [← Nat.pow_add]; congr 1; omega
theorem wb_lt2 {a b : Nat} (h : a < b) : 2 ^ a < 2 ^ b := Nat.pow_lt_pow_right (by decide) h
theorem wb_mod (n : Nat) : lN n = lN (n % 2 ^ 64) := wb_inj (by rw [wb_tb, wb_tb]; apply BitVec.eq_of_toNat_eq; rw [BitVec.toNat_ofNat, BitVec.toNat_ofNat, Nat.mod_mod])
theorem wb_shr {n k : Nat} (hn : n < 2 ^ 64) (hk : k < 64) : ((lN n).toUInt64 >>> ((nI k).toInt64.toUInt64 &&& Int64.toUInt64 63)).toInt64 = lN (n / 2 ^ k) := by
  rw [wb_cu k hk]
  apply wb_inj
  apply BitVec.eq_of_toNat_eq
  show ((lN n).toUInt64 >>> UInt64.ofNat k).toNat = (BitVec.ofNat 64 _).toNat
  have h1 : (UInt64.ofNat k).toNat = k := by
    show (BitVec.ofNat 64 k).toNat = k
    rw [BitVec.toNat_ofNat, Nat.mod_eq_of_lt (by omega)]
  have h2 : (lN n).toUInt64.toNat = n := wb_tn hn
  rw [UInt64.toNat_shiftRight, h1, h2, Nat.mod_eq_of_lt hk, Nat.shiftRight_eq_div_pow, BitVec.toNat_ofNat, Nat.mod_eq_of_lt (Nat.lt_of_le_of_lt (Nat.div_le_self _ _) hn)]
theorem wb_shl (n : Nat) {k : Nat} (hk : k < 64) : lN n <<< ((nI k).toInt64 &&& 63) = lN (n * 2 ^ k) := by
  rw [wb_c k hk]
  apply wb_inj
  rw [Int64.toBitVec_shiftLeft, wb_tb, wb_tb, wb_tb, wb_sm k hk]
  apply BitVec.eq_of_toNat_eq
  rw [BitVec.shiftLeft_eq', BitVec.toNat_shiftLeft, BitVec.toNat_ofNat, BitVec.toNat_ofNat, BitVec.toNat_ofNat, Nat.mod_eq_of_lt (show k < 2 ^ 64 by omega), Nat.shiftLeft_eq, Nat.mul_mod, Nat.mod_mod, ← Nat.mul_mod]
theorem wb_and {a b : Nat} (ha : a < 2 ^ 64) (hb : b < 2 ^ 64) : lN a &&& lN b = lN (a &&& b) := by
  apply wb_inj
  rw [Int64.toBitVec_and, wb_tb, wb_tb, wb_tb]
  apply BitVec.eq_of_toNat_eq
  rw [BitVec.toNat_and, BitVec.toNat_ofNat, BitVec.toNat_ofNat, BitVec.toNat_ofNat, Nat.mod_eq_of_lt ha, Nat.mod_eq_of_lt hb, Nat.mod_eq_of_lt (Nat.and_lt_two_pow _ hb)]
theorem wb_or {a b : Nat} (ha : a < 2 ^ 64) (hb : b < 2 ^ 64) : lN a ||| lN b = lN (a ||| b) := by
  apply wb_inj
  rw [Int64.toBitVec_or, wb_tb, wb_tb, wb_tb]
  apply BitVec.eq_of_toNat_eq
  rw [BitVec.toNat_or, BitVec.toNat_ofNat, BitVec.toNat_ofNat, BitVec.toNat_ofNat, Nat.mod_eq_of_lt ha, Nat.mod_eq_of_lt hb, Nat.mod_eq_of_lt (Nat.or_lt_two_pow ha hb)]
theorem wb_mask {n k : Nat} (hn : n < 2 ^ 64) (hk : k < 64) : lN n &&& lN (2 ^ k - 1) = lN (n % 2 ^ k) := by
  rw [wb_and hn (by have := wb_lt2 hk; omega), Nat.and_two_pow_sub_one_eq_mod]
def us8 (e : Int32) : Int32 := ((e).toUInt32 >>> (((8 : Int32)).toUInt32 &&& Int32.toUInt32 31)).toInt32
def us16 (e : Int32) : Int32 := ((e).toUInt32 >>> (((16 : Int32)).toUInt32 &&& Int32.toUInt32 31)).toInt32
theorem i_nI (x : Int32) : x = nI x.toBitVec.toNat := Int32.toBitVec_inj.mp (by show _ = BitVec.ofNat 32 _; simp)
theorem us8_nI (e : Int32) : us8 e = nI (e.toBitVec.toNat / 256) := by
  rw [i_nI (us8 e)]
  unfold us8
  rw [pk_ushr e 8 8 (by decide)]
theorem us16_nI (e : Int32) : us16 e = nI (e.toBitVec.toNat / 65536) := by
  rw [i_nI (us16 e)]
  unfold us16
  rw [pk_ushr e 16 16 (by decide)]
theorem us16_8 (e : Int32) : us16 e = nI ((us8 e).toBitVec.toNat / 256) := by
  have h := e.toBitVec.isLt
  rw [us16_nI, us8_nI, pk_tn (by omega), Nat.div_div_eq_div_mul]
theorem us8_and (e : Int32) : us8 e &&& 255 = nI (e.toBitVec.toNat / 256 % 256) := by
  have h := e.toBitVec.isLt
  rw [us8_nI, pk_andN (by omega) 8 (by decide)]
theorem us_key (e : Int32) : us16 e * 256 + (us8 e &&& 255) = us8 e := by
  rw [us8_and, us16_nI, us8_nI, show (256 : Int32) = nI 256 from rfl, pk_mul, nI_add]
  congr 1
  omega
theorem us16_hi (e : Int32) : ¬ us16 e < 0 ∧ ¬ (65535 : Int32) < us16 e := by
  have h := e.toBitVec.isLt
  rw [us16_nI]
  exact ⟨nI_pos (by omega), nI_nlt (a := 65535) (by omega) (by decide)⟩
theorem us8_hi (e : Int32) : ¬ (us8 e &&& 255) < 0 ∧ (us8 e &&& 255) ≤ 255 := by
  rw [us8_and]
  exact ⟨nI_pos (by omega), nI_le (b := 255) (by omega) (by decide)⟩
/-! find -/
theorem nI_30 {k : Nat} (h : k < 30) : ¬ (30 : Int32) ≤ nI k := nI_ge h (by decide)
def io (o : Option Nat) : Int32 := match o with
  | none => -1
  | some k => nI k
def fdF : Nat → Nat → Int32 → Option Nat
  | 0, _, _ => none
  | s + 1, k, x => if mdKey k = x then some k else fdF s (k + 1) x
def fd (x : Int32) : Option Nat := fdF 30 0 x
theorem fdF_some {x : Int32} {j : Nat} : ∀ s k, fdF s k x = some j → k ≤ j ∧ j < k + s ∧ mdKey j = x
  | 0, k, h => by cases h
  | s + 1, k, h => by
    unfold fdF at h
    split at h
    · cases h
      exact ⟨Nat.le_refl _, by omega, by assumption⟩
    · have := fdF_some s (k + 1) h
      exact ⟨by omega, by omega, this.2.2⟩
theorem fd_some {x : Int32} {j : Nat} (h : fd x = some j) : j < 30 ∧ mdKey j = x := by
  have := fdF_some 30 0 h
  exact ⟨by omega, this.2.2⟩
theorem fdF_none {x : Int32} : ∀ s k, fdF s k x = none → ∀ j, k ≤ j → j < k + s → mdKey j ≠ x
  | 0, k, h, j, h1, h2 => by omega
  | s + 1, k, h, j, h1, h2 => by
    unfold fdF at h
    split at h
    · cases h
    · rename_i hk
      by_cases e : j = k
      · subst e; exact hk
      · exact fdF_none s (k + 1) h j (by omega) (by omega)
theorem tab_key : ∀ k, k < 30 → tabF (k * 6) = mdKey k := by decide +kernel
theorem fR_find_2_eq (r : cs_S) (x : Int32) : ∀ (s k fu : Nat), k + s = 30 → s < fu → fR_find_2 fu r x (nI k) = some (io (fdF s k x))
  | 0, k, fu, hk, hf => by
    obtain ⟨fu, rfl⟩ : ∃ z, fu = z + 1 := ⟨fu - 1, by omega⟩
    obtain rfl : k = 30 := by omega
    unfold fR_find_2
    rw [if_pos (by decide)]
    rfl
  | s + 1, k, fu, hk, hf => by
    obtain ⟨fu, rfl⟩ : ∃ z, fu = z + 1 := ⟨fu - 1, by omega⟩
    unfold fR_find_2 fdF
    rw [if_neg (nI_30 (by omega)), if_pos (inb_nI (by omega) (by decide)), nI_clamp (by omega), nI_1, fR_find_2_eq r x s (k + 1) fu (by omega) (by omega)]
    by_cases h : mdKey k = x
    · rw [if_pos h, if_pos h]; rfl
    · rw [if_neg h, if_neg h]
theorem fR_find_eq (r : cs_S) (x : Int32) : fR_find r x = some (io (fd x)) := fR_find_2_eq r x 30 0 40 rfl (by omega)
theorem fC_find_33_eq (x : Int32) : ∀ (s k fu : Nat), k + s = 30 → s < fu → fC_find_33 fu x (nI k) = some (io (fdF s k x))
  | 0, k, fu, hk, hf => by
    obtain ⟨fu, rfl⟩ : ∃ z, fu = z + 1 := ⟨fu - 1, by omega⟩
    obtain rfl : k = 30 := by omega
    unfold fC_find_33
    rw [if_pos (by decide)]
    rfl
  | s + 1, k, fu, hk, hf => by
    obtain ⟨fu, rfl⟩ : ∃ z, fu = z + 1 := ⟨fu - 1, by omega⟩
    unfold fC_find_33 fdF
    rw [if_neg (nI_30 (by omega)), show (6 : Int32) = nI 6 from rfl, pk_mul, if_pos (inb_nI (by omega) (by decide)), nI_clamp (by omega), tab_key k (by omega), nI_1, fC_find_33_eq x s (k + 1) fu (by omega) (by omega)]
    by_cases h : mdKey k = x
    · rw [if_pos h, if_pos h]; rfl
    · rw [if_neg h, if_neg h]
theorem fC_find_eq {x y : Int32} (h1 : ¬ x < 0) (h2 : ¬ (65535 : Int32) < x) (h3 : ¬ y < 0) (h4 : y ≤ 255) : fC_find x y = some (io (fd (x * 256 + y))) := by
  unfold fC_find
  rw [if_neg h1, if_neg h2, if_neg h3, if_pos h4]
  exact fC_find_33_eq _ 30 0 40 rfl (by omega)
theorem io_lt {o : Option Nat} (h : ∀ j, o = some j → j < 30) : (io o < 0 ↔ o = none) ∧ (0 ≤ io o ↔ o ≠ none) ∧ (io o = -1 ↔ o = none) := by
  cases o with
  | none => exact ⟨by decide, by decide, by decide⟩
  | some k =>
    have hk := h k rfl
    have e : io (some k) = nI k := rfl
    have hi : (nI k).toInt = k := nI_toInt (by omega)
    rw [e]
    refine ⟨⟨fun z => absurd z (nI_pos (by omega)), fun z => by cases z⟩, ⟨fun _ z => (by cases z), fun _ => nI_pos' (by omega)⟩, ⟨fun z => ?_, fun z => by cases z⟩⟩
    rw [z] at hi
    have : ((-1 : Int32)).toInt = -1 := by decide
    omega
theorem fd_io (x : Int32) : (io (fd x) < 0 ↔ fd x = none) ∧ (0 ≤ io (fd x) ↔ fd x ≠ none) ∧ (io (fd x) = -1 ↔ fd x = none) := io_lt (fun _ h => (fd_some h).1)
theorem nI_m1 {k : Nat} (h : k < 30) : ¬ nI k = -1 := by
  intro z
  have hi : (nI k).toInt = k := nI_toInt (by omega)
  rw [z] at hi
  have : ((-1 : Int32)).toInt = -1 := by decide
  omega
/-! hasIndex -/
def ixF : Nat → Nat → Int32 → Int32
  | 0, _, _ => 0
  | s + 1, k, x => if (mdKey k) >>> ((8 : Int32) &&& 31) = x then 1 else ixF s (k + 1) x
theorem fC_hasIndex_eq (x : Int32) : ∀ (s k fu : Nat), k + s = 30 → s < fu → fC_hasIndex_2 fu x (nI k) = some (ixF s k x)
  | 0, k, fu, hk, hf => by
    obtain ⟨fu, rfl⟩ : ∃ z, fu = z + 1 := ⟨fu - 1, by omega⟩
    obtain rfl : k = 30 := by omega
    unfold fC_hasIndex_2
    rw [if_pos (by decide)]
    rfl
  | s + 1, k, fu, hk, hf => by
    obtain ⟨fu, rfl⟩ : ∃ z, fu = z + 1 := ⟨fu - 1, by omega⟩
    unfold fC_hasIndex_2 ixF
    rw [if_neg (nI_30 (by omega)), show (6 : Int32) = nI 6 from rfl, pk_mul, if_pos (inb_nI (by omega) (by decide)), nI_clamp (by omega), tab_key k (by omega), nI_1, fC_hasIndex_eq x s (k + 1) fu (by omega) (by omega)]
    by_cases h : (mdKey k) >>> ((8 : Int32) &&& 31) = x
    · rw [if_pos h, if_pos h]
    · rw [if_neg h, if_neg h]
theorem fR_isIndex_1 (r : cs_S) (x : Int32) : ∀ (s k fu : Nat), k + s = 30 → s < fu → fR_isIndex_4 fu r x 1 (nI k) = some 1
  | 0, k, fu, hk, hf => by
    obtain ⟨fu, rfl⟩ : ∃ z, fu = z + 1 := ⟨fu - 1, by omega⟩
    obtain rfl : k = 30 := by omega
    unfold fR_isIndex_4
    rw [if_pos (by decide), if_pos (by decide)]
  | s + 1, k, fu, hk, hf => by
    obtain ⟨fu, rfl⟩ : ∃ z, fu = z + 1 := ⟨fu - 1, by omega⟩
    unfold fR_isIndex_4
    rw [if_neg (nI_30 (by omega)), if_neg (by decide), nI_1, fR_isIndex_1 r x s (k + 1) fu (by omega) (by omega)]
theorem fR_isIndex_eq (r : cs_S) (x : Int32) : ∀ (s k fu : Nat), k + s = 30 → s < fu → fR_isIndex_4 fu r x 0 (nI k) = some (ixF s k x)
  | 0, k, fu, hk, hf => by
    obtain ⟨fu, rfl⟩ : ∃ z, fu = z + 1 := ⟨fu - 1, by omega⟩
    obtain rfl : k = 30 := by omega
    unfold fR_isIndex_4
    rw [if_pos (by decide), if_pos (by decide)]
    rfl
  | s + 1, k, fu, hk, hf => by
    obtain ⟨fu, rfl⟩ : ∃ z, fu = z + 1 := ⟨fu - 1, by omega⟩
    unfold fR_isIndex_4 ixF
    rw [if_neg (nI_30 (by omega)), if_pos rfl, if_pos (inb_nI (by omega) (by decide)), nI_clamp (by omega), nI_1, fR_isIndex_eq r x s (k + 1) fu (by omega) (by omega), fR_isIndex_1 r x s (k + 1) fu (by omega) (by omega)]
    by_cases h : (mdKey k) >>> ((8 : Int32) &&& 31) = x
    · rw [if_pos h, if_pos h]
    · rw [if_neg h, if_neg h]
def ix (x : Int32) : Int32 := ixF 30 0 x
theorem fC_ix (x : Int32) : fC_hasIndex x = some (ix x) := fC_hasIndex_eq x 30 0 40 rfl (by omega)
theorem fR_ix (r : cs_S) (x : Int32) : fR_isIndex r x = some (ix x) := fR_isIndex_eq r x 30 0 40 rfl (by omega)
theorem ixF_1 {x : Int32} : ∀ (s k : Nat), (∃ j, k ≤ j ∧ j < k + s ∧ (mdKey j) >>> ((8 : Int32) &&& 31) = x) → ixF s k x = 1
  | 0, k, ⟨j, h1, h2, _⟩ => by omega
  | s + 1, k, ⟨j, h1, h2, h3⟩ => by
    unfold ixF
    by_cases h : (mdKey k) >>> ((8 : Int32) &&& 31) = x
    · rw [if_pos h]
    · rw [if_neg h]
      by_cases e : j = k
      · subst e; exact absurd h3 h
      · exact ixF_1 s (k + 1) ⟨j, by omega, by omega, h3⟩
/-! columns -/
theorem cC_bytes : ∀ k, k < 30 → fC_bytes (nI k) = some (mdBytes k) := by decide +kernel
theorem cC_kind : ∀ k, k < 30 → fC_kind (nI k) = some (mdKind k &&& 7) := by decide +kernel
theorem cC_start : ∀ k, k < 30 → fC_start (nI k) = some (mdStart k) := by decide +kernel
theorem cC_least : ∀ k, k < 30 → k ≠ 0 → k ≠ 17 → fC_least (nI k) = some (mdLeast k) := by decide +kernel
theorem cC_greatest : ∀ k, k < 30 → k ≠ 0 → k ≠ 17 → fC_greatest (nI k) = some (mdMost k) := by decide +kernel
def rv (k : Nat) (v : Int32) : Int32 := if v ≤ mdMost k then (if mdLeast k ≤ v then (if k = 18 then (if v = 2 then 101253168 else 0) else 0) else 101253170) else 101253169
theorem nI_k {k j : Nat} (h : k < 30) (hj : j < 30) : (nI k = nI j) = (k = j) := propext (nI_eq (by omega) (by omega))
theorem cC_value {k : Nat} (h : k < 30) (h0 : k ≠ 0) (h17 : k ≠ 17) (v : Int32) : fN_refusalOfValue (nI k) v = some (rv k v) := by
  unfold fN_refusalOfValue rv
  rw [cC_least k h h0 h17, cC_greatest k h h0 h17, ab_bd_s, ab_bd_s, show (18 : Int32) = nI 18 from rfl]
  simp only [nI_k h (show 18 < 30 by decide)]
  split
  · split
    · split
      · split <;> rfl
      · rfl
    · rfl
  · rfl
theorem rv_0 {k : Nat} {v : Int32} (h : rv k v = 0) : v ≤ mdMost k ∧ mdLeast k ≤ v ∧ ¬ (k = 18 ∧ v = 2) := by
  unfold rv at h
  split at h
  · split at h
    · refine ⟨by assumption, by assumption, ?_⟩
      intro z
      rw [if_pos z.1, if_pos z.2] at h
      exact absurd h (by decide)
    · exact absurd h (by decide)
  · exact absurd h (by decide)
/-! entries -/
def ms (e : Int32) : Option Nat := match fd (us8 e) with
  | none => none
  | some k => if us16 e < 24576 then none else if e &&& 255 = 8 * mdBytes k then some k else none
theorem key_lo : ∀ k, k < 30 → k < 16 → nI ((mdKey k).toBitVec.toNat / 256) < 24576 := by decide +kernel
theorem ms_some {e : Int32} {k : Nat} (h : ms e = some k) : fd (us8 e) = some k ∧ ¬ us16 e < 24576 ∧ e &&& 255 = 8 * mdBytes k ∧ 16 ≤ k ∧ k < 30 := by
  unfold ms at h
  split at h
  · cases h
  · rename_i j hj
    split at h
    · cases h
    · rename_i h16
      split at h
      · cases h
        have hk := fd_some hj
        refine ⟨hj, h16, by assumption, ?_, hk.1⟩
        by_cases hlt : k < 16
        · have := key_lo k hk.1 hlt
          rw [hk.2, ← us16_8] at this
          exact absurd this h16
        · omega
      · cases h
theorem fG_slotOf_eq (e : Int32) : fG_slotOf e = some (io (ms e)) := by
  unfold fG_slotOf
  have hf := fC_find_eq (us16_hi e).1 (us16_hi e).2 (us8_hi e).1 (us8_hi e).2
  rw [us_key] at hf
  change ab_bd (fC_find (us16 e) (us8 e &&& 255)) _ = _
  rw [hf, ab_bd_s]
  unfold ms
  cases hd : fd (us8 e) with
  | none => rfl
  | some k =>
    have hk := fd_some hd
    show (if nI k = -1 then _ else _) = _
    rw [if_neg (nI_m1 hk.1)]
    change (if us16 e < 24576 then _ else _) = _
    by_cases h16 : us16 e < 24576
    · rw [if_pos h16]
      simp only [if_pos h16]
      rfl
    · rw [if_neg h16]
      simp only [if_neg h16]
      show ab_bd (fC_bytes (nI k)) _ = _
      rw [cC_bytes k hk.1, ab_bd_s]
      by_cases hb : e &&& 255 = 8 * mdBytes k
      · rw [if_pos hb, if_pos hb]
      · rw [if_neg hb, if_neg hb]; rfl
def mpb (q k : Nat) : Bool := if q = 5 then mdKind k &&& 7 == 2 else (mdKind k &&& 7 == 0 || (mdKind k &&& 7 == 2 || mdKind k &&& 7 == 3))
def entL (q : Nat) (v : Nat → Int32) : Nat → Nat → Int32 → Int32
  | 0, _, _ => 0
  | s + 1, e, a => match ms (v (q + e)) with
    | none => 100925505
    | some k => if mpb q k = true then (if a + mdBytes k ≤ 8 then entL q v s (e + 1) (a + mdBytes k) else 100925506) else 100925505
theorem entL_s {q : Nat} {v : Nat → Int32} {s e : Nat} {a : Int32} (h : entL q v (s + 1) e a = 0) : ∃ k, ms (v (q + e)) = some k ∧ mpb q k = true ∧ a + mdBytes k ≤ 8 ∧ entL q v s (e + 1) (a + mdBytes k) = 0 := by
  unfold entL at h
  split at h
  · exact absurd h (by decide)
  · rename_i k hk
    split at h
    · rename_i hm
      split at h
      · rename_i hl
        exact ⟨k, hk, hm, hl, h⟩
      · exact absurd h (by decide)
    · exact absurd h (by decide)
theorem entL_cg {q : Nat} {v w : Nat → Int32} : ∀ (s e : Nat) (a : Int32), (∀ j, e ≤ j → j < e + s → v (q + j) = w (q + j)) → entL q v s e a = entL q w s e a
  | 0, _, _, _ => rfl
  | s + 1, e, a, h => by
    unfold entL
    rw [h e (by omega) (by omega)]
    split
    · rfl
    · rw [entL_cg s (e + 1) _ (fun j h1 h2 => h j (by omega) (by omega))]
theorem cG_map (q k : Nat) (hq : q = 5 ∨ q = 12) (hk : k < 30) : fG_isMappable (nI k) (nI q) = some (if mpb q k = true then 1 else 0) := by
  unfold fG_isMappable mpb
  rw [cC_kind k hk, ab_bd_s]
  rcases hq with rfl | rfl
  · rw [if_pos (by decide), if_pos rfl]
    by_cases h : mdKind k &&& 7 = 2 <;> simp [h]
  · rw [if_neg (show ¬ nI 12 = (5 : Int32) by decide), if_neg (show ¬ (12 : Nat) = 5 by decide)]
    by_cases h : mdKind k &&& 7 = 0
    · simp [h]
    · by_cases h2 : mdKind k &&& 7 = 2
      · simp [h2]
      · by_cases h3 : mdKind k &&& 7 = 3
        · simp [h3]
        · simp [h, h2, h3]
theorem fG_count_eq (c : cs_S) {q m : Nat} (hq : q = 5 ∨ q = 12) (hm : m ≤ 3) : ∀ (s e fu : Nat) (a : Int32), e + s = m + 1 → s < fu → fG_refusalOfCount_5 fu c (nI q) (nI m) a (nI e) = some (entL q (c.1 1) s e a)
  | 0, e, fu, a, he, hf => by
    obtain ⟨fu, rfl⟩ : ∃ z, fu = z + 1 := ⟨fu - 1, by omega⟩
    unfold fG_refusalOfCount_5
    rw [if_pos (nI_lt (by omega) (by omega))]
    rfl
  | s + 1, e, fu, a, he, hf => by
    obtain ⟨fu, rfl⟩ : ∃ z, fu = z + 1 := ⟨fu - 1, by omega⟩
    unfold fG_refusalOfCount_5 entL
    rw [if_neg (nI_nlt (by omega) (by omega)), nI_add, if_pos (inb_nI (by omega) (by omega)), nI_clamp (by omega), fG_slotOf_eq, ab_bd_s]
    cases hd : ms (c.1 1 (q + e)) with
    | none => rfl
    | some k =>
      have hk := (ms_some hd).2.2.2.2
      show (if nI k = -1 then _ else ab_bd (fG_isMappable (nI k) (nI q)) _) = _
      rw [if_neg (nI_m1 hk), cG_map q k hq hk, ab_bd_s]
      dsimp only
      by_cases h : mpb q k = true
      · rw [if_pos h, if_neg (by decide), if_pos h]
        show ab_bd (fC_bytes (nI k)) _ = _
        rw [cC_bytes k hk, ab_bd_s, nI_1]
        by_cases h8 : a + mdBytes k ≤ 8
        · rw [if_pos h8, if_pos h8, fG_count_eq c hq hm s (e + 1) fu _ (by omega) (by omega)]
        · rw [if_neg h8, if_neg h8]
      · rw [if_neg h, if_pos rfl, if_neg h]
theorem fR_entries_eq (r : cs_S) {q m : Nat} (hq : q = 5 ∨ q = 12) (hm : m ≤ 3) : ∀ (s e fu : Nat) (a : Int32), e + s = m + 1 → s < fu → fR_entries_5 fu r (nI q) (nI m) a (nI e) = some (entL q (r.1 1) s e a)
  | 0, e, fu, a, he, hf => by
    obtain ⟨fu, rfl⟩ : ∃ z, fu = z + 1 := ⟨fu - 1, by omega⟩
    unfold fR_entries_5
    rw [if_pos (nI_lt (by omega) (by omega))]
    rfl
  | s + 1, e, fu, a, he, hf => by
    obtain ⟨fu, rfl⟩ : ∃ z, fu = z + 1 := ⟨fu - 1, by omega⟩
    unfold fR_entries_5 entL
    rw [if_neg (nI_nlt (by omega) (by omega)), nI_add, if_pos (inb_nI (by omega) (by omega)), nI_clamp (by omega), nI_1]
    change ab_bd (fR_find r (us8 (r.1 1 (q + e)))) _ = _
    rw [fR_find_eq, ab_bd_s]
    unfold ms
    cases hd : fd (us8 (r.1 1 (q + e))) with
    | none => rfl
    | some k =>
      have hk := (fd_some hd).1
      show (if nI k < 0 then _ else if us16 (r.1 1 (q + e)) < 24576 then _ else _) = _
      rw [if_neg (nI_pos (by omega))]
      dsimp only
      by_cases h16 : us16 (r.1 1 (q + e)) < 24576
      · rw [if_pos h16, if_pos h16]
      · rw [if_neg h16, if_neg h16]
        show (if ab_inb (nI k) 30 = true then _ else _) = _
        rw [if_pos (inb_nI hk (by omega)), show io (some k) = nI k from rfl, nI_clamp (by omega)]
        by_cases hb : r.1 1 (q + e) &&& 255 = 8 * mdBytes k
        · rw [if_pos hb, if_pos hb]
          dsimp only
          have ih := fun a => fR_entries_eq r hq hm s (e + 1) fu a (by omega) (by omega)
          rw [ih]
          unfold mpb
          rcases hq with rfl | rfl
          · rw [if_pos (by decide), if_pos rfl]
            by_cases h : mdKind k &&& 7 = 2
            · simp only [h, if_true, beq_self_eq_true]
              split <;> rfl
            · simp [h]
          · rw [if_neg (show ¬ nI 12 = (5 : Int32) by decide), if_neg (show ¬ (12 : Nat) = 5 by decide)]
            by_cases h0 : mdKind k &&& 7 = 0
            · simp only [h0, if_true, beq_self_eq_true, Bool.true_or]
              split <;> rfl
            · by_cases h2 : mdKind k &&& 7 = 2
              · simp only [h2, if_true, beq_self_eq_true, Bool.true_or, Bool.or_true, if_neg (show ¬ (2 : Int32) = 0 by decide)]
                split <;> rfl
              · by_cases h3 : mdKind k &&& 7 = 3
                · simp only [h3, if_true, beq_self_eq_true, Bool.true_or, Bool.or_true, if_neg (show ¬ (3 : Int32) = 0 by decide), if_neg (show ¬ (3 : Int32) = 2 by decide)]
                  split <;> rfl
                · simp [h0, h2, h3]
        · rw [if_neg hb, if_neg hb]
