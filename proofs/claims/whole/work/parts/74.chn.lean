/-! The channel, whole; objects; words -/
def cI (x2 : Int64) : Int32 := ((((x2).toUInt64 >>> (((8 : Int32)).toInt64.toUInt64 &&& Int64.toUInt64 63)).toInt64).toInt32 &&& (65535 : Int32))
def cS (x2 : Int64) : Int32 := ((((x2).toUInt64 >>> (((24 : Int32)).toInt64.toUInt64 &&& Int64.toUInt64 63)).toInt64).toInt32 &&& (255 : Int32))
def cY (x1 : Int64) : Int64 := ((x1).toUInt64 >>> (((32 : Int32)).toInt64.toUInt64 &&& Int64.toUInt64 63)).toInt64
def aw (x1 : Int64) (a b : Int32) : Int64 := (((a).toInt64 ||| (x1 &&& (4294967040 : Int64))) ||| ((b).toInt64 <<< (((32 : Int32)).toInt64 &&& 63)))
def rans (r : cs_S) (x : Int64) (a b : Int32) : Option (Int32 × cs_S) := ab_bd (fR_send r (1408 + r.1 0 4) 8 (aw x a b)) (fun p => some (4, p))
theorem ans {tp ts : Nat} {g : Int32 × Int32 × Int32} {c r : cs_S} (h : LRt tp ts g c r) (x : Int64) (a b : Int32) : ∃ c' r', fS_sendAnswer c x a b = some c' ∧ rans r x a b = some (4, r') ∧ LRt tp ts g c' r' ∧ rk r r' := by
  obtain ⟨c', r', e1, e2, e3⟩ := LRt_send h (1408 + r.1 0 4) 8 (aw x a b)
  refine ⟨c', r', ?_, ?_, e3⟩
  · unfold fS_sendAnswer
    rw [ab_id, h.1.nd]
    exact e1
  · unfold rans
    rw [e2, ab_bd_s]
def rwt (r : cs_S) (x : Int64) (p n : Int32) : Option (Int32 × cs_S) := ab_bd (fR_refusal r p n (cY x).toInt32) (fun e => if e = 0 then ab_bd (fR_write r p (fR_cut (cY x).toInt32 n)) (fun q => rans q x 96 e) else rans r x 128 e)
def rwr (r : cs_S) (x : Int64) (p n : Int32) : Option (Int32 × cs_S) := ab_bd (fR_isIndex r (cI x)) (fun i => if i = 0 then rans r x 128 100794368 else (if 0 ≤ p then rwt r x p n else rans r x 128 101253137))
def rrt (r : cs_S) (x : Int64) (p : Int32) : Option (Int32 × cs_S) := if ab_inb p 30 = true then (if mdKind (p).toNatClampNeg = 1 then rans r x 128 100728833 else (if mdBytes (p).toNatClampNeg = 1 then ab_bd (fR_look r p) (fun q => rans r x 79 q) else (if mdBytes (p).toNatClampNeg = 2 then ab_bd (fR_look r p) (fun q => rans r x 75 q) else ab_bd (fR_look r p) (fun q => rans r x 67 q)))) else none
def rrd (r : cs_S) (x : Int64) (p : Int32) : Option (Int32 × cs_S) := ab_bd (fR_isIndex r (cI x)) (fun i => if i = 0 then rans r x 128 100794368 else (if 0 ≤ p then rrt r x p else rans r x 128 101253137))
theorem fR_chan (r : cs_S) (x : Int64) : fR_channel r x = if r.1 0 5 = 4 then some (0, r) else (if (x.toInt32 &&& 255) = 128 then some (4, r) else ab_bd (fR_find r (cI x * 256 + cS x)) (fun p => if (x.toInt32 &&& 255) = 47 then rwr r x p 1 else (if (x.toInt32 &&& 255) = 43 then rwr r x p 2 else (if (x.toInt32 &&& 255) = 39 then rwr r x p 3 else (if (x.toInt32 &&& 255) = 35 then rwr r x p 4 else (if (x.toInt32 &&& 255) = 64 then rrd r x p else rans r x 128 84148225)))))) := by
  unfold fR_channel
  rw [ch_cmd, ch_idx, ch_sub, ch_v]
  rfl
theorem fS_chan (c : cs_S) (x : Int64) : fS_acceptChannel c 8 x = if c.1 0 1 = 4 then some (0, c) else (if (x.toInt32 &&& 255) = 128 then some (4, c) else ab_bd (fC_find (cI x) (cS x)) (fun p => ab_bd (fN_refusalOfAddress (x.toInt32 &&& 255) (cI x) p) (fun q => if q = 0 then (if p = -1 then (ab_bd (fS_sendAnswer c x 128 q) (fun z => some (4, z))) else (if (x.toInt32 &&& 255) = 64 then (ab_bd (fS_answerRead c x p) (fun z => some (4, z))) else (ab_bd (fS_answerWrite c x p (fN_bytesWritten (x.toInt32 &&& 255))) (fun z => some (4, z))))) else (ab_bd (fS_sendAnswer c x 128 q) (fun z => some (4, z)))))) := rfl
theorem cI_hi (x : Int64) : ¬ cI x < 0 ∧ cI x ≤ 65535 := an_hi _ 16 (by decide) (by decide)
theorem cS_hi (x : Int64) : ¬ cS x < 0 ∧ cS x ≤ 255 := an_hi _ 8 (by decide) (by decide)
theorem fC_f (x : Int64) : fC_find (cI x) (cS x) = some (io (fd (cI x * 256 + cS x))) := fC_find_eq (cI_hi x).1 (i_nlt (cI_hi x).2) (cS_hi x).1 (cS_hi x).2
def kN (k : Nat) : Nat := (mdKey k).toBitVec.toNat
theorem kN_t : ∀ k, k < 30 → mdKey k = nI (kN k) ∧ (mdKey k) >>> ((8 : Int32) &&& 31) = nI (kN k / 256) ∧ kN k < 2 ^ 24 := by decide +kernel
theorem ix_f {i j : Int32} (hi : ¬ i < 0 ∧ i ≤ 65535) (hj : ¬ j < 0 ∧ j ≤ 255) {k : Nat} (h : fd (i * 256 + j) = some k) : ix i = 1 := by
  obtain ⟨h1, h2⟩ := fd_some h
  obtain ⟨k1, k2, k3⟩ := kN_t k h1
  obtain ⟨i1, i2⟩ := hi
  obtain ⟨j1, j2⟩ := hj
  rw [Int32.lt_iff_toInt_lt, i0] at i1 j1
  rw [Int32.le_iff_toInt_le] at i2 j2
  have q1 : (65535 : Int32).toInt = 65535 := by decide
  have q2 : (255 : Int32).toInt = 255 := by decide
  obtain ⟨a, ha, rfl⟩ := rg_nI (x := i) (b := 65535) (by decide) ⟨by omega, by omega⟩
  obtain ⟨b, hb, rfl⟩ := rg_nI (x := j) (b := 255) (by decide) ⟨by omega, by omega⟩
  rw [show (256 : Int32) = nI 256 from rfl, pk_mul, nI_add, k1] at h2
  have h3 : kN k = a * 256 + b := (nI_eq (by omega) (by omega)).mp h2
  refine ixF_1 30 0 ⟨k, by omega, by omega, ?_⟩
  rw [k2, h3]
  congr 1
  omega
theorem md1 : ∀ k, k < 30 → ((mdKind k &&& 7 = 1) ↔ (mdKind k = 1)) := by decide +kernel
theorem ard {tp ts : Nat} {g : Int32 × Int32 × Int32} {c r : cs_S} (h : LRt tp ts g c r) (sp : SP r) (x : Int64) {k : Nat} (hk : k < 30) : ∃ c' r', fS_answerRead c x (nI k) = some c' ∧ rrt r x (nI k) = some (4, r') ∧ LRt tp ts g c' r' ∧ SP r' := by
  unfold fS_answerRead rrt
  rw [cC_kind k hk, ab_bd_s, if_pos (inb_nI hk (by decide)), nI_clamp (by omega)]
  by_cases a : mdKind k = 1
  · obtain ⟨c', r', e1, e2, e3, e4⟩ := ans h x 128 100728833
    exact ⟨c', r', by rw [if_pos ((md1 k hk).mpr a), ab_id]; exact e1, by rw [if_pos a]; exact e2, e3, e4.sp sp⟩
  · obtain ⟨s, s1, s2, s3⟩ := rfs h
    obtain ⟨c', r', e1, e2, e3, e4⟩ := ans (LRt_17 h s) x (fN_readAnswer (mdBytes k)) ((cs_u c 1 17 s).1 1 k)
    refine ⟨c', r', ?_, ?_, e3, e4.sp sp⟩
    · rw [if_neg (fun z => a ((md1 k hk).mp z)), s1, ab_bd_s, cC_bytes k hk, ab_bd_s, if_pos (inb_nI hk (by decide)), ab_id]
      exact e1
    · rw [if_neg a, s3 k hk, ab_bd_s, ab_bd_s, ab_bd_s]
      unfold fN_readAnswer at e2
      by_cases b1 : mdBytes k = 1
      · rw [if_pos b1] at e2 ⊢
        exact e2
      · rw [if_neg b1] at e2 ⊢
        by_cases b2 : mdBytes k = 2
        · rw [if_pos b2] at e2 ⊢
          exact e2
        · rw [if_neg b2] at e2 ⊢
          exact e2
theorem isC {k : Nat} (hk : k < 30) : ((k = 5 ∨ k = 12) ∧ ¬ fC_isCount (nI k) = 0) ∨ (k ≠ 5 ∧ k ≠ 12 ∧ fC_isCount (nI k) = 0) := by
  have : ∀ k, k < 30 → ((k = 5 ∨ k = 12) ∧ ¬ fC_isCount (nI k) = 0) ∨ (k ≠ 5 ∧ k ≠ 12 ∧ fC_isCount (nI k) = 0) := by decide +kernel
  exact this k hk
theorem awr {tp ts : Nat} {g : Int32 × Int32 × Int32} {c r : cs_S} (h : LRt tp ts g c r) (sp : SP r) (x : Int64) {k : Nat} (hk : k < 30) (n : Int32) : ∃ c' r', fS_answerWrite c x (nI k) n = some c' ∧ rwt r x (nI k) n = some (4, r') ∧ LRt tp ts g c' r' ∧ SP r' := by
  obtain ⟨e, e1, e2⟩ := rfw (n := n) (v := (cY x).toInt32) (w := fG_number (cY x) n) h k hk (fun hn => num_cut _ (by rw [hn]; exact mdB k hk))
  unfold fS_answerWrite rwt
  rw [show ((x).toUInt64 >>> (((32 : Int32)).toInt64.toUInt64 &&& Int64.toUInt64 63)).toInt64 = cY x from rfl, e1, ab_bd_s]
  rcases e2 with ⟨n0, e2⟩ | ⟨e2, hw, wok⟩
  · obtain ⟨c', r', f1, f2, f3, f4⟩ := ans h x 128 e
    exact ⟨c', r', by rw [e2, ab_bd_s, if_neg n0, ab_id]; exact f1, by rw [if_neg n0]; exact f2, f3, f4.sp sp⟩
  · rw [e2, ab_bd_s, if_pos rfl, ← hw]
    by_cases z : e = 0
    · rw [z] at wok
      obtain ⟨c1, r1, w1, w2, w3, w4⟩ := wri h sp k hk wok
      obtain ⟨c', r', f1, f2, f3, f4⟩ := ans w3 x 96 0
      refine ⟨c', r', ?_, by rw [if_pos z, w2, ab_bd_s, z]; exact f2, f3, f4.sp w4⟩
      rcases isC hk with ⟨a, b⟩ | ⟨a1, a2, b⟩
      · rcases wok with ⟨q, _⟩ | ⟨_, q1, q2, _⟩ | ⟨_, m, hm, hx, he⟩
        · omega
        · omega
        · have rc : fG_refusalOfCount c (nI k) (fG_number (cY x) n) = some 0 := by
            rw [hx]
            have : fG_refusalOfCount c (nI k) (nI m) = some (entL k (c.1 1) m 1 0) := fG_count_eq c a hm m 1 40 0 (by omega) (by omega)
            have q : entL k (c.1 1) m 1 0 = entL k (r.1 1) m 1 0 := entL_cg m 1 0 (fun j h1 h2 => h.1.ve _ (by omega) (by omega))
            rw [this, q, ← he]
          rw [if_neg b, rc, ab_bd_s, if_pos rfl, w1, ab_bd_s, ab_id]
          exact f1
      · rw [if_pos b, w1, ab_bd_s, ab_id]
        exact f1
    · obtain ⟨c', r', f1, f2, f3, f4⟩ := ans h x 128 e
      refine ⟨c', r', ?_, by rw [if_neg z]; exact f2, f3, f4.sp sp⟩
      rcases wok with ⟨_, q⟩ | ⟨_, _, _, _, _, _, q, _⟩ | ⟨a, m, hm, hx, he⟩
      · exact absurd q z
      · exact absurd q z
      · have nb : ¬ fC_isCount (nI k) = 0 := by
          rcases a with rfl | rfl <;> decide
        have rc : fG_refusalOfCount c (nI k) (fG_number (cY x) n) = some e := by
          rw [hx]
          have : fG_refusalOfCount c (nI k) (nI m) = some (entL k (c.1 1) m 1 0) := fG_count_eq c a hm m 1 40 0 (by omega) (by omega)
          have q : entL k (c.1 1) m 1 0 = entL k (r.1 1) m 1 0 := entL_cg m 1 0 (fun j h1 h2 => h.1.ve _ (by omega) (by omega))
          rw [this, q, ← he]
        rw [if_neg nb, rc, ab_bd_s, if_neg z, ab_id]
        exact f1
theorem chn {tp ts : Nat} {g : Int32 × Int32 × Int32} {c r : cs_S} (h : LRt tp ts g c r) (sp : SP r) (x1 : Int32) (x : Int64) : ∃ v c' r', fS_acceptChannel c x1 x = some (v, c') ∧ (if x1 = (8 : Int32) then fR_channel r x else some ((0 : Int32), r)) = some (v, r') ∧ LRt tp ts g c' r' ∧ SP r' := by
  by_cases h8 : x1 = 8
  rotate_left
  · refine ⟨0, c, r, ?_, if_neg h8, h, sp⟩
    unfold fS_acceptChannel
    rw [if_neg h8]
  subst h8
  rw [if_pos rfl, fR_chan, fS_chan, h.1.nt]
  by_cases n4 : r.1 0 5 = 4
  · exact ⟨0, c, r, if_pos n4, if_pos n4, h, sp⟩
  rw [if_neg n4, if_neg n4]
  by_cases m128 : (x.toInt32 &&& 255) = 128
  · exact ⟨4, c, r, if_pos m128, if_pos m128, h, sp⟩
  rw [if_neg m128, if_neg m128, fC_f, fR_find_eq, ab_bd_s, ab_bd_s]
  have fin : ∀ a b, ∃ v c' r', ab_bd (fS_sendAnswer c x a b) (fun z => some ((4 : Int32), z)) = some (v, c') ∧ rans r x a b = some (v, r') ∧ LRt tp ts g c' r' ∧ SP r' := fun a b => by
    obtain ⟨c', r', f1, f2, f3, f4⟩ := ans h x a b
    exact ⟨4, c', r', by rw [f1, ab_bd_s], f2, f3, f4.sp sp⟩
  generalize hm : (x.toInt32 &&& 255) = m
  cases hf : fd (cI x * 256 + cS x) with
  | none =>
    rw [show io none = -1 from rfl]
    have noR : ∀ n, rwr r x (-1) n = rans r x 128 (if ix (cI x) = 0 then 100794368 else 101253137) := fun n => by
      unfold rwr
      rw [fR_ix, ab_bd_s]
      by_cases a : ix (cI x) = 0
      · rw [if_pos a, if_pos a]
      · rw [if_neg a, if_neg (by decide), if_neg a]
    have noD : rrd r x (-1) = rans r x 128 (if ix (cI x) = 0 then 100794368 else 101253137) := by
      unfold rrd
      rw [fR_ix, ab_bd_s]
      by_cases a : ix (cI x) = 0
      · rw [if_pos a, if_pos a]
      · rw [if_neg a, if_neg (by decide), if_neg a]
    have q0 : ¬ (if ix (cI x) = 0 then (100794368 : Int32) else 101253137) = 0 := by
      by_cases a : ix (cI x) = 0
      · rw [if_pos a]
        decide
      · rw [if_neg a]
        decide
    have noC : ab_bd (fC_hasIndex (cI x)) (fun p1 => (if p1 = 0 then (some (100794368 : Int32)) else (some (101253137 : Int32)))) = some (if ix (cI x) = 0 then 100794368 else 101253137) := by
      rw [fC_ix, ab_bd_s]
      by_cases a : ix (cI x) = 0
      · rw [if_pos a, if_pos a]
      · rw [if_neg a, if_neg a]
    have go : fN_refusalOfAddress m (cI x) (-1) = some (if ix (cI x) = 0 then 100794368 else 101253137) → (if m = 47 then rwr r x (-1) 1 else (if m = 43 then rwr r x (-1) 2 else (if m = 39 then rwr r x (-1) 3 else (if m = 35 then rwr r x (-1) 4 else (if m = 64 then rrd r x (-1) else rans r x 128 84148225))))) = rans r x 128 (if ix (cI x) = 0 then 100794368 else 101253137) → ∃ v c' r', ab_bd (fN_refusalOfAddress m (cI x) (-1)) (fun q => if q = 0 then (if (-1 : Int32) = -1 then (ab_bd (fS_sendAnswer c x 128 q) (fun z => some ((4 : Int32), z))) else (if m = 64 then (ab_bd (fS_answerRead c x (-1)) (fun z => some ((4 : Int32), z))) else (ab_bd (fS_answerWrite c x (-1) (fN_bytesWritten m)) (fun z => some ((4 : Int32), z))))) else (ab_bd (fS_sendAnswer c x 128 q) (fun z => some ((4 : Int32), z)))) = some (v, c') ∧ (if m = 47 then rwr r x (-1) 1 else (if m = 43 then rwr r x (-1) 2 else (if m = 39 then rwr r x (-1) 3 else (if m = 35 then rwr r x (-1) 4 else (if m = 64 then rrd r x (-1) else rans r x 128 84148225))))) = some (v, r') ∧ LRt tp ts g c' r' ∧ SP r' := fun a b => by
      rw [a, b, ab_bd_s, if_neg q0]
      exact fin _ _
    by_cases m47 : m = 47
    · exact go (by rw [m47]; unfold fN_refusalOfAddress; rw [if_neg (by decide), if_neg (by decide), if_pos rfl]; exact noC) (by rw [if_pos m47, noR])
    by_cases m43 : m = 43
    · exact go (by rw [m43]; unfold fN_refusalOfAddress; rw [if_neg (by decide), if_neg (by decide), if_pos rfl]; exact noC) (by rw [if_neg m47, if_pos m43, noR])
    by_cases m39 : m = 39
    · exact go (by rw [m39]; unfold fN_refusalOfAddress; rw [if_neg (by decide), if_neg (by decide), if_pos rfl]; exact noC) (by rw [if_neg m47, if_neg m43, if_pos m39, noR])
    by_cases m35 : m = 35
    · exact go (by rw [m35]; unfold fN_refusalOfAddress; rw [if_neg (by decide), if_neg (by decide), if_pos rfl]; exact noC) (by rw [if_neg m47, if_neg m43, if_neg m39, if_pos m35, noR])
    by_cases m64 : m = 64
    · exact go (by rw [m64]; unfold fN_refusalOfAddress; rw [if_pos rfl, if_pos rfl]; exact noC) (by rw [if_neg m47, if_neg m43, if_neg m39, if_neg m35, if_pos m64, noD])
    have un : fN_refusalOfAddress m (cI x) (-1) = some 84148225 := by
      unfold fN_refusalOfAddress fN_bytesWritten
      rw [if_neg m64, if_neg m35, if_neg m39, if_neg m43, if_neg m47, if_pos rfl]
    rw [un, ab_bd_s, if_neg (by decide), if_neg m47, if_neg m43, if_neg m39, if_neg m35, if_neg m64]
    exact fin _ _
  | some k =>
    have hk := (fd_some hf).1
    have hx1 : ix (cI x) = 1 := ix_f (cI_hi x) (cS_hi x) hf
    rw [show io (some k) = nI k from rfl]
    have nm1 : ¬ nI k = -1 := nI_m1 hk
    have ge0 : (0 : Int32) ≤ nI k := by
      rw [Int32.le_iff_toInt_le, i0, nI_toInt (by omega)]
      omega
    have yR : ∀ n, rwr r x (nI k) n = rwt r x (nI k) n := fun n => by
      unfold rwr
      rw [fR_ix, ab_bd_s, hx1, if_neg (by decide), if_pos ge0]
    have yD : rrd r x (nI k) = rrt r x (nI k) := by
      unfold rrd
      rw [fR_ix, ab_bd_s, hx1, if_neg (by decide), if_pos ge0]
    by_cases m64 : m = 64
    · have a0 : fN_refusalOfAddress m (cI x) (nI k) = some 0 := by
        unfold fN_refusalOfAddress
        rw [if_pos m64, if_neg nm1]
      obtain ⟨c', r', f1, f2, f3, f4⟩ := ard h sp x hk
      refine ⟨4, c', r', ?_, ?_, f3, f4⟩
      · rw [a0, ab_bd_s, if_pos rfl, if_neg nm1, if_pos m64, f1, ab_bd_s]
      · rw [if_neg (by rw [m64]; decide), if_neg (by rw [m64]; decide), if_neg (by rw [m64]; decide), if_neg (by rw [m64]; decide), if_pos m64, yD]
        exact f2
    have go : ¬ fN_bytesWritten m = 0 → (if m = 47 then rwr r x (nI k) 1 else (if m = 43 then rwr r x (nI k) 2 else (if m = 39 then rwr r x (nI k) 3 else (if m = 35 then rwr r x (nI k) 4 else (if m = 64 then rrd r x (nI k) else rans r x 128 84148225))))) = rwr r x (nI k) (fN_bytesWritten m) → ∃ v c' r', ab_bd (fN_refusalOfAddress m (cI x) (nI k)) (fun q => if q = 0 then (if nI k = -1 then (ab_bd (fS_sendAnswer c x 128 q) (fun z => some ((4 : Int32), z))) else (if m = 64 then (ab_bd (fS_answerRead c x (nI k)) (fun z => some ((4 : Int32), z))) else (ab_bd (fS_answerWrite c x (nI k) (fN_bytesWritten m)) (fun z => some ((4 : Int32), z))))) else (ab_bd (fS_sendAnswer c x 128 q) (fun z => some ((4 : Int32), z)))) = some (v, c') ∧ (if m = 47 then rwr r x (nI k) 1 else (if m = 43 then rwr r x (nI k) 2 else (if m = 39 then rwr r x (nI k) 3 else (if m = 35 then rwr r x (nI k) 4 else (if m = 64 then rrd r x (nI k) else rans r x 128 84148225))))) = some (v, r') ∧ LRt tp ts g c' r' ∧ SP r' := fun a b => by
      have a0 : fN_refusalOfAddress m (cI x) (nI k) = some 0 := by
        unfold fN_refusalOfAddress
        rw [if_neg m64, if_neg a, if_neg nm1]
      obtain ⟨c', r', f1, f2, f3, f4⟩ := awr h sp x hk (fN_bytesWritten m)
      refine ⟨4, c', r', ?_, ?_, f3, f4⟩
      · rw [a0, ab_bd_s, if_pos rfl, if_neg nm1, if_neg m64, f1, ab_bd_s]
      · rw [b, yR]
        exact f2
    by_cases m47 : m = 47
    · exact go (by rw [m47]; decide) (by rw [if_pos m47, m47]; rfl)
    by_cases m43 : m = 43
    · exact go (by rw [m43]; decide) (by rw [if_neg m47, if_pos m43, m43]; rfl)
    by_cases m39 : m = 39
    · exact go (by rw [m39]; decide) (by rw [if_neg m47, if_neg m43, if_pos m39, m39]; rfl)
    by_cases m35 : m = 35
    · exact go (by rw [m35]; decide) (by rw [if_neg m47, if_neg m43, if_neg m39, if_pos m35, m35]; rfl)
    have un : fN_refusalOfAddress m (cI x) (nI k) = some 84148225 := by
      unfold fN_refusalOfAddress fN_bytesWritten
      rw [if_neg m64, if_neg m35, if_neg m39, if_neg m43, if_neg m47, if_pos rfl]
    rw [un, ab_bd_s, if_neg (by decide), if_neg m47, if_neg m43, if_neg m39, if_neg m35, if_neg m64]
    exact fin _ _
theorem obj {tp ts : Nat} {g : Int32 × Int32 × Int32} {c r : cs_S} (h : LRt tp ts g c r) (x1 x2 : Int32) : ∃ v c', fS_object c x1 x2 = some (v, c') ∧ fR_object r x1 x2 = some v ∧ LRt tp ts g c' r := by
  have no : fC_find x1 x2 = some (-1) → fS_object c x1 x2 = some (0, c) := fun e => by
    unfold fS_object
    rw [e, ab_bd_s, if_pos rfl]
  by_cases a1 : x1 < 0
  · exact ⟨0, c, no (by unfold fC_find; rw [if_pos a1]), by unfold fR_object; rw [if_pos a1], h⟩
  by_cases a2 : (65535 : Int32) < x1
  · exact ⟨0, c, no (by unfold fC_find; rw [if_neg a1, if_pos a2]), by unfold fR_object; rw [if_neg a1, if_pos a2], h⟩
  by_cases a3 : x2 < 0
  · exact ⟨0, c, no (by unfold fC_find; rw [if_neg a1, if_neg a2, if_pos a3]), by unfold fR_object; rw [if_neg a1, if_neg a2, if_pos a3], h⟩
  by_cases a4 : x2 ≤ 255
  rotate_left
  · exact ⟨0, c, no (by unfold fC_find; rw [if_neg a1, if_neg a2, if_neg a3, if_neg a4]), by unfold fR_object; rw [if_neg a1, if_neg a2, if_neg a3, if_neg a4], h⟩
  have hfc := fC_find_eq a1 a2 a3 a4
  cases hf : fd (x1 * 256 + x2) with
  | none =>
    rw [hf] at hfc
    refine ⟨0, c, no hfc, ?_, h⟩
    unfold fR_object
    rw [if_neg a1, if_neg a2, if_neg a3, if_pos a4, fR_find_eq, ab_bd_s, hf, if_pos (by decide)]
  | some k =>
    rw [hf] at hfc
    have hk := (fd_some hf).1
    have ge0 : ¬ nI k < 0 := by
      rw [Int32.lt_iff_toInt_lt, i0, nI_toInt (by omega)]
      omega
    have hr : fR_object r x1 x2 = if mdKind k = 1 then some 0 else fR_look r (nI k) := by
      unfold fR_object
      rw [if_neg a1, if_neg a2, if_neg a3, if_pos a4, fR_find_eq, ab_bd_s, hf, show io (some k) = nI k from rfl, if_neg ge0, if_pos (inb_nI hk (by decide)), nI_clamp (by omega), ab_id]
    rw [hr]
    unfold fS_object
    rw [hfc, ab_bd_s, show io (some k) = nI k from rfl, if_neg (nI_m1 hk), cC_kind k hk, ab_bd_s]
    by_cases b : mdKind k = 1
    · exact ⟨0, c, if_pos ((md1 k hk).mpr b), if_pos b, h⟩
    · obtain ⟨s, s1, s2, s3⟩ := rfs h
      refine ⟨(cs_u c 1 17 s).1 1 k, cs_u c 1 17 s, ?_, by rw [if_neg b]; exact s3 k hk, LRt_17 h s⟩
      rw [if_neg (fun z => b ((md1 k hk).mp z)), s1, ab_bd_s, if_pos (inb_nI hk (by decide)), nI_clamp (by omega)]
theorem wrd {c r : cs_S} (h : BK c r) (x1 x2 : Int32) : ∃ v, fS_word c x1 x2 = some v ∧ fR_word r x1 x2 = some v := by
  unfold fS_word fT_wordAt fR_word
  rw [ab_id]
  by_cases a1 : x1 < 0
  · exact ⟨0, if_pos a1, if_pos a1⟩
  by_cases a2 : (1 : Int32) < x1
  · exact ⟨0, by rw [if_neg a1, if_pos a2], by rw [if_neg a1, if_pos a2]⟩
  by_cases a3 : x2 < 0
  · exact ⟨0, by rw [if_neg a1, if_neg a2, if_pos a3], by rw [if_neg a1, if_neg a2, if_pos a3]⟩
  have t21 : (21 : Int32).toInt = 21 := by decide
  have t22 : (22 : Int32).toInt = 22 := by decide
  have t1 : (1 : Int32).toInt = 1 := by decide
  by_cases a4 : x2 ≤ 21
  rotate_left
  · have a5 : ¬ x2 < 22 := by
      rw [Int32.le_iff_toInt_le] at a4
      rw [Int32.lt_iff_toInt_lt]
      omega
    exact ⟨0, by rw [if_neg a1, if_neg a2, if_neg a3, if_neg a5], by rw [if_neg a1, if_neg a2, if_neg a3, if_neg a4]⟩
  have a5 : x2 < 22 := by
    rw [Int32.le_iff_toInt_le] at a4
    rw [Int32.lt_iff_toInt_lt]
    omega
  rw [if_neg a1, if_neg a2, if_neg a3, if_pos a5, if_neg a1, if_neg a2, if_neg a3, if_pos a4]
  rw [Int32.lt_iff_toInt_lt] at a1 a2 a3
  rw [Int32.le_iff_toInt_le] at a4
  have := i0
  obtain ⟨j, hj, rfl⟩ := rg_nI (x := x2) (b := 21) (by decide) ⟨by omega, by omega⟩
  obtain ⟨b, hb, rfl⟩ := rg_nI (x := x1) (b := 1) (by decide) ⟨by omega, by omega⟩
  rw [show (22 : Int32) = nI 22 from rfl, pk_mul, nI_add, if_pos (inb_nI (n := 22 * b + j) (by omega) (by decide)), nI_clamp (by omega), nI_clamp (by omega), if_pos (inb_nI (n := j) (by omega) (by decide)), if_pos (inb_nI (n := j) (by omega) (by decide))]
  rcases Nat.le_one_iff_eq_zero_or_eq_one.mp hb with rfl | rfl
  · refine ⟨_, ?_, rfl⟩
    rw [if_pos (by decide), h.1 j (by omega), Nat.mul_zero, Nat.zero_add]
  · refine ⟨_, ?_, rfl⟩
    rw [if_neg (by decide), if_pos (by decide), h.2 j (by omega), Nat.mul_one]
