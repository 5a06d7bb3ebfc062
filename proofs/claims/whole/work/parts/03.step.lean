/-! One plain instruction: what it does to locals, stack and heap (none: it isn't plain, or isn't at home here); j = (instruction, length, constant, class number, field place) -/
abbrev ab_R3 : Type := Option (ab_Lo × List Value × ab_H)
def ab_at (h : ab_H) (k : Nat) : Option va_E := if k < ab_NT then none else h[k - ab_NT]?
def ab_ldI (lo : ab_Lo) (i : Nat) (st : List Value) (h : ab_H) : ab_R3 := match lo[i]? with
  | some (some (.int x)) => some (lo, .int x :: st, h)
  | _ => none
def ab_ldL (lo : ab_Lo) (i : Nat) (st : List Value) (h : ab_H) : ab_R3 := match lo[i]? with
  | some (some (.long x)) => some (lo, .long x :: st, h)
  | _ => none
def ab_ldA (lo : ab_Lo) (i : Nat) (st : List Value) (h : ab_H) : ab_R3 := match lo[i]? with
  | some (some (.ref x)) => some (lo, .ref x :: st, h)
  | _ => none
def ab_stI (lo : ab_Lo) (i : Nat) (st : List Value) (h : ab_H) : ab_R3 := match st with
  | .int x :: r => if i < lo.length then some (ab_set1 lo i (.int x), r, h) else none
  | _ => none
def ab_stL (lo : ab_Lo) (i : Nat) (st : List Value) (h : ab_H) : ab_R3 := match st with
  | .long x :: r => if i + 1 < lo.length then some (ab_set2 lo i (.long x), r, h) else none
  | _ => none
def ab_stA (lo : ab_Lo) (i : Nat) (st : List Value) (h : ab_H) : ab_R3 := match st with
  | .ref x :: r => if i < lo.length then some (ab_set1 lo i (.ref x), r, h) else none
  | _ => none
def ab_i2 (lo : ab_Lo) (st : List Value) (h : ab_H) (f : Int32 → Int32 → Int32) : ab_R3 := match st with
  | .int y :: .int x :: r => some (lo, .int (f x y) :: r, h)
  | _ => none
def ab_l2 (lo : ab_Lo) (st : List Value) (h : ab_H) (f : Int64 → Int64 → Int64) : ab_R3 := match st with
  | .long y :: .long x :: r => some (lo, .long (f x y) :: r, h)
  | _ => none
def ab_ls (lo : ab_Lo) (st : List Value) (h : ab_H) (f : Int64 → Int32 → Int64) : ab_R3 := match st with
  | .int y :: .long x :: r => some (lo, .long (f x y) :: r, h)
  | _ => none
def ab_i1 (lo : ab_Lo) (st : List Value) (h : ab_H) (f : Int32 → Value) : ab_R3 := match st with
  | .int x :: r => some (lo, f x :: r, h)
  | _ => none
def ab_l1 (lo : ab_Lo) (st : List Value) (h : ab_H) (f : Int64 → Value) : ab_R3 := match st with
  | .long x :: r => some (lo, f x :: r, h)
  | _ => none
def ab_lc (lo : ab_Lo) (st : List Value) (h : ab_H) : ab_R3 := match st with
  | .long y :: .long x :: r => some (lo, .int (lg_cmp x y) :: r, h)
  | _ => none
def ab_inc (lo : ab_Lo) (i : Nat) (cv : Value) (st : List Value) (h : ab_H) : ab_R3 := match lo[i]?, cv with
  | some (some (.int x)), .int y => if i < lo.length then some (ab_set1 lo i (.int (x + y)), st, h) else none
  | _, _ => none
def ab_dup (lo : ab_Lo) (st : List Value) (h : ab_H) : ab_R3 := match st with
  | .int x :: r => some (lo, .int x :: .int x :: r, h)
  | .ref x :: r => some (lo, .ref x :: .ref x :: r, h)
  | _ => none
def ab_dup2 (lo : ab_Lo) (st : List Value) (h : ab_H) : ab_R3 := match st with
  | .int x :: .int y :: r => some (lo, .int x :: .int y :: .int x :: .int y :: r, h)
  | .int x :: .ref y :: r => some (lo, .int x :: .ref y :: .int x :: .ref y :: r, h)
  | _ => none
def ab_dupx1 (lo : ab_Lo) (st : List Value) (h : ab_H) : ab_R3 := match st with
  | .int x :: .int y :: r => some (lo, .int x :: .int y :: .int x :: r, h)
  | .int x :: .ref y :: r => some (lo, .int x :: .ref y :: .int x :: r, h)
  | _ => none
def ab_dupx2 (lo : ab_Lo) (st : List Value) (h : ab_H) : ab_R3 := match st with
  | .int x :: .int y :: .ref z :: r => some (lo, .int x :: .int y :: .ref z :: .int x :: r, h)
  | _ => none
def ab_pop (lo : ab_Lo) (st : List Value) (h : ab_H) : ab_R3 := match st with
  | .int _ :: r => some (lo, r, h)
  | .ref _ :: r => some (lo, r, h)
  | _ => none
/-- may this field hold this value, as it stands -/
def ab_fit (ty : FieldType) (v : Value) : Bool := match ty, v with
  | .int, .int _ => true
  | .long, .long _ => true
  | .object _, .ref _ => true
  | .array _, .ref _ => true
  | .boolean, .int x => x == 0 || x == 1
  | _, _ => false
def ab_fty (ci k : Nat) : FieldType := match vwCl[ci]? with
  | some q => (parseFieldDescriptor (q.2.1 k).2.2.1).getD .int
  | none => .int
/-- an index that is a number within -/
def ab_inb (i : Int32) (n : Nat) : Bool := decide (0 ≤ i.toInt) && decide (i.toInt < n)
def ab_ial (lo : ab_Lo) (st : List Value) (h : ab_H) : ab_R3 := match st with
  | .int i :: .ref a :: r => match ab_at h a with
    | some (.inl (t, n, .inl f)) => if t = 0 ∧ ab_inb i n = true then some (lo, .int (f i.toNatClampNeg) :: r, h) else none
    | _ => none
  | _ => none
def ab_ias (lo : ab_Lo) (st : List Value) (h : ab_H) : ab_R3 := match st with
  | .int x :: .int i :: .ref a :: r => match ab_at h a with
    | some (.inl (t, n, .inl f)) => if t = 0 ∧ ab_inb i n = true then some (lo, r, h.set (a - ab_NT) (.inl (0, n, .inl (upd f i.toNatClampNeg x)))) else none
    | _ => none
  | _ => none
def ab_aal (lo : ab_Lo) (st : List Value) (h : ab_H) : ab_R3 := match st with
  | .int i :: .ref a :: r => match ab_at h a with
    | some (.inl (t, n, .inr (.inr (.inr (.inr f))))) => if t = 2 ∧ ab_inb i n = true then match f i.toNatClampNeg with
      | some q => some (lo, .ref q :: r, h)
      | none => none
      else none
    | _ => none
  | _ => none
def ab_div (lo : ab_Lo) (st : List Value) (h : ab_H) : ab_R3 := match st with
  | .int y :: .int x :: r => if y = 0 then none else some (lo, .int (x / y) :: r, h)
  | _ => none
def ab_rem (lo : ab_Lo) (st : List Value) (h : ab_H) : ab_R3 := match st with
  | .int y :: .int x :: r => if y = 0 then none else some (lo, .int (x - x / y * y) :: r, h)
  | _ => none
def ab_gf (lo : ab_Lo) (st : List Value) (h : ab_H) (ci k : Nat) : ab_R3 := match st with
  | .ref a :: r => match ab_at h a with
    | some (.inr (c, fs)) => if c = ci then match fs[k]? with
      | some v => some (lo, v :: r, h)
      | none => none
      else none
    | _ => none
  | _ => none
def ab_pu (lo : ab_Lo) (st : List Value) (h : ab_H) (ci k : Nat) : ab_R3 := match st with
  | v :: .ref a :: r => match ab_at h a with
    | some (.inr (c, fs)) => if c = ci ∧ k < fs.length ∧ ab_fit (ab_fty ci k) v = true then some (lo, r, h.set (a - ab_NT) (.inr (c, fs.set k v))) else none
    | _ => none
  | _ => none
def ab_step (j : ab_J) (lo : ab_Lo) (st : List Value) (h : ab_H) : ab_R3 := match j.1 with
  | .iconst _ => some (lo, j.2.2.1 :: st, h)
  | .bipush _ => some (lo, j.2.2.1 :: st, h)
  | .sipush _ => some (lo, j.2.2.1 :: st, h)
  | .ldc _ => some (lo, j.2.2.1 :: st, h)
  | .ldc_w _ => some (lo, j.2.2.1 :: st, h)
  | .lconst _ => some (lo, j.2.2.1 :: st, h)
  | .ldc2_w _ => some (lo, j.2.2.1 :: st, h)
  | .iload_n i => ab_ldI lo i.val st h
  | .iload i => ab_ldI lo i st h
  | .istore_n i => ab_stI lo i.val st h
  | .istore i => ab_stI lo i st h
  | .lload_n i => ab_ldL lo i.val st h
  | .lload i => ab_ldL lo i st h
  | .lstore_n i => ab_stL lo i.val st h
  | .lstore i => ab_stL lo i st h
  | .aload_n i => ab_ldA lo i.val st h
  | .aload i => ab_ldA lo i st h
  | .astore_n i => ab_stA lo i.val st h
  | .astore i => ab_stA lo i st h
  | .iinc i _ => ab_inc lo i j.2.2.1 st h
  | .iadd => ab_i2 lo st h (fun x y => x + y)
  | .isub => ab_i2 lo st h (fun x y => x - y)
  | .imul => ab_i2 lo st h (fun x y => x * y)
  | .iand => ab_i2 lo st h (fun x y => x &&& y)
  | .ior => ab_i2 lo st h (fun x y => x ||| y)
  | .ixor => ab_i2 lo st h (fun x y => x ^^^ y)
  | .ishl => ab_i2 lo st h (fun x y => x <<< (y &&& 31))
  | .ishr => ab_i2 lo st h (fun x y => x >>> (y &&& 31))
  | .iushr => ab_i2 lo st h (fun x y => (x.toUInt32 >>> (y.toUInt32 &&& Int32.toUInt32 31)).toInt32)
  | .ladd => ab_l2 lo st h (fun x y => x + y)
  | .lsub => ab_l2 lo st h (fun x y => x - y)
  | .lmul => ab_l2 lo st h (fun x y => x * y)
  | .land => ab_l2 lo st h (fun x y => x &&& y)
  | .lor => ab_l2 lo st h (fun x y => x ||| y)
  | .lxor => ab_l2 lo st h (fun x y => x ^^^ y)
  | .lshl => ab_ls lo st h (fun x y => x <<< (y.toInt64 &&& 63))
  | .lshr => ab_ls lo st h (fun x y => x >>> (y.toInt64 &&& 63))
  | .lushr => ab_ls lo st h (fun x y => (x.toUInt64 >>> (y.toInt64.toUInt64 &&& Int64.toUInt64 63)).toInt64)
  | .ineg => ab_i1 lo st h (fun x => .int (-x))
  | .i2l => ab_i1 lo st h (fun x => .long x.toInt64)
  | .i2b => ab_i1 lo st h (fun x => .int x.toInt8.toInt32)
  | .i2s => ab_i1 lo st h (fun x => .int x.toInt16.toInt32)
  | .i2c => ab_i1 lo st h (fun x => .int (x.toUInt32 % 65536).toInt32)
  | .lneg => ab_l1 lo st h (fun x => .long (-x))
  | .l2i => ab_l1 lo st h (fun x => .int x.toInt32)
  | .lcmp => ab_lc lo st h
  | .dup => ab_dup lo st h
  | .dup2 => ab_dup2 lo st h
  | .dup_x1 => ab_dupx1 lo st h
  | .dup_x2 => ab_dupx2 lo st h
  | .pop => ab_pop lo st h
  | .iaload => if j.2.2.2.1 = 1 then ab_ial lo st h else none
  | .iastore => if j.2.2.2.1 = 1 then ab_ias lo st h else none
  | .aaload => if j.2.2.2.1 = 1 then ab_aal lo st h else none
  | .idiv => if j.2.2.2.1 = 1 then ab_div lo st h else none
  | .irem => if j.2.2.2.1 = 1 then ab_rem lo st h else none
  | .getfield _ => ab_gf lo st h j.2.2.2.1 j.2.2.2.2
  | .putfield _ => match j.2.2.1 with
    | .retAddr _ => none
    | _ => ab_pu lo st h j.2.2.2.1 j.2.2.2.2
  | .getstatic _ => if j.2.2.2.2 < ab_NT then some (lo, .ref j.2.2.2.2 :: st, h) else none
  | _ => none
/-- the tables' word at place i -/
def ab_wd (i : Nat) (w : Cond) : Bool := decide (lw_tbl[i]? = some w)
theorem ab_wd_in {i : Nat} {w : Cond} (h : ab_wd i w = true) : w ∈ lw_tbl := List.mem_of_getElem? (of_decide_eq_true h)
def ab_ti (cv : Value) : Nat := match cv with
  | .ref i => i
  | .retAddr i => i
  | _ => 0
/-- the field that 'own' links at idx is field k of class number ci: by the tables' word at place ti -/
def ab_fl (own : String) (idx ci k ti : Nat) : Bool := match vwCl[ci]? with
  | some q => decide (k < q.2.2) && ab_wd ti (Cond.fieldLink own idx (q.2.1 k).1 (q.2.1 k).2.1 (q.2.1 k).2.2.1)
  | none => false
def ab_pf (y : MethodName) (idx ci k ti : Nat) : Bool := match vwCl[ci]? with
  | some q => if (q.2.1 k).2.2.2 = true then decide (k < q.2.2) && (y.name == "<init>") && ((q.2.1 k).1 == y.cls) && ab_wd ti (Cond.fieldLink y.cls idx (q.2.1 k).1 (q.2.1 k).2.1 (q.2.1 k).2.2.1) else ab_fl y.cls idx ci k ti
  | none => false
def ab_cI (own : String) (i : Nat) (cv : Value) (ti : Nat) : Bool := match cv with
  | .int v => ab_wd ti (Cond.constant own i v)
  | _ => false
def ab_cL (own : String) (i : Nat) (cv : Value) (ti : Nat) : Bool := match cv with
  | .long v => ab_wd ti (Cond.constantLong own i v)
  | _ => false
theorem ab_cI_inv {own : String} {i ti : Nat} {cv : Value} (h : ab_cI own i cv ti = true) : ∃ v, cv = .int v ∧ Cond.constant own i v ∈ lw_tbl := by
  unfold ab_cI at h
  split at h
  · rename_i v
    exact ⟨v, rfl, ab_wd_in h⟩
  · cases h
theorem ab_cL_inv {own : String} {i ti : Nat} {cv : Value} (h : ab_cL own i cv ti = true) : ∃ v, cv = .long v ∧ Cond.constantLong own i v ∈ lw_tbl := by
  unfold ab_cL at h
  split at h
  · rename_i v
    exact ⟨v, rfl, ab_wd_in h⟩
  · cases h
/-- the plain instruction's length is as it should be, and the words that it needs are there -/
def ab_ck1 (y : MethodName) (j : ab_J) : Bool := match j.1 with
  | .iconst n => j.2.1 == 1 && decide (j.2.2.1 = .int (Int32.ofInt n))
  | .bipush n => j.2.1 == 2 && decide (j.2.2.1 = .int (Int8.ofInt n).toInt32)
  | .sipush n => j.2.1 == 3 && decide (j.2.2.1 = .int (Int16.ofInt n).toInt32)
  | .lconst n => j.2.1 == 1 && decide (j.2.2.1 = .long (Int64.ofNat n.val))
  | .ldc i => j.2.1 == 2 && ab_cI y.cls i j.2.2.1 j.2.2.2.2
  | .ldc_w i => j.2.1 == 3 && ab_cI y.cls i j.2.2.1 j.2.2.2.2
  | .ldc2_w i => j.2.1 == 3 && ab_cL y.cls i j.2.2.1 j.2.2.2.2
  | .iinc _ n => (j.2.1 == 3 || j.2.1 == 6) && decide (j.2.2.1 = .int (Int32.ofInt n))
  | .iload _ => j.2.1 == 2
  | .lload _ => j.2.1 == 2
  | .aload _ => j.2.1 == 2
  | .istore _ => j.2.1 == 2
  | .lstore _ => j.2.1 == 2
  | .astore _ => j.2.1 == 2
  | .getfield i => j.2.1 == 3 && ab_fl y.cls i j.2.2.2.1 j.2.2.2.2 (ab_ti j.2.2.1)
  | .putfield i => j.2.1 == 3 && ab_pf y i j.2.2.2.1 j.2.2.2.2 (ab_ti j.2.2.1)
  | .getstatic i => j.2.1 == 3 && ab_sts.any (fun q => q.2.2.2 == j.2.2.2.2 && ab_wd (ab_ti j.2.2.1) (Cond.fieldLink y.cls i q.1 q.2.1 q.2.2.1))
  | _ => j.2.1 == 1
theorem ab_ldI_inv {lo lo' : ab_Lo} {i : Nat} {st st' : List Value} {h h' : ab_H} (hs : ab_ldI lo i st h = some (lo', st', h')) : ∃ x, lo[i]? = some (some (.int x)) ∧ lo' = lo ∧ st' = .int x :: st ∧ h' = h := by
  unfold ab_ldI at hs
  split at hs
  · rename_i x hx0
    cases hs
    exact ⟨x, hx0, rfl, rfl, rfl⟩
  · cases hs
theorem ab_ldL_inv {lo lo' : ab_Lo} {i : Nat} {st st' : List Value} {h h' : ab_H} (hs : ab_ldL lo i st h = some (lo', st', h')) : ∃ x, lo[i]? = some (some (.long x)) ∧ lo' = lo ∧ st' = .long x :: st ∧ h' = h := by
  unfold ab_ldL at hs
  split at hs
  · rename_i x hx0
    cases hs
    exact ⟨x, hx0, rfl, rfl, rfl⟩
  · cases hs
theorem ab_ldA_inv {lo lo' : ab_Lo} {i : Nat} {st st' : List Value} {h h' : ab_H} (hs : ab_ldA lo i st h = some (lo', st', h')) : ∃ x, lo[i]? = some (some (.ref x)) ∧ lo' = lo ∧ st' = .ref x :: st ∧ h' = h := by
  unfold ab_ldA at hs
  split at hs
  · rename_i x hx0
    cases hs
    exact ⟨x, hx0, rfl, rfl, rfl⟩
  · cases hs
theorem ab_stI_inv {lo lo' : ab_Lo} {i : Nat} {st st' : List Value} {h h' : ab_H} (hs : ab_stI lo i st h = some (lo', st', h')) : ∃ x, st = .int x :: st' ∧ i < lo.length ∧ lo' = ab_set1 lo i (.int x) ∧ h' = h := by
  unfold ab_stI at hs
  split at hs
  · rename_i x r
    split at hs
    · rename_i hi
      cases hs
      exact ⟨x, rfl, hi, rfl, rfl⟩
    · cases hs
  · cases hs
theorem ab_stL_inv {lo lo' : ab_Lo} {i : Nat} {st st' : List Value} {h h' : ab_H} (hs : ab_stL lo i st h = some (lo', st', h')) : ∃ x, st = .long x :: st' ∧ i + 1 < lo.length ∧ lo' = ab_set2 lo i (.long x) ∧ h' = h := by
  unfold ab_stL at hs
  split at hs
  · rename_i x r
    split at hs
    · rename_i hi
      cases hs
      exact ⟨x, rfl, hi, rfl, rfl⟩
    · cases hs
  · cases hs
theorem ab_stA_inv {lo lo' : ab_Lo} {i : Nat} {st st' : List Value} {h h' : ab_H} (hs : ab_stA lo i st h = some (lo', st', h')) : ∃ x, st = .ref x :: st' ∧ i < lo.length ∧ lo' = ab_set1 lo i (.ref x) ∧ h' = h := by
  unfold ab_stA at hs
  split at hs
  · rename_i x r
    split at hs
    · rename_i hi
      cases hs
      exact ⟨x, rfl, hi, rfl, rfl⟩
    · cases hs
  · cases hs
theorem ab_i2_inv {lo lo' : ab_Lo} {st st' : List Value} {h h' : ab_H} {f : Int32 → Int32 → Int32} (hs : ab_i2 lo st h f = some (lo', st', h')) : ∃ x y r, st = .int y :: .int x :: r ∧ lo' = lo ∧ st' = .int (f x y) :: r ∧ h' = h := by
  unfold ab_i2 at hs
  split at hs
  · rename_i y x r
    cases hs
    exact ⟨x, y, r, rfl, rfl, rfl, rfl⟩
  · cases hs
theorem ab_l2_inv {lo lo' : ab_Lo} {st st' : List Value} {h h' : ab_H} {f : Int64 → Int64 → Int64} (hs : ab_l2 lo st h f = some (lo', st', h')) : ∃ x y r, st = .long y :: .long x :: r ∧ lo' = lo ∧ st' = .long (f x y) :: r ∧ h' = h := by
  unfold ab_l2 at hs
  split at hs
  · rename_i y x r
    cases hs
    exact ⟨x, y, r, rfl, rfl, rfl, rfl⟩
  · cases hs
theorem ab_ls_inv {lo lo' : ab_Lo} {st st' : List Value} {h h' : ab_H} {f : Int64 → Int32 → Int64} (hs : ab_ls lo st h f = some (lo', st', h')) : ∃ x y r, st = .int y :: .long x :: r ∧ lo' = lo ∧ st' = .long (f x y) :: r ∧ h' = h := by
  unfold ab_ls at hs
  split at hs
  · rename_i y x r
    cases hs
    exact ⟨x, y, r, rfl, rfl, rfl, rfl⟩
  · cases hs
theorem ab_i1_inv {lo lo' : ab_Lo} {st st' : List Value} {h h' : ab_H} {f : Int32 → Value} (hs : ab_i1 lo st h f = some (lo', st', h')) : ∃ x r, st = .int x :: r ∧ lo' = lo ∧ st' = f x :: r ∧ h' = h := by
  unfold ab_i1 at hs
  split at hs
  · rename_i x r
    cases hs
    exact ⟨x, r, rfl, rfl, rfl, rfl⟩
  · cases hs
theorem ab_l1_inv {lo lo' : ab_Lo} {st st' : List Value} {h h' : ab_H} {f : Int64 → Value} (hs : ab_l1 lo st h f = some (lo', st', h')) : ∃ x r, st = .long x :: r ∧ lo' = lo ∧ st' = f x :: r ∧ h' = h := by
  unfold ab_l1 at hs
  split at hs
  · rename_i x r
    cases hs
    exact ⟨x, r, rfl, rfl, rfl, rfl⟩
  · cases hs
theorem ab_lc_inv {lo lo' : ab_Lo} {st st' : List Value} {h h' : ab_H} (hs : ab_lc lo st h = some (lo', st', h')) : ∃ x y r, st = .long y :: .long x :: r ∧ lo' = lo ∧ st' = .int (lg_cmp x y) :: r ∧ h' = h := by
  unfold ab_lc at hs
  split at hs
  · rename_i y x r
    cases hs
    exact ⟨x, y, r, rfl, rfl, rfl, rfl⟩
  · cases hs
theorem ab_inc_inv {lo lo' : ab_Lo} {i : Nat} {cv : Value} {st st' : List Value} {h h' : ab_H} (hs : ab_inc lo i cv st h = some (lo', st', h')) : ∃ x y, lo[i]? = some (some (.int x)) ∧ cv = .int y ∧ i < lo.length ∧ lo' = ab_set1 lo i (.int (x + y)) ∧ st' = st ∧ h' = h := by
  unfold ab_inc at hs
  split at hs
  · rename_i x y hx0
    split at hs
    · rename_i hi
      cases hs
      exact ⟨x, y, hx0, rfl, hi, rfl, rfl, rfl⟩
    · cases hs
  · cases hs
theorem ab_gf_inv {lo lo' : ab_Lo} {ci k : Nat} {st st' : List Value} {h h' : ab_H} (hs : ab_gf lo st h ci k = some (lo', st', h')) : ∃ a r fs v, st = .ref a :: r ∧ ¬ a < ab_NT ∧ h[a - ab_NT]? = some (.inr (ci, fs)) ∧ fs[k]? = some v ∧ lo' = lo ∧ st' = v :: r ∧ h' = h := by
  unfold ab_gf ab_at at hs
  split at hs
  · rename_i a r
    split at hs
    · rename_i c fs hc
      split at hc
      · cases hc
      · rename_i ha
        split at hs
        · rename_i hci
          subst hci
          split at hs
          · rename_i v hv
            cases hs
            exact ⟨a, r, fs, v, rfl, ha, hc, hv, rfl, rfl, rfl⟩
          · cases hs
        · cases hs
    · cases hs
  · cases hs
theorem ab_pu_inv {lo lo' : ab_Lo} {ci k : Nat} {st st' : List Value} {h h' : ab_H} (hs : ab_pu lo st h ci k = some (lo', st', h')) : ∃ a fs v, st = v :: .ref a :: st' ∧ ¬ a < ab_NT ∧ h[a - ab_NT]? = some (.inr (ci, fs)) ∧ k < fs.length ∧ ab_fit (ab_fty ci k) v = true ∧ lo' = lo ∧ h' = h.set (a - ab_NT) (.inr (ci, fs.set k v)) := by
  unfold ab_pu ab_at at hs
  split at hs
  · rename_i v a r
    split at hs
    · rename_i c fs hc
      split at hc
      · cases hc
      · rename_i ha
        split at hs
        · rename_i hci
          obtain ⟨rfl, hk, hf⟩ := hci
          cases hs
          exact ⟨a, fs, v, rfl, ha, hc, hk, hf, rfl, rfl⟩
        · cases hs
    · cases hs
  · cases hs
theorem ab_fit_ok {X : ab_C} {ty : FieldType} {v : Value} (h : ab_fit ty v = true) : narrow ty (ab_v X v) = ab_v X v ∧ fits ty (ab_v X v) = true := by
  unfold ab_fit at h
  split at h
  · exact ⟨rfl, rfl⟩
  · exact ⟨rfl, rfl⟩
  · exact ⟨rfl, rfl⟩
  · exact ⟨rfl, rfl⟩
  · rename_i x
    simp only [Bool.or_eq_true, beq_iff_eq] at h
    rcases h with rfl | rfl
    · exact ⟨show narrow .boolean (.int 0) = .int 0 by decide, show fits .boolean (.int 0) = true by decide⟩
    · exact ⟨show narrow .boolean (.int 1) = .int 1 by decide, show fits .boolean (.int 1) = true by decide⟩
  · cases h
theorem ab_at_own {h : ab_H} {a : Nat} {c : va_E} (hc : ab_at h a = some c) : ¬ a < ab_NT ∧ h[a - ab_NT]? = some c := by
  unfold ab_at at hc
  split at hc
  · cases hc
  · rename_i ha
    exact ⟨ha, hc⟩
theorem ab_ad_tab {X : ab_C} {a : Nat} (ha : a < ab_NT) : ab_v X (.ref a) = .ref (X.2.2.2.2.1 a) := by
  show Value.ref (ab_ad X a) = _
  unfold ab_ad
  rw [if_pos ha]
theorem ab_inb_ok {i : Int32} {n : Nat} (h : ab_inb i n = true) : vp_in i n := by
  unfold ab_inb at h
  simp only [Bool.and_eq_true, decide_eq_true_eq] at h
  exact vp_in_iff.mpr h
theorem ab_ial_inv {lo lo' : ab_Lo} {st st' : List Value} {h h' : ab_H} (hs : ab_ial lo st h = some (lo', st', h')) : ∃ i a r n f, st = .int i :: .ref a :: r ∧ ab_at h a = some (.inl (0, n, .inl f)) ∧ vp_in i n ∧ lo' = lo ∧ st' = .int (f i.toNatClampNeg) :: r ∧ h' = h := by
  unfold ab_ial at hs
  split at hs
  · rename_i i a r
    split at hs
    · rename_i t n f hc
      split at hs
      · rename_i hg
        obtain ⟨rfl, hg⟩ := hg
        cases hs
        exact ⟨i, a, r, n, f, rfl, hc, ab_inb_ok hg, rfl, rfl, rfl⟩
      · cases hs
    · cases hs
  · cases hs
theorem ab_ias_inv {lo lo' : ab_Lo} {st st' : List Value} {h h' : ab_H} (hs : ab_ias lo st h = some (lo', st', h')) : ∃ i x a n f, st = .int x :: .int i :: .ref a :: st' ∧ ab_at h a = some (.inl (0, n, .inl f)) ∧ vp_in i n ∧ lo' = lo ∧ h' = h.set (a - ab_NT) (.inl (0, n, .inl (upd f i.toNatClampNeg x))) := by
  unfold ab_ias at hs
  split at hs
  · rename_i x i a r
    split at hs
    · rename_i t n f hc
      split at hs
      · rename_i hg
        obtain ⟨rfl, hg⟩ := hg
        cases hs
        exact ⟨i, x, a, n, f, rfl, hc, ab_inb_ok hg, rfl, rfl⟩
      · cases hs
    · cases hs
  · cases hs
theorem ab_aal_inv {lo lo' : ab_Lo} {st st' : List Value} {h h' : ab_H} (hs : ab_aal lo st h = some (lo', st', h')) : ∃ i a r n f q, st = .int i :: .ref a :: r ∧ ab_at h a = some (.inl (2, n, .inr (.inr (.inr (.inr f))))) ∧ vp_in i n ∧ f i.toNatClampNeg = some q ∧ lo' = lo ∧ st' = .ref q :: r ∧ h' = h := by
  unfold ab_aal at hs
  split at hs
  · rename_i i a r
    split at hs
    · rename_i t n f hc
      split at hs
      · rename_i hg
        obtain ⟨rfl, hg⟩ := hg
        split at hs
        · rename_i q hq
          cases hs
          exact ⟨i, a, r, n, f, q, rfl, hc, ab_inb_ok hg, hq, rfl, rfl, rfl⟩
        · cases hs
      · cases hs
    · cases hs
  · cases hs
theorem ab_div_inv {lo lo' : ab_Lo} {st st' : List Value} {h h' : ab_H} (hs : ab_div lo st h = some (lo', st', h')) : ∃ x y r, st = .int y :: .int x :: r ∧ ¬ y = 0 ∧ lo' = lo ∧ st' = .int (x / y) :: r ∧ h' = h := by
  unfold ab_div at hs
  split at hs
  · rename_i y x r
    split at hs
    · cases hs
    · rename_i hy
      cases hs
      exact ⟨x, y, r, rfl, hy, rfl, rfl, rfl⟩
  · cases hs
theorem ab_rem_inv {lo lo' : ab_Lo} {st st' : List Value} {h h' : ab_H} (hs : ab_rem lo st h = some (lo', st', h')) : ∃ x y r, st = .int y :: .int x :: r ∧ ¬ y = 0 ∧ lo' = lo ∧ st' = .int (x - x / y * y) :: r ∧ h' = h := by
  unfold ab_rem at hs
  split at hs
  · rename_i y x r
    split at hs
    · cases hs
    · rename_i hy
      cases hs
      exact ⟨x, y, r, rfl, hy, rfl, rfl, rfl⟩
  · cases hs
