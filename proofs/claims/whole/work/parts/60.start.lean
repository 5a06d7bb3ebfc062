/-! THE CLAIM OUT OF ONE WALK OF THE LAW'S BODY. Your part is whole_start (and what it stands on); all else here is the same for every law, but numbers. -/
def R_law : String := "BusServoLaw"
def lw_P (b : Addr) (xs : List Int32) (args : Array Value) (s : State) : Prop := args = #[.ref b] ∧ s.IntsAt b xs ∧ xs.length ≤ 2561 ∧ (Jvm.Cond.and given_1 narrow_1).before args s = true
def lw_Q (_ : Array Value) (s : State) (o : Outcome) (t : State) : Prop := o = .returned (some (.int 1)) ∧ Framed s o t [] 600000 7302249
def lw_Z (below : List Frame) (a : Array Value) (s : State) : State → Prop := fun t => ∃ o, t.status = .running ∧ Ended t below o ∧ lw_Q a s o t
/-- the law's own end, with 1 on the stack, nothing written that was there before, its room as the claim has it -/
theorem lw_ret {p : Program} {l : Launch} {e : Env} {s : State} {m : MethodId} {below : List Frame} {meth : Method} {c : Code} {b : Nat} (hx : p.tables.exec = Jvm.exec) (hb : c.code = code) (hr : meth.sig.returnType = ret) (hlocks : meth.locks = false) {pc : Nat} {H : Heap} {ls : Array Slot} (hdg : decode code pc = .ok (.ireturn, 1)) : W p l e room_1 s m #[Value.ref b] below meth c H [] 600000 7302249 (lw_Z below #[Value.ref b] s) (F0 m pc ls [.int 1]) := by
  intro T hT X
  obtain ⟨fs, hret, hrun, hended, hW, hframe⟩ := X.leave (v := some (.int 1)) (hlocks := hlocks) (fun h => by rw [hr] at h; cases h)
  have hmeth' : T.vm.method? m = some meth := X.method'
  refine ⟨T.setFrames fs, ?_, .returned (some (.int 1)), hrun, hended, rfl, ⟨_, rfl⟩, hW, hframe⟩
  jvm_step X.here [X.here.top, hx, hb, hdg, hmeth', hr, ret, narrow_b1]
  (try refine ⟨rfl, ?_⟩); (try refine ⟨rfl, ?_⟩)
  first | (intro acts; rw [hret _ acts rfl rfl rfl]) | rw [hret _ _ rfl rfl rfl]
  exact Steps.refl _
/-- what holds at the law's entry: the machine, the code, the tables' words (any of lw_tbl by 'hts w (by decide +kernel)'), the script of L ints xs at the cell b, what the Statement gives of the start (any of its parts by flat_of_before) -/
def lw_At (p : Program) (s : State) (m : MethodId) (meth : Method) (c : Code) (b L : Nat) (xs : Nat → Int32) : Prop :=
  p.tables.exec = Jvm.exec ∧ c.code = code ∧ meth.sig.returnType = ret ∧ c.maxLocals = 4 ∧ s.vm.findClass R_law = some m.cls ∧ (∀ w ∈ lw_tbl, w.before #[Value.ref b] s = true) ∧ va_X b L xs s s.heap ∧ b < s.heap.size ∧ meth.locks = false ∧ (Jvm.Cond.and given_1 narrow_1).before #[Value.ref b] s = true

/-! The start: what the Statement gives makes the abstract machine's context -/
theorem st_inst : vwCl.all (fun q => decide (Cond.instantiable q.1 q.2.2 ∈ lw_tbl)) = true := by decide +kernel
theorem st_words : Cond.arrayClass .int ∈ lw_tbl ∧ Cond.arrayClass .long ∈ lw_tbl ∧ Cond.arrayOver (.array .int) ∈ lw_tbl ∧ (Cond.laysStatic "BusServo$Catalog" "TABLE" "[I" ∈ lw_tbl ∧ Cond.laysStatic "BusServo$Catalog" "KEPT" "[I" ∈ lw_tbl ∧ Cond.laysStatic "BusServo$Power" "STATUS_BITS" "[I" ∈ lw_tbl) ∧ Cond.initialized "BusServo$Catalog" ∈ lw_tbl ∧ Cond.initialized "BusServo$Power" ∈ lw_tbl := by decide +kernel
def st_T0 : Term := .static "BusServo$Catalog" "TABLE" "[I"
def st_T1 : Term := .static "BusServo$Catalog" "KEPT" "[I"
def st_T2 : Term := .static "BusServo$Power" "STATUS_BITS" "[I"
def st_fl : List Cond := flatC (Cond.and given_1 narrow_1)
def st_rows (tm : Term) (N : Nat) (f : Nat → Int32) : List Cond := Cond.arrayOf tm .int :: Cond.eq (.length tm) (.int (Int32.ofNat N)) :: (List.range N).map (fun j => Cond.eq (.elem tm (.int (Int32.ofNat j))) (.int (f j)))
def st_tabB (tm : Term) (N : Nat) (f : Nat → Int32) (i : Nat) : Bool := decide ((st_fl.drop i).take (N + 2) = st_rows tm N f)
set_option maxRecDepth 100000 in
theorem st_b0 : st_tabB st_T0 180 tabF 5 = true := by decide +kernel
set_option maxRecDepth 100000 in
theorem st_b1 : st_tabB st_T1 21 keptF 188 = true := by decide +kernel
set_option maxRecDepth 100000 in
theorem st_b2 : st_tabB st_T2 8 statF 212 = true := by decide +kernel
theorem st_tab {args : Array Value} {s : State} {tm : Term} {N i : Nat} {f : Nat → Int32} (hN : N < 2 ^ 31) (hb : st_tabB tm N f i = true) (hs : ∀ w ∈ st_fl, w.before args s = true) : ∃ t : Nat, tm.eval args s none [] s = some (.ref t) ∧ va_T .int t N (fun i => .int (f i)) (fun q => s.heap.size ≤ q) s s.heap := by
  have he := of_decide_eq_true hb
  have hm : ∀ w ∈ st_rows tm N f, w.before args s = true := fun w hw => hs w (List.mem_of_mem_drop (List.mem_of_mem_take (by rw [he]; exact hw)))
  exact va_Tof hN (hm _ List.mem_cons_self) (va_eqt (hm _ (List.mem_cons_of_mem _ List.mem_cons_self))) (fun j hj => va_eqt (hm _ (List.mem_cons_of_mem _ (List.mem_cons_of_mem _ (List.mem_map.mpr ⟨j, List.mem_range.mpr hj, rfl⟩))))) (fun a h q => by omega)
theorem st_arr {s : State} {cA comp : ClassId} {k : Class} {ty : FieldType} (h2 : s.vm.classes[cA]? = some k) (h3 : k.kind = .array comp ty) : ArrOfT s cA ty := fun n z => ⟨fun k h => (by cases h), k, h2, comp, h3⟩
/-- the context at the law's entry -/
theorem st_ctx (l : Launch) {p : Program} {s : State} {m : MethodId} {meth : Method} {c : Code} {b L : Nat} {xs : Nat → Int32} (C0 : lw_At p s m meth c b L xs) : ∃ X : ab_C, X.1 = l ∧ ab_b X = s.heap.size ∧ ab_ad X 3 = b ∧ cs_X X ∧ X.2.2.2.2.2[3]? = some (L, xs) ∧ ab_Ok X s := by
  obtain ⟨hx, hb, hr, hml, hown, hts, hXs, hbl, hlk, hgv⟩ := C0
  have hfl : ∀ w ∈ st_fl, w.before #[Value.ref b] s = true := flat_of_before _ hgv
  obtain ⟨t0, ev0, T0⟩ := st_tab (by decide) st_b0 hfl
  obtain ⟨t1, ev1, T1⟩ := st_tab (by decide) st_b1 hfl
  obtain ⟨t2, ev2, T2⟩ := st_tab (by decide) st_b2 hfl
  have hcl : ∀ ci : Nat, ∃ q : ClassId × (Nat → Nat), ∀ z : vw_C, vwCl[ci]? = some z → u_Kn s z.1 z.2.1 z.2.2 q.1 q.2 := by
    intro ci
    cases hz : vwCl[ci]? with
    | none => exact ⟨(0, fun _ => 0), fun z h => by cases h⟩
    | some z =>
      obtain ⟨C, T, N⟩ := z
      have hin : ∀ w ∈ u_ws C T N, w ∈ lw_tbl := fun w hw => (List.mem_filter.mp ((ab_cls hz).1 w hw)).1
      have hi : Cond.instantiable C N ∈ lw_tbl := by
        have := List.all_eq_true.mp st_inst _ (List.mem_of_getElem? hz)
        exact of_decide_eq_true this
      obtain ⟨cC, iS, hK⟩ := u_known hts hin (hts _ hi)
      exact ⟨(cC, iS), fun z h => by cases h; exact hK⟩
  obtain ⟨cI, kI, eI, fI, hkI, hkindI⟩ := Cond.arrayClass_spec (hts _ st_words.1)
  obtain ⟨cJ, kJ, eJ, fJ, hkJ, hkindJ⟩ := Cond.arrayClass_spec (hts _ st_words.2.1)
  obtain ⟨cI', cA, kA, fI', -, hkA, hkindA, fA⟩ := arrayOverA_spec (hts _ st_words.2.2.1)
  cases fI.symm.trans fI'
  let cas : Nat → ClassId := fun t => if t = 0 then cI else if t = 1 then cJ else cA
  let tb : Nat → Nat := fun j => if j = 0 then t0 else if j = 1 then t1 else if j = 2 then t2 else b
  let dC : Nat → ClassId := fun ci => (Classical.choose (hcl ci)).1
  let dI : Nat → Nat → Nat := fun ci => (Classical.choose (hcl ci)).2
  refine ⟨(l, (dC, dI), cas, s.heap.size, tb, [(180, tabF), (21, keptF), (8, statF), (L, xs)]), rfl, rfl, rfl, ⟨rfl, rfl, rfl⟩, rfl, ?_, ?_, ?_, Nat.le_refl _, ?_, ?_⟩
  · refine ⟨fun ci q hq => Classical.choose_spec (hcl ci) q hq, fun k q hk => ?_⟩
    match k, hk with
    | 0, hk => cases hk; exact ⟨st_arr hkI hkindI, fI⟩
    | 1, hk => cases hk; exact ⟨st_arr hkJ hkindJ, fJ⟩
    | 2, hk => cases hk; exact ⟨st_arr hkA hkindA, fA⟩
    | n + 3, hk => cases hk
  · intro j n f hj
    match j, hj with
    | 0, hj => cases hj; exact T0
    | 1, hj => cases hj; exact T1
    | 2, hj => cases hj; exact T2
    | 3, hj =>
      cases hj
      obtain ⟨scr, h1, h2, h3, h4, h5⟩ := hXs
      exact ⟨scr, h1, h2, h3, by omega, by rw [h4], h5, fun q => by have : s.heap.size ≤ b := q; omega⟩
    | n + 4, hj => cases hj
  · intro q hq
    have hA : ∀ a : Nat, a < s.heap.size → ¬ (fun q => s.heap.size ≤ q) a := fun a h q => by have : s.heap.size ≤ a := q; omega
    rcases List.mem_cons.mp hq with rfl | hq
    · exact va_Zref (hts _ st_words.2.2.2.1.1) (hts _ st_words.2.2.2.2.1) ev0 hA
    rcases List.mem_cons.mp hq with rfl | hq
    · exact va_Zref (hts _ st_words.2.2.2.1.2.1) (hts _ st_words.2.2.2.2.1) ev1 hA
    rcases List.mem_cons.mp hq with rfl | hq
    · exact va_Zref (hts _ st_words.2.2.2.1.2.2) (hts _ st_words.2.2.2.2.2) ev2 hA
    cases hq
  · intro w hw
    have h1 := hts w (List.mem_filter.mp hw).1
    have h2 := (List.mem_filter.mp hw).2
    unfold ab_isN at h2
    split at h2
    · exact va_Nw.of rfl h1
    · cases h2
  · exact ⟨kA, hkA, hkindA⟩
/-- from the entry, for every script, the law comes to its end with 1: over the pure statement -/
theorem whole_open {LR : Nat → cs_S → cs_S → Prop} (hok : lw_ok LR) {p : Program} {e : Env} {s : State} {m : MethodId} {below : List Frame} {meth : Method} {c : Code} (l : Launch) {b L : Nat} {xs : Nat → Int32} (hL : L ≤ 2561) (C0 : lw_At p s m meth c b L xs) : W p l e room_1 s m #[Value.ref b] below meth c s.heap [] 0 0 (lw_Z below #[Value.ref b] s) (entryFrame m ([Value.ref b] : List Value).toArray 4) := by
  obtain ⟨X, hX1, hbase, hb3, hXX, hXS, hOk⟩ := st_ctx l C0
  obtain ⟨hx, hb, hr, hml, hown, hts, hXs, hbl, hlk, hgv⟩ := C0
  subst hX1
  have hl := lv_entry ([.ref b]) (n := 4) (Nat.le_of_ble_eq_true rfl)
  rw [lg_entry_eq]
  generalize (lg_sl ([.ref b]) ++ List.replicate (4 - (lg_sl ([.ref b])).length) Slot.unset).toArray = ls at hl ⊢
  have key := lw_begin (d := 0) hXX hL hXS hok p e room_1 s m #[Value.ref b] below meth c s.heap [] 0 0 ls
    ⟨hx, hb, hr, hml, hown, fun w hw => hts w (List.mem_filter.mp hw).1, hlk, fun q => absurd q (by decide), hOk, by decide, by decide⟩
    ⟨by decide, by decide, va_S.rf, ⟨by rw [hbase]; rfl, fun k q hk => by cases hk⟩, rfl, _, hl, fun i v hi => by
      match i, hi with
      | 0, hi => cases hi; show (0, Value.ref (ab_ad X 3)) ∈ _; rw [hb3]; exact List.mem_cons_self
      | 1, hi => cases hi
      | 2, hi => cases hi
      | 3, hi => cases hi
      | n + 4, hi => cases hi⟩
  intro T hT Y
  obtain ⟨t, a1, o, b1, b2, ⟨r, h', ho, hq, -⟩, L', hF, hL'⟩ := key T hT Y
  have hq : r = some (Value.int 1) := hq
  subst hq
  refine ⟨t, a1, o, b1, b2, ho, hF.1, hF.2.1, ?_⟩
  refine State.sameButNew.drop_fresh (L := []) (J := L') hF.2.2 (fun x hx9 => ?_)
  have := hL' x hx9
  show s.heap.size ≤ x.base
  rw [← hbase]
  exact this
