/-! new int[2][22] : the outer array and its two rows, one behind the other -/
def mn_in (cI : ClassId) : Cell := { cls := cI, slots := Array.replicate 22 (.int 0) }
def mn_o0 (cA : ClassId) : Cell := { cls := cA, slots := Array.replicate 2 .null }
def mn_o1 (cA : ClassId) (h0 : Nat) : Cell := (mn_o0 cA).setSlot 0 (.ref (h0 + 1))
def mn_o2 (cA : ClassId) (h0 : Nat) : Cell := (mn_o1 cA h0).setSlot 1 (.ref (h0 + 2))
def mn_1 (s : State) (cA cI : ClassId) : State := ((s.pushCell (mn_o0 cA)).pushCell (mn_in cI)).setCell s.heap.size (mn_o1 cA s.heap.size)
def mn_2 (s : State) (cA cI : ClassId) : State := ((mn_1 s cA cI).pushCell (mn_in cI)).setCell s.heap.size (mn_o2 cA s.heap.size)
section MNA
variable {E : CtlPost} {e : Env} {d : Bool} {acts : List Action} {s : State}
theorem mn_row {cI cc : ClassId} {kI : Class} {Q : Addr → Pre} (hk : s.vm.classes[cI]? = some kI) (hkind : kI.kind = .array cc .int) (h1 : ¬ 22 > e.platform.arrayLengthLimit) (h2 : ¬ 22 * componentBytes .int > e.platform.maxHeapBytes) (h3 : s.heap.size < e.platform.maxCells) (h4 : s.slotsUsed + 22 ≤ e.platform.maxSlots)
    (hq : ∀ acts', Q s.heap.size d acts' (s.pushCell (mn_in cI))) : wp (multianewarray.make cI [22]) Q E e d acts s := by
  rw [multianewarray.make]
  simp only [wp_bind', W.ite, show ¬ ((22 : Int32) < 0) by decide, if_false, wp_pure', W.theClass, hk, hkind, Option.some.injEq, exists_eq_left']
  exact W.newArray_of hk hkind h1 h2 h3 h4 rfl hq
theorem mn_z1 (s : State) (cA cI : ClassId) : (mn_1 s cA cI).heap.size = s.heap.size + 2 := by simp [mn_1, State.setCell]
theorem mn_a1 (s : State) (cA cI : ClassId) : (mn_1 s cA cI).heap[s.heap.size]? = some (mn_o1 cA s.heap.size) := by
  simp [mn_1, State.setCell, Array.getElem?_setIfInBounds]
  omega
theorem mn_both {cA cI cc : ClassId} {kA kI : Class} {Q : Addr → Pre} (hkA : s.vm.classes[cA]? = some kA) (hkindA : kA.kind = .array cI (.array .int)) (hk : s.vm.classes[cI]? = some kI) (hkind : kI.kind = .array cc .int) (h1 : ¬ 22 > e.platform.arrayLengthLimit) (h2 : ¬ 22 * componentBytes .int > e.platform.maxHeapBytes) (h1' : ¬ 2 > e.platform.arrayLengthLimit) (h2' : ¬ 2 * componentBytes (.array .int) > e.platform.maxHeapBytes) (h3 : s.heap.size + 3 ≤ e.platform.maxCells) (h4 : s.slotsUsed + 46 ≤ e.platform.maxSlots)
    (hq : ∀ d' acts', Q s.heap.size d' acts' (mn_2 s cA cI)) : wp (multianewarray.make cA [2, 22]) Q E e d acts s := by
  rw [multianewarray.make]
  simp only [wp_bind', W.ite, show ¬ ((2 : Int32) < 0) by decide, if_false, wp_pure', W.theClass, hkA, hkindA, Option.some.injEq, exists_eq_left']
  refine W.newArray_of hkA hkindA h1' h2' (by omega) (by show s.slotsUsed + 2 ≤ _; omega) rfl (fun acts' => ?_)
  simp only [show ([(22 : Int32)].find? (· < 0)) = none by decide, ite_self, wp_bind', wp_pure']
  rw [Std.Legacy.Range.forIn_eq_forIn_range']
  have hr : List.range' (0 : Nat) ([:(2 : Int32).toNatClampNeg] : Std.Legacy.Range).size 1 = [0, 1] := by decide
  show wp (forIn (List.range' (0 : Nat) ([:(2 : Int32).toNatClampNeg] : Std.Legacy.Range).size 1) PUnit.unit _) _ E e d acts' _
  rw [hr]
  simp only [List.forIn_cons, List.forIn_nil, wp_bind', wp_pure']
  refine mn_row (s := s.pushCell (mn_o0 cA)) hk hkind h1 h2 (by simp; omega) (by simp [mn_o0]; omega) (fun acts2 => ?_)
  simp only [W.writeLoc, wp_bind', wp_pure']
  refine ⟨mn_o0 cA, ?_, ?_, ?_, ?_, ?_⟩
  · show ((s.heap.push (mn_o0 cA)).push (mn_in cI))[s.heap.size]? = some (mn_o0 cA)
    rw [Array.getElem?_push, if_neg (by simp), Array.getElem?_push, if_pos rfl]
  · simp [mn_o0]
  · simp [mn_o0]
  · simp [State.fitsSlot, State.slotType?, mn_o0, hkA, hkindA, fits]
  have e1 : (((s.pushCell (mn_o0 cA)).pushCell (mn_in cI)).setCell s.heap.size ((mn_o0 cA).setSlot 0 (.ref (s.pushCell (mn_o0 cA)).heap.size))) = mn_1 s cA cI := by simp [mn_1, mn_o1]
  rw [e1]
  have z1 := mn_z1 s cA cI
  refine mn_row (s := mn_1 s cA cI) hk hkind h1 h2 (by rw [z1]; omega) (by simp [mn_1, mn_o0, mn_in]; omega) (fun acts3 => ?_)
  simp only [W.writeLoc, wp_bind', wp_pure']
  refine ⟨mn_o1 cA s.heap.size, ?_, ?_, ?_, ?_, ?_⟩
  · show ((mn_1 s cA cI).heap.push (mn_in cI))[s.heap.size]? = _
    rw [Array.getElem?_push, if_neg (by rw [z1]; omega)]
    exact mn_a1 s cA cI
  · simp [mn_o1, mn_o0, Cell.setSlot]
  · simp [mn_o1, mn_o0, Cell.setSlot]
  · simp [State.fitsSlot, State.slotType?, mn_o1, mn_o0, Cell.setSlot, mn_1, hkA, hkindA, fits]
  have e2 : (((mn_1 s cA cI).pushCell (mn_in cI)).setCell s.heap.size ((mn_o1 cA s.heap.size).setSlot 1 (.ref (mn_1 s cA cI).heap.size))) = mn_2 s cA cI := by rw [z1]; rfl
  rw [e2]
  exact hq _ _
end MNA
theorem mn_2_setTop (s : State) (f : JFrame) (cA cI : ClassId) : mn_2 (s.setTop f) cA cI = (mn_2 s cA cI).setTop f := by
  simp only [mn_2, mn_1, State.heap_setTop, State.pushCell_setTop, State.setCell_setTop]
theorem mn_old (T : State) (vm : Vm) (cA cI : ClassId) {q : Nat} (hq : q < T.heap.size) : (mn_2 (T.setVm vm) cA cI).heap[q]? = T.heap[q]? := by
  have h1 : ¬ T.heap.size = q := by omega
  have h2 : ¬ q = T.heap.size := by omega
  have h3 : ¬ q = T.heap.size + 1 := by omega
  have h4 : ¬ q = T.heap.size + 1 + 1 := by omega
  simp [mn_2, mn_1, State.setCell, Array.getElem?_setIfInBounds, Array.getElem?_push, h1, h2, h3, h4]
theorem mn_at0 (s : State) (cA cI : ClassId) : (mn_2 s cA cI).heap[s.heap.size]? = some (mn_o2 cA s.heap.size) := by
  simp [mn_2, mn_1, State.setCell, Array.getElem?_setIfInBounds]
  omega
theorem mn_heap2 (s : State) (cA cI : ClassId) : (mn_2 s cA cI).heap = (((((s.heap.push (mn_o0 cA)).push (mn_in cI)).setIfInBounds s.heap.size (mn_o1 cA s.heap.size)).push (mn_in cI)).setIfInBounds s.heap.size (mn_o2 cA s.heap.size)) := rfl
theorem mn_at1 (s : State) (cA cI : ClassId) : (mn_2 s cA cI).heap[s.heap.size + 1]? = some (mn_in cI) := by
  rw [mn_heap2, Array.getElem?_setIfInBounds_ne (by omega), Array.getElem?_push, if_neg (by simp), Array.getElem?_setIfInBounds_ne (by omega), Array.getElem?_push, if_pos (by simp)]
theorem mn_at2 (s : State) (cA cI : ClassId) : (mn_2 s cA cI).heap[s.heap.size + 2]? = some (mn_in cI) := by
  rw [mn_heap2, Array.getElem?_setIfInBounds_ne (by omega), Array.getElem?_push, if_pos (by simp)]
theorem mn_o2_eq (cA : ClassId) (h0 : Nat) : mn_o2 cA h0 = arrV cA 2 (fun j => va_rf (if j = 0 then some (h0 + 1) else if j = 1 then some (h0 + 2) else none)) := by
  unfold mn_o2 mn_o1 mn_o0
  show Cell.setSlot (Cell.setSlot { cls := cA, slots := Array.replicate 2 .null, vm := .none } 0 _) 1 _ = _
  rw [arrV_new, arrV_store, arrV_store]
  refine congrArg (arrV cA 2) (funext fun j => ?_)
  by_cases j0 : j = 0
  · subst j0; simp [updV, va_rf]
  · by_cases j1 : j = 1
    · subst j1; simp [updV, va_rf]
    · simp [updV, va_rf, j0, j1]
section MNB
variable {p : Program} {l : Launch} {e : Env} {R : Room} {s : State} {m : MethodId} {args : Array Value} {below : List Frame} {meth : Method} {c : Code} {H : Heap} {locs : List Loc} {cells slots : Nat} {Q : State → Prop}
theorem mn_stand {T : State} (Y : Stand p l e R s m args below meth c T locs cells slots) (cA cI : ClassId) : Stand p l e R s m args below meth c (mn_2 T cA cI) (locs ++ [⟨T.heap.size, 0⟩] ++ [⟨T.heap.size, 1⟩]) (cells + 1 + 1 + 1) (slots + 2 + 22 + 22) := by
  have Y1 := Y.pushed (mn_o0 cA)
  have Y2 := Y1.pushed (mn_in cI)
  have Y3 := Y2.stored (a := T.heap.size) (cell := mn_o0 cA) (by show ((T.heap.push (mn_o0 cA)).push (mn_in cI))[T.heap.size]? = some (mn_o0 cA); rw [Array.getElem?_push, if_neg (by simp), Array.getElem?_push, if_pos rfl]) 0 (.ref (T.heap.size + 1))
  have Y4 := Y3.pushed (mn_in cI)
  have z1 := mn_z1 T cA cI
  have Y5 := Y4.stored (a := T.heap.size) (cell := mn_o1 cA T.heap.size) (by
    show ((mn_1 T cA cI).heap.push (mn_in cI))[T.heap.size]? = _
    rw [Array.getElem?_push, if_neg (by rw [z1]; omega)]
    exact mn_a1 T cA cI) 1 (.ref (T.heap.size + 2))
  have s1 : (mn_o0 cA).slots.size = 2 := by simp [mn_o0]
  have s2 : (mn_in cI).slots.size = 22 := by simp [mn_in]
  rw [s1, s2] at Y5
  exact Y5
/-- the row -/
theorem mn_W {cc : ByteArray} {pc : Nat} {ls : Array Slot} {rest : List Value} {own : String} {idx : Nat} {cA cI ce : ClassId} {kA kI : Class} (hx : p.tables.exec = Jvm.exec) (hb : c.code = cc) (hown : s.vm.findClass own = some m.cls) (hcl : (Cond.classLink own idx "[[I").before args s = true) (hfA : s.vm.findClass "[[I" = some cA) (hkA : s.vm.classes[cA]? = some kA) (hkindA : kA.kind = .array cI (.array .int)) (hkI : s.vm.classes[cI]? = some kI) (hkindI : kI.kind = .array ce .int) (hcells : cells + 3 ≤ R.cells) (hslots : slots + 46 ≤ R.slots) (hdg : decode cc pc = .ok (.multianewarray idx 2, 4))
    (kk : ∀ H1 : Heap, H1.size = H.size + 3 → (∀ q, q < H.size → H1[q]? = H[q]?) → H1[H.size]? = some (mn_o2 cA H.size) → H1[H.size + 1]? = some (mn_in cI) → H1[H.size + 2]? = some (mn_in cI) → W p l e R s m args below meth c H1 (locs ++ [⟨H.size, 0⟩] ++ [⟨H.size, 1⟩]) (cells + 1 + 1 + 1) (slots + 2 + 22 + 22) Q (F0 m (pc + 4) ls (.ref H.size :: rest))) : W p l e R s m args below meth c H locs cells slots Q (F0 m pc ls (.int 22 :: .int 2 :: rest)) := by
  intro T hT Y
  subst hT; subst hb
  have hpl : e.platform.magicAccessors = ({} : Platform).magicAccessors := by rw [Y.admits.platform]
  obtain ⟨c0, hfc0, hlk⟩ := Cond.classLink_spec hown hcl e.platform hpl
  cases hfA.symm.trans hfc0
  obtain ⟨hg₁, hwarm₁, hready₁⟩ := State.classEntry (e := e) Y.warmed hlk
  generalize T.vm.noted m.cls idx (.cls cA) = vm₁ at hg₁ hwarm₁ hready₁
  obtain ⟨kA₁, hkA₁, heA⟩ := hwarm₁.alike.2.2 _ _ hkA
  obtain ⟨kI₁, hkI₁, heI⟩ := hwarm₁.alike.2.2 _ _ hkI
  have Y₁ := Y.noted hwarm₁
  have YF := mn_stand Y₁ cA cI
  obtain ⟨hr1, hr2⟩ := Y.roomAbove hcells hslots
  obtain ⟨t, a1, b1⟩ := kk (mn_2 (T.setVm vm₁) cA cI).heap (by simp [mn_2, mn_1, State.setCell]) (fun q hq => mn_old T vm₁ cA cI hq) (mn_at0 (T.setVm vm₁) cA cI) (mn_at1 (T.setVm vm₁) cA cI) (mn_at2 (T.setVm vm₁) cA cI) (mn_2 (T.setVm vm₁) cA cI) rfl YF
  · refine ⟨t, ?_, b1⟩
    have hl1 : ¬ 2 > e.platform.arrayLengthLimit := by rw [Launch.admits_arrayLengthLimit Y.admits]; omega
    have hl2 : ¬ 22 > e.platform.arrayLengthLimit := by rw [Launch.admits_arrayLengthLimit Y.admits]; omega
    have hh1 : ¬ 2 * componentBytes (.array .int) > e.platform.maxHeapBytes := by rw [Launch.admits_maxHeapBytes Y.admits]; decide
    have hh2 : ¬ 22 * componentBytes .int > e.platform.maxHeapBytes := by rw [Launch.admits_maxHeapBytes Y.admits]; decide
    jvm_step Y.here [hx, hdg]
    simp only [multianewarray.sem, wp_bind', W.resolveClassAt_links (State.method?_setTop (F0 m pc ls (.int 22 :: .int 2 :: rest)) Y.here.top) hg₁]
    rw [W.popN, if_neg (by decide)]
    refine ⟨F0 m pc ls (.int 22 :: .int 2 :: rest), State.topJava?_setTop' (s := T.setVm vm₁) _ Y.here.top, [.int 2, .int 22], rest, rfl, rfl, ?_⟩
    simp only [List.mapM_cons, List.mapM_nil, wp_bind', wp_pure']
    refine mn_both (kA := kA₁) (kI := kI₁) (cA := cA) (cI := cI) (cc := ce) hkA₁ (by rw [heA]; exact hkindA) hkI₁ (by rw [heI]; exact hkindI) hl2 hh2 hl1 hh1 (by show T.heap.size + 3 ≤ _; omega) (by show T.slotsUsed + 46 ≤ _; omega) (fun d' acts' => ?_)
    have eS : ((T.setTop (F0 m pc ls (.int 22 :: .int 2 :: rest))).setVm vm₁).setTop (F0 m pc ls rest) = (T.setVm vm₁).setTop (F0 m pc ls rest) := by
      show ((T.setVm vm₁).setTop _).setTop _ = _
      rw [State.setTop_setTop]
    rw [eS, mn_2_setTop]
    simp only [wp_bind', W.mark, W.pushRef, State.topJava?_setTop' _ YF.here.top, Option.some.injEq, exists_eq_left', State.setTop_setTop, State.heap_setTop]
    intro acts
    simp [jvm, YF.here.top]
    exact a1
end MNB
/-- new int[2][22] over the abstract state -/
theorem ab_mna22 {X : ab_C} {M : ab_Mt} {code : ab_Cd} {d bc bs bc2 bs2 pc : Nat} {lo : ab_Lo} {st : List Value} {h : ab_H} {Q : Option Value → ab_H → Prop} {idx len ci kf : Nat} {cv : Value} (hck : ab_ckM M code = true) (hf : ab_fetch code pc = some (.multianewarray idx 2, len, cv, ci, kf)) (hw : decide (Cond.classLink M.1.cls idx "[[I" ∈ lw_tbl) = true) (hw2 : decide (Cond.arrayClass .int ∈ lw_tbl) = true) (hb1 : 3 + bc2 ≤ bc ∧ 46 + bs2 ≤ bs)
    (k : ab_W X M d bc2 bs2 (pc + 4) lo (.ref (ab_NT + h.length) :: st) (h ++ [.inl (2, 2, .inr (.inr (.inr (.inr (fun q => if q = 0 then some (ab_NT + h.length + 1) else if q = 1 then some (ab_NT + h.length + 2) else none))))), .inl (0, 22, .inl (fun _ => 0)), .inl (0, 22, .inl (fun _ => 0))]) Q) : ab_W X M d bc bs pc lo (.int 22 :: .int 2 :: st) h Q := by
  obtain ⟨hdc, hc⟩ := ab_ck_at hck hf
  obtain rfl : len = 4 := eq_of_beq (show (len == 4) = true from hc)
  intro p e R s m args below meth c H locs cells slots ls F V
  have hk := fun H locs V => k p e R s m args below meth c H locs (cells + 1 + 1 + 1) (slots + 2 + 22 + 22) ls F V
  obtain ⟨hx, hb, hr, hml, hown, hts, hlk, hnm, hok, hfr, hlo⟩ := F
  obtain ⟨v1, v2, hS, hRel, hLR⟩ := V
  obtain ⟨kA, hkA, hkindA⟩ := hok.2.2.2.2.2
  have hfA : s.vm.findClass "[[I" = some (X.2.2.1 2) := (hok.1.2 2 _ rfl).2
  have hfI : s.vm.findClass "[I" = some (X.2.2.1 0) := (hok.1.2 0 _ rfl).2
  obtain ⟨cI', kI, ce, hfI', hkI, hkindI⟩ := Cond.arrayClass_spec (hts _ (ab_in (of_decide_eq_true hw2) rfl))
  cases hfI.symm.trans hfI'
  refine mn_W hx hb hown (hts _ (ab_in (of_decide_eq_true hw) rfl)) hfA hkA hkindA hkI hkindI (by omega) (by omega) hdc (fun H1 z1 o1 a0 a1 a2 => ?_)
  have e0 : ab_v X (.ref (ab_NT + h.length)) = .ref H.size := by
    rw [ab_ad_own (by omega), hRel.1]
    congr 2
    omega
  have hR1 : ab_Rel X (h ++ [.inl (2, 2, .inr (.inr (.inr (.inr (fun q => if q = 0 then some (ab_NT + h.length + 1) else if q = 1 then some (ab_NT + h.length + 2) else none))))), .inl (0, 22, .inl (fun _ => 0)), .inl (0, 22, .inl (fun _ => 0))]) H1 := by
    refine ⟨by rw [z1, hRel.1]; simp; omega, ?_⟩
    have ew : ∀ c1 c2 c3 : va_E, ab_ws X (h ++ [c1, c2, c3]) = ab_ws X h ++ [(ab_b X + h.length, ab_c X c1), (ab_b X + (h.length + 1), ab_c X c2), (ab_b X + (h.length + 2), ab_c X c3)] := by
      intro c1 c2 c3
      simp [ab_ws, List.mapIdx_append, Nat.add_comm]
    rw [ew]
    refine va_P.app (hRel.2.kept (fun k q hk => o1 q.1 (hRel.2 k q hk).lt)) (fun k q hk => ?_)
    have hz : k < 3 := (List.getElem?_eq_some_iff.mp hk).1
    rcases (show k = 0 ∨ k = 1 ∨ k = 2 by omega) with rfl | rfl | rfl
    · cases hk
      show H1[ab_b X + h.length]? = _
      rw [← hRel.1, a0, mn_o2_eq]
      show some (arrV (X.2.2.1 2) 2 _) = some (arrV (X.2.2.1 2) 2 (fun j => va_rf (Option.map (ab_ad X) (if j = 0 then some (ab_NT + h.length + 1) else if j = 1 then some (ab_NT + h.length + 2) else none))))
      refine congrArg some (congrArg (arrV _ _) (funext fun j => ?_))
      have f1 : ab_ad X (ab_NT + h.length + 1) = H.size + 1 := by unfold ab_ad; rw [if_neg (by omega), hRel.1]; omega
      have f2 : ab_ad X (ab_NT + h.length + 2) = H.size + 2 := by unfold ab_ad; rw [if_neg (by omega), hRel.1]; omega
      by_cases j0 : j = 0
      · subst j0; show va_rf (some (H.size + 1)) = va_rf (some (ab_ad X (ab_NT + h.length + 1))); rw [f1]
      · by_cases j1 : j = 1
        · subst j1; show va_rf (some (H.size + 2)) = va_rf (some (ab_ad X (ab_NT + h.length + 2))); rw [f2]
        · simp [j0, j1]
    · cases hk
      show H1[ab_b X + (h.length + 1)]? = _
      rw [show ab_b X + (h.length + 1) = H.size + 1 by rw [hRel.1]; omega, a1]
      exact congrArg some (arrV_new _ _ _)
    · cases hk
      show H1[ab_b X + (h.length + 2)]? = _
      rw [show ab_b X + (h.length + 2) = H.size + 2 by rw [hRel.1]; omega, a2]
      exact congrArg some (arrV_new _ _ _)
  have hS1 : va_S (ab_A X) s.heap H1 (locs ++ [⟨H.size, 0⟩] ++ [⟨H.size, 1⟩]) := by
    refine ⟨Nat.le_trans hS.1 (by omega), fun x h1 h2 => (o1 x (Nat.lt_of_lt_of_le h1 hS.1)).trans (hS.2.1 x h1 h2), fun q hq => ?_⟩
    have hb0 : ab_A X H.size := by show ab_b X ≤ H.size; rw [hRel.1]; omega
    rcases List.mem_append.mp hq with hq | hq
    · rcases List.mem_append.mp hq with hq | hq
      · exact hS.2.2 q hq
      · rw [List.mem_singleton.mp hq]; exact hb0
    · rw [List.mem_singleton.mp hq]; exact hb0
  have hkk := hk H1 (locs ++ [⟨H.size, 0⟩] ++ [⟨H.size, 1⟩]) ⟨by omega, by omega, hS1, hR1, hLR⟩
  rw [List.map_cons, e0] at hkk
  exact hkk
