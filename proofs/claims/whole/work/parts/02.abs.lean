/-! An abstract state of the machine (values whose references are places in a list of cells; locals by place; operand stack), and rows over it: a run of plain instructions is one computation; calls by contract. -/
def ab_tb : List Cond := lw_tbl.filter goodWord
theorem ab_in {w : Cond} (h : w ∈ lw_tbl) (hg : goodWord w = true) : w ∈ ab_tb := List.mem_filter.mpr ⟨h, hg⟩
def ab_isN (w : Cond) : Bool := match w with
  | .methodLinkNest .. => true
  | _ => false
def ab_nst : List Cond := lw_tbl.filter ab_isN
abbrev ab_C : Type := Launch × va_G × (Nat → ClassId) × Nat × (Nat → Nat) × List (Nat × (Nat → Int32))
abbrev ab_H : Type := List va_E
abbrev ab_Lo : Type := List (Option Value)
abbrev ab_Mt : Type := MethodName × ByteArray × Nat × Option FieldType
abbrev ab_J : Type := Instr × Nat × Value × Nat × Nat
def ab_tys (X : ab_C) : List (ClassId × FieldType) := [(X.2.2.1 0, .int), (X.2.2.1 1, .long), (X.2.2.1 2, .array .int)]
def ab_b (X : ab_C) : Nat := X.2.2.2.1
def ab_A (X : ab_C) : Nat → Prop := fun q => ab_b X ≤ q
def ab_ad (X : ab_C) (k : Nat) : Nat := if k < ab_NT then X.2.2.2.2.1 k else ab_b X + (k - ab_NT)
def ab_v (X : ab_C) (v : Value) : Value := match v with
  | .ref k => .ref (ab_ad X k)
  | .int x => .int x
  | .long x => .long x
  | .float x => .float x
  | .double x => .double x
  | .null => .null
  | .retAddr x => .retAddr x
def ab_c (X : ab_C) (c : va_E) : va_E := match c with
  | .inl (t, n, .inl f) => .inl (X.2.2.1 t, n, .inl f)
  | .inl (t, n, .inr (.inl f)) => .inl (X.2.2.1 t, n, .inr (.inl f))
  | .inl (t, n, .inr (.inr (.inl f))) => .inl (X.2.2.1 t, n, .inr (.inr (.inl f)))
  | .inl (t, n, .inr (.inr (.inr (.inl f)))) => .inl (X.2.2.1 t, n, .inr (.inr (.inr (.inl f))))
  | .inl (t, n, .inr (.inr (.inr (.inr f)))) => .inl (X.2.2.1 t, n, .inr (.inr (.inr (.inr (fun j => (f j).map (ab_ad X))))))
  | .inr (ci, fs) => .inr (ci, fs.map (ab_v X))
def ab_ws (X : ab_C) (h : ab_H) : va_W := h.mapIdx (fun k c => (ab_b X + k, ab_c X c))
def ab_Rel (X : ab_C) (h : ab_H) (H : Heap) : Prop := H.size = ab_b X + h.length ∧ va_P X.2.1 vwCl (ab_ws X h) H
def ab_Ok (X : ab_C) (U : State) : Prop := va_K X.2.1 vwCl (ab_tys X) U ∧ (∀ (j n : Nat) (f : Nat → Int32), X.2.2.2.2.2[j]? = some (n, f) → va_T .int (X.2.2.2.2.1 j) n (fun i => .int (f i)) (ab_A X) U U.heap) ∧ (∀ q ∈ ab_sts, va_Z q.1 q.2.1 q.2.2.1 (.ref (X.2.2.2.2.1 q.2.2.2)) (ab_A X) U U.heap) ∧ ab_b X ≤ U.heap.size ∧ (∀ w ∈ ab_nst, va_Nw w U) ∧ ∃ k : Class, U.vm.classes[X.2.2.1 2]? = some k ∧ k.kind = .array (X.2.2.1 0) (.array .int)
def ab_LR (X : ab_C) (ls : Array Slot) (n : Nat) (lo : ab_Lo) : Prop := lo.length = n ∧ ∃ lv : List (Nat × Value), lv_has ls n lv ∧ ∀ (i : Nat) (v : Value), lo[i]? = some (some v) → (i, ab_v X v) ∈ lv
def ab_Fx (X : ab_C) (M : ab_Mt) (d : Nat) (p : Program) (R : Room) (s : State) (m : MethodId) (args : Array Value) (meth : Method) (c : Code) : Prop :=
  p.tables.exec = Jvm.exec ∧ c.code = M.2.1 ∧ meth.sig.returnType = M.2.2.2 ∧ c.maxLocals = M.2.2.1 ∧ s.vm.findClass M.1.cls = some m.cls ∧ (∀ w ∈ ab_tb, w.before args s = true) ∧ meth.locks = false ∧ (M.1.name = "<init>" → meth.name = "<init>") ∧ ab_Ok X s ∧ d ≤ R.frames ∧ 36 * d ≤ R.locals
def ab_Mv (X : ab_C) (M : ab_Mt) (R : Room) (bc bs : Nat) (lo : ab_Lo) (h : ab_H) (s : State) (H : Heap) (locs : List Loc) (cells slots : Nat) (ls : Array Slot) : Prop :=
  cells + bc ≤ R.cells ∧ slots + bs ≤ R.slots ∧ va_S (ab_A X) s.heap H locs ∧ ab_Rel X h H ∧ ab_LR X ls M.2.2.1 lo
def ab_Q (X : ab_C) (Q : Option Value → ab_H → Prop) : Array Value → State → Outcome → State → Prop := fun _ s o t => ∃ (r : Option Value) (h : ab_H), o = .returned (r.map (ab_v X)) ∧ Q r h ∧ ab_Rel X h t.heap ∧ va_F (ab_A X) s t
/-- from this frame the method comes to its end, with an answer and a heap of which Q holds -/
def ab_W (X : ab_C) (M : ab_Mt) (d bc bs pc : Nat) (lo : ab_Lo) (st : List Value) (h : ab_H) (Q : Option Value → ab_H → Prop) : Prop :=
  ∀ (p : Program) (e : Env) (R : Room) (s : State) (m : MethodId) (args : Array Value) (below : List Frame) (meth : Method) (c : Code) (H : Heap) (locs : List Loc) (cells slots : Nat) (ls : Array Slot),
    ab_Fx X M d p R s m args meth c → ab_Mv X M R bc bs lo h s H locs cells slots ls →
    W p X.1 e R s m args below meth c H locs cells slots (MQ below (ab_Q X Q) args s R.cells R.slots (ab_A X)) (F0 m pc ls (st.map (ab_v X)))
def ab_wsM (M : ab_Mt) : List Cond := Cond.code M.1 M.2.1 M.2.2.1 M.2.2.2 :: ab_tb
/-- a method's contract: called with these values and this heap it returns, and Q holds of answer and heap -/
def ab_M (X : ab_C) (M : ab_Mt) (d bc bs : Nat) (as : List Value) (h : ab_H) (Q : Option Value → ab_H → Prop) : Prop :=
  Met X.1 M.1 (ab_wsM M) { frames := d, cells := bc, slots := bs, locals := 36 * d } (va_Pc (as.map (ab_v X)) (fun U => ab_Ok X U ∧ ab_Rel X h U.heap)) (ab_Q X Q) bc bs (ab_A X)

theorem ab_v_cat (X : ab_C) (v : Value) : (ab_v X v).category = v.category := by cases v <;> rfl
theorem ab_ws_get (X : ab_C) (h : ab_H) (k : Nat) : (ab_ws X h)[k]? = (h[k]?).map (fun c => (ab_b X + k, ab_c X c)) := by
  simp [ab_ws, List.getElem?_mapIdx]
theorem ab_ws_at {X : ab_C} {h : ab_H} {k : Nat} {c : va_E} (hk : h[k]? = some c) : (ab_ws X h)[k]? = some (ab_b X + k, ab_c X c) := by rw [ab_ws_get, hk]; rfl
theorem ab_ws_set (X : ab_C) (h : ab_H) (k : Nat) (c : va_E) : (ab_ws X h).set k (ab_b X + k, ab_c X c) = ab_ws X (h.set k c) := by
  apply List.ext_getElem?
  intro j
  rw [ab_ws_get]
  by_cases hj : k = j
  · subst hj
    by_cases hl : k < h.length
    · have hl' : k < (ab_ws X h).length := by simp [ab_ws, hl]
      rw [List.getElem?_set_self hl', List.getElem?_set_self hl]; rfl
    · have hl' : ¬ k < (ab_ws X h).length := by simp [ab_ws]; omega
      rw [List.getElem?_eq_none (by simp; omega), List.getElem?_eq_none (by simp; omega)]; rfl
  · rw [List.getElem?_set_ne hj, List.getElem?_set_ne hj, ab_ws_get]
theorem ab_ws_push (X : ab_C) (h : ab_H) (c : va_E) : ab_ws X h ++ [(ab_b X + h.length, ab_c X c)] = ab_ws X (h ++ [c]) := by
  simp [ab_ws, List.mapIdx_append]
theorem ab_ws_D (X : ab_C) (h : ab_H) : va_D (ab_A X) (ab_ws X h) := by
  refine ⟨fun i j p q hi hj e => ?_, fun k q hk => ?_⟩
  · rw [ab_ws_get] at hi hj
    cases hx : h[i]? with
    | none => rw [hx] at hi; cases hi
    | some x =>
      cases hy : h[j]? with
      | none => rw [hy] at hj; cases hj
      | some y =>
        rw [hx] at hi; rw [hy] at hj
        cases hi; cases hj
        have e' : ab_b X + i = ab_b X + j := e
        omega
  · rw [ab_ws_get] at hk
    cases hx : h[k]? with
    | none => rw [hx] at hk; cases hk
    | some x =>
      rw [hx] at hk; cases hk
      exact Nat.le_add_right _ _
theorem ab_LR.get {X : ab_C} {ls : Array Slot} {n : Nat} {lo : ab_Lo} (h : ab_LR X ls n lo) {i : Nat} {v : Value} (hi : lo[i]? = some (some v)) : ls[i]? = some (.val (ab_v X v)) := by
  obtain ⟨-, lv, h1, h2⟩ := h
  exact h1.2.2 _ (h2 i v hi)
/-- storing: the place before it is cleared if a long stands there -/
def ab_clr (lo : ab_Lo) (i : Nat) : ab_Lo := match i with
  | 0 => lo
  | j + 1 => match lo[j]? with
    | some (some v) => if v.category = 2 then lo.set j none else lo
    | _ => lo
def ab_set1 (lo : ab_Lo) (i : Nat) (v : Value) : ab_Lo := (ab_clr lo i).set i (some v)
def ab_set2 (lo : ab_Lo) (i : Nat) (v : Value) : ab_Lo := ((ab_clr lo i).set i (some v)).set (i + 1) none
theorem ab_clr_len (lo : ab_Lo) (i : Nat) : (ab_clr lo i).length = lo.length := by
  cases i with
  | zero => rfl
  | succ j =>
    simp only [ab_clr]
    split
    · split <;> simp
    · rfl
theorem ab_clr_get {lo : ab_Lo} {i j : Nat} {v : Value} (h : (ab_clr lo i)[j]? = some (some v)) : lo[j]? = some (some v) ∧ ¬ (j + 1 = i ∧ v.category = 2) := by
  cases i with
  | zero => exact ⟨h, fun q => by omega⟩
  | succ k =>
    simp only [ab_clr] at h
    split at h
    · rename_i w hw
      split at h
      · rename_i hc
        by_cases hj : k = j
        · subst hj
          have hl : k < lo.length := (List.getElem?_eq_some_iff.mp hw).1
          rw [List.getElem?_set_self hl] at h
          cases h
        · rw [List.getElem?_set_ne hj] at h
          exact ⟨h, fun q => by omega⟩
      · rename_i hc
        refine ⟨h, fun q => ?_⟩
        have hj : j = k := by omega
        subst hj
        rw [hw] at h
        cases h
        exact hc q.2
    · rename_i hn
      refine ⟨h, fun q => ?_⟩
      have hj : j = k := by omega
      subst hj
      exact hn v h
theorem ab_LR.of1 {X : ab_C} {ls : Array Slot} {n : Nat} {lo : ab_Lo} {lv : List (Nat × Value)} {i : Nat} {v : Value} (hn : lo.length = n) (h2 : ∀ (i : Nat) (v : Value), lo[i]? = some (some v) → (i, ab_v X v) ∈ lv) (hi : i < lo.length) (h' : lv_has ls n ((i, ab_v X v) :: lv.filter (fun q => !(q.1 == i) && !(q.1 + 1 == i && q.2.category == 2)))) : ab_LR X ls n (ab_set1 lo i v) := by
  refine ⟨by simp [ab_set1, ab_clr_len, hn], _, h', fun j w hw => ?_⟩
  unfold ab_set1 at hw
  by_cases hj : i = j
  · subst hj
    rw [List.getElem?_set_self (by rw [ab_clr_len]; omega)] at hw
    cases hw
    exact List.mem_cons_self
  · rw [List.getElem?_set_ne hj] at hw
    obtain ⟨g1, g2⟩ := ab_clr_get hw
    refine List.mem_cons_of_mem _ (List.mem_filter.mpr ⟨h2 j w g1, ?_⟩)
    have e1 : (j == i) = false := by simp; exact fun q => hj q.symm
    have e3 : (j + 1 == i && (ab_v X w).category == 2) = false := by
      by_cases hq : j + 1 = i
      · have hc : ¬ w.category = 2 := fun q => g2 ⟨hq, q⟩
        rw [ab_v_cat]
        simp [hc]
      · simp [hq]
    simp only [e1, e3, Bool.not_false, Bool.and_self]
theorem ab_LR.of2 {X : ab_C} {ls : Array Slot} {n : Nat} {lo : ab_Lo} {lv : List (Nat × Value)} {i : Nat} {v : Value} (hn : lo.length = n) (h2 : ∀ (i : Nat) (v : Value), lo[i]? = some (some v) → (i, ab_v X v) ∈ lv) (hi : i + 1 < lo.length) (h' : lv_has ls n ((i, ab_v X v) :: lv.filter (fun q => !(q.1 == i) && (!(q.1 == i + 1) && !(q.1 + 1 == i && q.2.category == 2))))) : ab_LR X ls n (ab_set2 lo i v) := by
  refine ⟨by simp [ab_set2, ab_clr_len, hn], _, h', fun j w hw => ?_⟩
  have hj1 : i + 1 ≠ j := by
    intro q
    subst q
    unfold ab_set2 at hw
    rw [List.getElem?_set_self (by simp [ab_clr_len]; omega)] at hw
    cases hw
  unfold ab_set2 at hw
  rw [List.getElem?_set_ne hj1] at hw
  by_cases hj : i = j
  · subst hj
    rw [List.getElem?_set_self (by rw [ab_clr_len]; omega)] at hw
    cases hw
    exact List.mem_cons_self
  · rw [List.getElem?_set_ne hj] at hw
    obtain ⟨g1, g2⟩ := ab_clr_get hw
    refine List.mem_cons_of_mem _ (List.mem_filter.mpr ⟨h2 j w g1, ?_⟩)
    have e1 : (j == i) = false := by simp; exact fun q => hj q.symm
    have e2 : (j == i + 1) = false := by simp; exact fun q => hj1 q.symm
    have e3 : (j + 1 == i && (ab_v X w).category == 2) = false := by
      by_cases hq : j + 1 = i
      · have hc : ¬ w.category = 2 := fun q => g2 ⟨hq, q⟩
        rw [ab_v_cat]
        simp [hc]
      · simp [hq]
    simp only [e1, e2, e3, Bool.not_false, Bool.and_self]
