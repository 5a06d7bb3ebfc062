/-! A method's entry, calls, new cells -/
theorem ab_goodIn {M : ab_Mt} (hM : Cond.code M.1 M.2.1 M.2.2.1 M.2.2.2 ∈ lw_tbl) : GoodIn ab_tb (ab_wsM M) := by
  intro w hw
  rcases List.mem_cons.mp hw with rfl | hw
  · exact ⟨ab_in hM rfl, good_of_word rfl⟩
  · exact ⟨hw, good_of_word (List.mem_filter.mp hw).2⟩
theorem ab_Nw_moved {u U : State} (hW : u.WarmedH U.vm) (h : ∀ w ∈ ab_nst, va_Nw w u) : ∀ w ∈ ab_nst, va_Nw w U := by
  intro w hw
  have h1 := h w hw
  have h2 := (List.mem_filter.mp hw).2
  unfold ab_isN at h2
  split at h2
  · exact va_Nw.warmM hW h1
  · cases h2
theorem ab_Ok.moved {X : ab_C} {u U : State} (hW : u.WarmedH U.vm) (hq : ∀ a : Nat, a < u.heap.size → ¬ ab_A X a → U.heap[a]? = u.heap[a]?) (hb : ab_b X ≤ U.heap.size) (h : ab_Ok X u) : ab_Ok X U := by
  refine ⟨va_K.moved hW.alike h.1, fun j n f hj => ((h.2.1 j n f hj).moved hW.alike).kept hq, fun q hq2 => ((h.2.2.1 q hq2).moved hW.alike).kept hq, hb, ab_Nw_moved hW h.2.2.2.2.1, ?_⟩
  obtain ⟨k, h1, h2⟩ := h.2.2.2.2.2
  obtain ⟨k', hk', he⟩ := hW.alike.2.2 _ _ h1
  exact ⟨k', hk', by rw [he]; exact h2⟩
theorem ab_blind {X : ab_C} {as : List Value} {h : ab_H} : FrameBlind (va_Pc (as.map (ab_v X)) (fun U => ab_Ok X U ∧ ab_Rel X h U.heap)) := by
  intro a U g mk q
  obtain ⟨q0, q1, q2⟩ := q
  exact ⟨q0, ab_Ok.moved (u := U) (U := U.calling g mk a) (State.WarmedH.refl U) (fun _ _ _ => rfl) q1.2.2.2.1 q1, q2⟩
def ab_lo0 (as : List Value) : ab_Lo := match as with
  | [] => []
  | v :: r => if v.category = 2 then some v :: none :: ab_lo0 r else some v :: ab_lo0 r
theorem ab_lo0_len {X : ab_C} (as : List Value) : (ab_lo0 as).length = (lg_sl (as.map (ab_v X))).length := by
  induction as with
  | nil => rfl
  | cons v r ih =>
    have e : lg_sl ((v :: r).map (ab_v X)) = (if (ab_v X v).category = 2 then [Slot.val (ab_v X v), .second] else [.val (ab_v X v)]) ++ lg_sl (r.map (ab_v X)) := rfl
    rw [e, ab_v_cat]
    unfold ab_lo0
    split
    · simp [ih]
    · simp [ih]
theorem ab_lo0_in {X : ab_C} (as : List Value) : ∀ (o i : Nat) (v : Value), (ab_lo0 as)[i]? = some (some v) → (o + i, ab_v X v) ∈ lv_args o (as.map (ab_v X)) := by
  induction as with
  | nil => intro o i v h; simp [ab_lo0] at h
  | cons w r ih =>
    intro o i v h
    rw [List.map_cons]
    unfold ab_lo0 at h
    unfold lv_args
    split at h
    · rename_i hw
      cases i with
      | zero => simp at h; subst h; exact List.mem_cons_self
      | succ i =>
        cases i with
        | zero => simp at h
        | succ i =>
          simp at h
          refine List.mem_cons_of_mem _ ?_
          have := ih (o + 2) i v h
          have e : o + (i + 1 + 1) = o + 2 + i := by omega
          rw [e]
          simpa [ab_v_cat, hw] using this
    · rename_i hw
      cases i with
      | zero => simp at h; subst h; exact List.mem_cons_self
      | succ i =>
        simp at h
        refine List.mem_cons_of_mem _ ?_
        have hc1 : w.category = 1 := (lv_cat w).resolve_right hw
        have := ih (o + 1) i v h
        have e : o + (i + 1) = o + 1 + i := by omega
        rw [e]
        simpa [ab_v_cat, hc1] using this
/-- a method's contract out of its body -/
theorem ab_entry {X : ab_C} {M : ab_Mt} {d bc bs : Nat} {as : List Value} {h : ab_H} {Q : Option Value → ab_H → Prop} (hy : plainName M.1.cls = true) (hn : (ab_lo0 as).length ≤ M.2.2.1)
    (k : ab_W X M d bc bs 0 (ab_lo0 as ++ List.replicate (M.2.2.1 - (ab_lo0 as).length) none) [] h Q) : ab_M X M d bc bs as h Q := by
  refine Met.ofW (cc := M.2.1) (maxL := M.2.2.1) (ret := M.2.2.2) hy rfl ?_
  intro p e s m args below meth c s₁ B hml hv
  obtain ⟨rfl, hok, hRel⟩ := hv
  have hts0 := atoms_spec (ws := ab_wsM M) B.pre
  have hts : ∀ w ∈ ab_tb, w.before _ s = true := fun w hw => hts0 w (List.mem_cons_of_mem _ hw)
  have hown : s.vm.findClass M.1.cls = some m.cls := findClass_of_methodNamed B.named
  have hl := lv_entry (as.map (ab_v X)) (n := M.2.2.1) (by rw [← ab_lo0_len]; exact hn)
  rw [lg_entry_eq]
  generalize hls : (lg_sl (as.map (ab_v X)) ++ List.replicate (M.2.2.1 - (lg_sl (as.map (ab_v X))).length) Slot.unset).toArray = ls at hl
  refine k p e _ s m _ below meth c s.heap [] 0 0 ls ⟨B.exec, B.bytes, B.returns, hml, hown, hts, B.notSynchronized, (fun q => (name_of_methodNamed B.named B.method).1.trans q), hok, Nat.le_refl _, Nat.le_refl _⟩ ⟨by show 0 + bc ≤ bc; omega, by show 0 + bs ≤ bs; omega, va_S.rf, hRel, ?_, _, hl, fun i v hi => ?_⟩
  · simp; omega
  · have hlt : i < (ab_lo0 as).length := by
      apply Decidable.byContradiction
      intro hge
      rw [List.getElem?_append_right (by omega)] at hi
      have := List.mem_of_getElem? hi
      rw [List.mem_replicate] at this
      exact absurd this.2 (by simp)
    rw [List.getElem?_append_left hlt] at hi
    have := ab_lo0_in (X := X) as 0 i v hi
    rwa [Nat.zero_add] at this
theorem ab_M.mono {X : ab_C} {M : ab_Mt} {d bc bs : Nat} {as : List Value} {h : ab_H} {Q Q' : Option Value → ab_H → Prop} (hq : ∀ r h, Q r h → Q' r h) (k : ab_M X M d bc bs as h Q) : ab_M X M d bc bs as h Q' := by
  intro p e ha hc hk s m args below hf hfit hP hK
  obtain ⟨t, o, a1, a2, a3, ⟨r, h', c1, c2, c3⟩, a5⟩ := k p e ha hc hk s m args below hf hfit hP hK
  exact ⟨t, o, a1, a2, a3, ⟨r, h', c1, hq _ _ c2, c3⟩, a5⟩
section ABC
variable {p : Program} {l : Launch} {e : Env} {R : Room} {s : State} {m : MethodId} {args : Array Value} {below : List Frame} {meth : Method} {c : Code} {H : Heap} {locs : List Loc} {cells slots : Nat} {Qw : State → Prop}
/-- behind a call -/
theorem ab_back {X : ab_C} {Q' : Option Value → ab_H → Prop} {mc ms pc : Nat} {ls : Array Slot} {st0 rest : List Value} {a : Array Value} (hr : va_Run p l e R s m args below meth c H locs cells slots mc ms (F0 m pc ls st0) rest (ab_Q X Q' a) (ab_A X)) (hS : va_S (ab_A X) s.heap H locs)
    (kk : ∀ (r : Option Value) (h' : ab_H) (H1 : Heap) (locs1 : List Loc), Q' r h' → ab_Rel X h' H1 → va_S (ab_A X) s.heap H1 locs1 → W p l e R s m args below meth c H1 locs1 (cells + mc) (slots + ms) Qw (F0 m (pc + 3) ls ((r.map (ab_v X)).toList ++ rest))) : W p l e R s m args below meth c H locs cells slots Qw (F0 m pc ls st0) := by
  intro T hT Z
  obtain ⟨v, st₀, t, T', L, h0, Z', hL, e1, e2, ⟨r, h', hv, hq, hRel, hz, hk⟩, st⟩ := hr T hT Z
  cases hv
  rw [h0] at hz hk
  obtain ⟨t2, a1, b1⟩ := kk r h' T'.heap (locs ++ L) hq (by rw [e1]; exact hRel)
    ⟨Nat.le_trans hS.1 (by rw [e1]; exact hz), fun q h1 h2 => by rw [e1, hk q (Nat.lt_of_lt_of_le h1 hS.1) h2]; exact hS.2.1 q h1 h2, fun q hq => by
      rcases List.mem_append.mp hq with h | h
      · exact hS.2.2 q h
      · exact hL q h⟩ T' rfl Z'
  exact ⟨t2, st t2 a1, b1⟩
end ABC
/-- the words of a method as a callee: kind 0 static, 1 virtual, 2 special; n arguments; places of the words 'initialized', 'static' or 'instanceMethod', 'selects' -/
def ab_mw (M : ab_Mt) (kind n i1 i2 i3 : Nat) : Bool :=
  ab_wd i1 (Cond.initialized M.1.cls) && decide (M.1.cls ≠ "java/lang/invoke/MethodHandle") && decide (M.1.cls ≠ "java/lang/invoke/VarHandle") && decide ((parseMethodDescriptor M.1.desc).map (fun d => d.parameters.length) = some n) && decide (M.2.2.1 ≤ 17) &&
  (match kind with
    | 0 => ab_wd i2 (Cond.static M.1)
    | 1 => ab_wd i2 (Cond.instanceMethod M.1) && ab_wd i3 (Cond.selects M.1.cls M.1 M.1)
    | _ => ab_wd i2 (Cond.instanceMethod M.1) && M.1.name == "<init>")
/-- what they say -/
def ab_MW (M : ab_Mt) (kind n : Nat) : Prop := Cond.initialized M.1.cls ∈ lw_tbl ∧ M.1.cls ≠ "java/lang/invoke/MethodHandle" ∧ M.1.cls ≠ "java/lang/invoke/VarHandle" ∧ (parseMethodDescriptor M.1.desc).map (fun d => d.parameters.length) = some n ∧ Cond.code M.1 M.2.1 M.2.2.1 M.2.2.2 ∈ lw_tbl ∧ M.2.2.1 ≤ 17 ∧
  (match kind with
    | 0 => Cond.static M.1 ∈ lw_tbl
    | 1 => Cond.instanceMethod M.1 ∈ lw_tbl ∧ Cond.selects M.1.cls M.1 M.1 ∈ lw_tbl
    | _ => Cond.instanceMethod M.1 ∈ lw_tbl ∧ M.1.name = "<init>")
theorem ab_t1 {w : Cond} (h : w ∈ tables_1_1) : w ∈ lw_tbl := List.mem_append_right _ (List.mem_append_left _ h)
theorem ab_t2 {w : Cond} (h : w ∈ tables_1_2) : w ∈ lw_tbl := List.mem_append_right _ (List.mem_append_right _ (List.mem_append_left _ h))
theorem ab_t3 {w : Cond} (h : w ∈ tables_1_3) : w ∈ lw_tbl := List.mem_append_right _ (List.mem_append_right _ (List.mem_append_right _ (List.mem_append_left _ h)))
theorem ab_t4 {w : Cond} (h : w ∈ tables_1_4) : w ∈ lw_tbl := List.mem_append_right _ (List.mem_append_right _ (List.mem_append_right _ (List.mem_append_right _ (List.mem_append_left _ h))))
theorem ab_t5 {w : Cond} (h : w ∈ tables_1_5) : w ∈ lw_tbl := List.mem_append_right _ (List.mem_append_right _ (List.mem_append_right _ (List.mem_append_right _ (List.mem_append_right _ h))))
theorem ab_ck_app {M : ab_Mt} {a b : ab_Cd} (h1 : ab_ckM M a = true) (h2 : ab_ckM M b = true) : ab_ckM M (a ++ b) = true := by
  unfold ab_ckM at *
  rw [List.all_append, h1, h2]; rfl
theorem ab_mw_ok {M : ab_Mt} {kind n i1 i2 i3 : Nat} (h : ab_mw M kind n i1 i2 i3 = true) (hcode : Cond.code M.1 M.2.1 M.2.2.1 M.2.2.2 ∈ lw_tbl) : ab_MW M kind n := by
  unfold ab_mw at h
  simp only [Bool.and_eq_true, decide_eq_true_eq] at h
  obtain ⟨⟨⟨⟨⟨h1, h2⟩, h3⟩, h4⟩, h6⟩, h7⟩ := h
  refine ⟨ab_wd_in h1, h2, h3, h4, hcode, h6, ?_⟩
  split at h7
  · exact ab_wd_in h7
  · simp only [Bool.and_eq_true] at h7
    exact ⟨ab_wd_in h7.1, ab_wd_in h7.2⟩
  · simp only [Bool.and_eq_true, beq_iff_eq] at h7
    exact ⟨ab_wd_in h7.1, h7.2⟩
/-- the link of a call: the word at place (ab_ti cv); ci 1: a nest mate's -/
def ab_lk (own : String) (idx ci : Nat) (cv : Value) (y : MethodName) : Bool := if ci = 1 then ab_hosts.any (fun ho => ab_wd (ab_ti cv) (Cond.methodLinkNest own idx y ho)) else ab_wd (ab_ti cv) (Cond.methodLink own idx y)
theorem ab_lk_inv {own : String} {idx ci : Nat} {cv : Value} {y : MethodName} (h : ab_lk own idx ci cv y = true) : Cond.methodLink own idx y ∈ lw_tbl ∨ ∃ ho, Cond.methodLinkNest own idx y ho ∈ lw_tbl := by
  unfold ab_lk at h
  split at h
  · obtain ⟨ho, -, h⟩ := List.any_eq_true.mp h
    exact Or.inr ⟨ho, ab_wd_in h⟩
  · exact Or.inl (ab_wd_in h)
theorem ab_cat_sum (X : ab_C) (rest : List Value) : ((rest.map (ab_v X)).map fun v => v.category).sum = (rest.map fun v => v.category).sum := by
  induction rest with
  | nil => rfl
  | cons v r ih => simp only [List.map_cons, List.sum_cons, ih, ab_v_cat]
section ABD
variable {X : ab_C} {M M' : ab_Mt} {code : ab_Cd} {d d' bc bs bc' bs' bc2 bs2 pc : Nat} {lo : ab_Lo} {rest as : List Value} {h : ab_H} {Q Q' : Option Value → ab_H → Prop} {idx n len ci kf : Nat} {cv : Value}
theorem ab_pre {s : State} {args : Array Value} {H : Heap} {locs : List Loc} (hok : ab_Ok X s) (hS : va_S (ab_A X) s.heap H locs) (hRel : ab_Rel X h H) : PreS s H (va_Pc (as.map (ab_v X)) (fun U => ab_Ok X U ∧ ab_Rel X h U.heap)) (as.map (ab_v X)) := by
  refine ⟨ab_blind, fun U hU hW => ⟨rfl, ab_Ok.moved hW (fun a h1 h2 => ?_) ?_ hok, by rw [hU]; exact hRel⟩⟩
  · rw [hU]; exact hS.2.1 a h1 h2
  · rw [hU]; exact Nat.le_trans hok.2.2.2.1 hS.1
theorem ab_rev (X : ab_C) (as rest : List Value) : (as.reverse ++ rest).map (ab_v X) = (as.map (ab_v X)).reverse ++ rest.map (ab_v X) := by simp
/-- invokestatic -/
theorem ab_callS (hck : ab_ckM M code = true) (hf : ab_fetch code pc = some (.invokestatic idx, len, cv, ci, kf)) (hw : ab_lk M.1.cls idx ci cv M'.1 = true) (hmw : ab_MW M' 0 as.length) (hM : ab_M X M' d' bc' bs' as h Q') (hd : d' + 1 ≤ d) (hb1 : bc' + bc2 ≤ bc ∧ bs' + bs2 ≤ bs) (hrest : (rest.map fun v => v.category).sum ≤ 8)
    (k : ∀ r h', Q' r h' → ab_W X M d bc2 bs2 (pc + 3) lo (r.toList ++ rest) h' Q) : ab_W X M d bc bs pc lo (as.reverse ++ rest) h Q := by
  obtain ⟨hdc, hc⟩ := ab_ck_at hck hf
  obtain rfl : len = 3 := eq_of_beq (show (len == 3) = true from hc)
  intro p e R s m args below meth c H locs cells slots ls F V
  have hk := fun r h' hq H locs V => k r h' hq p e R s m args below meth c H locs (cells + bc') (slots + bs') ls F V
  obtain ⟨hx, hb, hr, hml, hown, hts, hlk, hnm, hok, hfr, hlo⟩ := F
  obtain ⟨v1, v2, hS, hRel, hLR⟩ := V
  have hl := ab_lk_inv hw
  obtain ⟨hini, hm1, hm2, hpl, hcm, hml2, hstat⟩ := hmw
  have hstat : Cond.static M'.1 ∈ lw_tbl := hstat
  rw [ab_rev]
  have hroom : 2 * (F0 m pc ls ((as.map (ab_v X)).reverse ++ rest.map (ab_v X))).monitorRoom + ((rest.map (ab_v X)).map fun v => v.category).sum ≤ 8 := lv_room (by rw [ab_cat_sum]; exact hrest)
  have hsz : ls.size = M.2.2.1 := by obtain ⟨-, lv, g, -⟩ := hLR; exact g.1
  have fin : ∀ (r : Option Value) (h' : ab_H) (H1 : Heap) (locs1 : List Loc), Q' r h' → ab_Rel X h' H1 → va_S (ab_A X) s.heap H1 locs1 → W p X.1 e R s m args below meth c H1 locs1 (cells + bc') (slots + bs') (MQ below (ab_Q X Q) args s R.cells R.slots (ab_A X)) (F0 m (pc + 3) ls ((r.map (ab_v X)).toList ++ rest.map (ab_v X))) := by
    intro r h' H1 locs1 hq hR1 hS1
    have := hk r h' hq H1 locs1 ⟨by omega, by omega, hS1, hR1, hLR⟩
    rw [List.map_append] at this
    cases r with
    | none => exact this
    | some v => exact this
  rcases hl with hl | ⟨ho, hl⟩
  · exact ab_back (va_runS (As := as.map (ab_v X)) (rest := rest.map (ab_v X)) ⟨hx, hb, hml, hown, hts⟩ hM ⟨callB_of as.length hts (ab_goodIn hcm) rfl rfl rfl (hts _ (ab_in hini rfl)) (hts _ (ab_in hl rfl)) ⟨hm1, hm2, hpl⟩ ⟨by show d' + 1 ≤ R.frames; omega, by show 8 + (M'.2.2.1 + 11) + 36 * d' ≤ R.locals; omega⟩, hts _ (ab_in hstat rfl)⟩ (ab_pre (args := args) hok hS hRel) rfl (by rw [List.length_map]) hsz rfl hroom hdc ⟨by omega, by omega⟩) hS fin
  · exact ab_back (va_runSN (As := as.map (ab_v X)) (rest := rest.map (ab_v X)) ⟨hx, hb, hml, hown, hts⟩ hM ⟨va_cnB as.length hts (ab_goodIn hcm) rfl rfl rfl (hok.2.2.2.2.1 _ (List.mem_filter.mpr ⟨hl, rfl⟩)) (hts _ (ab_in hini rfl)) ⟨hm1, hm2, hpl⟩ ⟨by show d' + 1 ≤ R.frames; omega, by show 8 + (M'.2.2.1 + 11) + 36 * d' ≤ R.locals; omega⟩, hts _ (ab_in hstat rfl), trivial⟩ (ab_pre (args := args) hok hS hRel) rfl (by rw [List.length_map]) hsz rfl hroom hdc ⟨by omega, by omega⟩) hS fin
/-- invokevirtual, the receiver an object of the class that has the method -/
theorem ab_callV {b cix : Nat} {fs : List Value} (hck : ab_ckM M code = true) (hf : ab_fetch code pc = some (.invokevirtual idx, len, cv, ci, kf)) (hw : ab_lk M.1.cls idx ci cv M'.1 = true) (hmw : ab_MW M' 1 as.length) (hM : ab_M X M' d' bc' bs' (.ref b :: as) h Q') (hob : ab_at h b = some (.inr (cix, fs))) (hcx : (vwCl[cix]?).map (fun q => q.1) = some M'.1.cls) (hd : d' + 1 ≤ d) (hb1 : bc' + bc2 ≤ bc ∧ bs' + bs2 ≤ bs) (hrest : (rest.map fun v => v.category).sum ≤ 8)
    (k : ∀ r h', Q' r h' → ab_W X M d bc2 bs2 (pc + 3) lo (r.toList ++ rest) h' Q) : ab_W X M d bc bs pc lo (as.reverse ++ .ref b :: rest) h Q := by
  obtain ⟨hdc, hc⟩ := ab_ck_at hck hf
  obtain rfl : len = 3 := eq_of_beq (show (len == 3) = true from hc)
  obtain ⟨hbn, hob1⟩ := ab_at_own hob
  intro p e R s m args below meth c H locs cells slots ls F V
  have hk := fun r h' hq H locs V => k r h' hq p e R s m args below meth c H locs (cells + bc') (slots + bs') ls F V
  obtain ⟨hx, hb, hr, hml, hown, hts, hlk, hnm, hok, hfr, hlo⟩ := F
  obtain ⟨v1, v2, hS, hRel, hLR⟩ := V
  have hl := ab_lk_inv hw
  obtain ⟨hini, hm1, hm2, hpl, hcm, hml2, hiv⟩ := hmw
  obtain ⟨hinst, hsel⟩ : Cond.instanceMethod M'.1 ∈ lw_tbl ∧ Cond.selects M'.1.cls M'.1 M'.1 ∈ lw_tbl := hiv
  rw [ab_rev, List.map_cons]
  have hroom : 2 * (F0 m pc ls ((as.map (ab_v X)).reverse ++ ab_v X (.ref b) :: rest.map (ab_v X))).monitorRoom + ((rest.map (ab_v X)).map fun v => v.category).sum ≤ 8 := lv_room (by rw [ab_cat_sum]; exact hrest)
  have hsz : ls.size = M.2.2.1 := by obtain ⟨-, lv, g, -⟩ := hLR; exact g.1
  have fin : ∀ (r : Option Value) (h' : ab_H) (H1 : Heap) (locs1 : List Loc), Q' r h' → ab_Rel X h' H1 → va_S (ab_A X) s.heap H1 locs1 → W p X.1 e R s m args below meth c H1 locs1 (cells + bc') (slots + bs') (MQ below (ab_Q X Q) args s R.cells R.slots (ab_A X)) (F0 m (pc + 3) ls ((r.map (ab_v X)).toList ++ rest.map (ab_v X))) := by
    intro r h' H1 locs1 hq hR1 hS1
    have := hk r h' hq H1 locs1 ⟨by omega, by omega, hS1, hR1, hLR⟩
    rw [List.map_append] at this
    cases r with
    | none => exact this
    | some v => exact this
  obtain ⟨q, hq1, hq2⟩ : ∃ q, vwCl[cix]? = some q ∧ q.1 = M'.1.cls := by
    cases hq : vwCl[cix]? with
    | none => rw [hq] at hcx; cases hcx
    | some q => rw [hq] at hcx; exact ⟨q, rfl, Option.some.inj hcx⟩
  have hrecv := va_recv hok.1 hRel.2 hq1 (ab_ws_at hob1)
  rw [hq2] at hrecv
  have hpre := ab_pre (X := X) (h := h) (as := .ref b :: as) (args := args) hok hS hRel
  have e0 : ab_v X (.ref b) = .ref (ab_b X + (b - ab_NT)) := ab_ad_own hbn
  rw [List.map_cons] at hpre
  have hM2 : Met X.1 M'.1 (ab_wsM M') { frames := d', cells := bc', slots := bs', locals := 36 * d' } (va_Pc (ab_v X (.ref b) :: as.map (ab_v X)) (fun U => ab_Ok X U ∧ ab_Rel X h U.heap)) (ab_Q X Q') bc' bs' (ab_A X) := hM
  rw [e0] at hpre hM2 ⊢
  rw [e0] at hroom
  rcases hl with hl | ⟨ho, hl⟩
  · exact ab_back (va_runV (C := M'.1.cls) (As := as.map (ab_v X)) (rest := rest.map (ab_v X)) ⟨hx, hb, hml, hown, hts⟩ hM2 ⟨callB_of as.length hts (ab_goodIn hcm) rfl rfl rfl (hts _ (ab_in hini rfl)) (hts _ (ab_in hl rfl)) ⟨hm1, hm2, hpl⟩ ⟨by show d' + 1 ≤ R.frames; omega, by show 8 + (M'.2.2.1 + 11) + 36 * d' ≤ R.locals; omega⟩, hts _ (ab_in hinst rfl), hts _ (ab_in hsel rfl)⟩ ⟨hpre.1, hrecv, hpre.2⟩ rfl (by rw [List.length_map]) hsz rfl hroom hdc ⟨by omega, by omega⟩) hS fin
  · exact ab_back (va_runVN (C := M'.1.cls) (As := as.map (ab_v X)) (rest := rest.map (ab_v X)) ⟨hx, hb, hml, hown, hts⟩ hM2 ⟨va_cnB as.length hts (ab_goodIn hcm) rfl rfl rfl (hok.2.2.2.2.1 _ (List.mem_filter.mpr ⟨hl, rfl⟩)) (hts _ (ab_in hini rfl)) ⟨hm1, hm2, hpl⟩ ⟨by show d' + 1 ≤ R.frames; omega, by show 8 + (M'.2.2.1 + 11) + 36 * d' ≤ R.locals; omega⟩, hts _ (ab_in hinst rfl), hts _ (ab_in hsel rfl)⟩ ⟨hpre.1, hrecv, hpre.2⟩ rfl (by rw [List.length_map]) hsz rfl hroom hdc ⟨by omega, by omega⟩) hS fin
/-- invokespecial: a constructor -/
theorem ab_callI {b : Nat} (hck : ab_ckM M code = true) (hf : ab_fetch code pc = some (.invokespecial idx, len, cv, ci, kf)) (hw : ab_lk M.1.cls idx ci cv M'.1 = true) (hmw : ab_MW M' 2 as.length) (hret : M'.2.2.2 = none) (hM : ab_M X M' d' bc' bs' (.ref b :: as) h Q') (hbn : ¬ b < ab_NT) (hd : d' + 1 ≤ d) (hb1 : bc' + bc2 ≤ bc ∧ bs' + bs2 ≤ bs) (hrest : (rest.map fun v => v.category).sum ≤ 8)
    (k : ∀ r h', Q' r h' → ab_W X M d bc2 bs2 (pc + 3) lo (r.toList ++ rest) h' Q) : ab_W X M d bc bs pc lo (as.reverse ++ .ref b :: rest) h Q := by
  obtain ⟨hdc, hc⟩ := ab_ck_at hck hf
  obtain rfl : len = 3 := eq_of_beq (show (len == 3) = true from hc)
  obtain ⟨y', cc', ml', ret'⟩ := M'
  dsimp only at hret
  subst hret
  intro p e R s m args below meth c H locs cells slots ls F V
  have hk := fun r h' hq H locs V => k r h' hq p e R s m args below meth c H locs (cells + bc') (slots + bs') ls F V
  obtain ⟨hx, hb, hr, hml, hown, hts, hlk, hnm, hok, hfr, hlo⟩ := F
  obtain ⟨v1, v2, hS, hRel, hLR⟩ := V
  have hl := ab_lk_inv hw
  obtain ⟨hini, hm1, hm2, hpl, hcm, hml2, hiv⟩ := hmw
  obtain ⟨hinst, hyi⟩ : Cond.instanceMethod y' ∈ lw_tbl ∧ y'.name = "<init>" := hiv
  dsimp only at hini hm1 hm2 hpl hcm hml2 hl
  rw [ab_rev, List.map_cons]
  have hroom : 2 * (F0 m pc ls ((as.map (ab_v X)).reverse ++ ab_v X (.ref b) :: rest.map (ab_v X))).monitorRoom + ((rest.map (ab_v X)).map fun v => v.category).sum ≤ 8 := lv_room (by rw [ab_cat_sum]; exact hrest)
  have hsz : ls.size = M.2.2.1 := by obtain ⟨-, lv, g, -⟩ := hLR; exact g.1
  have fin : ∀ (r : Option Value) (h' : ab_H) (H1 : Heap) (locs1 : List Loc), Q' r h' → ab_Rel X h' H1 → va_S (ab_A X) s.heap H1 locs1 → W p X.1 e R s m args below meth c H1 locs1 (cells + bc') (slots + bs') (MQ below (ab_Q X Q) args s R.cells R.slots (ab_A X)) (F0 m (pc + 3) ls ((r.map (ab_v X)).toList ++ rest.map (ab_v X))) := by
    intro r h' H1 locs1 hq hR1 hS1
    have := hk r h' hq H1 locs1 ⟨by omega, by omega, hS1, hR1, hLR⟩
    rw [List.map_append] at this
    cases r with
    | none => exact this
    | some v => exact this
  have hpre := ab_pre (X := X) (h := h) (as := .ref b :: as) (args := args) hok hS hRel
  have e0 : ab_v X (.ref b) = .ref (ab_b X + (b - ab_NT)) := ab_ad_own hbn
  rw [List.map_cons] at hpre
  have hM2 : Met X.1 y' (ab_wsM (y', cc', ml', none)) { frames := d', cells := bc', slots := bs', locals := 36 * d' } (va_Pc (ab_v X (.ref b) :: as.map (ab_v X)) (fun U => ab_Ok X U ∧ ab_Rel X h U.heap)) (ab_Q X Q') bc' bs' (ab_A X) := hM
  rw [e0] at hpre hM2 ⊢
  rw [e0] at hroom
  rcases hl with hl | ⟨ho, hl⟩
  · exact ab_back (va_runI (As := as.map (ab_v X)) (rest := rest.map (ab_v X)) ⟨hx, hb, hml, hown, hts⟩ hM2 ⟨callB_of as.length hts (ab_goodIn hcm) rfl rfl rfl (hts _ (ab_in hini rfl)) (hts _ (ab_in hl rfl)) ⟨hm1, hm2, hpl⟩ ⟨by show d' + 1 ≤ R.frames; omega, by show 8 + (ml' + 11) + 36 * d' ≤ R.locals; omega⟩, hyi, hts _ (ab_in hinst rfl)⟩ hpre rfl (by rw [List.length_map]) hsz rfl hroom hdc ⟨by omega, by omega⟩) hS fin
  · exact ab_back (va_runIN (As := as.map (ab_v X)) (rest := rest.map (ab_v X)) ⟨hx, hb, hml, hown, hts⟩ hM2 ⟨va_cnB as.length hts (ab_goodIn hcm) rfl rfl rfl (hok.2.2.2.2.1 _ (List.mem_filter.mpr ⟨hl, rfl⟩)) (hts _ (ab_in hini rfl)) ⟨hm1, hm2, hpl⟩ ⟨by show d' + 1 ≤ R.frames; omega, by show 8 + (ml' + 11) + 36 * d' ≤ R.locals; omega⟩, hyi, hts _ (ab_in hinst rfl)⟩ hpre rfl (by rw [List.length_map]) hsz rfl hroom hdc ⟨by omega, by omega⟩) hS fin
end ABD
