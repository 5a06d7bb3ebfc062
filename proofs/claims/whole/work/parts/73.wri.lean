/-! The channel: refusals and writes -/
theorem r158 {r : cs_S} {k : Nat} (hk : k < 30) (n v : Int32) : fR_refusal_158 r (nI k) n v = if rv k (fR_cut v n) = 0 then fR_refusal_208 r (nI k) (fR_cut v n) else some (rv k (fR_cut v n)) := by
  unfold fR_refusal_158 rv
  rw [if_pos (inb_nI hk (by decide)), nI_clamp (by omega)]
  by_cases a : fR_cut v n ≤ mdMost k
  · rw [if_pos a, if_pos a]
    by_cases b : mdLeast k ≤ fR_cut v n
    · rw [if_pos b, if_pos b]
      by_cases e : k = 18
      · subst e
        rw [if_pos (show nI 18 = 18 from rfl), if_pos (show 18 = 18 from rfl)]
        by_cases d : fR_cut v n = 2
        · rw [if_pos d, if_pos d, if_neg (by decide)]
        · rw [if_neg d, if_neg d, if_pos rfl]
      · rw [if_neg (show ¬ nI k = 18 from fun z => e ((nI_eq (b := 18) (by omega) (by decide)).mp z)), if_neg e, if_pos rfl]
    · rw [if_neg b, if_neg b, if_neg (by decide)]
  · rw [if_neg a, if_neg a, if_neg (by decide)]
def LK (c r : cs_S) (k : Nat) (n v w : Int32) : Prop := (fS_refusalOfWrite c (nI k) n w = some 134217762 ∧ fR_refusal r (nI k) n v = some 134217762) ∨ (fS_refusalOfWrite c (nI k) n w = some (rv k w) ∧ fR_refusal r (nI k) n v = fR_refusal_158 r (nI k) n v ∧ (6 ≤ k → k ≤ 8 → r.1 1 5 = 0) ∧ (13 ≤ k → k ≤ 15 → r.1 1 12 = 0))
def cWf (c : cs_S) (k : Nat) (n w : Int32) : Option Int32 := if n = mdBytes k then ab_bd (fS_isWrittenNow c (nI k)) (fun p3 => if p3 = 0 then some 134217762 else ab_bd (fN_refusalOfValue (nI k) w) (fun p4 => some p4)) else some 101122064
theorem cW_open {c : cs_S} {k : Nat} {n w : Int32} (hk : k < 30) (h0 : k ≠ 0) (h17 : k ≠ 17) (e : fS_refusalOfWrite c (nI k) n w = cWf c k n w) (hn : n = mdBytes k) (hw : fS_isWrittenNow c (nI k) = some 1) : fS_refusalOfWrite c (nI k) n w = some (rv k w) := by
  rw [e]
  unfold cWf
  rw [if_pos hn, hw, ab_bd_s, if_neg (by decide), cC_value hk h0 h17, ab_bd_s]
theorem cW_shut {c : cs_S} {k : Nat} {n w : Int32} (e : fS_refusalOfWrite c (nI k) n w = cWf c k n w) (hn : n = mdBytes k) (hw : fS_isWrittenNow c (nI k) = some 0) : fS_refusalOfWrite c (nI k) n w = some 134217762 := by
  rw [e]
  unfold cWf
  rw [if_pos hn, hw, ab_bd_s, if_pos rfl]
theorem cW3 (c : cs_S) (n w : Int32) : fS_refusalOfWrite c (nI 3) n w = cWf c 3 n w := rfl
theorem cW4 (c : cs_S) (n w : Int32) : fS_refusalOfWrite c (nI 4) n w = cWf c 4 n w := rfl
theorem cW9 (c : cs_S) (n w : Int32) : fS_refusalOfWrite c (nI 9) n w = cWf c 9 n w := rfl
theorem cW10 (c : cs_S) (n w : Int32) : fS_refusalOfWrite c (nI 10) n w = cWf c 10 n w := rfl
theorem cW11 (c : cs_S) (n w : Int32) : fS_refusalOfWrite c (nI 11) n w = cWf c 11 n w := rfl
theorem cW16 (c : cs_S) (n w : Int32) : fS_refusalOfWrite c (nI 16) n w = cWf c 16 n w := rfl
theorem cW18 (c : cs_S) (n w : Int32) : fS_refusalOfWrite c (nI 18) n w = cWf c 18 n w := rfl
theorem cW22 (c : cs_S) (n w : Int32) : fS_refusalOfWrite c (nI 22) n w = cWf c 22 n w := rfl
theorem cW26 (c : cs_S) (n w : Int32) : fS_refusalOfWrite c (nI 26) n w = cWf c 26 n w := rfl
theorem cW29 (c : cs_S) (n w : Int32) : fS_refusalOfWrite c (nI 29) n w = cWf c 29 n w := rfl
theorem cW20 (c : cs_S) (n w : Int32) : fS_refusalOfWrite c (nI 20) n w = cWf c 20 n w := rfl
theorem cW23 (c : cs_S) (n w : Int32) : fS_refusalOfWrite c (nI 23) n w = cWf c 23 n w := rfl
theorem cW24 (c : cs_S) (n w : Int32) : fS_refusalOfWrite c (nI 24) n w = cWf c 24 n w := rfl
theorem cW25 (c : cs_S) (n w : Int32) : fS_refusalOfWrite c (nI 25) n w = cWf c 25 n w := rfl
theorem cW27 (c : cs_S) (n w : Int32) : fS_refusalOfWrite c (nI 27) n w = cWf c 27 n w := rfl
theorem cW28 (c : cs_S) (n w : Int32) : fS_refusalOfWrite c (nI 28) n w = cWf c 28 n w := rfl
theorem cW5 (c : cs_S) (n w : Int32) : fS_refusalOfWrite c (nI 5) n w = cWf c 5 n w := rfl
theorem cW12 (c : cs_S) (n w : Int32) : fS_refusalOfWrite c (nI 12) n w = cWf c 12 n w := rfl
theorem cW6 (c : cs_S) (n w : Int32) : fS_refusalOfWrite c (nI 6) n w = cWf c 6 n w := rfl
theorem cW7 (c : cs_S) (n w : Int32) : fS_refusalOfWrite c (nI 7) n w = cWf c 7 n w := rfl
theorem cW8 (c : cs_S) (n w : Int32) : fS_refusalOfWrite c (nI 8) n w = cWf c 8 n w := rfl
theorem cW13 (c : cs_S) (n w : Int32) : fS_refusalOfWrite c (nI 13) n w = cWf c 13 n w := rfl
theorem cW14 (c : cs_S) (n w : Int32) : fS_refusalOfWrite c (nI 14) n w = cWf c 14 n w := rfl
theorem cW15 (c : cs_S) (n w : Int32) : fS_refusalOfWrite c (nI 15) n w = cWf c 15 n w := rfl
theorem rW3 (r : cs_S) (n v : Int32) : fR_refusal r (nI 3) n v = if n = mdBytes 3 then fR_refusal_158 r (nI 3) n v else some 101122064 := rfl
theorem rW4 (r : cs_S) (n v : Int32) : fR_refusal r (nI 4) n v = if n = mdBytes 4 then fR_refusal_158 r (nI 4) n v else some 101122064 := rfl
theorem rW9 (r : cs_S) (n v : Int32) : fR_refusal r (nI 9) n v = if n = mdBytes 9 then fR_refusal_158 r (nI 9) n v else some 101122064 := rfl
theorem rW10 (r : cs_S) (n v : Int32) : fR_refusal r (nI 10) n v = if n = mdBytes 10 then fR_refusal_158 r (nI 10) n v else some 101122064 := rfl
theorem rW11 (r : cs_S) (n v : Int32) : fR_refusal r (nI 11) n v = if n = mdBytes 11 then fR_refusal_158 r (nI 11) n v else some 101122064 := rfl
theorem rW16 (r : cs_S) (n v : Int32) : fR_refusal r (nI 16) n v = if n = mdBytes 16 then fR_refusal_158 r (nI 16) n v else some 101122064 := rfl
theorem rW18 (r : cs_S) (n v : Int32) : fR_refusal r (nI 18) n v = if n = mdBytes 18 then fR_refusal_158 r (nI 18) n v else some 101122064 := rfl
theorem rW22 (r : cs_S) (n v : Int32) : fR_refusal r (nI 22) n v = if n = mdBytes 22 then fR_refusal_158 r (nI 22) n v else some 101122064 := rfl
theorem rW26 (r : cs_S) (n v : Int32) : fR_refusal r (nI 26) n v = if n = mdBytes 26 then fR_refusal_158 r (nI 26) n v else some 101122064 := rfl
theorem rW29 (r : cs_S) (n v : Int32) : fR_refusal r (nI 29) n v = if n = mdBytes 29 then fR_refusal_158 r (nI 29) n v else some 101122064 := rfl
theorem rW20 (r : cs_S) (n v : Int32) : fR_refusal r (nI 20) n v = if n = mdBytes 20 then (if fR_stage r = 0 then fR_refusal_158 r (nI 20) n v else some 134217762) else some 101122064 := rfl
theorem rW23 (r : cs_S) (n v : Int32) : fR_refusal r (nI 23) n v = if n = mdBytes 23 then (if fR_stage r = 0 then fR_refusal_158 r (nI 23) n v else some 134217762) else some 101122064 := rfl
theorem rW24 (r : cs_S) (n v : Int32) : fR_refusal r (nI 24) n v = if n = mdBytes 24 then (if fR_stage r = 0 then fR_refusal_158 r (nI 24) n v else some 134217762) else some 101122064 := rfl
theorem rW25 (r : cs_S) (n v : Int32) : fR_refusal r (nI 25) n v = if n = mdBytes 25 then (if fR_stage r = 0 then fR_refusal_158 r (nI 25) n v else some 134217762) else some 101122064 := rfl
theorem rW27 (r : cs_S) (n v : Int32) : fR_refusal r (nI 27) n v = if n = mdBytes 27 then (if fR_stage r = 0 then fR_refusal_158 r (nI 27) n v else some 134217762) else some 101122064 := rfl
theorem rW28 (r : cs_S) (n v : Int32) : fR_refusal r (nI 28) n v = if n = mdBytes 28 then (if fR_stage r = 0 then fR_refusal_158 r (nI 28) n v else some 134217762) else some 101122064 := rfl
theorem rW5 (r : cs_S) (n v : Int32) : fR_refusal r (nI 5) n v = if n = mdBytes 5 then (if r.1 0 5 = 127 then fR_refusal_158 r (nI 5) n v else some 134217762) else some 101122064 := rfl
theorem rW12 (r : cs_S) (n v : Int32) : fR_refusal r (nI 12) n v = if n = mdBytes 12 then (if r.1 0 5 = 127 then fR_refusal_158 r (nI 12) n v else some 134217762) else some 101122064 := rfl
theorem rW6 (r : cs_S) (n v : Int32) : fR_refusal r (nI 6) n v = if n = mdBytes 6 then (if r.1 1 5 = 0 then (if r.1 0 5 = 127 then fR_refusal_158 r (nI 6) n v else some 134217762) else (if r.1 0 5 = 127 then some 134217762 else some 134217762)) else some 101122064 := rfl
theorem rW7 (r : cs_S) (n v : Int32) : fR_refusal r (nI 7) n v = if n = mdBytes 7 then (if r.1 1 5 = 0 then (if r.1 0 5 = 127 then fR_refusal_158 r (nI 7) n v else some 134217762) else (if r.1 0 5 = 127 then some 134217762 else some 134217762)) else some 101122064 := rfl
theorem rW8 (r : cs_S) (n v : Int32) : fR_refusal r (nI 8) n v = if n = mdBytes 8 then (if r.1 1 5 = 0 then (if r.1 0 5 = 127 then fR_refusal_158 r (nI 8) n v else some 134217762) else (if r.1 0 5 = 127 then some 134217762 else some 134217762)) else some 101122064 := rfl
theorem rW13 (r : cs_S) (n v : Int32) : fR_refusal r (nI 13) n v = if n = mdBytes 13 then (if r.1 1 12 = 0 then (if r.1 0 5 = 127 then fR_refusal_158 r (nI 13) n v else some 134217762) else (if r.1 0 5 = 127 then some 134217762 else some 134217762)) else some 101122064 := rfl
theorem rW14 (r : cs_S) (n v : Int32) : fR_refusal r (nI 14) n v = if n = mdBytes 14 then (if r.1 1 12 = 0 then (if r.1 0 5 = 127 then fR_refusal_158 r (nI 14) n v else some 134217762) else (if r.1 0 5 = 127 then some 134217762 else some 134217762)) else some 101122064 := rfl
theorem rW15 (r : cs_S) (n v : Int32) : fR_refusal r (nI 15) n v = if n = mdBytes 15 then (if r.1 1 12 = 0 then (if r.1 0 5 = 127 then fR_refusal_158 r (nI 15) n v else some 134217762) else (if r.1 0 5 = 127 then some 134217762 else some 134217762)) else some 101122064 := rfl
theorem rW1 (r : cs_S) (n v : Int32) : fR_refusal r (nI 1) n v = if n = mdBytes 1 then (if v = 1702257011 then (if r.1 0 2 ≤ 0 then fR_refusal_158 r (nI 1) n v else some 134217762) else some 134217760) else some 101122064 := rfl
theorem cW1 (c : cs_S) (n w : Int32) : fS_refusalOfWrite c (nI 1) n w = if n = mdBytes 1 then some (fS_refusalOfSave c w 1702257011) else some 101122064 := rfl
theorem rW2 (r : cs_S) (n v : Int32) : fR_refusal r (nI 2) n v = if n = mdBytes 2 then (if v = 1684107116 then (if r.1 0 2 ≤ 0 then fR_refusal_158 r (nI 2) n v else some 134217762) else some 134217760) else some 101122064 := rfl
theorem cW2 (c : cs_S) (n w : Int32) : fS_refusalOfWrite c (nI 2) n w = if n = mdBytes 2 then some (fS_refusalOfSave c w 1684107116) else some 101122064 := rfl
theorem rW0 (r : cs_S) (n v : Int32) : fR_refusal r (nI 0) n v = some 100728834 := rfl
theorem cW0 (c : cs_S) (n w : Int32) : fS_refusalOfWrite c (nI 0) n w = some 100728834 := rfl
theorem rW17 (r : cs_S) (n v : Int32) : fR_refusal r (nI 17) n v = some 100728834 := rfl
theorem cW17 (c : cs_S) (n w : Int32) : fS_refusalOfWrite c (nI 17) n w = some 100728834 := rfl
theorem rW19 (r : cs_S) (n v : Int32) : fR_refusal r (nI 19) n v = some 100728834 := rfl
theorem cW19 (c : cs_S) (n w : Int32) : fS_refusalOfWrite c (nI 19) n w = some 100728834 := rfl
theorem rW21 (r : cs_S) (n v : Int32) : fR_refusal r (nI 21) n v = some 100728834 := rfl
theorem cW21 (c : cs_S) (n w : Int32) : fS_refusalOfWrite c (nI 21) n w = some 100728834 := rfl
theorem lk3 {tp ts : Nat} {g : Int32 × Int32 × Int32} {c r : cs_S} (h : LRt tp ts g c r) {n v w : Int32} (hn : n = mdBytes 3) : LK c r 3 n v w :=
  Or.inr ⟨cW_open (by decide) (by decide) (by decide) (cW3 c n w) hn rfl, by rw [rW3, if_pos hn], (fun a b => by omega), (fun a b => by omega)⟩
theorem lk4 {tp ts : Nat} {g : Int32 × Int32 × Int32} {c r : cs_S} (h : LRt tp ts g c r) {n v w : Int32} (hn : n = mdBytes 4) : LK c r 4 n v w :=
  Or.inr ⟨cW_open (by decide) (by decide) (by decide) (cW4 c n w) hn rfl, by rw [rW4, if_pos hn], (fun a b => by omega), (fun a b => by omega)⟩
theorem lk9 {tp ts : Nat} {g : Int32 × Int32 × Int32} {c r : cs_S} (h : LRt tp ts g c r) {n v w : Int32} (hn : n = mdBytes 9) : LK c r 9 n v w :=
  Or.inr ⟨cW_open (by decide) (by decide) (by decide) (cW9 c n w) hn rfl, by rw [rW9, if_pos hn], (fun a b => by omega), (fun a b => by omega)⟩
theorem lk10 {tp ts : Nat} {g : Int32 × Int32 × Int32} {c r : cs_S} (h : LRt tp ts g c r) {n v w : Int32} (hn : n = mdBytes 10) : LK c r 10 n v w :=
  Or.inr ⟨cW_open (by decide) (by decide) (by decide) (cW10 c n w) hn rfl, by rw [rW10, if_pos hn], (fun a b => by omega), (fun a b => by omega)⟩
theorem lk11 {tp ts : Nat} {g : Int32 × Int32 × Int32} {c r : cs_S} (h : LRt tp ts g c r) {n v w : Int32} (hn : n = mdBytes 11) : LK c r 11 n v w :=
  Or.inr ⟨cW_open (by decide) (by decide) (by decide) (cW11 c n w) hn rfl, by rw [rW11, if_pos hn], (fun a b => by omega), (fun a b => by omega)⟩
theorem lk16 {tp ts : Nat} {g : Int32 × Int32 × Int32} {c r : cs_S} (h : LRt tp ts g c r) {n v w : Int32} (hn : n = mdBytes 16) : LK c r 16 n v w :=
  Or.inr ⟨cW_open (by decide) (by decide) (by decide) (cW16 c n w) hn rfl, by rw [rW16, if_pos hn], (fun a b => by omega), (fun a b => by omega)⟩
theorem lk18 {tp ts : Nat} {g : Int32 × Int32 × Int32} {c r : cs_S} (h : LRt tp ts g c r) {n v w : Int32} (hn : n = mdBytes 18) : LK c r 18 n v w :=
  Or.inr ⟨cW_open (by decide) (by decide) (by decide) (cW18 c n w) hn rfl, by rw [rW18, if_pos hn], (fun a b => by omega), (fun a b => by omega)⟩
theorem lk22 {tp ts : Nat} {g : Int32 × Int32 × Int32} {c r : cs_S} (h : LRt tp ts g c r) {n v w : Int32} (hn : n = mdBytes 22) : LK c r 22 n v w :=
  Or.inr ⟨cW_open (by decide) (by decide) (by decide) (cW22 c n w) hn rfl, by rw [rW22, if_pos hn], (fun a b => by omega), (fun a b => by omega)⟩
theorem lk26 {tp ts : Nat} {g : Int32 × Int32 × Int32} {c r : cs_S} (h : LRt tp ts g c r) {n v w : Int32} (hn : n = mdBytes 26) : LK c r 26 n v w :=
  Or.inr ⟨cW_open (by decide) (by decide) (by decide) (cW26 c n w) hn rfl, by rw [rW26, if_pos hn], (fun a b => by omega), (fun a b => by omega)⟩
theorem lk29 {tp ts : Nat} {g : Int32 × Int32 × Int32} {c r : cs_S} (h : LRt tp ts g c r) {n v w : Int32} (hn : n = mdBytes 29) : LK c r 29 n v w :=
  Or.inr ⟨cW_open (by decide) (by decide) (by decide) (cW29 c n w) hn rfl, by rw [rW29, if_pos hn], (fun a b => by omega), (fun a b => by omega)⟩
theorem lk20 {tp ts : Nat} {g : Int32 × Int32 × Int32} {c r : cs_S} (h : LRt tp ts g c r) {n v w : Int32} (hn : n = mdBytes 20) : LK c r 20 n v w := by
  have e : fS_isWrittenNow c (nI 20) = if fP_isStageOn c = 0 then some 1 else some 0 := rfl
  rw [stg h] at e
  by_cases a : fR_stage r = 0
  · rw [if_pos a] at e
    exact Or.inr ⟨cW_open (by decide) (by decide) (by decide) (cW20 c n w) hn e, by rw [rW20, if_pos hn, if_pos a], (fun a b => by omega), (fun a b => by omega)⟩
  · rw [if_neg a] at e
    exact Or.inl ⟨cW_shut (cW20 c n w) hn e, by rw [rW20, if_pos hn, if_neg a]⟩
theorem lk23 {tp ts : Nat} {g : Int32 × Int32 × Int32} {c r : cs_S} (h : LRt tp ts g c r) {n v w : Int32} (hn : n = mdBytes 23) : LK c r 23 n v w := by
  have e : fS_isWrittenNow c (nI 23) = if fP_isStageOn c = 0 then some 1 else some 0 := rfl
  rw [stg h] at e
  by_cases a : fR_stage r = 0
  · rw [if_pos a] at e
    exact Or.inr ⟨cW_open (by decide) (by decide) (by decide) (cW23 c n w) hn e, by rw [rW23, if_pos hn, if_pos a], (fun a b => by omega), (fun a b => by omega)⟩
  · rw [if_neg a] at e
    exact Or.inl ⟨cW_shut (cW23 c n w) hn e, by rw [rW23, if_pos hn, if_neg a]⟩
theorem lk24 {tp ts : Nat} {g : Int32 × Int32 × Int32} {c r : cs_S} (h : LRt tp ts g c r) {n v w : Int32} (hn : n = mdBytes 24) : LK c r 24 n v w := by
  have e : fS_isWrittenNow c (nI 24) = if fP_isStageOn c = 0 then some 1 else some 0 := rfl
  rw [stg h] at e
  by_cases a : fR_stage r = 0
  · rw [if_pos a] at e
    exact Or.inr ⟨cW_open (by decide) (by decide) (by decide) (cW24 c n w) hn e, by rw [rW24, if_pos hn, if_pos a], (fun a b => by omega), (fun a b => by omega)⟩
  · rw [if_neg a] at e
    exact Or.inl ⟨cW_shut (cW24 c n w) hn e, by rw [rW24, if_pos hn, if_neg a]⟩
theorem lk25 {tp ts : Nat} {g : Int32 × Int32 × Int32} {c r : cs_S} (h : LRt tp ts g c r) {n v w : Int32} (hn : n = mdBytes 25) : LK c r 25 n v w := by
  have e : fS_isWrittenNow c (nI 25) = if fP_isStageOn c = 0 then some 1 else some 0 := rfl
  rw [stg h] at e
  by_cases a : fR_stage r = 0
  · rw [if_pos a] at e
    exact Or.inr ⟨cW_open (by decide) (by decide) (by decide) (cW25 c n w) hn e, by rw [rW25, if_pos hn, if_pos a], (fun a b => by omega), (fun a b => by omega)⟩
  · rw [if_neg a] at e
    exact Or.inl ⟨cW_shut (cW25 c n w) hn e, by rw [rW25, if_pos hn, if_neg a]⟩
theorem lk27 {tp ts : Nat} {g : Int32 × Int32 × Int32} {c r : cs_S} (h : LRt tp ts g c r) {n v w : Int32} (hn : n = mdBytes 27) : LK c r 27 n v w := by
  have e : fS_isWrittenNow c (nI 27) = if fP_isStageOn c = 0 then some 1 else some 0 := rfl
  rw [stg h] at e
  by_cases a : fR_stage r = 0
  · rw [if_pos a] at e
    exact Or.inr ⟨cW_open (by decide) (by decide) (by decide) (cW27 c n w) hn e, by rw [rW27, if_pos hn, if_pos a], (fun a b => by omega), (fun a b => by omega)⟩
  · rw [if_neg a] at e
    exact Or.inl ⟨cW_shut (cW27 c n w) hn e, by rw [rW27, if_pos hn, if_neg a]⟩
theorem lk28 {tp ts : Nat} {g : Int32 × Int32 × Int32} {c r : cs_S} (h : LRt tp ts g c r) {n v w : Int32} (hn : n = mdBytes 28) : LK c r 28 n v w := by
  have e : fS_isWrittenNow c (nI 28) = if fP_isStageOn c = 0 then some 1 else some 0 := rfl
  rw [stg h] at e
  by_cases a : fR_stage r = 0
  · rw [if_pos a] at e
    exact Or.inr ⟨cW_open (by decide) (by decide) (by decide) (cW28 c n w) hn e, by rw [rW28, if_pos hn, if_pos a], (fun a b => by omega), (fun a b => by omega)⟩
  · rw [if_neg a] at e
    exact Or.inl ⟨cW_shut (cW28 c n w) hn e, by rw [rW28, if_pos hn, if_neg a]⟩
theorem lk5 {tp ts : Nat} {g : Int32 × Int32 × Int32} {c r : cs_S} (h : LRt tp ts g c r) {n v w : Int32} (hn : n = mdBytes 5) : LK c r 5 n v w := by
  have e : fS_isWrittenNow c (nI 5) = if c.1 0 1 = 127 then some 1 else some 0 := rfl
  rw [h.1.nt] at e
  by_cases a : r.1 0 5 = 127
  · rw [if_pos a] at e
    exact Or.inr ⟨cW_open (by decide) (by decide) (by decide) (cW5 c n w) hn e, by rw [rW5, if_pos hn, if_pos a], (fun a b => by omega), (fun a b => by omega)⟩
  · rw [if_neg a] at e
    exact Or.inl ⟨cW_shut (cW5 c n w) hn e, by rw [rW5, if_pos hn, if_neg a]⟩
theorem lk12 {tp ts : Nat} {g : Int32 × Int32 × Int32} {c r : cs_S} (h : LRt tp ts g c r) {n v w : Int32} (hn : n = mdBytes 12) : LK c r 12 n v w := by
  have e : fS_isWrittenNow c (nI 12) = if c.1 0 1 = 127 then some 1 else some 0 := rfl
  rw [h.1.nt] at e
  by_cases a : r.1 0 5 = 127
  · rw [if_pos a] at e
    exact Or.inr ⟨cW_open (by decide) (by decide) (by decide) (cW12 c n w) hn e, by rw [rW12, if_pos hn, if_pos a], (fun a b => by omega), (fun a b => by omega)⟩
  · rw [if_neg a] at e
    exact Or.inl ⟨cW_shut (cW12 c n w) hn e, by rw [rW12, if_pos hn, if_neg a]⟩
theorem lk6 {tp ts : Nat} {g : Int32 × Int32 × Int32} {c r : cs_S} (h : LRt tp ts g c r) {n v w : Int32} (hn : n = mdBytes 6) : LK c r 6 n v w := by
  have e : fS_isWrittenNow c (nI 6) = if c.1 0 1 = 127 then (if c.1 1 5 = 0 then some 1 else some 0) else some 0 := rfl
  rw [h.1.nt, h.1.ve 5 (by decide) (by decide)] at e
  by_cases a : r.1 0 5 = 127
  · rw [if_pos a] at e
    by_cases b : r.1 1 5 = 0
    · rw [if_pos b] at e
      exact Or.inr ⟨cW_open (by decide) (by decide) (by decide) (cW6 c n w) hn e, by rw [rW6, if_pos hn, if_pos b, if_pos a], (fun _ _ => b), (fun a b => by omega)⟩
    · rw [if_neg b] at e
      exact Or.inl ⟨cW_shut (cW6 c n w) hn e, by rw [rW6, if_pos hn, if_neg b, if_pos a]⟩
  · rw [if_neg a] at e
    refine Or.inl ⟨cW_shut (cW6 c n w) hn e, ?_⟩
    rw [rW6, if_pos hn]
    by_cases b : r.1 1 5 = 0
    · rw [if_pos b, if_neg a]
    · rw [if_neg b, if_neg a]
theorem lk7 {tp ts : Nat} {g : Int32 × Int32 × Int32} {c r : cs_S} (h : LRt tp ts g c r) {n v w : Int32} (hn : n = mdBytes 7) : LK c r 7 n v w := by
  have e : fS_isWrittenNow c (nI 7) = if c.1 0 1 = 127 then (if c.1 1 5 = 0 then some 1 else some 0) else some 0 := rfl
  rw [h.1.nt, h.1.ve 5 (by decide) (by decide)] at e
  by_cases a : r.1 0 5 = 127
  · rw [if_pos a] at e
    by_cases b : r.1 1 5 = 0
    · rw [if_pos b] at e
      exact Or.inr ⟨cW_open (by decide) (by decide) (by decide) (cW7 c n w) hn e, by rw [rW7, if_pos hn, if_pos b, if_pos a], (fun _ _ => b), (fun a b => by omega)⟩
    · rw [if_neg b] at e
      exact Or.inl ⟨cW_shut (cW7 c n w) hn e, by rw [rW7, if_pos hn, if_neg b, if_pos a]⟩
  · rw [if_neg a] at e
    refine Or.inl ⟨cW_shut (cW7 c n w) hn e, ?_⟩
    rw [rW7, if_pos hn]
    by_cases b : r.1 1 5 = 0
    · rw [if_pos b, if_neg a]
    · rw [if_neg b, if_neg a]
theorem lk8 {tp ts : Nat} {g : Int32 × Int32 × Int32} {c r : cs_S} (h : LRt tp ts g c r) {n v w : Int32} (hn : n = mdBytes 8) : LK c r 8 n v w := by
  have e : fS_isWrittenNow c (nI 8) = if c.1 0 1 = 127 then (if c.1 1 5 = 0 then some 1 else some 0) else some 0 := rfl
  rw [h.1.nt, h.1.ve 5 (by decide) (by decide)] at e
  by_cases a : r.1 0 5 = 127
  · rw [if_pos a] at e
    by_cases b : r.1 1 5 = 0
    · rw [if_pos b] at e
      exact Or.inr ⟨cW_open (by decide) (by decide) (by decide) (cW8 c n w) hn e, by rw [rW8, if_pos hn, if_pos b, if_pos a], (fun _ _ => b), (fun a b => by omega)⟩
    · rw [if_neg b] at e
      exact Or.inl ⟨cW_shut (cW8 c n w) hn e, by rw [rW8, if_pos hn, if_neg b, if_pos a]⟩
  · rw [if_neg a] at e
    refine Or.inl ⟨cW_shut (cW8 c n w) hn e, ?_⟩
    rw [rW8, if_pos hn]
    by_cases b : r.1 1 5 = 0
    · rw [if_pos b, if_neg a]
    · rw [if_neg b, if_neg a]
theorem lk13 {tp ts : Nat} {g : Int32 × Int32 × Int32} {c r : cs_S} (h : LRt tp ts g c r) {n v w : Int32} (hn : n = mdBytes 13) : LK c r 13 n v w := by
  have e : fS_isWrittenNow c (nI 13) = if c.1 0 1 = 127 then (if c.1 1 12 = 0 then some 1 else some 0) else some 0 := rfl
  rw [h.1.nt, h.1.ve 12 (by decide) (by decide)] at e
  by_cases a : r.1 0 5 = 127
  · rw [if_pos a] at e
    by_cases b : r.1 1 12 = 0
    · rw [if_pos b] at e
      exact Or.inr ⟨cW_open (by decide) (by decide) (by decide) (cW13 c n w) hn e, by rw [rW13, if_pos hn, if_pos b, if_pos a], (fun a b => by omega), (fun _ _ => b)⟩
    · rw [if_neg b] at e
      exact Or.inl ⟨cW_shut (cW13 c n w) hn e, by rw [rW13, if_pos hn, if_neg b, if_pos a]⟩
  · rw [if_neg a] at e
    refine Or.inl ⟨cW_shut (cW13 c n w) hn e, ?_⟩
    rw [rW13, if_pos hn]
    by_cases b : r.1 1 12 = 0
    · rw [if_pos b, if_neg a]
    · rw [if_neg b, if_neg a]
theorem lk14 {tp ts : Nat} {g : Int32 × Int32 × Int32} {c r : cs_S} (h : LRt tp ts g c r) {n v w : Int32} (hn : n = mdBytes 14) : LK c r 14 n v w := by
  have e : fS_isWrittenNow c (nI 14) = if c.1 0 1 = 127 then (if c.1 1 12 = 0 then some 1 else some 0) else some 0 := rfl
  rw [h.1.nt, h.1.ve 12 (by decide) (by decide)] at e
  by_cases a : r.1 0 5 = 127
  · rw [if_pos a] at e
    by_cases b : r.1 1 12 = 0
    · rw [if_pos b] at e
      exact Or.inr ⟨cW_open (by decide) (by decide) (by decide) (cW14 c n w) hn e, by rw [rW14, if_pos hn, if_pos b, if_pos a], (fun a b => by omega), (fun _ _ => b)⟩
    · rw [if_neg b] at e
      exact Or.inl ⟨cW_shut (cW14 c n w) hn e, by rw [rW14, if_pos hn, if_neg b, if_pos a]⟩
  · rw [if_neg a] at e
    refine Or.inl ⟨cW_shut (cW14 c n w) hn e, ?_⟩
    rw [rW14, if_pos hn]
    by_cases b : r.1 1 12 = 0
    · rw [if_pos b, if_neg a]
    · rw [if_neg b, if_neg a]
theorem lk15 {tp ts : Nat} {g : Int32 × Int32 × Int32} {c r : cs_S} (h : LRt tp ts g c r) {n v w : Int32} (hn : n = mdBytes 15) : LK c r 15 n v w := by
  have e : fS_isWrittenNow c (nI 15) = if c.1 0 1 = 127 then (if c.1 1 12 = 0 then some 1 else some 0) else some 0 := rfl
  rw [h.1.nt, h.1.ve 12 (by decide) (by decide)] at e
  by_cases a : r.1 0 5 = 127
  · rw [if_pos a] at e
    by_cases b : r.1 1 12 = 0
    · rw [if_pos b] at e
      exact Or.inr ⟨cW_open (by decide) (by decide) (by decide) (cW15 c n w) hn e, by rw [rW15, if_pos hn, if_pos b, if_pos a], (fun a b => by omega), (fun _ _ => b)⟩
    · rw [if_neg b] at e
      exact Or.inl ⟨cW_shut (cW15 c n w) hn e, by rw [rW15, if_pos hn, if_neg b, if_pos a]⟩
  · rw [if_neg a] at e
    refine Or.inl ⟨cW_shut (cW15 c n w) hn e, ?_⟩
    rw [rW15, if_pos hn]
    by_cases b : r.1 1 12 = 0
    · rw [if_pos b, if_neg a]
    · rw [if_neg b, if_neg a]
def WOK (r : cs_S) (k : Nat) (w e : Int32) : Prop := ((k = 1 ∨ k = 2) ∧ e = 0) ∨ (3 ≤ k ∧ k ≠ 5 ∧ k ≠ 12 ∧ k ≠ 17 ∧ k ≠ 19 ∧ k ≠ 21 ∧ e = 0 ∧ rv k w = 0 ∧ (6 ≤ k → k ≤ 8 → r.1 1 5 = 0) ∧ (13 ≤ k → k ≤ 15 → r.1 1 12 = 0)) ∨ ((k = 5 ∨ k = 12) ∧ ∃ m, m ≤ 3 ∧ w = nI m ∧ e = entL k (r.1 1) m 1 0)
def RF (c r : cs_S) (k : Nat) (n v w : Int32) : Prop := ∃ e, fR_refusal r (nI k) n v = some e ∧ ((e ≠ 0 ∧ fS_refusalOfWrite c (nI k) n w = some e) ∨ (fS_refusalOfWrite c (nI k) n w = some 0 ∧ w = fR_cut v n ∧ WOK r k w e))
theorem rf_n {c r : cs_S} {k : Nat} {n v w : Int32} (a : fR_refusal r (nI k) n v = some 101122064) (b : fS_refusalOfWrite c (nI k) n w = some 101122064) : RF c r k n v w := ⟨_, a, Or.inl ⟨by decide, b⟩⟩
theorem rf_p {c r : cs_S} {k : Nat} {n v w : Int32} (hk : k < 30) (h3 : 3 ≤ k) (h5 : k ≠ 5) (h12 : k ≠ 12) (h17 : k ≠ 17) (h19 : k ≠ 19) (h21 : k ≠ 21) (hw : w = fR_cut v n) (h : LK c r k n v w) : RF c r k n v w := by
  rcases h with ⟨a, b⟩ | ⟨a, b, d1, d2⟩
  · exact ⟨_, b, Or.inl ⟨by decide, a⟩⟩
  · rw [r158 hk, ← hw] at b
    by_cases z : rv k w = 0
    · rw [if_pos z] at b
      unfold fR_refusal_208 at b
      rw [if_neg (show ¬ nI k = 5 from fun z => h5 ((nI_eq (b := 5) (by omega) (by decide)).mp z)), if_neg (show ¬ nI k = 12 from fun z => h12 ((nI_eq (b := 12) (by omega) (by decide)).mp z))] at b
      rw [z] at a
      exact ⟨0, b, Or.inr ⟨a, hw, Or.inr (Or.inl ⟨h3, h5, h12, h17, h19, h21, rfl, z, d1, d2⟩)⟩⟩
    · rw [if_neg z] at b
      exact ⟨_, b, Or.inl ⟨z, a⟩⟩
theorem rf_c {c r : cs_S} {k : Nat} {n v w : Int32} (hk : k = 5 ∨ k = 12) (hw : w = fR_cut v n) (h : LK c r k n v w) : RF c r k n v w := by
  rcases h with ⟨a, b⟩ | ⟨a, b, d1, d2⟩
  · exact ⟨_, b, Or.inl ⟨by decide, a⟩⟩
  · rw [r158 (by omega), ← hw] at b
    by_cases z : rv k w = 0
    · obtain ⟨z1, z2, _⟩ := rv_0 z
      obtain ⟨m, hm, hm'⟩ : ∃ m, m ≤ 3 ∧ w = nI m := by
        rw [Int32.le_iff_toInt_le] at z1 z2
        rcases hk with rfl | rfl
        · exact rg_nI (b := 3) (by decide) ⟨z2, z1⟩
        · exact rg_nI (b := 3) (by decide) ⟨z2, z1⟩
      rw [if_pos z] at b
      rw [z] at a
      have en : fR_refusal_208 r (nI k) w = some (entL k (r.1 1) m 1 0) := by
        have e0 : fR_entries r (nI k) w = some (entL k (r.1 1) m 1 0) := by
          rw [hm']
          exact fR_entries_eq r hk hm m 1 40 0 (by omega) (by omega)
        unfold fR_refusal_208 fR_refusal_219
        rw [e0, ab_bd_s]
        rcases hk with rfl | rfl
        · rw [if_pos (show nI 5 = 5 from rfl)]
        · rw [if_neg (by decide), if_pos (show nI 12 = 12 from rfl)]
      rw [en] at b
      exact ⟨_, b, Or.inr ⟨a, hw, Or.inr (Or.inr ⟨hk, m, hm, hm', rfl⟩)⟩⟩
    · rw [if_neg z] at b
      exact ⟨_, b, Or.inl ⟨z, a⟩⟩
theorem sav {tp ts : Nat} {g : Int32 × Int32 × Int32} {c r : cs_S} (h : LRt tp ts g c r) : (r.1 0 2 ≤ 0 ∧ fT_isBusy c = 0) ∨ (¬ r.1 0 2 ≤ 0 ∧ ¬ fT_isBusy c = 0) := by
  unfold fT_isBusy
  rcases h.2.2.2.2 with ⟨z1, z2⟩ | ⟨w, b, hw, hb, z1, z2, _⟩
  · refine Or.inl ⟨?_, ?_⟩
    · rw [z2]
      exact Int32.le_refl _
    · rw [if_pos z1]
  · refine Or.inr ⟨?_, ?_⟩
    · rw [z2, Int32.le_iff_toInt_le, nI_toInt (by omega), i0]
      omega
    · rw [z1, if_neg (nI_m1 (by omega))]
      decide
theorem rf_1 {tp ts : Nat} {g : Int32 × Int32 × Int32} {c r : cs_S} (h : LRt tp ts g c r) {n v w : Int32} (hv : n = mdBytes 1 → w = fR_cut v n) : RF c r 1 n v w := by
  by_cases hn : n = mdBytes 1
  rotate_left
  · exact rf_n (by rw [rW1, if_neg hn]) (by rw [cW1, if_neg hn])
  have hw := hv hn
  have hc : fR_cut v n = v := by
    rw [hn]
    rfl
  rw [hc] at hw
  have a := rW1 r n v
  have b := cW1 c n w
  rw [if_pos hn] at a b
  rw [hw] at b ⊢
  unfold fS_refusalOfSave at b
  by_cases e : v = 1702257011
  · rw [if_pos e] at a b
    rcases sav h with ⟨s1, s2⟩ | ⟨s1, s2⟩
    · rw [if_pos s1, r158 (by decide), hc] at a
      have z : rv 1 v = 0 := by
        rw [e]
        decide
      rw [if_pos z] at a
      rw [if_pos s2] at b
      exact ⟨0, a, Or.inr ⟨b, hc.symm, Or.inl ⟨Or.inl rfl, rfl⟩⟩⟩
    · rw [if_neg s1] at a
      rw [if_neg s2] at b
      exact ⟨_, a, Or.inl ⟨by decide, b⟩⟩
  · rw [if_neg e] at a b
    exact ⟨_, a, Or.inl ⟨by decide, b⟩⟩
theorem rf_2 {tp ts : Nat} {g : Int32 × Int32 × Int32} {c r : cs_S} (h : LRt tp ts g c r) {n v w : Int32} (hv : n = mdBytes 2 → w = fR_cut v n) : RF c r 2 n v w := by
  by_cases hn : n = mdBytes 2
  rotate_left
  · exact rf_n (by rw [rW2, if_neg hn]) (by rw [cW2, if_neg hn])
  have hw := hv hn
  have hc : fR_cut v n = v := by
    rw [hn]
    rfl
  rw [hc] at hw
  have a := rW2 r n v
  have b := cW2 c n w
  rw [if_pos hn] at a b
  rw [hw] at b ⊢
  unfold fS_refusalOfSave at b
  by_cases e : v = 1684107116
  · rw [if_pos e] at a b
    rcases sav h with ⟨s1, s2⟩ | ⟨s1, s2⟩
    · rw [if_pos s1, r158 (by decide), hc] at a
      have z : rv 2 v = 0 := by
        rw [e]
        decide
      rw [if_pos z] at a
      rw [if_pos s2] at b
      exact ⟨0, a, Or.inr ⟨b, hc.symm, Or.inl ⟨Or.inr rfl, rfl⟩⟩⟩
    · rw [if_neg s1] at a
      rw [if_neg s2] at b
      exact ⟨_, a, Or.inl ⟨by decide, b⟩⟩
  · rw [if_neg e] at a b
    exact ⟨_, a, Or.inl ⟨by decide, b⟩⟩
theorem rfw {tp ts : Nat} {g : Int32 × Int32 × Int32} {c r : cs_S} (h : LRt tp ts g c r) {n v w : Int32} : ∀ k, k < 30 → (n = mdBytes k → w = fR_cut v n) → RF c r k n v w
  | 0, _, _ => ⟨_, rW0 r n v, Or.inl ⟨by decide, cW0 c n w⟩⟩
  | 1, _, hv => rf_1 h hv
  | 2, _, hv => rf_2 h hv
  | 3, _, hv => by
    by_cases hn : n = mdBytes 3
    · exact rf_p (by decide) (by decide) (by decide) (by decide) (by decide) (by decide) (by decide) (hv hn) (lk3 h hn)
    · exact rf_n (by rw [rW3, if_neg hn]) (by rw [cW3, cWf, if_neg hn])
  | 4, _, hv => by
    by_cases hn : n = mdBytes 4
    · exact rf_p (by decide) (by decide) (by decide) (by decide) (by decide) (by decide) (by decide) (hv hn) (lk4 h hn)
    · exact rf_n (by rw [rW4, if_neg hn]) (by rw [cW4, cWf, if_neg hn])
  | 5, _, hv => by
    by_cases hn : n = mdBytes 5
    · exact rf_c (by decide) (hv hn) (lk5 h hn)
    · exact rf_n (by rw [rW5, if_neg hn]) (by rw [cW5, cWf, if_neg hn])
  | 6, _, hv => by
    by_cases hn : n = mdBytes 6
    · exact rf_p (by decide) (by decide) (by decide) (by decide) (by decide) (by decide) (by decide) (hv hn) (lk6 h hn)
    · exact rf_n (by rw [rW6, if_neg hn]) (by rw [cW6, cWf, if_neg hn])
  | 7, _, hv => by
    by_cases hn : n = mdBytes 7
    · exact rf_p (by decide) (by decide) (by decide) (by decide) (by decide) (by decide) (by decide) (hv hn) (lk7 h hn)
    · exact rf_n (by rw [rW7, if_neg hn]) (by rw [cW7, cWf, if_neg hn])
  | 8, _, hv => by
    by_cases hn : n = mdBytes 8
    · exact rf_p (by decide) (by decide) (by decide) (by decide) (by decide) (by decide) (by decide) (hv hn) (lk8 h hn)
    · exact rf_n (by rw [rW8, if_neg hn]) (by rw [cW8, cWf, if_neg hn])
  | 9, _, hv => by
    by_cases hn : n = mdBytes 9
    · exact rf_p (by decide) (by decide) (by decide) (by decide) (by decide) (by decide) (by decide) (hv hn) (lk9 h hn)
    · exact rf_n (by rw [rW9, if_neg hn]) (by rw [cW9, cWf, if_neg hn])
  | 10, _, hv => by
    by_cases hn : n = mdBytes 10
    · exact rf_p (by decide) (by decide) (by decide) (by decide) (by decide) (by decide) (by decide) (hv hn) (lk10 h hn)
    · exact rf_n (by rw [rW10, if_neg hn]) (by rw [cW10, cWf, if_neg hn])
  | 11, _, hv => by
    by_cases hn : n = mdBytes 11
    · exact rf_p (by decide) (by decide) (by decide) (by decide) (by decide) (by decide) (by decide) (hv hn) (lk11 h hn)
    · exact rf_n (by rw [rW11, if_neg hn]) (by rw [cW11, cWf, if_neg hn])
  | 12, _, hv => by
    by_cases hn : n = mdBytes 12
    · exact rf_c (by decide) (hv hn) (lk12 h hn)
    · exact rf_n (by rw [rW12, if_neg hn]) (by rw [cW12, cWf, if_neg hn])
  | 13, _, hv => by
    by_cases hn : n = mdBytes 13
    · exact rf_p (by decide) (by decide) (by decide) (by decide) (by decide) (by decide) (by decide) (hv hn) (lk13 h hn)
    · exact rf_n (by rw [rW13, if_neg hn]) (by rw [cW13, cWf, if_neg hn])
  | 14, _, hv => by
    by_cases hn : n = mdBytes 14
    · exact rf_p (by decide) (by decide) (by decide) (by decide) (by decide) (by decide) (by decide) (hv hn) (lk14 h hn)
    · exact rf_n (by rw [rW14, if_neg hn]) (by rw [cW14, cWf, if_neg hn])
  | 15, _, hv => by
    by_cases hn : n = mdBytes 15
    · exact rf_p (by decide) (by decide) (by decide) (by decide) (by decide) (by decide) (by decide) (hv hn) (lk15 h hn)
    · exact rf_n (by rw [rW15, if_neg hn]) (by rw [cW15, cWf, if_neg hn])
  | 16, _, hv => by
    by_cases hn : n = mdBytes 16
    · exact rf_p (by decide) (by decide) (by decide) (by decide) (by decide) (by decide) (by decide) (hv hn) (lk16 h hn)
    · exact rf_n (by rw [rW16, if_neg hn]) (by rw [cW16, cWf, if_neg hn])
  | 17, _, _ => ⟨_, rW17 r n v, Or.inl ⟨by decide, cW17 c n w⟩⟩
  | 18, _, hv => by
    by_cases hn : n = mdBytes 18
    · exact rf_p (by decide) (by decide) (by decide) (by decide) (by decide) (by decide) (by decide) (hv hn) (lk18 h hn)
    · exact rf_n (by rw [rW18, if_neg hn]) (by rw [cW18, cWf, if_neg hn])
  | 19, _, _ => ⟨_, rW19 r n v, Or.inl ⟨by decide, cW19 c n w⟩⟩
  | 20, _, hv => by
    by_cases hn : n = mdBytes 20
    · exact rf_p (by decide) (by decide) (by decide) (by decide) (by decide) (by decide) (by decide) (hv hn) (lk20 h hn)
    · exact rf_n (by rw [rW20, if_neg hn]) (by rw [cW20, cWf, if_neg hn])
  | 21, _, _ => ⟨_, rW21 r n v, Or.inl ⟨by decide, cW21 c n w⟩⟩
  | 22, _, hv => by
    by_cases hn : n = mdBytes 22
    · exact rf_p (by decide) (by decide) (by decide) (by decide) (by decide) (by decide) (by decide) (hv hn) (lk22 h hn)
    · exact rf_n (by rw [rW22, if_neg hn]) (by rw [cW22, cWf, if_neg hn])
  | 23, _, hv => by
    by_cases hn : n = mdBytes 23
    · exact rf_p (by decide) (by decide) (by decide) (by decide) (by decide) (by decide) (by decide) (hv hn) (lk23 h hn)
    · exact rf_n (by rw [rW23, if_neg hn]) (by rw [cW23, cWf, if_neg hn])
  | 24, _, hv => by
    by_cases hn : n = mdBytes 24
    · exact rf_p (by decide) (by decide) (by decide) (by decide) (by decide) (by decide) (by decide) (hv hn) (lk24 h hn)
    · exact rf_n (by rw [rW24, if_neg hn]) (by rw [cW24, cWf, if_neg hn])
  | 25, _, hv => by
    by_cases hn : n = mdBytes 25
    · exact rf_p (by decide) (by decide) (by decide) (by decide) (by decide) (by decide) (by decide) (hv hn) (lk25 h hn)
    · exact rf_n (by rw [rW25, if_neg hn]) (by rw [cW25, cWf, if_neg hn])
  | 26, _, hv => by
    by_cases hn : n = mdBytes 26
    · exact rf_p (by decide) (by decide) (by decide) (by decide) (by decide) (by decide) (by decide) (hv hn) (lk26 h hn)
    · exact rf_n (by rw [rW26, if_neg hn]) (by rw [cW26, cWf, if_neg hn])
  | 27, _, hv => by
    by_cases hn : n = mdBytes 27
    · exact rf_p (by decide) (by decide) (by decide) (by decide) (by decide) (by decide) (by decide) (hv hn) (lk27 h hn)
    · exact rf_n (by rw [rW27, if_neg hn]) (by rw [cW27, cWf, if_neg hn])
  | 28, _, hv => by
    by_cases hn : n = mdBytes 28
    · exact rf_p (by decide) (by decide) (by decide) (by decide) (by decide) (by decide) (by decide) (hv hn) (lk28 h hn)
    · exact rf_n (by rw [rW28, if_neg hn]) (by rw [cW28, cWf, if_neg hn])
  | 29, _, hv => by
    by_cases hn : n = mdBytes 29
    · exact rf_p (by decide) (by decide) (by decide) (by decide) (by decide) (by decide) (by decide) (hv hn) (lk29 h hn)
    · exact rf_n (by rw [rW29, if_neg hn]) (by rw [cW29, cWf, if_neg hn])
  | k + 30, hk, _ => by omega
theorem IV_m {r : cs_S} (h : IV (r.1 1)) {k : Nat} {x : Int32} (hk : k < 16) (h5 : MP 5 ((cs_u r 1 k x).1 1)) (h12 : MP 12 ((cs_u r 1 k x).1 1)) : IV ((cs_u r 1 k x).1 1) := by
  obtain ⟨⟨h1, h2, h3, h4, h5', h6, h7, h8, h9, h10⟩, i1, i2, i3, i4⟩ := h
  exact ⟨⟨h5, h12, rg_s h3 (fun e => by omega), rg_s h4 (fun e => by omega), rg_s h5' (fun e => by omega), rg_s h6 (fun e => by omega), rg_s h7 (fun e => by omega), rg_s h8 (fun e => by omega), rg_s h9 (fun e => by omega), rg_s h10 (fun e => by omega)⟩, rg_s i1 (fun e => by omega), rg_s i2 (fun e => by omega), rg_s i3 (fun e => by omega), rg_s i4 (fun e => by omega)⟩
theorem MP_o {r : cs_S} {q k : Nat} {x : Int32} (h : MP q (r.1 1)) (hk : ∀ j, j ≤ 3 → q + j ≠ k) : MP q ((cs_u r 1 k x).1 1) := MP_cg h (fun j hj => by rw [cs_u_r, if_neg (hk j hj)])
theorem MP_n {r : cs_S} {q m : Nat} {x : Int32} (hm : m ≤ 3) (hx : x = nI m) (h : entL q (r.1 1) m 1 0 = 0) : MP q ((cs_u r 1 q x).1 1) := by
  refine ⟨m, hm, by rw [cs_u_r, if_pos rfl, hx], ?_⟩
  have e : entL q ((cs_u r 1 q x).1 1) m 1 0 = entL q (r.1 1) m 1 0 := entL_cg m 1 0 (fun j h1 h2 => by rw [cs_u_r, if_neg (by omega)])
  rw [e]
  exact h
theorem MP_z {r : cs_S} {q k : Nat} {x : Int32} (h : r.1 1 q = 0) (hk : q ≠ k) : MP q ((cs_u r 1 k x).1 1) := ⟨0, by omega, by rw [cs_u_r, if_neg hk, h]; rfl, rfl⟩
theorem WR_g {tp ts : Nat} {g : Int32 × Int32 × Int32} {c r : cs_S} (h : LRt tp ts g c r) (sp : SP r) {k : Nat} {x : Int32} (h19 : k ≠ 19) (h21 : k ≠ 21) (iv : IV ((cs_u r 1 k x).1 1)) (e1 : fS_write c (nI k) x = some (cs_u c 1 k x)) (e2 : fR_write r (nI k) x = some (cs_u r 1 k x)) : ∃ c' r', fS_write c (nI k) x = some c' ∧ fR_write r (nI k) x = some r' ∧ LRt tp ts g c' r' ∧ SP r' := ⟨_, _, e1, e2, LRt_v h h19 iv, SP_v sp h21⟩
def WG (tp ts : Nat) (g : Int32 × Int32 × Int32) (c r : cs_S) (k : Nat) (x : Int32) : Prop := ∃ c' r', fS_write c (nI k) x = some c' ∧ fR_write r (nI k) x = some r' ∧ LRt tp ts g c' r' ∧ SP r'
theorem wr1 {tp ts : Nat} {g : Int32 × Int32 × Int32} {c r : cs_S} (h : LRt tp ts g c r) (sp : SP r) (x : Int32) : WG tp ts g c r 1 x := by
  obtain ⟨c', r', e1, e2, e3, e4⟩ := ST_save h.2.2 h.1.ve h.1.iv.1
  refine ⟨c', r', ?_, ?_, LRt_sf h e4 e3, ?_⟩
  · show ab_bd (fT_beginSave c) (fun p1 => some p1) = _
    rw [ab_id]
    exact e1
  · show ab_bd (fR_begin r 1) (fun p1 => some p1) = _
    rw [ab_id]
    exact e2
  · unfold SP
    rw [e4.2.2.1, e4.2.1 6 (by decide) (by decide)]
    exact sp
theorem wr2 {tp ts : Nat} {g : Int32 × Int32 × Int32} {c r : cs_S} (h : LRt tp ts g c r) (sp : SP r) (x : Int32) : WG tp ts g c r 2 x := by
  obtain ⟨c', r', e1, e2, e3, e4⟩ := ST_restore h.2.2
  refine ⟨c', r', ?_, ?_, LRt_sf h e4 e3, ?_⟩
  · show ab_bd (fT_beginRestore c) (fun p1 => some p1) = _
    rw [ab_id]
    exact e1
  · show ab_bd (fR_begin r 0) (fun p1 => some p1) = _
    rw [ab_id]
    exact e2
  · unfold SP
    rw [e4.2.2.1, e4.2.1 6 (by decide) (by decide)]
    exact sp
theorem wr3 {tp ts : Nat} {g : Int32 × Int32 × Int32} {c r : cs_S} (h : LRt tp ts g c r) (sp : SP r) (x : Int32) : WG tp ts g c r 3 x := by
  have k := LRt_v (k := 3) (x := x) h (by decide) (IV_u h.1.iv (by decide) x)
  exact ⟨cs_u (cs_u c 0 11 0) 1 3 x, cs_u (cs_u r 1 3 x) 0 9 0, rfl, rfl, ⟨⟨k.1.ve, k.1.iv, k.1.nd, k.1.nt, k.1.bt, k.1.lo, k.1.bu, k.1.pw, k.1.sv, k.1.pl, ⟨rfl, fun n => absurd rfl n⟩, k.1.se, k.1.ag, k.1.ll, k.1.sy, k.1.ld, k.1.sa⟩, k.2.1, k.2.2⟩, SP_v (k := 3) (x := x) sp (by decide)⟩
theorem wr4 {tp ts : Nat} {g : Int32 × Int32 × Int32} {c r : cs_S} (h : LRt tp ts g c r) (sp : SP r) (x : Int32) : WG tp ts g c r 4 x := by
  have k := LRt_v (k := 4) (x := x) h (by decide) (IV_u h.1.iv (by decide) x)
  exact ⟨cs_u (cs_u c 0 2 0) 1 4 x, cs_u (cs_u r 1 4 x) 0 12 0, rfl, rfl, ⟨⟨k.1.ve, k.1.iv, k.1.nd, k.1.nt, rfl, k.1.lo, k.1.bu, k.1.pw, k.1.sv, k.1.pl, k.1.wa, k.1.se, k.1.ag, k.1.ll, k.1.sy, k.1.ld, k.1.sa⟩, k.2.1, k.2.2⟩, SP_v (k := 4) (x := x) sp (by decide)⟩
theorem wr9 {tp ts : Nat} {g : Int32 × Int32 × Int32} {c r : cs_S} (h : LRt tp ts g c r) (sp : SP r) (x : Int32) : WG tp ts g c r 9 x := by
  have k := LRt_v (k := 9) (x := x) h (by decide) (IV_u h.1.iv (by decide) x)
  exact ⟨cs_u (cs_u c 0 16 0) 1 9 x, cs_u (cs_u r 1 9 x) 0 14 0, rfl, rfl, ⟨⟨k.1.ve, k.1.iv, k.1.nd, k.1.nt, k.1.bt, k.1.lo, k.1.bu, k.1.pw, k.1.sv, k.1.pl, k.1.wa, k.1.se, k.1.ag, k.1.ll, rfl, k.1.ld, k.1.sa⟩, k.2.1, k.2.2⟩, SP_v (k := 9) (x := x) sp (by decide)⟩
theorem wri {tp ts : Nat} {g : Int32 × Int32 × Int32} {c r : cs_S} (h : LRt tp ts g c r) (sp : SP r) {x : Int32} : ∀ k, k < 30 → WOK r k x 0 → WG tp ts g c r k x
  | 0, _, hw => by
    rcases hw with ⟨a, _⟩ | ⟨a1, a2, a3, a4, a5, a6, _⟩ | ⟨a, _⟩ <;> omega
  | 1, _, _ => wr1 h sp x
  | 2, _, _ => wr2 h sp x
  | 3, _, _ => wr3 h sp x
  | 4, _, _ => wr4 h sp x
  | 5, _, hw => by
    rcases hw with ⟨a, _⟩ | ⟨_, a2, a3, _⟩ | ⟨_, m, hm, hx, he⟩
    · omega
    · omega
    · exact WR_g h sp (by decide) (by decide) (IV_m h.1.iv (by decide) (MP_n hm hx he.symm) (MP_o h.1.iv.1.2.1 (fun j hj => by omega))) rfl rfl
  | 6, _, hw => by
    rcases hw with ⟨a, _⟩ | ⟨_, _, _, _, _, _, _, hx, d1, d2⟩ | ⟨a, _⟩
    · omega
    · exact WR_g h sp (by decide) (by decide) (IV_m h.1.iv (by decide) (MP_z (d1 (by decide) (by decide)) (by decide)) (MP_o h.1.iv.1.2.1 (fun j hj => by omega))) rfl rfl
    · omega
  | 7, _, hw => by
    rcases hw with ⟨a, _⟩ | ⟨_, _, _, _, _, _, _, hx, d1, d2⟩ | ⟨a, _⟩
    · omega
    · exact WR_g h sp (by decide) (by decide) (IV_m h.1.iv (by decide) (MP_z (d1 (by decide) (by decide)) (by decide)) (MP_o h.1.iv.1.2.1 (fun j hj => by omega))) rfl rfl
    · omega
  | 8, _, hw => by
    rcases hw with ⟨a, _⟩ | ⟨_, _, _, _, _, _, _, hx, d1, d2⟩ | ⟨a, _⟩
    · omega
    · exact WR_g h sp (by decide) (by decide) (IV_m h.1.iv (by decide) (MP_z (d1 (by decide) (by decide)) (by decide)) (MP_o h.1.iv.1.2.1 (fun j hj => by omega))) rfl rfl
    · omega
  | 9, _, _ => wr9 h sp x
  | 10, _, _ => WR_g h sp (by decide) (by decide) (IV_u h.1.iv (by decide) x) rfl rfl
  | 11, _, _ => WR_g h sp (by decide) (by decide) (IV_u h.1.iv (by decide) x) rfl rfl
  | 12, _, hw => by
    rcases hw with ⟨a, _⟩ | ⟨_, a2, a3, _⟩ | ⟨_, m, hm, hx, he⟩
    · omega
    · omega
    · exact WR_g h sp (by decide) (by decide) (IV_m h.1.iv (by decide) (MP_o h.1.iv.1.1 (fun j hj => by omega)) (MP_n hm hx he.symm)) rfl rfl
  | 13, _, hw => by
    rcases hw with ⟨a, _⟩ | ⟨_, _, _, _, _, _, _, hx, d1, d2⟩ | ⟨a, _⟩
    · omega
    · exact WR_g h sp (by decide) (by decide) (IV_m h.1.iv (by decide) (MP_o h.1.iv.1.1 (fun j hj => by omega)) (MP_z (d2 (by decide) (by decide)) (by decide))) rfl rfl
    · omega
  | 14, _, hw => by
    rcases hw with ⟨a, _⟩ | ⟨_, _, _, _, _, _, _, hx, d1, d2⟩ | ⟨a, _⟩
    · omega
    · exact WR_g h sp (by decide) (by decide) (IV_m h.1.iv (by decide) (MP_o h.1.iv.1.1 (fun j hj => by omega)) (MP_z (d2 (by decide) (by decide)) (by decide))) rfl rfl
    · omega
  | 15, _, hw => by
    rcases hw with ⟨a, _⟩ | ⟨_, _, _, _, _, _, _, hx, d1, d2⟩ | ⟨a, _⟩
    · omega
    · exact WR_g h sp (by decide) (by decide) (IV_m h.1.iv (by decide) (MP_o h.1.iv.1.1 (fun j hj => by omega)) (MP_z (d2 (by decide) (by decide)) (by decide))) rfl rfl
    · omega
  | 16, _, hw => by
    rcases hw with ⟨a, _⟩ | ⟨_, _, _, _, _, _, _, hx, d1, d2⟩ | ⟨a, _⟩
    · omega
    · exact WR_g h sp (by decide) (by decide) (IV_rv h.1.iv (by decide) (by decide) hx) rfl rfl
    · omega
  | 17, _, hw => by
    rcases hw with ⟨a, _⟩ | ⟨a1, a2, a3, a4, a5, a6, _⟩ | ⟨a, _⟩ <;> omega
  | 18, _, hw => by
    rcases hw with ⟨a, _⟩ | ⟨_, _, _, _, _, _, _, hx, d1, d2⟩ | ⟨a, _⟩
    · omega
    · exact WR_g h sp (by decide) (by decide) (IV_rv h.1.iv (by decide) (by decide) hx) rfl rfl
    · omega
  | 19, _, hw => by
    rcases hw with ⟨a, _⟩ | ⟨a1, a2, a3, a4, a5, a6, _⟩ | ⟨a, _⟩ <;> omega
  | 20, _, hw => by
    rcases hw with ⟨a, _⟩ | ⟨_, _, _, _, _, _, _, hx, d1, d2⟩ | ⟨a, _⟩
    · omega
    · exact WR_g h sp (by decide) (by decide) (IV_rv h.1.iv (by decide) (by decide) hx) rfl rfl
    · omega
  | 21, _, hw => by
    rcases hw with ⟨a, _⟩ | ⟨a1, a2, a3, a4, a5, a6, _⟩ | ⟨a, _⟩ <;> omega
  | 22, _, hw => by
    rcases hw with ⟨a, _⟩ | ⟨_, _, _, _, _, _, _, hx, d1, d2⟩ | ⟨a, _⟩
    · omega
    · exact WR_g h sp (by decide) (by decide) (IV_rv h.1.iv (by decide) (by decide) hx) rfl rfl
    · omega
  | 23, _, hw => by
    rcases hw with ⟨a, _⟩ | ⟨_, _, _, _, _, _, _, hx, d1, d2⟩ | ⟨a, _⟩
    · omega
    · exact WR_g h sp (by decide) (by decide) (IV_rv h.1.iv (by decide) (by decide) hx) rfl rfl
    · omega
  | 24, _, hw => by
    rcases hw with ⟨a, _⟩ | ⟨_, _, _, _, _, _, _, hx, d1, d2⟩ | ⟨a, _⟩
    · omega
    · exact WR_g h sp (by decide) (by decide) (IV_rv h.1.iv (by decide) (by decide) hx) rfl rfl
    · omega
  | 25, _, hw => by
    rcases hw with ⟨a, _⟩ | ⟨_, _, _, _, _, _, _, hx, d1, d2⟩ | ⟨a, _⟩
    · omega
    · exact WR_g h sp (by decide) (by decide) (IV_rv h.1.iv (by decide) (by decide) hx) rfl rfl
    · omega
  | 26, _, hw => by
    rcases hw with ⟨a, _⟩ | ⟨_, _, _, _, _, _, _, hx, d1, d2⟩ | ⟨a, _⟩
    · omega
    · exact WR_g h sp (by decide) (by decide) (IV_rv h.1.iv (by decide) (by decide) hx) rfl rfl
    · omega
  | 27, _, hw => by
    rcases hw with ⟨a, _⟩ | ⟨_, _, _, _, _, _, _, hx, d1, d2⟩ | ⟨a, _⟩
    · omega
    · exact WR_g h sp (by decide) (by decide) (IV_rv h.1.iv (by decide) (by decide) hx) rfl rfl
    · omega
  | 28, _, hw => by
    rcases hw with ⟨a, _⟩ | ⟨_, _, _, _, _, _, _, hx, d1, d2⟩ | ⟨a, _⟩
    · omega
    · exact WR_g h sp (by decide) (by decide) (IV_rv h.1.iv (by decide) (by decide) hx) rfl rfl
    · omega
  | 29, _, hw => by
    rcases hw with ⟨a, _⟩ | ⟨_, _, _, _, _, _, _, hx, d1, d2⟩ | ⟨a, _⟩
    · omega
    · exact WR_g h sp (by decide) (by decide) (IV_rv h.1.iv (by decide) (by decide) hx) rfl rfl
    · omega
  | k + 30, hk, _ => by omega
