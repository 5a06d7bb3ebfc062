/-! The relation between the two: all but the mailbox and the store (OTb), and all (LRt) -/
def OTb (tp : Nat) (g : Int32 × Int32 × Int32) (c r : cs_S) : Prop := VE c r ∧ IV (r.1 1) ∧ c.1 0 0 = r.1 0 4 ∧ c.1 0 1 = r.1 0 5 ∧ c.1 0 2 = r.1 0 12 ∧ c.1 0 4 = r.1 0 1 ∧ (c.1 0 5 = r.1 0 8 ∧ (r.1 0 8 = 0 ∨ r.1 0 8 = 1)) ∧ (c.1 0 8 = r.1 0 6 ∧ rg (r.1 0 6) 1 7) ∧ (c.1 0 9 = g.2.1 ∧ r.1 0 10 = g.2.2) ∧ (c.1 0 10 = r.1 0 7 ∧ rg (r.1 0 7) (-(1000000 + 1000 * (tp : Int))) (1000000 + 1000 * (tp : Int))) ∧ (c.1 0 11 = r.1 0 9 ∧ (r.1 0 9 ≠ 0 → c.1 0 12 = r.1 0 13)) ∧ (r.1 0 5 = 5 → c.1 0 13 = r.1 0 11 ∧ (r.1 0 11 = 0 ∨ r.1 0 11 = 1)) ∧ r.1 0 15 = c.1 0 14 + g.1 ∧ c.1 0 15 = r.1 0 16 ∧ c.1 0 16 = r.1 0 14 ∧ c.2.2 = r.2.2 ∧ rg (r.1 1 19) (-(1000000 + 1000 * (tp : Int))) (1000000 + 1000 * (tp : Int))
theorem OTb.ve {tp : Nat} {g : Int32 × Int32 × Int32} {c r : cs_S} (h : OTb tp g c r) : VE c r := h.1
theorem OTb.iv {tp : Nat} {g : Int32 × Int32 × Int32} {c r : cs_S} (h : OTb tp g c r) : IV (r.1 1) := h.2.1
theorem OTb.nd {tp : Nat} {g : Int32 × Int32 × Int32} {c r : cs_S} (h : OTb tp g c r) : c.1 0 0 = r.1 0 4 := h.2.2.1
theorem OTb.nt {tp : Nat} {g : Int32 × Int32 × Int32} {c r : cs_S} (h : OTb tp g c r) : c.1 0 1 = r.1 0 5 := h.2.2.2.1
theorem OTb.bt {tp : Nat} {g : Int32 × Int32 × Int32} {c r : cs_S} (h : OTb tp g c r) : c.1 0 2 = r.1 0 12 := h.2.2.2.2.1
theorem OTb.lo {tp : Nat} {g : Int32 × Int32 × Int32} {c r : cs_S} (h : OTb tp g c r) : c.1 0 4 = r.1 0 1 := h.2.2.2.2.2.1
theorem OTb.bu {tp : Nat} {g : Int32 × Int32 × Int32} {c r : cs_S} (h : OTb tp g c r) : (c.1 0 5 = r.1 0 8 ∧ (r.1 0 8 = 0 ∨ r.1 0 8 = 1)) := h.2.2.2.2.2.2.1
theorem OTb.pw {tp : Nat} {g : Int32 × Int32 × Int32} {c r : cs_S} (h : OTb tp g c r) : (c.1 0 8 = r.1 0 6 ∧ rg (r.1 0 6) 1 7) := h.2.2.2.2.2.2.2.1
theorem OTb.sv {tp : Nat} {g : Int32 × Int32 × Int32} {c r : cs_S} (h : OTb tp g c r) : (c.1 0 9 = g.2.1 ∧ r.1 0 10 = g.2.2) := h.2.2.2.2.2.2.2.2.1
theorem OTb.pl {tp : Nat} {g : Int32 × Int32 × Int32} {c r : cs_S} (h : OTb tp g c r) : (c.1 0 10 = r.1 0 7 ∧ rg (r.1 0 7) (-(1000000 + 1000 * (tp : Int))) (1000000 + 1000 * (tp : Int))) := h.2.2.2.2.2.2.2.2.2.1
theorem OTb.wa {tp : Nat} {g : Int32 × Int32 × Int32} {c r : cs_S} (h : OTb tp g c r) : (c.1 0 11 = r.1 0 9 ∧ (r.1 0 9 ≠ 0 → c.1 0 12 = r.1 0 13)) := h.2.2.2.2.2.2.2.2.2.2.1
theorem OTb.se {tp : Nat} {g : Int32 × Int32 × Int32} {c r : cs_S} (h : OTb tp g c r) : (r.1 0 5 = 5 → c.1 0 13 = r.1 0 11 ∧ (r.1 0 11 = 0 ∨ r.1 0 11 = 1)) := h.2.2.2.2.2.2.2.2.2.2.2.1
theorem OTb.ag {tp : Nat} {g : Int32 × Int32 × Int32} {c r : cs_S} (h : OTb tp g c r) : r.1 0 15 = c.1 0 14 + g.1 := h.2.2.2.2.2.2.2.2.2.2.2.2.1
theorem OTb.ll {tp : Nat} {g : Int32 × Int32 × Int32} {c r : cs_S} (h : OTb tp g c r) : c.1 0 15 = r.1 0 16 := h.2.2.2.2.2.2.2.2.2.2.2.2.2.1
theorem OTb.sy {tp : Nat} {g : Int32 × Int32 × Int32} {c r : cs_S} (h : OTb tp g c r) : c.1 0 16 = r.1 0 14 := h.2.2.2.2.2.2.2.2.2.2.2.2.2.2.1
theorem OTb.ld {tp : Nat} {g : Int32 × Int32 × Int32} {c r : cs_S} (h : OTb tp g c r) : c.2.2 = r.2.2 := h.2.2.2.2.2.2.2.2.2.2.2.2.2.2.2.1
theorem OTb.sa {tp : Nat} {g : Int32 × Int32 × Int32} {c r : cs_S} (h : OTb tp g c r) : rg (r.1 1 19) (-(1000000 + 1000 * (tp : Int))) (1000000 + 1000 * (tp : Int)) := h.2.2.2.2.2.2.2.2.2.2.2.2.2.2.2.2
def LRt (tp ts : Nat) (g : Int32 × Int32 × Int32) (c r : cs_S) : Prop := OTb tp g c r ∧ (∃ n, BX n c r) ∧ ST ts c r
def SP (r : cs_S) : Prop := r.1 0 6 = 4 ∨ r.1 0 6 = 5 ∨ r.1 0 6 = 6 ∨ r.1 1 21 = 0
def rk (r r' : cs_S) : Prop := r'.1 1 = r.1 1 ∧ ∀ k, 2 ≤ k → r'.1 0 k = r.1 0 k
theorem rk.rf (r : cs_S) : rk r r := ⟨rfl, fun _ _ => rfl⟩
theorem rk.sp {r r' : cs_S} (h : rk r r') (s : SP r) : SP r' := by
  unfold SP
  rw [h.1, h.2 6 (by decide)]
  exact s
theorem i_nle {a b : Int32} (h : ¬ a ≤ b) : b < a := by
  rw [Int32.le_iff_toInt_le] at h
  rw [Int32.lt_iff_toInt_lt]
  omega
theorem i_nlt {a b : Int32} (h : a ≤ b) : ¬ b < a := by
  rw [Int32.le_iff_toInt_le] at h
  rw [Int32.lt_iff_toInt_lt]
  omega
theorem i_le_of {a b : Int32} (h : ¬ b < a) : a ≤ b := by
  rw [Int32.lt_iff_toInt_lt] at h
  rw [Int32.le_iff_toInt_le]
  omega
theorem ab_id {α : Type} (o : Option α) : ab_bd o (fun p => some p) = o := by cases o <;> rfl
theorem pw7 {x : Int32} (h : rg x 1 7) : x = 1 ∨ x = 2 ∨ x = 3 ∨ x = 4 ∨ x = 5 ∨ x = 6 ∨ x = 7 := by
  obtain ⟨h1, h2⟩ := h
  have e : x.toInt = 1 ∨ x.toInt = 2 ∨ x.toInt = 3 ∨ x.toInt = 4 ∨ x.toInt = 5 ∨ x.toInt = 6 ∨ x.toInt = 7 := by omega
  rcases e with e | e | e | e | e | e | e
  · exact Or.inl (ia_eq (by rw [e]; decide))
  · exact Or.inr (Or.inl (ia_eq (by rw [e]; decide)))
  · exact Or.inr (Or.inr (Or.inl (ia_eq (by rw [e]; decide))))
  · exact Or.inr (Or.inr (Or.inr (Or.inl (ia_eq (by rw [e]; decide)))))
  · exact Or.inr (Or.inr (Or.inr (Or.inr (Or.inl (ia_eq (by rw [e]; decide))))))
  · exact Or.inr (Or.inr (Or.inr (Or.inr (Or.inr (Or.inl (ia_eq (by rw [e]; decide)))))))
  · exact Or.inr (Or.inr (Or.inr (Or.inr (Or.inr (Or.inr (ia_eq (by rw [e]; decide)))))))
theorem VE_u {c r : cs_S} (h : VE c r) (k : Nat) (x : Int32) : VE (cs_u c 1 k x) (cs_u r 1 k x) := fun j hj h17 => by
  rw [cs_u_r, cs_u_r, h j hj h17]
theorem VE_17 {c r : cs_S} (h : VE c r) (x : Int32) : VE (cs_u c 1 17 x) r := fun j hj h17 => by
  rw [cs_u_r, if_neg h17]
  exact h j hj h17
theorem rg_s {r : cs_S} {k j : Nat} {x : Int32} {a b : Int} (h : rg (r.1 1 j) a b) (hx : j = k → rg x a b) : rg ((cs_u r 1 k x).1 1 j) a b := by
  rw [cs_u_r]
  by_cases e : j = k
  · rw [if_pos e]
    exact hx e
  · rw [if_neg e]
    exact h
theorem IV_s {r : cs_S} (h : IV (r.1 1)) {k : Nat} {x : Int32} (h5 : ∀ j, j ≤ 3 → 5 + j ≠ k) (h12 : ∀ j, j ≤ 3 → 12 + j ≠ k) (x18 : 18 = k → rg x 0 255) (x20 : 20 = k → rg x 0 100000) (x23 : 23 = k → rg x (-100000) 100000) (x24 : 24 = k → rg x (-100000) 100000) (x25 : 25 = k → rg x 1 1000) (x26 : 26 = k → rg x 1 1000) (x27 : 27 = k → rg x 1 1000) (x28 : 28 = k → rg x 1 1000) (x16 : 16 = k → rg x 0 65535) (x21 : 21 = k → rg x (-1000) 1000) (x22 : 22 = k → rg x (-100000) 100000) (x29 : 29 = k → rg x (-1000) 1000) : IV ((cs_u r 1 k x).1 1) := by
  obtain ⟨⟨h1, h2, h3, h4, h5', h6, h7, h8, h9, h10⟩, i1, i2, i3, i4⟩ := h
  exact ⟨⟨MP_cg h1 (fun j hj => by rw [cs_u_r, if_neg (h5 j hj)]), MP_cg h2 (fun j hj => by rw [cs_u_r, if_neg (h12 j hj)]), rg_s h3 x18, rg_s h4 x20, rg_s h5' x23, rg_s h6 x24, rg_s h7 x25, rg_s h8 x26, rg_s h9 x27, rg_s h10 x28⟩, rg_s i1 x16, rg_s i2 x21, rg_s i3 x22, rg_s i4 x29⟩
theorem IV_u {r : cs_S} (h : IV (r.1 1)) {k : Nat} (hk : k = 0 ∨ k = 3 ∨ k = 4 ∨ k = 9 ∨ k = 10 ∨ k = 11 ∨ k = 17 ∨ k = 19) (x : Int32) : IV ((cs_u r 1 k x).1 1) :=
  IV_s h (fun j hj => by omega) (fun j hj => by omega) (fun e => by omega) (fun e => by omega) (fun e => by omega) (fun e => by omega) (fun e => by omega) (fun e => by omega) (fun e => by omega) (fun e => by omega) (fun e => by omega) (fun e => by omega) (fun e => by omega) (fun e => by omega)
theorem IV_21 {r : cs_S} (h : IV (r.1 1)) {x : Int32} (hx : rg x (-1000) 1000) : IV ((cs_u r 1 21 x).1 1) :=
  IV_s h (fun j hj => by omega) (fun j hj => by omega) (fun e => by omega) (fun e => by omega) (fun e => by omega) (fun e => by omega) (fun e => by omega) (fun e => by omega) (fun e => by omega) (fun e => by omega) (fun e => by omega) (fun _ => hx) (fun e => by omega) (fun e => by omega)
theorem rv_rg {k : Nat} {x : Int32} (h : rv k x = 0) : rg x (mdLeast k).toInt (mdMost k).toInt := ⟨Int32.le_iff_toInt_le.mp (rv_0 h).2.1, Int32.le_iff_toInt_le.mp (rv_0 h).1⟩
theorem IV_rv {r : cs_S} (h : IV (r.1 1)) {k : Nat} {x : Int32} (h16 : 16 ≤ k) (h21 : k ≠ 21) (hx : rv k x = 0) : IV ((cs_u r 1 k x).1 1) :=
  IV_s h (fun j hj => by omega) (fun j hj => by omega) (fun e => by subst e; exact rg_w (rv_rg hx) (by decide) (by decide)) (fun e => by subst e; exact rg_w (rv_rg hx) (by decide) (by decide)) (fun e => by subst e; exact rg_w (rv_rg hx) (by decide) (by decide)) (fun e => by subst e; exact rg_w (rv_rg hx) (by decide) (by decide)) (fun e => by subst e; exact rg_w (rv_rg hx) (by decide) (by decide)) (fun e => by subst e; exact rg_w (rv_rg hx) (by decide) (by decide)) (fun e => by subst e; exact rg_w (rv_rg hx) (by decide) (by decide)) (fun e => by subst e; exact rg_w (rv_rg hx) (by decide) (by decide)) (fun e => by subst e; exact rg_w (rv_rg hx) (by decide) (by decide)) (fun e => by omega) (fun e => by subst e; exact rg_w (rv_rg hx) (by decide) (by decide)) (fun e => by subst e; exact rg_w (rv_rg hx) (by decide) (by decide))
theorem OTb_fm {tp : Nat} {g : Int32 × Int32 × Int32} {c r c' r' : cs_S} (h : OTb tp g c r) (e : bx_fm 3 c c') (f : bx_fm 0 r r') : OTb tp g c' r' := by
  unfold OTb VE
  rw [e.1 1 (by decide) (by decide) (by decide), f.1 1 (by decide) (by decide) (by decide), e.2.2, f.2.2, e.2.1 0 (by decide), e.2.1 1 (by decide), e.2.1 2 (by decide), e.2.1 4 (by decide), e.2.1 5 (by decide), e.2.1 8 (by decide), e.2.1 9 (by decide), e.2.1 10 (by decide), e.2.1 11 (by decide), e.2.1 12 (by decide), e.2.1 13 (by decide), e.2.1 14 (by decide), e.2.1 15 (by decide), e.2.1 16 (by decide), f.2.1 1 (by decide), f.2.1 4 (by decide), f.2.1 5 (by decide), f.2.1 6 (by decide), f.2.1 7 (by decide), f.2.1 8 (by decide), f.2.1 9 (by decide), f.2.1 10 (by decide), f.2.1 11 (by decide), f.2.1 12 (by decide), f.2.1 13 (by decide), f.2.1 14 (by decide), f.2.1 15 (by decide), f.2.1 16 (by decide)]
  exact h
theorem ST_fm {ts : Nat} {c r c' r' : cs_S} (h : ST ts c r) (e : bx_fm 3 c c') (f : bx_fm 0 r r') : ST ts c' r' := by
  unfold ST BK BZ
  rw [e.1 4 (by decide) (by decide) (by decide), e.1 5 (by decide) (by decide) (by decide), e.1 6 (by decide) (by decide) (by decide), f.1 4 (by decide) (by decide) (by decide), f.1 5 (by decide) (by decide) (by decide), e.2.1 6 (by decide), e.2.1 7 (by decide), f.2.1 2 (by decide), f.2.1 3 (by decide)]
  exact h
theorem OTb_lo {tp : Nat} {g : Int32 × Int32 × Int32} {c r : cs_S} (h : OTb tp g c r) : OTb tp g (cs_u c 0 4 (c.1 0 4 + 1)) (cs_u r 0 1 (r.1 0 1 + 1)) := ⟨h.ve, h.iv, h.nd, h.nt, h.bt, (by show c.1 0 4 + 1 = r.1 0 1 + 1; rw [h.lo]), h.bu, h.pw, h.sv, h.pl, h.wa, h.se, h.ag, h.ll, h.sy, h.ld, h.sa⟩
theorem OTb_sf {tp : Nat} {g : Int32 × Int32 × Int32} {c r c' r' : cs_S} (h : OTb tp g c r) (s : sf c c' r r') : OTb tp g c' r' := by
  unfold OTb VE
  rw [s.1.2.1, s.2.2.1, s.1.2.2.2.2, s.2.2.2.2.2, s.1.1 0 (by decide) (by decide), s.1.1 1 (by decide) (by decide), s.1.1 2 (by decide) (by decide), s.1.1 4 (by decide) (by decide), s.1.1 5 (by decide) (by decide), s.1.1 8 (by decide) (by decide), s.1.1 9 (by decide) (by decide), s.1.1 10 (by decide) (by decide), s.1.1 11 (by decide) (by decide), s.1.1 12 (by decide) (by decide), s.1.1 13 (by decide) (by decide), s.1.1 14 (by decide) (by decide), s.1.1 15 (by decide) (by decide), s.1.1 16 (by decide) (by decide), s.2.1 1 (by decide) (by decide), s.2.1 4 (by decide) (by decide), s.2.1 5 (by decide) (by decide), s.2.1 6 (by decide) (by decide), s.2.1 7 (by decide) (by decide), s.2.1 8 (by decide) (by decide), s.2.1 9 (by decide) (by decide), s.2.1 10 (by decide) (by decide), s.2.1 11 (by decide) (by decide), s.2.1 12 (by decide) (by decide), s.2.1 13 (by decide) (by decide), s.2.1 14 (by decide) (by decide), s.2.1 15 (by decide) (by decide), s.2.1 16 (by decide) (by decide)]
  exact h
theorem BX_sf {n : Nat} {c r c' r' : cs_S} (h : BX n c r) (s : sf c c' r r') : BX n c' r' := by
  have e1 : bx_e c' = bx_e c := by
    funext j
    show (c'.1 2 j, c'.1 3 j, c'.2.1 j) = (c.1 2 j, c.1 3 j, c.2.1 j)
    rw [s.1.2.2.1, s.1.2.2.2.1, s.1.2.2.2.2]
  have e2 : bx_e r' = bx_e r := by
    funext j
    show (r'.1 2 j, r'.1 3 j, r'.2.1 j) = (r.1 2 j, r.1 3 j, r.2.1 j)
    rw [s.2.2.2.1, s.2.2.2.2.1, s.2.2.2.2.2]
  unfold BX
  rw [e1, e2, s.1.1 3 (by decide) (by decide), s.2.1 0 (by decide) (by decide)]
  exact h
theorem LRt_sf {tp ts : Nat} {g : Int32 × Int32 × Int32} {c r : cs_S} {ts' : Nat} {c' r' : cs_S} (h : LRt tp ts g c r) (s : sf c c' r r') (t : ST ts' c' r') : LRt tp ts' g c' r' := by
  obtain ⟨h1, ⟨n, hn⟩, _⟩ := h
  exact ⟨OTb_sf h1 s, ⟨n, BX_sf hn s⟩, t⟩
theorem LRt_wy {tp ts : Nat} {g : Int32 × Int32 × Int32} {c r : cs_S} {r' : cs_S} (h : LRt tp ts g c r) (f : wy_fm r r') : LRt tp ts g c r' := by
  obtain ⟨h1, ⟨n, hn⟩, h3⟩ := h
  refine ⟨?_, ⟨n, ?_⟩, ?_⟩
  · unfold OTb VE
    rw [f.1 0 (by decide), f.1 1 (by decide), f.2]
    exact h1
  · have e2 : bx_e r' = bx_e r := by
      funext j
      show (r'.1 2 j, r'.1 3 j, r'.2.1 j) = (r.1 2 j, r.1 3 j, r.2.1 j)
      rw [f.1 2 (by decide), f.1 3 (by decide), f.2]
    unfold BX
    rw [e2, f.1 0 (by decide)]
    exact hn
  · unfold ST BK BZ
    rw [f.1 0 (by decide), f.1 4 (by decide), f.1 5 (by decide)]
    exact h3
theorem LRt_send {tp ts : Nat} {g : Int32 × Int32 × Int32} {c r : cs_S} (h : LRt tp ts g c r) (i l : Int32) (d : Int64) : ∃ c' r', fB_send c i l d = some c' ∧ fR_send r i l d = some r' ∧ LRt tp ts g c' r' ∧ rk r r' := by
  obtain ⟨ho, ⟨n, hn⟩, hs⟩ := h
  obtain ⟨c', r', m, e1, e2, e3, e4⟩ := BX_send hn ho.bu.1 i l d
  refine ⟨c', r', e1, e2, ?_⟩
  rcases e4 with ⟨f, f'⟩ | ⟨f, f'⟩
  · exact ⟨⟨OTb_fm ho f f', ⟨m, e3⟩, ST_fm hs f f'⟩, f'.1 1 (by decide) (by decide) (by decide), fun k hk => f'.2.1 k (by omega)⟩
  · subst f
    subst f'
    exact ⟨⟨OTb_lo ho, ⟨m, e3⟩, hs⟩, rfl, fun k hk => by rw [cs_u_r, if_neg (by omega)]⟩
theorem LRt_w {tp ts : Nat} {g : Int32 × Int32 × Int32} {c r : cs_S} (h : LRt tp ts g c r) {tp' ts' : Nat} (h1 : tp ≤ tp') (h2 : ts ≤ ts') : LRt tp' ts' g c r := by
  obtain ⟨h0, hb, hs1, hs2, hs3⟩ := h
  exact ⟨⟨h0.ve, h0.iv, h0.nd, h0.nt, h0.bt, h0.lo, h0.bu, h0.pw, h0.sv, ⟨h0.pl.1, rg_w h0.pl.2 (by omega) (by omega)⟩, h0.wa, h0.se, h0.ag, h0.ll, h0.sy, h0.ld, rg_w h0.sa (by omega) (by omega)⟩, hb, hs1, ⟨rg_w hs2.1 (by omega) (by omega), rg_w hs2.2.1 (by omega) (by omega), hs2.2.2⟩, hs3⟩
theorem emg {tp ts : Nat} {g : Int32 × Int32 × Int32} {c r : cs_S} (h : LRt tp ts g c r) (x : Int32) : ∃ c' r', fS_sendEmergency c x = some c' ∧ fR_emergency r x = some r' ∧ LRt tp ts g c' r' ∧ rk r r' := by
  unfold fS_sendEmergency fR_emergency
  rw [h.1.nt, h.1.nd, h.1.ve 0 (by decide) (by decide)]
  by_cases e : r.1 0 5 = 4
  · exact ⟨c, r, by rw [if_pos e], by rw [if_pos e], h, rk.rf r⟩
  · obtain ⟨c', r', e1, e2, e3⟩ := LRt_send h (128 + r.1 0 4) 8 (x.toInt64 ||| ((r.1 1 0).toInt64 <<< ((16 : Int32).toInt64 &&& 63)))
    exact ⟨c', r', by rw [if_neg e, ab_id]; exact e1, by rw [if_neg e, ab_id]; exact e2, e3⟩
theorem fS_fault_1 {c c1 : cs_S} {x : Int32} (f : fP_fail c = (1, c1)) : fS_fault c x = fS_sendEmergency (cs_u c1 1 0 (if x = 34321 then 33 else 17)) x := by
  unfold fS_fault
  rw [f]
  show (if x = 34321 then (ab_bd (fS_sendEmergency (cs_u c1 1 0 33) x) (fun p3 => some p3)) else (ab_bd (fS_sendEmergency (cs_u c1 1 0 17) x) (fun p2 => some p2))) = _
  by_cases hx : x = 34321
  · rw [if_pos hx, if_pos hx, ab_id]
  · rw [if_neg hx, if_neg hx, ab_id]
theorem fR_fault_7 {r : cs_S} {x : Int32} (h : r.1 0 6 < 4) : fR_fault r x = fR_emergency (cs_u (cs_u r 0 6 7) 1 0 (if x = 34321 then 33 else 17)) x := by
  unfold fR_fault
  have t4 : (4 : Int32).toInt = 4 := by decide
  have t6 : (6 : Int32).toInt = 6 := by decide
  have h6 : r.1 0 6 < 6 := by
    rw [Int32.lt_iff_toInt_lt] at h ⊢
    omega
  rw [if_pos h6, if_pos h]
  by_cases hx : x = 34321
  · rw [if_pos hx, if_pos hx, ab_id]
  · rw [if_neg hx, if_neg hx, ab_id]
theorem fR_fault_6 {r : cs_S} {x : Int32} (h6 : r.1 0 6 < 6) (h : ¬ r.1 0 6 < 4) : fR_fault r x = fR_emergency (cs_u (cs_u r 0 6 6) 1 0 (if x = 34321 then 33 else 17)) x := by
  unfold fR_fault
  rw [if_pos h6, if_neg h]
  by_cases hx : x = 34321
  · rw [if_pos hx, if_pos hx, ab_id]
  · rw [if_neg hx, if_neg hx, ab_id]
theorem LRt_f {tp ts : Nat} {g : Int32 × Int32 × Int32} {c r : cs_S} (h : LRt tp ts g c r) (q w : Int32) (hq : rg q 1 7) : LRt tp ts g (cs_u (cs_u c 0 8 q) 1 0 w) (cs_u (cs_u r 0 6 q) 1 0 w) :=
  ⟨⟨VE_u (c := cs_u c 0 8 q) (r := cs_u r 0 6 q) h.1.ve 0 w, IV_u (r := cs_u r 0 6 q) h.1.iv (Or.inl rfl) w, h.1.nd, h.1.nt, h.1.bt, h.1.lo, h.1.bu, ⟨rfl, hq⟩, h.1.sv, h.1.pl, h.1.wa, h.1.se, h.1.ag, h.1.ll, h.1.sy, h.1.ld, h.1.sa⟩, h.2.1, h.2.2⟩
theorem flt {tp ts : Nat} {g : Int32 × Int32 × Int32} {c r : cs_S} (h : LRt tp ts g c r) (x : Int32) : ∃ c' r', fS_fault c x = some c' ∧ fR_fault r x = some r' ∧ LRt tp ts g c' r' ∧ (SP r → SP r') := by
  have hp := h.1.pw
  rcases pw7 hp.2 with e | e | e | e | e | e | e
  · have k : fP_fail c = (1, cs_u c 0 8 7) := by
      unfold fP_fail fP_isStageOn
      rw [hp.1, e]
      rfl
    obtain ⟨c', r', e1, e2, e3, e4⟩ := emg (LRt_f h 7 (if x = 34321 then 33 else 17) ⟨by decide, by decide⟩) x
    refine ⟨c', r', by rw [fS_fault_1 k]; exact e1, ?_, e3, fun s => e4.sp ?_⟩
    · rw [fR_fault_7 (by rw [e]; decide)]
      exact e2
    · rcases s with s | s | s | s
      · rw [e] at s
        exact absurd s (by decide)
      · rw [e] at s
        exact absurd s (by decide)
      · rw [e] at s
        exact absurd s (by decide)
      · exact Or.inr (Or.inr (Or.inr s))
  · have k : fP_fail c = (1, cs_u c 0 8 7) := by
      unfold fP_fail fP_isStageOn
      rw [hp.1, e]
      rfl
    obtain ⟨c', r', e1, e2, e3, e4⟩ := emg (LRt_f h 7 (if x = 34321 then 33 else 17) ⟨by decide, by decide⟩) x
    refine ⟨c', r', by rw [fS_fault_1 k]; exact e1, ?_, e3, fun s => e4.sp ?_⟩
    · rw [fR_fault_7 (by rw [e]; decide)]
      exact e2
    · rcases s with s | s | s | s
      · rw [e] at s
        exact absurd s (by decide)
      · rw [e] at s
        exact absurd s (by decide)
      · rw [e] at s
        exact absurd s (by decide)
      · exact Or.inr (Or.inr (Or.inr s))
  · have k : fP_fail c = (1, cs_u c 0 8 7) := by
      unfold fP_fail fP_isStageOn
      rw [hp.1, e]
      rfl
    obtain ⟨c', r', e1, e2, e3, e4⟩ := emg (LRt_f h 7 (if x = 34321 then 33 else 17) ⟨by decide, by decide⟩) x
    refine ⟨c', r', by rw [fS_fault_1 k]; exact e1, ?_, e3, fun s => e4.sp ?_⟩
    · rw [fR_fault_7 (by rw [e]; decide)]
      exact e2
    · rcases s with s | s | s | s
      · rw [e] at s
        exact absurd s (by decide)
      · rw [e] at s
        exact absurd s (by decide)
      · rw [e] at s
        exact absurd s (by decide)
      · exact Or.inr (Or.inr (Or.inr s))
  · have k : fP_fail c = (1, cs_u c 0 8 6) := by
      unfold fP_fail fP_isStageOn
      rw [hp.1, e]
      rfl
    obtain ⟨c', r', e1, e2, e3, e4⟩ := emg (LRt_f h 6 (if x = 34321 then 33 else 17) ⟨by decide, by decide⟩) x
    refine ⟨c', r', by rw [fS_fault_1 k]; exact e1, ?_, e3, fun s => e4.sp ?_⟩
    · rw [fR_fault_6 (by rw [e]; decide) (by rw [e]; decide)]
      exact e2
    · exact Or.inr (Or.inr (Or.inl rfl))
  · have k : fP_fail c = (1, cs_u c 0 8 6) := by
      unfold fP_fail fP_isStageOn
      rw [hp.1, e]
      rfl
    obtain ⟨c', r', e1, e2, e3, e4⟩ := emg (LRt_f h 6 (if x = 34321 then 33 else 17) ⟨by decide, by decide⟩) x
    refine ⟨c', r', by rw [fS_fault_1 k]; exact e1, ?_, e3, fun s => e4.sp ?_⟩
    · rw [fR_fault_6 (by rw [e]; decide) (by rw [e]; decide)]
      exact e2
    · exact Or.inr (Or.inr (Or.inl rfl))
  · have k : fP_fail c = (0, c) := by
      unfold fP_fail
      rw [hp.1, e]
      rfl
    refine ⟨c, r, ?_, ?_, h, fun s => s⟩
    · unfold fS_fault
      rw [k]
      rfl
    · unfold fR_fault
      rw [if_neg (by rw [e]; decide)]
  · have k : fP_fail c = (0, c) := by
      unfold fP_fail
      rw [hp.1, e]
      rfl
    refine ⟨c, r, ?_, ?_, h, fun s => s⟩
    · unfold fS_fault
      rw [k]
      rfl
    · unfold fR_fault
      rw [if_neg (by rw [e]; decide)]
