/-! ===== a cell, read by both ===== -/
def silR (r s : Mh) : Prop := (∀ o, ¬ o = 0 → s o = r o) ∧ ∀ j, ¬ (7 ≤ j ∧ j ≤ 11) → ¬ j = 37 → ¬ j = 62 → s 0 j = r 0 j
theorem silR.refl (r : Mh) : silR r r := ⟨fun _ _ => rfl, fun _ _ _ _ => rfl⟩
theorem silR_up {r s : Mh} {k v : Int} (h : silR r s) (a : (7 ≤ k ∧ k ≤ 11) ∨ k = 37 ∨ k = 62) : silR r (up s 0 k v) := ⟨fun o b => by rw [up_other b]; exact h.1 o b, fun j b c d => by rw [up_slot (by omega)]; exact h.2 j b c d⟩
theorem silR_tok {r s : Mh} (h : silR r s) : silR r (tokR s) := ⟨fun o b => by rw [tokR_o b]; exact h.1 o b, fun j b c d => by rw [tokR_j (by omega)]; exact h.2 j b c d⟩
theorem silR.fx {r0 r s : Mh} (h : silR r s) (f : fxR r0 r) : fxR r0 s :=
  ⟨fun j a b c => by rw [h.2 j (by omega) (by omega) (by omega)]; exact f.1 j a b c, by rw [h.1 1 (by decide)]; exact f.2.1, by rw [h.1 2 (by decide)]; exact f.2.2.1, fun o a => by rw [h.1 o (by omega)]; exact f.2.2.2.1 o a, fun o j a b c d => by rw [h.1 o (by omega)]; exact f.2.2.2.2 o j a b c d⟩
theorem shC_P {p : Int} (h : isP p) : (shC p).1 = 4 := by
  rcases h with e | e <;> rw [e] <;> rfl
theorem P_ne {p : Int} (h : isP p) : ¬ p = 49 ∧ ¬ p = 46 := by
  unfold isP at h; omega
def wcC (pl : Int) (q : Mh) : Mh := up (up q 46 2 5) 46 3 pl
def wcR (r : Mh) : Mh := wgR 5 (up r 0 10 (r 0 62))
theorem run_wrongCell {r : Mh} {K : Int → Mh → Prop} (hk : K 0 (wcR r)) : wp_X14_wrongCell r K := by
  unfold wp_X14_wrongCell
  intro h1 q1
  rw [q1]
  exact run_wrong hk
theorem PBad.cell {q0 r0 q r : Mh} {pl : Int} (hc : fxC q0 q) (hr : fxR r0 r) (hp : isP (q0 46 1)) (e : r 0 62 = pl) : PBad q0 r0 (wcC pl q) (wcR r) := by
  unfold wcC wcR wgR
  refine ⟨fxC_up (fxC_up hc (Or.inl (by omega)) hp) (Or.inl (by omega)) hp, fxR_0 (fxR_0 (fxR_0 hr (by omega)) (by omega)) (by omega), ?_, ?_, ?_⟩
  · rw [up_slot (by decide), up_self, up_slot (by decide), up_self]
  · rw [up_self, up_self, up_self]; exact e.symm
  · rw [up_slot (by decide), up_self]; decide
theorem tw_cell {B : Int → Int} {n : Int} {m a : Nat} {q0 r0 q r : Mh} {fb w hh : Int} (h : PTok B n m a q r) (hc : fxC q0 q) (hr : fxR r0 r) (hp : isP (q0 46 1)) (hw : q (q0 46 1) 0 = w) (hw2 : r 0 25 = w) (hh1 : q (q0 46 1) 1 = hh) (hh2 : r 0 26 = hh) (hz : szs w hh) :
    (∃ q' r', PBad q0 r0 q' r' ∧ (∀ j, 25 ≤ j → j ≤ 36 → r' 0 j = r 0 j) ∧ (∀ K : Int → Mh → Prop, K (-1) q' → wp_X9_readCell fb q K) ∧ (∀ K : Int → Mh → Prop, K 0 r' → wp_X14_cellRead r K)) ∨
    (∃ c pl r', 0 ≤ c ∧ c < w * hh ∧ a + 2 ≤ m ∧ PTok B n m (a + 2) (advC (advC q)) r' ∧ silR r r' ∧ r' 0 11 = c ∧ r' 0 37 = 1 ∧ r' 0 62 = pl ∧ (bit fb c = false → ∀ K : Int → Mh → Prop, K c (advC (advC q)) → wp_X9_readCell fb q K) ∧ (bit fb c = true → ∀ K : Int → Mh → Prop, K (-1) (wcC pl (advC (advC q))) → wp_X9_readCell fb q K) ∧ (∀ K : Int → Mh → Prop, K 1 r' → wp_X14_cellRead r K)) := by
  have hP : q 46 1 = q0 46 1 := hc.1
  have sP := shC_P hp
  have nP := P_ne hp
  have mz := szs_mul hz
  obtain ⟨⟨w0, w8⟩, h0, h6⟩ := hz
  have h37 := h.up11 (k := 37) (v := 1) (by omega)
  have s37 : silR r (up r 0 37 1) := silR_up (silR.refl r) (by omega)
  have d1 : w32 (q (q 46 1) 0 - 1) = w - 1 := by rw [hP, hw, w32_eq (by omega) (by omega)]
  have d2 : w32 (up r 0 37 1 0 25 - 1) = w - 1 := by rw [up_slot (by decide), hw2, w32_eq (by omega) (by omega)]
  rcases tw_num (lo := 0) (hi := w - 1) h37 (by omega) with ⟨x, x0, x1, _, am, hx, cx, rx⟩ | ⟨e, e0, cx, rx⟩
  · -- the first number stands
    have P2 : advC q 46 1 = q0 46 1 := by rw [advC_o (by decide)]; exact hP
    have P3 : advC q (q0 46 1) = q (q0 46 1) := advC_o nP.1
    obtain ⟨r2, e2⟩ : ∃ r2, r2 = tokR (up (up r 0 37 1) 0 11 x) := ⟨_, rfl⟩
    rw [← e2] at hx rx
    have s2 : silR r r2 := by rw [e2]; exact silR_tok (silR_up s37 (by omega))
    have r211 : r2 0 11 = x := by rw [e2, tokR_j (by omega), up_self]
    have r237 : r2 0 37 = 1 := by rw [e2, tokR_j (by omega), up_slot (by decide), up_self]
    have pl := hx.see.1
    have hy := hx.up11 (k := 62) (v := r2 0 10) (by omega)
    have d3 : w32 (advC q (advC q 46 1) 1 - 1) = hh - 1 := by rw [P2, P3, hh1, w32_eq (by omega) (by omega)]
    have d4 : w32 (up r2 0 62 (r2 0 10) 0 26 - 1) = hh - 1 := by rw [up_slot (by decide), s2.2 26 (by omega) (by omega) (by omega), hh2, w32_eq (by omega) (by omega)]
    -- how both begin
    have begC : ∀ K : Int → Mh → Prop, wp_X9_readNumber 0 (hh - 1) (advC q) (fun x3 h2 => Lfp (F_X9_readCell fb K) (46, [x, r2 0 10, x3], h2)) → wp_X9_readCell fb q K := by
      intro K hk
      unfold wp_X9_readCell
      refine ⟨by rw [hP]; exact sP, ?_⟩
      rw [d1]
      refine cx _ ?_
      intro x2 ex2
      rw [pl] at ex2
      rw [if_pos x0, ex2, d3]
      exact ⟨by rw [P2]; exact sP, hk⟩
    have begR : ∀ K : Int → Mh → Prop, wp_X14_number 0 (hh - 1) (up r2 0 62 (r2 0 10)) (fun x3 h4 => if ¬ x3 = 0 then (∀ h5 : Mh, h5 = up h4 0 11 (w32 (w32 ((h4 0 25) * (h4 0 11)) + x)) → K 1 h5) else (K 0 h4)) → wp_X14_cellRead r K := by
      intro K hk
      unfold wp_X14_cellRead
      intro h1 q1
      rw [q1, d2]
      refine rx _ ?_
      rw [if_pos (by decide), r211]
      intro x2 ex2 h3 q3
      rw [q3, d4, ex2]
      exact hk
    rcases tw_num (lo := 0) (hi := hh - 1) hy (by omega) with ⟨y, y0, y1, _, bm, hz2, cy, ry⟩ | ⟨e, e0, cy, ry⟩
    · right
      have cm : w * y + x = w * y + x := rfl
      have wy := wy_r (w := w) (hh := hh) (x := x) (y := y) ⟨⟨w0, w8⟩, h0, h6⟩ x0 (by omega) y0 (by omega)
      obtain ⟨r4, e4⟩ : ∃ r4, r4 = tokR (up (up r2 0 62 (r2 0 10)) 0 11 y) := ⟨_, rfl⟩
      rw [← e4] at hz2 ry
      have s4 : silR r r4 := by rw [e4]; exact silR_tok (silR_up (silR_up s2 (by omega)) (by omega))
      have P4 : advC (advC q) 46 1 = q0 46 1 := by rw [advC_o (by decide)]; exact P2
      have P5 : advC (advC q) (q0 46 1) = q (q0 46 1) := by rw [advC_o nP.1]; exact P3
      have cc : w32 (w32 (y * advC (advC q) (advC (advC q) 46 1) 0) + x) = w * y + x := by
        rw [P4, P5, hw, Int.mul_comm y w, w32_eq (x := w * y) (by omega) (by omega), w32_eq (by omega) (by omega)]
      have rc : w32 (w32 (r4 0 25 * r4 0 11) + x) = w * y + x := by
        have g11 : r4 0 11 = y := by rw [e4, tokR_j (by omega), up_self]
        rw [s4.2 25 (by omega) (by omega) (by omega), hw2, g11, w32_eq (x := w * y) (by omega) (by omega), w32_eq (by omega) (by omega)]
      refine ⟨w * y + x, r2 0 10, up r4 0 11 (w * y + x), by omega, by omega, by omega, hz2.up11 (by omega), silR_up s4 (by omega), up_self, ?_, ?_, ?_, ?_, ?_⟩
      · rw [up_slot (by decide), e4, tokR_j (by omega), up_slot (by decide), up_slot (by decide)]; exact r237
      · rw [up_slot (by decide), e4, tokR_j (by omega), up_slot (by decide), up_self]
      · intro hb K hk
        refine begC K (cy _ ?_)
        apply L_X9_readCell_46
        unfold B_X9_readCell_46
        rw [if_pos y0, cc]
        refine ⟨by rw [P4]; exact sP, ?_⟩
        intro x1 ex1
        rw [ex1, if_pos ((bit_test (by omega) (by omega)).mpr hb)]
        exact hk
      · intro hb K hk
        refine begC K (cy _ ?_)
        apply L_X9_readCell_46
        unfold B_X9_readCell_46
        rw [if_pos y0, cc]
        refine ⟨by rw [P4]; exact sP, ?_⟩
        intro x1 ex1
        rw [ex1, if_neg (fun z => by rw [(bit_test (by omega) (by omega)).mp z] at hb; cases hb)]
        intro h1 q1 h2 q2
        rw [q2, q1]
        exact hk
      · intro K hk
        refine begR K (ry _ ?_)
        rw [if_pos (by decide), rc]
        intro h5 q5
        rw [q5]
        exact hk
    · left
      refine ⟨_, _, PBad.of hy (fxC_adv hc hp) (fxR_0 (s2.fx hr) (by omega)) hp e0, fun j j0 j1 => by unfold wgR; rw [up_slot (by omega), up_slot (by omega), up_slot (by omega), s2.2 j (by omega) (by omega) (by omega)], fun K hk => begC K (cy _ ?_), fun K hk => begR K (ry _ ?_)⟩
      · apply L_X9_readCell_46
        unfold B_X9_readCell_46
        rw [if_neg (by decide)]
        exact hk
      · rw [if_neg (by decide)]; exact hk
  · left
    refine ⟨_, _, PBad.of h37 hc (fxR_0 hr (by omega)) hp e0, fun j j0 j1 => by unfold wgR; rw [up_slot (by omega), up_slot (by omega), up_slot (by omega)], fun K hk => ?_, fun K hk => ?_⟩
    · unfold wp_X9_readCell
      refine ⟨by rw [hP]; exact sP, ?_⟩
      rw [d1]
      refine cx _ ?_
      intro x2 _
      rw [if_neg (by decide)]
      apply L_X9_readCell_46
      unfold B_X9_readCell_46
      rw [if_neg (by decide)]
      exact hk
    · unfold wp_X14_cellRead
      intro h1 q1
      rw [q1, d2]
      refine rx _ ?_
      rw [if_neg (by decide)]; exact hk
