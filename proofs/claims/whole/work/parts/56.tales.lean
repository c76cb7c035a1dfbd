/-! ===== the class walks the tales ===== -/
theorem sp_add1 {o k c t : Int} {q : Mh} {K : Mh → Prop} (h0 : q o 3 = 0) (s1 : 1 ≤ (shC (o + 1)).2) (s2 : 1 ≤ (shC (o + 2)).2) (s3 : 1 ≤ (shC (o + 3)).2) (hk : ∀ g, (∀ b, ¬ (o ≤ b ∧ b ≤ o + 3) → g b = q b) → g o 3 = 1 → g (o + 1) 0 = k → g (o + 2) 0 = c → g (o + 3) 0 = t → K g) : wp_X1_add shC o k c t q K := by
  unfold wp_X1_add
  rw [h0, if_neg (by decide), if_neg (by omega)]
  refine ⟨⟨by omega, by omega⟩, ?_⟩
  intro g1 e1
  have m1 : g1 o 3 = 0 := by rw [e1, up_other (by omega)]; exact h0
  rw [m1]
  refine ⟨⟨by omega, by omega⟩, ?_⟩
  intro g2 e2
  have m2 : g2 o 3 = 0 := by rw [e2, up_other (by omega)]; exact m1
  rw [m2]
  refine ⟨⟨by omega, by omega⟩, ?_⟩
  intro g3 e3
  have m3 : g3 o 3 = 0 := by rw [e3, up_other (by omega)]; exact m2
  rw [m3]
  intro g4 e4
  refine hk g4 (fun b hb => ?_) ?_ ?_ ?_ ?_
  · rw [e4, up_other (by omega), e3, up_other (by omega), e2, up_other (by omega), e1, up_other (by omega)]
  · rw [e4, up_self]; rfl
  · rw [e4, up_other (by omega), e3, up_other (by omega), e2, up_other (by omega), e1, up_self]
  · rw [e4, up_other (by omega), e3, up_other (by omega), e2, up_self]
  · rw [e4, up_other (by omega), e3, up_self]
/-- a tale in a row of one, told by a number -/
def taleAt (r g : Mh) (o x : Int) : Prop := g o 3 = 1 ∧ 0 ≤ g (o + 1) 0 ∧ g (o + 1) 0 < r 0 14 ∧ 0 ≤ g (o + 2) 0 ∧ g (o + 2) 0 < 48 ∧ 0 ≤ g (o + 3) 0 ∧ g (o + 3) 0 < 21 ∧ x = 1008 * g (o + 1) 0 + 21 * g (o + 2) 0 + g (o + 3) 0
theorem taleAt.same {r g k : Mh} {o x : Int} (h : taleAt r g o x) (e : ∀ b, o ≤ b → b ≤ o + 3 → k b = g b) : taleAt r k o x := by
  unfold taleAt at h ⊢
  rw [e o (by omega) (by omega), e (o + 1) (by omega) (by omega), e (o + 2) (by omega) (by omega), e (o + 3) (by omega) (by omega)]
  exact h
def asOK (r : Mh) (w : Int) (S : T3) (g : Mh) : Prop := (¬ (0 ≤ w ∧ w < S.1) → g 128 3 = 0 ∧ S.2.1 = -1) ∧ ((0 ≤ w ∧ w < S.1) → taleAt r g 128 S.2.1)
def frG (q g : Mh) : Prop := ∀ o, ¬ (128 ≤ o ∧ o ≤ 141) → g o = q o
theorem frG.trans {q g k : Mh} (h1 : frG q g) (h2 : frG g k) : frG q k := fun o h => (h2 o h).trans (h1 o h)
theorem frG.sc {q g : Mh} (h : frG q g) : sameC q g := fun o j a b c d => by rw [h o (by omega)]
theorem frG.pond {q g : Mh} (h : frG q g) (hp : isP (q 53 0)) : g (q 53 0) = q (q 53 0) := by
  rcases hp with e | e <;> exact h _ (by omega)
theorem frG.ways {q g : Mh} (h : frG q g) (hp : isP (q 53 0)) (hw : waysOK q) : waysOK g := waysOK_congr (by rw [h 53 (by decide)]) (by rw [h 53 (by decide)]) (h.pond hp) (h 116 (by decide)) (h 117 (by decide)) (h 118 (by decide)) hw
theorem frG.sights {r q g : Mh} (h : frG q g) (hs : sightsOK r q) : sightsOK r g := by
  unfold sightsOK at hs ⊢
  rw [h 113 (by decide), h 114 (by decide)]
  exact hs
theorem t2_succ (w : Int) (od : Int → Int) (wt : Int → Bool) (ok : Int → Int → Bool) (k : Int) (n : Nat) (a : Int) (S : T3) : t2 w od wt ok k (n + 1) a S = t2 w od wt ok k n (a + 1) (if wt a = true then t3 w od (ok a) k a 21 0 S else S) := rfl
theorem t1_succ (w : Int) (od : Int → Int) (wt : Int → Bool) (ok : Int → Int → Int → Bool) (c n : Nat) (k : Int) (S : T3) : t1 w od wt ok c (n + 1) k S = t1 w od wt ok c n (k + 1) (t2 w od wt (ok k) k c 0 S) := rfl
/-- the first tale of the kind, and what the likeliest is by it -/
def cmpOK (r : Mh) (od : Int → Int) (k : Int) (S0 S : T3) (g : Mh) : Prop := (S.1 = S0.1 ∧ S.2.2 = S0.2.2 ∧ g 138 3 = 0) ∨ (S0.1 < S.1 ∧ ∃ C, taleAt r g 138 C ∧ g 139 0 = k ∧ S.2.2 = if S0.2.2 < 0 ∨ od (S0.2.2 / 1008) < od k then C else S0.2.2)
theorem sp_walkCells {r q : Mh} {k w : Int} {S0 : T3} {K : Int → Mh → Prop} (h : Core q r) (hw : waysOK q) (hs : sightsOK r q) (k0 : 0 ≤ k) (k1 : k < r 0 14) (hS0 : 0 ≤ S0.1 ∧ S0.1 ≤ 100000) (ha : asOK r w S0 q)
    (hk : ∀ g S, S = t2 w (r 11) (wtr r) (tl r k) k (r 0 12 * r 0 13).toNat 0 S0 → frG q g → (∀ b, 132 ≤ b → b ≤ 135 → g b = q b) → asOK r w S g → cmpOK r (r 11) k S0 S g → S.1 ≤ S0.1 + 1008 → K S.1 g) : wp_X2_walkCells k S0.1 w 113 q K := by
  have hd := h.2.2.1.1
  have hm := szs_mul hd.2.2.2.2.1.1
  have hKn := h.2.2.1.2.2.1
  have h4 := hKn.2.1
  let St : T3 → Mh → Prop := fun S g => frG q g ∧ (∀ b, 132 ≤ b → b ≤ 135 → g b = q b) ∧ asOK r w S g ∧ cmpOK r (r 11) k S0 S g ∧ S0.1 ≤ S.1
  have steps : ∀ (n : Nat) (a t : Int) (S : T3) (g : Mh), 0 ≤ a → watR r a → 0 ≤ t → t + n = 21 → S.1 + n ≤ 1000000 → St S g → (∀ S' g', S' = t3 w (r 11) (tl r k a) k a n t S → S'.1 ≤ S.1 + n → St S' g' → Lfp (F_X2_walkCells k S0.1 w 113 K) (13, [S'.1, a + 1], g')) → Lfp (F_X2_walkCells k S0.1 w 113 K) (31, [S.1, a, t], g) := by
    intro n
    induction n with
    | zero =>
      intro a t S g a0 hwa t0 hn hc hS hz
      apply L_X2_walkCells_31
      unfold B_X2_walkCells_31
      have := hwa.2.1
      rw [if_pos (by omega)]
      intro x ex
      rw [w32_eq (by omega) (by omega)] at ex
      subst ex
      exact hz S g rfl (by omega) hS
    | succ n ih =>
      intro a t S g a0 hwa t0 hn hc hS hz
      have a1 := hwa.2.1
      apply L_X2_walkCells_31
      unfold B_X2_walkCells_31
      obtain ⟨f, f2, s3, s4, s5⟩ := id hS
      have hg : Core g r := h.same f.sc (sameR.refl r)
      have hdg := hg.2.2.1.1
      rw [if_neg (by omega)]
      refine ⟨isP_4 hdg.1, ?_⟩
      rw [wi_wet hdg hg.2.2.2.1, if_pos hwa, if_neg (by decide)]
      refine sp_isTale hg (f.ways hd.1 hw) (f.sights hs) k0 k1 a0 (by omega) t0 (by omega) ?_
      unfold t3 at hz
      by_cases b : tl r k a t = true
      · rw [b, show b01 true = 1 from rfl, if_pos (by decide)]
        rw [if_pos b] at hz
        -- on to the next step
        have nxt : ∀ g', St (tstep w (r 11) k (1008 * k + 21 * a + t) S) g' → ∀ x : Int, x = w32 (S.1 + 1) → ∀ y : Int, y = w32 (t + 1) → Lfp (F_X2_walkCells k S0.1 w 113 K) (31, [x, a, y], g') := by
          intro g' hS' x ex y ey
          rw [w32_eq (by omega) (by omega)] at ex
          rw [w32_eq (by omega) (by omega)] at ey
          subst ex; subst ey
          exact ih a (t + 1) (tstep w (r 11) k (1008 * k + 21 * a + t) S) g' a0 hwa (by omega) (by omega) (by show S.1 + 1 + n ≤ 1000000; omega) hS' (fun S' u' h1 h2 h3 => hz S' u' h1 (by have h2' : S'.1 ≤ S.1 + 1 + n := h2; omega) h3)
        -- the tale asked for
        have ask : ∀ g', frG q g' → (∀ b, 132 ≤ b → b ≤ 135 → g' b = q b) → (∀ b, 128 ≤ b → b ≤ 131 → g' b = g b) → (∀ g2, (∀ b, ¬ (128 ≤ b ∧ b ≤ 131) → g2 b = g' b) → cmpOK r (r 11) k S0 (tstep w (r 11) k (1008 * k + 21 * a + t) S) g2) → if ¬ S.1 = w then (∀ x : Int, x = w32 (S.1 + 1) → ∀ y : Int, y = w32 (t + 1) → Lfp (F_X2_walkCells k S0.1 w 113 K) (31, [x, a, y], g')) else (wp_X1_add shC 128 k a t g' (fun h3 => ∀ x : Int, x = w32 (S.1 + 1) → ∀ y : Int, y = w32 (t + 1) → Lfp (F_X2_walkCells k S0.1 w 113 K) (31, [x, a, y], h3))) := by
          intro g' f' f2' e' hc'
          by_cases y : S.1 = w
          · rw [if_neg (fun z => z y)]
            have n0 := s3.1 (by omega)
            refine sp_add1 (by rw [e' 128 (by decide) (by decide)]; exact n0.1) (by decide) (by decide) (by decide) ?_
            intro g2 g2f v3 v4 v5 v6
            have g2f' : ∀ b, ¬ (128 ≤ b ∧ b ≤ 131) → g2 b = g' b := fun b hb => g2f b (by omega)
            refine nxt g2 ⟨fun o ho => by rw [g2f' o (by omega), f' o ho], fun b b0 b1 => by rw [g2f' b (by omega), f2' b b0 b1], ⟨fun z => ?_, fun z => ?_⟩, hc' g2 g2f', by show S0.1 ≤ S.1 + 1; omega⟩
            · exfalso
              have : ¬ (0 ≤ w ∧ w < S.1 + 1) := z
              have := hS0.1
              omega
            · unfold tstep taleAt
              dsimp only
              rw [if_pos y, v3, v4, v5, v6]
              exact ⟨rfl, k0, k1, a0, by omega, t0, by omega, rfl⟩
          · rw [if_pos y]
            refine nxt g' ⟨f', f2', ⟨fun z => ?_, fun z => ?_⟩, hc' g' (fun _ _ => rfl), by show S0.1 ≤ S.1 + 1; omega⟩
            · have z' : ¬ (0 ≤ w ∧ w < S.1 + 1) := z
              have n0 := s3.1 (by omega)
              unfold tstep
              dsimp only
              rw [if_neg y, e' 128 (by decide) (by decide)]
              exact n0
            · have z' : 0 ≤ w ∧ w < S.1 + 1 := z
              unfold tstep
              dsimp only
              rw [if_neg y]
              exact (s3.2 (by omega)).same e'
        by_cases y : S.1 = S0.1
        · rw [if_neg (fun z => z y)]
          rcases s4 with ⟨c1, c2, c3⟩ | ⟨c1, _⟩
          · refine sp_add1 c3 (by decide) (by decide) (by decide) ?_
            intro g2 g2f v3 v4 v5 v6
            refine ask g2 (fun o ho => by rw [g2f o (by omega), f o ho]) (fun b b0 b1 => by rw [g2f b (by omega), f2 b b0 b1]) (fun b b0 b1 => g2f b (by omega)) ?_
            intro g3 g3f
            right
            refine ⟨by show S0.1 < S.1 + 1; omega, 1008 * k + 21 * a + t, ?_, ?_, ?_⟩
            · unfold taleAt
              rw [g3f 138 (by decide), g3f (138 + 1) (by decide), g3f (138 + 2) (by decide), g3f (138 + 3) (by decide), v3, v4, v5, v6]
              exact ⟨rfl, k0, k1, a0, by omega, t0, by omega, rfl⟩
            · rw [g3f 139 (by decide)]; exact v4
            · unfold tstep
              dsimp only
              rw [c2]
          · omega
        · rw [if_pos y]
          rcases s4 with ⟨c1, _⟩ | ⟨c1, C, c2, c3, c4⟩
          · exact absurd c1 y
          · refine ask g f f2 (fun _ _ _ => rfl) ?_
            intro g3 g3f
            right
            refine ⟨by show S0.1 < S.1 + 1; omega, C, c2.same (fun b b0 b1 => g3f b (by omega)), by rw [g3f 139 (by decide)]; exact c3, ?_⟩
            obtain ⟨d1, d2, d3, d4, d5, d6, d7, d8⟩ := c2
            have eC : C / 1008 = k := by
              have : g (138 + 1) 0 = k := c3
              omega
            have C0 : 0 ≤ C := by omega
            unfold tstep
            dsimp only
            rw [c4]
            by_cases z : S0.2.2 < 0 ∨ r 11 (S0.2.2 / 1008) < r 11 k
            · rw [if_pos z, eC, if_neg (by omega)]
            · rw [if_neg z, if_neg z]
      · have bf : tl r k a t = false := by simpa using b
        rw [bf, show b01 false = 0 from rfl, if_neg (fun z => z rfl)]
        rw [if_neg b] at hz
        intro x ex
        rw [w32_eq (by omega) (by omega)] at ex
        subst ex
        exact ih a (t + 1) S g a0 hwa (by omega) (by omega) (by omega) hS (fun S' u' h1 h2 h3 => hz S' u' h1 (by omega) h3)
  have cells : ∀ (n : Nat) (a : Int) (S : T3) (g : Mh), 0 ≤ a → a + n = r 0 12 * r 0 13 → S.1 + 21 * n ≤ S0.1 + 1008 → St S g → t2 w (r 11) (wtr r) (tl r k) k n a S = t2 w (r 11) (wtr r) (tl r k) k (r 0 12 * r 0 13).toNat 0 S0 → Lfp (F_X2_walkCells k S0.1 w 113 K) (13, [S.1, a], g) := by
    intro n
    induction n with
    | zero =>
      intro a S g a0 hn hc hS hz
      apply L_X2_walkCells_13
      unfold B_X2_walkCells_13 wp_X5_cells
      obtain ⟨f, f2, s3, s4, s5⟩ := id hS
      have hg : Core g r := h.same f.sc (sameR.refl r)
      have hdg := hg.2.2.1.1
      refine ⟨isP_4 hdg.1, ?_⟩
      dsimp only
      rw [hdg.2.2.1, hdg.2.2.2.1, w32_eq (by omega) (by omega), if_pos (by omega)]
      exact hk g S hz f f2 s3 s4 (by omega)
    | succ n ih =>
      intro a S g a0 hn hc hS hz
      apply L_X2_walkCells_13
      unfold B_X2_walkCells_13 wp_X5_cells
      obtain ⟨f, f2, s3, s4, s5⟩ := id hS
      have hg : Core g r := h.same f.sc (sameR.refl r)
      have hdg := hg.2.2.1.1
      refine ⟨isP_4 hdg.1, ?_⟩
      dsimp only
      rw [hdg.2.2.1, hdg.2.2.2.1, w32_eq (by omega) (by omega), if_neg (by omega)]
      rw [t2_succ] at hz
      have hS1 := hS0.2
      by_cases hl : r 5 a = 2
      · have wf : wtr r a = false := by unfold wtr; simp [hl]
        rw [wf, if_neg (by decide)] at hz
        apply L_X2_walkCells_31
        unfold B_X2_walkCells_31
        rw [if_neg (by decide)]
        refine ⟨isP_4 hdg.1, ?_⟩
        rw [wi_wet hdg hg.2.2.2.1, if_neg (show ¬ watR r a from fun z => z.2.2 hl), if_pos rfl]
        intro x ex
        rw [w32_eq (by omega) (by omega)] at ex
        subst ex
        exact ih (a + 1) S g (by omega) (by omega) (by omega) hS hz
      · have wt : wtr r a = true := by unfold wtr; simp [hl]
        rw [wt, if_pos rfl] at hz
        refine steps 21 a 0 S g a0 ⟨a0, by omega, hl⟩ (by omega) (by omega) (by omega) hS ?_
        intro S' g' h1 h2 h3
        exact ih (a + 1) S' g' (by omega) (by omega) (by omega) h3 (by rw [h1]; exact hz)
  unfold wp_X2_walkCells wp_X1_clear
  intro g1 e1
  have f1 : frG q g1 := fun o ho => by rw [e1, up_other (by omega)]
  refine cells (r 0 12 * r 0 13).toNat 0 S0 g1 (by omega) (by omega) (by omega) ⟨f1, fun b b0 b1 => by rw [e1, up_other (by omega)], ⟨fun z => ?_, fun z => ?_⟩, Or.inl ⟨rfl, rfl, by rw [e1, up_self]⟩, Int.le_refl _⟩ rfl
  · rw [e1, up_other (by decide)]; exact ha.1 z
  · exact (ha.2 z).same (fun b b0 b1 => by rw [e1, up_other (by omega)])
/-- the likeliest so far -/
def lkOK (r : Mh) (S : T3) (most : Int) (g : Mh) : Prop := (S.2.2 = -1 ∧ S.1 = 0 ∧ most = 0) ∨ (0 < S.1 ∧ taleAt r g 132 S.2.2 ∧ most = r 11 (g 133 0))
theorem sp_walkTales {r q : Mh} {w : Int} {K : Int → Mh → Prop} (h : Core q r) (hw : waysOK q)
    (hk : ∀ g S, S = t1 w (r 11) (wtr r) (tl r) (r 0 12 * r 0 13).toNat (r 0 14).toNat 0 (0, -1, -1) → (∀ o, ¬ (112 ≤ o ∧ o ≤ 114) → ¬ (128 ≤ o ∧ o ≤ 141) → g o = q o) → asOK r w S g → (∃ m, lkOK r S m g) → 0 ≤ S.1 → K S.1 g) : wp_X2_walkTales w q K := by
  have hd := h.2.2.1.1
  have hm := szs_mul hd.2.2.2.2.1.1
  have hKn := h.2.2.1.2.2.1
  have h4 := hKn.2.1
  have h40 := hKn.1.2.1
  unfold wp_X2_walkTales
  refine sp_knownSights h.2.2.2.2.2.2.2.1 ?_
  intro q1 f1 hs1
  have hC1 : Core q1 r := h.same f1.sc (sameR.refl r)
  have hd1 := hC1.2.2.1.1
  have hw1 : waysOK q1 := by
    have ep : q1 (q 53 0) = q (q 53 0) := by rcases hd.1 with e | e <;> exact f1 _ (by omega)
    exact waysOK_congr (by rw [f1 53 (by decide)]) (by rw [f1 53 (by decide)]) ep (f1 116 (by decide)) (f1 117 (by decide)) (f1 118 (by decide)) hw
  let St : T3 → Int → Mh → Prop := fun S m g => frG q1 g ∧ asOK r w S g ∧ lkOK r S m g ∧ 0 ≤ S.1
  have kinds : ∀ (n : Nat) (k m : Int) (S : T3) (g : Mh), 0 ≤ k → k + n = r 0 14 → S.1 + 1008 * n ≤ 5000 → St S m g → t1 w (r 11) (wtr r) (tl r) (r 0 12 * r 0 13).toNat n k S = t1 w (r 11) (wtr r) (tl r) (r 0 12 * r 0 13).toNat (r 0 14).toNat 0 (0, -1, -1) → Lfp (F_X2_walkTales w K) (30, [113, m, S.1, k], g) := by
    intro n
    induction n with
    | zero =>
      intro k m S g k0 hn hc hS hz
      apply L_X2_walkTales_30
      unfold B_X2_walkTales_30
      obtain ⟨f, s3, s4, s5⟩ := id hS
      have hg : Core g r := hC1.same f.sc (sameR.refl r)
      refine ⟨isP_4 hg.2.2.1.1.1, ?_⟩
      rw [hg.2.2.1.2.2.1.1.1, if_pos (by omega)]
      exact hk g S hz (fun o a b => by rw [f o b, f1 o a]) s3 ⟨m, s4⟩ s5
    | succ n ih =>
      intro k m S g k0 hn hc hS hz
      apply L_X2_walkTales_30
      unfold B_X2_walkTales_30
      obtain ⟨f, s3, s4, s5⟩ := id hS
      have hg : Core g r := hC1.same f.sc (sameR.refl r)
      refine ⟨isP_4 hg.2.2.1.1.1, ?_⟩
      rw [hg.2.2.1.2.2.1.1.1, if_neg (by omega)]
      refine sp_walkCells hg (f.ways hd1.1 hw1) (f.sights hs1) k0 (by omega) ⟨s5, by omega⟩ s3 ?_
      intro g' S' e' f' f2' a' c' b'
      have fg := f.trans f'
      have hg' : Core g' r := hC1.same fg.sc (sameR.refl r)
      have hKg := hg'.2.2.1.2.2.1
      have hdg := hg'.2.2.1.1
      refine ⟨isP_4 hdg.1, ?_⟩
      have s23 : (shC (g' 53 0 + 23 + 1)).2 = 4 := by rcases hdg.1 with e | e <;> rw [e] <;> decide
      rw [wi_orZero (by rw [hKg.2.2.1.1, s23]; exact h4), hKg.2.2.1.rf]
      have er : rsf (r 0 14) (fun j => r 11 (0 + j)) k = r 11 k := by unfold rsf; rw [if_neg (by omega), if_neg (by omega)]; simp
      rw [er]
      have od := hKn.2.2.2 k k0 (by omega)
      rw [t1_succ, ← e'] at hz
      have S0' : 0 ≤ S'.1 := by rcases c' with ⟨z, _⟩ | ⟨z, _⟩ <;> omega
      have keep : lkOK r S' m g' → ∀ x : Int, x = w32 (k + 1) → Lfp (F_X2_walkTales w K) (30, [113, m, S'.1, x], g') := by
        intro hl x ex
        rw [w32_eq (by omega) (by omega)] at ex
        subst ex
        exact ih (k + 1) m S' g' (by omega) (by omega) (by omega) ⟨fg, a', hl, S0'⟩ hz
      by_cases y : S'.1 ≤ S.1
      · rw [if_pos y]
        refine keep ?_
        rcases c' with ⟨c1, c2, _⟩ | ⟨c1, _⟩
        · rcases s4 with ⟨l1, l2, l3⟩ | ⟨l1, l2, l3⟩
          · left; exact ⟨by rw [c2]; exact l1, by omega, l3⟩
          · right
            refine ⟨by omega, ?_, by rw [f2' 133 (by decide) (by decide)]; exact l3⟩
            rw [c2]
            exact l2.same (fun b b0 b1 => f2' b b0 (by omega))
        · omega
      · rw [if_neg y]
        rcases c' with ⟨c1, _⟩ | ⟨c1, C, c2, c3, c4⟩
        · omega
        · by_cases z : r 11 k ≤ m
          · rw [if_pos z]
            refine keep ?_
            rcases s4 with ⟨l1, l2, l3⟩ | ⟨l1, l2, l3⟩
            · have := od.1; omega
            · right
              obtain ⟨d1, d2, d3, d4, d5, d6, d7, d8⟩ := id l2
              have eL : S.2.2 / 1008 = g 133 0 := by
                have : g (132 + 1) 0 = g 133 0 := rfl
                omega
              rw [eL, ← l3, if_neg (by omega)] at c4
              refine ⟨by omega, ?_, by rw [f2' 133 (by decide) (by decide)]; exact l3⟩
              rw [c4]
              exact l2.same (fun b b0 b1 => f2' b b0 (by omega))
          · rw [if_neg z]
            have d1 := c2.1
            refine sp_copyOf rfl (by decide) (by rw [d1]; decide) (by rw [d1]; decide) (by rw [d1]; decide) (by rw [d1]; decide) (by rw [d1]; decide) (by rw [d1]; decide) (by rw [d1]; decide) (by rw [d1]; decide) ?_
            intro x ex
            rw [w32_eq (by omega) (by omega)] at ex
            subst ex
            have fd : ∀ o, ¬ (132 ≤ o ∧ o ≤ 135) → dcopy g' 132 138 o = g' o := by
              intro o ho
              funext j
              unfold dcopy
              rw [if_neg (by omega), if_neg (by omega), if_neg (by omega), if_neg (by omega)]
            have v0 : dcopy g' 132 138 132 3 = 1 := by unfold dcopy; rw [if_pos ⟨rfl, rfl⟩]; exact d1
            have v1 : dcopy g' 132 138 133 0 = g' 139 0 := by unfold dcopy; rw [if_neg (by decide), if_pos ⟨by decide, by decide, by rw [d1]; decide⟩]; rfl
            have v2 : dcopy g' 132 138 134 0 = g' 140 0 := by unfold dcopy; rw [if_neg (by decide), if_neg (by omega), if_pos ⟨by decide, by decide, by rw [d1]; decide⟩]; rfl
            have v3 : dcopy g' 132 138 135 0 = g' 141 0 := by unfold dcopy; rw [if_neg (by decide), if_neg (by omega), if_neg (by omega), if_pos ⟨by decide, by decide, by rw [d1]; decide⟩]; rfl
            have lik : S'.2.2 = C := by
              rw [c4]
              rcases s4 with ⟨l1, l2, l3⟩ | ⟨l1, l2, l3⟩
              · rw [if_pos (by omega)]
              · obtain ⟨e1, e2, e3, e4, e5, e6, e7, e8⟩ := id l2
                have eL : S.2.2 / 1008 = g 133 0 := by
                  have : g (132 + 1) 0 = g 133 0 := rfl
                  omega
                rw [eL, ← l3, if_pos (by omega)]
            refine ih (k + 1) (r 11 k) S' (dcopy g' 132 138) (by omega) (by omega) (by omega) ⟨fun o ho => by rw [fd o (by omega), fg o ho], ⟨fun y => ?_, fun y => ?_⟩, Or.inr ⟨by omega, ?_, by rw [v1, c3]⟩, S0'⟩ hz
            · rw [fd 128 (by decide)]; exact a'.1 y
            · exact (a'.2 y).same (fun b b0 b1 => fd b (by omega))
            · rw [lik]
              obtain ⟨e1, e2, e3, e4, e5, e6, e7, e8⟩ := c2
              exact ⟨v0, by show 0 ≤ dcopy g' 132 138 133 0; rw [v1]; exact e2, by show dcopy g' 132 138 133 0 < _; rw [v1]; exact e3, by show 0 ≤ dcopy g' 132 138 134 0; rw [v2]; exact e4, by show dcopy g' 132 138 134 0 < _; rw [v2]; exact e5, by show 0 ≤ dcopy g' 132 138 135 0; rw [v3]; exact e6, by show dcopy g' 132 138 135 0 < _; rw [v3]; exact e7, by show C = 1008 * dcopy g' 132 138 133 0 + 21 * dcopy g' 132 138 134 0 + dcopy g' 132 138 135 0; rw [v1, v2, v3]; exact e8⟩
  unfold wp_X1_clear
  intro g1 e1 g2 e2
  refine kinds (r 0 14).toNat 0 0 (0, -1, -1) g2 (by omega) (by omega) (by show (0 : Int) + _ ≤ _; omega) ⟨fun o ho => by rw [e2, up_other (by omega), e1, up_other (by omega)], ⟨fun _ => ⟨?_, rfl⟩, fun z => ?_⟩, Or.inl ⟨rfl, rfl, rfl⟩, Int.le_refl _⟩ rfl
  · rw [e2, up_other (by decide), e1, up_self]
  · exfalso
    have : (0 : Int) ≤ w ∧ w < 0 := z
    omega
