/-! ===== rise, shows, most ===== -/
theorem Rel.sums {q r g s : Mh} (hC : Core g r) (z8 : g 53 8 = 0) (w : waysOK g) (hs : sumsOK g) (hr : sameR r s) : Rel g s := ⟨hC.same (sameC.refl g) hr, fun _ => w, fun _ => hs⟩
theorem riseOKR.thrown {r s : Mh} (h : riseOKR r) (hr : sameR r s) : riseOKR s := by
  have hR := hr.ref
  obtain ⟨a, b, c, d, e, f, g⟩ := h
  have e0 : ∀ j, ¬ (j = 2 ∨ j = 73 ∨ (88 ≤ j ∧ j ≤ 90) ∨ j = 94 ∨ j = 95) → s 0 j = r 0 j := fun j hj => hr 0 j (by decide) (fun z => hj z.2)
  have er : ∀ o, ¬ (o = 28 ∨ o = 29 ∨ (35 ≤ o ∧ o ≤ 38)) → o ≠ 0 → s o = r o := fun o h1 h2 => hr.row h1 h2
  refine ⟨hR.pr a, wayR_congr (fun j h1 h2 => e0 j (by omega)) (er 5 (by decide) (by decide)) (er 30 (by decide) (by decide)) (er 31 (by decide) (by decide)) b, ?_, ?_, ?_, ?_, ?_⟩
  · rw [e0 23 (by decide)]; exact c
  · rw [e0 77 (by decide), er 32 (by decide) (by decide)]; exact d
  · rw [e0 14 (by decide)]
    refine ⟨e.1, fun k k0 k1 => ?_⟩
    have := e.2 k k0 k1
    unfold kndR at this ⊢
    rw [er 10 (by decide) (by decide), er 12 (by decide) (by decide)]
    exact this
  · rw [e0 76 (by decide), er 17 (by decide) (by decide), er 18 (by decide) (by decide), er 19 (by decide) (by decide)]
    exact ⟨f.1, f.2.1, fun d d0 d1 => (f.2.2 d d0 d1).same a hR⟩
  · rw [e0 79 (by decide), e0 80 (by decide), e0 81 (by decide)]
    exact fun z => (g z).same a hR
theorem FA_sameR {r s : Mh} (hr : sameR r s) : FA s = FA r := by
  funext a b
  unfold FA
  rw [hr 0 12 (by decide) (by decide), hr 0 13 (by decide) (by decide), hr 0 21 (by decide) (by decide), hr 0 22 (by decide) (by decide), hr.row (o := 5) (by decide) (by decide)]
theorem lsum_sameR {r s : Mh} (hr : sameR r s) : lsum s = lsum r := by
  have e : rgiv s = rgiv r := by
    funext k a c n
    unfold rgiv
    rw [FA_sameR hr, hr.row (o := 10) (by decide) (by decide), hr.row (o := 12) (by decide) (by decide), hr.row (o := 32) (by decide) (by decide), hr 0 23 (by decide) (by decide), hr 0 77 (by decide) (by decide)]
  funext c t
  unfold lsum rsum
  rw [e, hr.row (o := 17) (by decide) (by decide), hr.row (o := 18) (by decide) (by decide), hr.row (o := 19) (by decide) (by decide), hr 0 76 (by decide) (by decide), hr 0 79 (by decide) (by decide), hr 0 80 (by decide) (by decide), hr 0 81 (by decide) (by decide)]
theorem watT {r : Mh} (c : Int) : wat (up r 0 2 0 0 12) (up r 0 2 0 0 13) (up r 0 2 0 5) c ↔ watR r c := by
  rw [up_slot (by decide), up_slot (by decide), up_other (by decide)]
theorem szT {r : Mh} (h : szs (r 0 12) (r 0 13)) : szs (up r 0 2 0 0 12) (up r 0 2 0 0 13) := by rw [up_slot (by decide), up_slot (by decide)]; exact h
theorem wi_waterT {r : Mh} (h : szs (r 0 12) (r 0 13)) (c : Int) (K : Int → Mh → Prop) : wp_X14_isWater c (up r 0 2 0) K = K (if watR r c then 1 else 0) (up r 0 2 0) := by
  rw [wi_isWater (szT h)]
  by_cases k : watR r c
  · rw [if_pos k, if_pos ((watT c).mpr k)]
  · rw [if_neg k, if_neg (fun z => k ((watT c).mp z))]
theorem wi_cellT {r : Mh} (h : szs (r 0 12) (r 0 13)) (c : Int) (K : Int → Mh → Prop) : wp_X14_isCell c (up r 0 2 0) K = K (if 0 ≤ c ∧ c < r 0 12 * r 0 13 then 1 else 0) (up r 0 2 0) := by
  rw [wi_isCell (szT h), up_slot (by decide), up_slot (by decide)]
/-- the reference's rise at a cell, with the thrown taken back -/
theorem riseT {q r : Mh} (h : Core q r) {c t : Int} {K : Int → Mh → Prop} (c0 : 0 ≤ c) (c1 : c < 48) (t0 : 0 ≤ t) (t1 : t ≤ 1000) (hK : K (csum q c t) (up r 0 2 0)) : wp_X14_riseIn c t (up r 0 2 0) K := by
  refine sp_riseIn (h.ro.thrown (sameR.thrown r)) c0 c1 t0 t1 ?_
  rw [lsum_sameR (sameR.thrown r), h.ls]
  exact hK
theorem op_rise {q r : Mh} (a b : Int) (h : Rel q r) : wp_X13_rise a b q (fun x q' => wp_X14_rise a b r (fun y r' => x = y ∧ Rel q' r')) := by
  have hd := h.1.2.2.1.1
  have hg := h.1.2.2.2.1
  have hm := szs_mul hd.2.2.2.2.1.1
  have h0 : Rel q (up r 0 2 0) := h.thrown (sameR.thrown r)
  have no : ¬ (watR r a ∧ 0 ≤ b ∧ b ≤ 199) → wp_X14_rise a b r (fun y r' => -2147483648 = y ∧ Rel q r') := by
    intro hn
    unfold wp_X14_rise
    intro r1 e1
    subst e1
    rw [wi_waterT hd.2.2.2.2.1.1]
    by_cases ka : watR r a
    · rw [if_pos ka, if_neg (by decide), wi_isStep]
      have : (if b < 0 then (0 : Int) else if 199 < b then 0 else 1) = 0 := by
        by_cases k : b < 0
        · rw [if_pos k]
        · rw [if_neg k, if_pos]
          have : ¬ (0 ≤ b ∧ b ≤ 199) := fun z => hn ⟨ka, z⟩
          omega
      rw [this, if_pos rfl]
      exact ⟨rfl, h0⟩
    · rw [if_neg ka, if_pos rfl]
      exact ⟨rfl, h0⟩
  unfold wp_X13_rise
  refine ⟨isP_4 hd.1, ?_⟩
  rw [wi_wet hd hg]
  by_cases ka : watR r a
  · rw [if_pos ka, if_neg (by decide), wi_stepC]
    by_cases kb : 0 ≤ b ∧ b ≤ 199
    · rw [if_neg (show ¬ b < 0 by omega), if_neg (show ¬ 199 < b by omega), if_pos (by decide)]
      refine sp_freshenSums h ?_
      intro g hC z8 z9 w hs hsame
      have a1 : a < 48 := by have := ka.2.1; omega
      rw [wi_sumAt ka.1 a1 kb.1 (by omega)]
      unfold wp_X14_rise
      intro r1 e1
      subst e1
      rw [wi_waterT hd.2.2.2.2.1.1, if_pos ka, if_neg (by decide), wi_isStep, if_neg (show ¬ b < 0 by omega), if_neg (show ¬ 199 < b by omega), if_neg (by decide)]
      refine riseT hC ka.1 a1 kb.1 (by omega) ?_
      have hdg := hC.2.2.1.1
      exact ⟨hs a b ka.1 (by rw [hdg.2.2.1, hdg.2.2.2.1]; exact ka.2.1) kb.1 (by omega), Rel.sums (q := q) hC z8 w hs (sameR.thrown r)⟩
    · have : (if b < 0 then (0 : Int) else if 199 < b then 0 else 1) = 0 := by
        by_cases k : b < 0
        · rw [if_pos k]
        · rw [if_neg k, if_pos (by omega)]
      rw [this, if_neg (fun z => z rfl)]
      exact no (fun z => kb z.2)
  · rw [if_neg ka, if_pos rfl]
    exact no (fun z => ka z.1)
theorem op_shows {q r : Mh} (a b : Int) (h : Rel q r) : wp_X13_shows a b q (fun x q' => wp_X14_shows a b r (fun y r' => x = y ∧ Rel q' r')) := by
  have hd := h.1.2.2.1.1
  have hg := h.1.2.2.2.1
  have hm := szs_mul hd.2.2.2.2.1.1
  have hK := h.1.2.2.1.2.2.2.1
  have h0 : Rel q (up r 0 2 0) := h.thrown (sameR.thrown r)
  have h6 := hK.2.1
  have e15 : up r 0 2 0 0 15 = r 0 15 := up_slot (by decide)
  unfold wp_X13_shows
  refine ⟨isP_4 hd.1, ?_⟩
  rw [wi_has, hK.1.1]
  by_cases ka : 0 ≤ a ∧ a < r 0 15
  · rw [if_neg (show ¬ a < 0 by omega), if_neg (show ¬ r 0 15 ≤ a by omega), if_pos (by decide)]
    refine ⟨isP_4 hd.1, ?_⟩
    have hsz : (shC (q 53 0 + 27 + 1)).2 = 6 := by rcases hd.1 with e | e <;> rw [e] <;> decide
    rw [wi_orZero (by rw [hK.2.2.1.1, hsz]; exact h6), hK.2.2.1.rf]
    have er : rsf (r 0 15) (fun j => r 14 (0 + j)) a = r 14 a := by unfold rsf; rw [if_neg (by omega), if_neg (by omega)]; simp
    rw [er]
    have hw := hK.2.2.2 a ka.1 ka.2
    have hr := op_rise (r 14 a) b h
    -- the class goes on as rise does
    have conv : ∀ y q', wp_X14_rise (r 14 a) b r (fun z r' => y = z ∧ Rel q' r') → wp_X14_shows a b r (fun z r' => y = z ∧ Rel q' r') := by
      intro y q' hh
      unfold wp_X14_shows
      intro r1 e1
      subst e1
      rw [wi_isCork, e15, if_neg (show ¬ a < 0 by omega), if_neg (show ¬ r 0 15 ≤ a by omega), if_neg (by decide)]
      have hh2 := hh _ rfl
      rw [wi_waterT hd.2.2.2.2.1.1, if_pos hw, if_neg (by decide)] at hh2
      rw [wi_isStep] at hh2 ⊢
      have e14 : up r 0 2 0 14 a = r 14 a := by rw [up_other (by decide)]
      by_cases kb : 0 ≤ b ∧ b ≤ 199
      · rw [if_neg (show ¬ b < 0 by omega), if_neg (show ¬ 199 < b by omega), if_neg (by decide)] at hh2 ⊢
        exact ⟨⟨ka.1, by omega⟩, by rw [e14]; exact hh2⟩
      · have : (if b < 0 then (0 : Int) else if 199 < b then 0 else 1) = 0 := by
          by_cases k : b < 0
          · rw [if_pos k]
          · rw [if_neg k, if_pos (by omega)]
        rw [this, if_pos rfl] at hh2 ⊢
        exact hh2
    unfold wp_X13_rise at hr ⊢
    obtain ⟨hr1, hr2⟩ := hr
    refine ⟨hr1, ?_⟩
    rw [wi_wet hd hg, if_pos hw, if_neg (by decide), wi_stepC] at hr2 ⊢
    by_cases kb : 0 ≤ b ∧ b ≤ 199
    · rw [if_neg (show ¬ b < 0 by omega), if_neg (show ¬ 199 < b by omega), if_pos (by decide)] at hr2 ⊢
      refine sp_freshenSums h ?_
      intro g hC z8 z9 w hs hsame
      have a1 : r 14 a < 48 := by have := hw.2.1; omega
      rw [wi_sumAt hw.1 a1 kb.1 (by omega)]
      refine conv _ _ ?_
      unfold wp_X14_rise
      intro r1 e1
      subst e1
      rw [wi_waterT hd.2.2.2.2.1.1, if_pos hw, if_neg (by decide), wi_isStep, if_neg (show ¬ b < 0 by omega), if_neg (show ¬ 199 < b by omega), if_neg (by decide)]
      refine riseT hC hw.1 a1 kb.1 (by omega) ?_
      have hdg := hC.2.2.1.1
      exact ⟨hs _ b hw.1 (by rw [hdg.2.2.1, hdg.2.2.2.1]; exact hw.2.1) kb.1 (by omega), Rel.sums (q := q) hC z8 w hs (sameR.thrown r)⟩
    · have e0 : (if b < 0 then (0 : Int) else if 199 < b then 0 else 1) = 0 := by
        by_cases k : b < 0
        · rw [if_pos k]
        · rw [if_neg k, if_pos (by omega)]
      rw [e0, if_neg (fun z => z rfl)] at hr2 ⊢
      exact conv _ _ hr2
  · have e0 : (if a < 0 then (0 : Int) else if r 0 15 ≤ a then 0 else 1) = 0 := by
      by_cases k : a < 0
      · rw [if_pos k]
      · rw [if_neg k, if_pos (by omega)]
    rw [e0, if_neg (fun z => z rfl)]
    unfold wp_X14_shows
    intro r1 e1
    subst e1
    rw [wi_isCork, e15, e0, if_pos rfl]
    exact ⟨rfl, h0⟩
/-- the first step with the greatest (sign 1) or the least (sign -1) of f, from b at t on -/
def peak (f : Int → Int) (s : Int) : Nat → Int → Int → Int
  | 0, _, b => b
  | n + 1, t, b => peak f s n (t + 1) (if s * f b < s * f t then t else b)
theorem peak_r {f : Int → Int} {s : Int} : ∀ (n : Nat) (t b : Int), 0 ≤ b → b < t → t + n = 200 → 0 ≤ peak f s n t b ∧ peak f s n t b < 200 := by
  intro n
  induction n with
  | zero => intro t b b0 bt hn; unfold peak; omega
  | succ n ih =>
    intro t b b0 bt hn
    unfold peak
    split
    · exact ih (t + 1) t (by omega) (by omega) (by omega)
    · exact ih (t + 1) b b0 (by omega) (by omega)
theorem sp_peakStep {c s : Int} {q : Mh} {K : Int → Mh → Prop} (c0 : 0 ≤ c) (c1 : c < 48) (hs : s = 1 ∨ s = -1) (hb : ∀ t, 0 ≤ t → t < 200 → -100000 ≤ q 120 (200 * c + t) ∧ q 120 (200 * c + t) ≤ 100000) (hk : K (peak (fun t => q 120 (200 * c + t)) s 199 1 0) q) : wp_X6_peakStep c s q K := by
  have loop : ∀ (n : Nat) (t b : Int), 0 ≤ b → b < t → t + n = 200 → K (peak (fun t => q 120 (200 * c + t)) s n t b) q → Lfp (F_X6_peakStep c s K) (5, [b, t], q) := by
    intro n
    induction n with
    | zero =>
      intro t b b0 bt hn hk
      apply L_X6_peakStep_5
      unfold B_X6_peakStep_5
      rw [if_pos (by omega)]
      exact hk
    | succ n ih =>
      intro t b b0 bt hn hk
      apply L_X6_peakStep_5
      unfold B_X6_peakStep_5
      rw [if_neg (by omega), wi_sumAt c0 c1 (by omega) (by omega), wi_sumAt c0 c1 b0 (by omega)]
      have h1 := hb t (by omega) (by omega)
      have h2 := hb b (by omega) (by omega)
      have w1 : w32 (s * q 120 (200 * c + t)) = s * q 120 (200 * c + t) := by rcases hs with z | z <;> rw [z] <;> exact w32_eq (by omega) (by omega)
      have w2 : w32 (s * q 120 (200 * c + b)) = s * q 120 (200 * c + b) := by rcases hs with z | z <;> rw [z] <;> exact w32_eq (by omega) (by omega)
      rw [w1, w2]
      unfold peak at hk
      by_cases k : s * q 120 (200 * c + t) ≤ s * q 120 (200 * c + b)
      · rw [if_pos k]
        rw [if_neg (by omega)] at hk
        intro x ex
        rw [w32_eq (by omega) (by omega)] at ex
        subst ex
        exact ih (t + 1) b b0 (by omega) (by omega) hk
      · rw [if_neg k]
        rw [if_pos (by omega)] at hk
        intro x ex
        rw [w32_eq (by omega) (by omega)] at ex
        subst ex
        exact ih (t + 1) t (by omega) (by omega) (by omega) hk
  exact loop 199 1 0 (by omega) (by omega) (by omega) hk
theorem j_rem2 {w : Int} (h0 : 0 ≤ w) (h1 : w ≤ 3) : j_rem w 2 = w % 2 := by
  have : w = 0 ∨ w = 1 ∨ w = 2 ∨ w = 3 := by omega
  rcases this with e | e | e | e <;> rw [e] <;> decide
theorem op_most {q r : Mh} (a b : Int) (h : Rel q r) : wp_X13_most a b q (fun x q' => wp_X14_most a b r (fun y r' => x = y ∧ Rel q' r')) := by
  have hd := h.1.2.2.1.1
  have hg := h.1.2.2.2.1
  have hm := szs_mul hd.2.2.2.2.1.1
  have h0 : Rel q (up r 0 2 0) := h.thrown (sameR.thrown r)
  have no : ¬ (watR r a ∧ 0 ≤ b ∧ b ≤ 3) → wp_X14_most a b r (fun y r' => -2147483648 = y ∧ Rel q r') := by
    intro hn
    unfold wp_X14_most
    intro r1 e1
    subst e1
    rw [wi_waterT hd.2.2.2.2.1.1]
    by_cases ka : watR r a
    · rw [if_pos ka, if_neg (by decide), wi_isIn]
      have : (if b < 0 then (0 : Int) else if 3 < b then 0 else 1) = 0 := by
        by_cases k : b < 0
        · rw [if_pos k]
        · rw [if_neg k, if_pos]
          have : ¬ (0 ≤ b ∧ b ≤ 3) := fun z => hn ⟨ka, z⟩
          omega
      rw [this, if_neg (fun z => z rfl)]
      exact ⟨rfl, h0⟩
    · rw [if_neg ka, if_pos rfl]
      exact ⟨rfl, h0⟩
  unfold wp_X13_most
  refine ⟨isP_4 hd.1, ?_⟩
  rw [wi_wet hd hg]
  by_cases ka : watR r a
  · rw [if_pos ka, if_neg (by decide)]
    by_cases kb : b < 0
    · rw [if_pos kb]
      exact no (fun z => by have := z.2.1; omega)
    · rw [if_neg kb]
      by_cases kc : b ≤ 3
      · rw [if_pos kc]
        refine sp_freshenSums h ?_
        intro g hC z8 z9 w hs hsame
        have hdg := hC.2.2.1.1
        have a0 := ka.1
        have a1 : a < 48 := by have := ka.2.1; omega
        have hb : ∀ t, 0 ≤ t → t < 200 → g 120 (200 * a + t) = csum g a t := fun t t0 t1 => hs a t a0 (by rw [hdg.2.2.1, hdg.2.2.2.1]; exact ka.2.1) t0 t1
        have hbb : ∀ t, 0 ≤ t → t < 200 → -100000 ≤ g 120 (200 * a + t) ∧ g 120 (200 * a + t) ≤ 100000 := fun t t0 t1 => by
          have := csum_le hC a t
          rw [hb t t0 t1]; omega
        -- the reference's walk
        have walk : ∀ (n : Nat) (t o v : Int) (s : Int) (K : Int → Mh → Prop), (s = if 2 ≤ b then -1 else 1) → 0 ≤ o → o < t → t + n = 200 → v = g 120 (200 * a + o) → K (if b % 2 = 0 then g 120 (200 * a + peak (fun t => g 120 (200 * a + t)) s n t o) else peak (fun t => g 120 (200 * a + t)) s n t o) (up r 0 2 0) → Lfp (F_X14_most a b K) (39, [v, o, t], up r 0 2 0) := by
          intro n
          induction n with
          | zero =>
            intro t o v s K es o0 ot hn hv hk
            apply L_X14_most_39
            unfold B_X14_most_39
            rw [if_pos (by omega), j_rem2 (by omega) kc]
            unfold peak at hk
            by_cases e : b % 2 = 0
            · rw [if_neg (fun z => z e), hv]
              rw [if_pos e] at hk
              exact hk
            · rw [if_pos e]
              rw [if_neg e] at hk
              exact hk
          | succ n ih =>
            intro t o v s K es o0 ot hn hv hk
            apply L_X14_most_39
            unfold B_X14_most_39
            rw [if_neg (by omega)]
            refine riseT hC a0 a1 (by omega) (by omega) ?_
            rw [← hb t (by omega) (by omega)]
            unfold peak at hk
            have yes : K (if b % 2 = 0 then g 120 (200 * a + peak (fun t => g 120 (200 * a + t)) s n (t + 1) t) else peak (fun t => g 120 (200 * a + t)) s n (t + 1) t) (up r 0 2 0) → Lfp (F_X14_most a b K) (86, [v, o, t, g 120 (200 * a + t), 1], up r 0 2 0) := by
              intro hk2
              apply L_X14_most_86
              unfold B_X14_most_86
              rw [if_neg (by decide), if_neg (by decide)]
              intro x ex
              rw [w32_eq (by omega) (by omega)] at ex
              subst ex
              exact ih (t + 1) t _ s K es (by omega) (by omega) (by omega) rfl hk2
            have nay : K (if b % 2 = 0 then g 120 (200 * a + peak (fun t => g 120 (200 * a + t)) s n (t + 1) o) else peak (fun t => g 120 (200 * a + t)) s n (t + 1) o) (up r 0 2 0) → Lfp (F_X14_most a b K) (86, [v, o, t, g 120 (200 * a + t), 0], up r 0 2 0) := by
              intro hk2
              apply L_X14_most_86
              unfold B_X14_most_86
              rw [if_pos rfl, if_pos rfl]
              intro x ex
              rw [w32_eq (by omega) (by omega)] at ex
              subst ex
              exact ih (t + 1) o _ s K es (by omega) (by omega) (by omega) hv hk2
            by_cases k2 : 2 ≤ b
            · rw [if_pos k2] at es ⊢
              rw [es] at hk
              by_cases k3 : v ≤ g 120 (200 * a + t)
              · rw [if_pos k3]
                rw [if_neg (show ¬ (-1 * g 120 (200 * a + o) < -1 * g 120 (200 * a + t)) by omega)] at hk
                rw [es] at nay
                exact nay hk
              · rw [if_neg k3]
                rw [if_pos (show -1 * g 120 (200 * a + o) < -1 * g 120 (200 * a + t) by omega)] at hk
                rw [es] at yes
                exact yes hk
            · rw [if_neg k2] at es ⊢
              rw [es] at hk
              by_cases k3 : g 120 (200 * a + t) ≤ v
              · rw [if_pos k3]
                rw [if_neg (show ¬ (1 * g 120 (200 * a + o) < 1 * g 120 (200 * a + t)) by omega)] at hk
                rw [es] at nay
                exact nay hk
              · rw [if_neg k3]
                rw [if_pos (show 1 * g 120 (200 * a + o) < 1 * g 120 (200 * a + t) by omega)] at hk
                rw [es] at yes
                exact yes hk
        have fin : ∀ s : Int, (s = if 2 ≤ b then -1 else 1) → Lfp (F_X13_most a b (fun x q' => wp_X14_most a b r (fun y r' => x = y ∧ Rel q' r'))) (43, [s], g) := by
          intro s es
          have ss : s = 1 ∨ s = -1 := by rw [es]; split <;> omega
          have pr := peak_r (f := fun t => g 120 (200 * a + t)) (s := s) 199 1 0 (by omega) (by omega) (by omega)
          have ref : ∀ x, x = (if b % 2 = 0 then g 120 (200 * a + peak (fun t => g 120 (200 * a + t)) s 199 1 0) else peak (fun t => g 120 (200 * a + t)) s 199 1 0) → wp_X14_most a b r (fun y r' => x = y ∧ Rel g r') := by
            intro x ex
            unfold wp_X14_most
            intro r1 e1
            subst e1
            rw [wi_waterT hd.2.2.2.2.1.1, if_pos ka, if_neg (by decide), wi_isIn, if_neg (show ¬ b < 0 by omega), if_neg (show ¬ 3 < b by omega), if_pos (by decide)]
            refine riseT hC a0 a1 (by omega) (by omega) ?_
            rw [← hb 0 (by omega) (by omega)]
            exact walk 199 1 0 _ s _ es (by omega) (by omega) (by omega) rfl ⟨ex, Rel.sums (q := q) hC z8 w hs (sameR.thrown r)⟩
          apply L_X13_most_43
          unfold B_X13_most_43
          refine sp_peakStep a0 a1 ss hbb ?_
          by_cases b0 : b = 0
          · rw [if_pos b0, wi_sumAt a0 a1 pr.1 pr.2]
            exact ref _ (by rw [if_pos (by omega)])
          · rw [if_neg b0]
            by_cases b2 : b = 2
            · rw [if_neg (fun z => z b2), wi_sumAt a0 a1 pr.1 pr.2]
              exact ref _ (by rw [if_pos (by omega)])
            · rw [if_pos b2]
              exact ref _ (by rw [if_neg (by omega)])
        by_cases k2 : 2 ≤ b
        · rw [if_pos k2]
          exact fin (-1) (by rw [if_pos k2])
        · rw [if_neg k2]
          exact fin 1 (by rw [if_neg k2])
      · rw [if_neg kc]
        exact no (fun z => kc z.2.2)
  · rw [if_neg ka, if_pos rfl]
    exact no (fun z => ka z.1)
