/-! ===== tales, tale, likeliest ===== -/
theorem j_rem_pos {a b : Int} (h0 : 0 ≤ a) (h1 : a < 2147483648) (b0 : 0 < b) (b1 : b < 2147483648) : j_rem a b = a % b := by
  unfold j_rem
  have ha := i32_toInt (a := a) ⟨by omega, h1⟩
  have hb := i32_toInt (a := b) ⟨by omega, b1⟩
  have q0 : 0 ≤ a / b := Int.ediv_nonneg h0 (by omega)
  have q1 : a / b ≤ a := Int.ediv_le_self b h0
  have m0 : a % b = a - b * (a / b) := Int.emod_def a b
  have m1 : 0 ≤ a % b := Int.emod_nonneg a (by omega)
  have m2 : a / b * b = b * (a / b) := Int.mul_comm _ _
  have m3 : 0 ≤ b * (a / b) := Int.mul_nonneg (by omega) q0
  rw [Int32.toInt_sub, Int32.toInt_mul, Int32.toInt_div, ha, hb, Int.tdiv_eq_ediv_of_nonneg h0, ← w32_bmod, ← w32_bmod, ← w32_bmod, w32_eq (x := a / b) (by omega) (by omega), m2, w32_eq (x := b * (a / b)) (by omega) (by omega), w32_eq (by omega) (by omega), m0]
theorem Rel.keep {q r g s : Mh} (h : Rel q r) (hq : sameC q g) (e53 : g 53 = q 53) (e6 : g 116 = q 116) (e7 : g 117 = q 117) (e8 : g 118 = q 118) (e0 : g 120 = q 120) (hr : sameR r s) : Rel g s := by
  have hC : Core g r := h.1.same hq (sameR.refl r)
  have hP := hq.pond h.1.2.2.1.1.1
  have ep : g (q 53 0) = q (q 53 0) := hP.2 _ (by omega) (by omega)
  refine ⟨hC.same (sameC.refl g) hr, fun z => ?_, fun z => ?_⟩
  · rw [e53] at z
    exact waysOK_congr (by rw [e53]) (by rw [e53]) ep e6 e7 e8 (h.2.1 z)
  · rw [e53] at z
    have hs := h.2.2 z
    intro c t c0 c1 t0 t1
    rw [e53, ep] at c1
    rw [e0, hs c t c0 c1 t0 t1, csum_rsum h.1, csum_rsum hC]
theorem keepT {q r g u : Mh} (h : Rel q r) (hq : ∀ o, ¬ (112 ≤ o ∧ o ≤ 114) → ¬ (128 ≤ o ∧ o ≤ 141) → g o = q o) (hr : sameR r u) : Rel g u := by
  refine h.keep (fun o j a b c d => ?_) (hq 53 (by decide) (by decide)) (hq 116 (by decide) (by decide)) (hq 117 (by decide) (by decide)) (hq 118 (by decide) (by decide)) (hq 120 (by decide) (by decide)) hr
  rw [hq o a (by omega)]
theorem op_tales {q r : Mh} (h : Rel q r) : wp_X13_tales q (fun x q' => wp_X14_tales r (fun y r' => x = y ∧ Rel q' r')) := by
  unfold wp_X13_tales
  refine sp_freshenWays h.1.2.2.1.1.cp h.2.1 ?_
  intro g f z w
  have hR := h.fw f w (sameR.refl r)
  refine sp_walkTales hR.1 w ?_
  intro g' S eS fg _ _ _
  unfold wp_X14_tales
  intro r1 e1
  subst e1
  refine sp_layTales hR.1 (sameR.thrown r) ?_
  intro u S' eS' hu v1 _ _
  refine ⟨?_, keepT hR fg hu⟩
  rw [v1, eS, eS']
theorem sp_told {r u : Mh} {x w : Int} {K : Int → Mh → Prop} {k a s : Int} (k0 : 0 ≤ k) (k1 : k < 8) (a0 : 0 ≤ a) (a1 : a < 48) (s0 : 0 ≤ s) (s1 : s < 21) (hx : x = 1008 * k + 21 * a + s) (hK : K (if w = 0 then k else if w = 1 then a else s) u) : wp_X14_told x w u K := by
  unfold wp_X14_told
  have e1 : j_div x 1008 = k := by unfold j_div; rw [Int.tdiv_eq_ediv_of_nonneg (by omega), w32_eq (by omega) (by omega)]; omega
  have e2 : j_div x 21 = 48 * k + a := by unfold j_div; rw [Int.tdiv_eq_ediv_of_nonneg (by omega), w32_eq (by omega) (by omega)]; omega
  have e3 : j_rem x 21 = s := by
    rw [j_rem_pos (by omega) (by omega) (by decide) (by decide)]; omega
  have e4 : j_rem (48 * k + a) 48 = a := by
    rw [j_rem_pos (by omega) (by omega) (by decide) (by decide)]; omega
  rw [if_pos (by omega)]
  by_cases w0 : w = 0
  · rw [if_neg (fun z => z w0), e1]
    rw [if_pos w0] at hK
    exact hK
  · rw [if_pos w0]
    rw [if_neg w0] at hK
    by_cases w1 : w = 1
    · rw [if_neg (fun z => z w1), e2, e4]
      rw [if_pos w1] at hK
      exact hK
    · rw [if_pos w1, e3]
      rw [if_neg w1] at hK
      exact hK
theorem sp_part1 {r g : Mh} {o x w : Int} {K : Int → Mh → Prop} (h : taleAt r g o x) (w0 : 0 ≤ w) (w2 : w ≤ 2) (s1 : 1 ≤ (shC (o + 1)).2) (s2 : 1 ≤ (shC (o + 2)).2) (s3 : 1 ≤ (shC (o + 3)).2) (hK : K (if w = 0 then g (o + 1) 0 else if w = 1 then g (o + 2) 0 else g (o + 3) 0) g) : wp_X1_part shC o 0 w g K := by
  unfold wp_X1_part
  rw [if_neg (by decide), h.1, if_pos (by decide)]
  by_cases c0 : w = 0
  · rw [if_pos c0]
    rw [if_pos c0] at hK
    exact ⟨⟨by decide, by omega⟩, hK⟩
  · rw [if_neg c0]
    rw [if_neg c0] at hK
    by_cases c1 : w = 1
    · rw [if_pos c1]
      rw [if_pos c1] at hK
      exact ⟨⟨by decide, by omega⟩, hK⟩
    · rw [if_neg c1, if_pos (by omega)]
      rw [if_neg c1] at hK
      exact ⟨⟨by decide, by omega⟩, hK⟩
theorem op_tale {q r : Mh} (a b : Int) (h : Rel q r) : wp_X13_tale a b q (fun x q' => wp_X14_tale a b r (fun y r' => x = y ∧ Rel q' r')) := by
  have h0 : Rel q (up r 0 2 0) := h.thrown (sameR.thrown r)
  have h4 := h.1.2.2.1.2.2.1.2.1
  unfold wp_X13_tale
  have no : ¬ (0 ≤ a ∧ 0 ≤ b ∧ b ≤ 2) → wp_X14_tale a b r (fun y r' => -1 = y ∧ Rel q r') := by
    intro hn
    unfold wp_X14_tale
    intro r1 e1
    subst e1
    by_cases ka : a < 0
    · rw [if_pos ka]; exact ⟨rfl, h0⟩
    · rw [if_neg ka, wi_isIn]
      have : (if b < 0 then (0 : Int) else if 2 < b then 0 else 1) = 0 := by
        by_cases k : b < 0
        · rw [if_pos k]
        · rw [if_neg k, if_pos (by omega)]
      rw [this, if_neg (fun z => z rfl)]
      exact ⟨rfl, h0⟩
  by_cases ka : a < 0
  · rw [if_pos ka]; exact no (by omega)
  · rw [if_neg ka]
    by_cases kb : b < 0
    · rw [if_pos kb]; exact no (by omega)
    · rw [if_neg kb]
      by_cases kc : b ≤ 2
      · rw [if_pos kc]
        refine sp_freshenWays h.1.2.2.1.1.cp h.2.1 ?_
        intro g f z w
        have hR := h.fw f w (sameR.refl r)
        refine sp_walkTales hR.1 w ?_
        intro g' S eS fg as _ S0
        have ref : ∀ x, (∀ u (K : Int → Mh → Prop), u 0 89 = S.2.1 → K x u → wp_X14_told (u 0 89) b u K) → wp_X14_tale a b r (fun y r' => x = y ∧ Rel g' r') := by
          intro x hx
          unfold wp_X14_tale
          intro r1 e1
          subst e1
          rw [if_neg ka, wi_isIn, if_neg kb, if_neg (show ¬ 2 < b by omega), if_pos (by decide)]
          refine sp_layTales hR.1 (sameR.thrown r) ?_
          intro u S' eS' hu v1 v2 v3
          exact hx u _ (by rw [v2, eS', eS]) ⟨rfl, keepT hR fg hu⟩
        by_cases y : S.1 ≤ a
        · rw [if_pos y]
          refine ref (-2) (fun u K hu hK => ?_)
          have := as.1 (by omega)
          unfold wp_X14_told
          rw [hu, this.2, if_neg (by decide)]
          exact hK
        · rw [if_neg y]
          have ta := as.2 (by omega)
          obtain ⟨d1, d2, d3, d4, d5, d6, d7, d8⟩ := id ta
          refine sp_part1 ta (by omega) kc (by decide) (by decide) (by decide) ?_
          refine ref _ (fun u K hu hK => ?_)
          rw [hu]
          exact sp_told (r := r) d2 (by omega) d4 d5 d6 d7 d8 hK
      · rw [if_neg kc]; exact no (by omega)
theorem op_likeliest {q r : Mh} (b : Int) (h : Rel q r) : wp_X13_likeliest b q (fun x q' => wp_X14_likeliest b r (fun y r' => x = y ∧ Rel q' r')) := by
  have h0 : Rel q (up r 0 2 0) := h.thrown (sameR.thrown r)
  have h4 := h.1.2.2.1.2.2.1.2.1
  unfold wp_X13_likeliest
  have no : ¬ (0 ≤ b ∧ b ≤ 2) → wp_X14_likeliest b r (fun y r' => -1 = y ∧ Rel q r') := by
    intro hn
    unfold wp_X14_likeliest
    intro r1 e1
    subst e1
    rw [wi_isIn]
    have : (if b < 0 then (0 : Int) else if 2 < b then 0 else 1) = 0 := by
      by_cases k : b < 0
      · rw [if_pos k]
      · rw [if_neg k, if_pos (by omega)]
    rw [this, if_neg (fun z => z rfl)]
    exact ⟨rfl, h0⟩
  by_cases kb : b < 0
  · rw [if_pos kb]; exact no (by omega)
  · rw [if_neg kb]
    by_cases kc : b ≤ 2
    · rw [if_pos kc]
      refine sp_freshenWays h.1.2.2.1.1.cp h.2.1 ?_
      intro g f z w
      have hR := h.fw f w (sameR.refl r)
      refine sp_walkTales hR.1 w ?_
      intro g' S eS fg _ lk S0
      have ref : ∀ x, (∀ u (K : Int → Mh → Prop), u 0 90 = S.2.2 → K x u → wp_X14_told (u 0 90) b u K) → wp_X14_likeliest b r (fun y r' => x = y ∧ Rel g' r') := by
        intro x hx
        unfold wp_X14_likeliest
        intro r1 e1
        subst e1
        rw [wi_isIn, if_neg kb, if_neg (show ¬ 2 < b by omega), if_pos (by decide)]
        refine sp_layTales hR.1 (sameR.thrown r) ?_
        intro u S' eS' hu v1 v2 v3
        exact hx u _ (by rw [v3, eS', eS]) ⟨rfl, keepT hR fg hu⟩
      obtain ⟨m, lk⟩ := lk
      rcases lk with ⟨l1, l2, l3⟩ | ⟨l1, l2, l3⟩
      · rw [if_pos (by omega)]
        refine ref (-2) (fun u K hu hK => ?_)
        unfold wp_X14_told
        rw [hu, l1, if_neg (by decide)]
        exact hK
      · rw [if_neg (by omega)]
        obtain ⟨d1, d2, d3, d4, d5, d6, d7, d8⟩ := id l2
        refine sp_part1 l2 (by omega) kc (by decide) (by decide) (by decide) ?_
        refine ref _ (fun u K hu hK => ?_)
        rw [hu]
        exact sp_told (r := r) d2 (by omega) d4 d5 d6 d7 d8 hK
    · rw [if_neg kc]; exact no (by omega)
/-! ===== fits ===== -/
def gS (r : Mh) (S : Int → Int) (m k a c n : Int) : Int := giv (FA r) (rsf (r 10 k) (fun j => r 12 (6 * k + j))) (r 0 23) S m.toNat a c n
def sS (r : Mh) (S : Int → Int) (m c t : Int) : Int := sumN (fun d => gS r S m (r 17 d) (r 18 d) c (t - r 19 d)) (r 0 76).toNat 0
def okF (r : Mh) (S : Int → Int) (m i : Int) : Bool := decide (sS r S m (r 14 (r 34 (3 * i))) (r 34 (3 * i + 1)) = r 34 (3 * i + 2))
def fit (r : Mh) (S : Int → Int) (m : Int) : Bool := allT (fun i => !(kept r i) || okF r S m i) (kby r).toNat 0
/-- a heap of the reference while fits goes on -/
def frF (r u : Mh) : Prop := ∀ o j, o ≠ 32 → o ≠ 35 → ¬ (o = 0 ∧ (j = 2 ∨ j = 77)) → u o j = r o j
theorem frF.row {r u : Mh} (h : frF r u) {o : Int} (h1 : o ≠ 32) (h2 : o ≠ 35) (h3 : o ≠ 0) : u o = r o := by funext j; exact h o j h1 h2 (by omega)
theorem frF.fa {r u : Mh} (h : frF r u) : FA u = FA r := by
  funext a b
  unfold FA
  rw [h 0 12 (by decide) (by decide) (by decide), h 0 13 (by decide) (by decide) (by decide), h 0 21 (by decide) (by decide) (by decide), h 0 22 (by decide) (by decide) (by decide), h.row (o := 5) (by decide) (by decide) (by decide)]
theorem frF.rg {r u : Mh} (h : frF r u) : rgiv u = gS r (u 32) (u 0 77) := by
  funext k a c n
  unfold rgiv gS
  rw [h.fa, h.row (o := 10) (by decide) (by decide) (by decide), h.row (o := 12) (by decide) (by decide) (by decide), h 0 23 (by decide) (by decide) (by decide)]
theorem frF.ro {q r u : Mh} (f : frF r u) (h : Core q r) (m0 : 0 ≤ u 0 77) (m1 : u 0 77 ≤ 3) (hS : ∀ j, 0 ≤ j → j < u 0 77 → 0 ≤ u 32 j ∧ u 32 j < 48) : riseOKR u := by
  have ro := h.ro
  obtain ⟨a, b, c, d, e, g, k⟩ := ro
  have f0 : ∀ j, j ≠ 2 → j ≠ 77 → u 0 j = r 0 j := fun j h1 h2 => f 0 j (by decide) (by decide) (by omega)
  have fr : ∀ o, o ≠ 32 → o ≠ 35 → o ≠ 0 → u o = r o := fun o h1 h2 h3 => f.row h1 h2 h3
  have hR : prm u := prm_of a (fun j h1 h2 => f0 j (by omega) (by omega))
  have ok : ∀ {k c t : Int}, okD r k c t → okD u k c t := by
    intro k c t hh
    unfold okD watR at hh ⊢
    rw [f0 14 (by decide) (by decide), f0 12 (by decide) (by decide), f0 13 (by decide) (by decide), fr 5 (by decide) (by decide) (by decide)]
    exact hh
  refine ⟨hR, wayR_congr (fun j h1 h2 => f0 j (by omega) (by omega)) (fr 5 (by decide) (by decide) (by decide)) (fr 30 (by decide) (by decide) (by decide)) (fr 31 (by decide) (by decide) (by decide)) b, ?_, ⟨m0, m1, hS⟩, ?_, ?_, ?_⟩
  · rw [f0 23 (by decide) (by decide)]; exact c
  · rw [f0 14 (by decide) (by decide)]
    refine ⟨e.1, fun k k0 k1 => ?_⟩
    have := e.2 k k0 k1
    unfold kndR at this ⊢
    rw [fr 10 (by decide) (by decide) (by decide), fr 12 (by decide) (by decide) (by decide)]
    exact this
  · rw [f0 76 (by decide) (by decide), fr 17 (by decide) (by decide) (by decide), fr 18 (by decide) (by decide) (by decide), fr 19 (by decide) (by decide) (by decide)]
    exact ⟨g.1, g.2.1, fun d d0 d1 => ok (g.2.2 d d0 d1)⟩
  · rw [f0 79 (by decide) (by decide), f0 80 (by decide) (by decide), f0 81 (by decide) (by decide)]
    exact fun z => ok (k z)
theorem sp_isFit {q r u : Mh} {K : Int → Mh → Prop} (h : Core q r) (f : frF r u) (hc : ∀ i, 0 ≤ i → i < kby r → (u 35 i = 0 ↔ kept r i = false)) (m0 : 0 ≤ u 0 77) (m1 : u 0 77 ≤ 3) (hS : ∀ j, 0 ≤ j → j < u 0 77 → 0 ≤ u 32 j ∧ u 32 j < 48) (hK : K (b01 (fit r (u 32) (u 0 77))) u) : wp_X14_isFit u K := by
  have hN := h.2.2.2.2.2.2.2.1
  have hb := kby_r hN
  have hm := szs_mul h.2.2.1.1.2.2.2.2.1.1
  have hC := h.2.2.1.2.2.2.1
  have h6 := hC.2.1
  have ro := f.ro h m0 m1 hS
  have ekb : kby u = kby r := by unfold kby; rw [f 0 85 (by decide) (by decide) (by decide), f 0 84 (by decide) (by decide) (by decide)]
  have els : ∀ c t, lsum u c t = sS r (u 32) (u 0 77) c t := by
    intro c t
    unfold lsum rsum sS
    have := h.2.2.2.2.2.2.2.2.1
    rw [f 0 79 (by decide) (by decide) (by decide), if_neg (by omega), f.rg, f 0 76 (by decide) (by decide) (by decide), f.row (o := 17) (by decide) (by decide) (by decide), f.row (o := 18) (by decide) (by decide) (by decide), f.row (o := 19) (by decide) (by decide) (by decide)]
    omega
  have loop : ∀ (n : Nat) (i : Int), 0 ≤ i → i + n = kby r → K (b01 (allT (fun i => !(kept r i) || okF r (u 32) (u 0 77) i) n i)) u → Lfp (F_X14_isFit K) (2, [i], u) := by
    intro n
    induction n with
    | zero =>
      intro i i0 hn hK
      apply L_X14_isFit_2
      unfold B_X14_isFit_2
      rw [wi_knownByR, ekb, if_pos (by omega)]
      exact hK
    | succ n ih =>
      intro i i0 hn hK
      apply L_X14_isFit_2
      unfold B_X14_isFit_2
      rw [wi_knownByR, ekb, if_neg (by omega)]
      refine ⟨⟨i0, by omega⟩, ?_⟩
      have hci := hc i i0 (by omega)
      unfold allT at hK
      by_cases z : u 35 i = 0
      · rw [if_pos z]
        intro x ex
        rw [w32_eq (by omega) (by omega)] at ex
        subst ex
        refine ih (i + 1) (by omega) (by omega) ?_
        rw [hci.mp z] at hK
        simpa using hK
      · rw [if_neg z]
        have hkt : kept r i = true := by
          cases y : kept r i
          · exact absurd (hci.mpr y) z
          · rfl
        obtain ⟨n1, n2, n3, n4, n5, n6, n7⟩ := kept_note h i0 (by omega) hkt
        have hw := hC.2.2.2 (q 108 i) n2 n3
        rw [w32_eq (x := 3 * i) (by omega) (by omega), w32_eq (x := 3 * i + 1) (by omega) (by omega), w32_eq (x := 3 * i + 2) (by omega) (by omega), f.row (o := 34) (by decide) (by decide) (by decide), f.row (o := 14) (by decide) (by decide) (by decide), n1, n4]
        refine ⟨⟨by omega, by omega⟩, ⟨n2, by omega⟩, ⟨by omega, by omega⟩, ?_⟩
        refine sp_riseIn ro hw.1 (by have := hw.2.1; omega) n5 (by omega) ?_
        rw [f.row (o := 34) (by decide) (by decide) (by decide), n7, els]
        refine ⟨⟨by omega, by omega⟩, ?_⟩
        have eo : okF r (u 32) (u 0 77) i = decide (sS r (u 32) (u 0 77) (r 14 (q 108 i)) (q 109 i) = q 110 i) := by unfold okF; rw [n1, n4, n7]
        rw [hkt, eo] at hK
        by_cases y : sS r (u 32) (u 0 77) (r 14 (q 108 i)) (q 109 i) = q 110 i
        · rw [if_pos y]
          rw [decide_eq_true y] at hK
          intro x ex
          rw [w32_eq (by omega) (by omega)] at ex
          subst ex
          exact ih (i + 1) (by omega) (by omega) (by simpa using hK)
        · rw [if_neg y]
          rw [decide_eq_false y] at hK
          simpa [b01] using hK
  unfold wp_X14_isFit
  exact loop (kby r).toNat 0 (by omega) (by omega) hK
theorem fit_congr {r : Mh} {S T : Int → Int} {m : Int} (h : ∀ j, 0 ≤ j → j < m → S j = T j) : fit r S m = fit r T m := by
  have e : ∀ k a c n, gS r S m k a c n = gS r T m k a c n := by
    intro k a c n
    unfold gS giv
    rw [vias_congr m.toNat 0 (fun j j0 j1 => h j j0 (by omega))]
  unfold fit
  congr 1
  funext i
  unfold okF sS
  simp only [e]
theorem sp_riseBy {r g : Mh} {row c t m : Int} {S : Int → Int} {K : Int → Mh → Prop} (h : Core g r) (w : waysOK g) (hrow : rowS g row) (hm : g row 1 = m) (hS : ∀ j, 0 ≤ j → j < m → g (row + 1) j = S j) (c0 : 0 ≤ c) (c1 : c < r 0 12 * r 0 13) (t0 : 0 ≤ t) (t1 : t ≤ 1000) (hK : K (sS r S m c t) g) : wp_X2_riseBy row c t g K := by
  have hd := h.2.2.1.1
  have hmm := szs_mul hd.2.2.2.2.1.1
  have hD := h.2.2.2.2.1
  have hKn := h.2.2.1.2.2.1
  have h4 := hKn.2.1
  have loop : ∀ (n : Nat) (d v : Int), 0 ≤ d → d + n = r 0 76 → -(396 * d) ≤ v → v ≤ 396 * d → v + sumN (fun d => gS r S m (r 17 d) (r 18 d) c (t - r 19 d)) n d = sS r S m c t → Lfp (F_X2_riseBy row c t K) (15, [v, d], g) := by
    intro n
    induction n with
    | zero =>
      intro d v d0 hn v0 v1 hv
      apply L_X2_riseBy_15
      unfold B_X2_riseBy_15
      rw [hD.1, if_pos (by omega)]
      unfold sumN at hv
      rw [show v = sS r S m c t by omega]
      exact hK
    | succ n ih =>
      intro d v d0 hn v0 v1 hv
      apply L_X2_riseBy_15
      unfold B_X2_riseBy_15
      have h16 := hD.2.2.1
      obtain ⟨a1, a2, a3, o⟩ := hD.2.2.2 d d0 (by omega)
      rw [hD.1, if_neg (by omega)]
      refine ⟨⟨d0, by omega⟩, ⟨d0, by omega⟩, ⟨d0, by omega⟩, ?_⟩
      have o5 := o.2.2.2
      have o2 := o.2.1
      have o1 := o.1
      rw [a1, a2, a3, w32_eq (x := t - r 19 d) (by omega) (by omega)]
      have kc := hKn.kc o.1 o.2.1
      refine sp_alone hd.cp w h.cs o.1 (by omega) kc hrow o.2.2.1.1 (hd.cl o.2.2.1.2.1) c0 (hd.cl c1) (by omega) (by omega) ?_
      have eg : cgiv g (r 17 d) row (r 18 d) c (t - r 19 d) = gS r S m (r 17 d) (r 18 d) c (t - r 19 d) := cgiv_eq hd h.2.2.2.1 hKn o.1 o.2.1 hm hS
      have b : -396 ≤ cgiv g (r 17 d) row (r 18 d) c (t - r 19 d) ∧ cgiv g (r 17 d) row (r 18 d) c (t - r 19 d) ≤ 396 := by
        have h3 := hrow.2.2.2.1
        exact giv_le (fun a b => (FC_r hd.cp a b).2.1) (rsf_le kc.2.2) h.cs.1 h.cs.2 (by omega)
      rw [eg] at b ⊢
      intro x ex y ey
      rw [w32_eq (by omega) (by omega)] at ex
      rw [w32_eq (by omega) (by omega)] at ey
      subst ex; subst ey
      unfold sumN at hv
      exact ih (d + 1) _ (by omega) (by omega) (by omega) (by omega) (by omega)
  unfold wp_X2_riseBy
  refine loop (r 0 76).toNat 0 0 (by omega) (by have := hD.2.1; omega) (by omega) (by omega) ?_
  unfold sS
  omega
theorem sp_fitsBy {r g : Mh} {row m : Int} {S : Int → Int} {K : Int → Mh → Prop} (h : Core g r) (w : waysOK g) (hs : sightsOK r g) (hrow : rowS g row) (hm : g row 1 = m) (hS : ∀ j, 0 ≤ j → j < m → g (row + 1) j = S j) (hK : K (b01 (fit r S m)) g) : wp_X2_fitsBy row 113 g K := by
  have hd := h.2.2.1.1
  have hN := h.2.2.2.2.2.2.2.1
  have hb := kby_r hN
  have hmm := szs_mul hd.2.2.2.2.1.1
  have hC := h.2.2.1.2.2.2.1
  have h6 := hC.2.1
  obtain ⟨s0, s1, s2, s3⟩ := hs
  have eq : fit r S m = allT (fun j => okF r S m (g 114 j)) (g 113 1).toNat 0 := by
    rw [Bool.eq_iff_iff]
    unfold fit
    rw [allT_iff, allT_iff]
    constructor
    · intro hh j j0 j1
      obtain ⟨p1, p2, p3⟩ := s2 j j0 (by omega)
      have := hh (g 114 j) p1 (by omega)
      rw [p3] at this
      simpa using this
    · intro hh i i0 i1
      cases y : kept r i
      · rfl
      · obtain ⟨j, j0, j1, j2⟩ := s3 i i0 (by omega) y
        have := hh j j0 (by omega)
        rw [j2] at this
        simp [this]
  have loop : ∀ (n : Nat) (i : Int), 0 ≤ i → i + n = g 113 1 → K (b01 (allT (fun j => okF r S m (g 114 j)) n i)) g → Lfp (F_X2_fitsBy row 113 K) (2, [i], g) := by
    intro n
    induction n with
    | zero =>
      intro i i0 hn hK
      apply L_X2_fitsBy_2
      unfold B_X2_fitsBy_2
      refine ⟨rfl, ?_⟩
      rw [if_pos (by omega)]
      exact hK
    | succ n ih =>
      intro i i0 hn hK
      apply L_X2_fitsBy_2
      unfold B_X2_fitsBy_2
      refine ⟨rfl, ?_⟩
      have e32 : (shC (113 + 1)).2 = 32 := rfl
      rw [if_neg (by omega), wi_orZero (by rw [e32]; exact s1)]
      have er : rsf (g 113 1) (g (113 + 1)) i = g 114 i := by unfold rsf; rw [if_neg (by omega), if_neg (by omega)]; rfl
      rw [er]
      obtain ⟨p1, p2, p3⟩ := s2 i i0 (by omega)
      obtain ⟨n1, n2, n3, n4, n5, n6, n7⟩ := kept_note h p1 p2 p3
      have hw := hC.2.2.2 _ n2 n3
      intro x ex
      rw [if_neg (by omega)] at ex
      subst ex
      refine ⟨isP_4 hd.1, ⟨p1, by omega⟩, ?_⟩
      rw [wi_orZero (by rw [hC.2.2.1.1, isP_27 hd.1]; exact h6), hC.2.2.1.rf]
      have er2 : rsf (r 0 15) (fun j => r 14 (0 + j)) (g 108 (g 114 i)) = r 14 (g 108 (g 114 i)) := by unfold rsf; rw [if_neg (by omega), if_neg (by omega)]; simp
      rw [er2]
      refine ⟨⟨p1, by omega⟩, ?_⟩
      refine sp_riseBy h w hrow hm hS hw.1 (by have := hw.2.1; omega) n5 (by omega) ?_
      refine ⟨⟨p1, by omega⟩, ?_⟩
      unfold allT at hK
      have eo : okF r S m (g 114 i) = decide (sS r S m (r 14 (g 108 (g 114 i))) (g 109 (g 114 i)) = g 110 (g 114 i)) := by unfold okF; rw [n1, n4, n7]
      rw [eo] at hK
      by_cases y : sS r S m (r 14 (g 108 (g 114 i))) (g 109 (g 114 i)) = g 110 (g 114 i)
      · rw [if_pos y]
        rw [decide_eq_true y] at hK
        intro x ex
        rw [w32_eq (by omega) (by omega)] at ex
        subst ex
        exact ih (i + 1) (by omega) (by omega) (by simpa using hK)
      · rw [if_neg y]
        rw [decide_eq_false y] at hK
        simpa [b01] using hK
  unfold wp_X2_fitsBy
  refine loop (g 113 1).toNat 0 (by omega) (by omega) ?_
  rw [← eq]
  exact hK
