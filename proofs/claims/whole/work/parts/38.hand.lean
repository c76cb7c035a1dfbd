/-! ===== the class hands a ripple on ===== -/
theorem sp_nearOf {c v : Int} {q : Mh} {K : Int → Mh → Prop} (hc : csz q) (c0 : 0 ≤ c) (c1 : c < q (q 53 0) 0 * q (q 53 0) 1) (v0 : 0 ≤ v) (v1 : v < 5) (hk : K (q 116 (5 * c + v)) q) : wp_X6_nearOf c v q K := by
  have hm := szs_mul hc.2
  unfold wp_X6_nearOf wp_X5_isCell
  refine ⟨isP_4 hc.1, ?_⟩
  rw [w32_eq (x := q (q 53 0) 0 * q (q 53 0) 1) (by omega) (by omega), if_neg (by omega), if_neg (by omega)]
  dsimp only
  rw [if_neg (by decide), if_neg (by omega), if_neg (by omega), if_neg (by omega), if_neg (by decide), w32_eq (x := c * 5) (by omega) (by omega), w32_eq (by omega) (by omega), show c * 5 + v = 5 * c + v by omega]
  exact ⟨⟨by omega, by omega⟩, hk⟩
theorem sp_handOn {a c b : Int} {q : Mh} {K : Int → Mh → Prop} (hc : csz q) (a0 : 0 ≤ a) (a1 : a < 48) (c0 : 0 ≤ c) (c1 : c < 48) (b0 : 0 ≤ b) (b1 : b < 48) (l0 : 0 ≤ q (q 53 0) 17) (l1 : q (q 53 0) 17 ≤ 50) (t0 : 0 ≤ q (q 53 0) 18) (t1 : q (q 53 0) 18 ≤ 99)
    (f0 : 0 ≤ q 117 (48 * a + c)) (f1 : q 117 (48 * a + c) ≤ 1000) (w0 : 0 ≤ q 118 (48 * a + c)) (w1 : q 118 (48 * a + c) ≤ 100000)
    (hk1 : q 117 (48 * a + b) < 0 → K 1 (up (up q 117 (48 * a + b) (q 117 (48 * a + c) + 1)) 118 (48 * a + b) (q 118 (48 * a + c) + q (q 53 0) 17 + (if bit (q 53 1) b = true then q (q 53 0) 18 else 0))))
    (hk2 : 0 ≤ q 117 (48 * a + b) → q 117 (48 * a + b) = q 117 (48 * a + c) + 1 → q 118 (48 * a + c) + q (q 53 0) 17 + (if bit (q 53 1) b = true then q (q 53 0) 18 else 0) < q 118 (48 * a + b) → K 0 (up (up q 117 (48 * a + b) (q 117 (48 * a + c) + 1)) 118 (48 * a + b) (q 118 (48 * a + c) + q (q 53 0) 17 + (if bit (q 53 1) b = true then q (q 53 0) 18 else 0))))
    (hk3 : 0 ≤ q 117 (48 * a + b) → (¬ q 117 (48 * a + b) = q 117 (48 * a + c) + 1 ∨ q 118 (48 * a + b) ≤ q 118 (48 * a + c) + q (q 53 0) 17 + (if bit (q 53 1) b = true then q (q 53 0) 18 else 0)) → K 0 q) : wp_X6_handOn a c b q K := by
  have s59 : ∀ t : Int, t = (if bit (q 53 1) b = true then q (q 53 0) 18 else 0) → 0 ≤ t → t ≤ 99 → Lfp (F_X6_handOn a c b K) (59, [48 * a + c, 48 * a + b, q 118 (48 * a + c) + q (q 53 0) 17, t], q) := by
    intro t et t2 t3
    rw [← et] at hk1 hk2 hk3
    apply L_X6_handOn_59
    unfold B_X6_handOn_59
    intro x ex
    rw [w32_eq (by omega) (by omega)] at ex
    subst ex
    refine ⟨⟨by omega, by omega⟩, ?_⟩
    by_cases k : 0 ≤ q 117 (48 * a + b)
    · rw [if_pos k]
      apply L_X6_handOn_77
      unfold B_X6_handOn_77
      rw [if_neg (by decide), w32_eq (x := q 117 (48 * a + c) + 1) (by omega) (by omega)]
      refine ⟨⟨by omega, by omega⟩, ⟨by omega, by omega⟩, ?_⟩
      by_cases k2 : q 117 (48 * a + b) = q 117 (48 * a + c) + 1
      · rw [if_neg (fun z => z k2)]
        refine ⟨⟨by omega, by omega⟩, ?_⟩
        by_cases k3 : q 118 (48 * a + b) ≤ q 118 (48 * a + c) + q (q 53 0) 17 + t
        · rw [if_pos k3]
          exact ⟨Or.inl rfl, hk3 k (Or.inr k3)⟩
        · rw [if_neg k3]
          refine ⟨⟨by omega, by omega⟩, ⟨by omega, by omega⟩, ?_⟩
          intro q1 e1
          refine ⟨⟨by omega, by omega⟩, ?_⟩
          intro q2 e2
          subst e1; subst e2
          exact ⟨Or.inl rfl, hk2 k k2 (by omega)⟩
      · rw [if_pos k2]
        exact ⟨Or.inl rfl, hk3 k (Or.inl k2)⟩
    · rw [if_neg k]
      apply L_X6_handOn_77
      unfold B_X6_handOn_77
      rw [if_pos (by decide), w32_eq (x := q 117 (48 * a + c) + 1) (by omega) (by omega)]
      refine ⟨⟨by omega, by omega⟩, ⟨by omega, by omega⟩, ?_⟩
      intro q1 e1
      refine ⟨⟨by omega, by omega⟩, ?_⟩
      intro q2 e2
      subst e1; subst e2
      exact ⟨Or.inr rfl, hk1 (by omega)⟩
  unfold wp_X6_handOn
  intro x1 e1 x2 e2
  rw [w32_eq (x := a * 48) (by omega) (by omega), w32_eq (by omega) (by omega), show a * 48 + c = 48 * a + c by omega] at e1
  rw [w32_eq (x := a * 48) (by omega) (by omega), w32_eq (by omega) (by omega), show a * 48 + b = 48 * a + b by omega] at e2
  subst e1; subst e2
  refine ⟨⟨by omega, by omega⟩, isP_4 hc.1, ?_⟩
  rw [wi_hasReeds b0 (by omega), w32_eq (x := q 118 (48 * a + c) + q (q 53 0) 17) (by omega) (by omega)]
  by_cases k : bit (q 53 1) b = true
  · rw [if_pos k, if_neg (by decide)]
    exact ⟨isP_4 hc.1, s59 _ (by rw [if_pos k]) t0 t1⟩
  · rw [if_neg k, if_pos rfl]
    exact s59 0 (by rw [if_neg k]) (by decide) (by decide)
theorem DD_lv {w hh : Int} {g : Int → Int} {loss thick a : Int} : ∀ (n : Nat) (b : Int), n < 900 → (DD w hh g loss thick a n b).1 ≠ 999 → ∃ m : Nat, m ≤ n ∧ Lv w hh g loss thick a m b := by
  intro n
  induction n with
  | zero =>
    intro b _ h
    refine ⟨0, Nat.le_refl 0, ?_⟩
    rw [Lv_zero]
    rw [DD_zero] at h
    by_cases q : a = b
    · exact q
    · rw [if_neg q] at h; exact absurd rfl h
  | succ n ih =>
    intro b hn h
    by_cases k : (DD w hh g loss thick a n b).1 = 999
    · refine ⟨n + 1, Nat.le_refl _, ?_⟩
      have hf := DD_fst (w := w) (hh := hh) (g := g) (loss := loss) (thick := thick) (a := a) (n + 1) b
      unfold Lv
      rw [DD_succ] at h ⊢
      by_cases r : 0 ≤ b ∧ b < w * hh
      · rw [if_pos r] at h ⊢
        unfold stp at h ⊢
        by_cases h2 : g b = 2
        · rw [if_pos h2] at h; exact absurd k h
        · rw [if_neg h2] at h ⊢
          rw [if_pos (by omega)] at h ⊢
          by_cases h4 : 0 ≤ bst w hh g loss thick (DD w hh g loss thick a n) ((n : Int) + 1) b 4 1 (-1)
          · rw [if_pos h4]
            show (n : Int) + 1 = ((n + 1 : Nat) : Int)
            omega
          · rw [if_neg h4] at h; exact absurd k h
      · rw [if_neg r] at h; exact absurd k h
    · obtain ⟨m, m0, m1⟩ := ih b (by omega) k
      exact ⟨m, by omega, m1⟩
