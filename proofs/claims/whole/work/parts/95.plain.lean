/-! ===== the reference begins to read ===== -/
def pl4 (g : Mh) (k : Int) : Mh := fun o j => if o = 4 ∧ 0 ≤ j ∧ j < k then 0 else g o j
def pl5 (g : Mh) (k : Int) : Mh := fun o j => if (o = 5 ∨ o = 6) ∧ 48 ≤ j ∧ j < 48 + k then 0 else if o = 7 ∧ 0 ≤ j ∧ j < k then 0 else g o j
def pl0 (h : Mh) : Mh := up (up (up (up (up (up (up (up (up (up (up (up (up (up (up (up (up (up h 0 25 4) 0 26 4) 0 27 0) 0 28 0) 0 29 0) 0 30 0) 0 31 0) 0 32 0) 0 33 0) 0 34 0) 0 35 0) 0 68 0) 0 36 0) 0 37 0) 0 38 0) 3 0 10) 3 1 30) 3 2 50
def plainT (h : Mh) : Mh := pl5 (pl4 (pl0 h) 3) 48
theorem xp_plain {h : Mh} {K : Mh → Prop} (hk : K (plainT h)) : wp_X14_plain h K := by
  have l121 : ∀ (d : Nat) (k : Int) (g : Mh), 0 ≤ k → k + d = 48 → K (pl5 g 48) → Lfp (F_X14_plain K) (121, [k], pl5 g k) := by
    intro d
    induction d with
    | zero =>
      intro k g k0 hd hk
      apply L_X14_plain_121
      unfold B_X14_plain_121
      rw [if_pos (by omega), show k = 48 by omega]
      exact hk
    | succ d ih =>
      intro k g k0 hd hk
      apply L_X14_plain_121
      unfold B_X14_plain_121
      rw [if_neg (by omega), w32_eq (x := 48 + k) (by omega) (by omega)]
      refine ⟨⟨by omega, by omega⟩, ?_⟩
      intro h1 q1
      refine ⟨⟨by omega, by omega⟩, ?_⟩
      intro h2 q2
      refine ⟨⟨by omega, by omega⟩, ?_⟩
      intro h3 q3 x ex
      rw [w32_eq (by omega) (by omega)] at ex
      have e : h3 = pl5 g (k + 1) := by
        rw [q3, q2, q1]
        funext o j
        unfold up pl5
        by_cases a : o = 7 ∧ j = k
        · rw [if_pos a, if_neg (by omega), if_pos (by omega)]
        rw [if_neg a]
        by_cases b : o = 6 ∧ j = 48 + k
        · rw [if_pos b, if_pos (by omega)]
        rw [if_neg b]
        by_cases c : o = 5 ∧ j = 48 + k
        · rw [if_pos c, if_pos (by omega)]
        rw [if_neg c]
        by_cases z : (o = 5 ∨ o = 6) ∧ 48 ≤ j ∧ j < 48 + k
        · rw [if_pos z, if_pos (by omega)]
        rw [if_neg z, if_neg (show ¬ ((o = 5 ∨ o = 6) ∧ 48 ≤ j ∧ j < 48 + (k + 1)) by omega)]
        by_cases y : o = 7 ∧ 0 ≤ j ∧ j < k
        · rw [if_pos y, if_pos (by omega)]
        · rw [if_neg y, if_neg (by omega)]
      rw [e, ex]
      exact ih (k + 1) g (by omega) (by omega) hk
  have p50 : ∀ g : Mh, pl5 g 0 = g := by
    intro g
    funext o j
    unfold pl5
    rw [if_neg (by omega), if_neg (by omega)]
  have l101 : ∀ (d : Nat) (k : Int) (g : Mh), 0 ≤ k → k + d = 3 → K (pl5 (pl4 g 3) 48) → Lfp (F_X14_plain K) (101, [k], pl4 g k) := by
    intro d
    induction d with
    | zero =>
      intro k g k0 hd hk
      apply L_X14_plain_101
      unfold B_X14_plain_101
      rw [if_pos (by omega), show k = 3 by omega]
      have := l121 48 0 (pl4 g 3) (by omega) (by omega) hk
      rw [p50] at this
      exact this
    | succ d ih =>
      intro k g k0 hd hk
      apply L_X14_plain_101
      unfold B_X14_plain_101
      rw [if_neg (by omega)]
      refine ⟨⟨by omega, by omega⟩, ?_⟩
      intro h1 q1 x ex
      rw [w32_eq (by omega) (by omega)] at ex
      have e : h1 = pl4 g (k + 1) := by
        rw [q1]
        funext o j
        unfold up pl4
        by_cases a : o = 4 ∧ j = k
        · rw [if_pos a, if_pos (by omega)]
        rw [if_neg a]
        by_cases y : o = 4 ∧ 0 ≤ j ∧ j < k
        · rw [if_pos y, if_pos (by omega)]
        · rw [if_neg y, if_neg (by omega)]
      rw [e, ex]
      exact ih (k + 1) g (by omega) (by omega) hk
  have p40 : ∀ g : Mh, pl4 g 0 = g := by
    intro g
    funext o j
    unfold pl4
    rw [if_neg (by omega)]
  unfold wp_X14_plain
  intro h1 q1 h2 q2 h3 q3 h4 q4 h5 q5 h6 q6 h7 q7 h8 q8 h9 q9 h10 q10 h11 q11 h12 q12 h13 q13 h14 q14 h15 q15 h16 q16 h17 q17 h18 q18
  have e : h18 = pl0 h := by rw [q18, q17, q16, q15, q14, q13, q12, q11, q10, q9, q8, q7, q6, q5, q4, q3, q2, q1]; rfl
  rw [e]
  have := l101 3 0 (pl0 h) (by omega) (by omega) hk
  rw [p40] at this
  exact this
