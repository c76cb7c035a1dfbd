/-- how far and how weak, of cells a and b, by a reference's heap -/
def FA (r : Mh) (a b : Int) : Int × Int := if wat (r 0 12) (r 0 13) (r 5) a then DD (r 0 12) (r 0 13) (r 5) (r 0 21) (r 0 22) a 47 b else (999, 0)
/-- tables with the rows ahead of a, and m cells of row a -/
def wayP (r : Mh) (a : Int) (R : Int → Int × Int) (m : Int) : Mh := fun o j =>
  if o = 30 ∧ 0 ≤ j ∧ j < 48 * a then (FA r (j / 48) (j % 48)).1 else if o = 31 ∧ 0 ≤ j ∧ j < 48 * a then (FA r (j / 48) (j % 48)).2
  else if o = 30 ∧ 48 * a ≤ j ∧ j < 48 * a + m then (R (j - 48 * a)).1 else if o = 31 ∧ 48 * a ≤ j ∧ j < 48 * a + m then (R (j - 48 * a)).2 else r o j
/-- behind layWays -/
def wayT (r : Mh) : Mh := fun o j => if o = 30 ∧ 0 ≤ j ∧ j < 2304 then (FA r (j / 48) (j % 48)).1 else if o = 31 ∧ 0 ≤ j ∧ j < 2304 then (FA r (j / 48) (j % 48)).2 else r o j
theorem wayP_0 (r : Mh) (a : Int) (R : Int → Int × Int) (m j : Int) : wayP r a R m 0 j = r 0 j := by simp [wayP]
theorem wayP_5 (r : Mh) (a : Int) (R : Int → Int × Int) (m : Int) : wayP r a R m 5 = r 5 := by funext j; simp [wayP]
theorem wayP_next (r : Mh) (a : Int) (R S : Int → Int × Int) (a0 : 0 ≤ a) (h : ∀ b, 0 ≤ b → b < 48 → R b = FA r a b) : wayP r a R 48 = wayP r (a + 1) S 0 := by
  funext o j
  unfold wayP
  by_cases k : 48 * a ≤ j ∧ j < 48 * a + 48
  · have e := h (j - 48 * a) (by omega) (by omega)
    have e1 : j / 48 = a := by omega
    have e2 : j % 48 = j - 48 * a := by omega
    by_cases c1 : o = 30
    · rw [if_neg (by omega), if_neg (by omega), if_pos (by omega), if_pos (by omega), e1, e2, e]
    · by_cases c2 : o = 31
      · rw [if_neg (by omega), if_neg (by omega), if_neg (by omega), if_pos (by omega), if_neg (by omega), if_pos (by omega), e1, e2, e]
      · rw [if_neg (by omega), if_neg (by omega), if_neg (by omega), if_neg (by omega), if_neg (by omega), if_neg (by omega), if_neg (by omega), if_neg (by omega)]
  · by_cases c1 : o = 30 ∧ 0 ≤ j ∧ j < 48 * a
    · rw [if_pos c1, if_pos (by omega)]
    · rw [if_neg c1]
      by_cases c2 : o = 31 ∧ 0 ≤ j ∧ j < 48 * a
      · rw [if_pos c2, if_neg (by omega), if_pos (by omega)]
      · rw [if_neg c2, if_neg (by omega), if_neg (by omega), if_neg (by omega), if_neg (by omega), if_neg (by omega), if_neg (by omega)]
theorem wayP_up (r : Mh) (a m : Int) (R : Int → Int × Int) (a0 : 0 ≤ a) (m0 : 0 ≤ m) : up (up (wayP r a R m) 30 (48 * a + m) (R m).1) 31 (48 * a + m) (R m).2 = wayP r a R (m + 1) := by
  funext o j
  unfold up wayP
  by_cases k2 : o = 31 ∧ j = 48 * a + m
  · rw [if_pos k2, if_neg (by omega), if_neg (by omega), if_neg (by omega), if_pos (by omega), show j - 48 * a = m by omega]
  · rw [if_neg k2]
    by_cases k1 : o = 30 ∧ j = 48 * a + m
    · rw [if_pos k1, if_neg (by omega), if_neg (by omega), if_pos (by omega), show j - 48 * a = m by omega]
    · rw [if_neg k1]
      by_cases c1 : o = 30 ∧ 0 ≤ j ∧ j < 48 * a
      · rw [if_pos c1, if_pos c1]
      · rw [if_neg c1, if_neg c1]
        by_cases c2 : o = 31 ∧ 0 ≤ j ∧ j < 48 * a
        · rw [if_pos c2, if_pos c2]
        · rw [if_neg c2, if_neg c2]
          by_cases c3 : o = 30 ∧ 48 * a ≤ j ∧ j < 48 * a + m
          · rw [if_pos c3, if_pos (by omega)]
          · rw [if_neg c3]
            by_cases c4 : o = 31 ∧ 48 * a ≤ j ∧ j < 48 * a + m
            · rw [if_pos c4, if_neg (by omega), if_pos (by omega)]
            · rw [if_neg c4, if_neg (by omega), if_neg (by omega)]
theorem wayP_far (r : Mh) (a n : Int) (R S : Int → Int × Int) (hs : szs (r 0 12) (r 0 13)) (a0 : 0 ≤ a) (h1 : ∀ b, 0 ≤ b → b < r 0 12 * r 0 13 → S b = stp (r 0 12) (r 0 13) (r 5) (r 0 21) (r 0 22) R n b) (h2 : ∀ b, r 0 12 * r 0 13 ≤ b → b < 48 → S b = R b) : lfarK (wayP r a R 48) a n (r 0 12 * r 0 13) = wayP r a S 48 := by
  have hm := szs_mul hs
  have hrow : ∀ c, 0 ≤ c → c < r 0 12 * r 0 13 → rowD (wayP r a R 48) a c = R c := by
    intro c c0 c1
    unfold rowD wayP
    rw [if_neg (by omega), if_neg (by omega), if_pos (by omega), if_neg (by omega), if_neg (by omega), if_neg (by omega), if_pos (by omega), show 48 * a + c - 48 * a = c by omega]
  funext o j
  unfold lfarK
  rw [wayP_0, wayP_0, wayP_0, wayP_0, wayP_5]
  by_cases k : 48 * a ≤ j ∧ j < 48 * a + r 0 12 * r 0 13
  · have e := h1 (j - 48 * a) (by omega) (by omega)
    have e2 : stp (r 0 12) (r 0 13) (r 5) (r 0 21) (r 0 22) (rowD (wayP r a R 48) a) n (j - 48 * a) = S (j - 48 * a) := by
      rw [e]
      exact stp_congr hs (by omega) (by omega) hrow
    by_cases c1 : o = 30
    · rw [if_pos ⟨c1, k⟩, e2]
      unfold wayP
      rw [if_neg (by omega), if_neg (by omega), if_pos (by omega)]
    · rw [if_neg (by omega)]
      by_cases c2 : o = 31
      · rw [if_pos ⟨c2, k⟩, e2]
        unfold wayP
        rw [if_neg (by omega), if_neg (by omega), if_neg (by omega), if_pos (by omega)]
      · rw [if_neg (by omega)]
        unfold wayP
        rw [if_neg (by omega), if_neg (by omega), if_neg (by omega), if_neg (by omega), if_neg (by omega), if_neg (by omega), if_neg (by omega), if_neg (by omega)]
  · rw [if_neg (by omega), if_neg (by omega)]
    unfold wayP
    by_cases q : 48 * a ≤ j ∧ j < 48 * a + 48
    · rw [h2 (j - 48 * a) (by omega) (by omega)]
    · by_cases c1 : o = 30 ∧ 0 ≤ j ∧ j < 48 * a
      · rw [if_pos c1, if_pos c1]
      · rw [if_neg c1, if_neg c1]
        by_cases c2 : o = 31 ∧ 0 ≤ j ∧ j < 48 * a
        · rw [if_pos c2, if_pos c2]
        · rw [if_neg c2, if_neg c2, if_neg (by omega), if_neg (by omega), if_neg (by omega), if_neg (by omega)]
theorem sp_layWays {r : Mh} {K : Mh → Prop} (hp : prm r) (hk : K (wayT r)) : wp_X14_layWays r K := by
  obtain ⟨hs, ⟨l0, l1⟩, t0, t1⟩ := id hp
  have hm := szs_mul hs
  unfold wp_X14_layWays
  have main : ∀ (m : Nat) (a : Int) (R : Int → Int × Int), 0 ≤ a → a + m = 48 → Lfp (F_X14_layWays K) (2, [a], wayP r a R 0) := by
    intro m
    induction m with
    | zero =>
      intro a R a0 ha
      apply L_X14_layWays_2
      unfold B_X14_layWays_2
      rw [if_pos (by omega)]
      have e : wayP r a R 0 = wayT r := by
        funext o j
        unfold wayP wayT
        have : a = 48 := by omega
        subst this
        by_cases c1 : o = 30 ∧ 0 ≤ j ∧ j < 2304
        · rw [if_pos (by omega), if_pos c1]
        · rw [if_neg (by omega), if_neg c1]
          by_cases c2 : o = 31 ∧ 0 ≤ j ∧ j < 2304
          · rw [if_pos (by omega), if_pos c2]
          · rw [if_neg (by omega), if_neg c2, if_neg (by omega), if_neg (by omega)]
      rw [e]; exact hk
    | succ m ih =>
      intro a R0 a0 ha
      apply L_X14_layWays_2
      unfold B_X14_layWays_2
      rw [if_neg (by omega)]
      -- the first layer
      have hI : ∀ (I : Int → Int × Int), (∀ b, I b = if a = b ∧ wat (r 0 12) (r 0 13) (r 5) a then (0, 0) else (999, 0)) → Lfp (F_X14_layWays K) (67, [a, 1], wayP r a I 48) → ∀ (k : Nat) (b : Int), 0 ≤ b → b + k = 48 → Lfp (F_X14_layWays K) (10, [a, b], wayP r a I b) := by
        intro I hI hn k
        induction k with
        | zero =>
          intro b b0 hb
          apply L_X14_layWays_10
          unfold B_X14_layWays_10
          rw [if_pos (by omega), show b = 48 by omega]
          exact hn
        | succ k ih2 =>
          intro b b0 hb
          apply L_X14_layWays_10
          unfold B_X14_layWays_10
          rw [if_neg (by omega), w32_eq (x := 48 * a) (by omega) (by omega), w32_eq (x := 48 * a + b) (by omega) (by omega)]
          have fin : ∀ v : Int, I b = (v, 0) → ((0 : Int) ≤ 48 * a + b ∧ 48 * a + b < 2304) ∧ ∀ h1 : Mh, h1 = up (wayP r a I b) 30 (48 * a + b) v → ((0 : Int) ≤ 48 * a + b ∧ 48 * a + b < 2304) ∧ ∀ h2 : Mh, h2 = up h1 31 (48 * a + b) 0 → ∀ x1 : Int, x1 = w32 (b + 1) → Lfp (F_X14_layWays K) (10, [a, x1], h2) := by
            intro v ev
            refine ⟨⟨by omega, by omega⟩, ?_⟩
            intro h1 e1
            refine ⟨⟨by omega, by omega⟩, ?_⟩
            intro h2 e2 x ex
            rw [w32_eq (by omega) (by omega)] at ex
            subst ex; subst e1; subst e2
            have u := wayP_up r a b I a0 b0
            rw [ev] at u
            rw [u]
            exact ih2 (b + 1) (by omega) (by omega)
          by_cases c0 : a = b
          · rw [if_neg (fun z => z c0), wi_isWater (by rw [wayP_0, wayP_0]; exact hs), wayP_0, wayP_0, wayP_5]
            by_cases c1 : wat (r 0 12) (r 0 13) (r 5) a
            · rw [if_pos c1, if_neg (by decide)]
              exact fin 0 (by rw [hI, if_pos ⟨c0, c1⟩])
            · rw [if_neg c1, if_pos rfl]
              exact fin 999 (by rw [hI, if_neg (fun z => c1 z.2)])
          · rw [if_pos c0]
            exact fin 999 (by rw [hI, if_neg (fun z => c0 z.1)])
      have z0 : ∀ I : Int → Int × Int, wayP r a R0 0 = wayP r a I 0 := by
        intro I
        funext o j
        unfold wayP
        rw [if_neg (c := o = 30 ∧ 48 * a ≤ j ∧ j < 48 * a + 0) (by omega), if_neg (c := o = 31 ∧ 48 * a ≤ j ∧ j < 48 * a + 0) (by omega), if_neg (c := o = 30 ∧ 48 * a ≤ j ∧ j < 48 * a + 0) (by omega), if_neg (c := o = 31 ∧ 48 * a ≤ j ∧ j < 48 * a + 0) (by omega)]
      by_cases c1 : wat (r 0 12) (r 0 13) (r 5) a
      · rw [z0 (DD (r 0 12) (r 0 13) (r 5) (r 0 21) (r 0 22) a 0)]
        refine hI _ (fun b => ?_) ?_ 48 0 (by omega) (by omega)
        · unfold DD
          by_cases q : a = b
          · rw [if_pos q, if_pos ⟨q, c1⟩]
          · rw [if_neg q, if_neg (fun z => q z.1)]
        -- the layers
        have hL : ∀ (k n : Nat), 1 ≤ n → n + k = 48 → Lfp (F_X14_layWays K) (67, [a, (n : Int)], wayP r a (DD (r 0 12) (r 0 13) (r 5) (r 0 21) (r 0 22) a (n - 1)) 48) := by
          intro k
          induction k with
          | zero =>
            intro n n0 hn
            apply L_X14_layWays_67
            unfold B_X14_layWays_67
            rw [if_pos (by omega)]
            intro x ex
            rw [w32_eq (by omega) (by omega)] at ex
            subst ex
            rw [wayP_next r a _ (fun _ => (0, 0)) a0 (fun b _ _ => by unfold FA; rw [if_pos c1, show n - 1 = 47 by omega])]
            exact ih (a + 1) _ (by omega) (by omega)
          | succ k ih2 =>
            intro n n0 hn
            apply L_X14_layWays_67
            unfold B_X14_layWays_67
            rw [if_neg (by omega), wi_isWater (by rw [wayP_0, wayP_0]; exact hs), wayP_0, wayP_0, wayP_5, if_pos c1, if_neg (by decide)]
            refine sp_layFar ⟨by rw [wayP_0, wayP_0]; exact hs, by rw [wayP_0]; exact ⟨l0, l1⟩, by rw [wayP_0]; exact ⟨t0, t1⟩⟩ a0 (by omega) (by omega) (by omega) ?_ ?_
            · intro c q0 q1
              have e : wayP r a (DD (r 0 12) (r 0 13) (r 5) (r 0 21) (r 0 22) a (n - 1)) 48 31 (48 * a + c) = (DD (r 0 12) (r 0 13) (r 5) (r 0 21) (r 0 22) a (n - 1) c).2 := by
                unfold wayP
                rw [if_neg (by omega), if_neg (by omega), if_neg (by omega), if_pos (by omega), show 48 * a + c - 48 * a = c by omega]
              rw [e]
              have d := DD_le (w := r 0 12) (hh := r 0 13) (g := r 5) (a := a) l0 t0 (n - 1) c
              have d2 : ((n - 1 : Nat) : Int) * (r 0 21 + r 0 22) ≤ ((n - 1 : Nat) : Int) * 149 := Int.mul_le_mul_of_nonneg_left (by omega) (by omega)
              omega
            · rw [wayP_0, wayP_0]
              intro x ex
              rw [w32_eq (by omega) (by omega)] at ex
              subst ex
              have f := wayP_far r a n (DD (r 0 12) (r 0 13) (r 5) (r 0 21) (r 0 22) a (n - 1)) (DD (r 0 12) (r 0 13) (r 5) (r 0 21) (r 0 22) a (n + 1 - 1)) hs a0 (fun b q0 q1 => by
                obtain ⟨p, rfl⟩ : ∃ p, n = p + 1 := ⟨n - 1, by omega⟩
                show DD _ _ _ _ _ a (p + 1) b = _
                unfold DD
                rw [if_pos ⟨q0, q1⟩]
                rfl) (fun b q0 q1 => by
                obtain ⟨p, rfl⟩ : ∃ p, n = p + 1 := ⟨n - 1, by omega⟩
                show DD _ _ _ _ _ a (p + 1) b = _
                conv => lhs; unfold DD
                rw [if_neg (by omega)]
                rfl)
              rw [f]
              exact ih2 (n + 1) (by omega) (by omega)
        exact hL 47 1 (by omega) (by omega)
      · rw [z0 (fun _ => (999, 0))]
        refine hI _ (fun b => by rw [if_neg (fun z => c1 z.2)]) ?_ 48 0 (by omega) (by omega)
        apply L_X14_layWays_67
        unfold B_X14_layWays_67
        rw [if_neg (by omega), wi_isWater (by rw [wayP_0, wayP_0]; exact hs), wayP_0, wayP_0, wayP_5, if_neg c1, if_pos rfl]
        intro x ex
        rw [w32_eq (by omega) (by omega)] at ex
        subst ex
        rw [wayP_next r a _ (fun _ => (0, 0)) a0 (fun b _ _ => by unfold FA; rw [if_neg c1])]
        exact ih (a + 1) _ (by omega) (by omega)
  have e : r = wayP r 0 (fun _ => (0, 0)) 0 := by
    funext o j
    unfold wayP
    rw [if_neg (by omega), if_neg (by omega), if_neg (by omega), if_neg (by omega)]
  have := main 48 0 (fun _ => (0, 0)) (by omega) (by omega)
  rw [← e] at this
  exact this
