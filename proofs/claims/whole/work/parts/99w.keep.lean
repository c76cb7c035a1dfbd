/-! ===== the reference keeps what it read ===== -/
def cpT (r : Mh) (u : Int) : Mh := fun o j => if 5 ≤ o ∧ o ≤ u ∧ ¬ o = 7 ∧ 0 ≤ j ∧ j < off o then r o (off o + j) else r o j
def cp1 (h : Mh) (o n k : Int) : Mh := fun x j => if x = o ∧ 0 ≤ j ∧ j < k then h o (n + j) else h x j
theorem cp1_up {h : Mh} {o n k : Int} (k0 : 0 ≤ k) (kn : k < n) : up (cp1 h o n k) o k (cp1 h o n k o (n + k)) = cp1 h o n (k + 1) := by
  have e : cp1 h o n k o (n + k) = h o (n + k) := by unfold cp1; rw [if_neg (by omega)]
  rw [e]
  funext x j
  by_cases z : x = o ∧ j = k
  · rw [z.1, z.2, up_self]
    unfold cp1
    rw [if_pos (by omega)]
  · rw [up_ne _ z]
    unfold cp1
    by_cases y : x = o ∧ 0 ≤ j ∧ j < k
    · rw [if_pos y, if_pos (by omega)]
    · rw [if_neg y, if_neg (by omega)]
theorem xp_copies {o n : Int} {h : Mh} {K : Mh → Prop} (hs : (shR o).1 = 14) (n0 : 0 ≤ n) (hn : 2 * n ≤ ((shR o).2 : Int)) (n1 : n ≤ 1000) (hk : K (cp1 h o n n)) : wp_X14_copies o n h K := by
  have lp : ∀ (d : Nat) (k : Int), 0 ≤ k → k + d = n → Lfp (F_X14_copies o n K) (2, [k], cp1 h o n k) := by
    intro d
    induction d with
    | zero =>
      intro k k0 hd
      apply L_X14_copies_2
      unfold B_X14_copies_2
      rw [if_pos (by omega), show k = n by omega]
      exact hk
    | succ d ih =>
      intro k k0 hd
      apply L_X14_copies_2
      unfold B_X14_copies_2
      rw [if_neg (by omega), w32_eq (x := n + k) (by omega) (by omega)]
      refine ⟨hs, ⟨by omega, by omega⟩, ⟨by omega, by omega⟩, ?_⟩
      intro h1 e1 x1 ex
      rw [ex, w32_eq (by omega) (by omega), e1, cp1_up k0 (by omega)]
      exact ih (k + 1) (by omega) (by omega)
  have e : cp1 h o n 0 = h := by
    funext x j
    unfold cp1
    rw [if_neg (by omega)]
  have := lp n.toNat 0 (by omega) (by omega)
  rw [e] at this
  unfold wp_X14_copies
  exact this
theorem cpT_step {r : Mh} {u o n : Int} (hu : 5 ≤ o) (ho : o ≤ 25) (h7 : ¬ o = 7) (hn : off o = n) (hp : (u < o ∧ ∀ x, u < x → x < o → x = 7 ∨ x < 5)) : cp1 (cpT r u) o n n = cpT r o := by
  funext x j
  unfold cp1
  by_cases z : x = o ∧ 0 ≤ j ∧ j < n
  · rw [if_pos z, z.1]
    unfold cpT
    rw [if_neg (by omega), if_pos (by rw [hn]; omega), hn]
  · rw [if_neg z]
    unfold cpT
    by_cases y : 5 ≤ x ∧ x ≤ u ∧ ¬ x = 7 ∧ 0 ≤ j ∧ j < off x
    · rw [if_pos y, if_pos ⟨y.1, by omega, y.2.2⟩]
    · rw [if_neg y]
      by_cases w : 5 ≤ x ∧ x ≤ o ∧ ¬ x = 7 ∧ 0 ≤ j ∧ j < off x
      · exfalso
        by_cases v : x = o
        · rw [v, hn] at w; omega
        · rcases Int.lt_or_le u x with t | t
          · have := hp.2 x t (by omega); omega
          · exact y ⟨w.1, t, w.2.2⟩
      · rw [if_neg w]
def ktF (r : Mh) : Mh := up (up (up (up (up (up (up (up (up (up (up (up (up r 0 12 (r 0 25)) 0 13 (r 0 26)) 0 14 (r 0 27)) 0 15 (r 0 28)) 0 16 (r 0 29)) 0 17 (r 0 30)) 0 18 (r 0 31)) 0 19 (r 0 32)) 0 20 (r 0 33)) 0 21 (r 3 0)) 0 22 (r 3 1)) 0 23 (r 3 2)) 0 24 (r 0 38)
theorem ktF_o {r : Mh} {o : Int} (h : ¬ o = 0) : ktF r o = r o := by
  unfold ktF
  rw [up_other h, up_other h, up_other h, up_other h, up_other h, up_other h, up_other h, up_other h, up_other h, up_other h, up_other h, up_other h, up_other h]
theorem ktF_j {r : Mh} {j : Int} (h : ¬ (12 ≤ j ∧ j ≤ 24)) : ktF r 0 j = r 0 j := by
  unfold ktF
  rw [up_slot (by omega), up_slot (by omega), up_slot (by omega), up_slot (by omega), up_slot (by omega), up_slot (by omega), up_slot (by omega), up_slot (by omega), up_slot (by omega), up_slot (by omega), up_slot (by omega), up_slot (by omega), up_slot (by omega)]
theorem ktF_v {r : Mh} {j : Int} (a : 12 ≤ j) (b : j ≤ 24) : ktF r 0 j = rv r 0 j := by
  have h : j = 12 ∨ j = 13 ∨ j = 14 ∨ j = 15 ∨ j = 16 ∨ j = 17 ∨ j = 18 ∨ j = 19 ∨ j = 20 ∨ j = 21 ∨ j = 22 ∨ j = 23 ∨ j = 24 := by omega
  rcases h with e | e | e | e | e | e | e | e | e | e | e | e | e <;> rw [e] <;> simp [ktF, up, rv]
theorem cpT_o {r : Mh} {u o : Int} (h : ¬ (5 ≤ o ∧ o ≤ 25) ∨ o = 7) (hu : u ≤ 25) : cpT r u o = r o := by
  funext j
  unfold cpT
  rw [if_neg (by omega)]
theorem xp_keepText {r : Mh} {K : Mh → Prop} (hk : wp_X14_layWays (up (up (up (up (up (cpT (ktF r) 25) 0 76 (r 0 30)) 0 82 0) 0 84 0) 0 85 (-1)) 0 96 0) (fun h24 => wp_X14_plainShores h24 (fun h25 => K h25))) : wp_X14_keepText r K := by
  unfold wp_X14_keepText
  intro h1 e1 h2 e2 h3 e3 h4 e4 h5 e5 h6 e6 h7 e7 h8 e8 h9 e9 h10 e10 h11 e11 h12 e12 h13 e13
  have ek : h13 = ktF r := by
    rw [e13, e12, e11, e10, e9, e8, e7, e6, e5, e4, e3, e2, e1]
    unfold ktF
    simp [up]
  rw [ek]
  have c4 : cpT (ktF r) 4 = ktF r := by
    funext o j
    unfold cpT
    rw [if_neg (by omega)]
  refine xp_copies rfl (by decide) (by decide) (by decide) ?_
  rw [show cp1 (ktF r) 5 48 48 = cpT (ktF r) 5 by
    have := cpT_step (r := ktF r) (u := 4) (o := 5) (n := 48) (by decide) (by decide) (by decide) rfl ⟨by decide, fun x a b => by omega⟩
    rw [c4] at this
    exact this]
  -- the row of what sends
  have lp : ∀ (d : Nat) (k : Int), 0 ≤ k → k + d = 48 → Lfp (F_X14_keepText K) (121, [k], cp1 (cpT (ktF r) 5) 6 48 k) := by
    intro d
    induction d with
    | zero =>
      intro k k0 hd
      apply L_X14_keepText_121
      unfold B_X14_keepText_121
      rw [if_pos (by omega), show k = 48 by omega, cpT_step (r := ktF r) (u := 5) (o := 6) (n := 48) (by decide) (by decide) (by decide) rfl ⟨by decide, fun x a b => by omega⟩]
      have e8' : cpT (ktF r) 6 = cpT (ktF r) 7 := by
        funext o j
        unfold cpT
        by_cases y : 5 ≤ o ∧ o ≤ 6 ∧ ¬ o = 7 ∧ 0 ≤ j ∧ j < off o
        · rw [if_pos y, if_pos ⟨y.1, by omega, y.2.2⟩]
        · rw [if_neg y, if_neg (fun w => y ⟨w.1, by omega, w.2.2⟩)]
      rw [e8']
      have cs : ∀ o n : Int, 8 ≤ o → o ≤ 25 → off o = n → (shR o).1 = 14 → 0 ≤ n → 2 * n ≤ ((shR o).2 : Int) → n ≤ 1000 → ∀ G : Mh → Prop, G (cpT (ktF r) o) → wp_X14_copies o n (cpT (ktF r) (o - 1)) G := by
        intro o n a b c d e f g G hG
        refine xp_copies d e f g ?_
        rw [cpT_step (by omega) b (by omega) c ⟨by omega, fun x u v => by omega⟩]
        exact hG
      refine cs 8 3 (by decide) (by decide) rfl rfl (by decide) (by decide) (by decide) _ ?_
      refine cs 9 4 (by decide) (by decide) rfl rfl (by decide) (by decide) (by decide) _ ?_
      refine cs 10 4 (by decide) (by decide) rfl rfl (by decide) (by decide) (by decide) _ ?_
      refine cs 11 4 (by decide) (by decide) rfl rfl (by decide) (by decide) (by decide) _ ?_
      refine cs 12 24 (by decide) (by decide) rfl rfl (by decide) (by decide) (by decide) _ ?_
      refine cs 13 6 (by decide) (by decide) rfl rfl (by decide) (by decide) (by decide) _ ?_
      refine cs 14 6 (by decide) (by decide) rfl rfl (by decide) (by decide) (by decide) _ ?_
      refine cs 15 3 (by decide) (by decide) rfl rfl (by decide) (by decide) (by decide) _ ?_
      refine cs 16 3 (by decide) (by decide) rfl rfl (by decide) (by decide) (by decide) _ ?_
      refine cs 17 16 (by decide) (by decide) rfl rfl (by decide) (by decide) (by decide) _ ?_
      refine cs 18 16 (by decide) (by decide) rfl rfl (by decide) (by decide) (by decide) _ ?_
      refine cs 19 16 (by decide) (by decide) rfl rfl (by decide) (by decide) (by decide) _ ?_
      refine cs 20 3 (by decide) (by decide) rfl rfl (by decide) (by decide) (by decide) _ ?_
      refine cs 21 3 (by decide) (by decide) rfl rfl (by decide) (by decide) (by decide) _ ?_
      refine cs 22 9 (by decide) (by decide) rfl rfl (by decide) (by decide) (by decide) _ ?_
      refine cs 23 64 (by decide) (by decide) rfl rfl (by decide) (by decide) (by decide) _ ?_
      refine cs 24 64 (by decide) (by decide) rfl rfl (by decide) (by decide) (by decide) _ ?_
      refine cs 25 64 (by decide) (by decide) rfl rfl (by decide) (by decide) (by decide) _ ?_
      have e17 : cpT (ktF r) 25 0 17 = r 0 30 := by
        rw [cpT_o (Or.inl (by decide)) (by decide), ktF_v (by decide) (by decide)]; rfl
      rw [e17]
      intro g19 f19 g20 f20 g21 f21 g22 f22 g23 f23
      rw [f23, f22, f21, f20, f19]
      exact hk
    | succ d ih =>
      intro k k0 hd
      apply L_X14_keepText_121
      unfold B_X14_keepText_121
      rw [if_neg (by omega), w32_eq (x := 48 + k) (by omega) (by omega)]
      refine ⟨⟨by omega, by omega⟩, ⟨by omega, by omega⟩, ?_⟩
      intro g1 f1 x1 ex
      rw [ex, w32_eq (by omega) (by omega), f1, cp1_up k0 (by omega)]
      exact ih (k + 1) (by omega) (by omega)
  have e0 : cp1 (cpT (ktF r) 5) 6 48 0 = cpT (ktF r) 5 := by
    funext x j
    unfold cp1
    rw [if_neg (by omega)]
  have := lp 48 0 (by decide) (by decide)
  rw [e0] at this
  exact this
