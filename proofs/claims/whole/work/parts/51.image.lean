/-! ===== back ===== -/
theorem sp_backR {r : Mh} {K : Int → Mh → Prop} (h96 : ¬ r 0 96 = 0) (hp : prm r) (hk : ∀ s, (∀ o j, ¬ (o = 5 ∨ (17 ≤ o ∧ o ≤ 19) ∨ o = 30 ∨ o = 31) → ¬ (o = 0 ∧ (j = 2 ∨ j = 76 ∨ j = 82)) → s o j = r o j) → s 0 76 = r 0 97 → s 0 82 = 0 → (∀ c, 0 ≤ c → c < 48 → s 5 c = r 39 c) → (∀ d, 0 ≤ d → d < 16 → s 17 d = r 40 (3 * d) ∧ s 18 d = r 40 (3 * d + 1) ∧ s 19 d = r 40 (3 * d + 2)) → wayR s → K (r 0 97) s) : wp_X14_back r K := by
  unfold wp_X14_back
  intro r1 e1
  have m1 : r1 0 96 = r 0 96 := by rw [e1, up_slot (by decide)]
  rw [m1, if_pos h96]
  intro r2 e2
  have m97 : r1 0 97 = r 0 97 := by rw [e1, up_slot (by decide)]
  rw [m97] at e2
  have f2 : ∀ o j, ¬ (o = 0 ∧ (j = 2 ∨ j = 76)) → r2 o j = r o j := by
    intro o j ho
    rw [e2, up_ne _ (by omega), e1, up_ne _ (by omega)]
  have m76 : r2 0 76 = r 0 97 := by rw [e2, up_self]
  have l2 : ∀ (n : Nat) (i : Int) (s : Mh), 0 ≤ i → i + n = 16 → (∀ o j, ¬ (o = 5 ∨ (17 ≤ o ∧ o ≤ 19)) → s o j = r2 o j) → (∀ c, 0 ≤ c → c < 48 → s 5 c = r 39 c) → (∀ d, 0 ≤ d → d < i → s 17 d = r 40 (3 * d) ∧ s 18 d = r 40 (3 * d + 1) ∧ s 19 d = r 40 (3 * d + 2)) → Lfp (F_X14_back K) (50, [i], s) := by
    intro n
    induction n with
    | zero =>
      intro i s i0 hn hs h39 h40
      apply L_X14_back_50
      unfold B_X14_back_50
      rw [if_pos (by omega)]
      intro s1 u1
      have ps : prm s1 := prm_of hp (fun j j0 j1 => by rw [u1, up_slot (by omega), hs 0 j (by decide), f2 0 j (by omega)])
      refine sp_layWays ps ?_
      have t : ∀ o, o ≠ 30 → o ≠ 31 → wayT s1 o = s1 o := fun o a b => wayT_ne s1 a b
      rw [t 0 (by decide) (by decide)]
      have v76 : s1 0 76 = r 0 97 := by rw [u1, up_slot (by decide), hs 0 76 (by decide)]; exact m76
      rw [v76]
      refine hk (wayT s1) (fun o j a b => ?_) (by rw [t 0 (by decide) (by decide)]; exact v76) (by rw [t 0 (by decide) (by decide), u1, up_self]) (fun c c0 c1 => ?_) (fun d d0 d1 => ?_) (wayR_wayT s1)
      · rw [t o (by omega) (by omega), u1, up_ne _ (by omega), hs o j (by omega), f2 o j (by omega)]
      · rw [t 5 (by decide) (by decide), u1, up_other (by decide)]; exact h39 c c0 c1
      · rw [t 17 (by decide) (by decide), t 18 (by decide) (by decide), t 19 (by decide) (by decide), u1, up_other (by decide), up_other (by decide), up_other (by decide)]
        exact h40 d d0 (by omega)
    | succ n ih =>
      intro i s i0 hn hs h39 h40
      apply L_X14_back_50
      unfold B_X14_back_50
      rw [if_neg (by omega), w32_eq (x := 3 * i) (by omega) (by omega), w32_eq (x := 3 * i + 1) (by omega) (by omega), w32_eq (x := 3 * i + 2) (by omega) (by omega)]
      refine ⟨⟨by omega, by omega⟩, ⟨i0, by omega⟩, ?_⟩
      intro s1 u1
      refine ⟨⟨by omega, by omega⟩, ⟨i0, by omega⟩, ?_⟩
      intro s2 u2
      refine ⟨⟨by omega, by omega⟩, ⟨i0, by omega⟩, ?_⟩
      intro s3 u3 x ex
      rw [w32_eq (by omega) (by omega)] at ex
      subst ex
      have v : ∀ j, s 40 j = r 40 j := fun j => by rw [hs 40 j (by omega), f2 40 j (by omega)]
      rw [v] at u1
      rw [show s1 40 (3 * i + 1) = r 40 (3 * i + 1) by rw [u1, up_other (by decide), v]] at u2
      rw [show s2 40 (3 * i + 2) = r 40 (3 * i + 2) by rw [u2, up_other (by decide), u1, up_other (by decide), v]] at u3
      refine ih (i + 1) s3 (by omega) (by omega) (fun o j a => by rw [u3, up_other (by omega), u2, up_other (by omega), u1, up_other (by omega), hs o j a]) (fun c c0 c1 => by rw [u3, up_other (by decide), u2, up_other (by decide), u1, up_other (by decide), h39 c c0 c1]) (fun d d0 d1 => ?_)
      by_cases z : d = i
      · rw [z]
        refine ⟨?_, ?_, ?_⟩
        · rw [u3, up_other (by decide), u2, up_other (by decide), u1, up_self]
        · rw [u3, up_other (by decide), u2, up_self]
        · rw [u3, up_self]
      · rw [u3, up_other (by decide), up_other (by decide), up_slot z, u2, up_other (by decide), up_slot z, up_other (by decide), u1, up_slot z, up_other (by decide), up_other (by decide)]
        exact h40 d d0 (by omega)
  have l1 : ∀ (n : Nat) (i : Int) (s : Mh), 0 ≤ i → i + n = 48 → (∀ o j, o ≠ 5 → s o j = r2 o j) → (∀ c, 0 ≤ c → c < i → s 5 c = r 39 c) → Lfp (F_X14_back K) (24, [i], s) := by
    intro n
    induction n with
    | zero =>
      intro i s i0 hn hs h39
      apply L_X14_back_24
      unfold B_X14_back_24
      rw [if_pos (by omega)]
      exact l2 16 0 s (by omega) (by omega) (fun o j a => hs o j (by omega)) (fun c c0 c1 => h39 c c0 (by omega)) (fun d d0 d1 => by omega)
    | succ n ih =>
      intro i s i0 hn hs h39
      apply L_X14_back_24
      unfold B_X14_back_24
      rw [if_neg (by omega)]
      refine ⟨⟨i0, by omega⟩, ⟨by omega, by omega⟩, ?_⟩
      intro s1 u1 x ex
      rw [w32_eq (by omega) (by omega)] at ex
      subst ex
      rw [hs 39 i (by decide), f2 39 i (by omega)] at u1
      refine ih (i + 1) s1 (by omega) (by omega) (fun o j a => by rw [u1, up_other a, hs o j a]) (fun c c0 c1 => ?_)
      rw [u1]
      by_cases z : c = i
      · rw [z, up_self]
      · rw [up_slot z, h39 c c0 (by omega)]
  exact l1 48 0 r2 (by omega) (by omega) (fun _ _ _ => rfl) (fun c a b => by omega)
theorem op_back {q r : Mh} (h : Rel q r) : wp_X13_back q (fun x q' => wp_X14_back r (fun y r' => x = y ∧ Rel q' r')) := by
  have hd := h.1.2.2.1.1
  have hg := h.1.2.2.2.1
  have hm := szs_mul hd.2.2.2.2.1.1
  have hI := h.1.2.2.2.2.2.1
  have h0 : Rel q (up r 0 2 0) := h.thrown (sameR.thrown r)
  have e0 : ∀ j, j ≠ 2 → up r 0 2 0 0 j = r 0 j := fun j hj => up_slot hj
  unfold wp_X13_back wp_X11_takeImage
  by_cases k : r 0 96 = 0
  · rw [if_neg (fun z => z (hI.1.mpr k))]
    unfold wp_X14_back
    intro r1 e1
    subst e1
    rw [e0 96 (by decide), if_neg (fun z => z k)]
    exact ⟨rfl, h0⟩
  · rw [if_pos (fun z => k (hI.1.mp z))]
    obtain ⟨i1, d0, d1, i2, i3, i4⟩ := hI.2 k
    have s16 : (shC (98 + 1)).2 = 16 ∧ (shC (98 + 2)).2 = 16 ∧ (shC (98 + 3)).2 = 16 ∧ (shC (102 + 1)).2 = 16 ∧ (shC (102 + 2)).2 = 16 ∧ (shC (102 + 3)).2 = 16 := by decide
    refine sp_copyOf rfl (by decide) (by rw [i1]; exact d0) (by rw [i1]; omega) (by rw [i1, s16.2.2.2.1]; exact d1) (by rw [i1, s16.2.2.2.2.1]; exact d1) (by rw [i1, s16.2.2.2.2.2]; exact d1) (by rw [i1, s16.1]; exact d1) (by rw [i1, s16.2.1]; exact d1) (by rw [i1, s16.2.2.1]; exact d1) ?_
    unfold wp_X11_changeReeds
    have c0 : ∀ o j, ¬ (98 ≤ o ∧ o ≤ 101) → dcopy q 98 102 o j = q o j := by
      intro o j ho
      unfold dcopy
      rw [if_neg (by omega), if_neg (by omega), if_neg (by omega), if_neg (by omega)]
    rw [c0 53 4 (by decide)]
    intro g1 e1 g2 e2 g3 e3 g4 e4
    have q53 : ∀ j, j ≠ 1 → j ≠ 8 → j ≠ 9 → j ≠ 7 → g4 53 j = q 53 j := by
      intro j h1 h2 h3 h4
      rw [e4, up_slot h4, e3, up_slot h3, e2, up_slot h2, e1, up_slot h1, c0 53 j (by decide)]
    have q531 : g4 53 1 = q 53 4 := by rw [e4, up_slot (by decide), e3, up_slot (by decide), e2, up_slot (by decide), e1, up_self]
    have rows : ∀ o, o ≠ 53 → g4 o = dcopy q 98 102 o := by
      intro o h1
      rw [e4, up_other h1, e3, up_other h1, e2, up_other h1, e1, up_other h1]
    have FD : frD q g4 := by
      intro o j h1 h2
      by_cases z : o = 53
      · have : j = 0 := by omega
        rw [z, this, q53 0 (by decide) (by decide) (by decide) (by decide)]
      · rw [rows o z, c0 o j (by omega)]
    have g98 : g4 98 3 = r 0 97 := by
      rw [rows 98 (by decide)]
      unfold dcopy
      rw [if_pos ⟨rfl, rfl⟩]; exact i1
    rw [g98]
    refine sp_backR k hd.2.2.2.2.1 ?_
    intro s f m76 m82 v5 v17 hw
    have FE : frE r s := by
      intro o j h1 h2
      exact f o j (by omega) (by omega)
    have h5 : ∀ d, 0 ≤ d → d < 48 → (s 5 d = 2 ↔ r 5 d = 2) := by
      intro d p0 p1
      rw [v5 d p0 p1, i3 d p0 p1, hg.1 d p0 p1, cg_2]
      by_cases z : bit (q (q 53 0) 2) d = true
      · rw [if_pos z]; simp [z]
      · rw [if_neg z]
        constructor
        · intro y; split at y <;> omega
        · intro y; exact absurd y z
    have hR := FE.ref h5
    have hP := FD.pond hd.1
    have pq : g4 (q 53 0) = q (q 53 0) := hP.2 _ (by omega) (by omega)
    refine ⟨rfl, ?_, ?_, ?_⟩
    · refine h.1.ofD FD FE h5 ⟨fun d p0 p1 => ?_, fun d p0 p1 => ?_, fun d p0 p1 => ?_⟩ ?_ ?_ ?_ hw
      · rw [v5 d p0 p1, i3 d p0 p1]
        unfold cg
        rw [hP.1, pq, q531]
      · rw [hP.1, pq, hR.1 12 (by decide) (by decide), hR.1 13 (by decide) (by decide)]
        exact hg.2.1 d p0 p1
      · rw [hP.1, pq, q531, hR.1 12 (by decide) (by decide), hR.1 13 (by decide) (by decide)]
        exact i4 d p0 p1
      · refine ⟨by rw [g98, m76], by rw [m76]; exact d0, by rw [m76]; exact d1, fun d p0 p1 => ?_⟩
        rw [m76] at p1
        obtain ⟨w1, w2, w3⟩ := v17 d p0 (by omega)
        obtain ⟨y1, y2, y3, y4⟩ := i2 d p0 p1
        rw [w1, w2, w3]
        refine ⟨?_, ?_, ?_, y4.same hd.2.2.2.2.1 hR⟩
        · rw [rows 99 (by decide)]
          unfold dcopy
          rw [if_neg (by omega), if_pos ⟨by decide, p0, by rw [i1]; exact p1⟩]; exact y1
        · rw [rows 100 (by decide)]
          unfold dcopy
          rw [if_neg (by omega), if_neg (by omega), if_pos ⟨by decide, p0, by rw [i1]; exact p1⟩]; exact y2
        · rw [rows 101 (by decide)]
          unfold dcopy
          rw [if_neg (by omega), if_neg (by omega), if_neg (by omega), if_pos ⟨by decide, p0, by rw [i1]; exact p1⟩]; exact y3
      · refine hI.same hd.2.2.2.2.1 hP hR (q53 4 (by decide) (by decide) (by decide) (by decide)) (q53 5 (by decide) (by decide) (by decide) (by decide)) (fun o h1 h2 => ?_) (f 0 96 (by decide) (by decide)) (f 0 97 (by decide) (by decide)) ?_ ?_
        · rw [rows o (by omega)]
          funext j
          exact c0 o j (by omega)
        · funext j; exact f 39 j (by decide) (by omega)
        · funext j; exact f 40 j (by decide) (by omega)
      · refine ⟨by rw [e4, up_self, m82], by rw [m82]; decide, by rw [m82]; decide, fun i p0 p1 => by rw [m82] at p1; omega, ?_⟩
        rw [m82, m76]
        exact d0
    · intro z8
      rw [e4, up_slot (by decide), e3, up_slot (by decide), e2, up_self] at z8
      exact absurd z8 (by decide)
    · intro z9
      rw [e4, up_slot (by decide), e3, up_self] at z9
      exact absurd z9 (by decide)
/-! ===== how many bits ===== -/
/-- how many of the bits i .. i + n - 1 of a long are set -/
def pop (x : Int) : Nat → Int → Int
  | 0, _ => 0
  | n + 1, i => (if bit x i = true then 1 else 0) + pop x n (i + 1)
/-- bytes: a number by its lowest eight bits and the rest -/
theorem land_split {a b y m M : Nat} (ha : a < 2 ^ b) (hm : m < 2 ^ b) : (a + 2 ^ b * y) &&& (m + 2 ^ b * M) = (a &&& m) + 2 ^ b * (y &&& M) := by
  apply Nat.eq_of_testBit_eq
  intro i
  have h : a &&& m < 2 ^ b := Nat.and_lt_two_pow a hm
  rw [Nat.testBit_and, Nat.add_comm a, Nat.add_comm m, Nat.add_comm (a &&& m), Nat.testBit_two_pow_mul_add _ ha, Nat.testBit_two_pow_mul_add _ hm, Nat.testBit_two_pow_mul_add _ h]
  split
  · rw [Nat.testBit_and]
  · rw [Nat.testBit_and]
