/-! ===== beside each other; few cells ===== -/
theorem co_mod {w x y : Int} (x0 : 0 ≤ x) (x1 : x < w) : (w * y + x) % w = x := by
  rw [Int.add_comm, Int.add_mul_emod_self_left, Int.emod_eq_of_lt x0 x1]
theorem co_div {w x y : Int} (x0 : 0 ≤ x) (x1 : x < w) : (w * y + x) / w = y := by
  rw [Int.add_comm, Int.add_mul_ediv_left _ _ (by omega), Int.ediv_eq_zero_of_lt x0 x1, Int.zero_add]
theorem co_of {w hh b : Int} (hs : szs w hh) (b0 : 0 ≤ b) (b1 : b < w * hh) : 0 ≤ b % w ∧ b % w < w ∧ 0 ≤ b / w ∧ b / w < hh ∧ w * (b / w) + b % w = b := by
  have w0 := hs.1.1
  refine ⟨Int.emod_nonneg _ (by omega), Int.emod_lt_of_pos _ (by omega), Int.ediv_nonneg b0 (by omega), ?_, Int.mul_ediv_add_emod b w⟩
  exact Int.ediv_lt_of_lt_mul (by omega) (by rw [Int.mul_comm]; exact b1)
theorem nx_pos {w hh : Int} {g : Int → Int} {c way : Int} (h : 0 ≤ nx w hh g c way) : 0 ≤ gx w c way ∧ gx w c way < w ∧ 0 ≤ gy w c way ∧ gy w c way < hh ∧ nx w hh g c way = w * gy w c way + gx w c way ∧ ¬ g (nx w hh g c way) = 2 := by
  unfold nx at h ⊢
  by_cases c1 : gx w c way < 0
  · rw [if_pos c1] at h; omega
  · rw [if_neg c1] at h ⊢
    by_cases c2 : w ≤ gx w c way
    · rw [if_pos c2] at h; omega
    · rw [if_neg c2] at h ⊢
      by_cases c3 : gy w c way < 0
      · rw [if_pos c3] at h; omega
      · rw [if_neg c3] at h ⊢
        by_cases c4 : hh ≤ gy w c way
        · rw [if_pos c4] at h; omega
        · rw [if_neg c4] at h ⊢
          by_cases c5 : g (w * gy w c way + gx w c way) = 2
          · rw [if_pos c5] at h; omega
          · rw [if_neg c5]
            exact ⟨by omega, by omega, by omega, by omega, rfl, c5⟩
theorem nx_of {w hh : Int} {g : Int → Int} {c way : Int} (x0 : 0 ≤ gx w c way) (x1 : gx w c way < w) (y0 : 0 ≤ gy w c way) (y1 : gy w c way < hh) (h : ¬ g (w * gy w c way + gx w c way) = 2) : nx w hh g c way = w * gy w c way + gx w c way := by
  unfold nx
  rw [if_neg (by omega), if_neg (by omega), if_neg (by omega), if_neg (by omega), if_neg h]
/-- the way back -/
def opp (v : Int) : Int := if v = 1 then 3 else if v = 2 then 4 else if v = 3 then 1 else 2
theorem opp_r {v : Int} : 1 ≤ opp v ∧ opp v < 5 := by
  unfold opp
  split
  · omega
  · split
    · omega
    · split <;> omega
theorem nx_sym {w hh : Int} {g : Int → Int} {b v : Int} (hs : szs w hh) (b0 : 0 ≤ b) (b1 : b < w * hh) (b2 : ¬ g b = 2) (v0 : 1 ≤ v) (v1 : v < 5) (h : 0 ≤ nx w hh g b v) : nx w hh g (nx w hh g b v) (opp v) = b := by
  obtain ⟨x0, x1, y0, y1, e, _⟩ := nx_pos h
  obtain ⟨m0, m1, d0, d1, eb⟩ := co_of hs b0 b1
  generalize hc : nx w hh g b v = c at *
  have cm : c % w = gx w b v := by rw [e]; exact co_mod x0 x1
  have cd : c / w = gy w b v := by rw [e]; exact co_div x0 x1
  have ex : gx w c (opp v) = b % w := by
    have hv : v = 1 ∨ v = 2 ∨ v = 3 ∨ v = 4 := by omega
    have : gx w c (opp v) = gx w b v + (if opp v = 2 then 1 else if opp v = 4 then -1 else 0) := by unfold gx at cm ⊢; rw [cm]
    rw [this]
    unfold gx opp
    rcases hv with rfl | rfl | rfl | rfl <;> simp <;> omega
  have ey : gy w c (opp v) = b / w := by
    have hv : v = 1 ∨ v = 2 ∨ v = 3 ∨ v = 4 := by omega
    have : gy w c (opp v) = gy w b v + (if opp v = 1 then -1 else if opp v = 3 then 1 else 0) := by unfold gy at cd ⊢; rw [cd]
    rw [this]
    unfold gy opp
    rcases hv with rfl | rfl | rfl | rfl <;> simp <;> omega
  rw [nx_of (by rw [ex]; exact m0) (by rw [ex]; exact m1) (by rw [ey]; exact d0) (by rw [ey]; exact d1) (by rw [ex, ey, eb]; exact b2), ex, ey, eb]
/-- m different cells of N -/
theorem few {f : Int → Int} : ∀ (N m : Nat), (∀ i : Int, 0 ≤ i → i < m → 0 ≤ f i ∧ f i < N) → (∀ i j : Int, 0 ≤ i → i < m → 0 ≤ j → j < m → f i = f j → i = j) → m ≤ N := by
  intro N
  induction N generalizing f with
  | zero =>
    intro m hr hi
    rcases Nat.eq_zero_or_pos m with h | h
    · omega
    · have := hr 0 (by omega) (by omega)
      omega
  | succ N ih =>
    intro m hr hi
    by_cases hex : ∃ k, 0 ≤ k ∧ k < (m : Int) ∧ f k = N
    · obtain ⟨k, k0, k1, ek⟩ := hex
      have := ih (f := fun i => if i < k then f i else f (i + 1)) (m - 1) (fun i i0 i1 => by
        try dsimp only
        split
        · have h1 := hr i i0 (by omega)
          have : f i ≠ N := fun e => by have := hi i k i0 (by omega) k0 k1 (by rw [e, ek]); omega
          omega
        · have h1 := hr (i + 1) (by omega) (by omega)
          have : f (i + 1) ≠ N := fun e => by have := hi (i + 1) k (by omega) (by omega) k0 k1 (by rw [e, ek]); omega
          omega) (fun i j i0 i1 j0 j1 e => by
        try dsimp only at e
        by_cases a1 : i < k
        · by_cases a2 : j < k
          · rw [if_pos a1, if_pos a2] at e
            exact hi i j i0 (by omega) j0 (by omega) e
          · rw [if_pos a1, if_neg a2] at e
            have := hi i (j + 1) i0 (by omega) (by omega) (by omega) e
            omega
        · by_cases a2 : j < k
          · rw [if_neg a1, if_pos a2] at e
            have := hi (i + 1) j (by omega) (by omega) j0 (by omega) e
            omega
          · rw [if_neg a1, if_neg a2] at e
            have := hi (i + 1) (j + 1) (by omega) (by omega) (by omega) (by omega) e
            omega)
      omega
    · have := ih (f := f) m (fun i i0 i1 => by
        have h1 := hr i i0 i1
        have : f i ≠ N := fun e => hex ⟨i, i0, i1, e⟩
        omega) hi
      omega
