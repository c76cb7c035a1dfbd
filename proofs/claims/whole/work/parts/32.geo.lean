/-! ===== cells, ways, how far and how weak: by layers ===== -/
def gx (w c way : Int) : Int := c % w + (if way = 2 then 1 else if way = 4 then -1 else 0)
def gy (w c way : Int) : Int := c / w + (if way = 1 then -1 else if way = 3 then 1 else 0)
/-- the cell of the water that lies that way; -1 -/
def nx (w hh : Int) (g : Int → Int) (c way : Int) : Int :=
  if gx w c way < 0 then -1 else if w ≤ gx w c way then -1 else if gy w c way < 0 then -1 else if hh ≤ gy w c way then -1 else if g (w * gy w c way + gx w c way) = 2 then -1 else w * gy w c way + gx w c way
abbrev wat (w hh : Int) (g : Int → Int) (c : Int) : Prop := 0 ≤ c ∧ c < w * hh ∧ ¬ g c = 2
/-- the sizes -/
abbrev szs (w hh : Int) : Prop := (1 ≤ w ∧ w ≤ 8) ∧ (1 ≤ hh ∧ hh ≤ 6)
theorem szs_mul {w hh : Int} (h : szs w hh) : 1 ≤ w * hh ∧ w * hh ≤ 48 := by
  obtain ⟨⟨a, b⟩, c, d⟩ := h
  constructor
  · exact Int.le_trans (by decide) (Int.mul_le_mul a c (by decide) (by omega))
  · exact Int.le_trans (Int.mul_le_mul b d (by omega) (by decide)) (by decide)
theorem j_rem_n {c w : Int} (h0 : 0 ≤ c) (h1 : c < 64) (w0 : 1 ≤ w) (w1 : w ≤ 8) : j_rem c w = c % w := by
  obtain ⟨n, rfl⟩ := Int.eq_ofNat_of_zero_le h0
  obtain ⟨m, rfl⟩ := Int.eq_ofNat_of_zero_le (show 0 ≤ w by omega)
  have : ∀ n : Nat, n < 64 → ∀ m : Nat, m < 9 → 1 ≤ m → j_rem n m = (n : Int) % (m : Int) := by decide +kernel
  exact this n (by omega) m (by omega) (by omega)
theorem j_div_n {c w : Int} (h0 : 0 ≤ c) (h1 : c < 64) (w0 : 1 ≤ w) (w1 : w ≤ 8) : j_div c w = c / w := by
  obtain ⟨n, rfl⟩ := Int.eq_ofNat_of_zero_le h0
  obtain ⟨m, rfl⟩ := Int.eq_ofNat_of_zero_le (show 0 ≤ w by omega)
  have : ∀ n : Nat, n < 64 → ∀ m : Nat, m < 9 → 1 ≤ m → j_div n m = (n : Int) / (m : Int) := by decide +kernel
  exact this n (by omega) m (by omega) (by omega)
theorem wy_r {w hh x y : Int} (h : szs w hh) (x0 : 0 ≤ x) (x1 : x < w) (y0 : 0 ≤ y) (y1 : y < hh) : 0 ≤ w * y ∧ w * y ≤ 40 ∧ w * y + x < w * hh := by
  obtain ⟨⟨a, b⟩, c, d⟩ := h
  have e1 : 0 ≤ w * y := Int.mul_nonneg (by omega) y0
  have e2 : w * y ≤ 8 * 5 := Int.mul_le_mul b (by omega) y0 (by decide)
  have e3 : w * (y + 1) ≤ w * hh := Int.mul_le_mul_of_nonneg_left (by omega) (by omega)
  have e4 : w * (y + 1) = w * y + w := by rw [Int.mul_add, Int.mul_one]
  omega
theorem sp_nextTo {c way : Int} {r : Mh} {K : Int → Mh → Prop} (hs : szs (r 0 12) (r 0 13)) (h0 : 0 ≤ c) (h1 : c < 48) (hk : K (nx (r 0 12) (r 0 13) (r 5) c way) r) : wp_X14_nextTo c way r K := by
  have w0 := hs.1.1
  have w1 := hs.1.2
  have y0 := hs.2.1
  have y1 := hs.2.2
  have m0 : 0 ≤ c % r 0 12 := Int.emod_nonneg _ (by omega)
  have m1 : c % r 0 12 < r 0 12 := Int.emod_lt_of_pos _ (by omega)
  have d0 : 0 ≤ c / r 0 12 := Int.ediv_nonneg h0 (by omega)
  have d1 : c / r 0 12 ≤ c := Int.ediv_le_self _ h0
  have hx : gx (r 0 12) c way = c % r 0 12 + (if way = 2 then 1 else if way = 4 then -1 else 0) := rfl
  have hy : gy (r 0 12) c way = c / r 0 12 + (if way = 1 then -1 else if way = 3 then 1 else 0) := rfl
  have last : ∀ dx dy : Int, gx (r 0 12) c way = c % r 0 12 + dx → gy (r 0 12) c way = c / r 0 12 + dy → -1 ≤ dx → dx ≤ 1 → -1 ≤ dy → dy ≤ 1 → Lfp (F_X14_nextTo c way K) (52, [gx (r 0 12) c way, c / r 0 12, dy], r) := by
    intro dx dy ex ey a1 a2 a3 a4
    apply L_X14_nextTo_52
    unfold B_X14_nextTo_52
    intro x e
    rw [w32_eq (by omega) (by omega), ← ey] at e
    subst e
    unfold nx at hk
    by_cases c1 : gx (r 0 12) c way < 0
    · rw [if_pos c1]; rw [if_pos c1] at hk; exact hk
    · rw [if_neg c1]; rw [if_neg c1] at hk
      by_cases c2 : r 0 12 ≤ gx (r 0 12) c way
      · rw [if_pos c2]; rw [if_pos c2] at hk; exact hk
      · rw [if_neg c2]; rw [if_neg c2] at hk
        by_cases c3 : gy (r 0 12) c way < 0
        · rw [if_pos c3]; rw [if_pos c3] at hk; exact hk
        · rw [if_neg c3]; rw [if_neg c3] at hk
          by_cases c4 : r 0 13 ≤ gy (r 0 12) c way
          · rw [if_pos c4]; rw [if_pos c4] at hk; exact hk
          · rw [if_neg c4]; rw [if_neg c4] at hk
            obtain ⟨b1, b2, b3⟩ := wy_r hs (x := gx (r 0 12) c way) (y := gy (r 0 12) c way) (by omega) (by omega) (by omega) (by omega)
            have b4 := szs_mul hs
            rw [w32_eq (x := r 0 12 * gy (r 0 12) c way) (by omega) (by omega), w32_eq (by omega) (by omega)]
            refine ⟨⟨by omega, by omega⟩, ?_⟩
            by_cases c5 : r 5 (r 0 12 * gy (r 0 12) c way + gx (r 0 12) c way) = 2
            · rw [if_neg (fun z => z c5)]; rw [if_pos c5] at hk; exact hk
            · rw [if_pos c5]; rw [if_neg c5] at hk; exact hk
  have mid : ∀ dx : Int, gx (r 0 12) c way = c % r 0 12 + dx → -1 ≤ dx → dx ≤ 1 → Lfp (F_X14_nextTo c way K) (25, [c % r 0 12, dx], r) := by
    intro dx ex a1 a2
    apply L_X14_nextTo_25
    unfold B_X14_nextTo_25
    intro x e
    rw [w32_eq (by omega) (by omega), ← ex] at e
    subst e
    refine ⟨by omega, ?_⟩
    rw [j_div_n h0 (by omega) w0 w1]
    by_cases c1 : way = 1
    · rw [if_neg (fun z => z c1)]
      exact last dx (-1) ex (by rw [hy, if_pos c1]) a1 a2 (by decide) (by decide)
    · rw [if_pos c1]
      by_cases c3 : way = 3
      · rw [if_neg (fun z => z c3)]
        exact last dx 1 ex (by rw [hy, if_neg c1, if_pos c3]) a1 a2 (by decide) (by decide)
      · rw [if_pos c3]
        exact last dx 0 ex (by rw [hy, if_neg c1, if_neg c3]) a1 a2 (by decide) (by decide)
  unfold wp_X14_nextTo
  refine ⟨by omega, ?_⟩
  rw [j_rem_n h0 (by omega) w0 w1]
  by_cases c2 : way = 2
  · rw [if_neg (fun z => z c2)]
    exact mid 1 (by rw [hx, if_pos c2]) (by decide) (by decide)
  · rw [if_pos c2]
    by_cases c4 : way = 4
    · rw [if_neg (fun z => z c4)]
      exact mid (-1) (by rw [hx, if_neg c2, if_pos c4]) (by decide) (by decide)
    · rw [if_pos c4]
      exact mid 0 (by rw [hx, if_neg c2, if_neg c4]) (by decide) (by decide)
theorem wi_isCell {r : Mh} (hs : szs (r 0 12) (r 0 13)) (c : Int) (K : Int → Mh → Prop) : wp_X14_isCell c r K = K (if 0 ≤ c ∧ c < r 0 12 * r 0 13 then 1 else 0) r := by
  have := szs_mul hs
  unfold wp_X14_isCell wp_X14_cells
  rw [w32_eq (x := r 0 12 * r 0 13) (by omega) (by omega)]
  dsimp only
  by_cases c0 : c < 0
  · rw [if_pos c0, if_neg (by omega)]
  · rw [if_neg c0]
    by_cases c1 : r 0 12 * r 0 13 ≤ c
    · rw [if_pos c1, if_neg (by omega)]
    · rw [if_neg c1, if_pos (by omega)]
theorem wi_isWater {r : Mh} (hs : szs (r 0 12) (r 0 13)) (c : Int) (K : Int → Mh → Prop) : wp_X14_isWater c r K = K (if wat (r 0 12) (r 0 13) (r 5) c then 1 else 0) r := by
  have := szs_mul hs
  unfold wp_X14_isWater
  rw [wi_isCell hs]
  by_cases c0 : 0 ≤ c ∧ c < r 0 12 * r 0 13
  · rw [if_pos c0, if_neg (by decide)]
    by_cases c1 : r 5 c = 2
    · rw [if_pos c1, if_neg (fun z => z.2.2 c1)]
      simp only [show (0 ≤ c ∧ c < 96) from ⟨c0.1, by omega⟩, true_and]
    · rw [if_neg c1, if_pos ⟨c0.1, c0.2, c1⟩]
      simp only [show (0 ≤ c ∧ c < 96) from ⟨c0.1, by omega⟩, true_and]
  · rw [if_neg c0, if_pos rfl, if_neg (fun z => c0 ⟨z.1, z.2.1⟩)]
/-- the best way to b of those cells that are n - 1 far -/
def bst (w hh : Int) (g : Int → Int) (loss thick : Int) (D : Int → Int × Int) (n b : Int) : Nat → Int → Int → Int
  | 0, _, best => best
  | k + 1, way, best => bst w hh g loss thick D n b k (way + 1) (if nx w hh g b way < 0 then best else if (D (nx w hh g b way)).1 = n - 1 then (if best < 0 then (D (nx w hh g b way)).2 + loss + (if g b = 1 then thick else 0) else if best ≤ (D (nx w hh g b way)).2 + loss + (if g b = 1 then thick else 0) then best else (D (nx w hh g b way)).2 + loss + (if g b = 1 then thick else 0)) else best)
/-- one more layer -/
def stp (w hh : Int) (g : Int → Int) (loss thick : Int) (D : Int → Int × Int) (n b : Int) : Int × Int :=
  if g b = 2 then D b else if n ≤ (D b).1 then (if 0 ≤ bst w hh g loss thick D n b 4 1 (-1) then (n, bst w hh g loss thick D n b 4 1 (-1)) else D b) else D b
def DD (w hh : Int) (g : Int → Int) (loss thick a : Int) : Nat → Int → Int × Int
  | 0, b => if a = b then (0, 0) else (999, 0)
  | n + 1, b => if 0 ≤ b ∧ b < w * hh then stp w hh g loss thick (DD w hh g loss thick a n) (n + 1) b else DD w hh g loss thick a n b
theorem stp_keep {w hh : Int} {g : Int → Int} {loss thick : Int} {D : Int → Int × Int} {n c : Int} : ((stp w hh g loss thick D n c).1 = n - 1 ↔ (D c).1 = n - 1) ∧ ((D c).1 = n - 1 → stp w hh g loss thick D n c = D c) := by
  unfold stp
  constructor
  · split
    · exact Iff.rfl
    · split
      · split
        · constructor
          · intro z; dsimp only at z; omega
          · intro z; omega
        · exact Iff.rfl
      · exact Iff.rfl
  · intro z
    split
    · rfl
    · rw [if_neg (by omega)]
theorem bst_congr {w hh : Int} {g : Int → Int} {loss thick : Int} {D E : Int → Int × Int} {n b : Int} (h : ∀ c, 0 ≤ c → ((E c).1 = n - 1 ↔ (D c).1 = n - 1) ∧ ((D c).1 = n - 1 → E c = D c)) : ∀ (k : Nat) (way best : Int), bst w hh g loss thick E n b k way best = bst w hh g loss thick D n b k way best := by
  intro k
  induction k with
  | zero => intro way best; rfl
  | succ k ih =>
    intro way best
    unfold bst
    rw [ih]
    congr 1
    by_cases c0 : nx w hh g b way < 0
    · rw [if_pos c0, if_pos c0]
    · rw [if_neg c0, if_neg c0]
      obtain ⟨h1, h2⟩ := h (nx w hh g b way) (by omega)
      by_cases c1 : (D (nx w hh g b way)).1 = n - 1
      · rw [if_pos c1, if_pos (h1.mpr c1), h2 c1]
      · rw [if_neg c1, if_neg (fun z => c1 (h1.mp z))]
theorem bst_le {w hh : Int} {g : Int → Int} {loss thick : Int} {D : Int → Int × Int} {n b M : Int} (l0 : 0 ≤ loss) (t0 : 0 ≤ thick) (hD : ∀ c, 0 ≤ (D c).2 ∧ (D c).2 ≤ M) : ∀ (k : Nat) (way best : Int), -1 ≤ best → best ≤ M + loss + thick → -1 ≤ bst w hh g loss thick D n b k way best ∧ bst w hh g loss thick D n b k way best ≤ M + loss + thick := by
  intro k
  induction k with
  | zero => intro way best b0 b1; exact ⟨b0, b1⟩
  | succ k ih =>
    intro way best b0 b1
    unfold bst
    have hd := hD (nx w hh g b way)
    have ht : 0 ≤ (if g b = 1 then thick else 0) ∧ (if g b = 1 then thick else 0) ≤ thick := by split <;> omega
    refine ih (way + 1) _ ?_ ?_
    · split
      · exact b0
      · split
        · split
          · omega
          · split <;> omega
        · exact b0
    · split
      · exact b1
      · split
        · split
          · omega
          · split <;> omega
        · exact b1
theorem stp_le {w hh : Int} {g : Int → Int} {loss thick : Int} {D : Int → Int × Int} {n M : Int} (l0 : 0 ≤ loss) (t0 : 0 ≤ thick) (m0 : 0 ≤ M) (hD : ∀ c, 0 ≤ (D c).2 ∧ (D c).2 ≤ M) (b : Int) : 0 ≤ (stp w hh g loss thick D n b).2 ∧ (stp w hh g loss thick D n b).2 ≤ M + loss + thick := by
  have h1 := hD b
  have h2 := bst_le (w := w) (hh := hh) (g := g) (n := n) (b := b) l0 t0 hD 4 1 (-1) (by omega) (by omega)
  unfold stp
  split
  · omega
  · split
    · split
      · dsimp only; omega
      · omega
    · omega
theorem DD_le {w hh : Int} {g : Int → Int} {loss thick a : Int} (l0 : 0 ≤ loss) (t0 : 0 ≤ thick) : ∀ (n : Nat) (b : Int), 0 ≤ (DD w hh g loss thick a n b).2 ∧ (DD w hh g loss thick a n b).2 ≤ n * (loss + thick) := by
  intro n
  induction n with
  | zero =>
    intro b
    unfold DD
    split <;> simp
  | succ n ih =>
    intro b
    unfold DD
    have e : ((n + 1 : Nat) : Int) * (loss + thick) = n * (loss + thick) + loss + thick := by
      rw [Int.natCast_add, Int.add_mul]; simp; omega
    have m0 : 0 ≤ (n : Int) * (loss + thick) := Int.mul_nonneg (by omega) (by omega)
    rw [e]
    split
    · exact stp_le l0 t0 m0 ih b
    · have := ih b
      omega
theorem nx_r {w hh : Int} {g : Int → Int} {c way : Int} (hs : szs w hh) : nx w hh g c way = -1 ∨ (0 ≤ nx w hh g c way ∧ nx w hh g c way < w * hh ∧ ¬ g (nx w hh g c way) = 2) := by
  unfold nx
  split
  · exact Or.inl rfl
  · split
    · exact Or.inl rfl
    · split
      · exact Or.inl rfl
      · split
        · exact Or.inl rfl
        · split
          · exact Or.inl rfl
          · obtain ⟨b1, b2, b3⟩ := wy_r hs (x := gx w c way) (y := gy w c way) (by omega) (by omega) (by omega) (by omega)
            right
            refine ⟨by omega, b3, by assumption⟩
/-- a row of the reference's two tables -/
def rowD (r : Mh) (a : Int) : Int → Int × Int := fun b => (r 30 (48 * a + b), r 31 (48 * a + b))
/-- behind layFar -/
def lfarK (r : Mh) (a n m : Int) : Mh := fun o j => if o = 30 ∧ 48 * a ≤ j ∧ j < 48 * a + m then (stp (r 0 12) (r 0 13) (r 5) (r 0 21) (r 0 22) (rowD r a) n (j - 48 * a)).1 else if o = 31 ∧ 48 * a ≤ j ∧ j < 48 * a + m then (stp (r 0 12) (r 0 13) (r 5) (r 0 21) (r 0 22) (rowD r a) n (j - 48 * a)).2 else r o j
theorem way44 {a n b : Int} {g : Mh} {K : Mh → Prop} (hs : szs (g 0 12) (g 0 13)) (l0 : 0 ≤ g 0 21) (l1 : g 0 21 ≤ 50) (t0 : 0 ≤ g 0 22) (t1 : g 0 22 ≤ 99) (a0 : 0 ≤ a) (a1 : a < 48) (n0 : 1 ≤ n) (n1 : n < 48) (b0 : 0 ≤ b) (b1 : b < 48) (hW : ∀ c, 0 ≤ c → c < 48 → 0 ≤ g 31 (48 * a + c) ∧ g 31 (48 * a + c) ≤ 100000) :
    ∀ (k : Nat) (way best : Int), way + k = 5 → 1 ≤ way → -1 ≤ best → best ≤ 100149 →
      (0 ≤ bst (g 0 12) (g 0 13) (g 5) (g 0 21) (g 0 22) (rowD g a) n b k way best → Lfp (F_X14_layFar a n K) (2, [b + 1], up (up g 30 (48 * a + b) n) 31 (48 * a + b) (bst (g 0 12) (g 0 13) (g 5) (g 0 21) (g 0 22) (rowD g a) n b k way best))) →
      (bst (g 0 12) (g 0 13) (g 5) (g 0 21) (g 0 22) (rowD g a) n b k way best < 0 → Lfp (F_X14_layFar a n K) (2, [b + 1], g)) → Lfp (F_X14_layFar a n K) (44, [b, best, way], g) := by
  have hm := szs_mul hs
  intro k
  induction k with
  | zero =>
    intro way best hk w0 e0 e1 p1 p2
    apply L_X14_layFar_44
    unfold B_X14_layFar_44
    rw [if_pos (by omega), w32_eq (x := 48 * a) (by omega) (by omega), w32_eq (x := 48 * a + b) (by omega) (by omega)]
    simp only [bst] at p1 p2
    by_cases c0 : 0 ≤ best
    · rw [if_pos c0]
      refine ⟨⟨by omega, by omega⟩, ?_⟩
      intro g1 e1
      refine ⟨⟨by omega, by omega⟩, ?_⟩
      intro g2 e2 x ex
      rw [w32_eq (by omega) (by omega)] at ex
      subst ex; subst e1; subst e2
      exact p1 c0
    · rw [if_neg c0]
      intro x ex
      rw [w32_eq (by omega) (by omega)] at ex
      subst ex
      exact p2 (by omega)
  | succ k ih =>
    intro way best hk w0 e0 e1 p1 p2
    apply L_X14_layFar_44
    unfold B_X14_layFar_44
    rw [if_neg (by omega)]
    refine sp_nextTo hs b0 b1 ?_
    unfold bst at p1 p2
    have go : ∀ best2 : Int, -1 ≤ best2 → best2 ≤ 100149 → (0 ≤ bst (g 0 12) (g 0 13) (g 5) (g 0 21) (g 0 22) (rowD g a) n b k (way + 1) best2 → Lfp (F_X14_layFar a n K) (2, [b + 1], up (up g 30 (48 * a + b) n) 31 (48 * a + b) (bst (g 0 12) (g 0 13) (g 5) (g 0 21) (g 0 22) (rowD g a) n b k (way + 1) best2))) →
      (bst (g 0 12) (g 0 13) (g 5) (g 0 21) (g 0 22) (rowD g a) n b k (way + 1) best2 < 0 → Lfp (F_X14_layFar a n K) (2, [b + 1], g)) → ∀ x, x = w32 (way + 1) → Lfp (F_X14_layFar a n K) (44, [b, best2, x], g) := by
      intro best2 f0 f1 f2 f3 x ex
      rw [w32_eq (by omega) (by omega)] at ex
      subst ex
      exact ih (way + 1) best2 (by omega) (by omega) f0 f1 f2 f3
    generalize hc : nx (g 0 12) (g 0 13) (g 5) b way = c at p1 p2 ⊢
    by_cases c0 : c < 0
    · rw [if_pos c0]
      rw [if_pos c0] at p1 p2
      exact go best e0 e1 p1 p2
    · rw [if_neg c0]
      rw [if_neg c0] at p1 p2
      have hcr : c < 48 := by
        rcases nx_r (g := g 5) (c := b) (way := way) hs with z | z
        · rw [hc] at z; omega
        · rw [hc] at z; omega
      have hwc := hW c (by omega) hcr
      rw [w32_eq (x := 48 * a) (by omega) (by omega), w32_eq (x := 48 * a + c) (by omega) (by omega), w32_eq (x := n - 1) (by omega) (by omega)]
      refine ⟨⟨by omega, by omega⟩, ?_⟩
      have r1 : (rowD g a c).1 = g 30 (48 * a + c) := rfl
      have r2 : (rowD g a c).2 = g 31 (48 * a + c) := rfl
      rw [r1, r2] at p1 p2
      by_cases c1 : g 30 (48 * a + c) = n - 1
      · rw [if_pos c1]
        rw [if_pos c1] at p1 p2
        refine ⟨⟨by omega, by omega⟩, ⟨by omega, by omega⟩, ?_⟩
        have pick : ∀ t : Int, 0 ≤ t → t ≤ 99 → (if g 5 b = 1 then g 0 22 else 0) = t → ∀ x, x = w32 (w32 (g 31 (48 * a + c) + g 0 21) + t) → if best < 0 then (∀ y, y = w32 (way + 1) → Lfp (F_X14_layFar a n K) (44, [b, x, y], g)) else (if best ≤ x then (∀ y, y = w32 (way + 1) → Lfp (F_X14_layFar a n K) (44, [b, best, y], g)) else (∀ y, y = w32 (way + 1) → Lfp (F_X14_layFar a n K) (44, [b, x, y], g))) := by
          intro t u0 u1 et x ex
          rw [w32_eq (x := g 31 (48 * a + c) + g 0 21) (by omega) (by omega), w32_eq (by omega) (by omega)] at ex
          subst ex
          rw [et] at p1 p2
          by_cases c2 : best < 0
          · rw [if_pos c2]
            rw [if_pos c2] at p1 p2
            exact go _ (by omega) (by omega) p1 p2
          · rw [if_neg c2]
            rw [if_neg c2] at p1 p2
            by_cases c3 : best ≤ g 31 (48 * a + c) + g 0 21 + t
            · rw [if_pos c3]
              rw [if_pos c3] at p1 p2
              exact go _ (by omega) (by omega) p1 p2
            · rw [if_neg c3]
              rw [if_neg c3] at p1 p2
              exact go _ (by omega) (by omega) p1 p2
        by_cases c4 : g 5 b = 1
        · rw [if_neg (fun z => z c4)]
          exact pick (g 0 22) t0 t1 (if_pos c4)
        · rw [if_pos c4]
          exact pick 0 (by omega) (by omega) (if_neg c4)
      · rw [if_neg c1]
        rw [if_neg c1] at p1 p2
        exact go best e0 e1 p1 p2
