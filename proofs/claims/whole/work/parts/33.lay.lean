/-! ===== the reference's layWays lays the layers ===== -/
theorem bst_congr2 {w hh : Int} {g : Int → Int} {loss thick : Int} {D E : Int → Int × Int} {n b : Int} (hs : szs w hh) (h : ∀ c, 0 ≤ c → c < w * hh → ((E c).1 = n - 1 ↔ (D c).1 = n - 1) ∧ ((D c).1 = n - 1 → E c = D c)) : ∀ (k : Nat) (way best : Int), bst w hh g loss thick E n b k way best = bst w hh g loss thick D n b k way best := by
  intro k
  induction k with
  | zero => intro way best; rfl
  | succ k ih =>
    intro way best
    unfold bst
    rw [ih]
    congr 1
    by_cases c0 : nx w hh g b way < 0
    · rw [if_pos c0, if_pos c0]
    · rw [if_neg c0, if_neg c0]
      have hr : nx w hh g b way < w * hh := by
        rcases nx_r (g := g) (c := b) (way := way) hs with z | z <;> omega
      obtain ⟨h1, h2⟩ := h (nx w hh g b way) (by omega) hr
      by_cases c1 : (D (nx w hh g b way)).1 = n - 1
      · rw [if_pos c1, if_pos (h1.mpr c1), h2 c1]
      · rw [if_neg c1, if_neg (fun z => c1 (h1.mp z))]
theorem stp_congr {w hh : Int} {g : Int → Int} {loss thick : Int} {D E : Int → Int × Int} {n b : Int} (hs : szs w hh) (b0 : 0 ≤ b) (b1 : b < w * hh) (h : ∀ c, 0 ≤ c → c < w * hh → E c = D c) : stp w hh g loss thick E n b = stp w hh g loss thick D n b := by
  unfold stp
  rw [bst_congr2 (D := D) (E := E) hs (fun c c0 c1 => by rw [h c c0 c1]; exact ⟨Iff.rfl, fun _ => rfl⟩), h b b0 b1]
theorem bst_le2 {w hh : Int} {g : Int → Int} {loss thick : Int} {D : Int → Int × Int} {n b M : Int} (hs : szs w hh) (l0 : 0 ≤ loss) (t0 : 0 ≤ thick) (hD : ∀ c, 0 ≤ c → c < w * hh → 0 ≤ (D c).2 ∧ (D c).2 ≤ M) : ∀ (k : Nat) (way best : Int), -1 ≤ best → best ≤ M + loss + thick → -1 ≤ bst w hh g loss thick D n b k way best ∧ bst w hh g loss thick D n b k way best ≤ M + loss + thick := by
  intro k
  induction k with
  | zero => intro way best b0 b1; exact ⟨b0, b1⟩
  | succ k ih =>
    intro way best b0 b1
    unfold bst
    by_cases c0 : nx w hh g b way < 0
    · rw [if_pos c0]
      exact ih (way + 1) _ b0 b1
    · rw [if_neg c0]
      have hr : nx w hh g b way < w * hh := by
        rcases nx_r (g := g) (c := b) (way := way) hs with z | z <;> omega
      have hd := hD (nx w hh g b way) (by omega) hr
      have ht : 0 ≤ (if g b = 1 then thick else 0) ∧ (if g b = 1 then thick else 0) ≤ thick := by split <;> omega
      refine ih (way + 1) _ ?_ ?_
      · split
        · split
          · omega
          · split <;> omega
        · exact b0
      · split
        · split
          · omega
          · split <;> omega
        · exact b1
theorem stp_le2 {w hh : Int} {g : Int → Int} {loss thick : Int} {D : Int → Int × Int} {n M b : Int} (hs : szs w hh) (l0 : 0 ≤ loss) (t0 : 0 ≤ thick) (m0 : 0 ≤ M) (b0 : 0 ≤ b) (b1 : b < w * hh) (hD : ∀ c, 0 ≤ c → c < w * hh → 0 ≤ (D c).2 ∧ (D c).2 ≤ M) : 0 ≤ (stp w hh g loss thick D n b).2 ∧ (stp w hh g loss thick D n b).2 ≤ M + loss + thick := by
  have h1 := hD b b0 b1
  have h2 := bst_le2 (g := g) (n := n) (b := b) hs l0 t0 hD 4 1 (-1) (by omega) (by omega)
  unfold stp
  split
  · omega
  · split
    · split
      · dsimp only; omega
      · omega
    · omega
/-- the sizes and the numbers of a text -/
abbrev prm (r : Mh) : Prop := szs (r 0 12) (r 0 13) ∧ (0 ≤ r 0 21 ∧ r 0 21 ≤ 50) ∧ (0 ≤ r 0 22 ∧ r 0 22 ≤ 99)
theorem sp_layFar {a n : Int} {r : Mh} {K : Mh → Prop} (hp : prm r) (a0 : 0 ≤ a) (a1 : a < 48) (n0 : 1 ≤ n) (n1 : n < 48) (hW : ∀ c, 0 ≤ c → c < 48 → 0 ≤ r 31 (48 * a + c) ∧ r 31 (48 * a + c) ≤ 149 * (n - 1)) (hk : K (lfarK r a n (r 0 12 * r 0 13))) : wp_X14_layFar a n r K := by
  obtain ⟨hs, ⟨l0, l1⟩, t0, t1⟩ := hp
  have hm := szs_mul hs
  unfold wp_X14_layFar
  have main : ∀ (m : Nat) (b : Int) (g : Mh), 0 ≤ b → b + m = r 0 12 * r 0 13 → g = lfarK r a n b → Lfp (F_X14_layFar a n K) (2, [b], g) := by
    intro m
    induction m with
    | zero =>
      intro b g b0 hb eg
      apply L_X14_layFar_2
      unfold B_X14_layFar_2 wp_X14_cells
      have g12 : g 0 12 = r 0 12 := by rw [eg]; simp [lfarK]
      have g13 : g 0 13 = r 0 13 := by rw [eg]; simp [lfarK]
      dsimp only
      rw [g12, g13, w32_eq (x := r 0 12 * r 0 13) (by omega) (by omega), if_pos (by omega), eg, show b = r 0 12 * r 0 13 by omega]
      exact hk
    | succ m ih =>
      intro b g b0 hb eg
      have g0 : ∀ j, g 0 j = r 0 j := fun j => by rw [eg]; simp [lfarK]
      have g5 : g 5 = r 5 := by rw [eg]; funext j; simp [lfarK]
      have row : ∀ c, 0 ≤ c → rowD g a c = if c < b then stp (r 0 12) (r 0 13) (r 5) (r 0 21) (r 0 22) (rowD r a) n c else rowD r a c := by
        intro c c0
        rw [eg]
        by_cases q : c < b
        · rw [if_pos q]
          unfold rowD lfarK
          rw [if_pos (by omega), if_neg (by omega), if_pos (by omega), show 48 * a + c - 48 * a = c by omega]
          rfl
        · rw [if_neg q]
          unfold rowD lfarK
          rw [if_neg (by omega), if_neg (by omega), if_neg (by omega), if_neg (by omega)]
      have nextSame : stp (r 0 12) (r 0 13) (r 5) (r 0 21) (r 0 22) (rowD r a) n b = rowD r a b → lfarK r a n (b + 1) = g := by
        intro e
        rw [eg]
        funext o j
        unfold lfarK
        by_cases c1 : o = 30 ∧ j = 48 * a + b
        · rw [if_pos (by omega), if_neg (by omega), if_neg (by omega), show j - 48 * a = b by omega, e, c1.1, c1.2]
          rfl
        · by_cases c2 : o = 31 ∧ j = 48 * a + b
          · rw [if_neg (by omega), if_pos (by omega), if_neg (by omega), if_neg (by omega), show j - 48 * a = b by omega, e, c2.1, c2.2]
            rfl
          · by_cases c3 : o = 30 ∧ 48 * a ≤ j ∧ j < 48 * a + b
            · rw [if_pos (by omega), if_pos c3]
            · rw [if_neg (by omega), if_neg c3]
              by_cases c4 : o = 31 ∧ 48 * a ≤ j ∧ j < 48 * a + b
              · rw [if_pos (by omega), if_pos c4]
              · rw [if_neg (by omega), if_neg c4]
      apply L_X14_layFar_2
      unfold B_X14_layFar_2 wp_X14_cells
      dsimp only
      rw [g0, g0, w32_eq (x := r 0 12 * r 0 13) (by omega) (by omega), if_neg (by omega)]
      refine ⟨⟨b0, by omega⟩, ?_⟩
      rw [w32_eq (x := 48 * a) (by omega) (by omega), w32_eq (x := 48 * a + b) (by omega) (by omega), g5]
      have rb : rowD g a b = rowD r a b := by rw [row b b0, if_neg (by omega)]
      have rb1 : g 30 (48 * a + b) = (rowD r a b).1 := by rw [← rb]; rfl
      by_cases c0 : r 5 b = 2
      · rw [if_pos c0]
        intro x ex
        rw [w32_eq (by omega) (by omega)] at ex
        subst ex
        exact ih (b + 1) g (by omega) (by omega) (nextSame (by unfold stp; rw [if_pos c0])).symm
      · rw [if_neg c0]
        refine ⟨⟨by omega, by omega⟩, ?_⟩
        rw [rb1]
        by_cases c1 : n ≤ (rowD r a b).1
        · rw [if_pos c1]
          have hD : ∀ c, 0 ≤ c → c < r 0 12 * r 0 13 → 0 ≤ (rowD r a c).2 ∧ (rowD r a c).2 ≤ 149 * (n - 1) := fun c c0 c1 => hW c c0 (by omega)
          have hWg : ∀ c, 0 ≤ c → c < 48 → 0 ≤ g 31 (48 * a + c) ∧ g 31 (48 * a + c) ≤ 100000 := by
            intro c c0 c1
            have e : g 31 (48 * a + c) = (rowD g a c).2 := rfl
            rw [e, row c c0]
            by_cases q : c < b
            · rw [if_pos q]
              have := stp_le2 (g := r 5) (n := n) (b := c) hs l0 t0 (show 0 ≤ 149 * (n - 1) by omega) c0 (by omega) hD
              omega
            · rw [if_neg q]
              have := hW c c0 c1
              show 0 ≤ r 31 (48 * a + c) ∧ r 31 (48 * a + c) ≤ 100000
              omega
          have eb : bst (r 0 12) (r 0 13) (r 5) (r 0 21) (r 0 22) (rowD g a) n b 4 1 (-1) = bst (r 0 12) (r 0 13) (r 5) (r 0 21) (r 0 22) (rowD r a) n b 4 1 (-1) := by
            refine bst_congr2 hs (fun c c0 c1 => ?_) 4 1 (-1)
            rw [row c c0]
            by_cases q : c < b
            · rw [if_pos q]; exact stp_keep
            · rw [if_neg q]; exact ⟨Iff.rfl, fun _ => rfl⟩
          have w := way44 (K := K) (g := g) (a := a) (n := n) (b := b) (by rw [g0, g0]; exact hs) (by rw [g0]; exact l0) (by rw [g0]; exact l1) (by rw [g0]; exact t0) (by rw [g0]; exact t1) a0 a1 n0 n1 b0 (by omega) hWg 4 1 (-1) (by omega) (by omega) (by omega) (by omega)
          rw [g0, g0, g0, g0, g5, eb] at w
          refine w (fun q => ?_) (fun q => ?_)
          · refine ih (b + 1) _ (by omega) (by omega) ?_
            have e : stp (r 0 12) (r 0 13) (r 5) (r 0 21) (r 0 22) (rowD r a) n b = (n, bst (r 0 12) (r 0 13) (r 5) (r 0 21) (r 0 22) (rowD r a) n b 4 1 (-1)) := by
              unfold stp
              rw [if_neg c0, if_pos c1, if_pos q]
            rw [eg]
            funext o j
            unfold up lfarK
            by_cases k2 : o = 31 ∧ j = 48 * a + b
            · rw [if_pos k2, if_neg (by omega), if_pos (by omega), show j - 48 * a = b by omega, e]
            · rw [if_neg k2]
              by_cases k1 : o = 30 ∧ j = 48 * a + b
              · rw [if_pos k1, if_pos (by omega), show j - 48 * a = b by omega, e]
              · rw [if_neg k1]
                by_cases c3 : o = 30 ∧ 48 * a ≤ j ∧ j < 48 * a + b
                · rw [if_pos c3, if_pos (by omega)]
                · rw [if_neg c3]
                  by_cases c4 : o = 31 ∧ 48 * a ≤ j ∧ j < 48 * a + b
                  · rw [if_pos c4, if_neg (by omega), if_pos (by omega)]
                  · rw [if_neg c4, if_neg (by omega), if_neg (by omega)]
          · refine ih (b + 1) g (by omega) (by omega) (nextSame ?_).symm
            unfold stp
            rw [if_neg c0, if_pos c1, if_neg (by omega)]
        · rw [if_neg c1]
          intro x ex
          rw [w32_eq (by omega) (by omega)] at ex
          subst ex
          exact ih (b + 1) g (by omega) (by omega) (nextSame (by unfold stp; rw [if_neg c0, if_neg c1])).symm
  refine main (r 0 12 * r 0 13).toNat 0 r (by omega) (by omega) ?_
  funext o j
  unfold lfarK
  rw [if_neg (by omega), if_neg (by omega)]
