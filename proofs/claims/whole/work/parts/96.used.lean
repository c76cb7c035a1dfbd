/-! ===== cells as bits ===== -/
def cbs (f : Int → Int) : Nat → Int → Int → Int
  | 0, _, v => v
  | n + 1, i, v => cbs f n (i + 1) (j_lor v (j_lshl 1 (f i)))
theorem bit_cbs {f : Int → Int} {c : Int} (c0 : 0 ≤ c) (c1 : c < 64) : ∀ (n : Nat) (i v : Int), (∀ j, i ≤ j → j < i + n → 0 ≤ f j ∧ f j < 64) → (bit (cbs f n i v) c = true ↔ bit v c = true ∨ ∃ j, i ≤ j ∧ j < i + n ∧ f j = c) := by
  intro n
  induction n with
  | zero =>
    intro i v hf
    show bit v c = true ↔ _
    refine ⟨Or.inl, fun z => z.elim id (fun ⟨j, a, b, _⟩ => by omega)⟩
  | succ n ih =>
    intro i v hf
    have hi := hf i (by omega) (by omega)
    show bit (cbs f n (i + 1) (j_lor v (j_lshl 1 (f i)))) c = true ↔ _
    rw [ih (i + 1) _ (fun j a b => hf j (by omega) (by omega)), bit_or, bit_one_shl hi.1 hi.2 c0 c1, Bool.or_eq_true]
    constructor
    · rintro ((z | z) | ⟨j, a, b, e⟩)
      · exact Or.inl z
      · exact Or.inr ⟨i, by omega, by omega, (of_decide_eq_true z).symm⟩
      · exact Or.inr ⟨j, by omega, by omega, e⟩
    · rintro (z | ⟨j, a, b, e⟩)
      · exact Or.inl (Or.inl z)
      · by_cases y : j = i
        · exact Or.inl (Or.inr (decide_eq_true (by rw [← y]; exact e.symm)))
        · exact Or.inr ⟨j, by omega, by omega, e⟩
theorem xp_cellBits {sh : Int → Nat × Nat} {r : Int} {h : Mh} {K : Int → Mh → Prop} (h0 : 0 ≤ h r 1) (h1 : h r 1 ≤ (sh (r + 1)).2) (h2 : h r 1 ≤ 1000) (hk : K (cbs (h (r + 1)) (h r 1).toNat 0 0) h) : wp_X7_cellBits sh r h K := by
  have loop : ∀ (n : Nat) (i v : Int), 0 ≤ i → i + n = h r 1 → K (cbs (h (r + 1)) n i v) h → Lfp (F_X7_cellBits sh r K) (4, [v, i], h) := by
    intro n
    induction n with
    | zero =>
      intro i v i0 hi hk
      apply L_X7_cellBits_4
      unfold B_X7_cellBits_4
      rw [if_pos (by omega)]
      exact hk
    | succ n ih =>
      intro i v i0 hi hk
      apply L_X7_cellBits_4
      unfold B_X7_cellBits_4
      rw [if_neg (by omega), if_neg (by omega)]
      refine ⟨⟨i0, by omega⟩, ?_⟩
      intro x1 e1 x2 e2
      rw [w32_eq (by omega) (by omega)] at e2
      rw [e1, e2]
      exact ih (i + 1) _ (by omega) (by omega) hk
  exact loop (h r 1).toNat 0 0 (by omega) (by omega) hk
theorem xp_dropBits {sh : Int → Nat × Nat} {r : Int} {h : Mh} {K : Int → Mh → Prop} (h0 : 0 ≤ h r 3) (h1 : h r 3 ≤ (sh (r + 2)).2) (h2 : h r 3 ≤ 1000) (hk : K (cbs (h (r + 2)) (h r 3).toNat 0 0) h) : wp_X1_cellBits sh r h K := by
  have loop : ∀ (n : Nat) (i v : Int), 0 ≤ i → i + n = h r 3 → K (cbs (h (r + 2)) n i v) h → Lfp (F_X1_cellBits sh r K) (4, [v, i], h) := by
    intro n
    induction n with
    | zero =>
      intro i v i0 hi hk
      apply L_X1_cellBits_4
      unfold B_X1_cellBits_4
      rw [if_pos (by omega)]
      exact hk
    | succ n ih =>
      intro i v i0 hi hk
      apply L_X1_cellBits_4
      unfold B_X1_cellBits_4
      rw [if_neg (by omega)]
      refine ⟨⟨i0, by omega⟩, ?_⟩
      intro x1 e1 x2 e2
      rw [w32_eq (by omega) (by omega)] at e2
      rw [e1, e2]
      exact ih (i + 1) _ (by omega) (by omega) hk
  exact loop (h r 3).toNat 0 0 (by omega) (by omega) hk
/-- what land may not take, in the class -/
def rowB (h : Mh) (r : Int) : Int := cbs (h (r + 1)) (h r 1).toNat 0 0
def usedB (h : Mh) (p : Int) : Int := j_lor (j_lor (j_lor (j_lor (j_lor (j_lor (j_lor (h p 3) (rowB h (p + 1))) (rowB h (p + 27))) (rowB h (p + 31))) (cbs (h (p + 33 + 2)) (h (p + 33) 3).toNat 0 0)) (rowB h (p + 3 + 1 + 2 * 0))) (rowB h (p + 3 + 1 + 2 * 1))) (rowB h (p + 3 + 1 + 2 * 2))
theorem xp_usedCells {p : Int} {h : Mh} {K : Int → Mh → Prop} (hp : isP p) (hr : ∀ o, (o = p + 1 ∨ o = p + 27 ∨ o = p + 31 ∨ o = p + 4 ∨ o = p + 6 ∨ o = p + 8) → 0 ≤ h o 1 ∧ h o 1 ≤ (shC (o + 1)).2) (hd : 0 ≤ h (p + 33) 3 ∧ h (p + 33) 3 ≤ (shC (p + 33 + 2)).2) (hk : K (usedB h p) h) : wp_X5_usedCells shC p h K := by
  have s3 : ((shC (p + 3)).2 : Int) = 3 := by rcases hp with e | e <;> rw [e] <;> rfl
  have b1 : ∀ o, (o = p + 1 ∨ o = p + 27 ∨ o = p + 31 ∨ o = p + 4 ∨ o = p + 6 ∨ o = p + 8) → (shC (o + 1)).2 ≤ 1000 := by
    intro o ho
    rcases hp with e | e <;> rw [e] at ho <;> rcases ho with z | z | z | z | z | z <;> rw [z] <;> decide
  have b2 : (shC (p + 33 + 2)).2 ≤ 1000 := by rcases hp with e | e <;> rw [e] <;> decide
  have go : ∀ o, (o = p + 1 ∨ o = p + 27 ∨ o = p + 31 ∨ o = p + 4 ∨ o = p + 6 ∨ o = p + 8) → ∀ K' : Int → Mh → Prop, K' (rowB h o) h → wp_X7_cellBits shC o h K' := by
    intro o ho K' hk'
    have a1 := hr o ho
    have a2 := b1 o ho
    exact xp_cellBits a1.1 a1.2 (by omega) hk'
  have step : ∀ (i v : Int), 0 ≤ i → i < 3 → Lfp (F_X5_usedCells shC p K) (39, [j_lor v (rowB h (p + 3 + 1 + 2 * i)), i + 1], h) → Lfp (F_X5_usedCells shC p K) (39, [v, i], h) := by
    intro i v i0 i1 hn
    apply L_X5_usedCells_39
    unfold B_X5_usedCells_39
    rw [s3, if_neg (by omega)]
    refine ⟨⟨i0, i1⟩, go _ (by omega) _ ?_⟩
    intro x2 e2 x3 e3
    rw [w32_eq (by omega) (by omega)] at e3
    rw [e2, e3]
    exact hn
  unfold wp_X5_usedCells
  refine go _ (by omega) _ (go _ (by omega) _ (go _ (by omega) _ (xp_dropBits hd.1 hd.2 (by omega) ?_)))
  intro x5 e5
  rw [e5]
  refine step 0 _ (by decide) (by decide) (step 1 _ (by decide) (by decide) (step 2 _ (by decide) (by decide) ?_))
  apply L_X5_usedCells_39
  unfold B_X5_usedCells_39
  rw [s3, if_pos (by decide)]
  exact hk
