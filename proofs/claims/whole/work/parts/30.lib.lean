/-! ===== the mathematics: small words ===== -/
theorem w32_id {x : Int} (h : -2147483648 ≤ x ∧ x < 2147483648) : w32 x = x := w32_eq h.1 h.2
theorem up_other {h : Mh} {o k v b : Int} (q : b ≠ o) : up h o k v b = h b := by
  funext j
  exact up_ne h (fun z => q z.1)
theorem up_self {h : Mh} {o k v : Int} : up h o k v o k = v := up_same h o k v
theorem up_slot {h : Mh} {o k v b j : Int} (q : j ≠ k) : up h o k v b j = h b j := up_ne h (fun z => q z.2)
theorem j_cmp_eq {a b : Int} : j_cmp a b = 0 ↔ a = b := by
  unfold j_cmp; split
  · constructor <;> intro h <;> omega
  · split <;> constructor <;> intro h <;> omega
theorem j_cmp_lt {a b : Int} : j_cmp a b < 0 ↔ a < b := by
  unfold j_cmp; split
  · constructor <;> intro h <;> omega
  · split <;> constructor <;> intro h <;> omega
theorem j_cmp_le {a b : Int} : j_cmp a b ≤ 0 ↔ a ≤ b := by
  unfold j_cmp; split
  · constructor <;> intro h <;> omega
  · split <;> constructor <;> intro h <;> omega
theorem j_cmp_gt {a b : Int} : 0 < j_cmp a b ↔ b < a := by
  unfold j_cmp; split
  · constructor <;> intro h <;> omega
  · split <;> constructor <;> intro h <;> omega
theorem j_cmp_ge {a b : Int} : 0 ≤ j_cmp a b ↔ b ≤ a := by
  unfold j_cmp; split
  · constructor <;> intro h <;> omega
  · split <;> constructor <;> intro h <;> omega
/-- the first place of v among n from i on; -1 -/
def fst1 (f : Int → Int) (v : Int) : Nat → Int → Int
  | 0, _ => -1
  | n + 1, i => if f i = v then i else fst1 f v n (i + 1)
theorem fst1_congr {f g : Int → Int} {v : Int} : ∀ (n : Nat) (i : Int), (∀ j, i ≤ j → j < i + n → f j = g j) → fst1 f v n i = fst1 g v n i := by
  intro n
  induction n with
  | zero => intro i _; rfl
  | succ n ih =>
    intro i h
    simp only [fst1]
    rw [h i (by omega) (by omega), ih (i + 1) (fun j h1 h2 => h j (by omega) (by omega))]
/-- how many of n from i on are v -/
def cnt1 (f : Int → Int) (v : Int) : Nat → Int → Int
  | 0, _ => 0
  | n + 1, i => (if f i = v then 1 else 0) + cnt1 f v n (i + 1)
theorem cnt1_congr {f g : Int → Int} {v : Int} : ∀ (n : Nat) (i : Int), (∀ j, i ≤ j → j < i + n → f j = g j) → cnt1 f v n i = cnt1 g v n i := by
  intro n
  induction n with
  | zero => intro i _; rfl
  | succ n ih =>
    intro i h
    simp only [cnt1]
    rw [h i (by omega) (by omega), ih (i + 1) (fun j h1 h2 => h j (by omega) (by omega))]
theorem cnt1_le {f : Int → Int} {v : Int} : ∀ (n : Nat) (i : Int), 0 ≤ cnt1 f v n i ∧ cnt1 f v n i ≤ n := by
  intro n
  induction n with
  | zero => intro i; simp [cnt1]
  | succ n ih =>
    intro i
    have := ih (i + 1)
    simp only [cnt1]
    split <;> omega
/-! ===== rows, drops: what their methods do ===== -/
theorem sp_indexOf {sh : Int → Nat × Nat} {r v : Int} {h : Mh} {K : Int → Mh → Prop} (h0 : 0 ≤ h r 1) (h1 : h r 1 ≤ (sh (r + 1)).2) (h2 : h r 1 ≤ 1000) (hk : K (fst1 (h (r + 1)) v (h r 1).toNat 0) h) : wp_X7_indexOf sh r v h K := by
  unfold wp_X7_indexOf
  have main : ∀ (n : Nat) (i : Int), 0 ≤ i → i + n = h r 1 → K (fst1 (h (r + 1)) v n i) h → Lfp (F_X7_indexOf sh r v K) (2, [i], h) := by
    intro n
    induction n with
    | zero =>
      intro i hi hn hk
      apply L_X7_indexOf_2
      unfold B_X7_indexOf_2
      rw [if_pos (by omega)]
      exact hk
    | succ n ih =>
      intro i hi hn hk
      apply L_X7_indexOf_2
      unfold B_X7_indexOf_2
      rw [if_neg (by omega), if_neg (by omega)]
      refine ⟨⟨hi, by omega⟩, ?_⟩
      by_cases e : h (r + 1) i = v
      · rw [if_neg (fun z => z e)]
        simpa [fst1, e] using hk
      · rw [if_pos e]
        intro x ex
        rw [w32_eq (by omega) (by omega)] at ex
        subst ex
        exact ih (i + 1) (by omega) (by omega) (by simpa [fst1, e] using hk)
  exact main (h r 1).toNat 0 (by omega) (by omega) hk
theorem sp_find {a b n v : Int} {h : Mh} {K : Int → Mh → Prop} (ha : (shR a).1 = 14) (hb : 0 ≤ b) (hn : 0 ≤ n) (h1 : b + n ≤ (shR a).2) (h2 : (shR a).2 ≤ 10000) (hk : K (fst1 (fun j => h a (b + j)) v n.toNat 0) h) : wp_X14_find a b n v h K := by
  unfold wp_X14_find
  have main : ∀ (m : Nat) (i : Int), 0 ≤ i → i + m = n → K (fst1 (fun j => h a (b + j)) v m i) h → Lfp (F_X14_find a b n v K) (3, [i], h) := by
    intro m
    induction m with
    | zero =>
      intro i hi hm hk
      apply L_X14_find_3
      unfold B_X14_find_3
      rw [if_pos (by omega)]
      exact hk
    | succ m ih =>
      intro i hi hm hk
      apply L_X14_find_3
      unfold B_X14_find_3
      rw [if_neg (by omega), w32_eq (x := b + i) (by omega) (by omega)]
      refine ⟨ha, ⟨by omega, by omega⟩, ?_⟩
      by_cases e : h a (b + i) = v
      · rw [if_neg (fun z => z e)]
        simpa [fst1, e] using hk
      · rw [if_pos e]
        intro x ex
        rw [w32_eq (by omega) (by omega)] at ex
        subst ex
        exact ih (i + 1) (by omega) (by omega) (by simpa [fst1, e] using hk)
  exact main n.toNat 0 (by omega) (by omega) hk
theorem sp_inCell {sh : Int → Nat × Nat} {r v : Int} {h : Mh} {K : Int → Mh → Prop} (h0 : 0 ≤ h r 3) (h1 : h r 3 ≤ (sh (r + 2)).2) (h2 : h r 3 ≤ 1000) (hk : K (cnt1 (h (r + 2)) v (h r 3).toNat 0) h) : wp_X1_inCell sh r v h K := by
  unfold wp_X1_inCell
  have main : ∀ (n : Nat) (i s : Int), 0 ≤ i → i + n = h r 3 → 0 ≤ s → s ≤ i → K (s + cnt1 (h (r + 2)) v n i) h → Lfp (F_X1_inCell sh r v K) (4, [s, i], h) := by
    intro n
    induction n with
    | zero =>
      intro i s hi hn hs hsi hk
      apply L_X1_inCell_4
      unfold B_X1_inCell_4
      rw [if_pos (by omega)]
      simpa [cnt1] using hk
    | succ n ih =>
      intro i s hi hn hs hsi hk
      apply L_X1_inCell_4
      unfold B_X1_inCell_4
      rw [if_neg (by omega)]
      refine ⟨⟨hi, by omega⟩, ?_⟩
      by_cases e : h (r + 2) i = v
      · rw [if_neg (fun z => z e)]
        intro x ex y ey
        rw [w32_eq (by omega) (by omega)] at ex ey
        subst ex; subst ey
        refine ih (i + 1) (s + 1) (by omega) (by omega) (by omega) (by omega) ?_
        simp only [cnt1, e, if_true] at hk
        rw [Int.add_assoc]
        exact hk
      · rw [if_pos e]
        intro x ex
        rw [w32_eq (by omega) (by omega)] at ex
        subst ex
        refine ih (i + 1) s (by omega) (by omega) (by omega) (by omega) ?_
        simpa [cnt1, e] using hk
  exact main (h r 3).toNat 0 0 (by omega) (by omega) (by omega) (by omega) (by simpa using hk)
/-- Drops.copyOf: the heap behind it -/
def dcopy (h : Mh) (r p : Int) : Mh := fun b j => if b = r ∧ j = 3 then h p 3 else if b = r + 1 ∧ 0 ≤ j ∧ j < h p 3 then h (p + 1) j else if b = r + 2 ∧ 0 ≤ j ∧ j < h p 3 then h (p + 2) j else if b = r + 3 ∧ 0 ≤ j ∧ j < h p 3 then h (p + 3) j else h b j
theorem sp_copyOf {sh : Int → Nat × Nat} {r p : Int} {h : Mh} {K : Mh → Prop} (hk0 : (sh p).1 = 0) (hap : p + 3 < r ∨ r + 3 < p) (h0 : 0 ≤ h p 3) (h2 : h p 3 ≤ 1000)
    (l1 : h p 3 ≤ (sh (p + 1)).2) (l2 : h p 3 ≤ (sh (p + 2)).2) (l3 : h p 3 ≤ (sh (p + 3)).2) (m1 : h p 3 ≤ (sh (r + 1)).2) (m2 : h p 3 ≤ (sh (r + 2)).2) (m3 : h p 3 ≤ (sh (r + 3)).2) (hk : K (dcopy h r p)) : wp_X1_copyOf sh r p h K := by
  unfold wp_X1_copyOf wp_X1_clear
  intro h1 e1
  -- behind i of them
  have main : ∀ (n : Nat) (i : Int) (g : Mh), 0 ≤ i → i + n = h p 3 → g = (fun b j => if b = r ∧ j = 3 then i else if b = r + 1 ∧ 0 ≤ j ∧ j < i then h (p + 1) j else if b = r + 2 ∧ 0 ≤ j ∧ j < i then h (p + 2) j else if b = r + 3 ∧ 0 ≤ j ∧ j < i then h (p + 3) j else h b j) → Lfp (F_X1_copyOf sh r p K) (6, [i], g) := by
    intro n
    induction n with
    | zero =>
      intro i g hi hn eg
      apply L_X1_copyOf_6
      unfold B_X1_copyOf_6
      have ep : g p 3 = h p 3 := by rw [eg]; simp only []; rw [if_neg (by omega), if_neg (by omega), if_neg (by omega), if_neg (by omega)]
      refine ⟨hk0, ?_⟩
      rw [ep, if_pos (by omega)]
      have : i = h p 3 := by omega
      subst this
      have e : g = dcopy h r p := by rw [eg]; rfl
      rw [e]; exact hk
    | succ n ih =>
      intro i g hi hn eg
      apply L_X1_copyOf_6
      unfold B_X1_copyOf_6
      have ep : g p 3 = h p 3 := by rw [eg]; simp only []; rw [if_neg (by omega), if_neg (by omega), if_neg (by omega), if_neg (by omega)]
      have er : g r 3 = i := by rw [eg]; simp
      have e1 : g (p + 1) i = h (p + 1) i := by rw [eg]; simp only []; rw [if_neg (by omega), if_neg (by omega), if_neg (by omega), if_neg (by omega)]
      have e2 : g (p + 2) i = h (p + 2) i := by rw [eg]; simp only []; rw [if_neg (by omega), if_neg (by omega), if_neg (by omega), if_neg (by omega)]
      have e3 : g (p + 3) i = h (p + 3) i := by rw [eg]; simp only []; rw [if_neg (by omega), if_neg (by omega), if_neg (by omega), if_neg (by omega)]
      refine ⟨hk0, ?_⟩
      rw [ep, if_neg (by omega), e1, e2, e3]
      refine ⟨⟨hi, by omega⟩, ⟨hi, by omega⟩, ⟨hi, by omega⟩, ?_⟩
      unfold wp_X1_add
      rw [er, if_neg (by omega), if_neg (by omega)]
      refine ⟨⟨hi, by omega⟩, ?_⟩
      intro g1 eg1
      have er1 : g1 r 3 = i := by rw [eg1, up_other (by omega), er]
      rw [er1]
      refine ⟨⟨hi, by omega⟩, ?_⟩
      intro g2 eg2
      have er2 : g2 r 3 = i := by rw [eg2, up_other (by omega), er1]
      rw [er2]
      refine ⟨⟨hi, by omega⟩, ?_⟩
      intro g3 eg3
      have er3 : g3 r 3 = i := by rw [eg3, up_other (by omega), er2]
      rw [er3]
      intro g4 eg4 x ex
      rw [w32_eq (by omega) (by omega)] at ex eg4
      subst ex
      refine ih (i + 1) g4 (by omega) (by omega) ?_
      rw [eg4, eg3, eg2, eg1, eg]
      funext b j
      simp only [up]
      clear ih eg eg1 eg2 eg3 eg4 er er1 er2 er3 ep e1 e2 e3 l1 l2 l3 m1 m2 m3
      grind (splits := 40)
  refine main (h p 3).toNat 0 h1 (by omega) (by omega) ?_
  rw [e1]
  funext b j
  simp only [up]
  grind
