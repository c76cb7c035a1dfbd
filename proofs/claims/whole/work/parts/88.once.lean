/-! ===== loss, thick, sent ===== -/
theorem RDim.once {Q R : Mh} {i v : Int} (h : RDim Q R) (i0 : 0 ≤ i) (i1 : i ≤ 2) (v0 : 0 ≤ v) (v1 : v ≤ if i = 0 then 50 else 99) : RDim (up Q (Q 53 0) (17 + i) v) (up R 0 (21 + i) v) := by
  obtain ⟨a, b, c, d, ⟨e1, e2, e3⟩, f, g, k, l⟩ := h
  have hp := a
  unfold isP at hp
  have e53 : up Q (Q 53 0) (17 + i) v 53 = Q 53 := up_other (by omega)
  have e0 : up Q (Q 53 0) (17 + i) v 0 = Q 0 := up_other (by omega)
  unfold RDim
  rw [e53, e0, up_slot (j := 0) (by omega), up_slot (j := 1) (by omega), up_slot (j := 12) (by omega), up_slot (j := 13) (by omega)]
  have hc : i = 0 ∨ i = 1 ∨ i = 2 := by omega
  rcases hc with rfl | rfl | rfl
  · rw [if_pos rfl] at v1
    rw [show (17 : Int) + 0 = 17 from rfl, show (21 : Int) + 0 = 21 from rfl, up_self, up_self, up_slot (j := 18) (by decide), up_slot (j := 19) (by decide), up_slot (j := 22) (by decide), up_slot (j := 23) (by decide)]
    refine ⟨a, b, c, d, ?_, rfl, g, k, l⟩
    unfold prm
    rw [up_slot (j := 12) (by omega), up_slot (j := 13) (by omega), up_self, up_slot (j := 22) (by decide)]
    exact ⟨e1, ⟨v0, v1⟩, e3⟩
  · rw [if_neg (by decide)] at v1
    rw [show (17 : Int) + 1 = 18 from rfl, show (21 : Int) + 1 = 22 from rfl, up_self, up_self, up_slot (j := 17) (by decide), up_slot (j := 19) (by decide), up_slot (j := 21) (by decide), up_slot (j := 23) (by decide)]
    refine ⟨a, b, c, d, ?_, f, rfl, k, l⟩
    unfold prm
    rw [up_slot (j := 12) (by omega), up_slot (j := 13) (by omega), up_self, up_slot (j := 21) (by decide)]
    exact ⟨e1, e2, v0, v1⟩
  · rw [if_neg (by decide)] at v1
    rw [show (17 : Int) + 2 = 19 from rfl, show (21 : Int) + 2 = 23 from rfl, up_self, up_self, up_slot (j := 17) (by decide), up_slot (j := 18) (by decide), up_slot (j := 21) (by decide), up_slot (j := 22) (by decide)]
    refine ⟨a, b, c, d, ?_, f, g, rfl, v0, v1⟩
    unfold prm
    rw [up_slot (j := 12) (by omega), up_slot (j := 13) (by omega), up_slot (j := 21) (by decide), up_slot (j := 22) (by decide)]
    exact ⟨e1, e2, e3⟩
theorem PP.once {Q R : Mh} {i v : Int} (h : PP Q R) (i0 : 0 ≤ i) (i1 : i ≤ 2) (v0 : 0 ≤ v) (v1 : v ≤ if i = 0 then 50 else 99) : PP (up Q (Q 53 0) (17 + i) v) (up R 0 (21 + i) v) := by
  have hd := h.1.1
  have hp := hd.1
  unfold isP at hp
  have e53 : up Q (Q 53 0) (17 + i) v 53 = Q 53 := up_other (by omega)
  refine h.dim (hd.once i0 i1 v0 v1) (by rw [e53]) (by rw [e53]) (up_slot (by omega)) (fun o z => up_other (by omega)) (fun o z => up_other z) (fun j a b => up_slot (by omega)) (Or.inl ?_) ?_
  · intro c hc
    unfold watR at hc ⊢
    rw [up_slot (j := 12) (by omega), up_slot (j := 13) (by omega), up_other (b := 5) (by decide)]
    exact hc
  · exact h.2.1.cn (by rw [e53]) (by rw [e53]) (up_slot (by omega)) (up_other (by decide)) (up_slot (by omega)) (up_slot (by omega))
theorem PFlag.once {q r g s : Mh} {i : Int} (h : PFlag q r) (i0 : 0 ≤ i) (i1 : i ≤ 2) (h1 : ∀ j, 1 ≤ j → j ≤ 9 → ¬ j = 6 + i → g 46 j = q 46 j) (h0 : g 46 (6 + i) = 1) (h2 : ∀ j, 4 ≤ j → j ≤ 5 → s 0 j = r 0 j) (h3 : ∀ j, 36 ≤ j → j ≤ 38 → s 0 j = r 0 j) (h4 : ∀ j, ¬ j = i → s 4 j = r 4 j) (h6 : s 4 i = 1) (h5 : s 0 68 = r 0 68) : PFlag g s := by
  unfold PFlag at h ⊢
  rw [h1 1 (by decide) (by decide) (by omega), h1 2 (by decide) (by decide) (by omega), h1 3 (by decide) (by decide) (by omega), h1 5 (by decide) (by decide) (by omega), h1 9 (by decide) (by decide) (by omega), h2 4 (by decide) (by decide), h2 5 (by decide) (by decide), h3 36 (by decide) (by decide), h3 37 (by decide) (by decide), h3 38 (by decide) (by decide), h5]
  obtain ⟨a, b, c, d, e, f, x6, x7, x8, x9, x10⟩ := h
  have hc : i = 0 ∨ i = 1 ∨ i = 2 := by omega
  rcases hc with rfl | rfl | rfl
  · rw [h1 7 (by decide) (by decide) (by decide), h1 8 (by decide) (by decide) (by decide), h4 1 (by decide), h4 2 (by decide)]
    exact ⟨a, b, c, d, e, f, by rw [h6]; exact h0, x7, x8, x9, x10⟩
  · rw [h1 6 (by decide) (by decide) (by decide), h1 8 (by decide) (by decide) (by decide), h4 0 (by decide), h4 2 (by decide)]
    exact ⟨a, b, c, d, e, f, x6, by rw [h6]; exact h0, x8, x9, x10⟩
  · rw [h1 6 (by decide) (by decide) (by decide), h1 7 (by decide) (by decide) (by decide), h4 0 (by decide), h4 1 (by decide)]
    exact ⟨a, b, c, d, e, f, x6, x7, by rw [h6]; exact h0, x9, x10⟩
def onceC (i lim : Int) (h : Mh) (K : Int → Mh → Prop) : Prop := wp_X9_readOnce (h 46 (6 + i)) lim h (fun x1 h1 => ∀ h2 : Mh, h2 = up h1 46 (6 + i) 1 → ((shC (h2 46 1)).1 = 4) ∧ ∀ h3 : Mh, h3 = up h2 (h2 46 1) (17 + i) (if x1 < 0 then 0 else x1) → if x1 < 0 then (K 0 h3) else (K 1 h3))
theorem once_0 : wp_X9_readLoss = onceC 0 50 := rfl
theorem once_1 : wp_X9_readThick = onceC 1 99 := rfl
theorem once_2 : wp_X9_readSent = onceC 2 99 := rfl
theorem run_359 {r : Mh} {i : Int} {K : Int → Mh → Prop} (h8 : r 0 8 = 1) (h9 : r 0 9 = 8 + i) (i0 : 0 ≤ i) (i1 : i ≤ 2) (hk : Lfp (F_X14_lineRead K) (359, [], r)) : wp_X14_lineRead r K := by
  unfold wp_X14_lineRead
  rw [h8, h9, if_neg (by decide), if_pos (by omega), if_neg (by omega), if_neg (by omega), if_neg (by omega), if_neg (by omega), if_neg (by omega), if_neg (by omega), if_neg (by omega), if_neg (by omega)]
  by_cases a : i = 0
  · rw [if_pos (by omega)]; exact hk
  rw [if_neg (by omega)]
  by_cases b : i = 1
  · rw [if_pos (by omega)]; exact hk
  rw [if_neg (by omega), if_pos (by omega)]
  exact hk
