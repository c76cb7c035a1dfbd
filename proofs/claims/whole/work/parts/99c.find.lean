/-! ===== a name that was told, looked up by both ===== -/
theorem fst1_rng {f : Int → Int} {v : Int} : ∀ (n : Nat) (i : Int), 0 ≤ i → fst1 f v n i < 0 ∨ (i ≤ fst1 f v n i ∧ fst1 f v n i < i + n) := by
  intro n
  induction n with
  | zero => intro i _; left; unfold fst1; omega
  | succ n ih =>
    intro i i0
    unfold fst1
    split
    · right; omega
    · rcases ih (i + 1) (by omega) with z | z
      · left; exact z
      · right; omega
theorem tw_find {B : Int → Int} {n : Int} {m a : Nat} {q r : Mh} {row arr base cnt : Int} (h : PTok B n m a q r) (hn : q 49 8 = 2) (c0 : 0 ≤ cnt) (c1 : cnt ≤ ((shC (row + 1)).2 : Int)) (c2 : cnt < 1000) (h1 : q row 1 = cnt) (h2 : ∀ j, 0 ≤ j → j < cnt → q (row + 1) j = r arr (base + j)) (ha : (shR arr).1 = 14) (b0 : 0 ≤ base) (b1 : base + cnt ≤ ((shR arr).2 : Int)) (b2 : (shR arr).2 ≤ 10000) :
    ∃ k : Int, (k < 0 ∨ (0 ≤ k ∧ k < cnt)) ∧ (∀ K : Int → Mh → Prop, K k q → wp_X7_indexOf shC row (q 49 10) q K) ∧ (∀ K : Int → Mh → Prop, K k r → wp_X14_find arr base cnt (r 0 9) r K) := by
  obtain ⟨am, ev, v0, v1⟩ := h.name.2 hn
  have ef : fst1 (q (row + 1)) (q 49 10) (q row 1).toNat 0 = fst1 (fun j => r arr (base + j)) (r 0 9) cnt.toNat 0 := by
    rw [ev, h1]
    exact fst1_congr cnt.toNat 0 (fun j x y => h2 j x (by omega))
  refine ⟨fst1 (fun j => r arr (base + j)) (r 0 9) cnt.toNat 0, ?_, fun K hk => ?_, fun K hk => ?_⟩
  · rcases fst1_rng (f := fun j => r arr (base + j)) (v := r 0 9) cnt.toNat 0 (by omega) with z | z
    · exact Or.inl z
    · exact Or.inr ⟨by omega, by omega⟩
  · refine sp_indexOf (by omega) (by omega) (by omega) ?_
    rw [ef]; exact hk
  · exact sp_find ha b0 c0 b1 b2 hk
