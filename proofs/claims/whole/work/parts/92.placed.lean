/-! ===== corks and skaters ===== -/
/-- one cork more -/
theorem PP.cork {Q R : Mh} {v c : Int} (h : PP Q R) (hk : R 0 15 < 6) (hc : watR R c) : PP (up (up (up (up Q (Q 53 0 + 26) (R 0 15) v) (Q 53 0 + 25) 1 (R 0 15 + 1)) (Q 53 0 + 28) (R 0 15) c) (Q 53 0 + 27) 1 (R 0 15 + 1)) (up (up (up (up R 13 (R 0 15) v) 7 c 1) 14 (R 0 15) c) 0 15 (R 0 15 + 1)) := by
  have hp := h.1.1.1
  unfold isP at hp
  obtain ⟨cnt, ecnt⟩ : ∃ cnt, cnt = R 0 15 := ⟨_, rfl⟩
  obtain ⟨P, eP⟩ : ∃ P, P = Q 53 0 := ⟨_, rfl⟩
  rw [← ecnt, ← eP]
  rw [← ecnt] at hk
  rw [← eP] at hp
  obtain ⟨Q', eQ⟩ : ∃ Q', Q' = up (up (up (up Q (P + 26) cnt v) (P + 25) 1 (cnt + 1)) (P + 28) cnt c) (P + 27) 1 (cnt + 1) := ⟨_, rfl⟩
  obtain ⟨R', eR⟩ : ∃ R', R' = up (up (up (up R 13 cnt v) 7 c 1) 14 cnt c) 0 15 (cnt + 1) := ⟨_, rfl⟩
  rw [← eQ, ← eR]
  have qo : ∀ o, ¬ (P + 25 ≤ o ∧ o ≤ P + 28) → Q' o = Q o := fun o z => by rw [eQ, up_other (by omega), up_other (by omega), up_other (by omega), up_other (by omega)]
  have ro : ∀ o, ¬ o = 0 → ¬ o = 7 → ¬ o = 13 → ¬ o = 14 → R' o = R o := fun o a b c d => by rw [eR, up_other a, up_other d, up_other b, up_other c]
  have rj : ∀ j, ¬ j = 15 → R' 0 j = R 0 j := fun j z => by rw [eR, up_slot z, up_other (by decide), up_other (by decide), up_other (by decide)]
  have rc : R' 0 15 = cnt + 1 := by rw [eR, up_self]
  have ra : ∀ j, R' 14 j = if j = cnt then c else R 14 j := by
    intro j
    rw [eR, up_other (by decide)]
    by_cases z : j = cnt
    · rw [if_pos z, z, up_self]
    · rw [if_neg z, up_slot z, up_other (by decide), up_other (by decide)]
  have rn : ∀ j, R' 13 j = if j = cnt then v else R 13 j := by
    intro j
    rw [eR, up_other (by decide), up_other (by decide), up_other (by decide)]
    by_cases z : j = cnt
    · rw [if_pos z, z, up_self]
    · rw [if_neg z, up_slot z]
  have r7 : ∀ j, R' 7 j = if j = c then 1 else R 7 j := by
    intro j
    rw [eR, up_other (by decide), up_other (by decide)]
    by_cases z : j = c
    · rw [if_pos z, z, up_self]
    · rw [if_neg z, up_slot z, up_other (by decide)]
  have p53 : Q' 53 = Q 53 := qo 53 (by omega)
  have hw : wImp R R' := by
    intro x hx
    unfold watR at hx ⊢
    rw [rj 12 (by decide), rj 13 (by decide), ro 5 (by decide) (by decide) (by decide) (by decide)]
    exact hx
  obtain ⟨⟨hd, a1, a2, a3, a4, a5, a6⟩, b, d, e, f, g, i, j, k⟩ := h
  rw [← eP] at f j k
  refine ⟨⟨?_, ?_, ?_, ?_, ?_, ?_, ?_⟩, ?_, ?_, ?_, ?_, ?_, ?_, ?_, ?_⟩
  · unfold RDim prm at hd ⊢
    rw [p53, ← eP, qo P (by omega), qo 0 (by omega), rj 12 (by decide), rj 13 (by decide), rj 21 (by decide), rj 22 (by decide), rj 23 (by decide), eP]
    exact hd
  · exact a1.cg (by rw [p53]) (fun o x y => qo o (by omega)) (rj 18 (by decide)) (ro 8 (by decide) (by decide) (by decide) (by decide)) (ro 6 (by decide) (by decide) (by decide) (by decide)) (rj 77 (by decide)) (ro 32 (by decide) (by decide) (by decide) (by decide)) (Or.inl hw)
  · exact a2.cg (by rw [p53]) (fun o x y => qo o (by omega)) (rj 14 (by decide)) (ro 9 (by decide) (by decide) (by decide) (by decide)) (ro 10 (by decide) (by decide) (by decide) (by decide)) (ro 11 (by decide) (by decide) (by decide) (by decide)) (ro 12 (by decide) (by decide) (by decide) (by decide))
  · unfold RCrk at a3 ⊢
    rw [← ecnt, ← eP] at a3
    rw [p53, ← eP, rc]
    have q0 : Q' (P + 25) 1 = cnt + 1 := by rw [eQ, up_other (by omega), up_other (by omega), up_self]
    have q2 : Q' (P + 27) 1 = cnt + 1 := by rw [eQ, up_self]
    have q1 : ∀ j, Q' (P + 25 + 1) j = if j = cnt then v else Q (P + 25 + 1) j := by
      intro j
      rw [eQ, up_other (by omega), up_other (by omega), up_other (by omega), show P + 25 + 1 = P + 26 by omega]
      by_cases z : j = cnt
      · rw [if_pos z, z, up_self]
      · rw [if_neg z, up_slot z]
    have q3 : ∀ j, Q' (P + 27 + 1) j = if j = cnt then c else Q (P + 27 + 1) j := by
      intro j
      rw [eQ, up_other (by omega), show P + 27 + 1 = P + 28 by omega]
      by_cases z : j = cnt
      · rw [if_pos z, z, up_self]
      · rw [if_neg z, up_slot z, up_other (by omega), up_other (by omega)]
    refine ⟨⟨q0, by have := a3.1.2.1; omega, ?_⟩, by omega, ⟨q2, by have := a3.1.2.1; omega, ?_⟩, ?_⟩
    · intro j j0 j1
      rw [q1, rn, show (0 : Int) + j = j by omega]
      by_cases z : j = cnt
      · rw [if_pos z, if_pos z]
      · rw [if_neg z, if_neg z]
        have := a3.1.2.2 j j0 (by omega)
        rw [show (0 : Int) + j = j by omega] at this
        exact this
    · intro j j0 j1
      rw [q3, ra, show (0 : Int) + j = j by omega]
      by_cases z : j = cnt
      · rw [if_pos z, if_pos z]
      · rw [if_neg z, if_neg z]
        have := a3.2.2.1.2.2 j j0 (by omega)
        rw [show (0 : Int) + j = j by omega] at this
        exact this
    · intro j j0 j1
      rw [ra]
      by_cases z : j = cnt
      · rw [if_pos z]; exact hw _ hc
      · rw [if_neg z]; exact hw _ (a3.2.2.2 j j0 (by omega))
  · exact a4.cg (by rw [p53]) (fun o x y => qo o (by omega)) (rj 16 (by decide)) (ro 15 (by decide) (by decide) (by decide) (by decide)) (ro 16 (by decide) (by decide) (by decide) (by decide)) (Or.inl hw)
  · exact a5.cg (by rw [p53]) (fun o x y => qo o (by omega)) (rj 19 (by decide)) (ro 20 (by decide) (by decide) (by decide) (by decide)) (ro 21 (by decide) (by decide) (by decide) (by decide)) (ro 22 (by decide) (by decide) (by decide) (by decide)) (Or.inl hw)
  · exact a6.cg (by rw [p53]) (fun o x y => qo o (by omega)) (rj 20 (by decide)) (rj 24 (by decide)) (ro 23 (by decide) (by decide) (by decide) (by decide)) (ro 24 (by decide) (by decide) (by decide) (by decide)) (ro 25 (by decide) (by decide) (by decide) (by decide))
  · exact b.cn (by rw [p53]) (by rw [p53]) (by rw [← eP, qo P (by omega)]) (ro 5 (by decide) (by decide) (by decide) (by decide)) (rj 12 (by decide)) (rj 13 (by decide))
  · exact d.cg (fun o x y => qo o (by omega)) (rj 76 (by decide)) (ro 17 (by decide) (by decide) (by decide) (by decide)) (ro 18 (by decide) (by decide) (by decide) (by decide)) (ro 19 (by decide) (by decide) (by decide) (by decide)) (by rw [rj 14 (by decide)]; omega) (Or.inl hw)
  · rw [rj 76 (by decide)]; exact e
  · rw [p53, ← eP, qo P (by omega), rj 34 (by decide)]; exact f
  · rw [p53, rj 35 (by decide)]; exact g
  · intro x x0 x1
    have ix := i x x0 x1
    unfold free at ix ⊢
    rw [r7, rc, rj 16 (by decide), rj 76 (by decide), rj 19 (by decide), ro 16 (by decide) (by decide) (by decide) (by decide), ro 18 (by decide) (by decide) (by decide) (by decide), ro 21 (by decide) (by decide) (by decide) (by decide), ro 22 (by decide) (by decide) (by decide) (by decide)]
    rw [← ecnt] at ix
    have cnt0 : 0 ≤ cnt := by rw [ecnt]; exact a3.1.2.1
    by_cases z : x = c
    · rw [if_pos z]
      refine ⟨fun y => absurd y (by decide), fun y => ?_⟩
      have := y.1 cnt cnt0 (by omega)
      rw [ra, if_pos rfl] at this
      exact absurd z.symm this
    · rw [if_neg z, ix]
      refine ⟨fun y => ⟨fun t t0 t1 => ?_, y.2⟩, fun y => ⟨fun t t0 t1 => ?_, y.2⟩⟩
      · rw [ra]
        by_cases u : t = cnt
        · rw [if_pos u]; exact fun w => z w.symm
        · rw [if_neg u]; exact y.1 t t0 (by omega)
      · have := y.1 t t0 (by omega)
        rw [ra, if_neg (by omega)] at this
        exact this
  · rw [p53, ← eP, rj 14 (by decide)]
    intro t t0 t1
    have := a2.1.2.1
    rw [qo _ (by omega)]
    exact j t t0 t1
  · rw [p53, ← eP, rj 19 (by decide)]
    intro t t0 t1
    have := a5.1.2.1
    rw [qo _ (by omega)]
    exact k t t0 t1
/-- one skater more -/
theorem PP.skater {Q R : Mh} {v c : Int} (h : PP Q R) (hk : R 0 16 < 3) (hc : watR R c) : PP (up (up (up (up Q (Q 53 0 + 30) (R 0 16) v) (Q 53 0 + 29) 1 (R 0 16 + 1)) (Q 53 0 + 32) (R 0 16) c) (Q 53 0 + 31) 1 (R 0 16 + 1)) (up (up (up (up R 15 (R 0 16) v) 7 c 1) 16 (R 0 16) c) 0 16 (R 0 16 + 1)) := by
  have hp := h.1.1.1
  unfold isP at hp
  obtain ⟨cnt, ecnt⟩ : ∃ cnt, cnt = R 0 16 := ⟨_, rfl⟩
  obtain ⟨P, eP⟩ : ∃ P, P = Q 53 0 := ⟨_, rfl⟩
  rw [← ecnt, ← eP]
  rw [← ecnt] at hk
  rw [← eP] at hp
  obtain ⟨Q', eQ⟩ : ∃ Q', Q' = up (up (up (up Q (P + 30) cnt v) (P + 29) 1 (cnt + 1)) (P + 32) cnt c) (P + 31) 1 (cnt + 1) := ⟨_, rfl⟩
  obtain ⟨R', eR⟩ : ∃ R', R' = up (up (up (up R 15 cnt v) 7 c 1) 16 cnt c) 0 16 (cnt + 1) := ⟨_, rfl⟩
  rw [← eQ, ← eR]
  have qo : ∀ o, ¬ (P + 29 ≤ o ∧ o ≤ P + 32) → Q' o = Q o := fun o z => by rw [eQ, up_other (by omega), up_other (by omega), up_other (by omega), up_other (by omega)]
  have ro : ∀ o, ¬ o = 0 → ¬ o = 7 → ¬ o = 15 → ¬ o = 16 → R' o = R o := fun o a b c d => by rw [eR, up_other a, up_other d, up_other b, up_other c]
  have rj : ∀ j, ¬ j = 16 → R' 0 j = R 0 j := fun j z => by rw [eR, up_slot z, up_other (by decide), up_other (by decide), up_other (by decide)]
  have rc : R' 0 16 = cnt + 1 := by rw [eR, up_self]
  have ra : ∀ j, R' 16 j = if j = cnt then c else R 16 j := by
    intro j
    rw [eR, up_other (by decide)]
    by_cases z : j = cnt
    · rw [if_pos z, z, up_self]
    · rw [if_neg z, up_slot z, up_other (by decide), up_other (by decide)]
  have rn : ∀ j, R' 15 j = if j = cnt then v else R 15 j := by
    intro j
    rw [eR, up_other (by decide), up_other (by decide), up_other (by decide)]
    by_cases z : j = cnt
    · rw [if_pos z, z, up_self]
    · rw [if_neg z, up_slot z]
  have r7 : ∀ j, R' 7 j = if j = c then 1 else R 7 j := by
    intro j
    rw [eR, up_other (by decide), up_other (by decide)]
    by_cases z : j = c
    · rw [if_pos z, z, up_self]
    · rw [if_neg z, up_slot z, up_other (by decide)]
  have p53 : Q' 53 = Q 53 := qo 53 (by omega)
  have hw : wImp R R' := by
    intro x hx
    unfold watR at hx ⊢
    rw [rj 12 (by decide), rj 13 (by decide), ro 5 (by decide) (by decide) (by decide) (by decide)]
    exact hx
  obtain ⟨⟨hd, a1, a2, a3, a4, a5, a6⟩, b, d, e, f, g, i, j, k⟩ := h
  rw [← eP] at f j k
  refine ⟨⟨?_, ?_, ?_, ?_, ?_, ?_, ?_⟩, ?_, ?_, ?_, ?_, ?_, ?_, ?_, ?_⟩
  · unfold RDim prm at hd ⊢
    rw [p53, ← eP, qo P (by omega), qo 0 (by omega), rj 12 (by decide), rj 13 (by decide), rj 21 (by decide), rj 22 (by decide), rj 23 (by decide), eP]
    exact hd
  · exact a1.cg (by rw [p53]) (fun o x y => qo o (by omega)) (rj 18 (by decide)) (ro 8 (by decide) (by decide) (by decide) (by decide)) (ro 6 (by decide) (by decide) (by decide) (by decide)) (rj 77 (by decide)) (ro 32 (by decide) (by decide) (by decide) (by decide)) (Or.inl hw)
  · exact a2.cg (by rw [p53]) (fun o x y => qo o (by omega)) (rj 14 (by decide)) (ro 9 (by decide) (by decide) (by decide) (by decide)) (ro 10 (by decide) (by decide) (by decide) (by decide)) (ro 11 (by decide) (by decide) (by decide) (by decide)) (ro 12 (by decide) (by decide) (by decide) (by decide))
  · exact a3.cg (by rw [p53]) (fun o x y => qo o (by omega)) (rj 15 (by decide)) (ro 13 (by decide) (by decide) (by decide) (by decide)) (ro 14 (by decide) (by decide) (by decide) (by decide)) (Or.inl hw)
  · unfold RSkt at a4 ⊢
    rw [← ecnt, ← eP] at a4
    rw [p53, ← eP, rc]
    have q0 : Q' (P + 29) 1 = cnt + 1 := by rw [eQ, up_other (by omega), up_other (by omega), up_self]
    have q2 : Q' (P + 31) 1 = cnt + 1 := by rw [eQ, up_self]
    have q1 : ∀ j, Q' (P + 29 + 1) j = if j = cnt then v else Q (P + 29 + 1) j := by
      intro j
      rw [eQ, up_other (by omega), up_other (by omega), up_other (by omega), show P + 29 + 1 = P + 30 by omega]
      by_cases z : j = cnt
      · rw [if_pos z, z, up_self]
      · rw [if_neg z, up_slot z]
    have q3 : ∀ j, Q' (P + 31 + 1) j = if j = cnt then c else Q (P + 31 + 1) j := by
      intro j
      rw [eQ, up_other (by omega), show P + 31 + 1 = P + 32 by omega]
      by_cases z : j = cnt
      · rw [if_pos z, z, up_self]
      · rw [if_neg z, up_slot z, up_other (by omega), up_other (by omega)]
    refine ⟨⟨q0, by have := a4.1.2.1; omega, ?_⟩, by omega, ⟨q2, by have := a4.1.2.1; omega, ?_⟩, ?_⟩
    · intro j j0 j1
      rw [q1, rn, show (0 : Int) + j = j by omega]
      by_cases z : j = cnt
      · rw [if_pos z, if_pos z]
      · rw [if_neg z, if_neg z]
        have := a4.1.2.2 j j0 (by omega)
        rw [show (0 : Int) + j = j by omega] at this
        exact this
    · intro j j0 j1
      rw [q3, ra, show (0 : Int) + j = j by omega]
      by_cases z : j = cnt
      · rw [if_pos z, if_pos z]
      · rw [if_neg z, if_neg z]
        have := a4.2.2.1.2.2 j j0 (by omega)
        rw [show (0 : Int) + j = j by omega] at this
        exact this
    · intro j j0 j1
      rw [ra]
      by_cases z : j = cnt
      · rw [if_pos z]; exact hw _ hc
      · rw [if_neg z]; exact hw _ (a4.2.2.2 j j0 (by omega))
  · exact a5.cg (by rw [p53]) (fun o x y => qo o (by omega)) (rj 19 (by decide)) (ro 20 (by decide) (by decide) (by decide) (by decide)) (ro 21 (by decide) (by decide) (by decide) (by decide)) (ro 22 (by decide) (by decide) (by decide) (by decide)) (Or.inl hw)
  · exact a6.cg (by rw [p53]) (fun o x y => qo o (by omega)) (rj 20 (by decide)) (rj 24 (by decide)) (ro 23 (by decide) (by decide) (by decide) (by decide)) (ro 24 (by decide) (by decide) (by decide) (by decide)) (ro 25 (by decide) (by decide) (by decide) (by decide))
  · exact b.cn (by rw [p53]) (by rw [p53]) (by rw [← eP, qo P (by omega)]) (ro 5 (by decide) (by decide) (by decide) (by decide)) (rj 12 (by decide)) (rj 13 (by decide))
  · exact d.cg (fun o x y => qo o (by omega)) (rj 76 (by decide)) (ro 17 (by decide) (by decide) (by decide) (by decide)) (ro 18 (by decide) (by decide) (by decide) (by decide)) (ro 19 (by decide) (by decide) (by decide) (by decide)) (by rw [rj 14 (by decide)]; omega) (Or.inl hw)
  · rw [rj 76 (by decide)]; exact e
  · rw [p53, ← eP, qo P (by omega), rj 34 (by decide)]; exact f
  · rw [p53, rj 35 (by decide)]; exact g
  · intro x x0 x1
    have ix := i x x0 x1
    unfold free at ix ⊢
    rw [r7, rc, rj 15 (by decide), rj 76 (by decide), rj 19 (by decide), ro 14 (by decide) (by decide) (by decide) (by decide), ro 18 (by decide) (by decide) (by decide) (by decide), ro 21 (by decide) (by decide) (by decide) (by decide), ro 22 (by decide) (by decide) (by decide) (by decide)]
    rw [← ecnt] at ix
    have cnt0 : 0 ≤ cnt := by rw [ecnt]; exact a4.1.2.1
    by_cases z : x = c
    · rw [if_pos z]
      refine ⟨fun y => absurd y (by decide), fun y => ?_⟩
      have := y.2.1 cnt cnt0 (by omega)
      rw [ra, if_pos rfl] at this
      exact absurd z.symm this
    · rw [if_neg z, ix]
      refine ⟨fun y => ⟨y.1, fun t t0 t1 => ?_, y.2.2⟩, fun y => ⟨y.1, fun t t0 t1 => ?_, y.2.2⟩⟩
      · rw [ra]
        by_cases u : t = cnt
        · rw [if_pos u]; exact fun w => z w.symm
        · rw [if_neg u]; exact y.2.1 t t0 (by omega)
      · have := y.2.1 t t0 (by omega)
        rw [ra, if_neg (by omega)] at this
        exact this
  · rw [p53, ← eP, rj 14 (by decide)]
    intro t t0 t1
    have := a2.1.2.1
    rw [qo _ (by omega)]
    exact j t t0 t1
  · rw [p53, ← eP, rj 19 (by decide)]
    intro t t0 t1
    have := a5.1.2.1
    rw [qo _ (by omega)]
    exact k t t0 t1
