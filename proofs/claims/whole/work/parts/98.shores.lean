/-! ===== one shore more ===== -/
theorem PP.shore {Q R Q' R' : Mh} {cnt c : Int} (h : PP Q R) (ec : cnt = R 0 18) (hk : cnt < 3) (ho : watR R c) (qo : ∀ o, ¬ (Q 53 0 + 1 ≤ o ∧ o ≤ Q 53 0 + 2) → Q' o = Q o) (q1 : Q' (Q 53 0 + 1) 1 = cnt + 1) (q2 : ∀ j, Q' (Q 53 0 + 2) j = if j = cnt then c else Q (Q 53 0 + 2) j) (ro : ∀ o, ¬ o = 0 → ¬ o = 6 → ¬ o = 8 → ¬ o = 32 → R' o = R o) (rj : ∀ j, ¬ j = 18 → ¬ j = 77 → R' 0 j = R 0 j) (r18 : R' 0 18 = cnt + 1) (r77 : R' 0 77 = cnt + 1) (r6 : ∀ j, R' 6 j = if j = c then 1 else R 6 j) (r8 : ∀ j, R' 8 j = if j = cnt then c else R 8 j) (r32 : ∀ j, R' 32 j = if j = cnt then c else R 32 j) : PP Q' R' := by
  have hp := h.1.1.1
  unfold isP at hp
  obtain ⟨P, eP⟩ : ∃ P, P = Q 53 0 := ⟨_, rfl⟩
  rw [← eP] at hp qo q1 q2
  have p53 : Q' 53 = Q 53 := qo 53 (by omega)
  have hw : wImp R R' := by
    intro x hx
    unfold watR at hx ⊢
    rw [rj 12 (by decide) (by decide), rj 13 (by decide) (by decide), ro 5 (by decide) (by decide) (by decide) (by decide)]
    exact hx
  obtain ⟨⟨hd, a1, a2, a3, a4, a5, a6⟩, b, d, e, f, g, i, j, l⟩ := h
  rw [← eP] at f j l
  refine ⟨⟨?_, ?_, ?_, ?_, ?_, ?_, ?_⟩, ?_, ?_, ?_, ?_, ?_, ?_, ?_, ?_⟩
  · unfold RDim prm at hd ⊢
    rw [p53, ← eP, qo P (by omega), qo 0 (by omega), rj 12 (by decide) (by decide), rj 13 (by decide) (by decide), rj 21 (by decide) (by decide), rj 22 (by decide) (by decide), rj 23 (by decide) (by decide), eP]
    exact hd
  · unfold RShr at a1 ⊢
    rw [← ec, ← eP] at a1
    rw [p53, ← eP, r18, r77]
    obtain ⟨⟨x1, x2, x3⟩, x4, x5, x6, x7, x8⟩ := a1
    refine ⟨⟨q1, by omega, ?_⟩, by omega, ?_, ?_, rfl, ?_⟩
    · intro y y0 y1
      rw [show P + 1 + 1 = P + 2 by omega, q2, r8, show (0 : Int) + y = y by omega]
      by_cases z : y = cnt
      · rw [if_pos z, if_pos z]
      · rw [if_neg z, if_neg z]
        have := x3 y y0 (by omega)
        rw [show P + 1 + 1 = P + 2 by omega, show (0 : Int) + y = y by omega] at this
        exact this
    · intro y y0 y1
      rw [r8]
      by_cases z : y = cnt
      · rw [if_pos z]; exact hw _ ho
      · rw [if_neg z]; exact hw _ (x5 y y0 (by omega))
    · intro x x0 x1'
      have ix := x6 x x0 x1'
      rw [r6]
      by_cases z : x = c
      · rw [if_pos z]
        refine ⟨fun y => absurd y (by decide), fun y => ?_⟩
        have := y cnt x2 (by omega)
        rw [r8, if_pos rfl] at this
        exact absurd z.symm this
      · rw [if_neg z, ix]
        refine ⟨fun y u u0 u1 => ?_, fun y u u0 u1 => ?_⟩
        · rw [r8]
          by_cases w : u = cnt
          · rw [if_pos w]; exact fun v => z v.symm
          · rw [if_neg w]; exact y u u0 (by omega)
        · have := y u u0 (by omega)
          rw [r8, if_neg (by omega)] at this
          exact this
    · intro y y0 y1
      rw [r32, r8]
      by_cases z : y = cnt
      · rw [if_pos z, if_pos z]
      · rw [if_neg z, if_neg z]; exact x8 y y0 y1
  · exact a2.cg (by rw [p53]) (fun o x y => qo o (by omega)) (rj 14 (by decide) (by decide)) (ro 9 (by decide) (by decide) (by decide) (by decide)) (ro 10 (by decide) (by decide) (by decide) (by decide)) (ro 11 (by decide) (by decide) (by decide) (by decide)) (ro 12 (by decide) (by decide) (by decide) (by decide))
  · exact a3.cg (by rw [p53]) (fun o x y => qo o (by omega)) (rj 15 (by decide) (by decide)) (ro 13 (by decide) (by decide) (by decide) (by decide)) (ro 14 (by decide) (by decide) (by decide) (by decide)) (Or.inl hw)
  · exact a4.cg (by rw [p53]) (fun o x y => qo o (by omega)) (rj 16 (by decide) (by decide)) (ro 15 (by decide) (by decide) (by decide) (by decide)) (ro 16 (by decide) (by decide) (by decide) (by decide)) (Or.inl hw)
  · exact a5.cg (by rw [p53]) (fun o x y => qo o (by omega)) (rj 19 (by decide) (by decide)) (ro 20 (by decide) (by decide) (by decide) (by decide)) (ro 21 (by decide) (by decide) (by decide) (by decide)) (ro 22 (by decide) (by decide) (by decide) (by decide)) (Or.inl hw)
  · exact a6.cg (by rw [p53]) (fun o x y => qo o (by omega)) (rj 20 (by decide) (by decide)) (rj 24 (by decide) (by decide)) (ro 23 (by decide) (by decide) (by decide) (by decide)) (ro 24 (by decide) (by decide) (by decide) (by decide)) (ro 25 (by decide) (by decide) (by decide) (by decide))
  · exact b.cn (by rw [p53]) (by rw [p53]) (by rw [← eP, qo P (by omega)]) (ro 5 (by decide) (by decide) (by decide) (by decide)) (rj 12 (by decide) (by decide)) (rj 13 (by decide) (by decide))
  · exact d.cg (fun o x y => qo o (by omega)) (rj 76 (by decide) (by decide)) (ro 17 (by decide) (by decide) (by decide) (by decide)) (ro 18 (by decide) (by decide) (by decide) (by decide)) (ro 19 (by decide) (by decide) (by decide) (by decide)) (by rw [rj 14 (by decide) (by decide)]; omega) (Or.inl hw)
  · rw [rj 76 (by decide) (by decide)]; exact e
  · rw [p53, ← eP, qo P (by omega), rj 34 (by decide) (by decide)]; exact f
  · rw [p53, rj 35 (by decide) (by decide)]; exact g
  · intro x x0 x1
    rw [ro 7 (by decide) (by decide) (by decide) (by decide), free.cg (rj 15 (by decide) (by decide)) (ro 14 (by decide) (by decide) (by decide) (by decide)) (rj 16 (by decide) (by decide)) (ro 16 (by decide) (by decide) (by decide) (by decide)) (rj 76 (by decide) (by decide)) (ro 18 (by decide) (by decide) (by decide) (by decide)) (rj 19 (by decide) (by decide)) (ro 21 (by decide) (by decide) (by decide) (by decide)) (ro 22 (by decide) (by decide) (by decide) (by decide)) x]
    exact i x x0 x1
  · rw [p53, ← eP, rj 14 (by decide) (by decide)]
    intro u t0 t1
    have := a2.1.2.1
    rw [qo _ (by omega)]
    exact j u t0 t1
  · rw [p53, ← eP, rj 19 (by decide) (by decide)]
    intro u t0 t1
    have := a5.1.2.1
    rw [qo _ (by omega)]
    exact l u t0 t1
