/-! ===== one drop more ===== -/
theorem qv_drop {q : Mh} {i k v : Int} (hp : isP (q 46 1)) (i0 : 0 ≤ i) (i1 : i ≤ 3) : qv (up q (q 46 1 + 33 + i) k v) = up (up (qv q) (q 46 1 + 33 + i) k v) (98 + i) k v := by
  unfold isP at hp
  have e1 : up q (q 46 1 + 33 + i) k v 46 1 = q 46 1 := by rw [up_other (by omega)]
  have e3 : up q (q 46 1 + 33 + i) k v (q 46 1) = q (q 46 1) := up_other (by omega)
  funext x j
  by_cases z : x = 98 + i ∧ j = k
  · obtain ⟨z1, z2⟩ := z
    rw [z1, z2, up_self]
    unfold qv
    rw [e1, if_neg (by omega), if_neg (by omega), if_neg (by omega), if_pos (by omega), show q 46 1 + 33 + (98 + i - 98) = q 46 1 + 33 + i by omega, up_self]
  · rw [up_ne _ z]
    by_cases y : x = q 46 1 + 33 + i ∧ j = k
    · obtain ⟨y1, y2⟩ := y
      rw [y1, y2, up_self]
      unfold qv
      rw [e1, if_neg (by omega), if_neg (by omega), if_pos (by omega), up_self]
    · rw [up_ne (qv q) y]
      unfold qv
      rw [e1, e3]
      by_cases x1 : x = 53
      · rw [if_pos x1, if_pos x1]
      rw [if_neg x1, if_neg x1]
      by_cases x2 : x = 0
      · rw [if_pos x2, if_pos x2]
      rw [if_neg x2, if_neg x2]
      by_cases x3 : q 46 1 ≤ x ∧ x ≤ q 46 1 + 39
      · rw [if_pos x3, if_pos x3, up_ne _ y]
      rw [if_neg x3, if_neg x3]
      by_cases x4 : 98 ≤ x ∧ x ≤ 101
      · rw [if_pos x4, if_pos x4, up_ne _ (by omega)]
      · rw [if_neg x4, if_neg x4]
theorem PP.drop {Q R Q' R' : Mh} {cnt k c t : Int} (h : PP Q R) (ec : cnt = R 0 76) (hk : cnt < 8) (ho : okD R k c t) (qo : ∀ o, ¬ (98 ≤ o ∧ o ≤ 101) → ¬ (Q 53 0 + 33 ≤ o ∧ o ≤ Q 53 0 + 36) → Q' o = Q o) (q98 : Q' 98 3 = cnt + 1) (q99 : ∀ j, Q' 99 j = if j = cnt then k else Q 99 j) (q100 : ∀ j, Q' 100 j = if j = cnt then c else Q 100 j) (q101 : ∀ j, Q' 101 j = if j = cnt then t else Q 101 j) (ro : ∀ o, ¬ o = 0 → ¬ o = 7 → ¬ (17 ≤ o ∧ o ≤ 19) → R' o = R o) (rj : ∀ j, ¬ j = 17 → ¬ j = 76 → R' 0 j = R 0 j) (r76 : R' 0 76 = cnt + 1) (r7 : ∀ j, R' 7 j = if j = c then 1 else R 7 j) (r17 : ∀ j, R' 17 j = if j = cnt then k else R 17 j) (r18 : ∀ j, R' 18 j = if j = cnt then c else R 18 j) (r19 : ∀ j, R' 19 j = if j = cnt then t else R 19 j) : PP Q' R' := by
  have hp := h.1.1.1
  unfold isP at hp
  obtain ⟨P, eP⟩ : ∃ P, P = Q 53 0 := ⟨_, rfl⟩
  rw [← eP] at hp qo
  have p53 : Q' 53 = Q 53 := qo 53 (by omega) (by omega)
  have hw : wImp R R' := by
    intro x hx
    unfold watR at hx ⊢
    rw [rj 12 (by decide) (by decide), rj 13 (by decide) (by decide), ro 5 (by decide) (by decide) (by decide)]
    exact hx
  obtain ⟨⟨hd, a1, a2, a3, a4, a5, a6⟩, b, d, e, f, g, i, j, l⟩ := h
  rw [← eP] at f j l
  refine ⟨⟨?_, ?_, ?_, ?_, ?_, ?_, ?_⟩, ?_, ?_, ?_, ?_, ?_, ?_, ?_, ?_⟩
  · unfold RDim prm at hd ⊢
    rw [p53, ← eP, qo P (by omega) (by omega), qo 0 (by omega) (by omega), rj 12 (by decide) (by decide), rj 13 (by decide) (by decide), rj 21 (by decide) (by decide), rj 22 (by decide) (by decide), rj 23 (by decide) (by decide), eP]
    exact hd
  · exact a1.cg (by rw [p53]) (fun o x y => qo o (by omega) (by omega)) (rj 18 (by decide) (by decide)) (ro 8 (by decide) (by decide) (by decide)) (ro 6 (by decide) (by decide) (by decide)) (rj 77 (by decide) (by decide)) (ro 32 (by decide) (by decide) (by decide)) (Or.inl hw)
  · exact a2.cg (by rw [p53]) (fun o x y => qo o (by omega) (by omega)) (rj 14 (by decide) (by decide)) (ro 9 (by decide) (by decide) (by decide)) (ro 10 (by decide) (by decide) (by decide)) (ro 11 (by decide) (by decide) (by decide)) (ro 12 (by decide) (by decide) (by decide))
  · exact a3.cg (by rw [p53]) (fun o x y => qo o (by omega) (by omega)) (rj 15 (by decide) (by decide)) (ro 13 (by decide) (by decide) (by decide)) (ro 14 (by decide) (by decide) (by decide)) (Or.inl hw)
  · exact a4.cg (by rw [p53]) (fun o x y => qo o (by omega) (by omega)) (rj 16 (by decide) (by decide)) (ro 15 (by decide) (by decide) (by decide)) (ro 16 (by decide) (by decide) (by decide)) (Or.inl hw)
  · exact a5.cg (by rw [p53]) (fun o x y => qo o (by omega) (by omega)) (rj 19 (by decide) (by decide)) (ro 20 (by decide) (by decide) (by decide)) (ro 21 (by decide) (by decide) (by decide)) (ro 22 (by decide) (by decide) (by decide)) (Or.inl hw)
  · exact a6.cg (by rw [p53]) (fun o x y => qo o (by omega) (by omega)) (rj 20 (by decide) (by decide)) (rj 24 (by decide) (by decide)) (ro 23 (by decide) (by decide) (by decide)) (ro 24 (by decide) (by decide) (by decide)) (ro 25 (by decide) (by decide) (by decide))
  · exact b.cn (by rw [p53]) (by rw [p53]) (by rw [← eP, qo P (by omega) (by omega)]) (ro 5 (by decide) (by decide) (by decide)) (rj 12 (by decide) (by decide)) (rj 13 (by decide) (by decide))
  · have okw : ∀ k c t, okD R k c t → okD R' k c t := by
      intro k c t z
      unfold okD at z ⊢
      rw [rj 14 (by decide) (by decide)]
      exact ⟨z.1, z.2.1, hw _ z.2.2.1, z.2.2.2⟩
    unfold RDrp at d ⊢
    rw [← ec] at d
    rw [r76]
    refine ⟨q98, by omega, by omega, ?_⟩
    intro x x0 x1
    rw [q99, q100, q101, r17, r18, r19]
    by_cases z : x = cnt
    · rw [if_pos z, if_pos z, if_pos z, if_pos z, if_pos z, if_pos z]
      exact ⟨rfl, rfl, rfl, okw _ _ _ ho⟩
    · rw [if_neg z, if_neg z, if_neg z, if_neg z, if_neg z, if_neg z]
      obtain ⟨y1, y2, y3, y4⟩ := d.2.2.2 x x0 (by omega)
      exact ⟨y1, y2, y3, okw _ _ _ y4⟩
  · rw [r76]; omega
  · rw [p53, ← eP, qo P (by omega) (by omega), rj 34 (by decide) (by decide)]; exact f
  · rw [p53, rj 35 (by decide) (by decide)]; exact g
  · intro x x0 x1
    have ix := i x x0 x1
    have c0 : 0 ≤ cnt := by rw [ec]; exact d.2.1
    unfold free at ix ⊢
    rw [r7, r76, rj 15 (by decide) (by decide), rj 16 (by decide) (by decide), rj 19 (by decide) (by decide), ro 14 (by decide) (by decide) (by decide), ro 16 (by decide) (by decide) (by decide), ro 21 (by decide) (by decide) (by decide), ro 22 (by decide) (by decide) (by decide)]
    rw [← ec] at ix
    by_cases z : x = c
    · rw [if_pos z]
      refine ⟨fun y => absurd y (by decide), fun y => ?_⟩
      have := y.2.2.1 cnt c0 (by omega)
      rw [r18, if_pos rfl] at this
      exact absurd z.symm this
    · rw [if_neg z, ix]
      refine ⟨fun y => ⟨y.1, y.2.1, fun u t0 t1 => ?_, y.2.2.2⟩, fun y => ⟨y.1, y.2.1, fun u t0 t1 => ?_, y.2.2.2⟩⟩
      · rw [r18]
        by_cases w : u = cnt
        · rw [if_pos w]; exact fun v => z v.symm
        · rw [if_neg w]; exact y.2.2.1 u t0 (by omega)
      · have := y.2.2.1 u t0 (by omega)
        rw [r18, if_neg (by omega)] at this
        exact this
  · rw [p53, ← eP, rj 14 (by decide) (by decide)]
    intro u t0 t1
    have := a2.1.2.1
    rw [qo _ (by omega) (by omega)]
    exact j u t0 t1
  · rw [p53, ← eP, rj 19 (by decide) (by decide)]
    intro u t0 t1
    have := a5.1.2.1
    rw [qo _ (by omega) (by omega)]
    exact l u t0 t1
