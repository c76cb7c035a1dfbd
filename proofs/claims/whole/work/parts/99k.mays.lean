/-! ===== one may more ===== -/
theorem PP.may {Q R Q' R' : Mh} {cnt v i : Int} (h : PP Q R) (ec : cnt = R 0 19) (hk : cnt < 3) (i0 : 0 ≤ i) (i3 : i ≤ 3)
    (qo : ∀ o, ¬ o = Q 53 0 + 10 → ¬ o = Q 53 0 + 11 → ¬ o = Q 53 0 + 4 + 2 * cnt → ¬ o = Q 53 0 + 4 + 2 * cnt + 1 → Q' o = Q o)
    (q10 : Q' (Q 53 0 + 10) 1 = cnt + 1) (q11 : ∀ j, Q' (Q 53 0 + 11) j = if j = cnt then v else Q (Q 53 0 + 11) j) (qr : Q' (Q 53 0 + 4 + 2 * cnt) 1 = i)
    (qs : ∀ j, 0 ≤ j → j < i → Q' (Q 53 0 + 4 + 2 * cnt + 1) j = R' 22 (3 * cnt + j) ∧ watR R (R' 22 (3 * cnt + j)))
    (ro : ∀ o, ¬ o = 0 → ¬ o = 7 → ¬ (20 ≤ o ∧ o ≤ 22) → R' o = R o) (rj : ∀ j, ¬ j = 19 → R' 0 j = R 0 j) (r19 : R' 0 19 = cnt + 1) (r20 : ∀ j, R' 20 j = if j = cnt then v else R 20 j) (r21 : ∀ j, R' 21 j = if j = cnt then i else R 21 j) (r22 : ∀ j, ¬ (3 * cnt ≤ j ∧ j < 3 * cnt + 3) → R' 22 j = R 22 j) (r7 : ∀ c, 0 ≤ c → c < 48 → (R' 7 c = 0 ↔ R 7 c = 0 ∧ ∀ j, 0 ≤ j → j < i → R' 22 (3 * cnt + j) ≠ c)) : PP Q' R' := by
  have hp := h.1.1.1
  unfold isP at hp
  obtain ⟨P, eP⟩ : ∃ P, P = Q 53 0 := ⟨_, rfl⟩
  rw [← eP] at hp qo q10 q11 qr qs
  have hw : wImp R R' := by
    intro x hx
    unfold watR at hx ⊢
    rw [rj 12 (by decide), rj 13 (by decide), ro 5 (by decide) (by decide) (by decide)]
    exact hx
  obtain ⟨⟨hd, a1, a2, a3, a4, a5, a6⟩, b, d, e, f, g, i', j, l⟩ := h
  have cn := a5.1.2.1
  rw [← ec] at cn
  have qo' : ∀ o, ¬ (P + 4 ≤ o ∧ o ≤ P + 11) → Q' o = Q o := fun o x => qo o (by omega) (by omega) (by omega) (by omega)
  have p53 : Q' 53 = Q 53 := qo' 53 (by omega)
  have q0 : Q' 53 0 = P := by rw [p53]; exact eP.symm
  rw [← eP] at f j l
  have a5' := a5
  refine ⟨⟨?_, ?_, ?_, ?_, ?_, ?_, ?_⟩, ?_, ?_, ?_, ?_, ?_, ?_, ?_, ?_⟩
  · unfold RDim prm at hd ⊢
    rw [p53, ← eP, qo' P (by omega), qo' 0 (by omega), rj 12 (by decide), rj 13 (by decide), rj 21 (by decide), rj 22 (by decide), rj 23 (by decide), eP]
    exact hd
  · exact a1.cg (by rw [p53]) (fun o x y => qo' o (by omega)) (rj 18 (by decide)) (ro 8 (by decide) (by decide) (by decide)) (ro 6 (by decide) (by decide) (by decide)) (rj 77 (by decide)) (ro 32 (by decide) (by decide) (by decide)) (Or.inl hw)
  · exact a2.cg (by rw [p53]) (fun o x y => qo' o (by omega)) (rj 14 (by decide)) (ro 9 (by decide) (by decide) (by decide)) (ro 10 (by decide) (by decide) (by decide)) (ro 11 (by decide) (by decide) (by decide)) (ro 12 (by decide) (by decide) (by decide))
  · exact a3.cg (by rw [p53]) (fun o x y => qo' o (by omega)) (rj 15 (by decide)) (ro 13 (by decide) (by decide) (by decide)) (ro 14 (by decide) (by decide) (by decide)) (Or.inl hw)
  · exact a4.cg (by rw [p53]) (fun o x y => qo' o (by omega)) (rj 16 (by decide)) (ro 15 (by decide) (by decide) (by decide)) (ro 16 (by decide) (by decide) (by decide)) (Or.inl hw)
  · unfold RMay at a5 ⊢
    rw [← eP, ← ec] at a5
    rw [q0, r19]
    obtain ⟨⟨x1, x2, x3⟩, x4, x8⟩ := a5
    refine ⟨⟨q10, by omega, ?_⟩, by omega, ?_⟩
    · intro y y0 y1
      rw [show P + 10 + 1 = P + 11 by omega, q11, r20, show (0 : Int) + y = y by omega]
      by_cases z : y = cnt
      · rw [if_pos z, if_pos z]
      · rw [if_neg z, if_neg z]
        have := x3 y y0 (by omega)
        rw [show P + 10 + 1 = P + 11 by omega, show (0 : Int) + y = y by omega] at this
        exact this
    · intro k k0 k1
      by_cases z : k = cnt
      · rw [z]
        unfold RRow
        rw [r21, if_pos rfl]
        exact ⟨⟨qr, i0, fun y y0 y1 => (qs y y0 y1).1⟩, i3, fun y y0 y1 => hw _ (qs y y0 y1).2⟩
      · obtain ⟨y1, y2, y3⟩ := x8 k k0 (by omega)
        unfold RRow at y1 ⊢
        rw [r21, if_neg z, qo (P + 4 + 2 * k) (by omega) (by omega) (by omega) (by omega), qo (P + 4 + 2 * k + 1) (by omega) (by omega) (by omega) (by omega)]
        refine ⟨⟨y1.1, y1.2.1, fun y a b => ?_⟩, y2, fun y a b => ?_⟩
        · rw [r22 _ (by omega)]; exact y1.2.2 y a b
        · rw [r22 _ (by omega)]; exact hw _ (y3 y a b)
  · exact a6.cg (by rw [p53]) (fun o x y => qo' o (by omega)) (rj 20 (by decide)) (rj 24 (by decide)) (ro 23 (by decide) (by decide) (by decide)) (ro 24 (by decide) (by decide) (by decide)) (ro 25 (by decide) (by decide) (by decide))
  · exact b.cn (by rw [p53]) (by rw [p53]) (by rw [← eP, qo' P (by omega)]) (ro 5 (by decide) (by decide) (by decide)) (rj 12 (by decide)) (rj 13 (by decide))
  · exact d.cg (fun o x y => qo' o (by omega)) (rj 76 (by decide)) (ro 17 (by decide) (by decide) (by decide)) (ro 18 (by decide) (by decide) (by decide)) (ro 19 (by decide) (by decide) (by decide)) (by rw [rj 14 (by decide)]; omega) (Or.inl hw)
  · rw [rj 76 (by decide)]; exact e
  · rw [p53, ← eP, qo' P (by omega), rj 34 (by decide)]; exact f
  · rw [p53, rj 35 (by decide)]; exact g
  · intro x x0 x1
    rw [r7 x x0 x1, i' x x0 x1]
    unfold free
    rw [rj 15 (by decide), rj 16 (by decide), rj 76 (by decide), ro 14 (by decide) (by decide) (by decide), ro 16 (by decide) (by decide) (by decide), ro 18 (by decide) (by decide) (by decide), r19, ← ec]
    have le3 : ∀ k, 0 ≤ k → k < cnt → R 21 k ≤ 3 := fun k k0 k1 => (a5'.2.2 k k0 (by rw [← ec]; exact k1)).2.1
    constructor
    · intro ⟨⟨z1, z2, z3, z4⟩, z5⟩
      refine ⟨z1, z2, z3, ?_⟩
      intro k k0 k1 y y0 y1
      rw [r21] at y1
      by_cases z : k = cnt
      · rw [if_pos z] at y1
        rw [z]; exact z5 y y0 y1
      · rw [if_neg z] at y1
        have := le3 k k0 (by omega)
        rw [r22 _ (by omega)]
        exact z4 k k0 (by omega) y y0 y1
    · intro ⟨z1, z2, z3, z4⟩
      refine ⟨⟨z1, z2, z3, ?_⟩, ?_⟩
      · intro k k0 k1 y y0 y1
        have := le3 k k0 k1
        have u := z4 k k0 (by omega) y y0 (by rw [r21, if_neg (by omega)]; exact y1)
        rw [r22 _ (by omega)] at u
        exact u
      · intro y y0 y1
        exact z4 cnt cn (by omega) y y0 (by rw [r21, if_pos rfl]; exact y1)
  · rw [q0, rj 14 (by decide)]
    intro u t0 t1
    have := a2.1.2.1
    rw [qo' _ (by omega)]
    exact j u t0 t1
  · rw [q0, r19]
    intro u t0 t1
    rw [qo (P + 4 + 2 * u) (by omega) (by omega) (by omega) (by omega)]
    exact l u (by omega) t1
/-! ===== the shores of a may, read by both ===== -/
def MS (B : Int → Int) (n : Int) (m : Nat) (q0 r0 qb rb : Mh) (row v1 : Int) (a0 : Nat) (i : Int) (a : Nat) (q r : Mh) : Prop :=
  PTok B n m a q r ∧ a0 ≤ a ∧ fxC q0 q ∧ fxR r0 r ∧ (∀ o, ¬ o = 49 → ¬ o = row → ¬ o = row + 1 → q o = qb o) ∧ q row 1 = i ∧ (∀ j, 0 ≤ j → j < i → q (row + 1) j = r 22 (3 * v1 + j) ∧ 0 ≤ r 22 (3 * v1 + j) ∧ r 22 (3 * v1 + j) < rb 0 25 * rb 0 26 ∧ ¬ rb 5 (48 + r 22 (3 * v1 + j)) = 2) ∧ (∀ o, ¬ o = 0 → ¬ o = 7 → ¬ o = 21 → ¬ o = 22 → r o = rb o) ∧ (∀ j, ¬ (7 ≤ j ∧ j ≤ 11) → ¬ j = 37 → ¬ j = 62 → r 0 j = rb 0 j) ∧ r 0 37 = 1 ∧ (∀ j, r 21 j = if j = v1 then i else rb 21 j) ∧ (∀ j, ¬ (3 * v1 ≤ j ∧ j < 3 * v1 + 3) → r 22 j = rb 22 j) ∧ (∀ c, 0 ≤ c → c < 48 → (r 7 c = 0 ↔ rb 7 c = 0 ∧ ∀ j, 0 ≤ j → j < i → r 22 (3 * v1 + j) ≠ c)) ∧ 0 ≤ i ∧ i ≤ 3
theorem run_94 {h : Mh} {v1 i c : Int} {K : Int → Mh → Prop} (v0 : 3 ≤ v1 ∧ v1 < 6) (i0 : 0 ≤ i) (i3 : i < 3) (e21 : h 21 v1 = i) (e11 : h 0 11 = c) (hk : Lfp (F_X14_mayLine K) (55, [v1], up (up h 22 (3 * v1 + i) c) 21 v1 (i + 1))) (hn : ∀ j, 0 ≤ j → j < i → h 22 (3 * v1 + j) ≠ c) : ∀ (f : Nat) (v2 : Int), 0 ≤ v2 → (f : Int) = i - v2 → Lfp (F_X14_mayLine K) (94, [v1, v2], h) := by
  intro f
  induction f with
  | zero =>
    intro v2 a b
    apply L_X14_mayLine_94
    unfold B_X14_mayLine_94
    refine ⟨⟨by omega, by omega⟩, ?_⟩
    rw [e21, if_pos (by omega), w32_eq (x := 3 * v1) (by omega) (by omega), w32_eq (by omega) (by omega), e11]
    refine ⟨⟨by omega, by omega⟩, ⟨by omega, by omega⟩, ?_⟩
    intro h1 e1
    rw [show h1 21 v1 = i by rw [e1, up_other (by decide)]; exact e21, w32_eq (by omega) (by omega)]
    refine ⟨⟨by omega, by omega⟩, ⟨by omega, by omega⟩, ?_⟩
    intro h2 e2
    rw [e2, e1]; exact hk
  | succ f ih =>
    intro v2 a b
    apply L_X14_mayLine_94
    unfold B_X14_mayLine_94
    refine ⟨⟨by omega, by omega⟩, ?_⟩
    rw [e21, if_neg (by omega), w32_eq (x := 3 * v1) (by omega) (by omega), w32_eq (by omega) (by omega), e11]
    refine ⟨⟨by omega, by omega⟩, ?_⟩
    rw [if_pos (hn v2 a (by omega)), w32_eq (by omega) (by omega)]
    intro x1 e1
    rw [e1]
    exact ih (v2 + 1) (by omega) (by omega)
theorem run_94b {h : Mh} {v1 i c : Int} {K : Int → Mh → Prop} (v0 : 3 ≤ v1 ∧ v1 < 6) (i3 : i ≤ 3) (e21 : h 21 v1 = i) (e11 : h 0 11 = c) (hk : K 0 (wcR h)) : ∀ (f : Nat) (v2 : Int), 0 ≤ v2 → (f : Int) = i - v2 → (∃ j, v2 ≤ j ∧ j < i ∧ h 22 (3 * v1 + j) = c) → Lfp (F_X14_mayLine K) (94, [v1, v2], h) := by
  intro f
  induction f with
  | zero =>
    intro v2 a b ⟨j, j0, j1, _⟩
    omega
  | succ f ih =>
    intro v2 a b ⟨j, j0, j1, j2⟩
    apply L_X14_mayLine_94
    unfold B_X14_mayLine_94
    refine ⟨⟨by omega, by omega⟩, ?_⟩
    rw [e21, if_neg (by omega), w32_eq (x := 3 * v1) (by omega) (by omega), w32_eq (by omega) (by omega), e11]
    refine ⟨⟨by omega, by omega⟩, ?_⟩
    by_cases z : h 22 (3 * v1 + v2) = c
    · rw [if_neg (fun y => y z)]
      exact run_wrongCell hk
    · rw [if_pos z, w32_eq (by omega) (by omega)]
      intro x1 e1
      rw [e1]
      refine ih (v2 + 1) (by omega) (by omega) ⟨j, ?_, j1, j2⟩
      by_cases w : j = v2
      · rw [w] at j2; exact absurd j2 z
      · omega
theorem tw_mays {B : Int → Int} {n : Int} {m : Nat} {q0 r0 qb rb : Mh} {row v1 P : Int} {a0 : Nat} (eP : P = q0 46 1) (hp : isP P) (hrow : P + 4 ≤ row ∧ row + 1 ≤ P + 39) (v0 : 3 ≤ v1 ∧ v1 < 6) (s6 : (shC row).1 = 6) (s7 : ((shC (row + 1)).2 : Int) = 3) (hb1 : qb 46 1 = P) (hbw : qb P 0 = rb 0 25) (hbh : qb P 1 = rb 0 26) (hz : szs (rb 0 25) (rb 0 26)) (hl : ∀ c, 0 ≤ c → c < 48 → (bit (qb P 2) c = true ↔ rb 5 (48 + c) = 2)) (h32 : 0 ≤ rb 0 32 ∧ rb 0 32 < 3) :
    ∀ (f : Nat) (i : Int) (a : Nat) (q r : Mh), (f : Int) = 3 - i → MS B n m q0 r0 qb rb row v1 a0 i a q r →
    (∃ q' r', PBad q0 r0 q' r' ∧ (∀ K : Int → Mh → Prop, K 0 q' → Lfp (F_X9_readMay K) (55, [row, i], q)) ∧ (∀ K : Int → Mh → Prop, K 0 r' → Lfp (F_X14_mayLine K) (55, [v1], r))) ∨
    (∃ i' a' q' r', MS B n m q0 r0 qb rb row v1 a0 i' a' q' r' ∧ (∀ K : Int → Mh → Prop, K 1 q' → Lfp (F_X9_readMay K) (55, [row, i], q)) ∧ (∀ K : Int → Mh → Prop, K 1 (up r' 0 32 (rb 0 32 + 1)) → Lfp (F_X14_mayLine K) (55, [v1], r))) := by
  have hp0 : isP (q0 46 1) := by rw [← eP]; exact hp
  have sP := shC_P hp
  have hq := hp
  unfold isP at hq
  have mz := szs_mul hz
  intro f
  induction f with
  | zero =>
    intro i a q r hf h
    have h' := h
    obtain ⟨hT, h2, h3, h4, h5, h6, h7, h8, h9, h37, h10, h11, h12, h13, h14⟩ := h
    have i6 : i = 3 := by omega
    have r21 : r 21 v1 = i := by rw [h10, if_pos rfl]
    obtain ⟨b, bm, cb, rb'⟩ := tw_word hT (k := 3) (by decide)
    rw [show ix ((3 : Nat) : Int) = 3 by decide] at cb
    cases b
    · right
      refine ⟨i, a, q, r, h', fun K hk => ?_, fun K hk => ?_⟩
      · apply L_X9_readMay_55
        unfold B_X9_readMay_55
        rw [if_neg (by omega)]
        refine cb _ ?_
        rw [show b01 false = 0 from rfl, if_pos rfl]; exact hk
      · apply L_X14_mayLine_55
        unfold B_X14_mayLine_55
        refine rb' _ ?_
        rw [show b01 false = 0 from rfl, if_pos rfl, h9 32 (by omega) (by omega) (by omega), w32_eq (by omega) (by omega)]
        intro g e
        rw [e]; exact hk
    · left
      refine ⟨_, _, PBad.of hT h3 h4 hp0 (e := 2) (by decide), fun K hk => ?_, fun K hk => ?_⟩
      · apply L_X9_readMay_55
        unfold B_X9_readMay_55
        rw [if_neg (by omega)]
        refine cb _ ?_
        rw [show b01 true = 1 from rfl, if_neg (by decide)]
        refine ⟨s6, ?_⟩
        unfold wp_X7_isFull
        rw [h6, s7, if_neg (by omega)]
        dsimp only
        rw [if_neg (by decide)]
        exact run_refuse hk
      · apply L_X14_mayLine_55
        unfold B_X14_mayLine_55
        refine rb' _ ?_
        rw [show b01 true = 1 from rfl, if_neg (by decide)]
        refine ⟨⟨by omega, by omega⟩, ?_⟩
        rw [r21, if_neg (fun y => y i6)]
        exact run_wrong hk
  | succ f ih =>
    intro i a q r hf h
    have h' := h
    obtain ⟨hT, h2, h3, h4, h5, h6, h7, h8, h9, h37, h10, h11, h12, h13, h14⟩ := h
    have r21 : r 21 v1 = i := by rw [h10, if_pos rfl]
    obtain ⟨b, bm, cb, rb'⟩ := tw_word hT (k := 3) (by decide)
    rw [show ix ((3 : Nat) : Int) = 3 by decide] at cb
    cases b
    · right
      refine ⟨i, a, q, r, h', fun K hk => ?_, fun K hk => ?_⟩
      · apply L_X9_readMay_55
        unfold B_X9_readMay_55
        rw [if_neg (by omega)]
        refine cb _ ?_
        rw [show b01 false = 0 from rfl, if_pos rfl]; exact hk
      · apply L_X14_mayLine_55
        unfold B_X14_mayLine_55
        refine rb' _ ?_
        rw [show b01 false = 0 from rfl, if_pos rfl, h9 32 (by omega) (by omega) (by omega), w32_eq (by omega) (by omega)]
        intro g e
        rw [e]; exact hk
    · have am := bm rfl
      have hT1 := hT.step am
      have A : ∀ o, ¬ o = 49 → advC q o = q o := fun o x => advC_o x
      have q11 : advC q 46 1 = P := by rw [A _ (by decide), h5 46 (by decide) (by omega) (by omega)]; exact hb1
      have qP : advC q P = qb P := by rw [A _ (by omega), h5 P (by omega) (by omega) (by omega)]
      have hR : ∀ c, 0 ≤ c → c < 48 → (bit (rowB (advC q) row) c = true ↔ ∃ j, 0 ≤ j ∧ j < i ∧ r 22 (3 * v1 + j) = c) := by
        intro c c0 c1
        rw [bit_rowB c0 c1 (by rw [A _ (by omega), h6]; exact h13) (fun j x y => by
          rw [A _ (by omega), h6] at y
          rw [A _ (by omega), (h7 j x y).1]
          have := (h7 j x y).2
          omega)]
        rw [A _ (by omega), A _ (by omega), h6]
        exact ⟨fun ⟨j, x, y, w⟩ => ⟨j, x, y, by rw [← (h7 j x y).1]; exact w⟩, fun ⟨j, x, y, w⟩ => ⟨j, x, y, by rw [(h7 j x y).1]; exact w⟩⟩
      have begC : ∀ K : Int → Mh → Prop, wp_X9_readCell (j_lor (qb P 2) (rowB (advC q) row)) (advC q) (fun x2 h2 => if 0 ≤ x2 then (wp_X7_add shC row x2 h2 (fun h3 => if ¬ (1 : Int) = 0 then (∀ x4 : Int, x4 = w32 (i + 1) → Lfp (F_X9_readMay K) (55, [row, x4], h3)) else (K 0 h3))) else (if ¬ (0 : Int) = 0 then (∀ x4 : Int, x4 = w32 (i + 1) → Lfp (F_X9_readMay K) (55, [row, x4], h2)) else (K 0 h2))) → Lfp (F_X9_readMay K) (55, [row, i], q) := by
        intro K hk
        apply L_X9_readMay_55
        unfold B_X9_readMay_55
        rw [if_neg (by omega)]
        refine cb _ ?_
        rw [show b01 true = 1 from rfl, if_neg (by decide)]
        refine ⟨s6, ?_⟩
        unfold wp_X7_isFull
        rw [h6, s7, if_pos (by omega)]
        dsimp only
        rw [if_pos rfl]
        refine hT.runC ?_
        unfold wp_X9_readShoreCell
        rw [q11]
        refine ⟨sP, s6, ?_⟩
        refine xp_cellBits (by rw [A _ (by omega), h6]; exact h13) (by rw [A _ (by omega), h6, s7]; exact h14) (by rw [A _ (by omega), h6]; omega) ?_
        dsimp only
        rw [qP]
        exact hk
      have begR : ∀ K : Int → Mh → Prop, wp_X14_waterRead (tokR r) (fun x2 h4 => if ¬ x2 = 0 then (Lfp (F_X14_mayLine K) (94, [v1, 0], h4)) else (K 0 h4)) → Lfp (F_X14_mayLine K) (55, [v1], r) := by
        intro K hk
        apply L_X14_mayLine_55
        unfold B_X14_mayLine_55
        refine rb' _ ?_
        rw [show b01 true = 1 from rfl, if_neg (by decide)]
        refine ⟨⟨by omega, by omega⟩, ?_⟩
        rw [r21, if_pos (by omega)]
        exact hT.runR hk
      have Tj : ∀ j, ¬ (7 ≤ j ∧ j ≤ 11) → ¬ j = 37 → ¬ j = 62 → tokR r 0 j = rb 0 j := fun j x y z => by rw [tokR_j (by omega), h9 j x y z]
      have To : ∀ o, ¬ o = 0 → tokR r o = r o := fun o x => tokR_o x
      rcases tw_cell (fb := j_lor (qb P 2) (rowB (advC q) row)) (w := rb 0 25) (hh := rb 0 26) hT1 (fxC_adv h3 hp0) (fxR_tok h4) hp0 (by rw [← eP, qP]; exact hbw) (Tj 25 (by omega) (by omega) (by omega)) (by rw [← eP, qP]; exact hbh) (Tj 26 (by omega) (by omega) (by omega)) hz with ⟨q', r', pb, pj, cc, rc⟩ | ⟨c, pl, r', c0, c1, bm1, hT2, sil, r11, r37, r62, ok, bad, rc⟩
      · left
        refine ⟨q', r', pb, fun K hk => begC K (cc _ ?_), fun K hk => begR K ?_⟩
        · rw [if_neg (by decide), if_neg (by decide)]; exact hk
        · unfold wp_X14_waterRead
          refine rc _ ?_
          rw [if_neg (by decide)]
          dsimp only
          rw [if_neg (by decide)]; exact hk
      · have c48 : c < 48 := by omega
        have e5 : r' 5 = rb 5 := by rw [sil.1 5 (by decide), To 5 (by decide), h8 5 (by decide) (by decide) (by decide) (by decide)]
        have e22 : r' 22 = r 22 := by rw [sil.1 22 (by decide), To 22 (by decide)]
        have e21 : r' 21 = r 21 := by rw [sil.1 21 (by decide), To 21 (by decide)]
        have hbit : bit (j_lor (qb P 2) (rowB (advC q) row)) c = true ↔ rb 5 (48 + c) = 2 ∨ ∃ j, 0 ≤ j ∧ j < i ∧ r 22 (3 * v1 + j) = c := by
          rw [bit_or, Bool.or_eq_true, hl c c0 c48, hR c c0 c48]
        have fc2 : fxC q0 (advC (advC (advC q))) := fxC_adv (fxC_adv (fxC_adv h3 hp0) hp0) hp0
        have fr2 : fxR r0 r' := sil.fx (fxR_tok h4)
        by_cases z : rb 5 (48 + c) = 2
        · left
          refine ⟨_, _, PBad.cell fc2 fr2 hp0 r62, fun K hk => begC K (bad (hbit.mpr (Or.inl z)) _ ?_), fun K hk => begR K ?_⟩
          · rw [if_neg (by decide), if_neg (by decide)]; exact hk
          · unfold wp_X14_waterRead
            refine rc _ ?_
            rw [if_pos (by decide), r11, w32_eq (by omega) (by omega), e5]
            refine ⟨⟨by omega, by omega⟩, ?_⟩
            rw [if_neg (fun y => y z)]
            refine run_wrongCell ?_
            dsimp only
            rw [if_neg (by decide)]; exact hk
        · have runR : ∀ K : Int → Mh → Prop, Lfp (F_X14_mayLine K) (94, [v1, 0], up r' 7 c 1) → Lfp (F_X14_mayLine K) (55, [v1], r) := by
            intro K hk
            refine begR K ?_
            unfold wp_X14_waterRead
            refine rc _ ?_
            rw [if_pos (by decide), r11, w32_eq (by omega) (by omega), e5]
            refine ⟨⟨by omega, by omega⟩, ?_⟩
            rw [if_pos z]
            refine ⟨⟨c0, by omega⟩, ?_⟩
            intro g2 e2
            rw [e2]
            rw [if_pos (by decide)]; exact hk
          have f11 : up r' 7 c 1 0 11 = c := by rw [up_other (by decide)]; exact r11
          have f21 : up r' 7 c 1 21 v1 = i := by rw [up_other (by decide), e21]; exact r21
          by_cases dup : ∃ j, 0 ≤ j ∧ j < i ∧ r 22 (3 * v1 + j) = c
          · left
            refine ⟨_, _, PBad.cell (pl := pl) fc2 (fxR_3 fr2 (by omega) : fxR r0 (up r' 7 c 1)) hp0 (by rw [up_other (by decide)]; exact r62), fun K hk => begC K (bad (hbit.mpr (Or.inr dup)) _ ?_), fun K hk => runR K ?_⟩
            · rw [if_neg (by decide), if_neg (by decide)]; exact hk
            · refine run_94b v0 h14 f21 f11 hk i.toNat 0 (by decide) (by omega) ?_
              obtain ⟨j, j0, j1, j2⟩ := dup
              exact ⟨j, j0, j1, by rw [up_other (by decide), e22]; exact j2⟩
          · have nb : bit (j_lor (qb P 2) (rowB (advC q) row)) c = false := by
              cases w : bit (j_lor (qb P 2) (rowB (advC q) row)) c
              · rfl
              · exact absurd (hbit.mp w) (fun y => y.elim z dup)
            have dn : ∀ j, 0 ≤ j → j < i → r 22 (3 * v1 + j) ≠ c := fun j j0 j1 j2 => dup ⟨j, j0, j1, j2⟩
            clear dup hbit hR
            obtain ⟨q3, eq3⟩ : ∃ q3, q3 = up (up (advC (advC (advC q))) (row + 1) i c) row 1 (i + 1) := ⟨_, rfl⟩
            obtain ⟨r3, er3⟩ : ∃ r3, r3 = up (up (up r' 7 c 1) 22 (3 * v1 + i) c) 21 v1 (i + 1) := ⟨_, rfl⟩
            have r3o : ∀ o, ¬ o = 0 → ¬ o = 7 → ¬ o = 21 → ¬ o = 22 → r3 o = rb o := fun o x y u w => by rw [er3, up_other u, up_other w, up_other y, sil.1 o x, To o x, h8 o x y u w]
            have r322 : ∀ j, r3 22 j = if j = 3 * v1 + i then c else r 22 j := fun j => by rw [er3, up_other (by decide), up_get, up_other (by decide), e22]
            have ms : MS B n m q0 r0 qb rb row v1 a0 (i + 1) (a + 1 + 2) q3 r3 := by
              refine ⟨?_, by omega, ?_, ?_, ?_, ?_, ?_, r3o, ?_, ?_, ?_, ?_, ?_, by omega, by omega⟩
              · rw [eq3, er3]
                exact ((((hT2.upC (by omega)).upC (by omega)).upR (by decide)).upR (by decide)).upR (by decide)
              · rw [eq3]; exact fxC_up (fxC_up fc2 (Or.inr (by omega)) hp0) (Or.inr (by omega)) hp0
              · rw [er3]
                exact fxR_5 (fxR_5 (fxR_3 fr2 (by omega)) (by decide) (by decide) (by rw [show off 22 = 9 from rfl]; omega)) (by decide) (by decide) (by rw [show off 21 = 3 from rfl]; omega)
              · intro o x y w
                rw [eq3, up_other y, up_other w, advC_o x, advC_o x, advC_o x, h5 o x y w]
              · rw [eq3, up_self]
              · intro j j0 j1
                rw [eq3, up_other (by omega), up_get, r322]
                by_cases w : j = i
                · rw [if_pos w, if_pos (by omega)]
                  exact ⟨rfl, c0, c1, z⟩
                · rw [if_neg w, if_neg (by omega), advC_o (by omega), advC_o (by omega), advC_o (by omega)]
                  exact h7 j j0 (by omega)
              · intro j x y w
                rw [er3, up_other (by decide), up_other (by decide), up_other (by decide), sil.2 j x y w, Tj j x y w]
              · rw [er3, up_other (by decide), up_other (by decide), up_other (by decide)]; exact r37
              · intro j
                rw [er3, up_get, up_other (by decide), up_other (by decide), e21, h10]
                by_cases w : j = v1
                · rw [if_pos w, if_pos w]
                · rw [if_neg w, if_neg w, if_neg w]
              · intro j x
                rw [r322, if_neg (by omega)]; exact h11 j x
              · intro x x0 x1
                have e7 : r3 7 x = if x = c then 1 else r 7 x := by rw [er3, up_other (by decide), up_other (by decide), up_get, sil.1 7 (by decide), To 7 (by decide)]
                rw [e7]
                by_cases w : x = c
                · rw [if_pos w]
                  refine ⟨fun y => absurd y (by decide), fun y => ?_⟩
                  have := y.2 i h13 (by omega)
                  rw [r322, if_pos rfl] at this
                  exact absurd w.symm this
                · rw [if_neg w, h12 x x0 x1]
                  refine ⟨fun y => ⟨y.1, fun j j0 j1 => ?_⟩, fun y => ⟨y.1, fun j j0 j1 => ?_⟩⟩
                  · rw [r322]
                    by_cases u : j = i
                    · rw [if_pos (by omega)]; exact fun t => w t.symm
                    · rw [if_neg (by omega)]; exact y.2 j j0 (by omega)
                  · have := y.2 j j0 (by omega)
                    rw [r322, if_neg (by omega)] at this
                    exact this
            have goC : ∀ K : Int → Mh → Prop, Lfp (F_X9_readMay K) (55, [row, i + 1], q3) → Lfp (F_X9_readMay K) (55, [row, i], q) := by
              intro K hk
              refine begC K (ok nb _ ?_)
              rw [if_pos c0]
              refine run_add (cnt := i) (by rw [advC_o (by omega), advC_o (by omega), advC_o (by omega)]; exact h6) h13 (by omega) (by omega) ?_
              rw [if_pos (by decide), ← eq3, w32_eq (by omega) (by omega)]
              intro x4 e4
              rw [e4]; exact hk
            have goR : ∀ K : Int → Mh → Prop, Lfp (F_X14_mayLine K) (55, [v1], r3) → Lfp (F_X14_mayLine K) (55, [v1], r) := by
              intro K hk
              refine runR K (run_94 v0 h13 (by omega) f21 f11 (by rw [← er3]; exact hk) ?_ i.toNat 0 (by decide) (by omega))
              intro j j0 j1 y
              rw [up_other (by decide), e22] at y
              exact dn j j0 j1 y
            rcases ih (i + 1) (a + 1 + 2) q3 r3 (by omega) ms with ⟨q2, r2, pb, c2, r2'⟩ | ⟨i2, a2, q2, r2, k2, c2, r2'⟩
            · exact Or.inl ⟨q2, r2, pb, fun K hk => goC K (c2 K hk), fun K hk => goR K (r2' K hk)⟩
            · exact Or.inr ⟨i2, a2, q2, r2, k2, fun K hk => goC K (c2 K hk), fun K hk => goR K (r2' K hk)⟩
