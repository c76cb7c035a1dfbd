/-! ===== one kind more ===== -/
theorem PP.kind {Q R Q' R' : Mh} {cnt v i od : Int} (h : PP Q R) (ec : cnt = R 0 14) (hk : cnt < 4) (i0 : 0 ≤ i) (i6 : i ≤ 6) (o0 : 1 ≤ od) (o1 : od ≤ 99)
    (qo : ∀ o, ¬ o = Q 53 0 + 12 → ¬ o = Q 53 0 + 13 → ¬ o = Q 53 0 + 15 + 2 * cnt → ¬ o = Q 53 0 + 15 + 2 * cnt + 1 → ¬ o = Q 53 0 + 23 → ¬ o = Q 53 0 + 24 → Q' o = Q o)
    (q12 : Q' (Q 53 0 + 12) 1 = cnt + 1) (q13 : ∀ j, Q' (Q 53 0 + 13) j = if j = cnt then v else Q (Q 53 0 + 13) j) (qr : Q' (Q 53 0 + 15 + 2 * cnt) 1 = i)
    (qs : ∀ j, 0 ≤ j → j < i → Q' (Q 53 0 + 15 + 2 * cnt + 1) j = R' 12 (6 * cnt + j) ∧ -99 ≤ R' 12 (6 * cnt + j) ∧ R' 12 (6 * cnt + j) ≤ 99)
    (q23 : Q' (Q 53 0 + 23) 1 = cnt + 1) (q24 : ∀ j, Q' (Q 53 0 + 24) j = if j = cnt then od else Q (Q 53 0 + 24) j)
    (ro : ∀ o, ¬ o = 0 → ¬ (9 ≤ o ∧ o ≤ 12) → R' o = R o) (rj : ∀ j, ¬ j = 14 → R' 0 j = R 0 j) (r14 : R' 0 14 = cnt + 1) (r9 : ∀ j, R' 9 j = if j = cnt then v else R 9 j) (r10 : ∀ j, R' 10 j = if j = cnt then i else R 10 j) (r11 : ∀ j, R' 11 j = if j = cnt then od else R 11 j) (r12 : ∀ j, ¬ (6 * cnt ≤ j ∧ j < 6 * cnt + 6) → R' 12 j = R 12 j) : PP Q' R' := by
  have hp := h.1.1.1
  unfold isP at hp
  obtain ⟨P, eP⟩ : ∃ P, P = Q 53 0 := ⟨_, rfl⟩
  rw [← eP] at hp qo q12 q13 qr qs q23 q24
  have hw : wImp R R' := by
    intro x hx
    unfold watR at hx ⊢
    rw [rj 12 (by decide), rj 13 (by decide), ro 5 (by decide) (by decide)]
    exact hx
  obtain ⟨⟨hd, a1, a2, a3, a4, a5, a6⟩, b, d, e, f, g, i', j, l⟩ := h
  have cn := a2.1.2.1
  rw [← ec] at cn
  have qo' : ∀ o, ¬ (P + 12 ≤ o ∧ o ≤ P + 24) → Q' o = Q o := fun o x => qo o (by omega) (by omega) (by omega) (by omega) (by omega) (by omega)
  have p53 : Q' 53 = Q 53 := qo' 53 (by omega)
  have q0 : Q' 53 0 = P := by rw [p53]; exact eP.symm
  rw [← eP] at f j l
  refine ⟨⟨?_, ?_, ?_, ?_, ?_, ?_, ?_⟩, ?_, ?_, ?_, ?_, ?_, ?_, ?_, ?_⟩
  · unfold RDim prm at hd ⊢
    rw [p53, ← eP, qo' P (by omega), qo' 0 (by omega), rj 12 (by decide), rj 13 (by decide), rj 21 (by decide), rj 22 (by decide), rj 23 (by decide), eP]
    exact hd
  · exact a1.cg (by rw [p53]) (fun o x y => qo' o (by omega)) (rj 18 (by decide)) (ro 8 (by decide) (by decide)) (ro 6 (by decide) (by decide)) (rj 77 (by decide)) (ro 32 (by decide) (by decide)) (Or.inl hw)
  · unfold RKnd at a2 ⊢
    rw [← eP, ← ec] at a2
    rw [q0, r14]
    obtain ⟨⟨x1, x2, x3⟩, x4, ⟨x5, x6, x7⟩, x8⟩ := a2
    refine ⟨⟨q12, by omega, ?_⟩, by omega, ⟨q23, by omega, ?_⟩, ?_⟩
    · intro y y0 y1
      rw [show P + 12 + 1 = P + 13 by omega, q13, r9, show (0 : Int) + y = y by omega]
      by_cases z : y = cnt
      · rw [if_pos z, if_pos z]
      · rw [if_neg z, if_neg z]
        have := x3 y y0 (by omega)
        rw [show P + 12 + 1 = P + 13 by omega, show (0 : Int) + y = y by omega] at this
        exact this
    · intro y y0 y1
      rw [show P + 23 + 1 = P + 24 by omega, q24, r11, show (0 : Int) + y = y by omega]
      by_cases z : y = cnt
      · rw [if_pos z, if_pos z]
      · rw [if_neg z, if_neg z]
        have := x7 y y0 (by omega)
        rw [show P + 23 + 1 = P + 24 by omega, show (0 : Int) + y = y by omega] at this
        exact this
    · intro k k0 k1
      by_cases z : k = cnt
      · rw [z]
        unfold kndR RRow
        rw [r10, if_pos rfl, r11, if_pos rfl]
        exact ⟨o0, o1, ⟨i0, i6, fun y y0 y1 => (qs y y0 y1).2⟩, qr, i0, fun y y0 y1 => (qs y y0 y1).1⟩
      · obtain ⟨y1, y2, y3, y4⟩ := x8 k k0 (by omega)
        unfold kndR at y3
        unfold RRow at y4
        unfold kndR RRow
        rw [r10, if_neg z, r11, if_neg z, qo (P + 15 + 2 * k) (by omega) (by omega) (by omega) (by omega) (by omega) (by omega), qo (P + 15 + 2 * k + 1) (by omega) (by omega) (by omega) (by omega) (by omega) (by omega)]
        refine ⟨y1, y2, ⟨y3.1, y3.2.1, fun y a b => ?_⟩, y4.1, y4.2.1, fun y a b => ?_⟩
        · rw [r12 _ (by have := y3.2.1; omega)]; exact y3.2.2 y a b
        · rw [r12 _ (by have := y3.2.1; omega)]; exact y4.2.2 y a b
  · exact a3.cg (by rw [p53]) (fun o x y => qo' o (by omega)) (rj 15 (by decide)) (ro 13 (by decide) (by decide)) (ro 14 (by decide) (by decide)) (Or.inl hw)
  · exact a4.cg (by rw [p53]) (fun o x y => qo' o (by omega)) (rj 16 (by decide)) (ro 15 (by decide) (by decide)) (ro 16 (by decide) (by decide)) (Or.inl hw)
  · exact a5.cg (by rw [p53]) (fun o x y => qo' o (by omega)) (rj 19 (by decide)) (ro 20 (by decide) (by decide)) (ro 21 (by decide) (by decide)) (ro 22 (by decide) (by decide)) (Or.inl hw)
  · exact a6.cg (by rw [p53]) (fun o x y => qo' o (by omega)) (rj 20 (by decide)) (rj 24 (by decide)) (ro 23 (by decide) (by decide)) (ro 24 (by decide) (by decide)) (ro 25 (by decide) (by decide))
  · exact b.cn (by rw [p53]) (by rw [p53]) (by rw [← eP, qo' P (by omega)]) (ro 5 (by decide) (by decide)) (rj 12 (by decide)) (rj 13 (by decide))
  · exact d.cg (fun o x y => qo' o (by omega)) (rj 76 (by decide)) (ro 17 (by decide) (by decide)) (ro 18 (by decide) (by decide)) (ro 19 (by decide) (by decide)) (by rw [r14]; omega) (Or.inl hw)
  · rw [rj 76 (by decide)]; exact e
  · rw [p53, ← eP, qo' P (by omega), rj 34 (by decide)]; exact f
  · rw [p53, rj 35 (by decide)]; exact g
  · intro x x0 x1
    rw [ro 7 (by decide) (by decide), free.cg (rj 15 (by decide)) (ro 14 (by decide) (by decide)) (rj 16 (by decide)) (ro 16 (by decide) (by decide)) (rj 76 (by decide)) (ro 18 (by decide) (by decide)) (rj 19 (by decide)) (ro 21 (by decide) (by decide)) (ro 22 (by decide) (by decide)) x]
    exact i' x x0 x1
  · rw [q0, r14]
    intro u t0 t1
    rw [qo (P + 15 + 2 * u) (by omega) (by omega) (by omega) (by omega) (by omega) (by omega)]
    exact j u (by omega) t1
  · rw [q0, rj 19 (by decide)]
    intro u t0 t1
    have := a5.1.2.1
    rw [qo' _ (by omega)]
    exact l u t0 t1
/-- a line that tells of no cells is done -/
theorem PR.keep {B : Int → Int} {n : Int} {m a a' : Nat} {q0 r0 q r q' r' : Mh} (h : PR B n m a q0 r0 q r) (hT : PTok B n m a' q' r') (k1 : ∀ j, 1 ≤ j → j ≤ 9 → q' 46 j = q 46 j) (rj : ∀ j, j = 4 ∨ j = 5 ∨ j = 36 ∨ j = 37 ∨ j = 38 ∨ j = 68 → r' 0 j = r 0 j) (r4 : r' 4 = r 4) (pp : PP (qv q') (rv r')) (pe : PEmp (qv q) (rv r) → PEmp (qv q') (rv r')) (fc : fxC q0 q') (fr : fxR r0 r') : PR B n m a' q0 r0 q' r' := by
  obtain ⟨_, hF, _, hE, _, _⟩ := h
  refine ⟨hT, hF.same k1 (fun j x y => rj j (by omega)) (fun j x y => rj j (by omega)) r4 (rj 68 (by decide)), pp, fun y => pe (hE (by rw [← rj 37 (by decide)]; exact y)), fc, fr⟩
/-! ===== rises, read by both ===== -/
def KS (B : Int → Int) (n : Int) (m : Nat) (q0 r0 qb rb : Mh) (row v1 : Int) (a0 : Nat) (i : Int) (a : Nat) (q r : Mh) : Prop :=
  PTok B n m a q r ∧ a0 ≤ a ∧ fxC q0 q ∧ fxR r0 r ∧ (∀ o, ¬ o = 49 → ¬ o = row → ¬ o = row + 1 → q o = qb o) ∧ q row 1 = i ∧ (∀ j, 0 ≤ j → j < i → q (row + 1) j = r 12 (6 * v1 + j) ∧ -99 ≤ r 12 (6 * v1 + j) ∧ r 12 (6 * v1 + j) ≤ 99) ∧ (∀ o, ¬ o = 0 → ¬ o = 10 → ¬ o = 12 → r o = rb o) ∧ (∀ j, ¬ (7 ≤ j ∧ j ≤ 11) → r 0 j = rb 0 j) ∧ (∀ j, r 10 j = if j = v1 then i else rb 10 j) ∧ (∀ j, ¬ (6 * v1 ≤ j ∧ j < 6 * v1 + 6) → r 12 j = rb 12 j) ∧ 0 ≤ i ∧ i ≤ 6
/-- whether a number, or the sign before one, stands here -/
def nmC (q : Mh) : Prop := q 49 8 = 1 ∨ (q 49 8 = 4 ∧ q 49 10 = 16)
theorem KS.add {B : Int → Int} {n : Int} {m : Nat} {q0 r0 qb rb : Mh} {row v1 : Int} {a0 : Nat} {i : Int} {a a' : Nat} {q r q1 r1 : Mh} {v : Int} (h : KS B n m q0 r0 qb rb row v1 a0 i a q r) (i6 : i < 6) (vb : -99 ≤ v ∧ v ≤ 99) (hp : isP (q0 46 1)) (hrow : q0 46 1 ≤ row ∧ row + 1 ≤ q0 46 1 + 39) (v0 : 4 ≤ v1 ∧ v1 < 8) (aa : a ≤ a') (hT : PTok B n m a' q1 r1) (fc : fxC q0 q1) (fr : fxR r0 r1) (q1o : ∀ o, ¬ o = 49 → q1 o = q o) (r1o : ∀ o, ¬ o = 0 → r1 o = r o) (r1j : ∀ j, ¬ (7 ≤ j ∧ j ≤ 11) → r1 0 j = r 0 j) :
    KS B n m q0 r0 qb rb row v1 a0 (i + 1) a' (up (up q1 (row + 1) i v) row 1 (i + 1)) (up (up r1 12 (6 * v1 + i) v) 10 v1 (i + 1)) := by
  have hp' := hp
  unfold isP at hp'
  obtain ⟨h1, h2, h3, h4, h5, h6, h7, h8, h9, h10, h11, h12, h13⟩ := h
  refine ⟨?_, by omega, ?_, ?_, ?_, up_self, ?_, ?_, ?_, ?_, ?_, by omega, by omega⟩
  · exact (((hT.upC (by omega)).upC (by omega)).upR (by decide)).upR (by decide)
  · exact fxC_up (fxC_up fc (Or.inr (by omega)) hp) (Or.inr (by omega)) hp
  · exact fxR_5 (fxR_5 fr (by decide) (by decide) (by rw [show off 12 = 24 from rfl]; omega)) (by decide) (by decide) (by rw [show off 10 = 4 from rfl]; omega)
  · intro o x y z
    rw [up_other y, up_other z, q1o o x, h5 o x y z]
  · intro j j0 j1
    rw [up_other (b := row + 1) (by omega), up_other (b := 12) (by decide), up_get, up_get]
    by_cases z : j = i
    · rw [if_pos z, if_pos (by omega)]; exact ⟨rfl, vb⟩
    · rw [if_neg z, if_neg (by omega), q1o _ (by omega), r1o 12 (by decide)]
      exact h7 j j0 (by omega)
  · intro o x y z
    rw [up_other y, up_other z, r1o o x, h8 o x y z]
  · intro j x
    rw [up_other (by decide), up_other (by decide), r1j j x, h9 j x]
  · intro j
    rw [up_get, up_other (by decide), r1o 10 (by decide), h10]
    by_cases z : j = v1
    · rw [if_pos z, if_pos z]
    · rw [if_neg z, if_neg z, if_neg z]
  · intro j x
    rw [up_other (by decide), up_get, if_neg (by omega), r1o 12 (by decide), h11 j x]
/-- one number behind its sign, or without -/
theorem tw_rise {B : Int → Int} {n : Int} {m : Nat} {q0 r0 qb rb : Mh} {row v1 : Int} {a0 : Nat} {i : Int} {a : Nat} {q r : Mh} (h : KS B n m q0 r0 qb rb row v1 a0 i a q r) (hn : nmC q) (i6 : i < 6) (hp : isP (q0 46 1)) (hrow : q0 46 1 ≤ row ∧ row + 1 ≤ q0 46 1 + 39) (v0 : 4 ≤ v1 ∧ v1 < 8) (s6 : (shC row).1 = 6) (s7 : ((shC (row + 1)).2 : Int) = 6) :
    (∃ q' r', PBad q0 r0 q' r' ∧ (∀ K : Int → Mh → Prop, K 0 q' → Lfp (F_X9_readRises row K) (2, [i], q)) ∧ (∀ K : Int → Mh → Prop, K 0 r' → Lfp (F_X14_kindLine K) (59, [v1, 1], r))) ∨
    (∃ a' q' r', KS B n m q0 r0 qb rb row v1 a0 (i + 1) a' q' r' ∧ (∀ K : Int → Mh → Prop, Lfp (F_X9_readRises row K) (2, [i + 1], q') → Lfp (F_X9_readRises row K) (2, [i], q)) ∧ (∀ K : Int → Mh → Prop, (nmC q' → Lfp (F_X14_kindLine K) (59, [v1, 1], r')) → (¬ nmC q' → Lfp (F_X14_kindLine K) (59, [v1, 0], r')) → Lfp (F_X14_kindLine K) (59, [v1, 1], r))) := by
  have h' := h
  have hp' := hp
  unfold isP at hp'
  obtain ⟨hT, h2, h3, h4, h5, h6, h7, h8, h9, h10, h11, h12, h13⟩ := h
  obtain ⟨b, bm, cb, rb'⟩ := tw_sign hT (v := 16) (w := 45) (Or.inr (Or.inr (Or.inr ⟨rfl, rfl⟩)))
  have r10 : r 10 v1 = i := by rw [h10, if_pos rfl]
  -- where the number stands
  obtain ⟨qn, rn, an, hTn, aan, qno, rno, rnj, fcn, frn, runC, runR⟩ : ∃ (qn rn : Mh) (an : Nat), PTok B n m an qn rn ∧ a ≤ an ∧ (∀ o, ¬ o = 49 → qn o = q o) ∧ (∀ o, ¬ o = 0 → rn o = r o) ∧ (∀ j, ¬ (7 ≤ j ∧ j ≤ 11) → rn 0 j = r 0 j) ∧ fxC q0 qn ∧ fxR r0 rn ∧ (∀ K : Int → Mh → Prop, wp_X9_readNumber 0 99 qn (fun x1 h1 => if 0 ≤ x1 then (if b01 b = 0 then (((shC row).1 = 6) ∧ wp_X7_add shC row x1 h1 (fun h2 => ∀ x2 : Int, x2 = w32 (i + 1) → Lfp (F_X9_readRises row K) (2, [x2], h2))) else (((shC row).1 = 6) ∧ wp_X7_add shC row (w32 (-x1)) h1 (fun h3 => ∀ x3 : Int, x3 = w32 (i + 1) → Lfp (F_X9_readRises row K) (2, [x3], h3)))) else (K 0 h1)) → Lfp (F_X9_readRises row K) (2, [i], q)) ∧ (∀ K : Int → Mh → Prop, wp_X14_number 0 99 rn (fun x1 h1 => if ¬ x1 = 0 then (if b01 b = 0 then (∀ h2 : Mh, h2 = up h1 0 11 (h1 0 11) → K 1 h2) else (∀ h3 : Mh, h3 = up h1 0 11 (w32 (-(h1 0 11))) → K 1 h3)) else (K 0 h1)) → wp_X14_signed 99 r K) := by
    cases b
    · refine ⟨q, r, a, hT, Nat.le_refl _, fun _ _ => rfl, fun _ _ => rfl, fun _ _ => rfl, h3, h4, fun K hk => ?_, fun K hk => ?_⟩
      · have n1 : q 49 8 = 1 := by
          rcases hn with z | z
          · exact z
          · exfalso
            have := cb (fun x _ => x = 0) rfl
            unfold wp_X10_isSign at this
            rw [if_neg (fun y => y z.1), if_neg (fun y => y z.2)] at this
            exact absurd this (by decide)
        apply L_X9_readRises_2
        unfold B_X9_readRises_2
        rw [if_neg (by omega)]
        refine cb _ ?_
        rw [show b01 false = 0 from rfl, if_neg (by decide), if_pos n1]
        apply L_X9_readRises_51
        unfold B_X9_readRises_51
        rw [if_pos (by omega), if_pos rfl]
        apply L_X9_readRises_74
        unfold B_X9_readRises_74
        exact hk
      · unfold wp_X14_signed
        refine rb' _ ?_
        rw [show b01 false = 0 from rfl, if_pos rfl]
        apply L_X14_signed_15
        unfold B_X14_signed_15
        exact hk
    · have am := bm rfl
      refine ⟨advC q, tokR r, a + 1, hT.step am, by omega, fun o x => advC_o x, fun o x => tokR_o x, fun j x => tokR_j (by omega), fxC_adv h3 hp, fxR_tok h4, fun K hk => ?_, fun K hk => ?_⟩
      · apply L_X9_readRises_2
        unfold B_X9_readRises_2
        rw [if_neg (by omega)]
        refine cb _ ?_
        rw [show b01 true = 1 from rfl, if_pos (by decide)]
        apply L_X9_readRises_51
        unfold B_X9_readRises_51
        rw [if_pos (by omega), if_neg (by decide)]
        refine hT.runC ?_
        apply L_X9_readRises_74
        unfold B_X9_readRises_74
        exact hk
      · unfold wp_X14_signed
        refine rb' _ ?_
        rw [show b01 true = 1 from rfl, if_neg (by decide)]
        refine hT.runR ?_
        apply L_X14_signed_15
        unfold B_X14_signed_15
        exact hk
  have begR : ∀ K : Int → Mh → Prop, wp_X14_signed 99 r (fun x3 h7 => if ¬ x3 = 0 then (((0 : Int) ≤ v1 ∧ v1 < (8 : Int)) ∧ ((0 : Int) ≤ w32 (w32 (6 * v1) + (h7 10 v1)) ∧ w32 (w32 (6 * v1) + (h7 10 v1)) < (48 : Int)) ∧ ∀ h8 : Mh, h8 = up h7 12 (w32 (w32 (6 * v1) + (h7 10 v1))) (h7 0 11) → ((0 : Int) ≤ v1 ∧ v1 < (8 : Int)) ∧ ((0 : Int) ≤ v1 ∧ v1 < (8 : Int)) ∧ ∀ h9 : Mh, h9 = up h8 10 v1 (w32 ((h8 10 v1) + 1)) → if (h9 0 8) = 3 then (Lfp (F_X14_kindLine K) (59, [v1, 1], h9)) else (wp_X14_isSign 45 h9 (fun x4 h10 => if x4 = 0 then (Lfp (F_X14_kindLine K) (59, [v1, 0], h10)) else (Lfp (F_X14_kindLine K) (59, [v1, 1], h10))))) else (K 0 h7)) → Lfp (F_X14_kindLine K) (59, [v1, 1], r) := by
    intro K hk
    apply L_X14_kindLine_59
    unfold B_X14_kindLine_59
    rw [if_neg (by decide)]
    refine ⟨⟨by omega, by omega⟩, ?_⟩
    rw [r10, if_pos (by omega)]
    exact hk
  rcases tw_num (lo := 0) (hi := 99) hTn (by omega) with ⟨x, x0, x1, _, fm, hT5, ct, rt⟩ | ⟨e, e0, ct, rt⟩
  · right
    obtain ⟨v, ev⟩ : ∃ v, v = if b = true then w32 (-x) else x := ⟨_, rfl⟩
    have vb : -99 ≤ v ∧ v ≤ 99 := by
      rw [ev]
      split
      · rw [w32_eq (by omega) (by omega)]; omega
      · omega
    obtain ⟨r1, er1⟩ : ∃ r1, r1 = up (tokR (up rn 0 11 x)) 0 11 v := ⟨_, rfl⟩
    have r1o : ∀ o, ¬ o = 0 → r1 o = r o := fun o y => by rw [er1, up_other y, tokR_o y, up_other y, rno o y]
    have r1j : ∀ j, ¬ (7 ≤ j ∧ j ≤ 11) → r1 0 j = r 0 j := fun j y => by rw [er1, up_slot (by omega), tokR_j (by omega), up_slot (by omega), rnj j y]
    have r110 : r1 10 v1 = i := by rw [r1o 10 (by decide)]; exact r10
    have hT1 : PTok B n m (an + 1) (advC qn) r1 := by rw [er1]; exact hT5.up11 (by omega)
    have ks := h'.add (v := v) (a' := an + 1) (q1 := advC qn) (r1 := r1) i6 vb hp hrow v0 (by omega) hT1 (fxC_adv fcn hp) (by rw [er1]; exact fxR_0 (fxR_tok (fxR_0 frn (by omega))) (by omega)) (fun o y => by rw [advC_o y, qno o y]) r1o r1j
    refine ⟨an + 1, _, _, ks, fun K hk => runC K (ct _ ?_), fun K hk1 hk0 => begR K (runR _ (rt _ ?_))⟩
    · rw [if_pos x0]
      have ra : wp_X7_add shC row v (advC qn) (fun h2 => ∀ x2 : Int, x2 = w32 (i + 1) → Lfp (F_X9_readRises row K) (2, [x2], h2)) := by
        refine run_add (cnt := i) (by rw [advC_o (by omega), qno _ (by omega)]; exact h6) h12 (by omega) (by omega) ?_
        intro x2 e2
        rw [e2, w32_eq (by omega) (by omega)]; exact hk
      cases b
      · rw [show b01 false = 0 from rfl, if_pos rfl]
        rw [if_neg (by decide)] at ev
        rw [← ev]; exact ⟨s6, ra⟩
      · rw [show b01 true = 1 from rfl, if_neg (by decide)]
        rw [if_pos rfl] at ev
        rw [← ev]; exact ⟨s6, ra⟩
    · rw [if_pos (by decide), show tokR (up rn 0 11 x) 0 11 = x by rw [tokR_j (by omega), up_self]]
      refine (show ∀ G : Mh → Prop, G r1 → (if b01 b = 0 then (∀ h2 : Mh, h2 = up (tokR (up rn 0 11 x)) 0 11 x → G h2) else (∀ h3 : Mh, h3 = up (tokR (up rn 0 11 x)) 0 11 (w32 (-x)) → G h3)) from ?_) (fun g => _) ?_
      · intro G hG
        cases b
        · rw [show b01 false = 0 from rfl, if_pos rfl]
          rw [if_neg (by decide)] at ev
          rw [ev] at er1
          intro g e; rw [e, ← er1]; exact hG
        · rw [show b01 true = 1 from rfl, if_neg (by decide)]
          rw [if_pos rfl] at ev
          rw [ev] at er1
          intro g e; rw [e, ← er1]; exact hG
      rw [if_pos (by decide), r110, show r1 0 11 = v by rw [er1, up_self], w32_eq (x := 6 * v1) (by omega) (by omega), w32_eq (by omega) (by omega)]
      refine ⟨⟨by omega, by omega⟩, ⟨by omega, by omega⟩, ?_⟩
      intro g8 e8
      rw [show g8 10 v1 = i by rw [e8, up_other (by decide)]; exact r110, w32_eq (by omega) (by omega)]
      refine ⟨⟨by omega, by omega⟩, ⟨by omega, by omega⟩, ?_⟩
      intro g9 e9
      rw [e8] at e9
      rw [← e9] at hk1 hk0 ks
      have tT := ks.1
      obtain ⟨n1, n2⟩ := tT.num
      by_cases z : g9 0 8 = 3
      · rw [if_pos z]
        exact hk1 (Or.inl (n1.mpr z))
      · rw [if_neg z]
        obtain ⟨s1, s2⟩ := tT.sgn (v := 16) (w := 45) (Or.inr (Or.inr (Or.inr ⟨rfl, rfl⟩)))
        unfold wp_X14_isSign
        by_cases w : g9 0 8 = 4 ∧ g9 0 9 = 45
        · rw [if_neg (fun y => y w.1), if_neg (fun y => y w.2)]
          dsimp only
          rw [if_neg (by decide)]; exact hk1 (Or.inr (s1.mpr w))
        · have hk := hk0 (fun y => y.elim (fun u => z (n1.mp u)) (fun u => w (s1.mp u)))
          by_cases u : g9 0 8 = 4
          · rw [if_neg (fun y => y u), if_pos (fun y => w ⟨u, y⟩)]
            dsimp only
            rw [if_pos rfl]; exact hk
          · rw [if_pos u]
            dsimp only
            rw [if_pos rfl]; exact hk
  · left
    refine ⟨_, _, PBad.of hTn fcn frn hp e0, fun K hk => runC K (ct _ ?_), fun K hk => begR K (runR _ (rt _ ?_))⟩
    · rw [if_neg (by decide)]; exact hk
    · rw [if_neg (by decide), if_neg (by decide)]; exact hk
