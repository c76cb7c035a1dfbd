/-! ===== a whole law, read by both ===== -/
theorem tw_lawStep {B : Int → Int} {n : Int} {m : Nat} {q0 r0 qb rb : Mh} {P : Int} {a N H k : Nat} {q r : Mh} {v1 : Int} (h : LI B n m q0 r0 qb rb P a N H k q r) (hp : isP P) (eP : P = q0 46 1) (hb1 : qb 46 1 = P) (v0 : 0 < v1) (v8 : v1 ≤ 800) :
    (∃ q' r', PBad q0 r0 q' r' ∧ (∀ K : Int → Mh → Prop, K 0 q' → Lfp (F_X9_readLaw K) (50, [v1], q)) ∧ (∀ K : Int → Mh → Prop, K 0 r' → Lfp (F_X14_sumRead K) (25, [], r))) ∨
    (∃ (N' H' k' : Nat) (q' r' : Mh), LI B n m q0 r0 qb rb P a N' H' k' q' r' ∧ r' 0 69 = 0 ∧ r' 0 67 = 0 ∧ tpF (r' 26) N' < 1 ∧ (∀ K : Int → Mh → Prop, K 1 q' → Lfp (F_X9_readLaw K) (50, [v1], q)) ∧ (∀ K : Int → Mh → Prop, K 1 r' → Lfp (F_X14_sumRead K) (25, [], r))) ∨
    (a < m ∧ ∃ (N' H' k' : Nat) (q' r' : Mh), LI B n m q0 r0 qb rb P (a + 1) N' H' k' q' r' ∧ (∀ K : Int → Mh → Prop, Lfp (F_X9_readLaw K) (50, [v1 - 1], q') → Lfp (F_X9_readLaw K) (50, [v1], q)) ∧ (∀ K : Int → Mh → Prop, Lfp (F_X14_sumRead K) (25, [], r') → Lfp (F_X14_sumRead K) (25, [], r))) := by
  have hT := h.1
  have c5 : q 46 13 = r 0 67 := h.2.2.2.2.2.2.2.1.2.2.2.2.1
  have c6 : 0 ≤ r 0 67 := h.2.2.2.2.2.2.2.1.2.2.2.2.2.1
  have c11 : r 0 69 = 0 ∨ r 0 69 = 1 := h.2.2.2.2.2.2.2.1.2.2.2.2.2.2.2.2.2.2.1
  have c12 : q 46 15 = 1 - r 0 69 := h.2.2.2.2.2.2.2.1.2.2.2.2.2.2.2.2.2.2.2
  obtain ⟨s1, s2⟩ := hT.sgn (v := 21) (w := 59) (Or.inl ⟨rfl, rfl⟩)
  by_cases z : r 0 69 = 0 ∧ r 0 67 = 0 ∧ (q 49 8 = 4 ∧ q 49 10 = 21)
  · right; left
    obtain ⟨z1, z2, z3⟩ := z
    obtain ⟨N', H', k', q', r', li, l69, ltp, l67, l68, l49, l0, lC, lR⟩ := tw_rel (p := 1) hp eP hb1 (by decide) N H k q r h z1
    refine ⟨N', H', k', q', r', li, l69, by rw [l67]; exact z2, ltp, fun K hk => ?_, fun K hk => ?_⟩
    · apply L_X9_readLaw_50
      unfold B_X9_readLaw_50
      rw [if_neg (by omega)]
      unfold wp_X9_lawEnds
      rw [if_neg (by omega), if_neg (by omega)]
      refine yesSgnC z3 ?_
      rw [if_neg (by decide)]
      dsimp only
      rw [if_pos (by decide)]
      exact lC _ hk
    · apply L_X14_sumRead_25
      unfold B_X14_sumRead_25
      refine yesSgnR (s1.mp z3) ?_
      rw [if_neg (by decide), if_neg (by omega), if_pos (by omega)]
      exact lR _ hk
  · have begC : ∀ K : Int → Mh → Prop, (if q 46 15 = 0 then (wp_X9_readOperand q (fun x2 h4 => if ¬ x2 = 0 then (wp_X10_advance h4 (fun h5 => ∀ x3 : Int, x3 = w32 (v1 + (-1)) → Lfp (F_X9_readLaw K) (50, [x3], h5))) else (K 0 h4))) else (wp_X9_readBehindOperand q (fun x4 h6 => if x4 = 0 then (K 0 h6) else (wp_X10_advance h6 (fun h7 => ∀ x5 : Int, x5 = w32 (v1 + (-1)) → Lfp (F_X9_readLaw K) (50, [x5], h7)))))) → Lfp (F_X9_readLaw K) (50, [v1], q) := by
      intro K hk
      apply L_X9_readLaw_50
      unfold B_X9_readLaw_50
      rw [if_neg (by omega)]
      unfold wp_X9_lawEnds
      by_cases y1 : q 46 15 = 0
      · rw [if_pos y1]
        dsimp only
        rw [if_neg (by decide)]
        exact hk
      · rw [if_neg y1]
        by_cases y2 : q 46 13 = 0
        · rw [if_neg (fun u => u y2)]
          refine noSgnC (fun u => z ⟨by omega, by omega, u⟩) ?_
          rw [if_pos rfl]
          dsimp only
          rw [if_neg (by decide)]
          exact hk
        · rw [if_pos y2]
          dsimp only
          rw [if_neg (by decide)]
          exact hk
    have begR : ∀ K : Int → Mh → Prop, Lfp (F_X14_sumRead K) (48, [], r) → Lfp (F_X14_sumRead K) (25, [], r) := by
      intro K hk
      apply L_X14_sumRead_25
      unfold B_X14_sumRead_25
      by_cases y : q 49 8 = 4 ∧ q 49 10 = 21
      · refine yesSgnR (s1.mp y) ?_
        rw [if_neg (by decide)]
        by_cases y1 : r 0 69 = 0
        · rw [if_neg (fun u => u y1), if_neg (fun u => z ⟨y1, by omega, y⟩)]; exact hk
        · rw [if_pos y1]; exact hk
      · refine noSgnR (fun u => y (s1.mpr u)) ?_
        rw [if_pos rfl]; exact hk
    have wv : w32 (v1 + (-1)) = v1 - 1 := by rw [w32_eq (by omega) (by omega)]; omega
    rcases c11 with w0 | w1
    · have q15 : ¬ q 46 15 = 0 := by omega
      simp only [if_neg q15] at begC
      rcases tw_beh h hp eP hb1 w0 with ⟨q', r', pb, cc, rc⟩ | ⟨am, N', H', k', q1, r1, li, cc, rc⟩
      · left
        refine ⟨q', r', pb, fun K hk => begC K (cc _ ?_), fun K hk => begR K ?_⟩
        · rw [if_pos rfl]; exact hk
        · apply L_X14_sumRead_48
          unfold B_X14_sumRead_48
          rw [if_pos w0]
          refine rc _ ?_
          rw [if_neg (by decide)]; exact hk
      · right; right
        refine ⟨am, N', H', k', _, _, li.adv hp eP am, fun K hk => begC K (cc _ ?_), fun K hk => begR K ?_⟩
        · rw [if_neg (by decide)]
          refine li.1.runC ?_
          intro x5 e5
          rw [e5, wv]; exact hk
        · apply L_X14_sumRead_48
          unfold B_X14_sumRead_48
          rw [if_pos w0]
          refine rc _ ?_
          rw [if_pos (by decide)]; exact hk
    · have q15 : q 46 15 = 0 := by omega
      simp only [if_pos q15] at begC
      rcases tw_opd h hp eP hb1 w1 with ⟨q', r', pb, cc, rc⟩ | ⟨am, N', H', k', q1, r1, li, cc, rc⟩
      · left
        refine ⟨q', r', pb, fun K hk => begC K (cc _ ?_), fun K hk => begR K ?_⟩
        · rw [if_neg (by decide)]; exact hk
        · apply L_X14_sumRead_48
          unfold B_X14_sumRead_48
          rw [if_neg (by omega)]
          refine rc _ ?_
          rw [if_pos rfl]; exact hk
      · right; right
        refine ⟨am, N', H', k', _, _, li.adv hp eP am, fun K hk => begC K (cc _ ?_), fun K hk => begR K ?_⟩
        · rw [if_pos (by decide)]
          refine li.1.runC ?_
          intro x5 e5
          rw [e5, wv]; exact hk
        · apply L_X14_sumRead_48
          unfold B_X14_sumRead_48
          rw [if_neg (by omega)]
          refine rc _ ?_
          rw [if_neg (by decide)]; exact hk
theorem tw_laws {B : Int → Int} {n : Int} {m : Nat} {q0 r0 qb rb : Mh} {P : Int} (hp : isP P) (eP : P = q0 46 1) (hb1 : qb 46 1 = P) :
    ∀ (f a N H k : Nat) (q r : Mh) (v1 : Int), m - a ≤ f → (m : Int) - a < v1 → 0 < v1 → v1 ≤ 800 → LI B n m q0 r0 qb rb P a N H k q r →
    (∃ q' r', PBad q0 r0 q' r' ∧ (∀ K : Int → Mh → Prop, K 0 q' → Lfp (F_X9_readLaw K) (50, [v1], q)) ∧ (∀ K : Int → Mh → Prop, K 0 r' → Lfp (F_X14_sumRead K) (25, [], r))) ∨
    (∃ (a' N' H' k' : Nat) (q' r' : Mh), a ≤ a' ∧ LI B n m q0 r0 qb rb P a' N' H' k' q' r' ∧ r' 0 69 = 0 ∧ r' 0 67 = 0 ∧ tpF (r' 26) N' < 1 ∧ (∀ K : Int → Mh → Prop, K 1 q' → Lfp (F_X9_readLaw K) (50, [v1], q)) ∧ (∀ K : Int → Mh → Prop, K 1 r' → Lfp (F_X14_sumRead K) (25, [], r))) := by
  intro f
  induction f with
  | zero =>
    intro a N H k q r v1 hf hv v0 v8 h
    rcases tw_lawStep h hp eP hb1 v0 v8 with y | ⟨N', H', k', q', r', y⟩ | ⟨am, _⟩
    · exact Or.inl y
    · exact Or.inr ⟨a, N', H', k', q', r', Nat.le_refl _, y⟩
    · omega
  | succ f ih =>
    intro a N H k q r v1 hf hv v0 v8 h
    rcases tw_lawStep h hp eP hb1 v0 v8 with y | ⟨N', H', k', q', r', y⟩ | ⟨am, N', H', k', q', r', li, cc, rc⟩
    · exact Or.inl y
    · exact Or.inr ⟨a, N', H', k', q', r', Nat.le_refl _, y⟩
    · rcases ih (a + 1) N' H' k' q' r' (v1 - 1) (by omega) (by omega) (by omega) (by omega) li with ⟨q2, r2, pb, c2, r2'⟩ | ⟨a2, N2, H2, k2, q2, r2, aa, l1, l2, l3, l4, c2, r2'⟩
      · exact Or.inl ⟨q2, r2, pb, fun K hk => cc K (c2 K hk), fun K hk => rc K (r2' K hk)⟩
      · exact Or.inr ⟨a2, N2, H2, k2, q2, r2, by omega, l1, l2, l3, l4, fun K hk => cc K (c2 K hk), fun K hk => rc K (r2' K hk)⟩
theorem PP.law {Q R Q' R' : Mh} (h : PP Q R) (hl : RLaw Q' R') (qo : ∀ o, ¬ (Q 53 0 + 37 ≤ o ∧ o ≤ Q 53 0 + 39) → Q' o = Q o) (ro : ∀ o, ¬ o = 0 → ¬ (23 ≤ o ∧ o ≤ 25) → R' o = R o) (rj : ∀ j, ¬ j = 20 → ¬ j = 24 → R' 0 j = R 0 j) : PP Q' R' := by
  have hp := h.1.1.1
  unfold isP at hp
  obtain ⟨P, eP⟩ : ∃ P, P = Q 53 0 := ⟨_, rfl⟩
  rw [← eP] at hp qo
  have hw : wImp R R' := by
    intro x hx
    unfold watR at hx ⊢
    rw [rj 12 (by decide) (by decide), rj 13 (by decide) (by decide), ro 5 (by decide) (by decide)]
    exact hx
  obtain ⟨⟨hd, a1, a2, a3, a4, a5, a6⟩, b, d, e, f, g, i', j, l⟩ := h
  have p53 : Q' 53 = Q 53 := qo 53 (by omega)
  have q0 : Q' 53 0 = P := by rw [p53]; exact eP.symm
  rw [← eP] at f j l
  refine ⟨⟨?_, ?_, ?_, ?_, ?_, ?_, hl⟩, ?_, ?_, ?_, ?_, ?_, ?_, ?_, ?_⟩
  · unfold RDim prm at hd ⊢
    rw [p53, ← eP, qo P (by omega), qo 0 (by omega), rj 12 (by decide) (by decide), rj 13 (by decide) (by decide), rj 21 (by decide) (by decide), rj 22 (by decide) (by decide), rj 23 (by decide) (by decide), eP]
    exact hd
  · exact a1.cg (by rw [p53]) (fun o x y => qo o (by omega)) (rj 18 (by decide) (by decide)) (ro 8 (by decide) (by decide)) (ro 6 (by decide) (by decide)) (rj 77 (by decide) (by decide)) (ro 32 (by decide) (by decide)) (Or.inl hw)
  · exact a2.cg (by rw [p53]) (fun o x y => qo o (by omega)) (rj 14 (by decide) (by decide)) (ro 9 (by decide) (by decide)) (ro 10 (by decide) (by decide)) (ro 11 (by decide) (by decide)) (ro 12 (by decide) (by decide))
  · exact a3.cg (by rw [p53]) (fun o x y => qo o (by omega)) (rj 15 (by decide) (by decide)) (ro 13 (by decide) (by decide)) (ro 14 (by decide) (by decide)) (Or.inl hw)
  · exact a4.cg (by rw [p53]) (fun o x y => qo o (by omega)) (rj 16 (by decide) (by decide)) (ro 15 (by decide) (by decide)) (ro 16 (by decide) (by decide)) (Or.inl hw)
  · exact a5.cg (by rw [p53]) (fun o x y => qo o (by omega)) (rj 19 (by decide) (by decide)) (ro 20 (by decide) (by decide)) (ro 21 (by decide) (by decide)) (ro 22 (by decide) (by decide)) (Or.inl hw)
  · exact b.cn (by rw [p53]) (by rw [p53]) (by rw [← eP, qo P (by omega)]) (ro 5 (by decide) (by decide)) (rj 12 (by decide) (by decide)) (rj 13 (by decide) (by decide))
  · exact d.cg (fun o x y => qo o (by omega)) (rj 76 (by decide) (by decide)) (ro 17 (by decide) (by decide)) (ro 18 (by decide) (by decide)) (ro 19 (by decide) (by decide)) (by rw [rj 14 (by decide) (by decide)]; omega) (Or.inl hw)
  · rw [rj 76 (by decide) (by decide)]; exact e
  · rw [p53, ← eP, qo P (by omega), rj 34 (by decide) (by decide)]; exact f
  · rw [p53, rj 35 (by decide) (by decide)]; exact g
  · intro x x0 x1
    rw [ro 7 (by decide) (by decide), free.cg (rj 15 (by decide) (by decide)) (ro 14 (by decide) (by decide)) (rj 16 (by decide) (by decide)) (ro 16 (by decide) (by decide)) (rj 76 (by decide) (by decide)) (ro 18 (by decide) (by decide)) (rj 19 (by decide) (by decide)) (ro 21 (by decide) (by decide)) (ro 22 (by decide) (by decide)) x]
    exact i' x x0 x1
  · rw [q0, rj 14 (by decide) (by decide)]
    intro u t0 t1
    have := a2.1.2.1
    rw [qo _ (by omega)]
    exact j u t0 t1
  · rw [q0, rj 19 (by decide) (by decide)]
    intro u t0 t1
    have := a5.1.2.1
    rw [qo _ (by omega)]
    exact l u t0 t1
theorem rv_keep38 {r s : Mh} {j : Int} (h3 : s 3 = r 3) (h0 : ∀ k, 25 ≤ k → k ≤ 38 → ¬ k = 36 → ¬ k = 37 → ¬ k = 33 → ¬ k = 38 → s 0 k = r 0 k) (t1 : ¬ j = 20) (t4 : ¬ j = 24) : rv s 0 j = rv r 0 j := by
  have e1 : rv (up s 0 38 (r 0 38)) 0 j = rv r 0 j := by
    refine rv_keep0 (t := 33) (by rw [up_other (by decide)]; exact h3) (fun k a b c d e => ?_) (fun u v => by omega) (fun u => by decide) (fun u => by decide) (fun u => by decide) (fun u => by omega)
    by_cases z : k = 38
    · rw [z, up_self]
    · rw [up_slot z]; exact h0 k a b c d e z
  rw [← e1]
  exact (rv_keep0 (t := 38) (by rw [up_other (by decide)]) (fun k a b c d e => by rw [up_slot e]) (fun u v => by omega) (fun u => by decide) (fun u => by decide) (fun u => absurd u t4) (fun u => by omega)).symm
theorem tw_lawline {B : Int → Int} {n : Int} {m a : Nat} {q0 r0 q r : Mh} (h : PR B n m a q0 r0 q r) (h8 : r 0 8 = 1) (h9 : r 0 9 = 11) : LineOut (wp_X9_readLaw q) B n m a q0 r0 r := by
  have am := h.am h8
  have hp0 := h.p0
  have h' := h
  obtain ⟨hT, hF, hPP, hE, hc, hr⟩ := h
  have hP : q 46 1 = q0 46 1 := hc.1
  obtain ⟨P, eP⟩ : ∃ P, P = q0 46 1 := ⟨_, rfl⟩
  have hp00 := hp0
  rw [← eP] at hP hp0
  have sP := shC_P hp0
  have hq := hp0
  unfold isP at hq
  have gP : ∀ o, P ≤ o → o ≤ P + 39 → qv q o = q o := fun o x y => qv_get (by rw [hP]; exact hp0) (by omega) (by omega)
  have qv0 : qv q 53 0 = P := by rw [qv_0]; exact hP
  have hlw := hPP.1.2.2.2.2.2.2
  unfold RLaw at hlw
  rw [qv0, gP (P + 37) (by omega) (by omega)] at hlw
  have l1 : q (P + 37) 4 = r 0 33 := hlw.1
  have l2 : r 0 38 = 0 ↔ r 0 33 = 0 := hlw.2.2.2.1
  have begL : ∀ K : Int → Mh → Prop, (if (r 0 38) = 0 then (∀ h20 : Mh, h20 = up r 0 38 1 → wp_X14_token h20 (fun h21 => wp_X14_sumRead h21 (fun x14 h22 => Lfp (F_X14_lineRead K) (458, [x14], h22)))) else (wp_X14_wrong 3 r (fun x15 h23 => K x15 h23))) → wp_X14_lineRead r K := by
    intro K hk
    unfold wp_X14_lineRead
    rw [h8, h9, if_neg (by decide), if_pos (by decide), if_neg (by decide), if_neg (by decide), if_neg (by decide), if_neg (by decide), if_neg (by decide), if_neg (by decide), if_neg (by decide), if_neg (by decide), if_neg (by decide), if_neg (by decide), if_neg (by decide), if_pos (by decide)]
    exact hk
  by_cases told : r 0 38 = 0
  · have k0 : r 0 33 = 0 := l2.mp told
    have c0 : r 0 68 = 0 := hF.2.2.2.2.2.2.2.2.2.2 told
    obtain ⟨qa, eqa⟩ : ∃ qa, qa = up (up (up (up q 46 12 0) 46 13 0) 46 14 0) 46 15 0 := ⟨_, rfl⟩
    obtain ⟨ra, era⟩ : ∃ ra, ra = up r 0 38 1 := ⟨_, rfl⟩
    have hTa : PTok B n m a qa ra := by rw [eqa, era]; exact ((((hT.upC (by decide)).upC (by decide)).upC (by decide)).upC (by decide)).up11 (by omega)
    obtain ⟨qb, eqb⟩ : ∃ qb, qb = advC qa := ⟨_, rfl⟩
    obtain ⟨rb, erb⟩ : ∃ rb, rb = up (up (up (up (up (tokR ra) 0 65 0) 0 66 0) 0 67 0) 0 69 1) 0 70 1 := ⟨_, rfl⟩
    have hTb : PTok B n m (a + 1) qb rb := by
      rw [eqb, erb]
      exact (((((hTa.step am).up11 (by omega)).up11 (by omega)).up11 (by omega)).up11 (by omega)).up11 (by omega)
    have qbo : ∀ o, ¬ o = 46 → ¬ o = 49 → qb o = q o := fun o y z => by rw [eqb, advC_o z, eqa, up_other y, up_other y, up_other y, up_other y]
    have qbj : ∀ j, ¬ (12 ≤ j ∧ j ≤ 15) → qb 46 j = q 46 j := fun j y => by rw [eqb, advC_o (by decide), eqa, up_slot (by omega), up_slot (by omega), up_slot (by omega), up_slot (by omega)]
    have qb1 : qb 46 1 = P := by rw [qbj 1 (by decide)]; exact hP
    have rbo : ∀ o, ¬ o = 0 → rb o = r o := fun o y => by rw [erb, up_other y, up_other y, up_other y, up_other y, up_other y, tokR_o y, era, up_other y]
    have rbj : ∀ j, ¬ (7 ≤ j ∧ j ≤ 10) → ¬ j = 38 → ¬ (65 ≤ j ∧ j ≤ 67) → ¬ (69 ≤ j ∧ j ≤ 70) → rb 0 j = r 0 j := fun j y z w u => by rw [erb, up_slot (by omega), up_slot (by omega), up_slot (by omega), up_slot (by omega), up_slot (by omega), tokR_j y, era, up_slot z]
    have rb38 : rb 0 38 = 1 := by rw [erb, up_slot (by decide), up_slot (by decide), up_slot (by decide), up_slot (by decide), up_slot (by decide), tokR_j (by omega), era, up_self]
    have rb67 : rb 0 67 = 0 := by rw [erb, up_slot (by decide), up_slot (by decide), up_self]
    have rb69 : rb 0 69 = 1 := by rw [erb, up_slot (by decide), up_self]
    have rb68 : rb 0 68 = 0 := by rw [rbj 68 (by decide) (by decide) (by decide) (by decide)]; exact c0
    have fcb : fxC q0 qb := by rw [eqb, eqa]; exact fxC_adv (fxC_up (fxC_up (fxC_up (fxC_up hc (Or.inl (by omega)) hp00) (Or.inl (by omega)) hp00) (Or.inl (by omega)) hp00) (Or.inl (by omega)) hp00) hp00
    have frb : fxR r0 rb := by rw [erb, era]; exact fxR_0 (fxR_0 (fxR_0 (fxR_0 (fxR_0 (fxR_tok (fxR_0 hr (by omega))) (by omega)) (by omega)) (by omega)) (by omega)) (by omega)
    have li0 : LI B n m q0 r0 qb rb P (a + 1) 0 0 0 qb rb := by
      refine ⟨hTb, fcb, frb, fun _ _ _ => rfl, fun _ _ => rfl, fun _ _ _ => rfl, fun _ _ _ _ => rfl, ⟨?_, ?_, ?_, ?_, ?_, by rw [rb67]; decide, by rw [rb67]; decide, ?_, by rw [rb68]; decide, by rw [rb68]; decide, Or.inr rb69, ?_⟩, fun j x y => by omega, ?_, ?_, ?_, ?_, ?_⟩
      · rw [eqb, advC_o (by decide), eqa, up_slot (by decide), up_slot (by decide), up_slot (by decide), up_self]; rfl
      · rw [erb, up_slot (by decide), up_slot (by decide), up_slot (by decide), up_slot (by decide), up_self]; rfl
      · rw [erb, up_slot (by decide), up_slot (by decide), up_slot (by decide), up_self]; rfl
      · rw [rbj 33 (by decide) (by decide) (by decide) (by decide), k0]; rfl
      · rw [eqb, advC_o (by decide), eqa, up_slot (by decide), up_slot (by decide), up_self, rb67]
      · rw [eqb, advC_o (by decide), eqa, up_slot (by decide), up_self, rb68]
      · rw [eqb, advC_o (by decide), eqa, up_self, rb69]; decide
      · rw [rb67]; rfl
      · rw [rb69]; rfl
      · rw [rb67, rb68]; rfl
      · intro _
        rw [erb, up_self]
        exact ⟨fun u => absurd u (by decide), fun u => absurd (show (3 : Int) < 0 from u) (by decide)⟩
      · refine ⟨by rw [qbo _ (by omega) (by omega), l1, k0]; rfl, fun _ => [], rfl, fun i hi => absurd hi (Nat.not_lt_zero _), rfl⟩
    have m8 : (m : Int) ≤ 800 := by
      have := hT.1.2.2.1
      have := hT.1.2.2.2.2.1
      omega
    have begC : ∀ K : Int → Mh → Prop, Lfp (F_X9_readLaw K) (50, [800], qb) → wp_X9_readLaw q K := by
      intro K hk
      unfold wp_X9_readLaw wp_X3_isEmpty
      rw [hP]
      refine ⟨sP, ?_⟩
      rw [l1, if_neg (fun y => y k0)]
      dsimp only
      rw [if_pos (by decide)]
      intro g2 e2 g3 e3 g4 e4 g5 e5
      rw [e5, e4, e3, e2, ← eqa]
      refine hTa.runC ?_
      rw [← eqb]; exact hk
    have begR : ∀ K : Int → Mh → Prop, Lfp (F_X14_sumRead (fun x14 h22 => Lfp (F_X14_lineRead K) (458, [x14], h22))) (25, [], rb) → wp_X14_lineRead r K := by
      intro K hk
      refine begL K ?_
      rw [if_pos told]
      intro g20 e20
      rw [e20, ← era]
      refine hTa.runR ?_
      unfold wp_X14_sumRead
      intro g1 e1 g2 e2 g3 e3 g4 e4 g5 e5
      rw [e5, e4, e3, e2, e1, ← erb]; exact hk
    rcases tw_laws hp0 eP qb1 (m - (a + 1)) (a + 1) 0 0 0 qb rb 800 (Nat.le_refl _) (by omega) (by decide) (by decide) li0 with ⟨q', r', pb, cc, rc⟩ | ⟨a', N', H', k', q', r', aa, li, l69, l67, ltp, cc, rc⟩
    · left
      exact ⟨q', r', pb, fun K hk => begC K (cc K hk), fun K hk => begR K (rc _ (run_458_0 hk))⟩
    · right
      obtain ⟨hT', hc', hr', f1, f2, f3, f4, ⟨c1, c2, c3, c4, c5, c6, c7, c8, c9, c10, c11, c12⟩, st, zc, bc, sum, mn, kn⟩ := li
      have N0 : N' = 0 := by
        cases N' with
        | zero => rfl
        | succ N2 =>
          exfalso
          have t1 : rkF (r' 26 (N2 : Int)) < 1 := ltp
          have t2 := rkF_0 (st N2 (by omega) (by omega)).1
          have t3 : r' 26 (N2 : Int) = 0 := t2.2.2.1.mp (by omega)
          have zc' : zcn (r' 26) N2 + (if r' 26 (N2 : Int) = 0 then 1 else 0) = r' 0 67 := zc
          rw [if_pos t3] at zc'
          have := zcn_r (r' 26) N2
          omega
      have H1 : H' = 1 := by
        rw [N0, l69] at bc
        have : bnn (r' 26) 0 = 0 := rfl
        omega
      rw [H1] at kn
      have q'1 : q' 46 1 = P := by rw [f2 1 (by decide)]; exact qb1
      have q'o : ∀ o, ¬ (46 ≤ o ∧ o ≤ 49) → ¬ (P + 37 ≤ o ∧ o ≤ P + 39) → q' o = q o := fun o y z => by rw [f1 o y z, qbo o (by omega) (by omega)]
      have g' : ∀ o, P ≤ o → o ≤ P + 39 → qv q' o = q' o := fun o x y => qv_get (by rw [q'1]; exact hp0) (by omega) (by omega)
      have qv0' : qv q' 53 0 = P := by rw [qv_0]; exact q'1
      have r'o : ∀ o, ¬ o = 0 → ¬ (23 ≤ o ∧ o ≤ 27) → r' o = r o := fun o y z => by rw [f3 o y z, rbo o y]
      have r'j : ∀ j, ¬ (7 ≤ j ∧ j ≤ 11) → ¬ j = 33 → ¬ (65 ≤ j ∧ j ≤ 70) → ¬ j = 38 → r' 0 j = r 0 j := fun j y z w u => by rw [f4 j y z w, rbj j (by omega) u (by omega) (by omega)]
      have r'38 : r' 0 38 = 1 := by rw [f4 38 (by decide) (by decide) (by decide)]; exact rb38
      have kpos : 0 < k' := by
        obtain ⟨_, sk, s0, _, s2⟩ := kn
        cases k' with
        | zero =>
          rw [s0] at s2
          exact absurd s2 (by simp [hl])
        | succ _ => omega
      have rl : RLaw (qv q') (rv r') := by
        obtain ⟨s1, sk, s0, s2, s3⟩ := kn
        have e20 : rv r' 0 20 = k' := c4
        have e24 : rv r' 0 24 = 1 := r'38
        unfold RLaw
        rw [qv0', g' (P + 37) (by omega) (by omega), e20, e24]
        refine ⟨s1, by omega, by omega, ⟨fun u => absurd u (by decide), fun u => by omega⟩, sk, s0, ?_, ?_⟩
        · intro i hi
          have := s2 i (by omega)
          unfold knotOK
          rw [qv0', g' (P + 38) (by omega) (by omega), g' (P + 39) (by omega) (by omega)]
          exact this
        · intro _
          rw [Int.toNat_natCast, s3]
          exact ⟨_, rfl⟩
      have pp : PP (qv q') (rv r') := by
        refine hPP.law rl ?_ ?_ ?_
        · intro o x
          rw [qv0] at x
          exact qv_keep hp0 hP q'1 (fun u w => q'o o (by omega) (by omega)) (fun u w => q'o _ (by omega) (by omega)) (fun u => by rw [q'o P (by omega) (by omega)])
        · intro o x y
          exact rv_keep x (fun u w => r'o o x (by omega)) (fun u => r'o 8 (by decide) (by decide))
        · intro j x y
          exact rv_keep38 (r'o 3 (by decide) (by decide)) (fun k a b c d e f => r'j k (by omega) e (by omega) f) x y
      refine ⟨a', q', r', by omega, ⟨hT', ?_, pp, ?_, hc', hr'⟩, fun K hk => begC K (cc K hk), fun K hk => begR K (rc _ hk)⟩
      · obtain ⟨b1, b2, b3, b4, b5, b6, b7, b8, b9, b10, b11⟩ := hF
        have k1 : ∀ j, ¬ (12 ≤ j ∧ j ≤ 15) → q' 46 j = q 46 j := fun j y => by rw [f2 j y, qbj j y]
        unfold PFlag
        rw [k1 1 (by decide), k1 2 (by decide), k1 3 (by decide), k1 5 (by decide), k1 6 (by decide), k1 7 (by decide), k1 8 (by decide), k1 9 (by decide), r'j 4 (by decide) (by decide) (by decide) (by decide), r'j 5 (by decide) (by decide) (by decide) (by decide), r'j 36 (by decide) (by decide) (by decide) (by decide), r'j 37 (by decide) (by decide) (by decide) (by decide), r'o 4 (by decide) (by decide), r'38]
        exact ⟨b1, b2, b3, b4, b5, b6, b7, b8, b9, b10, fun u => absurd u (by decide)⟩
      · intro y
        rw [r'j 37 (by decide) (by decide) (by decide) (by decide)] at y
        have he := hE y
        refine he.cg ?_ ?_ ?_ ?_ ?_
        · rw [qv0', qv0]
        · rw [qv_1 q'1, qv_1 hP, q'o P (by omega) (by omega)]
        · rw [qv0, g' P (by omega) (by omega), gP P (by omega) (by omega), q'o P (by omega) (by omega)]
        · intro j j0 j1
          exact rv_keep38 (r'o 3 (by decide) (by decide)) (fun k a b c d e f => r'j k (by omega) e (by omega) f) (by omega) (by omega)
        · exact rv_keep38 (r'o 3 (by decide) (by decide)) (fun k a b c d e f => r'j k (by omega) e (by omega) f) (by decide) (by decide)
  · left
    refine ⟨_, _, PBad.of hT hc hr hp00 (e := 3) (by decide), fun K hk => ?_, fun K hk => begL K ?_⟩
    · unfold wp_X9_readLaw wp_X3_isEmpty
      rw [hP]
      refine ⟨sP, ?_⟩
      rw [l1, if_pos (fun y => told (l2.mpr y))]
      dsimp only
      rw [if_neg (by decide)]
      exact run_refuse hk
    · rw [if_neg told]
      exact run_wrong hk
