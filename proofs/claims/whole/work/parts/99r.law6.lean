theorem LI.close {B : Int → Int} {n : Int} {m : Nat} {q0 r0 qb rb : Mh} {P : Int} {a N H k : Nat} {q r : Mh} (h : LI B n m q0 r0 qb rb P a (N + 1) H k q r) (hp : isP P) (eP : P = q0 46 1) (h69 : r 0 69 = 0) (h0 : r 26 (N : Int) = 0) (h67 : 0 < r 0 67) :
    LI B n m q0 r0 qb rb P a N H k (up (up q 46 13 (r 0 67 - 1)) 46 12 N) (up (up r 0 65 N) 0 67 (r 0 67 - 1)) := by
  have hp0 : isP (q0 46 1) := by rw [← eP]; exact hp
  have hq := hp
  unfold isP at hq
  obtain ⟨hT, hc, hr, f1, f2, f3, f4, ⟨c1, c2, c3, c4, c5, c6, c7, c8, c9, c10, c11, c12⟩, st, zc, bc, sum, mn, kn⟩ := h
  obtain ⟨q', eq'⟩ : ∃ q', q' = up (up q 46 13 (r 0 67 - 1)) 46 12 N := ⟨_, rfl⟩
  obtain ⟨r', er'⟩ : ∃ r', r' = up (up r 0 65 N) 0 67 (r 0 67 - 1) := ⟨_, rfl⟩
  rw [← eq', ← er']
  have qo : ∀ o, ¬ o = 46 → q' o = q o := fun o y => by rw [eq', up_other y, up_other y]
  have qj : ∀ j, ¬ j = 12 → ¬ j = 13 → q' 46 j = q 46 j := fun j y z => by rw [eq', up_slot y, up_slot z]
  have ro : ∀ o, ¬ o = 0 → r' o = r o := fun o y => by rw [er', up_other y, up_other y]
  have rj : ∀ j, ¬ j = 65 → ¬ j = 67 → r' 0 j = r 0 j := fun j y z => by rw [er', up_slot z, up_slot y]
  have r67 : r' 0 67 = r 0 67 - 1 := by rw [er', up_self]
  have zc' : zcn (r 26) N + (if r 26 (N : Int) = 0 then 1 else 0) = r 0 67 := zc
  have bc' : bnn (r 26) N + (if 3 ≤ r 26 (N : Int) then 1 else 0) + (1 - r 0 69) = H := bc
  rw [if_pos h0] at zc'
  rw [if_neg (by omega)] at bc'
  refine ⟨?_, ?_, ?_, fun o y z => by rw [qo o (by omega), f1 o y z], fun j y => by rw [qj j (by omega) (by omega), f2 j y], fun o y z => by rw [ro o y, f3 o y z], fun j y z w => by rw [rj j (by omega) (by omega), f4 j y z w], ⟨?_, ?_, by rw [rj 66 (by decide) (by decide)]; exact c3, by rw [rj 33 (by decide) (by decide)]; exact c4, ?_, by rw [r67]; omega, by rw [r67]; omega, by rw [qj 14 (by decide) (by decide), rj 68 (by decide) (by decide)]; exact c8, by rw [rj 68 (by decide) (by decide)]; exact c9, by rw [rj 68 (by decide) (by decide)]; exact c10, by rw [rj 69 (by decide) (by decide)]; exact c11, by rw [qj 15 (by decide) (by decide), rj 69 (by decide) (by decide)]; exact c12⟩, ?_, ?_, ?_, ?_, ?_, ?_⟩
  · rw [eq', er']; exact (((hT.upC (by decide)).upC (by decide)).up11 (by omega)).up11 (by omega)
  · rw [eq']; exact fxC_up (fxC_up hc (Or.inl (by omega)) hp0) (Or.inl (by omega)) hp0
  · rw [er']; exact fxR_0 (fxR_0 hr (by omega)) (by omega)
  · rw [eq', up_self]
  · rw [er', up_slot (by decide), up_self]
  · rw [eq', up_slot (by decide), up_self, r67]
  · intro j j0 j1
    rw [ro 26 (by decide), qo 47 (by decide), qo 48 (by decide)]
    exact st j j0 (by omega)
  · rw [ro 26 (by decide), r67]; omega
  · rw [ro 26 (by decide), rj 69 (by decide) (by decide)]; omega
  · rw [r67, rj 68 (by decide) (by decide)]; omega
  · intro y
    rw [rj 69 (by decide) (by decide), h69] at y
    exact absurd y (by decide)
  · rw [ro 27 (by decide)]
    exact kn.same (fun o y z => qo o (by omega)) (fun o y z => ro o (by omega))
theorem tw_beh {B : Int → Int} {n : Int} {m : Nat} {q0 r0 qb rb : Mh} {P : Int} {a N H k : Nat} {q r : Mh} (h : LI B n m q0 r0 qb rb P a N H k q r) (hp : isP P) (eP : P = q0 46 1) (hb1 : qb 46 1 = P) (h69 : r 0 69 = 0) :
    (∃ q' r', PBad q0 r0 q' r' ∧ (∀ K : Int → Mh → Prop, K 0 q' → wp_X9_readBehindOperand q K) ∧ (∀ K : Int → Mh → Prop, K 0 r' → wp_X14_signs r K)) ∨
    (a < m ∧ ∃ (N' H' k' : Nat) (q1 r1 : Mh), LI B n m q0 r0 qb rb P a N' H' k' q1 r1 ∧ (∀ K : Int → Mh → Prop, K 1 q1 → wp_X9_readBehindOperand q K) ∧ (∀ K : Int → Mh → Prop, K 1 (tokR r1) → wp_X14_signs r K)) := by
  have hp0 : isP (q0 46 1) := by rw [← eP]; exact hp
  have hq := hp
  unfold isP at hq
  have hT := h.1
  have hc := h.2.1
  have hr := h.2.2.1
  have c5 : q 46 13 = r 0 67 := h.2.2.2.2.2.2.2.1.2.2.2.2.1
  have c6 : 0 ≤ r 0 67 := h.2.2.2.2.2.2.2.1.2.2.2.2.2.1
  obtain ⟨s1, s2⟩ := hT.sgn (v := 20) (w := 41) (Or.inr (Or.inr (Or.inl ⟨rfl, rfl⟩)))
  obtain ⟨h5, cd, goC, hcd⟩ := hT.oper
  by_cases z1 : q 49 8 = 4 ∧ q 49 10 = 20
  · have am := s2 z1
    have y1 := s1.mp z1
    by_cases z : 0 < r 0 67
    · right
      obtain ⟨N', H', k', q', r', li, l69, ltp, l67, l68, l49, l0, lC, lR⟩ := tw_rel (p := 1) hp eP hb1 (by decide) N H k q r h h69
      obtain ⟨N2, eN, e0⟩ := tpF_r li ltp (by rw [l67]; exact z)
      rw [eN] at li
      have li2 := li.close hp eP l69 e0 (by rw [l67]; exact z)
      have d1 : q' 46 12 = ((N2 + 1 : Nat) : Int) := li.2.2.2.2.2.2.2.1.1
      have d2 : r' 0 65 = ((N2 + 1 : Nat) : Int) := li.2.2.2.2.2.2.2.1.2.1
      have d5 : q' 46 13 = r' 0 67 := li.2.2.2.2.2.2.2.1.2.2.2.2.1
      have d7 : r' 0 67 ≤ 8 := li.2.2.2.2.2.2.2.1.2.2.2.2.2.2.1
      have N72 : N2 + 1 ≤ 96 := by
        have := li.2.2.2.2.2.2.2.2.2.2.2.1
        have := li.2.2.2.2.2.2.2.1.2.2.2.2.2.2.2.2.2.1
        omega
      refine ⟨am, _, _, _, _, _, li2, fun K hk => ?_, fun K hk => ?_⟩
      · unfold wp_X9_readBehindOperand
        refine yesSgnC z1 ?_
        rw [if_neg (by decide)]
        unfold wp_X9_readClose
        rw [if_pos (by omega)]
        refine lC _ ?_
        rw [d5, w32_eq (by omega) (by omega)]
        intro h2 e2
        have e12 : h2 46 12 = ((N2 + 1 : Nat) : Int) := by rw [e2, up_slot (by decide)]; exact d1
        rw [e12, w32_eq (by omega) (by omega), if_neg (by omega), show (((N2 + 1 : Nat) : Int) - 1) = N2 by omega]
        intro h3 e3
        rw [e3, e2]; exact hk
      · unfold wp_X14_signs
        refine yesSgnR y1 ?_
        rw [if_neg (by decide), if_neg (by omega)]
        refine lR _ ?_
        rw [d2, w32_eq (by omega) (by omega), show (((N2 + 1 : Nat) : Int) - 1) = N2 by omega]
        intro h3 e3
        have e67 : h3 0 67 = r' 0 67 := by rw [e3, up_slot (by decide)]
        rw [e67, w32_eq (by omega) (by omega)]
        intro h4 e4
        rw [e4, e3]
        exact li2.1.runR hk
    · left
      refine ⟨_, _, PBad.of hT hc hr hp0 (e := 1) (by decide), fun K hk => ?_, fun K hk => ?_⟩
      · unfold wp_X9_readBehindOperand
        refine yesSgnC z1 ?_
        rw [if_neg (by decide)]
        unfold wp_X9_readClose
        rw [if_neg (by omega)]
        exact run_refuse hk
      · unfold wp_X14_signs
        refine yesSgnR y1 ?_
        rw [if_neg (by decide), if_pos (by omega)]
        refine run_47 h5 ?_
        rw [y1.1, y1.2, show xF 4 41 = 0 by decide]
        apply L_X14_signs_147
        unfold B_X14_signs_147
        rw [if_neg (fun y => y rfl)]
        exact run_wrong hk
  · have begR : ∀ K : Int → Mh → Prop, Lfp (F_X14_signs K) (147, [xF (r 0 8) (r 0 9)], r) → wp_X14_signs r K := by
      intro K hk
      unfold wp_X14_signs
      refine noSgnR (fun y => z1 (s1.mpr y)) ?_
      rw [if_pos rfl]
      exact run_47 h5 hk
    rcases hcd with ⟨x0, cdr⟩ | ⟨am, x3, x14, ecd⟩
    · left
      refine ⟨_, _, PBad.of hT hc hr hp0 (e := 1) (by decide), fun K hk => goC K z1 ?_, fun K hk => begR K ?_⟩
      · apply L_X9_readBehindOperand_42
        unfold B_X9_readBehindOperand_42
        by_cases y : cd < 7
        · rw [if_pos y]; exact run_refuse hk
        · rw [if_neg y, if_neg (by omega)]; exact run_refuse hk
      · rw [x0]
        apply L_X14_signs_147
        unfold B_X14_signs_147
        rw [if_neg (fun y => y rfl)]
        exact run_wrong hk
    · obtain ⟨x, ex⟩ : ∃ x, x = xF (r 0 8) (r 0 9) := ⟨_, rfl⟩
      rw [← ex] at x3 x14 ecd begR
      have cr := cdk_r x3 x14
      have rk := rkF_0 (k := x) (Or.inr ⟨by omega, x14⟩)
      have rk1 : 1 ≤ rkF x := by
        have : ¬ rkF x = 0 := fun y => by have := rk.2.2.1.mp y; omega
        omega
      obtain ⟨p, ep⟩ : ∃ p, p = if rkF x = 4 then 5 else rkF x := ⟨_, rfl⟩
      have p1 : 1 ≤ p := by rw [ep]; split <;> omega
      obtain ⟨N', H', k', q', r', li, l69, ltp, l67, l68, l49, l0, lC, lR⟩ := tw_rel (p := p) hp eP hb1 p1 N H k q r h h69
      have li' := li
      obtain ⟨hT', hc', hr', f1, f2, f3, f4, ⟨c1, c2, c3, c4, c5', c6', c7, c8, c9, c10, c11, c12⟩, st, zc, bc, sum, mn, kn⟩ := li
      have zr := zcn_r (r' 26) N'
      have goC2 : ∀ K : Int → Mh → Prop, (if ¬ rkF x = 4 then Lfp (F_X9_readBehindOperand K) (99, [cd, rkF x], q') else if ¬ tpF (r' 26) N' = 4 then Lfp (F_X9_readBehindOperand K) (99, [cd, rkF x], q') else K 0 (rfC 1 q')) → wp_X9_readBehindOperand q K := by
        intro K hk
        refine goC K z1 ?_
        have l77 : Lfp (F_X9_readBehindOperand K) (77, [cd, rkF x, p], q) := by
          apply L_X9_readBehindOperand_77
          unfold B_X9_readBehindOperand_77
          refine lC _ ?_
          by_cases y : rkF x = 4
          · rw [if_neg (fun u => u y)] at hk ⊢
            refine run_top c1 (by omega) (fun j j0 j1 => (st j j0 j1).2.2) ?_
            by_cases w : tpF (r' 26) N' = 4
            · rw [if_neg (fun u => u w)] at hk ⊢
              exact run_refuse hk
            · rw [if_pos w] at hk ⊢
              exact hk
          · rw [if_pos y] at hk ⊢
            exact hk
        apply L_X9_readBehindOperand_42
        unfold B_X9_readBehindOperand_42
        rw [if_neg (by omega), if_pos (by omega)]
        rw [ecd]
        refine run_rankOf x3 x14 ?_
        rw [← ecd]
        by_cases y : rkF x = 4
        · rw [if_neg (fun u => u y)]
          rw [if_pos y] at ep
          rw [← ep]; exact l77
        · rw [if_pos y]
          rw [if_neg y] at ep
          rw [ep] at l77; exact l77
      have goR2 : ∀ K : Int → Mh → Prop, (if ¬ rkF x = 4 then Lfp (F_X14_signs K) (217, [x], r') else if ¬ tpF (r' 26) N' = 4 then Lfp (F_X14_signs K) (217, [x], r') else K 0 (wgR 1 r')) → wp_X14_signs r K := by
        intro K hk
        refine begR K ?_
        have l175 : Lfp (F_X14_signs K) (175, [x, p], r) := by
          apply L_X14_signs_175
          unfold B_X14_signs_175
          refine lR _ ?_
          refine run_rank ?_
          by_cases y : rkF x = 4
          · rw [if_neg (fun u => u y)] at hk ⊢
            cases N' with
            | zero =>
              rw [if_pos (show ¬ tpF (r' 26) 0 = 4 from fun u => absurd (show (0 : Int) = 4 from u) (by decide))] at hk
              rw [c2, if_pos (by decide)]; exact hk
            | succ N2 =>
              rw [c2, if_neg (by omega), w32_eq (by omega) (by omega), show (((N2 + 1 : Nat) : Int) - 1) = N2 by omega]
              refine ⟨⟨by omega, by omega⟩, ?_⟩
              refine run_rank ?_
              have et : tpF (r' 26) (N2 + 1) = rkF (r' 26 (N2 : Int)) := rfl
              rw [et] at hk
              by_cases w : rkF (r' 26 (N2 : Int)) = 4
              · rw [if_neg (fun u => u w)] at hk ⊢
                exact run_wrong hk
              · rw [if_pos w] at hk ⊢
                exact hk
          · rw [if_pos y] at hk ⊢
            exact hk
        apply L_X14_signs_147
        unfold B_X14_signs_147
        rw [if_pos (by omega)]
        refine run_rank ?_
        by_cases y : rkF x = 4
        · rw [if_neg (fun u => u y)]
          rw [if_pos y] at ep
          rw [← ep]; exact l175
        · rw [if_pos y]
          rw [if_neg y] at ep
          refine run_rank ?_
          rw [← ep]; exact l175
      by_cases bad : rkF x = 4 ∧ tpF (r' 26) N' = 4
      · left
        refine ⟨_, _, PBad.of hT' hc' hr' hp0 (e := 1) (by decide), fun K hk => goC2 K ?_, fun K hk => goR2 K ?_⟩
        · rw [if_neg (fun u => u bad.1), if_neg (fun u => u bad.2)]; exact hk
        · rw [if_neg (fun u => u bad.1), if_neg (fun u => u bad.2)]; exact hk
      · have goC3 : ∀ K : Int → Mh → Prop, Lfp (F_X9_readBehindOperand K) (99, [cd, rkF x], q') → wp_X9_readBehindOperand q K := by
          intro K hk
          refine goC2 K ?_
          by_cases y : rkF x = 4
          · rw [if_neg (fun u => u y), if_pos (fun w => bad ⟨y, w⟩)]; exact hk
          · rw [if_pos y]; exact hk
        have goR3 : ∀ K : Int → Mh → Prop, Lfp (F_X14_signs K) (217, [x], r') → wp_X14_signs r K := by
          intro K hk
          refine goR2 K ?_
          by_cases y : rkF x = 4
          · rw [if_neg (fun u => u y), if_pos (fun w => bad ⟨y, w⟩)]; exact hk
          · rw [if_pos y]; exact hk
        by_cases t : r' 0 68 < 64
        · right
          obtain ⟨mv, emv⟩ : ∃ mv : Int, mv = if 3 ≤ rkF x then 0 else 1 := ⟨_, rfl⟩
          obtain ⟨qn, eqn⟩ : ∃ qn, qn = up (up (up (up (up q' 46 15 0) 46 14 (r' 0 68 + 1)) 47 N' cd) 48 N' (rkF x)) 46 12 (N' + 1) := ⟨_, rfl⟩
          obtain ⟨rn, ern⟩ : ∃ rn, rn = up (up (up (up (up r' 0 68 (r' 0 68 + 1)) 26 N' x) 0 65 (N' + 1)) 0 69 1) 0 70 mv := ⟨_, rfl⟩
          have r67 : rn 0 67 = r' 0 67 := by rw [ern, up_slot (by decide), up_slot (by decide), up_slot (by decide), up_other (by decide), up_slot (by decide)]
          have r68 : rn 0 68 = r' 0 68 + 1 := by rw [ern, up_slot (by decide), up_slot (by decide), up_slot (by decide), up_other (by decide), up_self]
          have hTn : PTok B n m a qn rn := by
            rw [eqn, ern]
            exact (((((((((hT'.upC (by decide)).upC (by decide)).upC (by decide)).upC (by decide)).upC (by decide)).up11 (by omega)).upR (by decide)).up11 (by omega)).up11 (by omega)).up11 (by omega)
          have li2 : LI B n m q0 r0 qb rb P a (N' + 1) H' k' qn rn := by
            refine li'.push (x := x) hp (Or.inr ⟨by omega, x14⟩) hTn ?_ ?_ ?_ ?_ ?_ ?_ ?_ ?_ ?_ ?_ ?_ ?_ ?_ ?_ ?_ ?_ ?_ ?_ ?_ ?_ ?_
            · rw [eqn]; exact fxC_up (fxC_up (fxC_up (fxC_up (fxC_up hc' (Or.inl (by omega)) hp0) (Or.inl (by omega)) hp0) (Or.inl (by omega)) hp0) (Or.inl (by omega)) hp0) (Or.inl (by omega)) hp0
            · rw [ern]; exact fxR_0 (fxR_0 (fxR_0 (fxR_3 (fxR_0 hr' (by omega)) (by omega)) (by omega)) (by omega)) (by omega)
            · intro o y; rw [eqn, up_other (by omega), up_other (by omega), up_other (by omega), up_other (by omega), up_other (by omega)]
            · intro j
              rw [eqn, up_other (by decide), up_other (by decide), up_get, up_other (by decide), up_other (by decide), ecd]
              unfold cdw
              rw [if_neg (show ¬ x = 0 by omega)]
            · intro j; rw [eqn, up_other (by decide), up_get, up_other (by decide), up_other (by decide), up_other (by decide)]
            · intro j y; rw [eqn, up_slot (by omega), up_other (by decide), up_other (by decide), up_slot (by omega), up_slot (by omega)]
            · rw [eqn, up_self]
            · rw [eqn, up_slot (by decide), up_other (by decide), up_other (by decide), up_slot (by decide), up_slot (by decide), r67]; exact c5'
            · rw [eqn, up_slot (by decide), up_other (by decide), up_other (by decide), up_self, r68]
            · rw [eqn, up_slot (by decide), up_other (by decide), up_other (by decide), up_slot (by decide), up_self]
            · intro o y u; rw [ern, up_other y, up_other y, up_other y, up_other u, up_other y]
            · intro j; rw [ern, up_other (by decide), up_other (by decide), up_other (by decide), up_get, up_other (by decide)]
            · intro j y u; rw [ern, up_slot (by omega), up_slot (by omega), up_slot (by omega), up_other (by decide), up_slot (by omega)]
            · rw [ern, up_slot (by decide), up_slot (by decide), up_self]
            · rw [ern, up_slot (by decide), up_self]
            · rw [r67, if_neg (by omega)]; omega
            · rw [r68, if_neg (by omega)]
            · rw [r67]; exact c7
            · rw [r68]; omega
            · rw [ern, up_self, emv]
              have n3 : ¬ rkF x = 3 := fun y => by have := rk.2.2.2.mp y; omega
              by_cases y : 3 ≤ rkF x
              · rw [if_pos y]; exact ⟨fun _ => by omega, fun _ => rfl⟩
              · rw [if_neg y]; exact ⟨fun u => absurd u (by decide), fun u => by omega⟩
            · rw [if_pos x3]
              rw [l69] at bc
              omega
          refine ⟨am, N' + 1, H', k', qn, rn, li2, fun K hk => goC3 K ?_, fun K hk => goR3 K ?_⟩
          · apply L_X9_readBehindOperand_99
            unfold B_X9_readBehindOperand_99
            intro h1 e1
            rw [e1]
            refine run_room (c := r' 0 68) (by rw [up_slot (by decide)]; exact c8) c9 t ?_
            rw [if_neg (by decide)]
            refine run_hold (N := N') (by rw [up_slot (by decide), up_slot (by decide)]; exact c1) (by omega) ?_
            rw [if_neg (by decide), ← eqn]; exact hk
          · apply L_X14_signs_217
            unfold B_X14_signs_217
            refine run_counted rfl c9 t ?_
            rw [if_pos (by decide)]
            refine run_waits (N := N') (by rw [up_slot (by decide)]; exact c2) (by omega) ?_
            intro h3 e3
            refine run_rank ?_
            by_cases y : 3 ≤ rkF x
            · rw [if_pos y] at emv ⊢
              intro h5 e5
              rw [e5, e3]
              have e : up (up (up (up (up r' 0 68 (r' 0 68 + 1)) 26 N' x) 0 65 (N' + 1)) 0 69 1) 0 70 0 = rn := by rw [ern, emv]
              rw [e]
              exact hTn.runR hk
            · rw [if_neg y] at emv ⊢
              intro h5 e5
              rw [e5, e3]
              have e : up (up (up (up (up r' 0 68 (r' 0 68 + 1)) 26 N' x) 0 65 (N' + 1)) 0 69 1) 0 70 1 = rn := by rw [ern, emv]
              rw [e]
              exact hTn.runR hk
        · left
          have e64 : r' 0 68 = 64 := by omega
          have hTx : PTok B n m a (up q' 46 15 0) r' := hT'.upC (by decide)
          refine ⟨_, _, PBad.of hTx (fxC_up hc' (Or.inl (by omega)) hp0) hr' hp0 (e := 2) (by decide), fun K hk => goC3 K ?_, fun K hk => goR3 K ?_⟩
          · apply L_X9_readBehindOperand_99
            unfold B_X9_readBehindOperand_99
            intro h1 e1
            rw [e1]
            refine run_room0 (by rw [up_slot (by decide), c8]; exact e64) ?_
            rw [if_pos rfl]; exact hk
          · apply L_X14_signs_217
            unfold B_X14_signs_217
            refine run_counted0 e64 ?_
            rw [if_neg (by decide)]; exact hk
