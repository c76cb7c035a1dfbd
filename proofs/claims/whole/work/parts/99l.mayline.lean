theorem tw_may {B : Int → Int} {n : Int} {m a : Nat} {q0 r0 q r : Mh} (h : PR B n m a q0 r0 q r) (h8 : r 0 8 = 1) (h9 : r 0 9 = 12) : LineOut (wp_X9_readMay q) B n m a q0 r0 r := by
  have am := h.am h8
  have hp0 := h.p0
  have hland := h.land
  obtain ⟨dw, dh, dsz⟩ := h.dims
  have h' := h
  obtain ⟨hT, hF, hPP, hE, hc, hr⟩ := h
  have hP : q 46 1 = q0 46 1 := hc.1
  obtain ⟨P, eP⟩ : ∃ P, P = q0 46 1 := ⟨_, rfl⟩
  have hp00 := hp0
  rw [← eP] at hP hp0 hland dw dh
  have sP := shC_P hp0
  have hq := hp0
  unfold isP at hq
  have gP : ∀ o, P ≤ o → o ≤ P + 39 → qv q o = q o := fun o x y => qv_get (by rw [hP]; exact hp0) (by omega) (by omega)
  have qv0 : qv q 53 0 = P := by rw [qv_0]; exact hP
  have hmy := hPP.1.2.2.2.2.2.1
  have my3 : r 0 32 ≤ 3 := hmy.2.1
  have my1 := hmy.1
  have mz := hPP.2.2.2.2.2.2.2.2
  unfold RRow at my1
  rw [qv0, gP (P + 10) (by omega) (by omega), gP (P + 10 + 1) (by omega) (by omega)] at my1
  obtain ⟨cnt, ecnt⟩ : ∃ cnt, cnt = r 0 32 := ⟨_, rfl⟩
  have n1 : q (P + 10) 1 = cnt := by rw [ecnt]; exact my1.1
  have n0 : 0 ≤ cnt := by rw [ecnt]; exact my1.2.1
  have n2 : ∀ j, 0 ≤ j → j < cnt → q (P + 10 + 1) j = r 20 (3 + j) := fun j x y => by
    have := my1.2.2 j x (by rw [ecnt] at y; exact y)
    rw [this, show (0 : Int) + j = j by omega]; rfl
  have s10 : ((shC (P + 10 + 1)).2 : Int) = 3 := by rcases hq with e | e <;> rw [e] <;> rfl
  have s9 : (shC (P + 10)).1 = 6 := by rcases hq with e | e <;> rw [e] <;> rfl
  have s3 : ((shC (P + 3)).2 : Int) = 3 := by rcases hq with e | e <;> rw [e] <;> rfl
  have s20 : ((shR 20).2 : Int) = 6 := rfl
  have begL : ∀ K : Int → Mh → Prop, wp_X14_mayLine r (fun x13 h19 => Lfp (F_X14_lineRead K) (458, [x13], h19)) → wp_X14_lineRead r K := by
    intro K hk
    unfold wp_X14_lineRead
    rw [h8, h9, if_neg (by decide), if_pos (by decide), if_neg (by decide), if_neg (by decide), if_neg (by decide), if_neg (by decide), if_neg (by decide), if_neg (by decide), if_neg (by decide), if_neg (by decide), if_neg (by decide), if_neg (by decide), if_neg (by decide), if_neg (by decide)]
    exact hk
  by_cases full : cnt = 3
  · left
    refine ⟨_, _, PBad.of hT hc hr hp00 (e := 2) (by decide), fun K hk => ?_, fun K hk => begL K ?_⟩
    · unfold wp_X9_readMay wp_X7_isFull
      rw [hP]
      refine ⟨sP, ?_⟩
      rw [n1, s10, if_neg (by omega)]
      dsimp only
      refine run_b1 hT ?_
      rw [if_neg (by decide)]; exact hk
    · unfold wp_X14_mayLine
      rw [if_neg (fun y => y (by omega))]
      exact run_wrong (run_458_0 hk)
  · obtain ⟨row, erow⟩ : ∃ row, row = P + 3 + 1 + 2 * cnt := ⟨_, rfl⟩
    have srow : (shC row).1 = 6 := by
      have cc : cnt = 0 ∨ cnt = 1 ∨ cnt = 2 := by omega
      rw [erow]
      rcases hq with e | e <;> rcases cc with c | c | c <;> rw [e, c] <;> rfl
    have srow1 : ((shC (row + 1)).2 : Int) = 3 := by
      have cc : cnt = 0 ∨ cnt = 1 ∨ cnt = 2 := by omega
      rw [erow]
      rcases hq with e | e <;> rcases cc with c | c | c <;> rw [e, c] <;> rfl
    have qrow : q row 1 = 0 := by
      have := mz cnt (by rw [ecnt]; exact Int.le_refl _) (by omega)
      rw [qv0, gP _ (by omega) (by omega)] at this
      rw [erow, show P + 3 + 1 + 2 * cnt = P + 4 + 2 * cnt by omega]; exact this
    obtain ⟨q1, eq1⟩ : ∃ q1, q1 = advC (up q 46 9 1) := ⟨_, rfl⟩
    obtain ⟨r1, er1⟩ : ∃ r1, r1 = tokR (up r 0 37 1) := ⟨_, rfl⟩
    have hT1 : PTok B n m (a + 1) q1 r1 := by rw [eq1, er1]; exact ((hT.upC (by decide)).up11 (by omega)).step am
    have fc1 : fxC q0 q1 := by rw [eq1]; exact fxC_adv (fxC_up hc (Or.inl (by omega)) hp00) hp00
    have fr1 : fxR r0 r1 := by rw [er1]; exact fxR_tok (fxR_0 hr (by omega))
    have q1o : ∀ o, ¬ o = 46 → ¬ o = 49 → q1 o = q o := fun o x y => by rw [eq1, advC_o y, up_other x]
    have q146 : q1 46 = up q 46 9 1 46 := by rw [eq1, advC_o (by decide)]
    have q11 : q1 46 1 = P := by rw [q146, up_slot (by decide)]; exact hP
    have r1o : ∀ o, ¬ o = 0 → r1 o = r o := fun o x => by rw [er1, tokR_o x, up_other x]
    have r1j : ∀ j, ¬ (7 ≤ j ∧ j ≤ 10) → ¬ j = 37 → r1 0 j = r 0 j := fun j x y => by rw [er1, tokR_j x, up_slot y]
    have r137 : r1 0 37 = 1 := by rw [er1, tokR_j (by omega), up_self]
    have begC : ∀ K : Int → Mh → Prop, wp_X9_readNewName (P + 10) q1 (fun x4 h4 => if ¬ x4 = 0 then (Lfp (F_X9_readMay K) (55, [row, 0], h4)) else (K 0 h4)) → wp_X9_readMay q K := by
      intro K hk
      unfold wp_X9_readMay wp_X7_isFull
      rw [hP]
      refine ⟨sP, ?_⟩
      rw [n1, s10, if_pos (by omega)]
      dsimp only
      refine run_b0 hT ?_
      rw [if_pos (by decide), ← eq1, q11, show q1 (P + 10) 1 = cnt by rw [q1o _ (by omega) (by omega)]; exact n1]
      refine ⟨sP, ?_⟩
      unfold wp_X5_shoresOf
      rw [if_neg (by omega), s3, if_neg (by omega)]
      refine ⟨⟨n0, by omega⟩, ?_⟩
      dsimp only
      rw [q11, ← erow]
      exact ⟨sP, hk⟩
    have begR : ∀ K : Int → Mh → Prop, wp_X14_newName 20 3 cnt r1 (fun x1 h3 => if ¬ x1 = 0 then (∀ x2 : Int, x2 = w32 (3 + (h3 0 32)) → ((0 : Int) ≤ x2 ∧ x2 < (6 : Int)) ∧ ∀ h4 : Mh, h4 = up h3 21 x2 0 → Lfp (F_X14_mayLine K) (55, [x2], h4)) else (K 0 h3)) → wp_X14_mayLine r K := by
      intro K hk
      unfold wp_X14_mayLine
      rw [if_pos (show ¬ r 0 32 = 3 from fun y => full (by omega))]
      intro g1 e1
      rw [e1]
      refine (hT.up11 (by omega)).runR ?_
      rw [← er1, show r1 0 32 = cnt by rw [r1j 32 (by omega) (by omega)]; exact ecnt.symm]
      exact hk
    rcases tw_name (row := P + 10) (arr := 20) (base := 3) (cnt := cnt) hT1 s9 (by omega) n0 (by omega) (by omega) (by rw [q1o _ (by omega) (by omega)]; exact n1) (fun j x y => by rw [q1o _ (by omega) (by omega), r1o 20 (by decide)]; exact n2 j x y) rfl (by decide) (by decide) (by omega) (by decide) with ⟨v, bm, hT2, cv, rv1⟩ | ⟨e, e0, cv, rv1⟩
    · obtain ⟨q2, eq2⟩ : ∃ q2, q2 = advC (up (up q1 (P + 10 + 1) cnt v) (P + 10) 1 (cnt + 1)) := ⟨_, rfl⟩
      obtain ⟨r2, er2⟩ : ∃ r2, r2 = tokR (up r1 20 (3 + cnt) v) := ⟨_, rfl⟩
      rw [← eq2, ← er2] at hT2
      rw [← eq2] at cv
      rw [← er2] at rv1
      obtain ⟨r3, er3⟩ : ∃ r3, r3 = up r2 21 (3 + cnt) 0 := ⟨_, rfl⟩
      have fc2 : fxC q0 q2 := by rw [eq2]; exact fxC_adv (fxC_up (fxC_up fc1 (Or.inr (by omega)) hp00) (Or.inr (by omega)) hp00) hp00
      have fr3 : fxR r0 r3 := by
        rw [er3, er2]
        exact fxR_5 (fxR_tok (fxR_5 fr1 (by decide) (by decide) (by rw [show off 20 = 3 from rfl]; omega))) (by decide) (by decide) (by rw [show off 21 = 3 from rfl]; omega)
      have q2o : ∀ o, ¬ o = 46 → ¬ o = 49 → ¬ o = P + 10 + 1 → ¬ o = P + 10 → q2 o = q o := fun o x y z w => by rw [eq2, advC_o y, up_other w, up_other z, q1o o x y]
      have q246 : q2 46 = up q 46 9 1 46 := by rw [eq2, advC_o (by decide), up_other (by omega), up_other (by omega)]; exact q146
      have r3o : ∀ o, ¬ o = 0 → ¬ o = 20 → ¬ o = 21 → r3 o = r o := fun o x y z => by rw [er3, up_other z, er2, tokR_o x, up_other y, r1o o x]
      have r3j : ∀ j, ¬ (7 ≤ j ∧ j ≤ 10) → ¬ j = 37 → r3 0 j = r 0 j := fun j x y => by rw [er3, up_other (by decide), er2, tokR_j x, up_other (by decide), r1j j x y]
      have r337 : r3 0 37 = 1 := by rw [er3, up_other (by decide), er2, tokR_j (by omega), up_other (by decide)]; exact r137
      have r332 : r3 0 32 = cnt := by rw [r3j 32 (by omega) (by omega)]; exact ecnt.symm
      have q21 : q2 46 1 = P := by rw [q246, up_slot (by decide)]; exact hP
      have ms0 : MS B n m q0 r0 q2 r3 row (3 + cnt) (a + 1 + 1) 0 (a + 1 + 1) q2 r3 := by
        refine ⟨by rw [er3]; exact hT2.upR (by decide), Nat.le_refl _, fc2, fr3, fun _ _ _ _ => rfl, ?_, fun j x y => by omega, fun _ _ _ _ _ => rfl, fun _ _ _ _ => rfl, r337, ?_, fun _ _ => rfl, ?_, by decide, by decide⟩
        · rw [q2o _ (by omega) (by omega) (by omega) (by omega)]; exact qrow
        · intro j
          by_cases z : j = 3 + cnt
          · rw [if_pos z, z, er3, up_self]
          · rw [if_neg z]
        · intro c c0 c1
          exact ⟨fun y => ⟨y, fun j j0 j1 => by omega⟩, fun y => y.1⟩
      rcases tw_mays (v1 := 3 + cnt) (a0 := a + 1 + 1) (B := B) (n := n) (m := m) (q0 := q0) (r0 := r0) (qb := q2) (rb := r3) (row := row) eP hp0 ⟨by omega, by omega⟩ ⟨by omega, by omega⟩ srow srow1 q21 (by rw [q2o _ (by omega) (by omega) (by omega) (by omega), r3j 25 (by omega) (by omega)]; exact dw) (by rw [q2o _ (by omega) (by omega) (by omega) (by omega), r3j 26 (by omega) (by omega)]; exact dh) (by rw [r3j 25 (by omega) (by omega), r3j 26 (by omega) (by omega)]; exact dsz) (fun c c0 c1 => by rw [q2o _ (by omega) (by omega) (by omega) (by omega), r3o 5 (by decide) (by decide) (by decide)]; exact hland c c0 c1) (by rw [r332]; omega) 3 0 (a + 1 + 1) q2 r3 (by decide) ms0 with ⟨q', r', pb, cc, rc⟩ | ⟨i, a4, q4, r4, ms, cc, rc⟩
      · left
        refine ⟨q', r', pb, fun K hk => begC K (cv _ ?_), fun K hk => begL K (begR _ (rv1 _ ?_))⟩
        · rw [if_pos (by decide)]; exact cc K hk
        · rw [if_pos (by decide), show r2 0 32 = cnt by rw [er3, up_other (by decide)] at r332; exact r332, w32_eq (by omega) (by omega)]
          intro x2 e2
          rw [e2]
          refine ⟨⟨by omega, by omega⟩, ?_⟩
          intro g e
          rw [e, ← er3]
          exact rc _ (run_458_0 hk)
      · right
        obtain ⟨hT4, aa4, fc4, fr4, k5, k6, k7, k8, k9, k37, k10, k11, k12, i0, i3⟩ := ms
        rw [r332] at rc
        obtain ⟨r6, er6⟩ : ∃ r6, r6 = up r4 0 32 (cnt + 1) := ⟨_, rfl⟩
        rw [← er6] at rc
        have q41 : q4 46 1 = P := by rw [k5 46 (by decide) (by omega) (by omega)]; exact q21
        have q4o : ∀ o, ¬ o = 46 → ¬ o = 49 → ¬ o = P + 10 + 1 → ¬ o = P + 10 → ¬ o = row → ¬ o = row + 1 → q4 o = q o := fun o x y z u v w => by rw [k5 o y v w, q2o o x y z u]
        have r6o : ∀ o, ¬ o = 0 → ¬ o = 7 → ¬ (20 ≤ o ∧ o ≤ 22) → r6 o = r o := fun o x y z => by rw [er6, up_other x, k8 o x y (by omega) (by omega), r3o o x (by omega) (by omega)]
        have r6j : ∀ j, ¬ (7 ≤ j ∧ j ≤ 11) → ¬ j = 37 → ¬ j = 62 → ¬ j = 32 → r6 0 j = r 0 j := fun j x y z w => by rw [er6, up_slot w, k9 j x y z, r3j j (by omega) y]
        have g4 : ∀ o, P ≤ o → o ≤ P + 39 → qv q4 o = q4 o := fun o x y => qv_get (by rw [q41]; exact hp0) (by omega) (by omega)
        have e22 : ∀ j, rv r6 22 (3 * cnt + j) = r4 22 (3 * (3 + cnt) + j) := by
          intro j
          show r6 22 (9 + (3 * cnt + j)) = _
          rw [er6, up_other (by decide), show 9 + (3 * cnt + j) = 3 * (3 + cnt) + j by omega]
        have pp : PP (qv q4) (rv r6) := by
          refine hPP.may (cnt := cnt) (v := v) (i := i) ecnt (by omega) i0 i3 ?_ ?_ ?_ ?_ ?_ ?_ ?_ ?_ ?_ ?_ ?_ ?_
          · intro o x1 x2 x3 x4
            rw [qv0] at x1 x2 x3 x4
            exact qv_keep hp0 hP q41 (fun u w => q4o o (by omega) (by omega) (by omega) (by omega) (by omega) (by omega)) (fun u w => q4o _ (by omega) (by omega) (by omega) (by omega) (by omega) (by omega)) (fun u => by rw [q4o P (by omega) (by omega) (by omega) (by omega) (by omega) (by omega)])
          · rw [qv0, g4 _ (by omega) (by omega), k5 _ (by omega) (by omega) (by omega), eq2, advC_o (by omega), up_self]
          · intro j
            rw [qv0, g4 _ (by omega) (by omega), gP _ (by omega) (by omega), k5 _ (by omega) (by omega) (by omega), eq2, advC_o (by omega), up_other (by omega), show P + 11 = P + 10 + 1 by omega, up_get, q1o _ (by omega) (by omega)]
          · rw [qv0, g4 _ (by omega) (by omega), show P + 4 + 2 * cnt = row by omega]; exact k6
          · intro j j0 j1
            obtain ⟨t1, t2, t3, t4⟩ := k7 j j0 j1
            rw [e22, qv0, g4 _ (by omega) (by omega), show P + 4 + 2 * cnt + 1 = row + 1 by omega]
            refine ⟨t1, t2, ?_, ?_⟩
            · rw [r3j 25 (by omega) (by omega), r3j 26 (by omega) (by omega)] at t3; exact t3
            · rw [r3o 5 (by decide) (by decide) (by decide)] at t4; exact t4
          · intro o x y z
            exact rv_keep x (fun u w => r6o o x y z) (fun u => r6o 8 (by decide) (by decide) (by decide))
          · intro j x
            exact rv_keep0 (t := 32) (r6o 3 (by decide) (by decide) (by decide)) (fun k a b c d e => r6j k (by omega) d (by omega) e) (fun u v => by omega) (fun u => by decide) (fun u => by decide) (fun u => by decide) (fun u => by omega)
          · show r6 0 32 = cnt + 1
            rw [er6, up_self]
          · intro j
            show r6 20 (3 + j) = if j = cnt then v else r 20 (3 + j)
            rw [er6, up_other (by decide), k8 20 (by decide) (by decide) (by decide) (by decide), er3, up_other (by decide), er2, tokR_o (by decide), up_get, r1o 20 (by decide)]
            by_cases w : j = cnt
            · rw [if_pos w, if_pos (by omega)]
            · rw [if_neg w, if_neg (by omega)]
          · intro j
            show r6 21 (3 + j) = if j = cnt then i else r 21 (3 + j)
            rw [er6, up_other (by decide), k10]
            by_cases w : j = cnt
            · rw [if_pos w, if_pos (by omega)]
            · rw [if_neg w, if_neg (by omega), er3, up_slot (by omega), er2, tokR_o (by decide), up_other (by decide), r1o 21 (by decide)]
          · intro j x
            show r6 22 (9 + j) = r 22 (9 + j)
            rw [er6, up_other (by decide), k11 _ (by omega), r3o 22 (by decide) (by decide) (by decide)]
          · intro c c0 c1
            have e7 : rv r6 7 c = r4 7 c := by
              show r6 7 (0 + c) = r4 7 c
              rw [er6, up_other (by decide), show (0 : Int) + c = c by omega]
            have e7' : rv r 7 c = r3 7 c := by
              show r 7 (0 + c) = r3 7 c
              rw [r3o 7 (by decide) (by decide) (by decide), show (0 : Int) + c = c by omega]
            rw [e7, e7', k12 c c0 c1]
            exact ⟨fun y => ⟨y.1, fun j j0 j1 => by rw [e22]; exact y.2 j j0 j1⟩, fun y => ⟨y.1, fun j j0 j1 => by rw [← e22]; exact y.2 j j0 j1⟩⟩
        refine ⟨a4, q4, r6, by omega, h'.next ?_ ?_ ?_ ?_ ?_ ?_ pp fc4 ?_, ?_, ?_⟩
        · rw [er6]; exact hT4.up11 (by omega)
        · intro j j0 j1
          rw [k5 46 (by decide) (by omega) (by omega), q246, up_slot (by omega)]
        · rw [k5 46 (by decide) (by omega) (by omega), q246, up_self]
        · intro j hj
          exact r6j j (by omega) (by omega) (by omega) (by omega)
        · exact r6o 4 (by decide) (by decide) (by decide)
        · rw [er6, up_slot (by decide)]; exact k37
        · rw [er6]; exact fxR_0 fr4 (by omega)
        · intro K hk
          refine begC K (cv _ ?_)
          rw [if_pos (by decide)]; exact cc K hk
        · intro K hk
          refine begL K (begR _ (rv1 _ ?_))
          rw [if_pos (by decide), show r2 0 32 = cnt by rw [er3, up_other (by decide)] at r332; exact r332, w32_eq (by omega) (by omega)]
          intro x2 e2
          rw [e2]
          refine ⟨⟨by omega, by omega⟩, ?_⟩
          intro g e
          rw [e, ← er3]
          exact rc _ hk
    · left
      refine ⟨_, _, PBad.of hT1 fc1 fr1 hp00 e0, fun K hk => begC K (cv _ ?_), fun K hk => begL K (begR _ (rv1 _ ?_))⟩
      · rw [if_neg (by decide)]; exact hk
      · rw [if_neg (by decide)]; exact run_458_0 hk
