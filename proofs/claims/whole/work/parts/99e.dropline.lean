/-! ===== the line of a drop ===== -/
theorem tw_drop {B : Int → Int} {n : Int} {m a : Nat} {q0 r0 q r : Mh} (h : PR B n m a q0 r0 q r) (h8 : r 0 8 = 1) (h9 : r 0 9 = 7) : LineOut (wp_X9_readDrop q) B n m a q0 r0 r := by
  have am := h.am h8
  have hp0 := h.p0
  have hland := h.land
  obtain ⟨dw, dh, dsz⟩ := h.dims
  have h' := h
  obtain ⟨hT, hF, hPP, hE, hc, hr⟩ := h
  have hP : q 46 1 = q0 46 1 := hc.1
  obtain ⟨P, eP⟩ : ∃ P, P = q0 46 1 := ⟨_, rfl⟩
  rw [← eP] at hP hp0 hland dw dh
  have sP := shC_P hp0
  have hq := hp0
  unfold isP at hq
  have mz := szs_mul dsz
  have gP : ∀ o, P ≤ o → o ≤ P + 39 → qv q o = q o := fun o x y => qv_get (by rw [hP]; exact hp0) (by omega) (by omega)
  have qv0 : qv q 53 0 = P := by rw [qv_0]; exact hP
  have hdr := hPP.2.2.1
  have h8m : r 0 30 ≤ 8 := hPP.2.2.2.1
  have hkn := hPP.1.2.2.1
  unfold RDrp at hdr
  rw [qv_98 hp0 hP (by decide) (by decide)] at hdr
  have d1 : q (P + 33) 3 = r 0 30 := by have := hdr.1; rw [show P + 33 + (98 - 98) = P + 33 by omega] at this; exact this
  have d0 : 0 ≤ r 0 30 := hdr.2.1
  have kn1 := hkn.1
  have kn4 : r 0 27 ≤ 4 := hkn.2.1
  unfold RRow at kn1
  rw [qv0, gP (P + 12) (by omega) (by omega), gP (P + 12 + 1) (by omega) (by omega)] at kn1
  have n1 : q (P + 12) 1 = r 0 27 := kn1.1
  have n0 : 0 ≤ r 0 27 := kn1.2.1
  have n2 : ∀ j, 0 ≤ j → j < r 0 27 → q (P + 12 + 1) j = r 9 (4 + j) := fun j x y => by
    have := kn1.2.2 j x y
    rw [this, show (0 : Int) + j = j by omega]; rfl
  have s33 : ((shC (P + 33 + 1)).2 : Int) = 8 := by rcases hq with e | e <;> rw [e] <;> rfl
  have s34 : ((shC (P + 33 + 2)).2 : Int) = 8 := by rcases hq with e | e <;> rw [e] <;> rfl
  have s35 : ((shC (P + 33 + 3)).2 : Int) = 8 := by rcases hq with e | e <;> rw [e] <;> rfl
  have s12 : ((shC (P + 12 + 1)).2 : Int) = 4 := by rcases hq with e | e <;> rw [e] <;> rfl
  have s9 : ((shR 9).2 : Int) = 8 := rfl
  obtain ⟨cnt, ecnt⟩ : ∃ cnt, cnt = r 0 30 := ⟨_, rfl⟩
  have begL : ∀ K : Int → Mh → Prop, wp_X14_dropLine r (fun x13 h19 => Lfp (F_X14_lineRead K) (458, [x13], h19)) → wp_X14_lineRead r K := by
    intro K hk
    unfold wp_X14_lineRead
    rw [h8, h9, if_neg (by decide), if_pos (by decide), if_neg (by decide), if_neg (by decide), if_neg (by decide), if_neg (by decide), if_neg (by decide), if_neg (by decide), if_neg (by decide), if_pos (by decide)]
    exact hk
  by_cases full : cnt = 8
  · left
    refine ⟨_, _, PBad.of hT hc hr (by rw [← eP]; exact hp0) (e := 2) (by decide), fun K hk => ?_, fun K hk => begL K ?_⟩
    · unfold wp_X9_readDrop wp_X1_isFull
      rw [hP]
      refine ⟨sP, ?_⟩
      rw [d1, s33, if_neg (by omega)]
      dsimp only
      unfold wp_X9_beginCells
      rw [if_neg (by decide)]
      refine run_refuse ?_
      dsimp only
      rw [if_neg (by decide)]; exact hk
    · unfold wp_X14_dropLine
      rw [if_neg (fun y => y (by omega))]
      exact run_wrong (run_458_0 hk)
  · have hp00 : isP (q0 46 1) := by rw [← eP]; exact hp0
    obtain ⟨q1, eq1⟩ : ∃ q1, q1 = advC (up q 46 9 1) := ⟨_, rfl⟩
    obtain ⟨r1, er1⟩ : ∃ r1, r1 = tokR (up r 0 37 1) := ⟨_, rfl⟩
    have hT1 : PTok B n m (a + 1) q1 r1 := by rw [eq1, er1]; exact ((hT.upC (by decide)).up11 (by omega)).step am
    have fc1 : fxC q0 q1 := by rw [eq1]; exact fxC_adv (fxC_up hc (Or.inl (by omega)) hp00) hp00
    have fr1 : fxR r0 r1 := by rw [er1]; exact fxR_tok (fxR_0 hr (by omega))
    have q1o : ∀ o, ¬ o = 46 → ¬ o = 49 → q1 o = q o := fun o x y => by rw [eq1, advC_o y, up_other x]
    have q146 : q1 46 = up q 46 9 1 46 := by rw [eq1, advC_o (by decide)]
    have q11 : q1 46 1 = P := by rw [q146, up_slot (by decide)]; exact hP
    have r1o : ∀ o, ¬ o = 0 → r1 o = r o := fun o x => by rw [er1, tokR_o x, up_other x]
    have r1j : ∀ j, ¬ (7 ≤ j ∧ j ≤ 10) → ¬ j = 37 → r1 0 j = r 0 j := fun j x y => by rw [er1, tokR_j x, up_slot y]
    have r137 : r1 0 37 = 1 := by rw [er1, tokR_j (by omega), up_self]
    have begC : ∀ K : Int → Mh → Prop, (if q1 49 8 = 2 then (wp_X7_indexOf shC (P + 12) (q1 49 10) q1 (fun x3 h3 => if 0 ≤ x3 then (wp_X10_advance h3 (fun h4 => ((shC (h4 46 1)).1 = 4) ∧ wp_X9_readCell (h4 (h4 46 1) 2) h4 (fun x4 h5 => if 0 ≤ x4 then (wp_X9_readNumber 0 99 h5 (fun x5 h6 => if 0 ≤ x5 then (((shC (h6 46 1)).1 = 4) ∧ wp_X1_add shC ((h6 46 1) + 33) x3 x4 x5 h6 (fun h7 => K 1 h7)) else (K 0 h6))) else (if 0 ≤ ((-1) : Int) then (((shC (h5 46 1)).1 = 4) ∧ wp_X1_add shC ((h5 46 1) + 33) x3 x4 (-1) h5 (fun h8 => K 1 h8)) else (K 0 h5))))) else (wp_X9_refuse 4 h3 (fun x6 h9 => K x6 h9)))) else (wp_X9_refuse 1 q1 (fun x7 h10 => K x7 h10))) → wp_X9_readDrop q K := by
      intro K hk
      unfold wp_X9_readDrop wp_X1_isFull
      rw [hP]
      refine ⟨sP, ?_⟩
      rw [d1, s33, if_pos (by omega)]
      dsimp only
      unfold wp_X9_beginCells
      rw [if_pos rfl]
      intro g1 e1
      rw [e1]
      refine (hT.upC (by decide)).runC ?_
      dsimp only
      rw [if_pos (by decide), ← eq1, q11]
      by_cases z : q1 49 8 = 2
      · rw [if_pos z] at hk ⊢; exact ⟨sP, hk⟩
      · rw [if_neg z] at hk ⊢; exact hk
    have begR : ∀ K : Int → Mh → Prop, (if r1 0 8 = 2 then (wp_X14_find 9 4 (r 0 27) (r1 0 9) r1 (fun x1 h3 => if 0 ≤ x1 then (wp_X14_token h3 (fun h4 => wp_X14_waterRead h4 (fun x2 h5 => if ¬ x2 = 0 then (((0 : Int) ≤ w32 (16 + (h5 0 30)) ∧ w32 (16 + (h5 0 30)) < (32 : Int)) ∧ ∀ h6 : Mh, h6 = up h5 17 (w32 (16 + (h5 0 30))) x1 → ((0 : Int) ≤ w32 (16 + (h6 0 30)) ∧ w32 (16 + (h6 0 30)) < (32 : Int)) ∧ ∀ h7 : Mh, h7 = up h6 18 (w32 (16 + (h6 0 30))) (h6 0 11) → wp_X14_number 0 99 h7 (fun x3 h8 => if ¬ x3 = 0 then (((0 : Int) ≤ w32 (16 + (h8 0 30)) ∧ w32 (16 + (h8 0 30)) < (32 : Int)) ∧ ∀ h9 : Mh, h9 = up h8 19 (w32 (16 + (h8 0 30))) (h8 0 11) → ∀ h10 : Mh, h10 = up h9 0 30 (w32 ((h9 0 30) + 1)) → K 1 h10) else (K 0 h8))) else (K 0 h5)))) else (wp_X14_wrong 4 h3 (fun x4 h11 => K x4 h11)))) else (wp_X14_wrong 1 r1 (fun x5 h12 => K x5 h12))) → wp_X14_dropLine r K := by
      intro K hk
      unfold wp_X14_dropLine
      rw [if_pos (show ¬ r 0 30 = 8 from fun y => full (by omega))]
      intro g1 e1
      rw [e1]
      refine (hT.up11 (by omega)).runR ?_
      rw [← er1, r1j 27 (by omega) (by omega)]
      exact hk
    obtain ⟨m1, m2⟩ := hT1.name
    by_cases z : q1 49 8 = 2
    · have z2 := m1.mp z
      have bm := (m2 z).1
      simp only [if_pos z] at begC
      simp only [if_pos z2] at begR
      obtain ⟨k, kr, kc, kR⟩ := tw_find (row := P + 12) (arr := 9) (base := 4) (cnt := r 0 27) hT1 z n0 (by omega) (by omega) (by rw [q1o _ (by omega) (by omega)]; exact n1) (fun j x y => by rw [q1o _ (by omega) (by omega), r1o 9 (by decide)]; exact n2 j x y) rfl (by decide) (by omega) (by decide)
      by_cases kn : k < 0
      · left
        refine ⟨_, _, PBad.of hT1 fc1 fr1 hp00 (e := 4) (by decide), fun K hk => begC K (kc _ ?_), fun K hk => begL K (begR _ (kR _ ?_))⟩
        · rw [if_neg (by omega)]; exact run_refuse hk
        · rw [if_neg (by omega)]; exact run_wrong (run_458_0 hk)
      · obtain ⟨q2, eq2⟩ : ∃ q2, q2 = advC q1 := ⟨_, rfl⟩
        obtain ⟨r2, er2⟩ : ∃ r2, r2 = tokR r1 := ⟨_, rfl⟩
        have hT2 : PTok B n m (a + 1 + 1) q2 r2 := by rw [eq2, er2]; exact hT1.step bm
        have fc2 : fxC q0 q2 := by rw [eq2]; exact fxC_adv fc1 hp00
        have fr2 : fxR r0 r2 := by rw [er2]; exact fxR_tok fr1
        have q2o : ∀ o, ¬ o = 46 → ¬ o = 49 → q2 o = q o := fun o x y => by rw [eq2, advC_o y, q1o o x y]
        have q246 : q2 46 = up q 46 9 1 46 := by rw [eq2, advC_o (by decide)]; exact q146
        have q21 : q2 46 1 = P := by rw [q246, up_slot (by decide)]; exact hP
        have r2o : ∀ o, ¬ o = 0 → r2 o = r o := fun o x => by rw [er2, tokR_o x, r1o o x]
        have r2j : ∀ j, ¬ (7 ≤ j ∧ j ≤ 10) → ¬ j = 37 → r2 0 j = r 0 j := fun j x y => by rw [er2, tokR_j x, r1j j x y]
        have begC2 : ∀ K : Int → Mh → Prop, (wp_X9_readCell (q P 2) q2 (fun x4 h5 => if 0 ≤ x4 then (wp_X9_readNumber 0 99 h5 (fun x5 h6 => if 0 ≤ x5 then (((shC (h6 46 1)).1 = 4) ∧ wp_X1_add shC ((h6 46 1) + 33) k x4 x5 h6 (fun h7 => K 1 h7)) else (K 0 h6))) else (if 0 ≤ ((-1) : Int) then (((shC (h5 46 1)).1 = 4) ∧ wp_X1_add shC ((h5 46 1) + 33) k x4 (-1) h5 (fun h8 => K 1 h8)) else (K 0 h5)))) → wp_X9_readDrop q K := by
          intro K hk
          refine begC K (kc _ ?_)
          rw [if_pos (by omega)]
          refine hT1.runC ?_
          rw [← eq2, q21, q2o P (by omega) (by omega)]
          exact ⟨sP, hk⟩
        have begR2 : ∀ K : Int → Mh → Prop, (wp_X14_waterRead r2 (fun x2 h5 => if ¬ x2 = 0 then (((0 : Int) ≤ w32 (16 + (h5 0 30)) ∧ w32 (16 + (h5 0 30)) < (32 : Int)) ∧ ∀ h6 : Mh, h6 = up h5 17 (w32 (16 + (h5 0 30))) k → ((0 : Int) ≤ w32 (16 + (h6 0 30)) ∧ w32 (16 + (h6 0 30)) < (32 : Int)) ∧ ∀ h7 : Mh, h7 = up h6 18 (w32 (16 + (h6 0 30))) (h6 0 11) → wp_X14_number 0 99 h7 (fun x3 h8 => if ¬ x3 = 0 then (((0 : Int) ≤ w32 (16 + (h8 0 30)) ∧ w32 (16 + (h8 0 30)) < (32 : Int)) ∧ ∀ h9 : Mh, h9 = up h8 19 (w32 (16 + (h8 0 30))) (h8 0 11) → ∀ h10 : Mh, h10 = up h9 0 30 (w32 ((h9 0 30) + 1)) → K 1 h10) else (K 0 h8))) else (K 0 h5))) → wp_X14_dropLine r K := by
          intro K hk
          refine begR K (kR _ ?_)
          rw [if_pos (by omega)]
          refine hT1.runR ?_
          rw [← er2]
          exact hk
        rcases tw_water (fb := q P 2) (w := r 0 25) (hh := r 0 26) hT2 fc2 fr2 hp00 (by rw [← eP, q2o _ (by omega) (by omega)]; exact dw) (r2j 25 (by omega) (by omega)) (by rw [← eP, q2o _ (by omega) (by omega)]; exact dh) (r2j 26 (by omega) (by omega)) dsz (fun c c0 c1 => by
            rw [r2o 5 (by decide)]; exact hland c c0 c1) with ⟨q', r', pb, pj, cc, rc⟩ | ⟨c, r', c0, c1, c5, dm, hT3, sil, r11, r37, cc, rc⟩
        · left
          refine ⟨_, _, pb, fun K hk => begC2 K (cc _ ?_), fun K hk => begL K (begR2 _ (rc _ ?_))⟩
          · rw [if_neg (by decide), if_neg (by decide)]; exact hk
          · rw [if_neg (by decide)]; exact run_458_0 hk
        · obtain ⟨q3, eq3⟩ : ∃ q3, q3 = advC (advC q2) := ⟨_, rfl⟩
          obtain ⟨r4, er4⟩ : ∃ r4, r4 = up (up (up r' 7 c 1) 17 (16 + cnt) k) 18 (16 + cnt) c := ⟨_, rfl⟩
          rw [← eq3] at hT3 cc
          have fc3 : fxC q0 q3 := by rw [eq3]; exact fxC_adv (fxC_adv fc2 hp00) hp00
          have fr4 : fxR r0 r4 := by
            rw [er4]
            exact fxR_5 (fxR_5 (fxR_3 (sil.fx fr2) (by omega)) (by decide) (by decide) (by rw [show off 17 = 16 from rfl]; omega)) (by decide) (by decide) (by rw [show off 18 = 16 from rfl]; omega)
          have q3o : ∀ o, ¬ o = 46 → ¬ o = 49 → q3 o = q o := fun o x y => by rw [eq3, advC_o y, advC_o y, q2o o x y]
          have q346 : q3 46 = up q 46 9 1 46 := by rw [eq3, advC_o (by decide), advC_o (by decide)]; exact q246
          have r4j : ∀ j, ¬ (7 ≤ j ∧ j ≤ 11) → ¬ j = 37 → ¬ j = 62 → r4 0 j = r 0 j := fun j x y z => by rw [er4, up_other (by decide), up_other (by decide), up_other (by decide), sil.2 j x y z, r2j j (by omega) y]
          have r437 : r4 0 37 = 1 := by rw [er4, up_other (by decide), up_other (by decide), up_other (by decide)]; exact r37
          have r4o : ∀ o, ¬ o = 0 → ¬ o = 7 → ¬ o = 17 → ¬ o = 18 → r4 o = r o := fun o x y z w => by rw [er4, up_other w, up_other z, up_other y, sil.1 o x, r2o o x]
          have hT4 : PTok B n m (a + 1 + 1 + 2) q3 r4 := by rw [er4]; exact (hT3.upR (by decide)).upR (by decide)
          have begR3 : ∀ K : Int → Mh → Prop, wp_X14_number 0 99 r4 (fun x3 h8 => if ¬ x3 = 0 then (((0 : Int) ≤ w32 (16 + (h8 0 30)) ∧ w32 (16 + (h8 0 30)) < (32 : Int)) ∧ ∀ h9 : Mh, h9 = up h8 19 (w32 (16 + (h8 0 30))) (h8 0 11) → ∀ h10 : Mh, h10 = up h9 0 30 (w32 ((h9 0 30) + 1)) → K 1 h10) else (K 0 h8)) → wp_X14_dropLine r K := by
            intro K hk
            refine begR2 K (rc _ ?_)
            have e30 : up r' 7 c 1 0 30 = cnt := by rw [up_other (by decide), sil.2 30 (by omega) (by omega) (by omega), r2j 30 (by omega) (by omega)]; exact ecnt.symm
            have e11 : up r' 7 c 1 0 11 = c := by rw [up_other (by decide)]; exact r11
            rw [if_pos (by decide), e30, w32_eq (by omega) (by omega)]
            refine ⟨⟨by omega, by omega⟩, ?_⟩
            intro g6 e6
            have f30 : g6 0 30 = cnt := by rw [e6, up_other (by decide)]; exact e30
            have f11 : g6 0 11 = c := by rw [e6, up_other (by decide)]; exact e11
            rw [f30, f11, w32_eq (by omega) (by omega)]
            refine ⟨⟨by omega, by omega⟩, ?_⟩
            intro g7 e7
            rw [e7, e6, ← er4]
            exact hk
          have begC3 : ∀ K : Int → Mh → Prop, wp_X9_readNumber 0 99 q3 (fun x5 h6 => if 0 ≤ x5 then (((shC (h6 46 1)).1 = 4) ∧ wp_X1_add shC ((h6 46 1) + 33) k c x5 h6 (fun h7 => K 1 h7)) else (K 0 h6)) → wp_X9_readDrop q K := by
            intro K hk
            refine begC2 K (cc _ ?_)
            rw [if_pos c0]; exact hk
          rcases tw_num (lo := 0) (hi := 99) hT4 (by omega) with ⟨t, t0, t1, _, fm, hT5, ct, rt⟩ | ⟨e, e0, ct, rt⟩
          · right
            obtain ⟨q4, eq4⟩ : ∃ q4, q4 = advC q3 := ⟨_, rfl⟩
            obtain ⟨r5, er5⟩ : ∃ r5, r5 = tokR (up r4 0 11 t) := ⟨_, rfl⟩
            rw [← eq4] at hT5 ct
            rw [← er5] at hT5 rt
            have q4o : ∀ o, ¬ o = 46 → ¬ o = 49 → q4 o = q o := fun o x y => by rw [eq4, advC_o y, q3o o x y]
            have q446 : q4 46 = up q 46 9 1 46 := by rw [eq4, advC_o (by decide)]; exact q346
            have q41 : q4 46 1 = P := by rw [q446, up_slot (by decide)]; exact hP
            have q433 : q4 (P + 33) 3 = cnt := by rw [q4o _ (by omega) (by omega), d1]; exact ecnt.symm
            have r5j : ∀ j, ¬ (7 ≤ j ∧ j ≤ 11) → r5 0 j = r4 0 j := fun j x => by rw [er5, tokR_j (by omega), up_slot (by omega)]
            have r511 : r5 0 11 = t := by rw [er5, tokR_j (by omega), up_self]
            have r5o : ∀ o, ¬ o = 0 → r5 o = r4 o := fun o x => by rw [er5, tokR_o x, up_other x]
            have r530 : r5 0 30 = cnt := by rw [r5j 30 (by omega), r4j 30 (by omega) (by omega) (by omega)]; exact ecnt.symm
            obtain ⟨q5, eq5⟩ : ∃ q5, q5 = up (up (up (up q4 (P + 33 + 1) cnt k) (P + 33 + 2) cnt c) (P + 33 + 3) cnt t) (P + 33) 3 (cnt + 1) := ⟨_, rfl⟩
            obtain ⟨r6, er6⟩ : ∃ r6, r6 = up (up r5 19 (16 + cnt) t) 0 30 (cnt + 1) := ⟨_, rfl⟩
            have q5o : ∀ o, ¬ o = 46 → ¬ o = 49 → ¬ (P + 33 ≤ o ∧ o ≤ P + 36) → q5 o = q o := fun o x y z => by rw [eq5, up_other (by omega), up_other (by omega), up_other (by omega), up_other (by omega), q4o o x y]
            have q546 : q5 46 = up q 46 9 1 46 := by rw [eq5, up_other (by omega), up_other (by omega), up_other (by omega), up_other (by omega)]; exact q446
            have q51 : q5 46 1 = P := by rw [q546, up_slot (by decide)]; exact hP
            have r6j : ∀ j, ¬ (7 ≤ j ∧ j ≤ 11) → ¬ j = 37 → ¬ j = 62 → ¬ j = 30 → r6 0 j = r 0 j := fun j x y z w => by rw [er6, up_slot w, up_other (by decide), r5j j x, r4j j x y z]
            have r6o : ∀ o, ¬ o = 0 → ¬ o = 7 → ¬ (17 ≤ o ∧ o ≤ 19) → r6 o = r o := fun o x y z => by rw [er6, up_other x, up_other (by omega), r5o o x, r4o o x y (by omega) (by omega)]
            have hwat : watR (rv r) c := ⟨c0, c1, by
              have e5 : rv r 5 c = r 5 (48 + c) := rfl
              rw [e5, ← r2o 5 (by decide)]; exact c5⟩
            have pp : PP (qv q5) (rv r6) := by
              refine hPP.drop (cnt := cnt) (k := k) (c := c) (t := t) ecnt (by omega) ⟨by omega, by rcases kr with y | y; exact absurd y kn; exact y.2, hwat, t0, t1⟩ ?_ ?_ ?_ ?_ ?_ ?_ ?_ ?_ ?_ ?_ ?_ ?_
              · intro o x y
                rw [qv0] at y
                exact qv_keep hp0 hP q51 (fun u v => q5o o (by omega) (by omega) (by omega)) (fun u v => absurd ⟨u, v⟩ x) (fun u => by rw [q5o P (by omega) (by omega) (by omega)])
              · rw [qv_98 hp0 q51 (by decide) (by decide), show P + 33 + (98 - 98) = P + 33 by omega, eq5, up_self]
              · intro j
                rw [qv_98 hp0 q51 (by decide) (by decide), qv_98 hp0 hP (by decide) (by decide), show P + 33 + (99 - 98) = P + 33 + 1 by omega, eq5, up_other (by omega), up_other (by omega), up_other (by omega), ← q4o (P + 33 + 1) (by omega) (by omega)]
                exact up_get
              · intro j
                rw [qv_98 hp0 q51 (by decide) (by decide), qv_98 hp0 hP (by decide) (by decide), show P + 33 + (100 - 98) = P + 33 + 2 by omega, eq5, up_other (by omega), up_other (by omega)]
                rw [up_get, up_other (by omega), q4o (P + 33 + 2) (by omega) (by omega)]
              · intro j
                rw [qv_98 hp0 q51 (by decide) (by decide), qv_98 hp0 hP (by decide) (by decide), show P + 33 + (101 - 98) = P + 33 + 3 by omega, eq5, up_other (by omega)]
                rw [up_get, up_other (by omega), up_other (by omega), q4o (P + 33 + 3) (by omega) (by omega)]
              · intro o x y z
                exact rv_keep x (fun u v => r6o o x y z) (fun u => r6o 8 (by decide) (by decide) (by decide))
              · intro j x y
                exact rv_keep0 (t := 30) (r6o 3 (by decide) (by decide) (by decide)) (fun k a b c d e => r6j k (by omega) d (by omega) e) (fun u v => by omega) (fun u => absurd u y) (fun u => by decide) (fun u => by decide) (fun u => by omega)
              · show r6 0 30 = cnt + 1
                rw [er6, up_self]
              · intro j
                show r6 7 (0 + j) = if j = c then 1 else r 7 (0 + j)
                rw [er6, up_other (by decide), up_other (by decide), r5o 7 (by decide), er4, up_other (by decide), up_other (by decide), up_get, sil.1 7 (by decide), r2o 7 (by decide), show (0 : Int) + j = j by omega]
              · intro j
                show r6 17 (16 + j) = if j = cnt then k else r 17 (16 + j)
                rw [er6, up_other (by decide), up_other (by decide), r5o 17 (by decide), er4, up_other (by decide), up_get, up_other (by decide), sil.1 17 (by decide), r2o 17 (by decide)]
                by_cases w : j = cnt
                · rw [if_pos w, if_pos (by omega)]
                · rw [if_neg w, if_neg (by omega)]
              · intro j
                show r6 18 (16 + j) = if j = cnt then c else r 18 (16 + j)
                rw [er6, up_other (by decide), up_other (by decide), r5o 18 (by decide), er4, up_get, up_other (by decide), up_other (by decide), sil.1 18 (by decide), r2o 18 (by decide)]
                by_cases w : j = cnt
                · rw [if_pos w, if_pos (by omega)]
                · rw [if_neg w, if_neg (by omega)]
              · intro j
                show r6 19 (16 + j) = if j = cnt then t else r 19 (16 + j)
                rw [er6, up_other (by decide), up_get, r5o 19 (by decide), r4o 19 (by decide) (by decide) (by decide) (by decide)]
                by_cases w : j = cnt
                · rw [if_pos w, if_pos (by omega)]
                · rw [if_neg w, if_neg (by omega)]
            refine ⟨a + 1 + 1 + 2 + 1, q5, r6, by omega, h'.next ?_ ?_ ?_ ?_ ?_ ?_ pp ?_ ?_, ?_, ?_⟩
            · rw [eq5, er6]
              exact (((((hT5.upC (by omega)).upC (by omega)).upC (by omega)).upC (by omega)).upR (by decide)).up11 (by omega)
            · intro j j0 j1
              rw [q546, up_slot (by omega)]
            · rw [q546, up_self]
            · intro j hj
              exact r6j j (by omega) (by omega) (by omega) (by omega)
            · exact r6o 4 (by decide) (by decide) (by decide)
            · rw [er6, up_slot (by decide), up_other (by decide), r5j 37 (by omega)]; exact r437
            · rw [eq5]
              have f4 : fxC q0 q4 := by rw [eq4]; exact fxC_adv fc3 hp00
              exact fxC_up (fxC_up (fxC_up (fxC_up f4 (Or.inr (by omega)) hp00) (Or.inr (by omega)) hp00) (Or.inr (by omega)) hp00) (Or.inr (by omega)) hp00
            · rw [er6]
              have f5 : fxR r0 r5 := by rw [er5]; exact fxR_tok (fxR_0 fr4 (by omega))
              exact fxR_0 (fxR_5 f5 (by decide) (by decide) (by rw [show off 19 = 16 from rfl]; omega)) (by omega)
            · intro K hk
              refine begC3 K (ct _ ?_)
              rw [if_pos t0, q41]
              exact ⟨sP, run_add1 q433 (by omega) (by omega) (by omega) (by omega) (by omega) (by rw [← eq5]; exact hk)⟩
            · intro K hk
              refine begL K (begR3 _ (rt _ ?_))
              rw [if_pos (by decide), r530, r511, w32_eq (by omega) (by omega)]
              refine ⟨⟨by omega, by omega⟩, ?_⟩
              intro g9 e9
              rw [show g9 0 30 = cnt by rw [e9, up_other (by decide)]; exact r530, w32_eq (by omega) (by omega)]
              intro g10 e10
              rw [e10, e9, ← er6]; exact hk
          · left
            refine ⟨_, _, PBad.of hT4 fc3 fr4 hp00 e0, fun K hk => begC3 K (ct _ ?_), fun K hk => begL K (begR3 _ (rt _ ?_))⟩
            · rw [if_neg (by decide)]; exact hk
            · rw [if_neg (by decide)]; exact run_458_0 hk
    · have z2 : ¬ r1 0 8 = 2 := fun y => z (m1.mpr y)
      simp only [if_neg z] at begC
      simp only [if_neg z2] at begR
      left
      refine ⟨_, _, PBad.of hT1 fc1 fr1 hp00 (e := 1) (by decide), fun K hk => begC K ?_, fun K hk => begL K (begR _ ?_)⟩
      · exact run_refuse hk
      · exact run_wrong (run_458_0 hk)
