theorem tw_skater {B : Int → Int} {n : Int} {m a : Nat} {q0 r0 q r : Mh} (h : PR B n m a q0 r0 q r) (h8 : r 0 8 = 1) (h9 : r 0 9 = 6) : LineOut (wp_X9_readPlaced (q 46 1 + 29) (q 46 1 + 31) q) B n m a q0 r0 r := by
  have am := h.am h8
  have hp0 := h.p0
  obtain ⟨hT, hF, hPP, hE, hc, hr⟩ := h
  have hP : q 46 1 = q0 46 1 := hc.1
  have sP := shC_P hp0
  have nP := P_ne hp0
  have hq := hp0
  unfold isP at hq
  have hq1 : isP (q 46 1) := by rw [hP]; exact hp0
  have qv0 : qv q 53 0 = q0 46 1 := by rw [qv_0]; exact hP
  have gP : ∀ o, q0 46 1 ≤ o → o ≤ q0 46 1 + 39 → qv q o = q o := fun o x y => qv_get hq1 (by omega) (by omega)
  have R16 : rv r 0 16 = r 0 29 := rfl
  have R12 : rv r 0 12 = r 0 25 := rfl
  have R13 : rv r 0 13 = r 0 26 := rfl
  have hd := hPP.1.1
  have hcr := hPP.1.2.2.2.2.1
  have hgr := hPP.2.1
  have cr1 := hcr.1
  have cr2 := hcr.2.2.1
  have crm := hcr.2.1
  unfold RDim at hd
  rw [qv0, gP (q0 46 1) (by omega) (by omega), R12, R13] at hd
  obtain ⟨_, _, dw, dh, dprm, _⟩ := hd
  have dsz := dprm.1
  rw [R12, R13] at dsz
  have mz := szs_mul dsz
  unfold RRow at cr1 cr2
  rw [qv0, R16] at cr1 cr2
  rw [gP (q0 46 1 + 29) (by omega) (by omega), gP (q0 46 1 + 29 + 1) (by omega) (by omega)] at cr1
  rw [gP (q0 46 1 + 31) (by omega) (by omega)] at cr2
  rw [R16] at crm
  obtain ⟨cnt, ecnt⟩ : ∃ cnt, cnt = r 0 29 := ⟨_, rfl⟩
  rw [← ecnt] at cr1 cr2 crm
  obtain ⟨k1, k0, k2⟩ := cr1
  have j1 := cr2.1
  have hg : ∀ c, 0 ≤ c → c < 48 → (bit (q (q0 46 1) 2) c = true ↔ r 5 (48 + c) = 2) := by
    intro c c0 c1
    have := hgr.1 c c0 c1
    unfold cg at this
    rw [qv0, gP (q0 46 1) (by omega) (by omega)] at this
    have e5 : rv r 5 c = r 5 (48 + c) := rfl
    rw [← e5, this]
    by_cases z : bit (q (q0 46 1) 2) c = true
    · rw [if_pos z]; exact ⟨fun _ => rfl, fun _ => z⟩
    · rw [if_neg z]
      refine ⟨fun y => absurd y z, fun y => ?_⟩
      split at y <;> omega
  have s1 : (shC (q0 46 1 + 29)).1 = 6 := by rcases hq with e | e <;> rw [e] <;> rfl
  have s3 : (shC (q0 46 1 + 31)).1 = 6 := by rcases hq with e | e <;> rw [e] <;> rfl
  have s2 : ((shC (q0 46 1 + 29 + 1)).2 : Int) = 3 := by rcases hq with e | e <;> rw [e] <;> rfl
  have s4 : ((shC (q0 46 1 + 31 + 1)).2 : Int) = 3 := by rcases hq with e | e <;> rw [e] <;> rfl
  rw [hP]
  by_cases full : cnt = 3
  · left
    refine ⟨_, _, PBad.of hT hc hr hp0 (e := 2) (by decide), fun K hk => ?_, fun K hk => ?_⟩
    · unfold wp_X9_readPlaced wp_X7_isFull
      refine ⟨s1, ?_⟩
      rw [k1, s2, if_neg (by omega)]
      dsimp only
      unfold wp_X9_beginCells
      rw [if_neg (by decide)]
      refine run_refuse ?_
      dsimp only
      rw [if_pos rfl]; exact hk
    · unfold wp_X14_lineRead
      rw [h8, h9, if_neg (by decide), if_pos (by decide), if_neg (by decide), if_neg (by decide), if_neg (by decide), if_neg (by decide), if_neg (by decide), if_neg (by decide), if_pos (by decide), if_neg (fun y => y (by omega))]
      exact run_wrong hk
  · have hT1 := (hT.upC (o := 46) (k := 9) (v := 1) (by decide)).step am
    have fc1 : fxC q0 (advC (up q 46 9 1)) := fxC_adv (fxC_up hc (Or.inl (by omega)) hp0) hp0
    have fr1 : fxR r0 (tokR r) := fxR_tok hr
    have A1 : ∀ o, ¬ o = 46 → ¬ o = 49 → advC (up q 46 9 1) o = q o := fun o x y => by rw [advC_o y, up_other x]
    have T1 : ∀ o, ¬ o = 0 → tokR r o = r o := fun o x => tokR_o x
    have Tj : ∀ j, ¬ (7 ≤ j ∧ j ≤ 10) → tokR r 0 j = r 0 j := fun j x => tokR_j x
    have begC : ∀ K : Int → Mh → Prop, wp_X9_readNewName (q0 46 1 + 29) (advC (up q 46 9 1)) (fun x3 h3 => if ¬ x3 = 0 then (((shC (h3 46 1)).1 = 4) ∧ wp_X9_readCell (h3 (h3 46 1) 2) h3 (fun x4 h4 => if 0 ≤ x4 then (((shC (q0 46 1 + 31)).1 = 6) ∧ wp_X7_add shC (q0 46 1 + 31) x4 h4 (fun h5 => K 1 h5)) else (K 0 h4))) else (K 0 h3)) → wp_X9_readPlaced (q0 46 1 + 29) (q0 46 1 + 31) q K := by
      intro K hk
      unfold wp_X9_readPlaced wp_X7_isFull
      refine ⟨s1, ?_⟩
      rw [k1, s2, if_pos (by omega)]
      dsimp only
      unfold wp_X9_beginCells
      rw [if_pos rfl]
      intro h1 q1
      rw [q1]
      refine (hT.upC (by decide)).runC ?_
      dsimp only
      rw [if_neg (by decide)]
      exact hk
    have begR : ∀ K : Int → Mh → Prop, wp_X14_newName 15 3 cnt (tokR r) (fun x7 h12 => if x7 = 0 then (Lfp (F_X14_lineRead K) (313, [], h12)) else (wp_X14_waterRead h12 (fun x8 h13 => if x8 = 0 then (Lfp (F_X14_lineRead K) (313, [], h13)) else (Lfp (F_X14_lineRead K) (314, [1], h13))))) → wp_X14_lineRead r K := by
      intro K hk
      unfold wp_X14_lineRead
      rw [h8, h9, if_neg (by decide), if_pos (by decide), if_neg (by decide), if_neg (by decide), if_neg (by decide), if_neg (by decide), if_neg (by decide), if_neg (by decide), if_pos (by decide), if_pos (fun y => full (by omega))]
      refine hT.runR ?_
      rw [Tj 29 (by omega), ← ecnt]
      exact hk
    have l261 : ∀ (K : Int → Mh → Prop) (g : Mh) (s0 d : Int), g 0 29 = cnt → (d = 0 ∨ d = 1) → Lfp (F_X14_lineRead K) (458, [s0], up g 0 29 (cnt + d)) → Lfp (F_X14_lineRead K) (344, [s0, g 0 29, d], g) := by
      intro K g s0 d g1 hd2 hk
      apply L_X14_lineRead_344
      unfold B_X14_lineRead_344
      rw [g1, w32_eq (by omega) (by omega)]
      intro h1 q1
      rw [q1]; exact hk
    have l229 : ∀ (K : Int → Mh → Prop) (g : Mh), g 0 29 = cnt → K 0 (up (up g 16 (3 + cnt) (g 0 11)) 0 29 (cnt + 0)) → Lfp (F_X14_lineRead K) (313, [], g) := by
      intro K g g1 hk
      apply L_X14_lineRead_313
      unfold B_X14_lineRead_313
      apply L_X14_lineRead_314
      unfold B_X14_lineRead_314
      rw [g1, w32_eq (by omega) (by omega)]
      refine ⟨⟨by omega, by omega⟩, ?_⟩
      intro h1 q1
      rw [if_pos rfl]
      refine l261 K h1 0 0 (by rw [q1, up_other (by decide)]; exact g1) (Or.inl rfl) ?_
      rw [q1]; exact run_458_0 hk
    have l230 : ∀ (K : Int → Mh → Prop) (g : Mh), g 0 29 = cnt → Lfp (F_X14_lineRead K) (458, [1], up (up g 16 (3 + cnt) (g 0 11)) 0 29 (cnt + 1)) → Lfp (F_X14_lineRead K) (314, [1], g) := by
      intro K g g1 hk
      apply L_X14_lineRead_314
      unfold B_X14_lineRead_314
      rw [g1, w32_eq (by omega) (by omega)]
      refine ⟨⟨by omega, by omega⟩, ?_⟩
      intro h1 q1
      rw [if_neg (by decide)]
      refine l261 K h1 1 1 (by rw [q1, up_other (by decide)]; exact g1) (Or.inr rfl) ?_
      rw [q1]; exact hk
    have o1 : off 15 = 3 := rfl
    have o2 : off 16 = 3 := rfl
    have PQ : ∀ (g s : Mh), PBad q0 r0 g s → PBad q0 r0 g (up (up s 16 (3 + cnt) (s 0 11)) 0 29 (cnt + 0)) := by
      intro g s hb
      have f1 : fxR r0 (up s 16 (3 + cnt) (s 0 11)) := fxR_5 hb.2.1 (by decide) (by decide) (by rw [o2]; omega)
      exact (hb.upR f1 (by omega)).upR (fxR_0 f1 (by omega)) (by omega)
    rcases tw_name (row := q0 46 1 + 29) (arr := 15) (base := 3) (cnt := cnt) hT1 s1 (by omega) k0 (by omega) (by omega) (by rw [A1 _ (by omega) (by omega)]; exact k1) (fun j x0 x1 => by
        rw [A1 _ (by omega) (by omega), T1 15 (by decide)]
        have := k2 j x0 x1
        rw [this, show (0 : Int) + j = j by omega]; rfl) rfl (by decide) (by decide) (by rw [show ((shR 15).2 : Int) = 6 from rfl]; omega) (by decide) with ⟨v, bm, hT2, cv, rv1⟩ | ⟨e, e0, cv, rv1⟩
    · obtain ⟨q2, eq2⟩ : ∃ q2, q2 = advC (up (up (advC (up q 46 9 1)) (q0 46 1 + 29 + 1) cnt v) (q0 46 1 + 29) 1 (cnt + 1)) := ⟨_, rfl⟩
      obtain ⟨r2, er2⟩ : ∃ r2, r2 = tokR (up (tokR r) 15 (3 + cnt) v) := ⟨_, rfl⟩
      rw [← eq2, ← er2] at hT2
      rw [← eq2] at cv
      rw [← er2] at rv1
      have fc2 : fxC q0 q2 := by rw [eq2]; exact fxC_adv (fxC_up (fxC_up fc1 (Or.inr (by omega)) hp0) (Or.inr (by omega)) hp0) hp0
      have fr2 : fxR r0 r2 := by rw [er2]; exact fxR_tok (fxR_5 fr1 (by decide) (by decide) (by rw [o1]; omega))
      have q2o : ∀ o, ¬ o = 46 → ¬ o = 49 → ¬ o = q0 46 1 + 29 + 1 → ¬ o = q0 46 1 + 29 → q2 o = q o := fun o x y z w => by rw [eq2, advC_o y, up_other w, up_other z, A1 o x y]
      have q246 : q2 46 = up q 46 9 1 46 := by rw [eq2, advC_o (by decide), up_other (by omega), up_other (by omega), advC_o (by decide)]
      have r2o : ∀ o, ¬ o = 0 → ¬ o = 15 → r2 o = r o := fun o x y => by rw [er2, tokR_o x, up_other y, tokR_o x]
      have r2j : ∀ j, ¬ (7 ≤ j ∧ j ≤ 10) → r2 0 j = r 0 j := fun j x => by rw [er2, tokR_j x, up_other (by decide), tokR_j x]
      have q21 : q2 46 1 = q0 46 1 := by rw [q246, up_slot (by decide)]; exact hP
      rcases tw_water (fb := q2 (q2 46 1) 2) (w := r 0 25) (hh := r 0 26) hT2 fc2 fr2 hp0 (by rw [q2o _ (by omega) (by omega) (by omega) (by omega)]; exact dw) (r2j 25 (by omega)) (by rw [q2o _ (by omega) (by omega) (by omega) (by omega)]; exact dh) (r2j 26 (by omega)) dsz (fun c c0 c1 => by
          rw [q21, q2o _ (by omega) (by omega) (by omega) (by omega), r2o 5 (by decide) (by decide)]; exact hg c c0 c1) with ⟨q', r', pb, pj, cc, rc⟩ | ⟨c, r', c0, c1, c5, dm, hT3, sil, r11, r37, cc, rc⟩
      · left
        have gz : r' 0 29 = cnt := by rw [pj 29 (by decide) (by decide), r2j 29 (by omega)]; exact ecnt.symm
        refine ⟨_, _, PQ _ _ pb, fun K hk => begC K (cv _ ?_), fun K hk => begR K (rv1 _ ?_)⟩
        · rw [if_pos (by decide)]
          refine ⟨by rw [q21]; exact sP, cc _ ?_⟩
          rw [if_neg (by decide)]; exact hk
        · rw [if_neg (by decide)]
          refine rc _ ?_
          rw [if_pos rfl]
          exact l229 K _ gz hk
      · right
        have rcf : up r' 7 c 1 0 29 = cnt := by rw [up_other (by decide), sil.2 29 (by omega) (by omega) (by omega), r2j 29 (by omega)]; exact ecnt.symm
        have r11b : up r' 7 c 1 0 11 = c := by rw [up_other (by decide)]; exact r11
        obtain ⟨q3, eq3⟩ : ∃ q3, q3 = advC (advC q2) := ⟨_, rfl⟩
        rw [← eq3] at hT3 cc
        have q3o : ∀ o, ¬ o = 49 → q3 o = q2 o := fun o x => by rw [eq3, advC_o x, advC_o x]
        have q31 : q3 46 1 = q0 46 1 := by rw [q3o 46 (by decide)]; exact q21
        have q327 : q3 (q0 46 1 + 31) 1 = cnt := by rw [q3o _ (by omega), q2o _ (by omega) (by omega) (by omega) (by omega)]; exact j1
        obtain ⟨g1, eg1⟩ : ∃ g1, g1 = up (up (advC (up q 46 9 1)) (q0 46 1 + 29 + 1) cnt v) (q0 46 1 + 29) 1 (cnt + 1) := ⟨_, rfl⟩
        have a461 : advC (up q 46 9 1) 46 1 = q0 46 1 := by rw [advC_o (by decide), up_slot (by decide)]; exact hP
        have b461 : up (advC (up q 46 9 1)) (q0 46 1 + 29 + 1) cnt v 46 1 = q0 46 1 := by rw [up_other (by omega)]; exact a461
        have c461 : up (up (advC (up q 46 9 1)) (q0 46 1 + 29 + 1) cnt v) (q0 46 1 + 29) 1 (cnt + 1) 46 1 = q0 46 1 := by rw [up_other (by omega)]; exact b461
        have d461 : up q3 (q0 46 1 + 31 + 1) cnt c 46 1 = q0 46 1 := by rw [up_other (by omega)]; exact q31
        have qvv : qv (up (up q3 (q0 46 1 + 31 + 1) cnt c) (q0 46 1 + 31) 1 (cnt + 1)) = up (up (up (up (qv q) (q0 46 1 + 30) cnt v) (q0 46 1 + 29) 1 (cnt + 1)) (q0 46 1 + 32) cnt c) (q0 46 1 + 31) 1 (cnt + 1) := by
          rw [qv_up (by rw [d461]; exact hp0) (by omega) (by omega) (by omega) (by omega), qv_up (by rw [q31]; exact hp0) (by omega) (by omega) (by omega) (by omega), eq3, qv_adv (by rw [advC_o (by decide), q21]; exact hp0), qv_adv (by rw [q21]; exact hp0), eq2, qv_adv (by rw [c461]; exact hp0), qv_up (by rw [b461]; exact hp0) (by omega) (by omega) (by omega) (by omega), qv_up (by rw [a461]; exact hp0) (by omega) (by omega) (by omega) (by omega), qv_adv (by rw [up_slot (by decide)]; exact hq1), qv_scr hq1 (by decide) (by decide) (by decide)]
          rw [show q0 46 1 + 29 + 1 = q0 46 1 + 30 by omega, show q0 46 1 + 31 + 1 = q0 46 1 + 32 by omega]
        have o7 : c = off 7 + c := by rw [show off 7 = 0 from rfl]; omega
        have rvv : rv (up (up (up r' 7 c 1) 16 (3 + cnt) c) 0 29 (cnt + 1)) = up (up (up (up (rv r) 15 cnt v) 7 c 1) 16 cnt c) 0 16 (cnt + 1) := by
          rw [show (29 : Int) = 16 + 13 from rfl, rv_cnt (by decide) (by decide) (by decide) (by decide), show (3 : Int) + cnt = off 16 + cnt from rfl, rv_arr (by decide) (by decide) (by decide)]
          have e7 : rv (up r' 7 c 1) = up (rv r') 7 c 1 := by
            have := rv_arr (r := r') (o := 7) (k := c) (v := 1) (by decide) (by decide) (by decide)
            rw [← o7] at this
            exact this
          rw [e7, rv_sil sil, er2, rv_tok, show (3 : Int) + cnt = off 15 + cnt from rfl, rv_arr (by decide) (by decide) (by decide), rv_tok]
        have wc : watR (rv r) c := ⟨c0, c1, by
          have e5 : rv r 5 c = r 5 (48 + c) := rfl
          rw [e5, ← r2o 5 (by decide) (by decide)]; exact c5⟩
        have pp := hPP.skater (v := v) (c := c) (by rw [R16, ← ecnt]; omega) wc
        rw [qv0, R16, ← ecnt] at pp
        refine ⟨a + 1 + 1 + 2, up (up q3 (q0 46 1 + 31 + 1) cnt c) (q0 46 1 + 31) 1 (cnt + 1), up (up (up r' 7 c 1) 16 (3 + cnt) c) 0 29 (cnt + 1), by omega, ⟨?_, ?_, ?_, ?_, ?_, ?_⟩, ?_, ?_⟩
        · exact (((hT3.upC (by omega)).upC (by omega)).upR (by decide)).up11 (by omega)
        · obtain ⟨b1, b2, b3, b4, b5, b6, b7, b8, b9, b10, b11⟩ := hF
          have k46 : up (up q3 (q0 46 1 + 31 + 1) cnt c) (q0 46 1 + 31) 1 (cnt + 1) 46 = up q 46 9 1 46 := by rw [up_other (by omega), up_other (by omega), q3o 46 (by decide)]; exact q246
          have rj : ∀ j, ¬ (7 ≤ j ∧ j ≤ 11) → ¬ j = 37 → ¬ j = 62 → ¬ j = 29 → up (up (up r' 7 c 1) 16 (3 + cnt) c) 0 29 (cnt + 1) 0 j = r 0 j := fun j x y z w => by rw [up_slot w, up_other (by decide), up_other (by decide), sil.2 j x y z, r2j j (by omega)]
          have r4 : up (up (up r' 7 c 1) 16 (3 + cnt) c) 0 29 (cnt + 1) 4 = r 4 := by rw [up_other (by decide), up_other (by decide), up_other (by decide), sil.1 4 (by decide), r2o 4 (by decide) (by decide)]
          have r37b : up (up (up r' 7 c 1) 16 (3 + cnt) c) 0 29 (cnt + 1) 0 37 = 1 := by rw [up_slot (by decide), up_other (by decide), up_other (by decide)]; exact r37
          unfold PFlag
          rw [k46, up_self, up_slot (b := 46) (j := 1) (by decide), up_slot (b := 46) (j := 2) (by decide), up_slot (b := 46) (j := 3) (by decide), up_slot (b := 46) (j := 5) (by decide), up_slot (b := 46) (j := 6) (by decide), up_slot (b := 46) (j := 7) (by decide), up_slot (b := 46) (j := 8) (by decide)]
          rw [rj 4 (by omega) (by omega) (by omega) (by omega), rj 5 (by omega) (by omega) (by omega) (by omega), rj 36 (by omega) (by omega) (by omega) (by omega), rj 38 (by omega) (by omega) (by omega) (by omega), rj 68 (by omega) (by omega) (by omega) (by omega), r4, r37b]
          exact ⟨b1, b2, b3, b4, b5, b6, b7, b8, b9, rfl, b11⟩
        · rw [qvv, rvv]; exact pp
        · intro y
          rw [up_slot (by decide), up_other (by decide), up_other (by decide), r37] at y
          exact absurd y (by decide)
        · exact fxC_up (fxC_up (by rw [eq3]; exact fxC_adv (fxC_adv fc2 hp0) hp0) (Or.inr (by omega)) hp0) (Or.inr (by omega)) hp0
        · exact fxR_0 (fxR_5 (fxR_3 (sil.fx fr2) (by omega)) (by decide) (by decide) (by rw [o2]; omega)) (by omega)
        · intro K hk
          refine begC K (cv _ ?_)
          rw [if_pos (by decide)]
          refine ⟨by rw [q21]; exact sP, cc _ ?_⟩
          rw [if_pos c0]
          exact ⟨s3, run_add q327 k0 (by omega) (by omega) hk⟩
        · intro K hk
          refine begR K (rv1 _ ?_)
          rw [if_neg (by decide)]
          refine rc _ ?_
          rw [if_neg (by decide)]
          refine l230 K _ rcf ?_
          rw [r11b]; exact hk
    · left
      have pb := PBad.of hT1 fc1 fr1 hp0 e0
      refine ⟨_, _, PQ _ _ pb, fun K hk => begC K (cv _ ?_), fun K hk => begR K (rv1 _ ?_)⟩
      · rw [if_neg (by decide)]; exact hk
      · rw [if_pos rfl]
        refine l229 K _ ?_ hk
        unfold wgR
        rw [up_slot (by decide), up_slot (by decide), Tj 29 (by omega)]; exact ecnt.symm
