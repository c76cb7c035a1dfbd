/-! ===== the line of the sizes ===== -/
theorem PP.size {Q R : Mh} {x y : Int} (h : PP Q R) (he : PEmp Q R) (hz : szs x y) : PP (up (up Q (Q 53 0) 0 x) (Q 53 0) 1 y) (up (up R 0 12 x) 0 13 y) := by
  have hd := h.1.1
  have hp := hd.1
  unfold isP at hp
  have e53 : up (up Q (Q 53 0) 0 x) (Q 53 0) 1 y 53 = Q 53 := by rw [up_other (by omega), up_other (by omega)]
  have e0 : up (up Q (Q 53 0) 0 x) (Q 53 0) 1 y 0 = Q 0 := by rw [up_other (by omega), up_other (by omega)]
  have eP : ∀ j, ¬ j = 0 → ¬ j = 1 → up (up Q (Q 53 0) 0 x) (Q 53 0) 1 y (Q 53 0) j = Q (Q 53 0) j := fun j a b => by rw [up_slot b, up_slot a]
  have eR : ∀ j, ¬ j = 12 → ¬ j = 13 → up (up R 0 12 x) 0 13 y 0 j = R 0 j := fun j a b => by rw [up_slot b, up_slot a]
  have e12 : up (up R 0 12 x) 0 13 y 0 12 = x := by rw [up_slot (by decide), up_self]
  have e13 : up (up R 0 12 x) 0 13 y 0 13 = y := up_self
  refine h.dim ?_ (by rw [e53]) (by rw [e53]) (eP 2 (by decide) (by decide)) (fun o z => by rw [up_other (by omega), up_other (by omega)]) (fun o z => by rw [up_other z, up_other z]) (fun j a b => eR j (by omega) (by omega)) (Or.inr he) ?_
  · obtain ⟨a, b, c, d, ⟨e1, e2, e3⟩, f, g, k, l⟩ := hd
    unfold RDim prm
    rw [e53, e0, eP 17 (by decide) (by decide), eP 18 (by decide) (by decide), eP 19 (by decide) (by decide), eR 21 (by decide) (by decide), eR 22 (by decide) (by decide), eR 23 (by decide) (by decide), e12, e13]
    exact ⟨a, b, by rw [up_slot (by decide), up_self], up_self, ⟨hz, e2, e3⟩, f, g, k, l⟩
  · obtain ⟨a, b, c⟩ := h.2.1
    have hb := he.2.2.2.2.2
    unfold RGr cg
    rw [e53, eP 2 (by decide) (by decide), e12, e13, up_other (b := 5) (by decide), up_other (b := 5) (by decide)]
    refine ⟨a, ?_, ?_⟩
    · intro c c0 c1 hc
      rw [(hb c c0 c1).1] at hc; cases hc
    · intro c c0 c1 hc
      rw [(hb c c0 c1).2] at hc; cases hc
theorem tw_pond {B : Int → Int} {n : Int} {m a : Nat} {q0 r0 q r : Mh} (h : PR B n m a q0 r0 q r) (h8 : r 0 8 = 1) (h9 : r 0 9 = 0) : LineOut (wp_X9_readPond q) B n m a q0 r0 r := by
  have am := h.am h8
  have hp0 := h.p0
  obtain ⟨hT, hF, hPP, hE, hc, hr⟩ := h
  have hP : q 46 1 = q0 46 1 := hc.1
  have sP := shC_P hp0
  have nP := P_ne hp0
  have hq := hp0
  unfold isP at hq
  have f5 : q 46 5 = r 0 36 := hF.2.2.2.2.2.1
  have f9 : q 46 9 = r 0 37 := hF.2.2.2.2.2.2.2.2.2.1
  by_cases z : r 0 36 = 0
  · by_cases y : r 0 37 = 0
    · have begR : ∀ K : Int → Mh → Prop, wp_X14_number 1 8 (tokR (up r 0 36 1)) (fun x2 h4 => if ¬ x2 = 0 then (∀ h5 : Mh, h5 = up h4 0 25 (h4 0 11) → wp_X14_number 1 6 h5 (fun x3 h6 => ∀ h7 : Mh, h7 = up h6 0 26 (h6 0 11) → Lfp (F_X14_lineRead K) (458, [x3], h7))) else (K 0 h4)) → wp_X14_lineRead r K := by
        intro K hk
        unfold wp_X14_lineRead
        rw [h8, h9, if_neg (by decide), if_pos (by decide), if_pos rfl, if_pos z, if_pos y]
        intro h2 q2
        rw [q2]
        exact (hT.up11 (by omega)).runR hk
      have begC : ∀ K : Int → Mh → Prop, wp_X9_readNumber 1 8 (advC (up q 46 5 1)) (fun x1 h3 => if 0 ≤ x1 then (wp_X9_readNumber 1 6 h3 (fun x2 h4 => if 0 ≤ x2 then (((shC (h4 46 1)).1 = 4) ∧ ∀ h5 : Mh, h5 = up h4 (h4 46 1) 0 x1 → ((shC (h5 46 1)).1 = 4) ∧ ∀ h6 : Mh, h6 = up h5 (h5 46 1) 1 x2 → K 1 h6) else (K 0 h4))) else (if 0 ≤ ((-1) : Int) then (((shC (h3 46 1)).1 = 4) ∧ ∀ h7 : Mh, h7 = up h3 (h3 46 1) 0 x1 → ((shC (h7 46 1)).1 = 4) ∧ ∀ h8 : Mh, h8 = up h7 (h7 46 1) 1 (-1) → K 1 h8) else (K 0 h3))) → wp_X9_readPond q K := by
        intro K hk
        unfold wp_X9_readPond
        rw [f5, f9, if_pos z, if_pos y]
        intro h1 q1
        rw [q1]
        exact (hT.upC (by decide)).runC hk
      have hT1 := ((hT.upC (o := 46) (k := 5) (v := 1) (by decide)).up11 (k := 36) (v := 1) (by omega)).step am
      have fc1 : fxC q0 (advC (up q 46 5 1)) := fxC_adv (fxC_up hc (Or.inl (by omega)) hp0) hp0
      have fr1 : fxR r0 (tokR (up r 0 36 1)) := fxR_tok (fxR_0 hr (by omega))
      rcases tw_num (lo := 1) (hi := 8) hT1 (by omega) with ⟨x, x0, x1, xp, bm, hT2, cx, rx⟩ | ⟨e, e0, cx, rx⟩
      · obtain ⟨r2, er2⟩ : ∃ r2, r2 = tokR (up (tokR (up r 0 36 1)) 0 11 x) := ⟨_, rfl⟩
        rw [← er2] at hT2 rx
        have r211 : r2 0 11 = x := by rw [er2, tokR_j (by omega), up_self]
        have r2j : ∀ j, ¬ (7 ≤ j ∧ j ≤ 11) → ¬ j = 36 → r2 0 j = r 0 j := fun j y1 y2 => by rw [er2, tokR_j (by omega), up_slot (by omega), tokR_j (by omega), up_slot y2]
        have r236 : r2 0 36 = 1 := by rw [er2, tokR_j (by omega), up_slot (by decide), tokR_j (by omega), up_self]
        have r2o : ∀ o, ¬ o = 0 → r2 o = r o := fun o y => by rw [er2, tokR_o y, up_other y, tokR_o y, up_other y]
        have fr2 : fxR r0 r2 := by rw [er2]; exact fxR_tok (fxR_0 fr1 (by omega))
        have fc2 := fxC_adv fc1 hp0
        have hT2b := hT2.up11 (k := 25) (v := x) (by omega)
        have begR2 : ∀ K : Int → Mh → Prop, wp_X14_number 1 6 (up r2 0 25 x) (fun x3 h6 => ∀ h7 : Mh, h7 = up h6 0 26 (h6 0 11) → Lfp (F_X14_lineRead K) (458, [x3], h7)) → wp_X14_lineRead r K := by
          intro K hk
          refine begR K (rx _ ?_)
          rw [if_pos (by decide), r211]
          intro h5 q5
          rw [q5]; exact hk
        have begC2 : ∀ K : Int → Mh → Prop, wp_X9_readNumber 1 6 (advC (advC (up q 46 5 1))) (fun x2 h4 => if 0 ≤ x2 then (((shC (h4 46 1)).1 = 4) ∧ ∀ h5 : Mh, h5 = up h4 (h4 46 1) 0 x → ((shC (h5 46 1)).1 = 4) ∧ ∀ h6 : Mh, h6 = up h5 (h5 46 1) 1 x2 → K 1 h6) else (K 0 h4)) → wp_X9_readPond q K := by
          intro K hk
          refine begC K (cx _ ?_)
          rw [if_pos xp]; exact hk
        rcases tw_num (lo := 1) (hi := 6) hT2b (by omega) with ⟨w, w0, w1, wp, dm, hT3, cw, rw1⟩ | ⟨e, e0, cw, rw1⟩
        · right
          obtain ⟨r3, er3⟩ : ∃ r3, r3 = tokR (up (up r2 0 25 x) 0 11 w) := ⟨_, rfl⟩
          rw [← er3] at hT3 rw1
          have r311 : r3 0 11 = w := by rw [er3, tokR_j (by omega), up_self]
          have r3j : ∀ j, ¬ (7 ≤ j ∧ j ≤ 11) → ¬ j = 36 → ¬ j = 25 → r3 0 j = r 0 j := fun j y1 y2 y3 => by rw [er3, tokR_j (by omega), up_slot (by omega), up_slot y3, r2j j y1 y2]
          have r3o : ∀ o, ¬ o = 0 → r3 o = r o := fun o y => by rw [er3, tokR_o y, up_other y, up_other y, r2o o y]
          have r336 : r3 0 36 = 1 := by rw [er3, tokR_j (by omega), up_slot (by decide), up_slot (by decide)]; exact r236
          obtain ⟨g, eg⟩ : ∃ g, g = advC (advC (advC (up q 46 5 1))) := ⟨_, rfl⟩
          rw [← eg] at hT3 cw
          have g46 : g 46 = up q 46 5 1 46 := by rw [eg, advC_o (by decide), advC_o (by decide), advC_o (by decide)]
          have g1 : g 46 1 = q0 46 1 := by rw [g46, up_slot (by decide)]; exact hP
          have fg : fxC q0 g := by rw [eg]; exact fxC_adv (fxC_adv fc1 hp0) hp0
          have qvg : qv g = qv q := by
            have u1 : isP (up q 46 5 1 46 1) := by rw [up_slot (by decide), hP]; exact hp0
            have u2 : isP (advC (up q 46 5 1) 46 1) := by rw [advC_o (by decide)]; exact u1
            have u3 : isP (advC (advC (up q 46 5 1)) 46 1) := by rw [advC_o (by decide)]; exact u2
            rw [eg, qv_adv u3, qv_adv u2, qv_adv u1, qv_scr (by rw [hP]; exact hp0) (by decide) (by decide) (by decide)]
          have g11 : up g (q0 46 1) 0 x 46 1 = q0 46 1 := by rw [up_other (by omega)]; exact g1
          have qvv : qv (up (up g (q0 46 1) 0 x) (q0 46 1) 1 w) = up (up (qv q) (q0 46 1) 0 x) (q0 46 1) 1 w := by
            rw [qv_up (by rw [g11]; exact hp0) (by omega) (by omega) (by omega) (by omega), qv_up (by rw [g1]; exact hp0) (by omega) (by omega) (by omega) (by omega), qvg]
          have rvv : rv (up r3 0 26 w) = up (up (rv r) 0 12 x) 0 13 w := by
            rw [show (26 : Int) = 13 + 13 from rfl, rv_cnt (by decide) (by decide) (by decide) (by decide), er3, rv_tok, rv_scr (by omega), show (25 : Int) = 12 + 13 from rfl, rv_cnt (by decide) (by decide) (by decide) (by decide), er2, rv_tok, rv_scr (by omega), rv_tok, rv_scr (by omega)]
          have qv0 : qv q 53 0 = q0 46 1 := by rw [qv_0]; exact hP
          have pp := hPP.size (hE y) (x := x) (y := w) ⟨⟨x0, x1⟩, w0, w1⟩
          rw [qv0] at pp
          refine ⟨a + 1 + 1 + 1, up (up g (q0 46 1) 0 x) (q0 46 1) 1 w, up r3 0 26 w, by omega, ⟨?_, ?_, ?_, ?_, ?_, ?_⟩, ?_, ?_⟩
          · exact ((hT3.upC (by omega)).upC (by omega)).up11 (by omega)
          · obtain ⟨b1, b2, b3, b4, b5, b6, b7, b8, b9, b10, b11⟩ := hF
            have k46 : up (up g (q0 46 1) 0 x) (q0 46 1) 1 w 46 = up q 46 5 1 46 := by rw [up_other (by omega), up_other (by omega)]; exact g46
            unfold PFlag
            rw [k46, up_self, up_slot (b := 46) (j := 1) (by decide), up_slot (b := 46) (j := 2) (by decide), up_slot (b := 46) (j := 3) (by decide), up_slot (b := 46) (j := 6) (by decide), up_slot (b := 46) (j := 7) (by decide), up_slot (b := 46) (j := 8) (by decide), up_slot (b := 46) (j := 9) (by decide)]
            rw [up_slot (b := 0) (j := 4) (by decide), up_slot (b := 0) (j := 5) (by decide), up_slot (b := 0) (j := 36) (by decide), up_slot (b := 0) (j := 37) (by decide), up_slot (b := 0) (j := 38) (by decide), up_slot (b := 0) (j := 68) (by decide), up_other (b := 4) (by decide)]
            rw [r3j 4 (by omega) (by omega) (by omega), r3j 5 (by omega) (by omega) (by omega), r336, r3j 37 (by omega) (by omega) (by omega), r3j 38 (by omega) (by omega) (by omega), r3j 68 (by omega) (by omega) (by omega), r3o 4 (by decide)]
            exact ⟨b1, b2, b3, b4, b5, rfl, b7, b8, b9, b10, b11⟩
          · rw [qvv, rvv]; exact pp
          · rw [up_slot (by decide), r3j 37 (by omega) (by omega) (by omega), qvv, rvv]
            intro _
            exact (hE y).cg (by rw [up_other (by omega), up_other (by omega)]) (by rw [up_other (by omega), up_other (by omega)]) (by rw [qv0, up_slot (by omega), up_slot (by omega)]) (fun j x1 x2 => by rw [up_slot (by omega), up_slot (by omega)]) (by rw [up_slot (by omega), up_slot (by omega)])
          · exact fxC_up (fxC_up fg (Or.inr (by omega)) hp0) (Or.inr (by omega)) hp0
          · refine fxR_0 ?_ (by omega)
            rw [er3]; exact fxR_tok (fxR_0 (fxR_0 fr2 (by omega)) (by omega))
          · intro K hk
            refine begC2 K (cw _ ?_)
            rw [if_pos wp, g1]
            refine ⟨sP, ?_⟩
            intro h5 q5
            rw [q5, g11]
            refine ⟨sP, ?_⟩
            intro h6 q6
            rw [q6]; exact hk
          · intro K hk
            refine begR2 K (rw1 _ ?_)
            intro h7 q7
            rw [q7, r311]; exact hk
        · left
          have pb := PBad.of hT2b fc2 (fxR_0 fr2 (by omega)) hp0 e0
          refine ⟨_, _, pb.upR (o := 0) (k := 26) (v := wgR e (up r2 0 25 x) 0 11) (fxR_0 pb.2.1 (by omega)) (by omega), fun K hk => begC2 K (cw _ ?_), fun K hk => begR2 K (rw1 _ ?_)⟩
          · rw [if_neg (by decide)]; exact hk
          · intro h7 q7
            rw [q7]; exact run_458_0 hk
      · left
        refine ⟨_, _, PBad.of hT1 fc1 fr1 hp0 e0, fun K hk => begC K (cx _ ?_), fun K hk => begR K (rx _ ?_)⟩
        · rw [if_neg (by decide), if_neg (by decide)]; exact hk
        · rw [if_neg (by decide)]; exact hk
    · left
      refine ⟨_, _, PBad.of hT hc hr hp0 (e := 4) (by decide), fun K hk => ?_, fun K hk => ?_⟩
      · unfold wp_X9_readPond
        rw [f5, f9, if_pos z, if_neg y]; exact run_refuse hk
      · unfold wp_X14_lineRead
        rw [h8, h9, if_neg (by decide), if_pos (by decide), if_pos rfl, if_pos z, if_neg y]; exact run_wrong hk
  · left
    refine ⟨_, _, PBad.of hT hc hr hp0 (e := 3) (by decide), fun K hk => ?_, fun K hk => ?_⟩
    · unfold wp_X9_readPond
      rw [f5, if_neg z]; exact run_refuse hk
    · unfold wp_X14_lineRead
      rw [h8, h9, if_neg (by decide), if_pos (by decide), if_pos rfl, if_neg z]; exact run_wrong hk
