theorem tw_reed {B : Int → Int} {n : Int} {m a : Nat} {q0 r0 q r : Mh} (h : PR B n m a q0 r0 q r) (h8 : r 0 8 = 1) (h9 : r 0 9 = 2) : LineOut (wp_X9_readReed q) B n m a q0 r0 r := by
  have am := h.am h8
  have hp0 := h.p0
  obtain ⟨dw, dh, dsz⟩ := h.dims
  have h' := h
  obtain ⟨hT, hF, hPP, hE, hc, hr⟩ := h
  have hP : q 46 1 = q0 46 1 := hc.1
  obtain ⟨P, eP⟩ : ∃ P, P = q0 46 1 := ⟨_, rfl⟩
  have hp00 := hp0
  rw [← eP] at hP hp0 dw dh
  have sP := shC_P hp0
  have hq := hp0
  unfold isP at hq
  have gP : ∀ o, P ≤ o → o ≤ P + 39 → qv q o = q o := fun o x y => qv_get (by rw [hP]; exact hp0) (by omega) (by omega)
  have qv0 : qv q 53 0 = P := by rw [qv_0]; exact hP
  have qv1 : qv q 53 1 = q P 3 := qv_1 hP
  have hgr := hPP.2.1
  have hi := (hgr.hi dsz).2
  have pe := hPP.2.2.2.2.2.1
  rw [qv1] at hi pe
  have p1 : r 0 35 = pop (q P 3) 48 0 := pe.1
  have p2 : r 0 35 ≤ 20 := pe.2
  have q1o : ∀ o, ¬ o = 46 → ¬ o = 49 → advC (up q 46 9 1) o = q o := fun o x y => by rw [advC_o y, up_other x]
  have q11 : advC (up q 46 9 1) 46 1 = P := by rw [advC_o (by decide), up_slot (by decide)]; exact hP
  have begC : ∀ K : Int → Mh → Prop, (if r 0 35 < 20 then wp_X9_readCell (j_lor (q P 2) (q P 3)) (advC (up q 46 9 1)) (fun x2 h2 => if 0 ≤ x2 then (((shC (h2 46 1)).1 = 4) ∧ ∀ h3 : Mh, h3 = up h2 (h2 46 1) 3 (j_lor (h2 (h2 46 1) 3) (j_lshl 1 x2)) → K 1 h3) else (K 0 h2)) else K 0 (rfC 2 q)) → wp_X9_readReed q K := by
    intro K hk
    unfold wp_X9_readReed
    rw [hP]
    refine ⟨sP, sp_bitCount hi ?_⟩
    rw [← p1]
    by_cases z : r 0 35 < 20
    · rw [if_pos z] at hk ⊢
      apply L_X9_readReed_21
      unfold B_X9_readReed_21
      refine run_b0 hT ?_
      rw [if_pos (by decide), q11, q1o P (by omega) (by omega)]
      exact ⟨sP, hk⟩
    · rw [if_neg z] at hk ⊢
      apply L_X9_readReed_21
      unfold B_X9_readReed_21
      refine run_b1 hT ?_
      rw [if_neg (by decide)]; exact hk
  have begR : ∀ K : Int → Mh → Prop, r 0 35 < 20 → Lfp (F_X14_groundLine 2 (fun x1 h1 => Lfp (F_X14_lineRead K) (458, [x1], h1))) (47, [], r) → wp_X14_lineRead r K := by
    intro K z hk
    refine run_ground h8 h9 (Or.inr (Or.inl rfl)) ?_
    unfold wp_X14_groundLine
    rw [if_pos (by decide)]
    apply L_X14_groundLine_14
    unfold B_X14_groundLine_14
    rw [if_neg (by decide), if_neg (by omega)]
    apply L_X14_groundLine_28
    unfold B_X14_groundLine_28
    rw [if_pos (by decide)]
    exact hk
  by_cases z : r 0 35 < 20
  · simp only [if_pos z] at begC
    have hfb : ∀ c, 0 ≤ c → c < 48 → (bit (j_lor (q P 2) (q P 3)) c = false ↔ okG 2 r c) := by
      intro c c0 c1
      unfold okG
      rw [if_neg (by decide), if_pos rfl]
      have := hgr.zero c0 c1
      rw [qv0, gP P (by omega) (by omega), qv1] at this
      rw [bit_or, Bool.or_eq_false_iff]
      exact this.symm
    rcases tw_ground h' h8 (Or.inr (Or.inl rfl)) hfb with ⟨q', r', pb, cc, rc⟩ | ⟨c, r2, c0, c1, c48, g, bm, hT2, sil, r11, r37, cc, rc⟩
    · left
      refine ⟨q', r', pb, fun K hk => begC K (cc _ ?_), fun K hk => begR K z (rc _ (run_458_0 hk))⟩
      rw [if_neg (by decide)]; exact hk
    · right
      unfold okG at g
      rw [if_neg (by decide), if_pos rfl] at g
      obtain ⟨q3, eq3⟩ : ∃ q3, q3 = advC (advC (advC (up q 46 9 1))) := ⟨_, rfl⟩
      rw [← eq3] at hT2 cc
      have q3o : ∀ o, ¬ o = 46 → ¬ o = 49 → q3 o = q o := fun o x y => by rw [eq3, advC_o y, advC_o y, q1o o x y]
      have q346 : q3 46 = up q 46 9 1 46 := by rw [eq3, advC_o (by decide), advC_o (by decide), advC_o (by decide)]
      have q31 : q3 46 1 = P := by rw [q346, up_slot (by decide)]; exact hP
      have r2j : ∀ j, ¬ (7 ≤ j ∧ j ≤ 11) → ¬ j = 37 → ¬ j = 62 → r2 0 j = r 0 j := fun j x y w => by rw [sil.2 j x y w, tokR_j (by omega)]
      have r2o : ∀ o, ¬ o = 0 → r2 o = r o := fun o x => by rw [sil.1 o x, tokR_o x]
      obtain ⟨q4, eq4⟩ : ∃ q4, q4 = up q3 P 3 (j_lor (q P 3) (j_lshl 1 c)) := ⟨_, rfl⟩
      obtain ⟨r4, er4⟩ : ∃ r4, r4 = up (up (up r2 5 (48 + c) 1) 0 34 (r 0 34)) 0 35 (r 0 35 + 1) := ⟨_, rfl⟩
      have q41 : q4 46 1 = P := by rw [eq4, up_other (by omega)]; exact q31
      have r4j : ∀ j, ¬ (7 ≤ j ∧ j ≤ 11) → ¬ j = 37 → ¬ j = 62 → ¬ j = 35 → r4 0 j = r 0 j := fun j x y w v => by
        rw [er4, up_slot v]
        by_cases u : j = 34
        · rw [u, up_self]
        · rw [up_slot u, up_other (by decide), r2j j x y w]
      have r4o : ∀ o, ¬ o = 0 → ¬ o = 5 → r4 o = r o := fun o x y => by rw [er4, up_other x, up_other x, up_other y, r2o o x]
      have pp : PP (qv q4) (rv r4) := by
        refine hPP.reed (c := c) c0 c1 c48 g z ?_ ?_ ?_ ?_ ?_ ?_ ?_ ?_
        · intro o x y
          rw [qv0] at x
          exact qv_keep hp0 hP q41 (fun u v => by rw [eq4, up_other x, q3o o (by omega) (by omega)]) (fun u v => by rw [eq4, up_other (by omega), q3o _ (by omega) (by omega)]) (fun u => absurd u y)
        · intro j x
          rw [qv0, gP P (by omega) (by omega), qv_get (by rw [q41]; exact hp0) (by omega) (by omega), eq4, up_slot x, q3o P (by omega) (by omega)]
        · rw [qv_0, qv0]; exact q41
        · rw [qv1, qv_1 q41, eq4, up_self]
        · intro o x y
          exact rv_keep x (fun u v => r4o o x y) (fun u => r4o 8 (by decide) (by decide))
        · intro j x
          exact rv_keep0 (t := 35) (r4o 3 (by decide) (by decide)) (fun k a b c d e => r4j k (by omega) d (by omega) e) (fun u v => by omega) (fun u => by decide) (fun u => by decide) (fun u => by decide) (fun u => by omega)
        · show r4 0 35 = r 0 35 + 1
          rw [er4, up_self]
        · intro j
          show r4 5 (48 + j) = if j = c then 1 else r 5 (48 + j)
          rw [er4, up_other (by decide), up_other (by decide), up_get, r2o 5 (by decide)]
          by_cases w : j = c
          · rw [if_pos w, if_pos (by omega)]
          · rw [if_neg w, if_neg (by omega)]
      refine ⟨a + 1 + 2, q4, r4, by omega, h'.next ?_ ?_ ?_ ?_ ?_ ?_ pp ?_ ?_, ?_, ?_⟩
      · rw [eq4, er4]
        exact (((hT2.upC (by omega)).upR (by decide)).up11 (by omega)).up11 (by omega)
      · intro j j0 j1
        rw [eq4, up_other (by omega), q346, up_slot (by omega)]
      · rw [eq4, up_other (by omega), q346, up_self]
      · intro j hj
        exact r4j j (by omega) (by omega) (by omega) (by omega)
      · exact r4o 4 (by decide) (by decide)
      · rw [er4, up_slot (by decide), up_slot (by decide), up_other (by decide)]; exact r37
      · rw [eq4]
        have f3 : fxC q0 q3 := by rw [eq3]; exact fxC_adv (fxC_adv (fxC_adv (fxC_up hc (Or.inl (by omega)) hp00) hp00) hp00) hp00
        exact fxC_up f3 (Or.inr (by omega)) hp00
      · rw [er4]
        exact fxR_0 (fxR_0 (fxR_5 (sil.fx (fxR_tok hr)) (by decide) (by decide) (by rw [show off 5 = 48 from rfl]; omega)) (by omega)) (by omega)
      · intro K hk
        refine begC K (cc _ ?_)
        rw [if_pos c0, q31, q3o P (by omega) (by omega), ← eq4]
        exact ⟨sP, fun g4 e4 => by rw [e4]; exact hk⟩
      · intro K hk
        refine begR K z (rc _ ?_)
        apply L_X14_groundLine_157
        unfold B_X14_groundLine_157
        rw [if_pos (by decide), if_pos (by decide), if_pos (by decide)]
        apply L_X14_groundLine_221
        unfold B_X14_groundLine_221
        refine ⟨⟨by omega, by omega⟩, ?_⟩
        intro g1 e1
        have p35 : r 0 34 ≤ 20 := hPP.2.2.2.2.1.2
        have p36 : r 0 34 = pop (qv q (qv q 53 0) 2) 48 0 := hPP.2.2.2.2.1.1
        have p37 := pop_nn (qv q (qv q 53 0) 2) 48 0
        have p38 := pop_nn (q P 3) 48 0
        rw [if_pos (by decide), show g1 0 34 = r 0 34 by rw [e1, up_other (by decide), r2j 34 (by omega) (by omega) (by omega)], Int.add_zero, w32_eq (by omega) (by omega)]
        intro g2 e2
        rw [if_neg (by decide), show g2 0 35 = r 0 35 by rw [e2, up_slot (by decide), e1, up_other (by decide), r2j 35 (by omega) (by omega) (by omega)]]
        rw [w32_eq (by omega) (by omega)]
        intro g3 e3
        rw [e3, e2, e1, ← er4]; exact hk
  · simp only [if_neg z] at begC
    left
    refine ⟨_, _, PBad.of hT hc hr hp00 (e := 2) (by decide), begC, fun K hk => ?_⟩
    refine run_ground h8 h9 (Or.inr (Or.inl rfl)) ?_
    unfold wp_X14_groundLine
    rw [if_pos (by decide)]
    apply L_X14_groundLine_14
    unfold B_X14_groundLine_14
    rw [if_neg (by decide), if_pos (by omega)]
    exact run_wrong (run_458_0 hk)
/-- the class's line of a shore -/
def shoreC (h : Mh) (K : Int → Mh → Prop) : Prop := ((shC (h 46 1)).1 = 4) ∧ wp_X7_isFull shC ((h 46 1) + 1) h (fun x4 h4 => wp_X9_beginCells x4 h4 (fun x5 h5 => if x5 = 0 then (K 0 h5) else (((shC (h5 46 1)).1 = 4) ∧ wp_X9_readShoreCell ((h5 46 1) + 1) h5 (fun x6 h6 => if x6 = 0 then (K 0 h6) else (K 1 h6)))))
theorem tw_shore {B : Int → Int} {n : Int} {m a : Nat} {q0 r0 q r : Mh} (h : PR B n m a q0 r0 q r) (h8 : r 0 8 = 1) (h9 : r 0 9 = 3) : LineOut (shoreC q) B n m a q0 r0 r := by
  have am := h.am h8
  have hp0 := h.p0
  obtain ⟨dw, dh, dsz⟩ := h.dims
  have h' := h
  obtain ⟨hT, hF, hPP, hE, hc, hr⟩ := h
  have hP : q 46 1 = q0 46 1 := hc.1
  obtain ⟨P, eP⟩ : ∃ P, P = q0 46 1 := ⟨_, rfl⟩
  have hp00 := hp0
  rw [← eP] at hP hp0 dw dh
  have sP := shC_P hp0
  have hq := hp0
  unfold isP at hq
  have gP : ∀ o, P ≤ o → o ≤ P + 39 → qv q o = q o := fun o x y => qv_get (by rw [hP]; exact hp0) (by omega) (by omega)
  have qv0 : qv q 53 0 = P := by rw [qv_0]; exact hP
  have hgr := hPP.2.1
  have sR := hPP.1.2.1
  unfold RShr RRow at sR
  rw [qv0, gP (P + 1) (by omega) (by omega)] at sR
  obtain ⟨cnt, ecnt⟩ : ∃ cnt, cnt = r 0 31 := ⟨_, rfl⟩
  have g1 : q (P + 1) 1 = cnt := by rw [ecnt]; exact sR.1.1
  have b1 : 0 ≤ cnt := by rw [ecnt]; exact sR.1.2.1
  have b2 : cnt ≤ 3 := by rw [ecnt]; exact sR.2.1
  have s1 : ((shC (P + 1 + 1)).2 : Int) = 3 := by rcases hq with e | e <;> rw [e] <;> rfl
  have s6 : (shC (P + 1)).1 = 6 := by rcases hq with e | e <;> rw [e] <;> rfl
  have q1o : ∀ o, ¬ o = 46 → ¬ o = 49 → advC (up q 46 9 1) o = q o := fun o x y => by rw [advC_o y, up_other x]
  have q11 : advC (up q 46 9 1) 46 1 = P := by rw [advC_o (by decide), up_slot (by decide)]; exact hP
  have begC : ∀ K : Int → Mh → Prop, (if cnt < 3 then wp_X9_readCell (j_lor (q P 2) (rowB (advC (up q 46 9 1)) (P + 1))) (advC (up q 46 9 1)) (fun x2 h2 => if 0 ≤ x2 then (wp_X7_add shC (P + 1) x2 h2 (fun h3 => if (1 : Int) = 0 then (K 0 h3) else (K 1 h3))) else (if (0 : Int) = 0 then (K 0 h2) else (K 1 h2))) else K 0 (rfC 2 q)) → shoreC q K := by
    intro K hk
    unfold shoreC wp_X7_isFull
    rw [hP]
    refine ⟨sP, ?_⟩
    rw [g1, s1]
    by_cases z : cnt < 3
    · rw [if_pos z] at hk ⊢
      dsimp only
      refine run_b0 hT ?_
      rw [if_neg (by decide), q11]
      refine ⟨sP, ?_⟩
      unfold wp_X9_readShoreCell
      rw [q11]
      refine ⟨sP, s6, ?_⟩
      refine xp_cellBits (by rw [q1o _ (by omega) (by omega), g1]; exact b1) (by rw [q1o _ (by omega) (by omega), g1, s1]; exact b2) (by rw [q1o _ (by omega) (by omega), g1]; omega) ?_
      dsimp only
      rw [q1o P (by omega) (by omega)]
      exact hk
    · rw [if_neg z] at hk ⊢
      dsimp only
      refine run_b1 hT ?_
      rw [if_pos rfl]; exact hk
  have begR : ∀ K : Int → Mh → Prop, cnt < 3 → Lfp (F_X14_groundLine 3 (fun x1 h1 => Lfp (F_X14_lineRead K) (458, [x1], h1))) (47, [], r) → wp_X14_lineRead r K := by
    intro K z hk
    refine run_ground h8 h9 (Or.inr (Or.inr rfl)) ?_
    unfold wp_X14_groundLine
    rw [if_pos (by decide)]
    apply L_X14_groundLine_14
    unfold B_X14_groundLine_14
    rw [if_pos (by decide)]
    apply L_X14_groundLine_28
    unfold B_X14_groundLine_28
    rw [if_neg (by decide), if_pos (show ¬ r 0 31 = 3 by omega)]
    exact hk
  by_cases z : cnt < 3
  · simp only [if_pos z] at begC
    have hfb : ∀ c, 0 ≤ c → c < 48 → (bit (j_lor (q P 2) (rowB (advC (up q 46 9 1)) (P + 1))) c = false ↔ okG 3 r c) := by
      intro c c0 c1
      unfold okG
      rw [if_neg (by decide), if_neg (by decide)]
      have e1 := hgr.two c0 c1
      have e2 := hPP.shoreB c0 c1
      rw [qv0] at e1 e2
      rw [gP P (by omega) (by omega)] at e1
      have er : rowB (advC (up q 46 9 1)) (P + 1) = rowB (qv q) (P + 1) := by
        unfold rowB
        rw [q1o _ (by omega) (by omega), q1o _ (by omega) (by omega), gP _ (by omega) (by omega), gP _ (by omega) (by omega)]
      have e3 : rv r 5 c = r 5 (48 + c) := rfl
      have e4 : rv r 6 c = r 6 (48 + c) := rfl
      rw [bit_or, Bool.or_eq_false_iff, er, e2, e4, ← e3, e1, Bool.not_eq_true]
    rcases tw_ground h' h8 (Or.inr (Or.inr rfl)) hfb with ⟨q', r', pb, cc, rc⟩ | ⟨c, r2, c0, c1, c48, g, bm, hT2, sil, r11, r37, cc, rc⟩
    · left
      refine ⟨q', r', pb, fun K hk => begC K (cc _ ?_), fun K hk => begR K z (rc _ (run_458_0 hk))⟩
      rw [if_neg (by decide), if_pos trivial]; exact hk
    · right
      unfold okG at g
      rw [if_neg (by decide), if_neg (by decide)] at g
      obtain ⟨q3, eq3⟩ : ∃ q3, q3 = advC (advC (advC (up q 46 9 1))) := ⟨_, rfl⟩
      rw [← eq3] at hT2 cc
      have q3o : ∀ o, ¬ o = 46 → ¬ o = 49 → q3 o = q o := fun o x y => by rw [eq3, advC_o y, advC_o y, q1o o x y]
      have q346 : q3 46 = up q 46 9 1 46 := by rw [eq3, advC_o (by decide), advC_o (by decide), advC_o (by decide)]
      have q31 : q3 46 1 = P := by rw [q346, up_slot (by decide)]; exact hP
      have r2j : ∀ j, ¬ (7 ≤ j ∧ j ≤ 11) → ¬ j = 37 → ¬ j = 62 → r2 0 j = r 0 j := fun j x y w => by rw [sil.2 j x y w, tokR_j (by omega)]
      have r2o : ∀ o, ¬ o = 0 → r2 o = r o := fun o x => by rw [sil.1 o x, tokR_o x]
      obtain ⟨q4, eq4⟩ : ∃ q4, q4 = up (up q3 (P + 1 + 1) cnt c) (P + 1) 1 (cnt + 1) := ⟨_, rfl⟩
      obtain ⟨r4, er4⟩ : ∃ r4, r4 = up (up (up r2 6 (48 + c) 1) 8 (3 + cnt) c) 0 31 (cnt + 1) := ⟨_, rfl⟩
      have q41 : q4 46 1 = P := by rw [eq4, up_other (by omega), up_other (by omega)]; exact q31
      have q4o : ∀ o, ¬ o = 46 → ¬ o = 49 → ¬ o = P + 1 → ¬ o = P + 1 + 1 → q4 o = q o := fun o x y u v => by rw [eq4, up_other u, up_other v, q3o o x y]
      have r4j : ∀ j, ¬ (7 ≤ j ∧ j ≤ 11) → ¬ j = 37 → ¬ j = 62 → ¬ j = 31 → r4 0 j = r 0 j := fun j x y w v => by
        rw [er4, up_slot v, up_other (by decide), up_other (by decide), r2j j x y w]
      have r4o : ∀ o, ¬ o = 0 → ¬ o = 6 → ¬ o = 8 → r4 o = r o := fun o x y w => by rw [er4, up_other x, up_other w, up_other y, r2o o x]
      have e8 : ∀ j, r4 8 (3 + j) = if j = cnt then c else r 8 (3 + j) := by
        intro j
        rw [er4, up_other (by decide), up_get, up_other (by decide), r2o 8 (by decide)]
        by_cases w : j = cnt
        · rw [if_pos w, if_pos (by omega)]
        · rw [if_neg w, if_neg (by omega)]
      have pp : PP (qv q4) (rv r4) := by
        refine hPP.shore (cnt := cnt) (c := c) ecnt z ⟨c0, c1, g.1⟩ ?_ ?_ ?_ ?_ ?_ ?_ ?_ ?_ ?_ ?_
        · intro o x
          rw [qv0] at x
          exact qv_keep hp0 hP q41 (fun u v => q4o o (by omega) (by omega) (by omega) (by omega)) (fun u v => q4o _ (by omega) (by omega) (by omega) (by omega)) (fun u => by rw [q4o P (by omega) (by omega) (by omega) (by omega)])
        · rw [qv0, qv_get (by rw [q41]; exact hp0) (by omega) (by omega), eq4, up_self]
        · intro j
          rw [qv0, gP _ (by omega) (by omega), qv_get (by rw [q41]; exact hp0) (by omega) (by omega), eq4, up_other (by omega), show P + 2 = P + 1 + 1 by omega, up_get, q3o _ (by omega) (by omega)]
        · intro o x y w v
          exact rv_keep x (fun s t => r4o o x y w) (fun s => absurd s v)
        · intro j x y
          exact rv_keep0 (t := 31) (r4o 3 (by decide) (by decide) (by decide)) (fun k a b c d e => r4j k (by omega) d (by omega) e) (fun u v => by omega) (fun u => by decide) (fun u => absurd u y) (fun u => by decide) (fun u => by omega)
        · show r4 0 31 = cnt + 1
          rw [er4, up_self]
        · show r4 0 31 = cnt + 1
          rw [er4, up_self]
        · intro j
          show r4 6 (48 + j) = if j = c then 1 else r 6 (48 + j)
          rw [er4, up_other (by decide), up_other (by decide), up_get, r2o 6 (by decide)]
          by_cases w : j = c
          · rw [if_pos w, if_pos (by omega)]
          · rw [if_neg w, if_neg (by omega)]
        · intro j
          exact e8 j
        · intro j
          exact e8 j
      refine ⟨a + 1 + 2, q4, r4, by omega, h'.next ?_ ?_ ?_ ?_ ?_ ?_ pp ?_ ?_, ?_, ?_⟩
      · rw [eq4, er4]
        exact ((((hT2.upC (by omega)).upC (by omega)).upR (by decide)).upR (by decide)).up11 (by omega)
      · intro j j0 j1
        rw [eq4, up_other (by omega), up_other (by omega), q346, up_slot (by omega)]
      · rw [eq4, up_other (by omega), up_other (by omega), q346, up_self]
      · intro j hj
        exact r4j j (by omega) (by omega) (by omega) (by omega)
      · exact r4o 4 (by decide) (by decide) (by decide)
      · rw [er4, up_slot (by decide), up_other (by decide), up_other (by decide)]; exact r37
      · rw [eq4]
        have f3 : fxC q0 q3 := by rw [eq3]; exact fxC_adv (fxC_adv (fxC_adv (fxC_up hc (Or.inl (by omega)) hp00) hp00) hp00) hp00
        exact fxC_up (fxC_up f3 (Or.inr (by omega)) hp00) (Or.inr (by omega)) hp00
      · rw [er4]
        exact fxR_0 (fxR_5 (fxR_5 (sil.fx (fxR_tok hr)) (by decide) (by decide) (by rw [show off 6 = 48 from rfl]; omega)) (by decide) (by decide) (by rw [show off 8 = 3 from rfl]; omega)) (by omega)
      · intro K hk
        refine begC K (cc _ ?_)
        rw [if_pos c0]
        refine run_add (cnt := cnt) (by rw [q3o _ (by omega) (by omega)]; exact g1) b1 (by omega) (by omega) ?_
        rw [← eq4, if_neg (by decide)]; exact hk
      · intro K hk
        refine begR K z (rc _ ?_)
        apply L_X14_groundLine_157
        unfold B_X14_groundLine_157
        rw [if_pos (by decide), if_neg (by decide)]
        refine ⟨⟨by omega, by omega⟩, ?_⟩
        intro h1 e1
        rw [show h1 0 31 = cnt by rw [e1, up_other (by decide), r2j 31 (by omega) (by omega) (by omega)]; exact ecnt.symm, show h1 0 11 = c by rw [e1, up_other (by decide)]; exact r11, w32_eq (by omega) (by omega)]
        refine ⟨⟨by omega, by omega⟩, ?_⟩
        intro h2 e2
        rw [show h2 0 31 = cnt by rw [e2, up_other (by decide), e1, up_other (by decide), r2j 31 (by omega) (by omega) (by omega)]; exact ecnt.symm, w32_eq (by omega) (by omega)]
        intro h3 e3
        rw [e3, e2, e1, ← er4]; exact hk
  · simp only [if_neg z] at begC
    left
    refine ⟨_, _, PBad.of hT hc hr hp00 (e := 2) (by decide), begC, fun K hk => ?_⟩
    refine run_ground h8 h9 (Or.inr (Or.inr rfl)) ?_
    unfold wp_X14_groundLine
    rw [if_pos (by decide)]
    apply L_X14_groundLine_14
    unfold B_X14_groundLine_14
    rw [if_pos (by decide)]
    apply L_X14_groundLine_28
    unfold B_X14_groundLine_28
    rw [if_neg (by decide), if_neg (fun y => y (by omega))]
    exact run_wrong (run_458_0 hk)
