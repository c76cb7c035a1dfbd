/-! ===== fall, cut, undo, keep, back ===== -/
theorem op_fall {q r : Mh} (k c t : Int) (h : Rel q r) : wp_X13_fall k c t q (fun x q' => wp_X14_fall k c t r (fun y r' => x = y ∧ Rel q' r')) := by
  have hd := h.1.2.2.1.1
  have hg := h.1.2.2.2.1
  have hm := szs_mul hd.2.2.2.2.1.1
  have hs := hd.2.2.2.2.1.1
  have hK := h.1.2.2.1.2.2.1
  have hD := h.1.2.2.2.2.1
  have hU := h.1.2.2.2.2.2.2.1
  have hI := h.1.2.2.2.2.2.1
  have hM := h.1.2.2.2.2.2.2.2.2
  have h0 : Rel q (up r 0 2 0) := h.thrown (sameR.thrown r)
  have er : ∀ o, o ≠ 0 → up r 0 2 0 o = r o := fun o ho => up_other ho
  have e0 : ∀ j, j ≠ 2 → up r 0 2 0 0 j = r 0 j := fun j hj => up_slot hj
  have no : ¬ (r 0 76 ≠ 16 ∧ (0 ≤ k ∧ k < r 0 14) ∧ watR r c ∧ 0 ≤ t ∧ t ≤ 99) → wp_X14_fall k c t r (fun y r' => -1 = y ∧ Rel q r') := by
    intro hn
    unfold wp_X14_fall
    intro r1 e1
    subst e1
    rw [e0 76 (by decide)]
    by_cases k1 : r 0 76 = 16
    · rw [if_pos k1]; exact ⟨rfl, h0⟩
    · rw [if_neg k1, wi_isKind, e0 14 (by decide)]
      by_cases k2 : 0 ≤ k ∧ k < r 0 14
      · rw [if_neg (show ¬ k < 0 by omega), if_neg (show ¬ r 0 14 ≤ k by omega), if_neg (by decide), wi_waterT hs]
        by_cases k3 : watR r c
        · rw [if_pos k3, if_neg (by decide), wi_isIn]
          have : (if t < 0 then (0 : Int) else if 99 < t then 0 else 1) = 0 := by
            by_cases z : t < 0
            · rw [if_pos z]
            · rw [if_neg z, if_pos]
              have : ¬ (0 ≤ t ∧ t ≤ 99) := fun y => hn ⟨k1, k2, k3, y⟩
              omega
          rw [this, if_neg (fun z => z rfl)]
          exact ⟨rfl, h0⟩
        · rw [if_neg k3, if_pos rfl]; exact ⟨rfl, h0⟩
      · have : (if k < 0 then (0 : Int) else if r 0 14 ≤ k then 0 else 1) = 0 := by
          by_cases z : k < 0
          · rw [if_pos z]
          · rw [if_neg z, if_pos (by omega)]
        rw [this, if_pos rfl]
        exact ⟨rfl, h0⟩
  have l35 : ¬ ((0 ≤ k ∧ k < r 0 14) ∧ watR r c) → Lfp (F_X13_fall k c t (fun x q' => wp_X14_fall k c t r (fun y r' => x = y ∧ Rel q' r'))) (35, [], q) := by
    intro hn
    apply L_X13_fall_35
    unfold B_X13_fall_35
    apply L_X13_fall_36
    unfold B_X13_fall_36
    rw [if_pos rfl]
    exact no (fun z => hn ⟨z.2.1, z.2.2.1⟩)
  unfold wp_X13_fall
  refine ⟨isP_4 hd.1, ?_⟩
  rw [wi_has, hK.1.1]
  by_cases kk : 0 ≤ k ∧ k < r 0 14
  · rw [if_neg (show ¬ k < 0 by omega), if_neg (show ¬ r 0 14 ≤ k by omega), if_neg (by decide)]
    refine ⟨isP_4 hd.1, ?_⟩
    rw [wi_wet hd hg]
    by_cases kw : watR r c
    · rw [if_pos kw, if_neg (by decide)]
      apply L_X13_fall_36
      unfold B_X13_fall_36
      rw [if_neg (by decide), wi_stepC]
      by_cases kt : 0 ≤ t ∧ t ≤ 99
      · rw [if_neg (show ¬ t < 0 by omega), if_neg (show ¬ 99 < t by omega), if_neg (by decide)]
        unfold wp_X1_isFull
        rw [hD.1]
        have s99 : (shC (98 + 1)).2 = 16 := rfl
        have s100 : (shC (98 + 2)).2 = 16 := rfl
        have s101 : (shC (98 + 3)).2 = 16 := rfl
        have d0 := hD.2.1
        have d1 := hD.2.2.1
        rw [s99]
        by_cases kf : r 0 76 < 16
        · rw [if_pos (show r 0 76 < ((16 : Nat) : Int) from kf)]
          dsimp only
          rw [if_pos rfl]
          unfold wp_X11_addDrop wp_X1_add
          rw [hD.1, s99, s100, s101, if_neg (show ¬ r 0 76 < 0 by omega), if_neg (show ¬ ((16 : Nat) : Int) ≤ r 0 76 by omega)]
          refine ⟨⟨by omega, by omega⟩, ?_⟩
          intro g1 e1
          have f1 : g1 98 3 = r 0 76 := by rw [e1, up_other (by decide)]; exact hD.1
          rw [f1]
          refine ⟨⟨by omega, by omega⟩, ?_⟩
          intro g2 e2
          have f2 : g2 98 3 = r 0 76 := by rw [e2, up_other (by decide)]; exact f1
          rw [f2]
          refine ⟨⟨by omega, by omega⟩, ?_⟩
          intro g3 e3
          have f3 : g3 98 3 = r 0 76 := by rw [e3, up_other (by decide)]; exact f2
          rw [f3, w32_eq (by omega) (by omega)]
          intro g4 e4
          have n4 : ∀ o j, ¬ (98 ≤ o ∧ o ≤ 101) → g4 o j = q o j := by
            intro o j ho
            rw [e4, up_other (by omega), e3, up_other (by omega), e2, up_other (by omega), e1, up_other (by omega)]
          refine sp_rememberC (by rw [n4 53 7 (by decide), hU.1]; exact hU.2.1) (by rw [n4 53 7 (by decide), hU.1]; exact hU.2.2.1) ?_
          intro g5 a5 b5 c5 g6 e6
          rw [n4 53 7 (by decide)] at b5 c5
          have r106 : g4 106 = q 106 := by funext j; exact n4 106 j (by decide)
          rw [r106] at c5
          unfold wp_X14_fall
          intro r1 er1
          subst er1
          rw [e0 76 (by decide), if_neg (show ¬ r 0 76 = 16 by omega), wi_isKind, e0 14 (by decide), if_neg (show ¬ k < 0 by omega), if_neg (show ¬ r 0 14 ≤ k by omega), if_neg (by decide), wi_waterT hs, if_pos kw, if_neg (by decide), wi_isIn, if_neg (show ¬ t < 0 by omega), if_neg (show ¬ 99 < t by omega), if_pos (by decide)]
          refine sp_rememberR (by rw [e0 82 (by decide)]; exact hU.2.1) (by rw [e0 82 (by decide)]; exact hU.2.2.1) ?_
          intro s5 x5 y5 z5
          rw [e0 82 (by decide)] at y5 z5
          rw [er 33 (by decide)] at z5
          have m5 : s5 0 76 = r 0 76 := by rw [x5 0 76 (by decide) (by decide)]; exact e0 76 (by decide)
          rw [m5]
          refine ⟨⟨by omega, by omega⟩, ?_⟩
          intro s6 u6
          have m6 : s6 0 76 = r 0 76 := by rw [u6, up_other (by decide)]; exact m5
          rw [m6]
          refine ⟨⟨by omega, by omega⟩, ?_⟩
          intro s7 u7
          have m7 : s7 0 76 = r 0 76 := by rw [u7, up_other (by decide)]; exact m6
          rw [m7]
          refine ⟨⟨by omega, by omega⟩, ?_⟩
          intro s8 u8
          have m8 : s8 0 76 = r 0 76 := by rw [u8, up_other (by decide)]; exact m7
          rw [m8, w32_eq (by omega) (by omega)]
          intro s9 u9
          have m9 : s9 0 76 = r 0 76 + 1 := by rw [u9, up_self]
          have g98 : g6 98 3 = r 0 76 + 1 := by rw [e6, up_other (by decide), a5 98 3 (by decide) (by decide), e4, up_self]
          rw [m9, g98]
          -- the frames
          have FD : frD q g6 := by
            intro o j h1 h2
            rw [e6, up_ne _ (by omega), a5 o j (by omega) (by omega), n4 o j (by omega)]
          have FE : frE r s9 := by
            intro o j h1 h2
            rw [u9, up_ne _ (by omega), u8, up_other (by omega), u7, up_other (by omega), u6, up_other (by omega), x5 o j (by omega) (by omega), up_ne _ (by omega)]
          have x5r : s9 5 = r 5 := by
            funext j
            rw [u9, up_other (by decide), u8, up_other (by decide), u7, up_other (by decide), u6, up_other (by decide), x5 5 j (by decide) (by omega), er 5 (by decide)]
          have h5 : ∀ c, 0 ≤ c → c < 48 → (s9 5 c = 2 ↔ r 5 c = 2) := fun c _ _ => by rw [x5r]
          have hR := FE.ref h5
          have hP := FD.pond hd.1
          have row9 : ∀ o, ¬ (17 ≤ o ∧ o ≤ 19) → o ≠ 33 → o ≠ 0 → s9 o = r o := by
            intro o h1 h2 h3
            funext j
            rw [u9, up_other (by omega), u8, up_other (by omega), u7, up_other (by omega), u6, up_other (by omega), x5 o j h2 (by omega), er o h3]
          have q53 : ∀ j, j ≠ 7 → j ≠ 9 → g6 53 j = q 53 j := by
            intro j h1 h2
            rw [e6, up_slot h2, a5 53 j (by decide) (by omega), n4 53 j (by decide)]
          refine ⟨rfl, ?_, ?_, ?_⟩
          · refine h.1.ofD FD FE h5 (hg.same hP (q53 1 (by decide) (by decide)) hR (fun c _ _ => by rw [x5r])) ?_ ?_ ?_ ?_
            · refine ⟨by rw [g98, m9], by rw [m9]; omega, by rw [m9]; omega, fun d d0 d1 => ?_⟩
              rw [m9] at d1
              have v99 : ∀ j, g6 99 j = if j = r 0 76 then k else q 99 j := by
                intro j
                rw [e6, up_other (by decide), a5 99 j (by decide) (by omega), e4, up_other (by decide), e3, up_other (by decide), e2, up_other (by decide), e1]
                by_cases z : j = r 0 76
                · rw [if_pos z, z]; exact up_self
                · rw [if_neg z]; exact up_slot z
              have v100 : ∀ j, g6 100 j = if j = r 0 76 then c else q 100 j := by
                intro j
                rw [e6, up_other (by decide), a5 100 j (by decide) (by omega), e4, up_other (by decide), e3, up_other (by decide), e2]
                by_cases z : j = r 0 76
                · rw [if_pos z, z]; exact up_self
                · rw [if_neg z, show up g1 (98 + 2) (r 0 76) c 100 j = g1 100 j from up_slot z, e1, up_other (by decide)]
              have v101 : ∀ j, g6 101 j = if j = r 0 76 then t else q 101 j := by
                intro j
                rw [e6, up_other (by decide), a5 101 j (by decide) (by omega), e4, up_other (by decide), e3]
                by_cases z : j = r 0 76
                · rw [if_pos z, z]; exact up_self
                · rw [if_neg z, show up g2 (98 + 3) (r 0 76) t 101 j = g2 101 j from up_slot z, e2, up_other (by decide), e1, up_other (by decide)]
              have b17 : ∀ o j, o = 17 ∨ o = 18 ∨ o = 19 → s5 o j = r o j := by
                intro o j ho
                rw [x5 o j (by omega) (by omega), er o (by omega)]
              have w17 : ∀ j, s9 17 j = if j = r 0 76 then k else r 17 j := by
                intro j
                rw [u9, up_other (by decide), u8, up_other (by decide), u7, up_other (by decide), u6]
                by_cases z : j = r 0 76
                · rw [if_pos z, z, up_self]
                · rw [if_neg z, up_slot z, b17 17 j (by omega)]
              have w18 : ∀ j, s9 18 j = if j = r 0 76 then c else r 18 j := by
                intro j
                rw [u9, up_other (by decide), u8, up_other (by decide), u7]
                by_cases z : j = r 0 76
                · rw [if_pos z, z, up_self]
                · rw [if_neg z, up_slot z, u6, up_other (by decide), b17 18 j (by omega)]
              have w19 : ∀ j, s9 19 j = if j = r 0 76 then t else r 19 j := by
                intro j
                rw [u9, up_other (by decide), u8]
                by_cases z : j = r 0 76
                · rw [if_pos z, z, up_self]
                · rw [if_neg z, up_slot z, u7, up_other (by decide), u6, up_other (by decide), b17 19 j (by omega)]
              rw [v99, v100, v101, w17, w18, w19]
              by_cases z : d = r 0 76
              · rw [if_pos z, if_pos z, if_pos z, if_pos z, if_pos z, if_pos z]
                refine ⟨rfl, rfl, rfl, kk.1, ?_, (hR.wr hd.2.2.2.2.1).mpr kw, kt.1, kt.2⟩
                rw [hR.1 14 (by decide) (by decide)]; exact kk.2
              · rw [if_neg z, if_neg z, if_neg z, if_neg z, if_neg z, if_neg z]
                obtain ⟨p1, p2, p3, p4⟩ := hD.2.2.2 d d0 (by omega)
                exact ⟨p1, p2, p3, p4.same hd.2.2.2.2.1 hR⟩
            · refine hI.same hd.2.2.2.2.1 hP hR (q53 4 (by decide) (by decide)) (q53 5 (by decide) (by decide)) (fun o h1 h2 => ?_) (by rw [u9, up_slot (by decide), u8, up_other (by decide), u7, up_other (by decide), u6, up_other (by decide), x5 0 96 (by decide) (by decide), e0 96 (by decide)]) ?_ (row9 39 (by decide) (by decide) (by decide)) (row9 40 (by decide) (by decide) (by decide))
              · funext j
                rw [e6, up_ne _ (by omega), a5 o j (by omega) (by omega), n4 o j (by omega)]
              · rw [u9, up_slot (by decide), u8, up_other (by decide), u7, up_other (by decide), u6, up_other (by decide), x5 0 97 (by decide) (by decide), e0 97 (by decide)]
            · refine hU.push (c := -1) hd.2.2.2.2.1 hR (Or.inl rfl) ?_ (fun i i0 i1 => ?_) ?_ (fun i i0 i1 => ?_) ?_
              · rw [e6, up_slot (by decide)]; exact b5
              · rw [e6, up_other (by decide)]; exact c5 i i0 i1
              · rw [u9, up_slot (by decide), u8, up_other (by decide), u7, up_other (by decide), u6, up_other (by decide)]; exact y5
              · rw [u9, up_other (by decide), u8, up_other (by decide), u7, up_other (by decide), u6, up_other (by decide)]; exact z5 i i0 i1
              · rw [m9, if_pos rfl]
            · exact wayR_congr hR.1 x5r (row9 30 (by decide) (by decide) (by decide)) (row9 31 (by decide) (by decide) (by decide)) hM.2.1
          · intro z8
            rw [q53 8 (by decide) (by decide)] at z8
            exact waysOK_congr (q53 0 (by decide) (by decide)) (q53 1 (by decide) (by decide)) (hP.2 _ (by omega) (by omega)) (FD.row (by decide) (by decide)) (FD.row (by decide) (by decide)) (FD.row (by decide) (by decide)) (h.2.1 z8)
          · intro z9
            rw [e6, up_self] at z9
            exact absurd z9 (by decide)
        · rw [if_neg (show ¬ r 0 76 < ((16 : Nat) : Int) from kf)]
          dsimp only
          rw [if_neg (by decide)]
          exact no (fun z => z.1 (by omega))
      · have : (if t < 0 then (0 : Int) else if 99 < t then 0 else 1) = 0 := by
          by_cases z : t < 0
          · rw [if_pos z]
          · rw [if_neg z, if_pos (by omega)]
        rw [this, if_pos rfl]
        exact no (fun z => kt z.2.2.2)
    · rw [if_neg kw, if_pos rfl]
      exact l35 (fun z => kw z.2)
  · have : (if k < 0 then (0 : Int) else if r 0 14 ≤ k then 0 else 1) = 0 := by
      by_cases z : k < 0
      · rw [if_pos z]
      · rw [if_neg z, if_pos (by omega)]
    rw [this, if_pos rfl]
    exact l35 (fun z => kk z.1)
/-! ===== cut ===== -/
theorem bit_cut {x c d : Int} (c0 : 0 ≤ c) (c1 : c < 64) (d0 : 0 ≤ d) (d1 : d < 64) : bit (j_land x (j_lxor (j_lshl 1 c) (-1))) d = (bit x d && !(decide (d = c))) := by
  rw [bit_and, bit_xor, bit_one_shl c0 c1 d0 d1, bit_m1 (by omega)]
  cases decide (d = c) <;> rfl
theorem bit_add {x c d : Int} (c0 : 0 ≤ c) (c1 : c < 64) (d0 : 0 ≤ d) (d1 : d < 64) : bit (j_lor x (j_lshl 1 c)) d = (bit x d || decide (d = c)) := by
  rw [bit_or, bit_one_shl c0 c1 d0 d1]
theorem prm_of {r s : Mh} (h : prm r) (e : ∀ j, 12 ≤ j → j ≤ 24 → s 0 j = r 0 j) : prm s := by
  unfold prm at h ⊢
  rw [e 12 (by decide) (by decide), e 13 (by decide) (by decide), e 21 (by decide) (by decide), e 22 (by decide) (by decide)]
  exact h
theorem op_cut {q r : Mh} (c : Int) (h : Rel q r) : wp_X13_cut c q (fun x q' => wp_X14_cut c r (fun y r' => x = y ∧ Rel q' r')) := by
  have hd := h.1.2.2.1.1
  have hg := h.1.2.2.2.1
  have hm := szs_mul hd.2.2.2.2.1.1
  have hs := hd.2.2.2.2.1.1
  have hD := h.1.2.2.2.2.1
  have hU := h.1.2.2.2.2.2.2.1
  have hI := h.1.2.2.2.2.2.1
  have h0 : Rel q (up r 0 2 0) := h.thrown (sameR.thrown r)
  have er : ∀ o, o ≠ 0 → up r 0 2 0 o = r o := fun o ho => up_other ho
  have e0 : ∀ j, j ≠ 2 → up r 0 2 0 0 j = r 0 j := fun j hj => up_slot hj
  unfold wp_X13_cut
  refine ⟨isP_4 hd.1, ?_⟩
  rw [wi_cellC hd]
  by_cases ka : 0 ≤ c ∧ c < r 0 12 * r 0 13
  · rw [if_pos ka, if_neg (by decide), wi_hasReeds ka.1 (by omega)]
    have eg := hg.1 c ka.1 (by omega)
    by_cases kr : bit (q 53 1) c = true
    · rw [if_pos kr, if_pos (by decide)]
      have hb := hg.2.2 c ka.1 (by omega) kr
      have g1c : r 5 c = 1 := by
        rw [eg]; unfold cg
        rw [hb.2, kr]; rfl
      unfold wp_X11_cutReeds wp_X11_changeReeds
      intro g1 e1 g2 e2 g3 e3
      have n3 : ∀ o j, ¬ (o = 53 ∧ (j = 1 ∨ j = 8 ∨ j = 9)) → g3 o j = q o j := by
        intro o j ho
        rw [e3, up_ne _ (by omega), e2, up_ne _ (by omega), e1, up_ne _ (by omega)]
      refine sp_rememberC (by rw [n3 53 7 (by decide), hU.1]; exact hU.2.1) (by rw [n3 53 7 (by decide), hU.1]; exact hU.2.2.1) ?_
      intro g5 a5 b5 c5
      rw [n3 53 7 (by decide)] at b5 c5
      have r106 : g3 106 = q 106 := by funext j; exact n3 106 j (by omega)
      rw [r106] at c5
      unfold wp_X14_cut
      intro r1 er1
      subst er1
      rw [wi_cellT hs, if_pos ka, if_neg (by decide), er 5 (by decide)]
      refine ⟨⟨ka.1, by omega⟩, ?_⟩
      rw [if_pos g1c]
      refine sp_rememberR (by rw [e0 82 (by decide)]; exact hU.2.1) (by rw [e0 82 (by decide)]; exact hU.2.2.1) ?_
      intro s5 x5 y5 z5
      rw [e0 82 (by decide)] at y5 z5
      rw [er 33 (by decide)] at z5
      refine ⟨⟨ka.1, by omega⟩, ?_⟩
      intro s6 u6
      have p6 : prm s6 := prm_of hd.2.2.2.2.1 (fun j j0 j1 => by rw [u6, up_other (by decide), x5 0 j (by decide) (by omega), e0 j (by omega)])
      refine sp_layWays p6 ?_
      have FD : frD q g5 := by
        intro o j h1 h2
        rw [a5 o j (by omega) (by omega), n3 o j (by omega)]
      have t0 : ∀ j, wayT s6 0 j = s6 0 j := fun j => by rw [wayT_ne s6 (by decide) (by decide)]
      have FE : frE r (wayT s6) := by
        intro o j h1 h2
        rw [wayT_ne s6 (by omega) (by omega), u6, up_other (by omega), x5 o j (by omega) (by omega), up_ne _ (by omega)]
      have v5 : ∀ j, wayT s6 5 j = if j = c then 0 else r 5 j := by
        intro j
        rw [wayT_ne s6 (by decide) (by decide), u6]
        by_cases z : j = c
        · rw [if_pos z, z, up_self]
        · rw [if_neg z, up_slot z, x5 5 j (by decide) (by omega), er 5 (by decide)]
      have h5 : ∀ d, 0 ≤ d → d < 48 → (wayT s6 5 d = 2 ↔ r 5 d = 2) := by
        intro d _ _
        rw [v5]
        by_cases z : d = c
        · rw [if_pos z, z, g1c]; decide
        · rw [if_neg z]
      have hR := FE.ref h5
      have hP := FD.pond hd.1
      have row9 : ∀ o, o ≠ 5 → o ≠ 30 → o ≠ 31 → o ≠ 33 → o ≠ 0 → wayT s6 o = r o := by
        intro o h1 h2 h3 h4 h5
        rw [wayT_ne s6 h2 h3]
        funext j
        rw [u6, up_other h1, x5 o j h4 (by omega), er o h5]
      have q53 : ∀ j, j ≠ 7 → j ≠ 1 → j ≠ 8 → j ≠ 9 → g5 53 j = q 53 j := by
        intro j h1 h2 h3 h4
        rw [a5 53 j (by decide) (by omega), n3 53 j (by omega)]
      have q531 : g5 53 1 = j_land (q 53 1) (j_lxor (j_lshl 1 c) (-1)) := by
        rw [a5 53 1 (by decide) (by decide), e3, up_slot (by decide), e2, up_slot (by decide), e1, up_self]
      have pq : g5 (q 53 0) = q (q 53 0) := hP.2 _ (by omega) (by omega)
      refine ⟨rfl, ?_, ?_, ?_⟩
      · refine h.1.ofD FD FE h5 ⟨fun d d0 d1 => ?_, fun d d0 d1 => ?_, fun d d0 d1 => ?_⟩ ?_ ?_ ?_ (wayR_wayT s6)
        · rw [v5]
          unfold cg
          rw [hP.1, pq, q531, bit_cut ka.1 (by omega) d0 (by omega)]
          by_cases z : d = c
          · rw [if_pos z, z, hb.2]
            simp
          · rw [if_neg z, hg.1 d d0 d1]
            unfold cg
            simp [z]
        · rw [hP.1, pq, hR.1 12 (by decide) (by decide), hR.1 13 (by decide) (by decide)]
          exact hg.2.1 d d0 d1
        · rw [hP.1, pq, q531, bit_cut ka.1 (by omega) d0 d1, hR.1 12 (by decide) (by decide), hR.1 13 (by decide) (by decide)]
          intro z
          simp at z
          exact hg.2.2 d d0 d1 z.1
        · exact hD.same hd.2.2.2.2.1 (fun o h1 h2 => by funext j; rw [a5 o j (by omega) (by omega), n3 o j (by omega)]) hR (by rw [t0, u6, up_other (by decide), x5 0 76 (by decide) (by decide), e0 76 (by decide)]) (fun o h1 h2 => row9 o (by omega) (by omega) (by omega) (by omega) (by omega))
        · exact hI.same hd.2.2.2.2.1 hP hR (q53 4 (by decide) (by decide) (by decide) (by decide)) (q53 5 (by decide) (by decide) (by decide) (by decide)) (fun o h1 h2 => by funext j; rw [a5 o j (by omega) (by omega), n3 o j (by omega)]) (by rw [t0, u6, up_other (by decide), x5 0 96 (by decide) (by decide), e0 96 (by decide)]) (by rw [t0, u6, up_other (by decide), x5 0 97 (by decide) (by decide), e0 97 (by decide)]) (row9 39 (by decide) (by decide) (by decide) (by decide) (by decide)) (row9 40 (by decide) (by decide) (by decide) (by decide) (by decide))
        · refine hU.push (c := c) hd.2.2.2.2.1 hR (Or.inr ⟨ka.1, ka.2, by rw [g1c]; decide⟩) b5 c5 ?_ (fun i i0 i1 => ?_) ?_
          · rw [t0, u6, up_other (by decide)]; exact y5
          · rw [wayT_ne s6 (by decide) (by decide), u6, up_other (by decide)]; exact z5 i i0 i1
          · rw [t0, u6, up_other (by decide), x5 0 76 (by decide) (by decide), e0 76 (by decide), if_neg (by omega)]; omega
      · intro z8
        rw [a5 53 8 (by decide) (by decide), e3, up_slot (by decide), e2, up_self] at z8
        exact absurd z8 (by decide)
      · intro z9
        rw [a5 53 9 (by decide) (by decide), e3, up_self] at z9
        exact absurd z9 (by decide)
    · rw [if_neg kr, if_neg (fun z => z rfl)]
      unfold wp_X14_cut
      intro r1 er1
      subst er1
      rw [wi_cellT hs, if_pos ka, if_neg (by decide), er 5 (by decide)]
      refine ⟨⟨ka.1, by omega⟩, ?_⟩
      rw [if_neg]
      · exact ⟨rfl, h0⟩
      · rw [eg]
        unfold cg
        by_cases kl : bit (q (q 53 0) 2) c = true
        · rw [if_pos kl]; decide
        · rw [if_neg kl, if_neg kr]; decide
  · rw [if_neg ka, if_pos rfl]
    unfold wp_X14_cut
    intro r1 er1
    subst er1
    rw [wi_cellT hs, if_neg ka, if_pos rfl]
    exact ⟨rfl, h0⟩
