/-! ===== the lines of land, reeds and shores ===== -/
def okG (p : Int) (r : Mh) (c : Int) : Prop := if p = 1 then r 5 (48 + c) = 0 ∧ r 6 (48 + c) = 0 ∧ r 7 c = 0 else if p = 2 then r 5 (48 + c) = 0 else ¬ r 5 (48 + c) = 2 ∧ r 6 (48 + c) = 0
theorem tw_ground {B : Int → Int} {n : Int} {m a : Nat} {q0 r0 q r : Mh} {p fb : Int} (h : PR B n m a q0 r0 q r) (h8 : r 0 8 = 1) (hp3 : p = 1 ∨ p = 2 ∨ p = 3) (hfb : ∀ c, 0 ≤ c → c < 48 → (bit fb c = false ↔ okG p r c)) :
    (∃ q' r', PBad q0 r0 q' r' ∧ (∀ K : Int → Mh → Prop, K (-1) q' → wp_X9_readCell fb (advC (up q 46 9 1)) K) ∧ (∀ K : Int → Mh → Prop, K 0 r' → Lfp (F_X14_groundLine p K) (47, [], r))) ∨
    (∃ c r2, 0 ≤ c ∧ c < r 0 25 * r 0 26 ∧ c < 48 ∧ okG p r c ∧ a + 1 + 2 ≤ m ∧ PTok B n m (a + 1 + 2) (advC (advC (advC (up q 46 9 1)))) r2 ∧ silR (tokR r) r2 ∧ r2 0 11 = c ∧ r2 0 37 = 1 ∧ (∀ K : Int → Mh → Prop, K c (advC (advC (advC (up q 46 9 1)))) → wp_X9_readCell fb (advC (up q 46 9 1)) K) ∧ (∀ K : Int → Mh → Prop, Lfp (F_X14_groundLine p K) (157, [48 + c, 1], r2) → Lfp (F_X14_groundLine p K) (47, [], r))) := by
  have am := h.am h8
  have hp0 := h.p0
  obtain ⟨dw, dh, dsz⟩ := h.dims
  obtain ⟨hT, hF, hPP, hE, hc, hr⟩ := h
  have hP : q 46 1 = q0 46 1 := hc.1
  have nP := P_ne hp0
  have mz := szs_mul dsz
  have hT1 := (hT.upC (o := 46) (k := 9) (v := 1) (by decide)).step am
  have fc1 : fxC q0 (advC (up q 46 9 1)) := fxC_adv (fxC_up hc (Or.inl (by omega)) hp0) hp0
  have fr1 : fxR r0 (tokR r) := fxR_tok hr
  have A1 : ∀ o, ¬ o = 46 → ¬ o = 49 → advC (up q 46 9 1) o = q o := fun o x y => by rw [advC_o y, up_other x]
  have Tj : ∀ j, ¬ (7 ≤ j ∧ j ≤ 10) → tokR r 0 j = r 0 j := fun j x => tokR_j x
  rcases tw_cell (fb := fb) (w := r 0 25) (hh := r 0 26) hT1 fc1 fr1 hp0 (by rw [A1 _ nP.2 nP.1]; exact dw) (Tj 25 (by omega)) (by rw [A1 _ nP.2 nP.1]; exact dh) (Tj 26 (by omega)) dsz with ⟨q', r', pb, pj, cc, rc⟩ | ⟨c, pl, r', c0, c1, bm, hT2, sil, r11, r37, r62, ok, bad, rc⟩
  · left
    refine ⟨q', r', pb, cc, fun K hk => ?_⟩
    apply L_X14_groundLine_47
    unfold B_X14_groundLine_47
    refine hT.runR (rc _ ?_)
    rw [if_neg (by decide)]; exact hk
  · have c48 : c < 48 := by omega
    have e5 : r' 5 = r 5 := by rw [sil.1 5 (by decide), tokR_o (by decide)]
    have e6 : r' 6 = r 6 := by rw [sil.1 6 (by decide), tokR_o (by decide)]
    have e7 : r' 7 = r 7 := by rw [sil.1 7 (by decide), tokR_o (by decide)]
    have w1 : w32 (48 + c) = 48 + c := w32_eq (by omega) (by omega)
    have w2 : w32 (48 + c - 48) = c := by rw [w32_eq (by omega) (by omega)]; omega
    have beg : ∀ (K : Int → Mh → Prop) (s : Int), (s = 1 ∧ okG p r c ∨ s = 0 ∧ ¬ okG p r c) → Lfp (F_X14_groundLine p K) (157, [48 + c, s], r') → Lfp (F_X14_groundLine p K) (47, [], r) := by
      intro K s hs hk
      have k0 : s = 0 → Lfp (F_X14_groundLine p K) (157, [48 + c, 0], r') := fun z => by rw [z] at hk; exact hk
      have k107 : s = 0 → Lfp (F_X14_groundLine p K) (107, [48 + c], r') := fun z => L_X14_groundLine_107 (k0 z)
      have k156 : s = 0 → Lfp (F_X14_groundLine p K) (156, [48 + c], r') := fun z => L_X14_groundLine_156 (k0 z)
      have k1 : s = 1 → Lfp (F_X14_groundLine p K) (157, [48 + c, 1], r') := fun z => by rw [z] at hk; exact hk
      have good : okG p r c → s = 1 := fun z => hs.elim (fun y => y.1) (fun y => absurd z y.2)
      have evil : ¬ okG p r c → s = 0 := fun z => hs.elim (fun y => absurd y.2 z) (fun y => y.1)
      apply L_X14_groundLine_47
      unfold B_X14_groundLine_47
      refine hT.runR (rc _ ?_)
      rw [if_pos (by decide)]
      intro x2 ex
      rw [r11, w1] at ex
      rw [ex, e5, e6, e7, w2]
      unfold okG at good evil
      rcases hp3 with e | e | e
      · rw [e] at good evil
        rw [if_pos rfl] at good evil
        rw [if_neg (fun y => y e)]
        refine ⟨⟨by omega, by omega⟩, ?_⟩
        by_cases z1 : r 5 (48 + c) = 0
        · rw [if_neg (fun y => y z1)]
          refine ⟨⟨by omega, by omega⟩, ?_⟩
          by_cases z2 : r 6 (48 + c) = 0
          · rw [if_neg (fun y => y z2)]
            refine ⟨⟨by omega, by omega⟩, ?_⟩
            by_cases z3 : r 7 c = 0
            · rw [if_neg (fun y => y z3)]; exact k1 (good ⟨z1, z2, z3⟩)
            · rw [if_pos z3]; exact k107 (evil (fun y => z3 y.2.2))
          · rw [if_pos z2]; exact k107 (evil (fun y => z2 y.2.1))
        · rw [if_pos z1]; exact k107 (evil (fun y => z1 y.1))
      · rw [e] at good evil
        rw [if_neg (by decide), if_pos rfl] at good evil
        rw [if_pos (show ¬ p = 1 by omega), if_neg (fun y => y e)]
        refine ⟨⟨by omega, by omega⟩, ?_⟩
        by_cases z1 : r 5 (48 + c) = 0
        · rw [if_neg (fun y => y z1)]; exact k1 (good z1)
        · rw [if_pos z1]; exact k0 (evil z1)
      · rw [e] at good evil
        rw [if_neg (by decide), if_neg (by decide)] at good evil
        rw [if_pos (show ¬ p = 1 by omega), if_pos (show ¬ p = 2 by omega)]
        refine ⟨⟨by omega, by omega⟩, ?_⟩
        by_cases z1 : r 5 (48 + c) = 2
        · rw [if_pos z1]; exact k156 (evil (fun y => y.1 z1))
        · rw [if_neg z1]
          refine ⟨⟨by omega, by omega⟩, ?_⟩
          by_cases z2 : r 6 (48 + c) = 0
          · rw [if_neg (fun y => y z2)]; exact k1 (good ⟨z1, z2⟩)
          · rw [if_pos z2]; exact k156 (evil (fun y => z2 y.2))
    by_cases g : okG p r c
    · right
      exact ⟨c, r', c0, c1, c48, g, bm, hT2, sil, r11, r37, ok ((hfb c c0 c48).mpr g), fun K hk => beg K 1 (Or.inl ⟨rfl, g⟩) hk⟩
    · left
      have hb : bit fb c = true := by
        cases z : bit fb c
        · exact absurd ((hfb c c0 c48).mp z) g
        · rfl
      refine ⟨_, _, PBad.cell (fxC_adv (fxC_adv fc1 hp0) hp0) (sil.fx fr1) hp0 r62, bad hb, fun K hk => beg K 0 (Or.inr ⟨rfl, g⟩) ?_⟩
      apply L_X14_groundLine_157
      unfold B_X14_groundLine_157
      rw [if_neg (by decide)]
      exact run_wrongCell hk
/-- how the reference begins such a line -/
theorem run_ground {r : Mh} {p : Int} (h8 : r 0 8 = 1) (h9 : r 0 9 = p) (hp3 : p = 1 ∨ p = 2 ∨ p = 3) {K : Int → Mh → Prop} (hk : wp_X14_groundLine p r (fun x1 h1 => Lfp (F_X14_lineRead K) (458, [x1], h1))) : wp_X14_lineRead r K := by
  have hl : Lfp (F_X14_lineRead K) (162, [], r) := by
    apply L_X14_lineRead_162
    unfold B_X14_lineRead_162
    rw [h9]; exact hk
  unfold wp_X14_lineRead
  rw [h8, h9, if_neg (by decide), if_pos (by omega), if_neg (by omega)]
  by_cases z1 : p = 1
  · rw [if_pos z1]; exact hl
  rw [if_neg z1]
  by_cases z2 : p = 2
  · rw [if_pos z2]; exact hl
  rw [if_neg z2]
  by_cases z3 : p = 3
  · rw [if_pos z3]; exact hl
  · exact absurd hp3 (by omega)
theorem run_b1 {q : Mh} {B : Int → Int} {n : Int} {m a : Nat} {r : Mh} (hT : PTok B n m a q r) {K : Int → Mh → Prop} (hk : K 0 (rfC 2 q)) : wp_X9_beginCells 1 q K := by
  unfold wp_X9_beginCells
  rw [if_neg (by decide)]
  exact run_refuse hk
theorem run_b0 {q : Mh} {B : Int → Int} {n : Int} {m a : Nat} {r : Mh} (hT : PTok B n m a q r) {K : Int → Mh → Prop} (hk : K 1 (advC (up q 46 9 1))) : wp_X9_beginCells 0 q K := by
  unfold wp_X9_beginCells
  rw [if_pos rfl]
  intro h1 q1
  rw [q1]
  exact (hT.upC (by decide)).runC hk
theorem RGr.hi {Q R : Mh} (h : RGr Q R) (hz : szs (R 0 12) (R 0 13)) : (∀ c, 48 ≤ c → c < 64 → bit (Q (Q 53 0) 2) c = false) ∧ ∀ c, 48 ≤ c → c < 64 → bit (Q 53 1) c = false := by
  have mz := szs_mul hz
  refine ⟨fun c c0 c1 => ?_, fun c c0 c1 => ?_⟩
  · cases z : bit (Q (Q 53 0) 2) c
    · rfl
    · exact absurd (h.2.1 c (by omega) c1 z) (by omega)
  · cases z : bit (Q 53 1) c
    · rfl
    · exact absurd (h.2.2 c (by omega) c1 z).1 (by omega)
theorem tw_land {B : Int → Int} {n : Int} {m a : Nat} {q0 r0 q r : Mh} (h : PR B n m a q0 r0 q r) (h8 : r 0 8 = 1) (h9 : r 0 9 = 1) : LineOut (wp_X9_readLand q) B n m a q0 r0 r := by
  have am := h.am h8
  have hp0 := h.p0
  obtain ⟨dw, dh, dsz⟩ := h.dims
  have h' := h
  obtain ⟨hT, hF, hPP, hE, hc, hr⟩ := h
  have hP : q 46 1 = q0 46 1 := hc.1
  obtain ⟨P, eP⟩ : ∃ P, P = q0 46 1 := ⟨_, rfl⟩
  have hp00 := hp0
  rw [← eP] at hP hp0 dw dh
  have sP := shC_P hp0
  have hq := hp0
  unfold isP at hq
  have gP : ∀ o, P ≤ o → o ≤ P + 39 → qv q o = q o := fun o x y => qv_get (by rw [hP]; exact hp0) (by omega) (by omega)
  have qv0 : qv q 53 0 = P := by rw [qv_0]; exact hP
  have hgr := hPP.2.1
  have hi := (hgr.hi dsz).1
  have pe := hPP.2.2.2.2.1
  rw [qv0, gP P (by omega) (by omega)] at hi pe
  have p1 : r 0 34 = pop (q P 2) 48 0 := pe.1
  have p2 : r 0 34 ≤ 20 := pe.2
  have hu := fun c c0 c1 => hPP.used (by rw [qv_1 hP, qv0, gP P (by omega) (by omega)]) (by rw [qv0, gP _ (by omega) (by omega), qv_98 hp0 hP (by decide) (by decide), show P + 33 + (98 - 98) = P + 33 by omega]) (by rw [qv0, gP _ (by omega) (by omega), qv_98 hp0 hP (by decide) (by decide), show P + 33 + (100 - 98) = P + 33 + 2 by omega]) (c := c) c0 c1
  have ueq : usedB (qv q) (qv q 53 0) = usedB (advC (up q 46 9 1)) P := by
    have A : ∀ o, P ≤ o → o ≤ P + 39 → advC (up q 46 9 1) o = qv q o := fun o x y => by rw [advC_o (by omega), up_other (by omega), gP o x y]
    rw [qv0]
    unfold usedB rowB
    rw [A P (by omega) (by omega), A (P + 1) (by omega) (by omega), A (P + 1 + 1) (by omega) (by omega), A (P + 27) (by omega) (by omega), A (P + 27 + 1) (by omega) (by omega), A (P + 31) (by omega) (by omega), A (P + 31 + 1) (by omega) (by omega), A (P + 33) (by omega) (by omega), A (P + 33 + 2) (by omega) (by omega), A (P + 3 + 1 + 2 * 0) (by omega) (by omega), A (P + 3 + 1 + 2 * 0 + 1) (by omega) (by omega), A (P + 3 + 1 + 2 * 1) (by omega) (by omega), A (P + 3 + 1 + 2 * 1 + 1) (by omega) (by omega), A (P + 3 + 1 + 2 * 2) (by omega) (by omega), A (P + 3 + 1 + 2 * 2 + 1) (by omega) (by omega)]
  rw [ueq, qv0, gP P (by omega) (by omega)] at hu
  have q1o : ∀ o, ¬ o = 46 → ¬ o = 49 → advC (up q 46 9 1) o = q o := fun o x y => by rw [advC_o y, up_other x]
  have q11 : advC (up q 46 9 1) 46 1 = P := by rw [advC_o (by decide), up_slot (by decide)]; exact hP
  have begC : ∀ K : Int → Mh → Prop, (if r 0 34 < 20 then wp_X9_readCell (j_lor (q P 2) (usedB (advC (up q 46 9 1)) P)) (advC (up q 46 9 1)) (fun x3 h3 => if 0 ≤ x3 then (((shC (h3 46 1)).1 = 4) ∧ ∀ h4 : Mh, h4 = up h3 (h3 46 1) 2 (j_lor (h3 (h3 46 1) 2) (j_lshl 1 x3)) → K 1 h4) else (K 0 h3)) else K 0 (rfC 2 q)) → wp_X9_readLand q K := by
    intro K hk
    unfold wp_X9_readLand
    rw [hP]
    refine ⟨sP, sp_bitCount hi ?_⟩
    rw [← p1]
    by_cases z : r 0 34 < 20
    · rw [if_pos z] at hk ⊢
      apply L_X9_readLand_21
      unfold B_X9_readLand_21
      refine run_b0 hT ?_
      rw [if_pos (by decide), q11]
      refine ⟨sP, xp_usedCells hp0 ?_ ?_ ?_⟩
      · have sR := hPP.1.2.1
        have cR := hPP.1.2.2.2.1
        have kR := hPP.1.2.2.2.2.1
        have mR := hPP.1.2.2.2.2.2.1
        have ml := hPP.2.2.2.2.2.2.2.2
        unfold RShr RRow at sR
        unfold RCrk RRow at cR
        unfold RSkt RRow at kR
        unfold RMay RRow at mR
        rw [qv0] at sR cR kR mR ml
        have t1 : ∀ o, P ≤ o → o ≤ P + 39 → qv q o = advC (up q 46 9 1) o := fun o x y => by rw [gP o x y, q1o o (by omega) (by omega)]
        have g1 : q (P + 1) 1 = rv r 0 18 := by rw [← gP _ (by omega) (by omega)]; exact sR.1.1
        have g27 : q (P + 27) 1 = rv r 0 15 := by rw [← gP _ (by omega) (by omega)]; exact cR.2.2.1.1
        have g31 : q (P + 31) 1 = rv r 0 16 := by rw [← gP _ (by omega) (by omega)]; exact kR.2.2.1.1
        have gm : ∀ k, 0 ≤ k → k < 3 → 0 ≤ q (P + 4 + 2 * k) 1 ∧ q (P + 4 + 2 * k) 1 ≤ 3 := by
          intro k k0 k1
          rw [← gP _ (by omega) (by omega)]
          by_cases z : k < rv r 0 19
          · obtain ⟨⟨x1, x2, x3⟩, x4, x5⟩ := mR.2.2 k k0 z
            omega
          · have := ml k (by omega) k1
            omega
        have b1 := sR.1.2.1
        have b2 := sR.2.1
        have b3 := cR.2.2.1.2.1
        have b4 := cR.2.1
        have b5 := kR.2.2.1.2.1
        have b6 := kR.2.1
        have m0 := gm 0 (by decide) (by decide)
        have m1 := gm 1 (by decide) (by decide)
        have m2 := gm 2 (by decide) (by decide)
        rw [show P + 4 + 2 * 0 = P + 4 by omega] at m0
        rw [show P + 4 + 2 * 1 = P + 6 by omega] at m1
        rw [show P + 4 + 2 * 2 = P + 8 by omega] at m2
        intro o ho
        rw [q1o o (by omega) (by omega)]
        have s1 : ((shC (P + 1 + 1)).2 : Int) = 3 := by rcases hq with e | e <;> rw [e] <;> rfl
        have s2 : ((shC (P + 27 + 1)).2 : Int) = 6 := by rcases hq with e | e <;> rw [e] <;> rfl
        have s3 : ((shC (P + 31 + 1)).2 : Int) = 3 := by rcases hq with e | e <;> rw [e] <;> rfl
        have s4 : ((shC (P + 4 + 1)).2 : Int) = 3 := by rcases hq with e | e <;> rw [e] <;> rfl
        have s5 : ((shC (P + 6 + 1)).2 : Int) = 3 := by rcases hq with e | e <;> rw [e] <;> rfl
        have s6 : ((shC (P + 8 + 1)).2 : Int) = 3 := by rcases hq with e | e <;> rw [e] <;> rfl
        rcases ho with e | e | e | e | e | e
        · rw [e, g1, s1]; exact ⟨b1, b2⟩
        · rw [e, g27, s2]; exact ⟨b3, b4⟩
        · rw [e, g31, s3]; exact ⟨b5, b6⟩
        · rw [e, s4]; exact m0
        · rw [e, s5]; exact m1
        · rw [e, s6]; exact m2
      · have hdr := hPP.2.2.1
        have h8m : r 0 30 ≤ 8 := hPP.2.2.2.1
        unfold RDrp at hdr
        rw [qv_98 hp0 hP (by decide) (by decide), show P + 33 + (98 - 98) = P + 33 by omega] at hdr
        have s7 : ((shC (P + 33 + 2)).2 : Int) = 8 := by rcases hq with e | e <;> rw [e] <;> rfl
        rw [q1o _ (by omega) (by omega), hdr.1, s7]
        exact ⟨hdr.2.1, h8m⟩
      · rw [q1o P (by omega) (by omega)]; exact hk
    · rw [if_neg z] at hk ⊢
      apply L_X9_readLand_21
      unfold B_X9_readLand_21
      refine run_b1 hT ?_
      rw [if_neg (by decide)]; exact hk
  have begR : ∀ K : Int → Mh → Prop, r 0 34 < 20 → Lfp (F_X14_groundLine 1 (fun x1 h1 => Lfp (F_X14_lineRead K) (458, [x1], h1))) (47, [], r) → wp_X14_lineRead r K := by
    intro K z hk
    refine run_ground h8 h9 (Or.inl rfl) ?_
    unfold wp_X14_groundLine
    rw [if_neg (by decide), if_neg (by omega)]
    apply L_X14_groundLine_14
    unfold B_X14_groundLine_14
    rw [if_pos (by decide)]
    apply L_X14_groundLine_28
    unfold B_X14_groundLine_28
    rw [if_pos (by decide)]
    exact hk
  by_cases z : r 0 34 < 20
  · simp only [if_pos z] at begC
    have hfb : ∀ c, 0 ≤ c → c < 48 → (bit (j_lor (q P 2) (usedB (advC (up q 46 9 1)) P)) c = false ↔ okG 1 r c) := by
      intro c c0 c1
      unfold okG
      rw [if_pos rfl]
      have := hu c c0 c1
      have e7 : rv r 7 c = r 7 c := by show r 7 (0 + c) = r 7 c; rw [show (0 : Int) + c = c by omega]
      rw [e7] at this
      exact this
    rcases tw_ground h' h8 (Or.inl rfl) hfb with ⟨q', r', pb, cc, rc⟩ | ⟨c, r2, c0, c1, c48, g, bm, hT2, sil, r11, r37, cc, rc⟩
    · left
      refine ⟨q', r', pb, fun K hk => begC K (cc _ ?_), fun K hk => begR K z (rc _ (run_458_0 hk))⟩
      rw [if_neg (by decide)]; exact hk
    · right
      unfold okG at g
      rw [if_pos rfl] at g
      obtain ⟨q3, eq3⟩ : ∃ q3, q3 = advC (advC (advC (up q 46 9 1))) := ⟨_, rfl⟩
      rw [← eq3] at hT2 cc
      have q3o : ∀ o, ¬ o = 46 → ¬ o = 49 → q3 o = q o := fun o x y => by rw [eq3, advC_o y, advC_o y, q1o o x y]
      have q346 : q3 46 = up q 46 9 1 46 := by rw [eq3, advC_o (by decide), advC_o (by decide), advC_o (by decide)]
      have q31 : q3 46 1 = P := by rw [q346, up_slot (by decide)]; exact hP
      have r2j : ∀ j, ¬ (7 ≤ j ∧ j ≤ 11) → ¬ j = 37 → ¬ j = 62 → r2 0 j = r 0 j := fun j x y w => by rw [sil.2 j x y w, tokR_j (by omega)]
      have r2o : ∀ o, ¬ o = 0 → r2 o = r o := fun o x => by rw [sil.1 o x, tokR_o x]
      obtain ⟨q4, eq4⟩ : ∃ q4, q4 = up q3 P 2 (j_lor (q P 2) (j_lshl 1 c)) := ⟨_, rfl⟩
      obtain ⟨r4, er4⟩ : ∃ r4, r4 = up (up (up r2 5 (48 + c) 2) 0 34 (r 0 34 + 1)) 0 35 (r 0 35) := ⟨_, rfl⟩
      have q41 : q4 46 1 = P := by rw [eq4, up_other (by omega)]; exact q31
      have r4j : ∀ j, ¬ (7 ≤ j ∧ j ≤ 11) → ¬ j = 37 → ¬ j = 62 → ¬ j = 34 → r4 0 j = r 0 j := fun j x y w v => by
        rw [er4]
        by_cases u : j = 35
        · rw [u, up_self]
        · rw [up_slot u, up_slot v, up_other (by decide), r2j j x y w]
      have r4o : ∀ o, ¬ o = 0 → ¬ o = 5 → r4 o = r o := fun o x y => by rw [er4, up_other x, up_other x, up_other y, r2o o x]
      have pp : PP (qv q4) (rv r4) := by
        refine hPP.land (c := c) c0 c1 c48 g.1 g.2.1 (by show r 7 (0 + c) = 0; rw [show (0 : Int) + c = c by omega]; exact g.2.2) z ?_ ?_ ?_ ?_ ?_ ?_ ?_
        · intro o x
          rw [qv0] at x
          exact qv_keep hp0 hP q41 (fun u v => by rw [eq4, up_other x, q3o o (by omega) (by omega)]) (fun u v => by rw [eq4, up_other (by omega), q3o _ (by omega) (by omega)]) (fun u => by rw [eq4, up_slot (by decide), q3o P (by omega) (by omega)])
        · intro j x
          rw [qv0, gP P (by omega) (by omega), qv_get (by rw [q41]; exact hp0) (by omega) (by omega), eq4, up_slot x, q3o P (by omega) (by omega)]
        · rw [qv0, gP P (by omega) (by omega), qv_get (by rw [q41]; exact hp0) (by omega) (by omega), eq4, up_self]
        · intro o x y
          exact rv_keep x (fun u v => r4o o x y) (fun u => r4o 8 (by decide) (by decide))
        · intro j x
          exact rv_keep0 (t := 34) (r4o 3 (by decide) (by decide)) (fun k a b c d e => r4j k (by omega) d (by omega) e) (fun u v => by omega) (fun u => by decide) (fun u => by decide) (fun u => by decide) (fun u => by omega)
        · show r4 0 34 = r 0 34 + 1
          rw [er4, up_slot (by decide), up_self]
        · intro j
          show r4 5 (48 + j) = if j = c then 2 else r 5 (48 + j)
          rw [er4, up_other (by decide), up_other (by decide), up_get, r2o 5 (by decide)]
          by_cases w : j = c
          · rw [if_pos w, if_pos (by omega)]
          · rw [if_neg w, if_neg (by omega)]
      refine ⟨a + 1 + 2, q4, r4, by omega, h'.next ?_ ?_ ?_ ?_ ?_ ?_ pp ?_ ?_, ?_, ?_⟩
      · rw [eq4, er4]
        exact (((hT2.upC (by omega)).upR (by decide)).up11 (by omega)).up11 (by omega)
      · intro j j0 j1
        rw [eq4, up_other (by omega), q346, up_slot (by omega)]
      · rw [eq4, up_other (by omega), q346, up_self]
      · intro j hj
        exact r4j j (by omega) (by omega) (by omega) (by omega)
      · exact r4o 4 (by decide) (by decide)
      · rw [er4, up_slot (by decide), up_slot (by decide), up_other (by decide)]; exact r37
      · rw [eq4]
        have f3 : fxC q0 q3 := by rw [eq3]; exact fxC_adv (fxC_adv (fxC_adv (fxC_up hc (Or.inl (by omega)) hp00) hp00) hp00) hp00
        exact fxC_up f3 (Or.inr (by omega)) hp00
      · rw [er4]
        exact fxR_0 (fxR_0 (fxR_5 (sil.fx (fxR_tok hr)) (by decide) (by decide) (by rw [show off 5 = 48 from rfl]; omega)) (by omega)) (by omega)
      · intro K hk
        refine begC K (cc _ ?_)
        rw [if_pos c0, q31, q3o P (by omega) (by omega), ← eq4]
        exact ⟨sP, fun g4 e4 => by rw [e4]; exact hk⟩
      · intro K hk
        refine begR K z (rc _ ?_)
        apply L_X14_groundLine_157
        unfold B_X14_groundLine_157
        rw [if_pos (by decide), if_pos (by decide), if_neg (by decide)]
        apply L_X14_groundLine_221
        unfold B_X14_groundLine_221
        refine ⟨⟨by omega, by omega⟩, ?_⟩
        intro g1 e1
        have p39 := pop_nn (q P 2) 48 0
        rw [if_neg (by decide), show g1 0 34 = r 0 34 by rw [e1, up_other (by decide), r2j 34 (by omega) (by omega) (by omega)], w32_eq (by omega) (by omega)]
        intro g2 e2
        rw [if_pos (by decide), show g2 0 35 = r 0 35 by rw [e2, up_slot (by decide), e1, up_other (by decide), r2j 35 (by omega) (by omega) (by omega)]]
        have p35 : r 0 35 ≤ 20 := hPP.2.2.2.2.2.1.2
        have p36 : r 0 35 = pop (qv q 53 1) 48 0 := hPP.2.2.2.2.2.1.1
        have p37 := pop_nn (qv q 53 1) 48 0
        rw [Int.add_zero, w32_eq (by omega) (by omega)]
        intro g3 e3
        rw [e3, e2, e1, ← er4]; exact hk
  · simp only [if_neg z] at begC
    left
    refine ⟨_, _, PBad.of hT hc hr hp00 (e := 2) (by decide), begC, fun K hk => ?_⟩
    refine run_ground h8 h9 (Or.inl rfl) ?_
    unfold wp_X14_groundLine
    rw [if_neg (by decide), if_pos (by omega)]
    exact run_wrong (run_458_0 hk)
