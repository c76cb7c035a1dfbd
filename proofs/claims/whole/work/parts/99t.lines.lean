/-! ===== any line, read by both ===== -/
theorem wsm_ix : ∀ w : Nat, w < 22 → wsm (ix w) = if w ≤ 12 then (w : Int) + 1 else wsm (ix w) := by decide +kernel
theorem wsm_hi : ∀ w : Nat, w < 22 → ¬ w ≤ 12 → ¬ (1 ≤ wsm (ix w) ∧ wsm (ix w) ≤ 13) := by decide +kernel
theorem LineOut.mono {wc wc' : (Int → Mh → Prop) → Prop} {B : Int → Int} {n : Int} {m a : Nat} {q0 r0 r : Mh} (h : LineOut wc B n m a q0 r0 r) (hm : ∀ K : Int → Mh → Prop, wc K → wc' K) : LineOut wc' B n m a q0 r0 r := by
  rcases h with ⟨q', r', pb, cc, rc⟩ | ⟨a', q', r', aa, pr, cc, rc⟩
  · exact Or.inl ⟨q', r', pb, fun K hk => hm K (cc K hk), rc⟩
  · exact Or.inr ⟨a', q', r', aa, pr, fun K hk => hm K (cc K hk), rc⟩
theorem run_line {q : Mh} {w : Int} (h8 : q 49 8 = 3) (w0 : 0 ≤ w) (w1 : w < 22) (h10 : q 49 10 = wl (ix w)) {K : Int → Mh → Prop} (hk : B_X9_readLine_25 K (Lfp (F_X9_readLine K)) (ix w) q) : wp_X9_readLine q K := by
  unfold wp_X9_readLine
  rw [if_neg (fun y => y h8), h10]
  exact run_of w0 w1 (L_X9_readLine_25 hk)
theorem tw_line {B : Int → Int} {n : Int} {m a : Nat} {q0 r0 q r : Mh} (h : PR B n m a q0 r0 q r) : LineOut (wp_X9_readLine q) B n m a q0 r0 r := by
  have hp0 := h.p0
  have hT := h.1
  have hc := h.2.2.2.2.1
  have hr := h.2.2.2.2.2
  have hP : q 46 1 = q0 46 1 := hc.1
  have sP : (shC (q 46 1)).1 = 4 := by rw [hP]; exact shC_P hp0
  obtain ⟨w1, w2⟩ := hT.word
  by_cases z : q 49 8 = 3
  · obtain ⟨am, i0, i1, i2⟩ := w2 z
    have h8 := w1.mp z
    have r' := ix_r (r 0 9).toNat (by omega)
    have e1 := wsm_ix (r 0 9).toNat (by omega)
    have e2 := wsm_hi (r 0 9).toNat (by omega)
    rw [show (((r 0 9).toNat : Nat) : Int) = r 0 9 by omega] at r' e1 e2
    by_cases y : r 0 9 ≤ 12
    · rw [if_pos (by omega)] at e1
      have beg : ∀ K : Int → Mh → Prop, (if r 0 9 + 1 = 1 then (wp_X9_readPond q (fun x1 h1 => K x1 h1)) else (if r 0 9 + 1 = 2 then (wp_X9_readLand q (fun x2 h2 => K x2 h2)) else (if r 0 9 + 1 = 3 then (wp_X9_readReed q (fun x3 h3 => K x3 h3)) else (if r 0 9 + 1 = 4 then (shoreC q K) else (if r 0 9 + 1 = 5 then (wp_X9_readKind q (fun x7 h7 => K x7 h7)) else (if r 0 9 + 1 = 6 then (wp_X9_readPlaced ((q 46 1) + 25) ((q 46 1) + 27) q (fun x8 h8 => K x8 h8)) else (if r 0 9 + 1 = 7 then (wp_X9_readPlaced ((q 46 1) + 29) ((q 46 1) + 31) q (fun x9 h9 => K x9 h9)) else (if r 0 9 + 1 = 8 then (wp_X9_readDrop q (fun x10 h10 => K x10 h10)) else (if r 0 9 + 1 = 9 then (wp_X9_readLoss q (fun x11 h11 => K x11 h11)) else (if r 0 9 + 1 = 10 then (wp_X9_readThick q (fun x12 h12 => K x12 h12)) else (if r 0 9 + 1 = 11 then (wp_X9_readSent q (fun x13 h13 => K x13 h13)) else (if r 0 9 + 1 = 12 then (wp_X9_readLaw q (fun x14 h14 => K x14 h14)) else (wp_X9_readMay q (fun x15 h15 => K x15 h15))))))))))))) ) → wp_X9_readLine q K := by
        intro K hk
        refine run_line z i0 i1 i2 ?_
        unfold B_X9_readLine_25
        rw [if_pos r'.1]
        refine ⟨r', r', ?_⟩
        rw [e1]
        by_cases c1 : r 0 9 + 1 = 1
        · rw [if_pos c1] at hk ⊢; exact hk
        rw [if_neg c1] at hk ⊢
        by_cases c2 : r 0 9 + 1 = 2
        · rw [if_pos c2] at hk ⊢; exact hk
        rw [if_neg c2] at hk ⊢
        by_cases c3 : r 0 9 + 1 = 3
        · rw [if_pos c3] at hk ⊢; exact hk
        rw [if_neg c3] at hk ⊢
        by_cases c4 : r 0 9 + 1 = 4
        · rw [if_pos c4] at hk ⊢; exact hk
        rw [if_neg c4] at hk ⊢
        by_cases c5 : r 0 9 + 1 = 5
        · rw [if_pos c5] at hk ⊢; exact hk
        rw [if_neg c5] at hk ⊢
        by_cases c6 : r 0 9 + 1 = 6
        · rw [if_pos c6] at hk ⊢; exact ⟨sP, hk⟩
        rw [if_neg c6] at hk ⊢
        by_cases c7 : r 0 9 + 1 = 7
        · rw [if_pos c7] at hk ⊢; exact ⟨sP, hk⟩
        rw [if_neg c7] at hk ⊢
        by_cases c8 : r 0 9 + 1 = 8
        · rw [if_pos c8] at hk ⊢; exact hk
        rw [if_neg c8] at hk ⊢
        by_cases c9 : r 0 9 + 1 = 9
        · rw [if_pos c9] at hk ⊢; exact hk
        rw [if_neg c9] at hk ⊢
        by_cases c10 : r 0 9 + 1 = 10
        · rw [if_pos c10] at hk ⊢; exact hk
        rw [if_neg c10] at hk ⊢
        by_cases c11 : r 0 9 + 1 = 11
        · rw [if_pos c11] at hk ⊢; exact hk
        rw [if_neg c11] at hk ⊢
        by_cases c12 : r 0 9 + 1 = 12
        · rw [if_pos c12] at hk ⊢; exact hk
        rw [if_neg c12] at hk ⊢
        rw [if_pos (by omega)]; exact hk
      have hw : r 0 9 = 0 ∨ r 0 9 = 1 ∨ r 0 9 = 2 ∨ r 0 9 = 3 ∨ r 0 9 = 4 ∨ r 0 9 = 5 ∨ r 0 9 = 6 ∨ r 0 9 = 7 ∨ r 0 9 = 8 ∨ r 0 9 = 9 ∨ r 0 9 = 10 ∨ r 0 9 = 11 ∨ r 0 9 = 12 := by omega
      rcases hw with e | e | e | e | e | e | e | e | e | e | e | e | e
      · exact (tw_pond h h8 e).mono (fun K hk => beg K (by rw [e]; exact hk))
      · exact (tw_land h h8 e).mono (fun K hk => beg K (by rw [e]; exact hk))
      · exact (tw_reed h h8 e).mono (fun K hk => beg K (by rw [e]; exact hk))
      · exact (tw_shore h h8 e).mono (fun K hk => beg K (by rw [e]; exact hk))
      · exact (tw_kind h h8 e).mono (fun K hk => beg K (by rw [e]; exact hk))
      · exact (tw_cork h h8 e).mono (fun K hk => beg K (by rw [e]; exact hk))
      · exact (tw_skater h h8 e).mono (fun K hk => beg K (by rw [e]; exact hk))
      · exact (tw_drop h h8 e).mono (fun K hk => beg K (by rw [e]; exact hk))
      · exact (tw_once (i := 0) (lim := 50) h h8 e (by decide) (by decide) rfl).mono (fun K hk => beg K (by rw [e]; exact hk))
      · exact (tw_once (i := 1) (lim := 99) h h8 e (by decide) (by decide) rfl).mono (fun K hk => beg K (by rw [e]; exact hk))
      · exact (tw_once (i := 2) (lim := 99) h h8 e (by decide) (by decide) rfl).mono (fun K hk => beg K (by rw [e]; exact hk))
      · exact (tw_lawline h h8 e).mono (fun K hk => beg K (by rw [e]; exact hk))
      · exact (tw_may h h8 e).mono (fun K hk => beg K (by rw [e]; exact hk))
    · left
      have e3 := e2 (by omega)
      refine ⟨_, _, PBad.of hT hc hr hp0 (e := 1) (by decide), fun K hk => ?_, fun K hk => ?_⟩
      · refine run_line z i0 i1 i2 ?_
        unfold B_X9_readLine_25
        rw [if_pos r'.1]
        refine ⟨r', r', ?_⟩
        rw [if_neg (by omega), if_neg (by omega), if_neg (by omega), if_neg (by omega), if_neg (by omega), if_neg (by omega), if_neg (by omega), if_neg (by omega), if_neg (by omega), if_neg (by omega), if_neg (by omega), if_neg (by omega), if_neg (by omega)]
        exact run_refuse hk
      · unfold wp_X14_lineRead
        rw [if_neg (fun u => u h8), if_neg y]
        exact run_wrong hk
  · left
    refine ⟨_, _, PBad.of hT hc hr hp0 (e := 1) (by decide), fun K hk => ?_, fun K hk => ?_⟩
    · unfold wp_X9_readLine
      rw [if_pos z]
      apply L_X9_readLine_25
      unfold B_X9_readLine_25
      rw [if_neg (by decide)]
      exact run_refuse hk
    · unfold wp_X14_lineRead
      rw [if_pos (fun u => z (w1.mpr u))]
      exact run_wrong hk
/-! ===== all lines ===== -/
def gxC (q g : Mh) : Prop := g 46 1 = q 46 1 ∧ ∀ o j, ¬ (46 ≤ o ∧ o ≤ 52) → ¬ (q 46 1 ≤ o ∧ o ≤ q 46 1 + 39) → g o j = q o j
theorem gxC.fx {q g k : Mh} (h : gxC q g) (f : fxC g k) : gxC q k := ⟨f.1.trans h.1, fun o j a b => by rw [f.2 o j (fun y => a ⟨y.1, y.2.1⟩) (by rw [h.1]; exact b), h.2 o j a b]⟩
def PG (B : Int → Int) (n : Int) (m a : Nat) (L : Int) (q0 r0 q r : Mh) : Prop := PTok B n m a q r ∧ PFlag q r ∧ PP (qv q) (rv r) ∧ (r 0 37 = 0 → PEmp (qv q) (rv r)) ∧ gxC q0 q ∧ fxR r0 r ∧ q 46 4 = L ∧ 0 ≤ L ∧ L ≤ a
theorem PG.toPR {B : Int → Int} {n : Int} {m a : Nat} {L : Int} {q0 r0 q r : Mh} (h : PG B n m a L q0 r0 q r) : PR B n m a q r q r := ⟨h.1, h.2.1, h.2.2.1, h.2.2.2.1, fxC.refl q, fxR.refl r⟩
def GBad (q0 r0 q r : Mh) : Prop := gxC q0 q ∧ fxR r0 r ∧ q 46 2 = r 0 4 ∧ q 46 3 = r 0 5
theorem read_bad {p1 p2 v : Int} {q : Mh} {K : Int → Mh → Prop} (h : ¬ q 46 2 = 0) (hk : K 0 q) : Lfp (F_X9_read p1 p2 K) (62, [v], q) := by
  apply L_X9_read_62
  unfold B_X9_read_62
  by_cases a : v ≤ 0
  · rw [if_pos a, if_pos h]; exact hk
  rw [if_neg a]
  by_cases b : q 49 8 = 0
  · rw [if_pos b, if_pos h]; exact hk
  rw [if_neg b, if_pos h, if_pos h]; exact hk
theorem tw_read {B : Int → Int} {n : Int} {m : Nat} {q0 r0 : Mh} {p1 p2 p3 : Int} :
    ∀ (f a : Nat) (v L : Int) (q r : Mh), m - a ≤ f → (m : Int) - a ≤ v → v ≤ 800 → PG B n m a L q0 r0 q r →
    (∃ q' r', GBad q0 r0 q' r' ∧ (∀ K : Int → Mh → Prop, K 0 q' → Lfp (F_X9_read p1 p2 K) (62, [v], q)) ∧ (∀ K : Int → Mh → Prop, K (-1) r' → Lfp (F_X14_text p3 K) (55, [L], r))) ∨
    (∃ (L' : Int) (q' r' : Mh), PG B n m m L' q0 r0 q' r' ∧ (∀ K : Int → Mh → Prop, K 1 q' → Lfp (F_X9_read p1 p2 K) (62, [v], q)) ∧ (∀ K : Int → Mh → Prop, wp_X14_keepText r' (fun h1 => K L' h1) → Lfp (F_X14_text p3 K) (55, [L], r))) := by
  have fin : ∀ (a : Nat) (v L : Int) (q r : Mh), a = m → PG B n m a L q0 r0 q r → (∃ (L' : Int) (q' r' : Mh), PG B n m m L' q0 r0 q' r' ∧ (∀ K : Int → Mh → Prop, K 1 q' → Lfp (F_X9_read p1 p2 K) (62, [v], q)) ∧ (∀ K : Int → Mh → Prop, wp_X14_keepText r' (fun h1 => K L' h1) → Lfp (F_X14_text p3 K) (55, [L], r))) := by
    intro a v L q r ea h
    rw [ea] at h
    have e0 : q 49 8 = 0 ∧ r 0 8 = 0 := by
      rcases h.1.see.2 with ⟨_, y⟩ | ⟨y, _⟩
      · exact y
      · omega
    have f2 : q 46 2 = 0 := h.2.1.2.1
    refine ⟨L, q, r, h, fun K hk => ?_, fun K hk => ?_⟩
    · apply L_X9_read_62
      unfold B_X9_read_62
      by_cases z : v ≤ 0
      · rw [if_pos z, if_neg (fun y => y f2)]; exact hk
      · rw [if_neg z, if_pos e0.1, if_neg (fun y => y f2)]; exact hk
    · apply L_X14_text_55
      unfold B_X14_text_55
      rw [if_pos e0.2]; exact hk
  intro f
  induction f with
  | zero =>
    intro a v L q r hf hv v8 h
    have am := h.1.2.1.2.1
    exact Or.inr (fin a v L q r (by omega) h)
  | succ f ih =>
    intro a v L q r hf hv v8 h
    have ale := h.1.2.1.2.1
    by_cases ea : a = m
    · exact Or.inr (fin a v L q r ea h)
    have am : a < m := by omega
    have m8 : m ≤ 800 := h.1.1.2.2.2.2.1
    have hpr := h.toPR
    have f2 : q 46 2 = 0 := h.2.1.2.1
    have f4 : q 46 4 = L := h.2.2.2.2.2.2.1
    have L0 : 0 ≤ L := h.2.2.2.2.2.2.2.1
    have L1 : L ≤ a := h.2.2.2.2.2.2.2.2
    have gx := h.2.2.2.2.1
    have fr := h.2.2.2.2.2.1
    have ne : ¬ q 49 8 = 0 ∧ ¬ r 0 8 = 0 := by
      rcases h.1.see.2 with ⟨y, _⟩ | ⟨_, t⟩
      · omega
      · unfold tRel at t
        rcases t with t | t | t | t | t | t <;> omega
    have wv : w32 (v + (-1)) = v - 1 := by rw [w32_eq (by omega) (by omega)]; omega
    have begC : ∀ K : Int → Mh → Prop, (wp_X9_readLine q (fun x1 h1 => if x1 = 0 then (∀ x2 : Int, x2 = w32 (v + (-1)) → Lfp (F_X9_read p1 p2 K) (62, [x2], h1)) else (wp_X9_lineEnds h1 (fun x3 h2 => if x3 = 0 then (∀ x4 : Int, x4 = w32 (v + (-1)) → Lfp (F_X9_read p1 p2 K) (62, [x4], h2)) else (∀ h3 : Mh, h3 = up h2 46 4 (w32 ((h2 46 4) + 1)) → ∀ x5 : Int, x5 = w32 (v + (-1)) → Lfp (F_X9_read p1 p2 K) (62, [x5], h3)))))) → Lfp (F_X9_read p1 p2 K) (62, [v], q) := by
      intro K hk
      apply L_X9_read_62
      unfold B_X9_read_62
      rw [if_neg (by omega), if_neg ne.1, if_neg (fun y => y f2)]
      exact hk
    have begR : ∀ K : Int → Mh → Prop, (wp_X14_lineRead r (fun x1 h2 => if ¬ x1 = 0 then (∀ x2 : Int, x2 = w32 (L + 1) → Lfp (F_X14_text p3 K) (55, [x2], h2)) else (K (-1) h2))) → Lfp (F_X14_text p3 K) (55, [L], r) := by
      intro K hk
      apply L_X14_text_55
      unfold B_X14_text_55
      rw [if_neg ne.2]
      exact hk
    rcases tw_line hpr with ⟨q', r', pb, cc, rc⟩ | ⟨a', q', r', aa, pr, cc, rc⟩
    · left
      refine ⟨q', r', ⟨gx.fx pb.1, fr.trans pb.2.1, pb.2.2.1, pb.2.2.2.1⟩, fun K hk => begC K (cc _ ?_), fun K hk => begR K (rc _ ?_)⟩
      · rw [if_pos rfl]
        intro x2 _
        exact read_bad (by rw [pb.2.2.1]; exact pb.2.2.2.2) hk
      · rw [if_neg (by decide)]; exact hk
    · rcases tw_end pr with ⟨q2, r2, pb, cc2, rc2⟩ | ⟨am2, pr2, cc2, rc2⟩
      · left
        refine ⟨q2, r2, ⟨gx.fx pb.1, fr.trans pb.2.1, pb.2.2.1, pb.2.2.2.1⟩, fun K hk => begC K (cc _ ?_), fun K hk => begR K (rc _ (rc2 _ ?_))⟩
        · rw [if_neg (by decide)]
          refine cc2 _ ?_
          rw [if_pos rfl]
          intro x2 _
          exact read_bad (by rw [pb.2.2.1]; exact pb.2.2.2.2) hk
        · rw [if_neg (by decide)]; exact hk
      · obtain ⟨hT3, hF3, hPP3, hE3, hc3, hr3⟩ := pr2
        obtain ⟨q3, eq3⟩ : ∃ q3, q3 = up (advC q') 46 4 (L + 1) := ⟨_, rfl⟩
        have hq3 : isP (advC q' 46 1) := hF3.1
        have e4 : advC q' 46 4 = L := by rw [hc3.2 46 4 (by omega) (by have := h.2.1.1; unfold isP at this; omega)]; exact f4
        have qe : qv q3 = qv (advC q') := by rw [eq3]; exact qv_scr hq3 (by decide) (by decide) (by decide)
        have pg : PG B n m (a' + 1) (L + 1) q0 r0 q3 (tokR r') := by
          refine ⟨?_, ?_, by rw [qe]; exact hPP3, by rw [qe]; exact hE3, ?_, fr.trans hr3, by rw [eq3, up_self], by omega, by omega⟩
          · rw [eq3]; exact hT3.upC (by decide)
          · obtain ⟨b1, b2, b3, b4, b5, b6, b7, b8, b9, b10, b11⟩ := hF3
            have k : ∀ j, ¬ j = 4 → q3 46 j = advC q' 46 j := fun j y => by rw [eq3, up_slot y]
            unfold PFlag
            rw [k 1 (by decide), k 2 (by decide), k 3 (by decide), k 5 (by decide), k 6 (by decide), k 7 (by decide), k 8 (by decide), k 9 (by decide)]
            exact ⟨b1, b2, b3, b4, b5, b6, b7, b8, b9, b10, b11⟩
          · have g3 := gx.fx hc3
            exact ⟨by rw [eq3, up_slot (by decide)]; exact g3.1, fun o j y z => by rw [eq3, up_other (by omega)]; exact g3.2 o j y z⟩
        have goC : ∀ K : Int → Mh → Prop, Lfp (F_X9_read p1 p2 K) (62, [v - 1], q3) → Lfp (F_X9_read p1 p2 K) (62, [v], q) := by
          intro K hk
          refine begC K (cc _ ?_)
          rw [if_neg (by decide)]
          refine cc2 _ ?_
          rw [if_neg (by decide), e4, w32_eq (by omega) (by omega)]
          intro h3 e3 x5 e5
          rw [e3, ← eq3, e5, wv]; exact hk
        have goR : ∀ K : Int → Mh → Prop, Lfp (F_X14_text p3 K) (55, [L + 1], tokR r') → Lfp (F_X14_text p3 K) (55, [L], r) := by
          intro K hk
          refine begR K (rc _ (rc2 _ ?_))
          rw [if_pos (by decide), w32_eq (by omega) (by omega)]
          intro x2 e2
          rw [e2]; exact hk
        rcases ih (a' + 1) (v - 1) (L + 1) q3 (tokR r') (by omega) (by omega) (by omega) pg with ⟨q4, r4, gb, c4, r4'⟩ | ⟨L4, q4, r4, pg4, c4, r4'⟩
        · exact Or.inl ⟨q4, r4, gb, fun K hk => goC K (c4 K hk), fun K hk => goR K (r4' K hk)⟩
        · exact Or.inr ⟨L4, q4, r4, pg4, fun K hk => goC K (c4 K hk), fun K hk => goR K (r4' K hk)⟩
