theorem PBad.upC {q0 r0 q r : Mh} {o k v : Int} (h : PBad q0 r0 q r) (hp : isP (q0 46 1)) (a : (46 ≤ o ∧ o ≤ 52 ∧ ¬ (o = 46 ∧ 1 ≤ k ∧ k ≤ 4)) ∨ (q0 46 1 ≤ o ∧ o ≤ q0 46 1 + 39)) : PBad q0 r0 (up q o k v) r := by
  have hq := hp
  unfold isP at hq
  exact ⟨fxC_up h.1 (by omega) hp, h.2.1, by rw [up_ne _ (by omega)]; exact h.2.2.1, by rw [up_ne _ (by omega)]; exact h.2.2.2.1, h.2.2.2.2⟩
theorem PBad.upR {q0 r0 q r : Mh} {o k v : Int} (h : PBad q0 r0 q r) (f : fxR r0 (up r o k v)) (a : ¬ (o = 0 ∧ 4 ≤ k ∧ k ≤ 5)) : PBad q0 r0 q (up r o k v) :=
  ⟨h.1, f, by rw [up_ne _ (by omega)]; exact h.2.2.1, by rw [up_ne _ (by omega)]; exact h.2.2.2.1, by rw [up_ne _ (by omega)]; exact h.2.2.2.2⟩
theorem PR.am {B : Int → Int} {n : Int} {m a : Nat} {q0 r0 q r : Mh} (h : PR B n m a q0 r0 q r) (h8 : r 0 8 = 1) : a < m := by
  obtain ⟨w1, w2⟩ := h.1.word
  exact (w2 (w1.mpr h8)).1
theorem PR.p0 {B : Int → Int} {n : Int} {m a : Nat} {q0 r0 q r : Mh} (h : PR B n m a q0 r0 q r) : isP (q0 46 1) := by
  rw [← h.2.2.2.2.1.1]; exact h.2.1.1
theorem tw_once {B : Int → Int} {n : Int} {m a : Nat} {q0 r0 q r : Mh} {i lim : Int} (h : PR B n m a q0 r0 q r) (h8 : r 0 8 = 1) (h9 : r 0 9 = 8 + i) (i0 : 0 ≤ i) (i1 : i ≤ 2) (hl : lim = if i = 0 then 50 else 99) : LineOut (onceC i lim q) B n m a q0 r0 r := by
  have am := h.am h8
  have hp0 := h.p0
  obtain ⟨hT, hF, hPP, hE, hc, hr⟩ := h
  have hP : q 46 1 = q0 46 1 := hc.1
  have sP := shC_P hp0
  have nP := P_ne hp0
  have hq := hp0
  unfold isP at hq
  have l99 : lim ≤ 99 := by rw [hl]; split <;> omega
  have told : q 46 (6 + i) = r 4 i := by
    have hF' := hF
    unfold PFlag at hF'
    have hcs : i = 0 ∨ i = 1 ∨ i = 2 := by omega
    rcases hcs with rfl | rfl | rfl
    · exact hF'.2.2.2.2.2.2.1
    · exact hF'.2.2.2.2.2.2.2.1
    · exact hF'.2.2.2.2.2.2.2.2.1
  -- how the reference begins
  have begR : ∀ K : Int → Mh → Prop, (if r 4 i = 0 then (wp_X14_number 0 lim (tokR (up r 4 i 1)) (fun x1 h1 => ∀ h2 : Mh, h2 = up h1 3 i (h1 0 11) → Lfp (F_X14_lineRead K) (458, [x1], h2))) else (K 0 (wgR 3 r))) → wp_X14_lineRead r K := by
    intro K hk
    refine run_359 h8 h9 i0 i1 ?_
    apply L_X14_lineRead_359
    unfold B_X14_lineRead_359
    rw [h9, w32_eq (by omega) (by omega), show 8 + i - 8 = i by omega]
    intro x1 ex1
    rw [ex1]
    refine ⟨⟨i0, by omega⟩, ?_⟩
    by_cases z : r 4 i = 0
    · rw [if_pos z] at hk ⊢
      refine ⟨⟨i0, by omega⟩, ?_⟩
      intro h1 q1
      rw [q1]
      have t406 : ∀ h2 : Mh, wp_X14_number 0 lim h2 (fun x1 h1 => ∀ h2 : Mh, h2 = up h1 3 i (h1 0 11) → Lfp (F_X14_lineRead K) (458, [x1], h2)) → (if ¬ i = 0 then (Lfp (F_X14_lineRead K) (406, [i, 0, 99], h2)) else (Lfp (F_X14_lineRead K) (406, [i, 0, 50], h2))) := by
        intro h2 hn
        have go : ∀ l : Int, l = lim → Lfp (F_X14_lineRead K) (406, [i, 0, l], h2) := by
          intro l el
          apply L_X14_lineRead_406
          unfold B_X14_lineRead_406
          rw [el]
          have b3 : (0 : Int) ≤ i ∧ i < 3 := ⟨i0, by omega⟩
          simp only [b3, true_and, and_self]
          exact hn
        by_cases y : i = 0
        · rw [if_neg (fun x => x y)]; exact go 50 (by rw [hl, if_pos y])
        · rw [if_pos y]; exact go 99 (by rw [hl, if_neg y])
      exact (hT.upR (by decide)).runR (t406 _ hk)
    · rw [if_neg z] at hk ⊢
      exact run_wrong hk
  -- how the class ends
  have endC : ∀ (K : Int → Mh → Prop) (x : Int) (g : Mh), g 46 1 = q0 46 1 → (if x < 0 then K 0 (up (up g 46 (6 + i) 1) (q0 46 1) (17 + i) 0) else K 1 (up (up g 46 (6 + i) 1) (q0 46 1) (17 + i) x)) → ∀ h2 : Mh, h2 = up g 46 (6 + i) 1 → ((shC (h2 46 1)).1 = 4) ∧ ∀ h3 : Mh, h3 = up h2 (h2 46 1) (17 + i) (if x < 0 then 0 else x) → if x < 0 then (K 0 h3) else (K 1 h3) := by
    intro K x g g1 hk h2 q2
    have e1 : h2 46 1 = q0 46 1 := by rw [q2, up_slot (by omega)]; exact g1
    rw [e1]
    refine ⟨sP, ?_⟩
    intro h3 q3
    rw [q3, q2]
    by_cases z : x < 0
    · rw [if_pos z] at hk ⊢; rw [if_pos z]; exact hk
    · rw [if_neg z] at hk ⊢; rw [if_neg z]; exact hk
  have PQ : ∀ (g s : Mh), PBad q0 r0 g s → PBad q0 r0 (up (up g 46 (6 + i) 1) (q0 46 1) (17 + i) 0) s := by
    intro g s hb
    exact (hb.upC hp0 (Or.inl (by omega))).upC hp0 (Or.inr (by omega))
  by_cases z : r 4 i = 0
  · have hT1 := (hT.upR (o := 4) (k := i) (v := 1) (by decide)).step am
    have begR1 : ∀ K : Int → Mh → Prop, wp_X14_number 0 lim (tokR (up r 4 i 1)) (fun x1 h1 => ∀ h2 : Mh, h2 = up h1 3 i (h1 0 11) → Lfp (F_X14_lineRead K) (458, [x1], h2)) → wp_X14_lineRead r K := by
      intro K hk
      refine begR K ?_
      rw [if_pos z]; exact hk
    have fr1 : fxR r0 (tokR (up r 4 i 1)) := fxR_tok (fxR_3 hr (by omega))
    have begC : ∀ K : Int → Mh → Prop, wp_X9_readNumber 0 lim (advC q) (fun x1 h1 => ∀ h2 : Mh, h2 = up h1 46 (6 + i) 1 → ((shC (h2 46 1)).1 = 4) ∧ ∀ h3 : Mh, h3 = up h2 (h2 46 1) (17 + i) (if x1 < 0 then 0 else x1) → if x1 < 0 then (K 0 h3) else (K 1 h3)) → onceC i lim q K := by
      intro K hk
      unfold onceC wp_X9_readOnce
      rw [told, if_pos z]
      exact hT.runC hk
    rcases tw_num (lo := 0) (hi := lim) hT1 (by omega) with ⟨v, v0, v1, _, bm, hT2, cv, rv1⟩ | ⟨e, e0, cv, rv1⟩
    · right
      obtain ⟨r2, er2⟩ : ∃ r2, r2 = tokR (up (tokR (up r 4 i 1)) 0 11 v) := ⟨_, rfl⟩
      rw [← er2] at hT2 rv1
      have r211 : r2 0 11 = v := by rw [er2, tokR_j (by omega), up_self]
      have r2j : ∀ j, ¬ (7 ≤ j ∧ j ≤ 11) → r2 0 j = r 0 j := fun j y => by rw [er2, tokR_j (by omega), up_slot (by omega), tokR_j (by omega), up_other (by decide)]
      have r24 : ∀ j, r2 4 j = up r 4 i 1 4 j := fun j => by rw [er2, tokR_o (by decide), up_other (by decide), tokR_o (by decide)]
      have A1 : advC (advC q) 46 = q 46 := by rw [advC_o (by decide), advC_o (by decide)]
      have Ac : advC (advC q) 46 1 = q0 46 1 := by rw [A1]; exact hP
      obtain ⟨q2, eq2⟩ : ∃ q2, q2 = up (advC (advC q)) 46 (6 + i) 1 := ⟨_, rfl⟩
      have q21 : q2 46 1 = q0 46 1 := by rw [eq2, up_slot (by omega)]; exact Ac
      have qvv : qv (up q2 (q0 46 1) (17 + i) v) = up (qv q) (q0 46 1) (17 + i) v := by
        rw [qv_up (by rw [q21]; exact hp0) (by omega) (by omega) (by omega) (by omega), eq2, qv_scr (by rw [Ac]; exact hp0) (by decide) (by decide) (by omega), qv_adv (by rw [advC_o (by decide), hP]; exact hp0), qv_adv (by rw [hP]; exact hp0)]
      have rvv : rv (up r2 3 i v) = up (rv r) 0 (21 + i) v := by
        rw [rv_once i0 i1, er2, rv_tok, rv_scr (by omega), rv_tok, rv_scr4 (by omega)]
      have qv0 : qv q 53 0 = q0 46 1 := by rw [qv_0]; exact hP
      have pp := hPP.once i0 i1 v0 (by rw [← hl]; exact v1)
      rw [qv0] at pp
      refine ⟨a + 1 + 1, up q2 (q0 46 1) (17 + i) v, up r2 3 i v, by omega, ⟨?_, ?_, ?_, ?_, ?_, ?_⟩, ?_, ?_⟩
      · rw [eq2]; exact ((hT2.upC (by omega)).upC (by omega)).upR (by decide)
      · refine hF.once i0 i1 (fun j y1 y2 y3 => ?_) ?_ (fun j y1 y2 => ?_) (fun j y1 y2 => ?_) (fun j y => ?_) ?_ ?_
        · rw [up_other (by omega), eq2, up_slot y3, A1]
        · rw [up_other (by omega), eq2, up_self]
        · rw [up_other (by decide)]; exact r2j j (by omega)
        · rw [up_other (by decide)]; exact r2j j (by omega)
        · rw [up_other (by decide), r24, up_slot y]
        · rw [up_other (by decide), r24, up_self]
        · rw [up_other (by decide)]; exact r2j 68 (by omega)
      · rw [qvv, rvv]; exact pp
      · rw [up_other (by decide), r2j 37 (by omega), qvv, rvv]
        intro y
        exact (hE y).cg (by rw [up_other (by omega)]) (by rw [up_other (by omega)]) (by rw [qv0, up_slot (by omega)]) (fun j x1 x2 => up_slot (by omega)) (up_slot (by omega))
      · rw [eq2]; exact fxC_up (fxC_up (fxC_adv (fxC_adv hc hp0) hp0) (Or.inl (by omega)) hp0) (Or.inr (by omega)) hp0
      · refine fxR_3 ?_ (by omega)
        rw [er2]; exact fxR_tok (fxR_0 fr1 (by omega))
      · intro K hk
        refine begC K (cv _ (endC K v _ Ac ?_))
        rw [if_neg (by omega), ← eq2]; exact hk
      · intro K hk
        refine begR1 K (rv1 _ ?_)
        intro h2 q2
        rw [q2, r211]; exact hk
    · left
      have pb := PBad.of hT1 (fxC_adv hc hp0) fr1 hp0 e0
      have Ac : rfC e (advC q) 46 1 = q0 46 1 := by unfold rfC; rw [up_slot (by decide), up_slot (by decide), advC_o (by decide)]; exact hP
      refine ⟨_, _, (PQ _ _ pb).upR (o := 3) (k := i) (v := wgR e (tokR (up r 4 i 1)) 0 11) (fxR_3 pb.2.1 (by omega)) (by omega), fun K hk => begC K (cv _ (endC K (-1) _ Ac ?_)), fun K hk => begR1 K (rv1 _ ?_)⟩
      · rw [if_pos (by decide)]; exact hk
      · intro h2 q2
        rw [q2]
        exact run_458_0 hk
  · left
    have pb := PBad.of hT hc hr hp0 (e := 3) (by decide)
    have Ac : rfC 3 q 46 1 = q0 46 1 := by unfold rfC; rw [up_slot (by decide), up_slot (by decide)]; exact hP
    refine ⟨_, _, PQ _ _ pb, fun K hk => ?_, fun K hk => begR K ?_⟩
    · unfold onceC wp_X9_readOnce
      rw [told, if_neg z]
      refine run_refuse (endC K (-1) _ Ac ?_)
      rw [if_pos (by decide)]; exact hk
    · rw [if_neg z]; exact hk
