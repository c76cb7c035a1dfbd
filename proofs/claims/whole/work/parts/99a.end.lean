/-! ===== the end of a line ===== -/
theorem PR.adv {B : Int → Int} {n : Int} {m a : Nat} {q0 r0 q r : Mh} (h : PR B n m a q0 r0 q r) (am : a < m) : PR B n m (a + 1) q0 r0 (advC q) (tokR r) := by
  have hp0 := h.p0
  obtain ⟨hT, hF, hPP, hE, hc, hr⟩ := h
  have hq1 : isP (q 46 1) := hF.1
  refine ⟨hT.step am, hF.same (fun j x y => by rw [advC_o (by decide)]) (fun j x y => tokR_j (by omega)) (fun j x y => tokR_j (by omega)) (tokR_o (by decide)) (tokR_j (by omega)), ?_, ?_, fxC_adv hc hp0, fxR_tok hr⟩
  · rw [qv_adv hq1, rv_tok]; exact hPP
  · rw [qv_adv hq1, rv_tok, tokR_j (by omega)]; exact hE
theorem tw_end {B : Int → Int} {n : Int} {m a : Nat} {q0 r0 q r : Mh} (h : PR B n m a q0 r0 q r) :
    (∃ q' r', PBad q0 r0 q' r' ∧ (∀ K : Int → Mh → Prop, K 0 q' → wp_X9_lineEnds q K) ∧ (∀ K : Int → Mh → Prop, K 0 r' → Lfp (F_X14_lineRead K) (458, [1], r))) ∨
    (a < m ∧ PR B n m (a + 1) q0 r0 (advC q) (tokR r) ∧ (∀ K : Int → Mh → Prop, K 1 (advC q) → wp_X9_lineEnds q K) ∧ (∀ K : Int → Mh → Prop, K 1 (tokR r) → Lfp (F_X14_lineRead K) (458, [1], r))) := by
  have hp0 := h.p0
  have hT := h.1
  obtain ⟨b, bm, cb, rb⟩ := tw_sign hT (v := 21) (w := 59) (Or.inl ⟨rfl, rfl⟩)
  have begC : ∀ K : Int → Mh → Prop, (if ¬ b01 b = 0 then (wp_X10_advance q (fun h2 => K 1 h2)) else (wp_X9_refuse 1 q (fun x2 h3 => K x2 h3))) → wp_X9_lineEnds q K := by
    intro K hk
    unfold wp_X9_lineEnds
    exact cb _ hk
  have begR : ∀ K : Int → Mh → Prop, (if ¬ b01 b = 0 then (wp_X14_token r (fun h2 => K 1 h2)) else (wp_X14_wrong 1 r (fun x2 h3 => K x2 h3))) → Lfp (F_X14_lineRead K) (458, [1], r) := by
    intro K hk
    apply L_X14_lineRead_458
    unfold B_X14_lineRead_458
    rw [if_pos (by decide)]
    exact rb _ hk
  cases b
  · left
    refine ⟨_, _, PBad.of hT h.2.2.2.2.1 h.2.2.2.2.2 hp0 (e := 1) (by decide), fun K hk => begC K ?_, fun K hk => begR K ?_⟩
    · rw [show b01 false = 0 from rfl, if_neg (by decide)]; exact run_refuse hk
    · rw [show b01 false = 0 from rfl, if_neg (by decide)]; exact run_wrong hk
  · right
    have am := bm rfl
    refine ⟨am, h.adv am, fun K hk => begC K ?_, fun K hk => begR K ?_⟩
    · rw [show b01 true = 1 from rfl, if_pos (by decide)]; exact hT.runC hk
    · rw [show b01 true = 1 from rfl, if_pos (by decide)]; exact hT.runR hk
