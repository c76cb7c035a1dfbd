/-! ===== behind the small calls ===== -/
theorem Rel.up2 {q r : Mh} (h : Rel q r) : Rel q (up r 0 2 0) := h.thrown (sameR.thrown r)
/-- behind fault, named, drop -/
theorem post_same {q q' r r' : Mh} (h : Rel q r) (e1 : q' = q) (e2 : r' = up r 0 2 0) : Rel q' r' := by
  rw [e1, e2]; exact h.up2
/-- changes of the notes alone, and of the tape alone -/
theorem Rel.notes {q r q' r' : Mh} (h : Rel q r) (hq : ∀ o j, ¬ (107 ≤ o ∧ o ≤ 111) → q' o j = q o j) (hr : ∀ o j, ¬ (o = 34 ∨ (o = 0 ∧ (j = 2 ∨ j = 84 ∨ j = 85))) → r' o j = r o j) (hN : RNotes q' r') : Rel q' r' := by
  obtain ⟨⟨h1, h2, h3, h4, h5, h6, h7, h8, h9, h10, h11⟩, hw, hs⟩ := h
  have qr : ∀ o, ¬ (107 ≤ o ∧ o ≤ 111) → q' o = q o := fun o ho => by funext j; exact hq o j ho
  have rr : ∀ o, o ≠ 34 → o ≠ 0 → r' o = r o := fun o a b => by funext j; exact hr o j (by omega)
  have r0 : ∀ j, j ≠ 2 → j ≠ 84 → j ≠ 85 → r' 0 j = r 0 j := fun j a b c => hr 0 j (by omega)
  have hP : pondEq q q' := ⟨by rw [qr 53 (by decide)], fun o a b => by rcases h3.1.1 with e | e <;> exact qr o (by omega)⟩
  have hR : refEq r r' := ⟨fun j a b => r0 j (by omega) (by omega) (by omega), r0 77 (by decide) (by decide) (by decide), fun o a b c => rr o (by omega) (by omega), rr 6 (by decide) (by decide), rr 32 (by decide) (by decide), fun c _ _ => by rw [rr 5 (by decide) (by decide)]⟩
  have hC : Core q' r' := by
    refine ⟨h1.same (by rw [qr 0 (by decide)]) (qr 1 (by decide)) (r0 1 (by decide) (by decide) (by decide)) (rr 1 (by decide) (by decide)), h2.same (qr 46 (by decide)) (r0 4 (by decide) (by decide) (by decide)) (r0 5 (by decide) (by decide) (by decide)), h3.same hP (by rw [qr 0 (by decide)]) hR, h4.same hP (by rw [qr 53 (by decide)]) hR (fun c _ _ => by rw [rr 5 (by decide) (by decide)]), ?_, ?_, ?_, hN, ?_⟩
    · exact h5.same h3.1.2.2.2.2.1 (fun o a b => qr o (by omega)) hR (r0 76 (by decide) (by decide) (by decide)) (fun o a b => rr o (by omega) (by omega))
    · exact h6.same h3.1.2.2.2.2.1 hP hR (by rw [qr 53 (by decide)]) (by rw [qr 53 (by decide)]) (fun o a b => qr o (by omega)) (r0 96 (by decide) (by decide) (by decide)) (r0 97 (by decide) (by decide) (by decide)) (rr 39 (by decide) (by decide)) (rr 40 (by decide) (by decide))
    · exact h7.same h3.1.2.2.2.2.1 hR (by rw [qr 53 (by decide)]) (qr 106 (by decide)) (r0 82 (by decide) (by decide) (by decide)) (rr 33 (by decide) (by decide)) (r0 76 (by decide) (by decide) (by decide))
    · exact ⟨by rw [r0 79 (by decide) (by decide) (by decide)]; exact h9, wayR_congr (fun j a b => r0 j (by omega) (by omega) (by omega)) (rr 5 (by decide) (by decide)) (rr 30 (by decide) (by decide)) (rr 31 (by decide) (by decide)) h10, by rw [rr 2 (by decide) (by decide)]; exact h11⟩
  have hC0 : Core q r := ⟨h1, h2, h3, h4, h5, h6, h7, h8, h9, h10, h11⟩
  have ep : q' (q 53 0) = q (q 53 0) := hP.2 _ (by omega) (by omega)
  refine ⟨hC, fun z => ?_, fun z => ?_⟩
  · rw [qr 53 (by decide)] at z
    exact waysOK_congr hP.1 (by rw [qr 53 (by decide)]) ep (qr 116 (by decide)) (qr 117 (by decide)) (qr 118 (by decide)) (hw z)
  · rw [qr 53 (by decide)] at z
    have hs0 := hs z
    intro c t c0 c1 t0 t1
    rw [hP.1, ep] at c1
    rw [qr 120 (by decide), hs0 c t c0 c1 t0 t1]
    -- the sums look at the drops and the pond
    unfold csum
    rw [qr 98 (by decide), qr 99 (by decide), qr 100 (by decide), qr 101 (by decide)]
    refine sumN_congr _ 0 (fun d w0 w1 => ?_)
    obtain ⟨y1, y2, y3, y4⟩ := h5.2.2.2 d w0 (by rw [← h5.1]; omega)
    have k4 := h3.2.2.1.2.1
    have y5 := y4.1
    have y6 := y4.2.1
    unfold cgiv crs
    rw [FC_congr hP.1 (by rw [qr 53 (by decide)]) ep, hP.1, ep, y1, hP.2 (q 53 0 + 1) (by omega) (by omega), hP.2 (q 53 0 + 1 + 1) (by omega) (by omega), hP.2 (q 53 0 + 15 + 2 * r 17 d) (by omega) (by omega), hP.2 (q 53 0 + 16 + 2 * r 17 d) (by omega) (by omega)]
theorem post_known {q r q' r' : Mh} (h : Rel q r) (hN : RNotes q' r') (f1 : ∀ b j, ¬ (b = 107 ∧ j = 7) → q' b j = q b j) (f2 : ∀ b j, ¬ (b = 0 ∧ (j = 2 ∨ j = 85)) → r' b j = r b j) : Rel q' r' :=
  h.notes (fun o j a => f1 o j (by omega)) (fun o j a => f2 o j (by omega)) hN
theorem post_note {q r q' r' : Mh} (h : Rel q r) (hN : RNotes q' r') (f : FN q q' r r') : Rel q' r' :=
  h.notes (fun o j a => f.1 o j (by omega)) (fun o j a => f.2 o j (by omega)) hN
theorem post_feed {q r q' r' : Mh} (h : Rel q r) (hT : RTape q' r') (f1 : ∀ o j, ¬ (o = 1 ∨ (o = 0 ∧ j = 1)) → q' o j = q o j) (f2 : ∀ o j, ¬ (o = 1 ∨ (o = 0 ∧ (j = 1 ∨ j = 2))) → r' o j = r o j) : Rel q' r' := by
  obtain ⟨⟨h1, h2, h3, h4, h5, h6, h7, h8, h9, h10, h11⟩, hw, hs⟩ := h
  have qr : ∀ o, o ≠ 0 → o ≠ 1 → q' o = q o := fun o a b => by funext j; exact f1 o j (by omega)
  have rr : ∀ o, o ≠ 0 → o ≠ 1 → r' o = r o := fun o a b => by funext j; exact f2 o j (by omega)
  have r0 : ∀ j, j ≠ 1 → j ≠ 2 → r' 0 j = r 0 j := fun j a b => f2 0 j (by omega)
  have hP : pondEq q q' := ⟨by rw [qr 53 (by decide) (by decide)], fun o a b => by rcases h3.1.1 with e | e <;> exact qr o (by omega) (by omega)⟩
  have hR : refEq r r' := ⟨fun j a b => r0 j (by omega) (by omega), r0 77 (by decide) (by decide), fun o a b c => rr o (by omega) (by omega), rr 6 (by decide) (by decide), rr 32 (by decide) (by decide), fun c _ _ => by rw [rr 5 (by decide) (by decide)]⟩
  have e53 : q' 53 = q 53 := qr 53 (by decide) (by decide)
  have hC : Core q' r' := by
    refine ⟨hT, h2.same (qr 46 (by decide) (by decide)) (r0 4 (by decide) (by decide)) (r0 5 (by decide) (by decide)), h3.same hP (f1 0 2 (by decide)) hR, h4.same hP (by rw [e53]) hR (fun c _ _ => by rw [rr 5 (by decide) (by decide)]), ?_, ?_, ?_, ?_, ?_⟩
    · exact h5.same h3.1.2.2.2.2.1 (fun o a b => qr o (by omega) (by omega)) hR (r0 76 (by decide) (by decide)) (fun o a b => rr o (by omega) (by omega))
    · exact h6.same h3.1.2.2.2.2.1 hP hR (by rw [e53]) (by rw [e53]) (fun o a b => qr o (by omega) (by omega)) (r0 96 (by decide) (by decide)) (r0 97 (by decide) (by decide)) (rr 39 (by decide) (by decide)) (rr 40 (by decide) (by decide))
    · exact h7.same h3.1.2.2.2.2.1 hR (by rw [e53]) (qr 106 (by decide) (by decide)) (r0 82 (by decide) (by decide)) (rr 33 (by decide) (by decide)) (r0 76 (by decide) (by decide))
    · exact h8.same (fun b h1 h2 => qr b (by omega) (by omega)) (rr 34 (by decide) (by decide)) (r0 15 (by decide) (by decide)) (r0 84 (by decide) (by decide)) (r0 85 (by decide) (by decide))
    · exact ⟨by rw [r0 79 (by decide) (by decide)]; exact h9, wayR_congr (fun j a b => r0 j (by omega) (by omega)) (rr 5 (by decide) (by decide)) (rr 30 (by decide) (by decide)) (rr 31 (by decide) (by decide)) h10, by rw [rr 2 (by decide) (by decide)]; exact h11⟩
  have ep : q' (q 53 0) = q (q 53 0) := hP.2 _ (by omega) (by omega)
  refine ⟨hC, fun z => ?_, fun z => ?_⟩
  · rw [e53] at z
    exact waysOK_congr hP.1 (by rw [e53]) ep (qr 116 (by decide) (by decide)) (qr 117 (by decide) (by decide)) (qr 118 (by decide) (by decide)) (hw z)
  · rw [e53] at z
    have hs0 := hs z
    intro c t c0 c1 t0 t1
    rw [hP.1, ep] at c1
    rw [qr 120 (by decide) (by decide), hs0 c t c0 c1 t0 t1]
    unfold csum
    rw [qr 98 (by decide) (by decide), qr 99 (by decide) (by decide), qr 100 (by decide) (by decide), qr 101 (by decide) (by decide)]
    refine sumN_congr _ 0 (fun d w0 w1 => ?_)
    obtain ⟨y1, y2, y3, y4⟩ := h5.2.2.2 d w0 (by rw [← h5.1]; omega)
    have k4 := h3.2.2.1.2.1
    have y5 := y4.1
    have y6 := y4.2.1
    unfold cgiv crs
    rw [FC_congr hP.1 (by rw [e53]) ep, hP.1, ep, y1, hP.2 (q 53 0 + 1) (by omega) (by omega), hP.2 (q 53 0 + 1 + 1) (by omega) (by omega), hP.2 (q 53 0 + 15 + 2 * r 17 d) (by omega) (by omega), hP.2 (q 53 0 + 16 + 2 * r 17 d) (by omega) (by omega)]
