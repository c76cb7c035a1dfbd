/-! ===== text: how both end ===== -/
/-- a text with a fault changes nothing that any promise sees but the fault -/
theorem Rel.fault {q r q' r' : Mh} {P : Int} (h : Rel q r) (eP : P = q 0 2) (hp : isP P) (gb : GBad (up (up q 0 1 0) 46 1 P) (r0F r) q' r') : Rel q' r' := by
  have hq := hp
  unfold isP at hq
  obtain ⟨hC0, hw, hs⟩ := h
  have hC1 := hC0
  obtain ⟨h1, h2, h3, h4, h5, h6, h7, h8, h9, h10, h11⟩ := hC0
  obtain ⟨⟨g1, g2⟩, ⟨f1, f2, f3, f4, f5⟩, b1, b2⟩ := gb
  rw [up_self] at g1 g2
  have e53 : q 53 0 = 56 - P := by have := h3.1.2.1; omega
  have qo : ∀ o, ¬ o = 0 → ¬ (46 ≤ o ∧ o ≤ 52) → ¬ (P ≤ o ∧ o ≤ P + 39) → q' o = q o := fun o x y z => by
    funext j
    rw [g2 o j y z, up_other (by omega), up_other x]
  have q0 : ∀ j, ¬ j = 1 → q' 0 j = q 0 j := fun j x => by rw [g2 0 j (by omega) (by omega), up_other (by decide), up_slot x]
  have q01 : q' 0 1 = 0 := by rw [g2 0 1 (by omega) (by omega), up_other (by decide), up_self]
  have rj : ∀ j, ¬ j = 1 → ¬ j = 2 → ¬ (4 ≤ j ∧ j ≤ 11) → ¬ (25 ≤ j ∧ j ≤ 38) → ¬ (62 ≤ j ∧ j ≤ 70) → r' 0 j = r 0 j := fun j x y z w u => by
    rw [f1 j z w u]; unfold r0F; rw [up_slot x, up_slot y]
  have r01 : r' 0 1 = 0 := by rw [f1 1 (by omega) (by omega) (by omega)]; unfold r0F; rw [up_self]
  have ro : ∀ o, 28 ≤ o → r' o = r o := fun o x => by rw [f4 o x]; unfold r0F; rw [up_other (by omega), up_other (by omega)]
  have r1 : r' 1 = r 1 := by rw [f2]; unfold r0F; rw [up_other (by decide), up_other (by decide)]
  have r2 : r' 2 = r 2 := by rw [f3]; unfold r0F; rw [up_other (by decide), up_other (by decide)]
  have low : lowEq r r' := by
    refine ⟨fun j a b _ => rj j (by omega) (by omega) (by omega) (by omega) (by omega), rj 77 (by decide) (by decide) (by decide) (by decide) (by decide), rj 76 (by decide) (by decide) (by decide) (by decide) (by decide), fun o j a b c d e => ?_, fun j a b => by rw [ro 32 (by decide)]⟩
    rw [f5 o j a b c e]; unfold r0F; rw [up_other (by omega), up_other (by omega)]
  have hP : pondEq q q' := ⟨by rw [qo 53 (by decide) (by omega) (by omega)], fun o a b => qo o (by omega) (by omega) (by omega)⟩
  have prm0 := h3.1.2.2.2.2.1
  have q53 : q' 53 = q 53 := qo 53 (by decide) (by omega) (by omega)
  have n3 := h3.low hP (q0 2 (by decide)) low
  have n4 := h4.low hP (by rw [q53]) low
  have ep : q' (q 53 0) = q (q 53 0) := hP.2 _ (by omega) (by omega)
  have hC : Core q' r' := by
    refine ⟨⟨by rw [q01, r01], by rw [r01]; decide, by rw [r01]; decide, fun j a b => by rw [r01] at b; omega⟩, ⟨b1, b2⟩, n3, n4, ?_, ?_, ?_, ?_, ?_, ?_, ?_⟩
    · exact h5.low prm0 (by rw [qo 98 (by decide) (by omega) (by omega)]) (fun o d a b _ _ => by rw [qo o (by omega) (by omega) (by omega)]) low
    · unfold RImg at h6 ⊢
      rw [q53, ep, qo 102 (by decide) (by omega) (by omega), qo 103 (by decide) (by omega) (by omega), qo 104 (by decide) (by omega) (by omega), qo 105 (by decide) (by omega) (by omega), rj 96 (by decide) (by decide) (by decide) (by decide) (by decide), rj 97 (by decide) (by decide) (by decide) (by decide) (by decide), ro 39 (by decide), ro 40 (by decide), rj 12 (by decide) (by decide) (by decide) (by decide) (by decide), rj 13 (by decide) (by decide) (by decide) (by decide) (by decide)]
      refine ⟨h6.1, fun z => ?_⟩
      obtain ⟨a, b, c, d, e⟩ := h6.2 z
      refine ⟨a, b, c, fun i i0 i1 => ?_, e⟩
      obtain ⟨a1, b1, c1, e1⟩ := d i i0 i1
      exact ⟨a1, b1, c1, e1.low prm0 low⟩
    · unfold RUnd at h7 ⊢
      rw [q53, qo 106 (by decide) (by omega) (by omega), rj 82 (by decide) (by decide) (by decide) (by decide) (by decide), ro 33 (by decide), rj 76 (by decide) (by decide) (by decide) (by decide) (by decide)]
      refine ⟨h7.1, h7.2.1, h7.2.2.1, fun i i0 i1 => ?_, h7.2.2.2.2⟩
      obtain ⟨a, b⟩ := h7.2.2.2.1 i i0 i1
      exact ⟨a, b.imp id (fun z => low.wr prm0 z)⟩
    · exact h8.same (fun b x y => qo b (by omega) (by omega) (by omega)) (ro 34 (by decide)) (rj 15 (by decide) (by decide) (by decide) (by decide) (by decide)) (rj 84 (by decide) (by decide) (by decide) (by decide) (by decide)) (rj 85 (by decide) (by decide) (by decide) (by decide) (by decide))
    · rw [rj 79 (by decide) (by decide) (by decide) (by decide) (by decide)]; exact h9
    · exact wayR.low h10 h3.1 h4 n3.1 n4 (FC_congr hP.1 (by rw [q53]) ep) (ro 30 (by decide)) (ro 31 (by decide))
    · rw [r2]; exact h11
  refine ⟨hC, fun z => ?_, fun z => ?_⟩
  · rw [q53] at z
    exact waysOK_congr hP.1 (by rw [q53]) ep (qo 116 (by decide) (by omega) (by omega)) (qo 117 (by decide) (by omega) (by omega)) (qo 118 (by decide) (by omega) (by omega)) (hw z)
  · rw [q53] at z
    have hs0 := hs z
    intro c t c0 c1 t0 t1
    rw [hP.1, ep] at c1
    rw [qo 120 (by decide) (by omega) (by omega), hs0 c t c0 c1 t0 t1]
    unfold csum
    rw [qo 98 (by decide) (by omega) (by omega), qo 99 (by decide) (by omega) (by omega), qo 100 (by decide) (by omega) (by omega), qo 101 (by decide) (by omega) (by omega)]
    refine sumN_congr _ 0 (fun d w0 w1 => ?_)
    obtain ⟨y1, y2, y3, y4⟩ := h5.2.2.2 d w0 (by rw [← h5.1]; omega)
    have k4 := h3.2.2.1.2.1
    have y5 := y4.1
    have y6 := y4.2.1
    unfold cgiv crs
    rw [FC_congr hP.1 (by rw [q53]) ep, hP.1, ep, y1, hP.2 (q 53 0 + 1) (by omega) (by omega), hP.2 (q 53 0 + 1 + 1) (by omega) (by omega), hP.2 (q 53 0 + 15 + 2 * r 17 d) (by omega) (by omega), hP.2 (q 53 0 + 16 + 2 * r 17 d) (by omega) (by omega)]
/-- the class, once its text is read -/
def ends (P : Int) (q f : Mh) : Prop := (∀ o, ¬ o = 0 → ¬ o = 53 → ¬ (98 ≤ o ∧ o ≤ 101) → ¬ o = 107 → f o = q o) ∧ (∀ j, ¬ j = 2 → f 0 j = q 0 j) ∧ f 0 2 = q 53 0 ∧ f 53 0 = P ∧ f 53 1 = q P 3 ∧ f 53 5 = 0 ∧ f 53 7 = 0 ∧ f 53 8 = 1 ∧ f 53 9 = 1 ∧ f 98 3 = q (P + 33) 3 ∧ (∀ i d, 1 ≤ i → i ≤ 3 → 0 ≤ d → d < q (P + 33) 3 → f (98 + i) d = q (P + 33 + i) d) ∧ f 107 6 = 0 ∧ f 107 7 = -1
theorem run_ends {P : Int} {q : Mh} (hp : isP P) (h02 : q 0 2 = P) (c0 : 0 ≤ q (P + 33) 3) (c8 : q (P + 33) 3 ≤ 8) {K : Int → Mh → Prop} (hk : ∀ f, ends P q f → K (q 46 4) f) : ∀ h3 : Mh, h3 = up q 0 2 (q 53 0) → wp_X11_begin (q 0 2) h3 (fun h4 => wp_X4_clear h4 (fun h5 => K (h5 46 4) h5)) := by
  have hq := hp
  unfold isP at hq
  intro h3 e3
  unfold wp_X11_begin
  rw [h02]
  intro g1 e1
  refine ⟨shC_P hp, ?_⟩
  intro g2 e2
  have s0 : (shC (P + 33)).1 = 0 := by rcases hq with e | e <;> rw [e] <;> rfl
  have s1 : ((shC (P + 33 + 1)).2 : Int) = 8 := by rcases hq with e | e <;> rw [e] <;> rfl
  have s2 : ((shC (P + 33 + 2)).2 : Int) = 8 := by rcases hq with e | e <;> rw [e] <;> rfl
  have s3 : ((shC (P + 33 + 3)).2 : Int) = 8 := by rcases hq with e | e <;> rw [e] <;> rfl
  have t1 : ((shC (98 + 1)).2 : Int) = 16 := rfl
  have t2 : ((shC (98 + 2)).2 : Int) = 16 := rfl
  have t3 : ((shC (98 + 3)).2 : Int) = 16 := rfl
  have g2o : ∀ o, ¬ o = 0 → ¬ o = 53 → g2 o = q o := fun o x y => by rw [e2, up_other y, e1, up_other y, e3, up_other x]
  have gc : g2 (P + 33) 3 = q (P + 33) 3 := by rw [g2o _ (by omega) (by omega)]
  refine sp_copyOf s0 (by omega) (by omega) (by omega) (by omega) (by omega) (by omega) (by omega) (by omega) (by omega) ?_
  have d2 : ∀ o, ¬ (98 ≤ o ∧ o ≤ 101) → dcopy g2 98 (P + 33) o = g2 o := fun o x => by
    funext j
    unfold dcopy
    rw [if_neg (by omega), if_neg (by omega), if_neg (by omega), if_neg (by omega)]
  intro g4 e4 g5 e5 g6 e6 g7 e7
  unfold wp_X4_clear
  intro g8 e8 g9 e9
  have o9 : ∀ o, ¬ o = 107 → ¬ o = 53 → g9 o = dcopy g2 98 (P + 33) o := fun o x y => by rw [e9, up_other x, e8, up_other x, e7, up_other y, e6, up_other y, e5, up_other y, e4, up_other y]
  have e46 : g9 46 4 = q 46 4 := by rw [o9 46 (by decide) (by decide), d2 46 (by decide), g2o 46 (by decide) (by decide)]
  rw [e46]
  have f53 : ∀ j, ¬ j = 5 → ¬ j = 7 → ¬ j = 8 → ¬ j = 9 → g9 53 j = g2 53 j := fun j x y z w => by rw [e9, up_other (by decide), e8, up_other (by decide), e7, up_slot w, e6, up_slot z, e5, up_slot y, e4, up_slot x, d2 53 (by decide)]
  refine hk g9 ⟨fun o x y z w => by rw [o9 o w y, d2 o z, g2o o x y], fun j x => ?_, ?_, ?_, ?_, ?_, ?_, ?_, ?_, ?_, ?_, ?_, ?_⟩
  · rw [o9 0 (by decide) (by decide), d2 0 (by decide), e2, up_other (by decide), e1, up_other (by decide), e3, up_slot x]
  · rw [o9 0 (by decide) (by decide), d2 0 (by decide), e2, up_other (by decide), e1, up_other (by decide), e3, up_self]
  · rw [f53 0 (by decide) (by decide) (by decide) (by decide), e2, up_slot (by decide), e1, up_self]
  · rw [f53 1 (by decide) (by decide) (by decide) (by decide), e2, up_self, e1, up_other (by omega), e3, up_other (by omega)]
  · rw [e9, up_other (by decide), e8, up_other (by decide), e7, up_slot (by decide), e6, up_slot (by decide), e5, up_slot (by decide), e4, up_self]
  · rw [e9, up_other (by decide), e8, up_other (by decide), e7, up_slot (by decide), e6, up_slot (by decide), e5, up_self]
  · rw [e9, up_other (by decide), e8, up_other (by decide), e7, up_slot (by decide), e6, up_self]
  · rw [e9, up_other (by decide), e8, up_other (by decide), e7, up_self]
  · rw [o9 98 (by decide) (by decide)]
    unfold dcopy
    rw [if_pos ⟨rfl, rfl⟩]; exact gc
  · intro i d i0 i1 x y
    rw [o9 (98 + i) (by omega) (by omega)]
    have hi : i = 1 ∨ i = 2 ∨ i = 3 := by omega
    rcases hi with e | e | e
    · rw [e]; unfold dcopy; rw [if_neg (by omega), if_pos ⟨rfl, x, by rw [gc]; exact y⟩, g2o _ (by omega) (by omega)]
    · rw [e]; unfold dcopy; rw [if_neg (by omega), if_neg (by omega), if_pos ⟨rfl, x, by rw [gc]; exact y⟩, g2o _ (by omega) (by omega)]
    · rw [e]; unfold dcopy; rw [if_neg (by omega), if_neg (by omega), if_neg (by omega), if_pos ⟨rfl, x, by rw [gc]; exact y⟩, g2o _ (by omega) (by omega)]
  · rw [e9, up_slot (by decide), e8, up_self]
  · rw [e9, up_self]
/-- a text without a fault: both keep it -/
theorem Rel.kept {B : Int → Int} {n : Int} {m : Nat} {L P : Int} {q r q' r' f s : Mh} (h : Rel q r) (eP : P = q 0 2) (hp : isP P) (pg : PG B n m m L (up (up q 0 1 0) 46 1 P) (r0F r) q' r') (he : ends P q' f) (hs0 : ∀ j, 12 ≤ j → j ≤ 24 → s 0 j = rv r' 0 j) (s76 : s 0 76 = r' 0 30) (s77 : s 0 77 = r' 0 31) (s82 : s 0 82 = 0) (s84 : s 0 84 = 0) (s85 : s 0 85 = -1) (s96 : s 0 96 = 0) (sj : ∀ j, j = 1 ∨ j = 4 ∨ j = 5 ∨ j = 79 → s 0 j = r' 0 j) (sl : ∀ o j, 5 ≤ o → o ≤ 25 → ¬ o = 7 → 0 ≤ j → j < off o → s o j = r' o (off o + j)) (s2 : s 2 = r' 2) (s32 : ∀ j, 0 ≤ j → j < 3 → s 32 j = s 8 j) (sw : wayR s) : Rel f s := by
  have hq := hp
  unfold isP at hq
  obtain ⟨hC0, _, _⟩ := h
  obtain ⟨h1, h2, h3, h4, h5, h6, h7, h8, h9, h10, h11⟩ := hC0
  obtain ⟨hT, hF, ⟨pp1, pp2, pp3, pp4, _⟩, _, ⟨g1, g2⟩, ⟨f1, f2, f3, f4, f5⟩, _, _, _⟩ := pg
  obtain ⟨k1, k2, k3, k4, k5, k6, k7, k8, k9, k10, k11, k12, k13⟩ := he
  rw [up_self] at g1 g2
  have e53 : q 53 0 = 56 - P := by have := h3.1.2.1; omega
  have q'53 : q' 53 0 = q 53 0 := by rw [g2 53 0 (by omega) (by omega), up_other (by decide), up_other (by decide)]
  have qv0 : qv q' 53 0 = P := by rw [qv_0]; exact g1
  have gP : ∀ o, P ≤ o → o ≤ P + 39 → qv q' o = q' o := fun o x y => qv_get (by rw [g1]; exact hp) (by omega) (by omega)
  have hPE : pondEq (qv q') f := by
    refine ⟨by rw [qv0]; exact k4, fun o a b => ?_⟩
    rw [qv0] at a b
    rw [gP o a b, k1 o (by omega) (by omega) (by omega) (by omega)]
  have low : lowEq (rv r') s := by
    refine ⟨fun j a b _ => hs0 j a b, by rw [s77]; rfl, by rw [s76]; rfl, fun o j a b c d e => ?_, fun j a b => ?_⟩
    · rw [sl o j a b c d e]
      unfold rv
      rw [if_neg (by omega), if_pos ⟨a, b⟩]
    · rw [s32 j a b, sl 8 j (by decide) (by decide) (by decide) a (by rw [show off 8 = 3 from rfl]; exact b)]
      rfl
  have prm0 := pp1.1.2.2.2.2.1
  have n3 : RPond f s := pp1.low hPE (by rw [k3, q'53, e53]; unfold qv; rw [if_neg (by decide), if_pos rfl, g1]) low
  have n4 : RGr f s := pp2.low hPE (by rw [k5, qv_1 g1]) low
  have c98 : q' (P + 33) 3 = r' 0 30 := by
    have := pp3.1
    rw [qv_98 hp g1 (by decide) (by decide), show P + 33 + (98 - 98) = P + 33 by omega] at this
    exact this
  refine ⟨⟨⟨?_, ?_, ?_, ?_⟩, ⟨?_, ?_⟩, n3, n4, ?_, ?_, ?_, ?_, ?_, sw, ?_⟩, fun z => ?_, fun z => ?_⟩
  · rw [k2 1 (by decide), sj 1 (by decide), g2 0 1 (by omega) (by omega), up_other (by decide), up_self, f1 1 (by omega) (by omega) (by omega)]
    unfold r0F; rw [up_self]
  · rw [sj 1 (by decide), f1 1 (by omega) (by omega) (by omega)]; unfold r0F; rw [up_self]; decide
  · rw [sj 1 (by decide), f1 1 (by omega) (by omega) (by omega)]; unfold r0F; rw [up_self]; decide
  · intro j a b
    rw [sj 1 (by decide), f1 1 (by omega) (by omega) (by omega)] at b
    unfold r0F at b; rw [up_self] at b
    omega
  · rw [k1 46 (by decide) (by decide) (by decide) (by decide), sj 4 (by decide), hF.2.1, hF.2.2.1]
  · rw [k1 46 (by decide) (by decide) (by decide) (by decide), sj 5 (by decide), hF.2.2.2.1, hF.2.2.2.2.1]
  · refine pp3.low prm0 ?_ ?_ low
    · rw [k10, qv_98 hp g1 (by decide) (by decide), show P + 33 + (98 - 98) = P + 33 by omega]
    · intro o d a b d0 d1
      have e := k11 (o - 98) d (by omega) (by omega) d0 (by rw [c98]; exact d1)
      rw [show 98 + (o - 98) = o by omega] at e
      rw [e, qv_98 hp g1 (by omega) (by omega)]
  · unfold RImg
    rw [k6, s96]
    exact ⟨Iff.rfl, fun z => absurd rfl z⟩
  · unfold RUnd
    rw [k7, s82, s76]
    refine ⟨rfl, by decide, by decide, fun i a b => by omega, ?_⟩
    show (0 : Int) ≤ r' 0 30
    exact pp3.2.1
  · unfold RNotes
    rw [k12, k13, s84, s85]
    exact ⟨rfl, by decide, by decide, rfl, by decide, by decide, fun i a b => by omega⟩
  · rw [sj 79 (by decide), f1 79 (by omega) (by omega) (by omega)]
    unfold r0F; rw [up_slot (by decide), up_slot (by decide)]; exact h9
  · rw [s2, f3]
    unfold r0F; rw [up_other (by decide), up_other (by decide)]; exact h11
  · rw [k8] at z; exact absurd z (by decide)
  · rw [k9] at z; exact absurd z (by decide)
theorem op_text (n : Int) {q r : Mh} (h : Rel q r) : wp_X13_text n q (fun x q' => wp_X14_text n r (fun y r' => x = y ∧ Rel q' r')) := by
  have hC := h.1
  have ht := hC.1
  have hw : ∀ j, 0 ≤ j → j < 108 → r 2 j = wrd j := hC.2.2.2.2.2.2.2.2.2.2
  have hd := hC.2.2.1.1
  have t1 := ht.1
  have t2 := ht.2.2.1
  unfold wp_X13_text
  by_cases z : n < 0
  · rw [if_pos z]
    unfold wp_X14_text
    intro h1 e1
    rw [if_pos z, e1]
    exact ⟨rfl, h.up2⟩
  rw [if_neg z]
  by_cases y : n ≤ q 0 1
  · rw [if_pos y]
    intro g0 e0
    obtain ⟨P, eP⟩ : ∃ P, P = q 0 2 := ⟨_, rfl⟩
    have hp : isP P := by
      have a := hd.1
      have b := hd.2.1
      unfold isP at a ⊢
      omega
    have hq := hp
    unfold isP at hq
    have g02 : g0 0 2 = P := by rw [e0, up_slot (by decide)]; exact eP.symm
    rw [g02]
    unfold wp_X9_read
    intro h1 e1
    have h11 : h1 46 1 = P := by rw [e1, up_self]
    rw [h11]
    refine ⟨shC_P hp, sp_clear5 hp ?_⟩
    intro g5 hclr
    rw [e1, e0] at hclr
    intro h3 e3 h4 e4 h5 e5 h6 e6 h7 e7 h8 e8 h9 e9 h10 e10
    have egz : h10 = up (up (up (up (up (up (up (up g5 46 2 0) 46 3 (-1)) 46 4 0) 46 5 0) 46 6 0) 46 7 0) 46 8 0) 46 9 0 := by rw [e10, e9, e8, e7, e6, e5, e4, e3]
    have hB : byt (r 1) (h10 1) n := by
      have e : h10 1 = q 1 := by
        rw [egz, up_other (by decide), up_other (by decide), up_other (by decide), up_other (by decide), up_other (by decide), up_other (by decide), up_other (by decide), up_other (by decide), hclr.1 1 (by omega), up_other (by decide), up_other (by decide)]
      rw [e]
      intro j a b
      exact ht.2.2.2 j a (by omega)
    refine sp_scan (by omega) (by omega) hB ?_
    intro g m hfr hL h7'
    have pg := PG.begin hC eP hp (by omega) (by omega) ⟨hclr, egz, hfr⟩ hL h7'
    have ml := tok_le hL
    rcases tw_read (p1 := P) (p2 := n) (p3 := n) m 0 n 0 (advC g) (r8F n r) (by omega) (by omega) (by omega) pg with ⟨q', r', gb, cc, rc⟩ | ⟨L', q', r', pg2, cc, rc⟩
    · refine cc _ ?_
      rw [if_neg (by decide)]
      refine run_textR ht hw (by omega) (by omega) (rc _ ?_)
      exact ⟨rfl, h.fault eP hp gb⟩
    · refine cc _ ?_
      rw [if_pos (by decide)]
      have g1 : q' 46 1 = P := by rw [pg2.2.2.2.2.1.1, up_self]
      have q02 : q' 0 2 = P := by
        rw [pg2.2.2.2.2.1.2 0 2 (by omega) (by rw [up_self]; omega), up_other (by decide), up_slot (by decide)]; exact eP.symm
      have pp := pg2.2.2.1
      have c98 : q' (P + 33) 3 = r' 0 30 := by
        have := pp.2.2.1.1
        rw [qv_98 hp g1 (by decide) (by decide), show P + 33 + (98 - 98) = P + 33 by omega] at this
        exact this
      have c0 : 0 ≤ r' 0 30 := pp.2.2.1.2.1
      have c8 : r' 0 30 ≤ 8 := pp.2.2.2.1
      refine run_ends (K := fun x q' => wp_X14_text n r (fun y r' => x = y ∧ Rel q' r')) hp q02 (by omega) (by omega) ?_
      intro f hf
      rw [pg2.2.2.2.2.2.2.1]
      refine run_textR ht hw (by omega) (by omega) (rc _ ?_)
      refine xp_keepText ?_
      obtain ⟨s1, es1⟩ : ∃ s1, s1 = up (up (up (up (up (cpT (ktF r') 25) 0 76 (r' 0 30)) 0 82 0) 0 84 0) 0 85 (-1)) 0 96 0 := ⟨_, rfl⟩
      rw [← es1]
      have sj : ∀ j, ¬ j = 76 → ¬ j = 82 → ¬ j = 84 → ¬ j = 85 → ¬ j = 96 → s1 0 j = ktF r' 0 j := fun j a b c d e => by rw [es1, up_slot e, up_slot d, up_slot c, up_slot b, up_slot a, cpT_o (Or.inl (by decide)) (by decide)]
      have so : ∀ o, ¬ o = 0 → s1 o = cpT (ktF r') 25 o := fun o a => by rw [es1, up_other a, up_other a, up_other a, up_other a, up_other a]
      have hprm : prm s1 := by
        have p0 := pp.1.1.2.2.2.2.1
        unfold prm at p0 ⊢
        rw [sj 12 (by decide) (by decide) (by decide) (by decide) (by decide), sj 13 (by decide) (by decide) (by decide) (by decide) (by decide), sj 21 (by decide) (by decide) (by decide) (by decide) (by decide), sj 22 (by decide) (by decide) (by decide) (by decide) (by decide), ktF_v (by decide) (by decide), ktF_v (by decide) (by decide), ktF_v (by decide) (by decide), ktF_v (by decide) (by decide)]
        exact p0
      refine sp_layWays hprm (sp_plainShores ?_)
      intro s hs s77 s32
      have hs' : ∀ o j, ¬ (o = 0 ∧ j = 77) → ¬ (o = 32 ∧ 0 ≤ j ∧ j < 3) → ¬ o = 30 → ¬ o = 31 → s o j = s1 o j := fun o j a b c d => by rw [hs o j a b, wayT_ne s1 c d]
      have h0 : ∀ j, ¬ j = 77 → s 0 j = s1 0 j := fun j a => hs' 0 j (by omega) (by omega) (by decide) (by decide)
      refine ⟨rfl, h.kept eP hp pg2 hf ?_ ?_ ?_ ?_ ?_ ?_ ?_ ?_ ?_ ?_ ?_ ?_⟩
      · intro j a b
        rw [h0 j (by omega), sj j (by omega) (by omega) (by omega) (by omega) (by omega), ktF_v a b]
      · rw [h0 76 (by decide), es1, up_slot (by decide), up_slot (by decide), up_slot (by decide), up_slot (by decide), up_self]
      · rw [s77, wayT_ne s1 (by decide) (by decide), sj 18 (by decide) (by decide) (by decide) (by decide) (by decide), ktF_v (by decide) (by decide)]; rfl
      · rw [h0 82 (by decide), es1, up_slot (by decide), up_slot (by decide), up_slot (by decide), up_self]
      · rw [h0 84 (by decide), es1, up_slot (by decide), up_slot (by decide), up_self]
      · rw [h0 85 (by decide), es1, up_slot (by decide), up_self]
      · rw [h0 96 (by decide), es1, up_self]
      · intro j hj
        rw [h0 j (by omega), sj j (by omega) (by omega) (by omega) (by omega) (by omega), ktF_j (by omega)]
      · intro o j a b c d e
        rw [hs' o j (by omega) (by omega) (by omega) (by omega), so o (by omega)]
        unfold cpT
        rw [if_pos ⟨a, b, c, d, e⟩, ktF_o (by omega)]
      · funext j
        rw [hs' 2 j (by omega) (by omega) (by decide) (by decide), so 2 (by decide), cpT_o (Or.inl (by decide)) (by decide), ktF_o (by decide)]
      · intro j a b
        rw [s32 j a b, wayT_ne s1 (by decide) (by decide), hs' 8 j (by omega) (by omega) (by decide) (by decide)]
      · refine wayR_congr ?_ ?_ ?_ ?_ (wayR_wayT s1)
        · intro j a b
          exact hs 0 j (by omega) (by omega)
        · funext j; exact hs 5 j (by omega) (by omega)
        · funext j; exact hs 30 j (by omega) (by omega)
        · funext j; exact hs 31 j (by omega) (by omega)
  · rw [if_neg y]
    unfold wp_X14_text
    intro h1 e1
    rw [if_neg z, if_neg (by rw [e1, up_slot (by decide)]; omega), e1]
    exact ⟨rfl, h.up2⟩
