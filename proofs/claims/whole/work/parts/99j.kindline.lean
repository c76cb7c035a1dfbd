theorem noSgnC {q : Mh} {v : Int} (h : ¬ (q 49 8 = 4 ∧ q 49 10 = v)) {K : Int → Mh → Prop} (hk : K 0 q) : wp_X10_isSign v q K := by
  unfold wp_X10_isSign
  by_cases z : q 49 8 = 4
  · rw [if_neg (fun y => y z), if_pos (fun y => h ⟨z, y⟩)]; exact hk
  · rw [if_pos z]; exact hk
theorem noSgnR {r : Mh} {v : Int} (h : ¬ (r 0 8 = 4 ∧ r 0 9 = v)) {K : Int → Mh → Prop} (hk : K 0 r) : wp_X14_isSign v r K := by
  unfold wp_X14_isSign
  by_cases z : r 0 8 = 4
  · rw [if_neg (fun y => y z), if_pos (fun y => h ⟨z, y⟩)]; exact hk
  · rw [if_pos z]; exact hk
theorem tw_rises {B : Int → Int} {n : Int} {m : Nat} {q0 r0 qb rb : Mh} {row v1 : Int} {a0 : Nat} (hp : isP (q0 46 1)) (hrow : q0 46 1 ≤ row ∧ row + 1 ≤ q0 46 1 + 39) (v0 : 4 ≤ v1 ∧ v1 < 8) (s6 : (shC row).1 = 6) (s7 : ((shC (row + 1)).2 : Int) = 6) :
    ∀ (f : Nat) (i mo : Int) (a : Nat) (q r : Mh), (f : Int) = 6 - i → KS B n m q0 r0 qb rb row v1 a0 i a q r → ((mo = 1 ∧ (i = 0 ∨ nmC q)) ∨ (mo = 0 ∧ 0 < i ∧ ¬ nmC q)) →
    (∃ q' r', PBad q0 r0 q' r' ∧ (∀ K : Int → Mh → Prop, K 0 q' → Lfp (F_X9_readRises row K) (2, [i], q)) ∧ (∀ K : Int → Mh → Prop, K 0 r' → Lfp (F_X14_kindLine K) (59, [v1, mo], r))) ∨
    (∃ i' a' q' r', KS B n m q0 r0 qb rb row v1 a0 i' a' q' r' ∧ (∀ K : Int → Mh → Prop, K 1 q' → Lfp (F_X9_readRises row K) (2, [i], q)) ∧ (∀ K : Int → Mh → Prop, Lfp (F_X14_kindLine K) (59, [v1, 0], r') → Lfp (F_X14_kindLine K) (59, [v1, mo], r))) := by
  intro f
  induction f with
  | zero =>
    intro i mo a q r hf h hm
    have h' := h
    obtain ⟨hT, h2, h3, h4, h5, h6, h7, h8, h9, h10, h11, h12, h13⟩ := h
    have i6 : i = 6 := by omega
    have r10 : r 10 v1 = i := by rw [h10, if_pos rfl]
    rcases hm with ⟨m1, hm⟩ | ⟨m0, hi, hn⟩
    · left
      have hn : nmC q := hm.resolve_left (by omega)
      obtain ⟨b, bm, cb, rb'⟩ := tw_sign hT (v := 16) (w := 45) (Or.inr (Or.inr (Or.inr ⟨rfl, rfl⟩)))
      refine ⟨_, _, PBad.of hT h3 h4 hp (e := 2) (by decide), fun K hk => ?_, fun K hk => ?_⟩
      · have l51 : Lfp (F_X9_readRises row K) (51, [i, b01 b], q) := by
          apply L_X9_readRises_51
          unfold B_X9_readRises_51
          rw [if_neg (fun y => y i6)]
          exact run_refuse hk
        apply L_X9_readRises_2
        unfold B_X9_readRises_2
        rw [if_neg (by omega)]
        refine cb _ ?_
        by_cases z : ¬ b01 b = 0
        · rw [if_pos z]; exact l51
        · rw [if_neg z]
          rcases hn with w | w
          · rw [if_pos w]; exact l51
          · exfalso
            have := cb (fun x _ => x = 0) (Classical.not_not.mp z)
            unfold wp_X10_isSign at this
            rw [if_neg (fun y => y w.1), if_neg (fun y => y w.2)] at this
            exact absurd this (by decide)
      · apply L_X14_kindLine_59
        unfold B_X14_kindLine_59
        rw [m1, if_neg (by decide)]
        refine ⟨⟨by omega, by omega⟩, ?_⟩
        rw [r10, if_neg (fun y => y i6)]
        exact run_wrong hk
    · right
      refine ⟨i, a, q, r, h', fun K hk => ?_, fun K hk => by rw [m0]; exact hk⟩
      apply L_X9_readRises_2
      unfold B_X9_readRises_2
      rw [if_neg (by omega)]
      refine noSgnC (fun y => hn (Or.inr y)) ?_
      rw [if_neg (by decide), if_neg (fun y => hn (Or.inl y)), if_pos hi]
      exact hk
  | succ f ih =>
    intro i mo a q r hf h hm
    by_cases hn : nmC q
    · have m1 : mo = 1 := by
        rcases hm with ⟨m1, _⟩ | ⟨_, _, y⟩
        · exact m1
        · exact absurd hn y
      rw [m1]
      rcases tw_rise h hn (by omega) hp hrow v0 s6 s7 with ⟨q', r', pb, cc, rc⟩ | ⟨a', q', r', ks, cc, rc⟩
      · exact Or.inl ⟨q', r', pb, cc, rc⟩
      · have i0 : 0 ≤ i := h.2.2.2.2.2.2.2.2.2.2.2.1
        by_cases hn2 : nmC q'
        · rcases ih (i + 1) 1 a' q' r' (by omega) ks (Or.inl ⟨rfl, Or.inr hn2⟩) with ⟨q2, r2, pb, c2, r2'⟩ | ⟨i2, a2, q2, r2, k2, c2, r2'⟩
          · exact Or.inl ⟨q2, r2, pb, fun K hk => cc K (c2 K hk), fun K hk => rc K (fun _ => r2' K hk) (fun y => absurd hn2 y)⟩
          · exact Or.inr ⟨i2, a2, q2, r2, k2, fun K hk => cc K (c2 K hk), fun K hk => rc K (fun _ => r2' K hk) (fun y => absurd hn2 y)⟩
        · rcases ih (i + 1) 0 a' q' r' (by omega) ks (Or.inr ⟨rfl, by omega, hn2⟩) with ⟨q2, r2, pb, c2, r2'⟩ | ⟨i2, a2, q2, r2, k2, c2, r2'⟩
          · exact Or.inl ⟨q2, r2, pb, fun K hk => cc K (c2 K hk), fun K hk => rc K (fun y => absurd y hn2) (fun _ => r2' K hk)⟩
          · exact Or.inr ⟨i2, a2, q2, r2, k2, fun K hk => cc K (c2 K hk), fun K hk => rc K (fun y => absurd y hn2) (fun _ => r2' K hk)⟩
    · have h' := h
      obtain ⟨hT, h2, h3, h4, h5, h6, h7, h8, h9, h10, h11, h12, h13⟩ := h
      have r10 : r 10 v1 = i := by rw [h10, if_pos rfl]
      rcases hm with ⟨m1, hm⟩ | ⟨m0, hi, _⟩
      · left
        have i0 : i = 0 := hm.resolve_right hn
        obtain ⟨s1, s2⟩ := hT.sgn (v := 16) (w := 45) (Or.inr (Or.inr (Or.inr ⟨rfl, rfl⟩)))
        obtain ⟨n1, n2⟩ := hT.num
        refine ⟨_, _, PBad.of hT h3 h4 hp (e := 1) (by decide), fun K hk => ?_, fun K hk => ?_⟩
        · apply L_X9_readRises_2
          unfold B_X9_readRises_2
          rw [if_neg (by omega)]
          refine noSgnC (fun y => hn (Or.inr y)) ?_
          rw [if_neg (by decide), if_neg (fun y => hn (Or.inl y)), if_neg (by omega)]
          refine run_refuse ?_
          rw [if_pos rfl]; exact hk
        · apply L_X14_kindLine_59
          unfold B_X14_kindLine_59
          rw [m1, if_neg (by decide)]
          refine ⟨⟨by omega, by omega⟩, ?_⟩
          rw [r10, if_pos (by omega)]
          unfold wp_X14_signed
          refine noSgnR (fun y => hn (Or.inr (s1.mpr y))) ?_
          rw [if_pos rfl]
          apply L_X14_signed_15
          unfold B_X14_signed_15
          unfold wp_X14_number
          rw [if_neg (fun y => hn (Or.inl (n1.mpr y)))]
          refine run_wrong ?_
          dsimp only
          rw [if_neg (by decide), if_neg (by decide)]; exact hk
      · right
        refine ⟨i, a, q, r, h', fun K hk => ?_, fun K hk => by rw [m0]; exact hk⟩
        apply L_X9_readRises_2
        unfold B_X9_readRises_2
        rw [if_neg (by omega)]
        refine noSgnC (fun y => hn (Or.inr y)) ?_
        rw [if_neg (by decide), if_neg (fun y => hn (Or.inl y)), if_pos hi]
        exact hk
theorem tw_kind {B : Int → Int} {n : Int} {m a : Nat} {q0 r0 q r : Mh} (h : PR B n m a q0 r0 q r) (h8 : r 0 8 = 1) (h9 : r 0 9 = 4) : LineOut (wp_X9_readKind q) B n m a q0 r0 r := by
  have am := h.am h8
  have hp0 := h.p0
  have h' := h
  obtain ⟨hT, hF, hPP, hE, hc, hr⟩ := h
  have hP : q 46 1 = q0 46 1 := hc.1
  obtain ⟨P, eP⟩ : ∃ P, P = q0 46 1 := ⟨_, rfl⟩
  have hp00 := hp0
  rw [← eP] at hP hp0
  have sP := shC_P hp0
  have hq := hp0
  unfold isP at hq
  have gP : ∀ o, P ≤ o → o ≤ P + 39 → qv q o = q o := fun o x y => qv_get (by rw [hP]; exact hp0) (by omega) (by omega)
  have qv0 : qv q 53 0 = P := by rw [qv_0]; exact hP
  have hkn := hPP.1.2.2.1
  have kn4 : r 0 27 ≤ 4 := hkn.2.1
  have kn1 := hkn.1
  have kn2 := hkn.2.2.1
  have kz := hPP.2.2.2.2.2.2.2.1
  unfold RRow at kn1 kn2
  rw [qv0, gP (P + 12) (by omega) (by omega), gP (P + 12 + 1) (by omega) (by omega)] at kn1
  rw [qv0, gP (P + 23) (by omega) (by omega)] at kn2
  obtain ⟨cnt, ecnt⟩ : ∃ cnt, cnt = r 0 27 := ⟨_, rfl⟩
  have n1 : q (P + 12) 1 = cnt := by rw [ecnt]; exact kn1.1
  have n0 : 0 ≤ cnt := by rw [ecnt]; exact kn1.2.1
  have o1 : q (P + 23) 1 = cnt := by rw [ecnt]; exact kn2.1
  have n2 : ∀ j, 0 ≤ j → j < cnt → q (P + 12 + 1) j = r 9 (4 + j) := fun j x y => by
    have := kn1.2.2 j x (by rw [ecnt] at y; exact y)
    rw [this, show (0 : Int) + j = j by omega]; rfl
  have s12 : ((shC (P + 12 + 1)).2 : Int) = 4 := by rcases hq with e | e <;> rw [e] <;> rfl
  have s11 : (shC (P + 12)).1 = 6 := by rcases hq with e | e <;> rw [e] <;> rfl
  have s23 : ((shC (P + 23 + 1)).2 : Int) = 4 := by rcases hq with e | e <;> rw [e] <;> rfl
  have s14 : ((shC (P + 14)).2 : Int) = 4 := by rcases hq with e | e <;> rw [e] <;> rfl
  have s9 : ((shR 9).2 : Int) = 8 := rfl
  have begL : ∀ K : Int → Mh → Prop, wp_X14_kindLine r (fun x13 h19 => Lfp (F_X14_lineRead K) (458, [x13], h19)) → wp_X14_lineRead r K := by
    intro K hk
    unfold wp_X14_lineRead
    rw [h8, h9, if_neg (by decide), if_pos (by decide), if_neg (by decide), if_neg (by decide), if_neg (by decide), if_neg (by decide), if_pos (by decide)]
    exact hk
  by_cases full : cnt = 4
  · left
    refine ⟨_, _, PBad.of hT hc hr hp00 (e := 2) (by decide), fun K hk => ?_, fun K hk => begL K ?_⟩
    · unfold wp_X9_readKind wp_X7_isFull
      rw [hP]
      refine ⟨sP, ?_⟩
      rw [n1, s12, if_neg (by omega)]
      dsimp only
      rw [if_neg (by decide)]
      exact run_refuse hk
    · unfold wp_X14_kindLine
      rw [if_neg (fun y => y (by omega))]
      exact run_wrong (run_458_0 hk)
  · obtain ⟨row, erow⟩ : ∃ row, row = P + 14 + 1 + 2 * cnt := ⟨_, rfl⟩
    have srow : (shC row).1 = 6 := by
      have cc : cnt = 0 ∨ cnt = 1 ∨ cnt = 2 ∨ cnt = 3 := by omega
      rw [erow]
      rcases hq with e | e <;> rcases cc with c | c | c | c <;> rw [e, c] <;> rfl
    have srow1 : ((shC (row + 1)).2 : Int) = 6 := by
      have cc : cnt = 0 ∨ cnt = 1 ∨ cnt = 2 ∨ cnt = 3 := by omega
      rw [erow]
      rcases hq with e | e <;> rcases cc with c | c | c | c <;> rw [e, c] <;> rfl
    have qrow : q row 1 = 0 := by
      have := kz cnt (by rw [ecnt]; exact Int.le_refl _) (by omega)
      rw [qv0, gP _ (by omega) (by omega)] at this
      rw [erow, show P + 14 + 1 + 2 * cnt = P + 15 + 2 * cnt by omega]; exact this
    have hT1 := hT.step am
    have fc1 : fxC q0 (advC q) := fxC_adv hc hp00
    have fr1 : fxR r0 (tokR r) := fxR_tok hr
    rcases tw_name (row := P + 12) (arr := 9) (base := 4) (cnt := cnt) hT1 s11 (by omega) n0 (by omega) (by omega) (by rw [advC_o (by omega)]; exact n1) (fun j x y => by rw [advC_o (by omega), tokR_o (by decide)]; exact n2 j x y) rfl (by decide) (by decide) (by omega) (by decide) with ⟨v, bm, hT2, cv, rv1⟩ | ⟨e, e0, cv, rv1⟩
    · obtain ⟨q2, eq2⟩ : ∃ q2, q2 = advC (up (up (advC q) (P + 12 + 1) cnt v) (P + 12) 1 (cnt + 1)) := ⟨_, rfl⟩
      obtain ⟨r2, er2⟩ : ∃ r2, r2 = tokR (up (tokR r) 9 (4 + cnt) v) := ⟨_, rfl⟩
      rw [← eq2, ← er2] at hT2
      rw [← eq2] at cv
      rw [← er2] at rv1
      obtain ⟨r3, er3⟩ : ∃ r3, r3 = up (up r2 10 (4 + cnt) 0) 11 (4 + cnt) 1 := ⟨_, rfl⟩
      have fc2 : fxC q0 q2 := by rw [eq2]; exact fxC_adv (fxC_up (fxC_up fc1 (Or.inr (by omega)) hp00) (Or.inr (by omega)) hp00) hp00
      have fr3 : fxR r0 r3 := by
        rw [er3, er2]
        exact fxR_5 (fxR_5 (fxR_tok (fxR_5 fr1 (by decide) (by decide) (by rw [show off 9 = 4 from rfl]; omega))) (by decide) (by decide) (by rw [show off 10 = 4 from rfl]; omega)) (by decide) (by decide) (by rw [show off 11 = 4 from rfl]; omega)
      have q2o : ∀ o, ¬ o = 49 → ¬ o = P + 12 + 1 → ¬ o = P + 12 → q2 o = q o := fun o y z w => by rw [eq2, advC_o y, up_other w, up_other z, advC_o y]
      have r3o : ∀ o, ¬ o = 0 → ¬ o = 9 → ¬ o = 10 → ¬ o = 11 → r3 o = r o := fun o x y z w => by rw [er3, up_other w, up_other z, er2, tokR_o x, up_other y, tokR_o x]
      have r3j : ∀ j, ¬ (7 ≤ j ∧ j ≤ 10) → r3 0 j = r 0 j := fun j x => by rw [er3, up_other (by decide), up_other (by decide), er2, tokR_j x, up_other (by decide), tokR_j x]
      have ks0 : KS B n m q0 r0 q2 r3 row (4 + cnt) (a + 1 + 1) 0 (a + 1 + 1) q2 r3 := by
        refine ⟨by rw [er3]; exact (hT2.upR (by decide)).upR (by decide), Nat.le_refl _, fc2, fr3, fun _ _ _ _ => rfl, ?_, fun j x y => by omega, fun _ _ _ _ => rfl, fun _ _ => rfl, ?_, fun _ _ => rfl, by decide, by decide⟩
        · rw [q2o _ (by omega) (by omega) (by omega)]; exact qrow
        · intro j
          by_cases z : j = 4 + cnt
          · rw [if_pos z, z, er3, up_other (by decide), up_self]
          · rw [if_neg z]
      have q21 : q2 46 1 = P := by rw [q2o 46 (by decide) (by omega) (by omega)]; exact hP
      have begC : ∀ K : Int → Mh → Prop, Lfp (F_X9_readRises row (fun x4 h5 => if ¬ x4 = 0 then (wp_X10_isWord 5 h5 (fun x5 h6 => if x5 = 0 then (((shC (h6 46 1)).1 = 4) ∧ wp_X7_add shC ((h6 46 1) + 23) 1 h6 (fun h7 => if (1 : Int) ≤ 0 then (K 0 h7) else (K 1 h7))) else (wp_X10_advance h6 (fun h8 => wp_X9_readNumber 1 99 h8 (fun x6 h9 => ((shC (h9 46 1)).1 = 4) ∧ wp_X7_add shC ((h9 46 1) + 23) x6 h9 (fun h10 => if x6 ≤ 0 then (K 0 h10) else (K 1 h10))))))) else (K 0 h5))) (2, [0], q2) → wp_X9_readKind q K := by
        intro K hk
        unfold wp_X9_readKind wp_X7_isFull
        rw [hP]
        refine ⟨sP, ?_⟩
        rw [n1, s12, if_pos (by omega)]
        dsimp only
        rw [if_pos rfl]
        refine hT.runC ?_
        have a1 : advC q 46 1 = P := by rw [advC_o (by decide)]; exact hP
        rw [a1, show advC q (P + 12) 1 = cnt by rw [advC_o (by omega)]; exact n1]
        refine ⟨sP, ?_⟩
        unfold wp_X5_risesOf
        rw [if_neg (by omega), s14, if_neg (by omega)]
        refine ⟨⟨n0, by omega⟩, ?_⟩
        dsimp only
        rw [a1, ← erow]
        refine ⟨sP, cv _ ?_⟩
        rw [if_neg (by decide)]
        unfold wp_X9_readRises
        exact hk
      have begR : ∀ K : Int → Mh → Prop, Lfp (F_X14_kindLine K) (59, [4 + cnt, 1], r3) → wp_X14_kindLine r K := by
        intro K hk
        unfold wp_X14_kindLine
        rw [if_pos (show ¬ r 0 27 = 4 from fun y => full (by omega))]
        refine hT.runR ?_
        rw [show tokR r 0 27 = cnt by rw [tokR_j (by omega)]; exact ecnt.symm, w32_eq (by omega) (by omega)]
        intro x1 ex
        rw [ex]
        refine rv1 _ ?_
        rw [if_pos (by decide)]
        refine ⟨⟨by omega, by omega⟩, ?_⟩
        intro g3 e3
        refine ⟨⟨by omega, by omega⟩, ?_⟩
        intro g4 e4
        rw [e4, e3, ← er3]; exact hk
      rcases tw_rises (v1 := 4 + cnt) hp00 ⟨by omega, by omega⟩ ⟨by omega, by omega⟩ srow srow1 6 0 1 (a + 1 + 1) q2 r3 (by decide) ks0 (Or.inl ⟨rfl, Or.inl rfl⟩) with ⟨q', r', pb, cc, rc⟩ | ⟨i, a4, q4, r4, ks, cc, rc⟩
      · left
        refine ⟨q', r', pb, fun K hk => begC K (cc _ ?_), fun K hk => begL K (begR _ (rc _ (run_458_0 hk)))⟩
        rw [if_neg (by decide)]; exact hk
      · obtain ⟨hT4, aa4, fc4, fr4, k5, k6, k7, k8, k9, k10, k11, i0, i6⟩ := ks
        have q41 : q4 46 1 = P := by rw [k5 46 (by decide) (by omega) (by omega)]; exact q21
        -- the end of the line, whatever the odds
        have fin : ∀ (a5 : Nat) (q5 r5 : Mh) (od : Int), a4 ≤ a5 → PTok B n m a5 q5 r5 → fxC q0 q5 → fxR r0 r5 → 1 ≤ od → od ≤ 99 → (∀ o, ¬ o = 49 → q5 o = q4 o) → (∀ o, ¬ o = 0 → ¬ o = 11 → r5 o = r4 o) → (∀ j, r5 11 j = if j = 4 + cnt then od else r4 11 j) → (∀ j, ¬ (7 ≤ j ∧ j ≤ 11) → r5 0 j = r4 0 j) →
            PR B n m a5 q0 r0 (up (up q5 (P + 23 + 1) cnt od) (P + 23) 1 (cnt + 1)) (up r5 0 27 (cnt + 1)) := by
          intro a5 q5 r5 od aa5 hT5 fc5 fr5 od0 od1 q5o r5o r511 r5j
          obtain ⟨q6, eq6⟩ : ∃ q6, q6 = up (up q5 (P + 23 + 1) cnt od) (P + 23) 1 (cnt + 1) := ⟨_, rfl⟩
          obtain ⟨r6, er6⟩ : ∃ r6, r6 = up r5 0 27 (cnt + 1) := ⟨_, rfl⟩
          rw [← eq6, ← er6]
          have q6o : ∀ o, ¬ o = 49 → ¬ o = P + 12 + 1 → ¬ o = P + 12 → ¬ o = row → ¬ o = row + 1 → ¬ o = P + 23 → ¬ o = P + 23 + 1 → q6 o = q o := fun o x y z u v w t => by rw [eq6, up_other w, up_other t, q5o o x, k5 o x u v, q2o o x y z]
          have q61 : q6 46 1 = P := by rw [q6o 46 (by decide) (by omega) (by omega) (by omega) (by omega) (by omega) (by omega)]; exact hP
          have r6o : ∀ o, ¬ o = 0 → ¬ (9 ≤ o ∧ o ≤ 12) → r6 o = r o := fun o x y => by rw [er6, up_other x, r5o o x (by omega), k8 o x (by omega) (by omega), r3o o x (by omega) (by omega) (by omega)]
          have r6j : ∀ j, ¬ (7 ≤ j ∧ j ≤ 11) → ¬ j = 27 → r6 0 j = r 0 j := fun j x y => by rw [er6, up_slot y, r5j j x, k9 j x, r3j j (by omega)]
          have g6 : ∀ o, P ≤ o → o ≤ P + 39 → qv q6 o = q6 o := fun o x y => qv_get (by rw [q61]; exact hp0) (by omega) (by omega)
          have pp : PP (qv q6) (rv r6) := by
            refine hPP.kind (cnt := cnt) (v := v) (i := i) (od := od) ecnt (by omega) i0 i6 od0 od1 ?_ ?_ ?_ ?_ ?_ ?_ ?_ ?_ ?_ ?_ ?_ ?_ ?_ ?_
            · intro o x1 x2 x3 x4 x5 x6
              rw [qv0] at x1 x2 x3 x4 x5 x6
              exact qv_keep hp0 hP q61 (fun u w => q6o o (by omega) (by omega) (by omega) (by omega) (by omega) (by omega) (by omega)) (fun u w => q6o _ (by omega) (by omega) (by omega) (by omega) (by omega) (by omega) (by omega)) (fun u => by rw [q6o P (by omega) (by omega) (by omega) (by omega) (by omega) (by omega) (by omega)])
            · rw [qv0, g6 _ (by omega) (by omega), eq6, up_other (by omega), up_other (by omega), q5o _ (by omega), k5 _ (by omega) (by omega) (by omega), eq2, advC_o (by omega), up_self]
            · intro j
              rw [qv0, g6 _ (by omega) (by omega), gP _ (by omega) (by omega), eq6, up_other (by omega), up_other (by omega), q5o _ (by omega), k5 _ (by omega) (by omega) (by omega), eq2, advC_o (by omega), up_other (by omega), show P + 13 = P + 12 + 1 by omega, up_get, advC_o (by omega)]
            · rw [qv0, g6 _ (by omega) (by omega), show P + 15 + 2 * cnt = row by omega, eq6, up_other (by omega), up_other (by omega), q5o _ (by omega)]; exact k6
            · intro j j0 j1
              have e12 : rv r6 12 (6 * cnt + j) = r4 12 (6 * (4 + cnt) + j) := by
                show r6 12 (24 + (6 * cnt + j)) = _
                rw [er6, up_other (by decide), r5o 12 (by decide) (by decide), show 24 + (6 * cnt + j) = 6 * (4 + cnt) + j by omega]
              rw [e12, qv0, g6 _ (by omega) (by omega), show P + 15 + 2 * cnt + 1 = row + 1 by omega, eq6, up_other (by omega), up_other (by omega), q5o _ (by omega)]
              exact k7 j j0 j1
            · rw [qv0, g6 _ (by omega) (by omega), eq6, up_self]
            · intro j
              rw [qv0, g6 _ (by omega) (by omega), gP _ (by omega) (by omega), eq6, up_other (by omega), show P + 24 = P + 23 + 1 by omega, up_get, q5o _ (by omega), k5 _ (by omega) (by omega) (by omega), q2o _ (by omega) (by omega) (by omega)]
            · intro o x y
              exact rv_keep x (fun u w => r6o o x y) (fun u => r6o 8 (by decide) (by decide))
            · intro j x
              exact rv_keep0 (t := 27) (r6o 3 (by decide) (by decide)) (fun k a b c d e => r6j k (by omega) e) (fun u v => by omega) (fun u => by decide) (fun u => by decide) (fun u => by decide) (fun u => by omega)
            · show r6 0 27 = cnt + 1
              rw [er6, up_self]
            · intro j
              show r6 9 (4 + j) = if j = cnt then v else r 9 (4 + j)
              rw [er6, up_other (by decide), r5o 9 (by decide) (by decide), k8 9 (by decide) (by decide) (by decide), er3, up_other (by decide), up_other (by decide), er2, tokR_o (by decide), up_get, tokR_o (by decide)]
              by_cases w : j = cnt
              · rw [if_pos w, if_pos (by omega)]
              · rw [if_neg w, if_neg (by omega)]
            · intro j
              show r6 10 (4 + j) = if j = cnt then i else r 10 (4 + j)
              rw [er6, up_other (by decide), r5o 10 (by decide) (by decide), k10]
              by_cases w : j = cnt
              · rw [if_pos w, if_pos (by omega)]
              · rw [if_neg w, if_neg (by omega), er3, up_other (by decide), up_slot (by omega), er2, tokR_o (by decide), up_other (by decide), tokR_o (by decide)]
            · intro j
              show r6 11 (4 + j) = if j = cnt then od else r 11 (4 + j)
              rw [er6, up_other (by decide), r511]
              by_cases w : j = cnt
              · rw [if_pos w, if_pos (by omega)]
              · rw [if_neg w, if_neg (by omega), k8 11 (by decide) (by decide) (by decide), er3, up_slot (by omega), up_other (by decide), er2, tokR_o (by decide), up_other (by decide), tokR_o (by decide)]
            · intro j x
              show r6 12 (24 + j) = r 12 (24 + j)
              rw [er6, up_other (by decide), r5o 12 (by decide) (by decide), k11 _ (by omega), r3o 12 (by decide) (by decide) (by decide) (by decide)]
          refine h'.keep ?_ ?_ ?_ ?_ pp ?_ ?_ ?_
          · rw [eq6, er6]; exact ((hT5.upC (by omega)).upC (by omega)).up11 (by omega)
          · intro j x y
            rw [q6o 46 (by decide) (by omega) (by omega) (by omega) (by omega) (by omega) (by omega)]
          · intro j hj
            exact r6j j (by omega) (by omega)
          · exact r6o 4 (by decide) (by decide)
          · intro he
            refine he.cg ?_ ?_ ?_ ?_ ?_
            · rw [qv_0, qv0]; exact q61
            · rw [qv_1 q61, qv_1 hP, q6o P (by omega) (by omega) (by omega) (by omega) (by omega) (by omega) (by omega)]
            · rw [qv0, g6 P (by omega) (by omega), gP P (by omega) (by omega), q6o P (by omega) (by omega) (by omega) (by omega) (by omega) (by omega) (by omega)]
            · intro j j0 j1
              exact rv_keep0 (t := 27) (r6o 3 (by decide) (by decide)) (fun k a b c d e => r6j k (by omega) e) (fun u v => by omega) (fun u => by decide) (fun u => by decide) (fun u => by decide) (fun u => by omega)
            · exact rv_keep0 (t := 27) (r6o 3 (by decide) (by decide)) (fun k a b c d e => r6j k (by omega) e) (fun u v => by omega) (fun u => by decide) (fun u => by decide) (fun u => by decide) (fun u => by omega)
          · rw [eq6]; exact fxC_up (fxC_up fc5 (Or.inr (by omega)) hp00) (Or.inr (by omega)) hp00
          · rw [er6]; exact fxR_0 fr5 (by omega)
        have q423 : q4 (P + 23) 1 = cnt := by rw [k5 _ (by omega) (by omega) (by omega), q2o _ (by omega) (by omega) (by omega)]; exact o1
        have r427 : r4 0 27 = cnt := by rw [k9 27 (by omega), r3j 27 (by omega)]; exact ecnt.symm
        obtain ⟨b, bm2, cb, rb⟩ := tw_word hT4 (k := 13) (by decide)
        rw [show ix ((13 : Nat) : Int) = 5 by decide] at cb
        cases b
        · right
          refine ⟨a4, _, _, by omega, fin a4 q4 r4 1 (Nat.le_refl _) hT4 fc4 fr4 (by decide) (by decide) (fun _ _ => rfl) (fun _ _ _ => rfl) ?_ (fun _ _ => rfl), fun K hk => begC K (cc _ ?_), fun K hk => begL K (begR _ (rc _ ?_))⟩
          · intro j
            by_cases w : j = 4 + cnt
            · rw [if_pos w, w, k8 11 (by decide) (by decide) (by decide), er3, up_self]
            · rw [if_neg w]
          · rw [if_pos (by decide)]
            refine cb _ ?_
            rw [show b01 false = 0 from rfl, if_pos rfl, q41]
            refine ⟨sP, run_add q423 n0 (by omega) (by omega) ?_⟩
            rw [if_neg (by decide)]; exact hk
          · apply L_X14_kindLine_59
            unfold B_X14_kindLine_59
            rw [if_pos rfl]
            refine rb _ ?_
            rw [show b01 false = 0 from rfl, if_pos rfl, r427, w32_eq (by omega) (by omega)]
            intro g e
            rw [e]; exact hk
        · have am4 := bm2 rfl
          have hT5 := hT4.step am4
          have runC : ∀ K : Int → Mh → Prop, wp_X9_readNumber 1 99 (advC q4) (fun x6 h9 => ((shC (h9 46 1)).1 = 4) ∧ wp_X7_add shC ((h9 46 1) + 23) x6 h9 (fun h10 => if x6 ≤ 0 then (K 0 h10) else (K 1 h10))) → wp_X9_readKind q K := by
            intro K hk
            refine begC K (cc _ ?_)
            rw [if_pos (by decide)]
            refine cb _ ?_
            rw [show b01 true = 1 from rfl, if_neg (by decide)]
            exact hT4.runC hk
          have runR : ∀ K : Int → Mh → Prop, wp_X14_number 1 99 (tokR r4) (fun x2 h4 => if ¬ x2 = 0 then (((0 : Int) ≤ 4 + cnt ∧ 4 + cnt < (8 : Int)) ∧ ∀ h5 : Mh, h5 = up h4 11 (4 + cnt) (h4 0 11) → ∀ h6 : Mh, h6 = up h5 0 27 (w32 ((h5 0 27) + 1)) → K 1 h6) else (K 0 h4)) → wp_X14_kindLine r K := by
            intro K hk
            refine begR K (rc _ ?_)
            apply L_X14_kindLine_59
            unfold B_X14_kindLine_59
            rw [if_pos rfl]
            refine rb _ ?_
            rw [show b01 true = 1 from rfl, if_neg (by decide)]
            exact hT4.runR hk
          rcases tw_num (lo := 1) (hi := 99) hT5 (by omega) with ⟨x, x0, x1, _, fm, hT6, ct, rt⟩ | ⟨e, e0, ct, rt⟩
          · right
            refine ⟨a4 + 1 + 1, _, _, by omega, fin (a4 + 1 + 1) (advC (advC q4)) (up (tokR (up (tokR r4) 0 11 x)) 11 (4 + cnt) x) x (by omega) (hT6.upR (by decide)) (fxC_adv (fxC_adv fc4 hp00) hp00) (fxR_5 (fxR_tok (fxR_0 (fxR_tok fr4) (by omega))) (by decide) (by decide) (by rw [show off 11 = 4 from rfl]; omega)) x0 x1 (fun o y => by rw [advC_o y, advC_o y]) (fun o y z => by rw [up_other z, tokR_o y, up_other y, tokR_o y]) (fun j => by rw [up_get, tokR_o (by decide), up_other (by decide), tokR_o (by decide)]) (fun j y => by rw [up_other (by decide), tokR_j (by omega), up_slot (by omega), tokR_j (by omega)]), fun K hk => runC K (ct _ ?_), fun K hk => begL K (runR _ (rt _ ?_))⟩
            · have e1 : advC (advC q4) 46 1 = P := by rw [advC_o (by decide), advC_o (by decide)]; exact q41
              rw [e1]
              refine ⟨sP, run_add (by rw [advC_o (by omega), advC_o (by omega)]; exact q423) n0 (by omega) (by omega) ?_⟩
              rw [if_neg (by omega)]; exact hk
            · rw [if_pos (by decide)]
              refine ⟨⟨by omega, by omega⟩, ?_⟩
              intro g5 e5
              rw [show tokR (up (tokR r4) 0 11 x) 0 11 = x by rw [tokR_j (by omega), up_self]] at e5
              rw [show g5 0 27 = cnt by rw [e5, up_other (by decide), tokR_j (by omega), up_slot (by decide), tokR_j (by omega)]; exact r427, w32_eq (by omega) (by omega)]
              intro g6 e6
              rw [e6, e5]; exact hk
          · left
            have pb := PBad.of hT5 (fxC_adv fc4 hp00) (fxR_tok fr4) hp00 e0
            have f1 : rfC e (advC q4) 46 1 = P := by unfold rfC; rw [up_slot (by decide), up_slot (by decide), advC_o (by decide)]; exact q41
            refine ⟨up (up (rfC e (advC q4)) (P + 23 + 1) cnt (-1)) (P + 23) 1 (cnt + 1), wgR e (tokR r4), ⟨fxC_up (fxC_up pb.1 (Or.inr (by omega)) hp00) (Or.inr (by omega)) hp00, pb.2.1, ?_, ?_, pb.2.2.2.2⟩, fun K hk => runC K (ct _ ?_), fun K hk => begL K (runR _ (rt _ ?_))⟩
            · rw [up_other (by omega), up_other (by omega)]; exact pb.2.2.1
            · rw [up_other (by omega), up_other (by omega)]; exact pb.2.2.2.1
            · rw [f1]
              refine ⟨sP, run_add (by unfold rfC; rw [up_other (by omega), up_other (by omega), advC_o (by omega)]; exact q423) n0 (by omega) (by omega) ?_⟩
              rw [if_pos (by decide)]; exact hk
            · rw [if_neg (by decide)]; exact run_458_0 hk
    · left
      refine ⟨_, _, PBad.of hT1 fc1 fr1 hp00 e0, fun K hk => ?_, fun K hk => begL K ?_⟩
      · unfold wp_X9_readKind wp_X7_isFull
        rw [hP]
        refine ⟨sP, ?_⟩
        rw [n1, s12, if_pos (by omega)]
        dsimp only
        rw [if_pos rfl]
        refine hT.runC ?_
        have a1 : advC q 46 1 = P := by rw [advC_o (by decide)]; exact hP
        rw [a1, show advC q (P + 12) 1 = cnt by rw [advC_o (by omega)]; exact n1]
        refine ⟨sP, ?_⟩
        unfold wp_X5_risesOf
        rw [if_neg (by omega), s14, if_neg (by omega)]
        refine ⟨⟨n0, by omega⟩, ?_⟩
        dsimp only
        rw [a1]
        refine ⟨sP, cv _ ?_⟩
        rw [if_pos rfl]; exact hk
      · unfold wp_X14_kindLine
        rw [if_pos (show ¬ r 0 27 = 4 from fun y => full (by omega))]
        refine hT.runR ?_
        rw [show tokR r 0 27 = cnt by rw [tokR_j (by omega)]; exact ecnt.symm]
        intro x1 ex
        refine rv1 _ ?_
        rw [if_neg (by decide)]; exact run_458_0 hk
