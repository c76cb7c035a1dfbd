/-! ===== what waits is let go by both ===== -/
theorem gwR_o {k H : Nat} {x a b : Int} {r : Mh} {o : Int} (h0 : ¬ o = 0) (h1 : ¬ (23 ≤ o ∧ o ≤ 25)) (h2 : ¬ o = 27) : gwR k H x a b r o = r o := by
  unfold gwR
  rw [up_other h0, up_other h0, up_other h2, up_other (by omega), up_other (by omega), up_other (by omega)]
theorem gwR_j {k H : Nat} {x a b : Int} {r : Mh} {j : Int} (h1 : ¬ j = 66) (h2 : ¬ j = 33) : gwR k H x a b r 0 j = r 0 j := by
  unfold gwR
  rw [up_slot h2, up_slot h1, up_other (by decide), up_other (by decide), up_other (by decide), up_other (by decide)]
theorem gwR_66 {k H : Nat} {x a b : Int} {r : Mh} : gwR k H x a b r 0 66 = H + 1 := by
  unfold gwR; rw [up_slot (by decide), up_self]
theorem gwR_33 {k H : Nat} {x a b : Int} {r : Mh} : gwR k H x a b r 0 33 = k + 1 := by
  unfold gwR; rw [up_self]
theorem gwR_27 {k H : Nat} {x a b : Int} {r : Mh} {j : Int} : gwR k H x a b r 27 j = if j = H then (k : Int) else r 27 j := by
  unfold gwR
  rw [up_other (by decide), up_other (by decide), up_get, up_other (by decide), up_other (by decide), up_other (by decide)]
theorem gwR_23 {k H : Nat} {x a b : Int} {r : Mh} {j : Int} : gwR k H x a b r 23 j = if j = 64 + k then x else r 23 j := by
  unfold gwR
  rw [up_other (by decide), up_other (by decide), up_other (by decide), up_other (by decide), up_other (by decide), up_get]
theorem gwR_24 {k H : Nat} {x a b : Int} {r : Mh} {j : Int} : gwR k H x a b r 24 j = if j = 64 + k then a else r 24 j := by
  unfold gwR
  rw [up_other (by decide), up_other (by decide), up_other (by decide), up_other (by decide), up_get, up_other (by decide)]
theorem gwR_25 {k H : Nat} {x a b : Int} {r : Mh} {j : Int} : gwR k H x a b r 25 j = if j = 64 + k then b else r 25 j := by
  unfold gwR
  rw [up_other (by decide), up_other (by decide), up_other (by decide), up_get, up_other (by decide), up_other (by decide)]
theorem gwR_T {B : Int → Int} {n : Int} {m c : Nat} {q r : Mh} {k H : Nat} {x a b : Int} (h : PTok B n m c q r) : PTok B n m c q (gwR k H x a b r) := by
  unfold gwR
  exact (((((h.upR (by decide)).upR (by decide)).upR (by decide)).upR (by decide)).up11 (by omega)).up11 (by omega)
theorem gwR_fx {r0 r : Mh} {k H : Nat} {x a b : Int} (h : fxR r0 r) : fxR r0 (gwR k H x a b r) := by
  unfold gwR
  exact fxR_0 (fxR_0 (fxR_3 (fxR_5 (fxR_5 (fxR_5 h (by decide) (by decide) (by rw [show off 23 = 64 from rfl]; omega)) (by decide) (by decide) (by rw [show off 24 = 64 from rfl]; omega)) (by decide) (by decide) (by rw [show off 25 = 64 from rfl]; omega)) (by omega)) (by omega)) (by omega)
theorem adC_o {P : Int} {k : Nat} {c v : Int} {q : Mh} {o : Int} (h : ¬ (P + 37 ≤ o ∧ o ≤ P + 39)) : adC P k c v q o = q o := by
  unfold adC
  rw [up_other (by omega), up_other (by omega), up_other (by omega)]
theorem adC_37 {P : Int} {k : Nat} {c v : Int} {q : Mh} : adC P k c v q (P + 37) 4 = k + 1 := by
  unfold adC; rw [up_self]
theorem adC_38 {P : Int} {k : Nat} {c v : Int} {q : Mh} {j : Int} : adC P k c v q (P + 38) j = if j = k then c else q (P + 38) j := by
  unfold adC
  rw [up_other (by omega), up_other (by omega), show P + 38 = P + 37 + 1 by omega, up_get]
theorem adC_39 {P : Int} {k : Nat} {c v : Int} {q : Mh} {j : Int} : adC P k c v q (P + 39) j = if j = k then v else q (P + 39) j := by
  unfold adC
  rw [up_other (by omega), show P + 39 = P + 37 + 2 by omega, up_get, up_other (by omega)]
theorem adC_T {B : Int → Int} {n : Int} {m c' : Nat} {q r : Mh} {P : Int} {k : Nat} {c v : Int} (hp : isP P) (h : PTok B n m c' q r) : PTok B n m c' (adC P k c v q) r := by
  unfold isP at hp
  unfold adC
  exact ((h.upC (by omega)).upC (by omega)).upC (by omega)
theorem adC_fx {q0 q : Mh} {P : Int} {k : Nat} {c v : Int} (hp : isP P) (eP : P = q0 46 1) (h : fxC q0 q) : fxC q0 (adC P k c v q) := by
  have hp0 : isP (q0 46 1) := by rw [← eP]; exact hp
  unfold isP at hp
  unfold adC
  exact fxC_up (fxC_up (fxC_up h (Or.inr (by omega)) hp0) (Or.inr (by omega)) hp0) (Or.inr (by omega)) hp0
theorem LI.pop {B : Int → Int} {n : Int} {m : Nat} {q0 r0 qb rb : Mh} {P : Int} {a N H k H' : Nat} {q r : Mh} {x pa pb w : Int} (h : LI B n m q0 r0 qb rb P a (N + 1) H k q r) (hp : isP P) (eP : P = q0 46 1) (h69 : r 0 69 = 0) (ex : x = r 26 N) (hH : bnn (r 26) N = H') (hx : (x = 2 ∧ hl (r 27) H = pa :: hl (r 27) H') ∨ (3 ≤ x ∧ x ≤ 14 ∧ hl (r 27) H = pb :: pa :: hl (r 27) H')) :
    LI B n m q0 r0 qb rb P a N (H' + 1) (k + 1) (adC P k (cdw x) 0 (up q 46 12 N)) (gwR k H' x pa pb (up (up r 0 65 N) 0 66 w)) := by
  have hp0 : isP (q0 46 1) := by rw [← eP]; exact hp
  have hq := hp
  unfold isP at hq
  obtain ⟨hT, hc, hr, f1, f2, f3, f4, ⟨c1, c2, c3, c4, c5, c6, c7, c8, c9, c10, c11, c12⟩, st, zc, bc, sum, mn, kn⟩ := h
  have x0 : ¬ x = 0 := by rcases hx with y | y <;> omega
  obtain ⟨qa, eqa⟩ : ∃ qa, qa = up q 46 12 N := ⟨_, rfl⟩
  obtain ⟨ra, era⟩ : ∃ ra, ra = up (up r 0 65 N) 0 66 w := ⟨_, rfl⟩
  rw [← eqa, ← era]
  have hTa : PTok B n m a qa ra := by rw [eqa, era]; exact ((hT.upC (by decide)).up11 (by omega)).up11 (by omega)
  have qao : ∀ o, ¬ o = 46 → qa o = q o := fun o y => by rw [eqa, up_other y]
  have qaj : ∀ j, ¬ j = 12 → qa 46 j = q 46 j := fun j y => by rw [eqa, up_slot y]
  have rao : ∀ o, ¬ o = 0 → ra o = r o := fun o y => by rw [era, up_other y, up_other y]
  have raj : ∀ j, ¬ j = 65 → ¬ j = 66 → ra 0 j = r 0 j := fun j y z => by rw [era, up_slot z, up_slot y]
  have g26 : gwR k H' x pa pb ra 26 = r 26 := by rw [gwR_o (by decide) (by decide) (by decide), rao 26 (by decide)]
  refine ⟨gwR_T (adC_T hp hTa), adC_fx hp eP (by rw [eqa]; exact fxC_up hc (Or.inl (by omega)) hp0), gwR_fx (by rw [era]; exact fxR_0 (fxR_0 hr (by omega)) (by omega)), ?_, ?_, ?_, ?_, ⟨?_, ?_, ?_, ?_, ?_, ?_, ?_, ?_, ?_, ?_, ?_, ?_⟩, ?_, ?_, ?_, ?_, ?_, ?_⟩
  · intro o y z
    rw [adC_o z, qao o (by omega), f1 o y z]
  · intro j y
    rw [adC_o (by omega), qaj j (by omega), f2 j y]
  · intro o y z
    rw [gwR_o y (by omega) (by omega), rao o y, f3 o y z]
  · intro j y z u
    rw [gwR_j (by omega) z, raj j (by omega) (by omega), f4 j y z u]
  · rw [adC_o (by omega), eqa, up_self]
  · rw [gwR_j (by decide) (by decide), era, up_slot (by decide), up_self]
  · rw [gwR_66]; omega
  · rw [gwR_33]; omega
  · rw [adC_o (by omega), qaj 13 (by decide), gwR_j (by decide) (by decide), raj 67 (by decide) (by decide)]; exact c5
  · rw [gwR_j (by decide) (by decide), raj 67 (by decide) (by decide)]; exact c6
  · rw [gwR_j (by decide) (by decide), raj 67 (by decide) (by decide)]; exact c7
  · rw [adC_o (by omega), qaj 14 (by decide), gwR_j (by decide) (by decide), raj 68 (by decide) (by decide)]; exact c8
  · rw [gwR_j (by decide) (by decide), raj 68 (by decide) (by decide)]; exact c9
  · rw [gwR_j (by decide) (by decide), raj 68 (by decide) (by decide)]; exact c10
  · rw [gwR_j (by decide) (by decide), raj 69 (by decide) (by decide)]; exact c11
  · rw [adC_o (by omega), qaj 15 (by decide), gwR_j (by decide) (by decide), raj 69 (by decide) (by decide)]; exact c12
  · intro j j0 j1
    rw [g26, adC_o (by omega), adC_o (by omega), qao 47 (by decide), qao 48 (by decide)]
    exact st j j0 (by omega)
  · rw [g26, gwR_j (by decide) (by decide), raj 67 (by decide) (by decide), ← zc]
    show zcn (r 26) N = zcn (r 26) N + (if r 26 (N : Int) = 0 then 1 else 0)
    rw [if_neg (by rw [← ex]; exact x0)]; omega
  · rw [g26, gwR_j (by decide) (by decide), raj 69 (by decide) (by decide), h69, hH]; omega
  · rw [gwR_j (by decide) (by decide), gwR_j (by decide) (by decide), raj 67 (by decide) (by decide), raj 68 (by decide) (by decide)]; omega
  · intro y
    rw [gwR_j (by decide) (by decide), raj 69 (by decide) (by decide), h69] at y
    exact absurd y (by decide)
  · have kn' : KN qa ra P k (hl (r 27) H) := kn.same (fun o y z => qao o (by omega)) (fun o y z => rao o (by omega))
    refine kn'.step (c := cdw x) (v := 0) (x := x) (a := pa) (b := pb) adC_37 (fun j => adC_38) (fun j => adC_39) (fun j => gwR_23) (fun j => gwR_24) (fun j => gwR_25) ?_ ?_
    · unfold cdw
      rw [if_neg x0]
      unfold cdk
      rcases hx with y | y
      · rw [if_neg (by omega), if_neg (by omega), if_neg (by omega), if_neg (by omega), if_neg (by omega), if_neg (by omega)]
      · rw [if_neg (show ¬ x = 0 by omega), if_neg (show ¬ x = 1 by omega), if_neg (show ¬ x = 0 by omega), if_neg (show ¬ x = 1 by omega)]
    · have eh : hl (gwR k H' x pa pb ra 27) (H' + 1) = (k : Int) :: hl (r 27) H' := by
        show gwR k H' x pa pb ra 27 (H' : Int) :: hl (gwR k H' x pa pb ra 27) H' = _
        rw [gwR_27, if_pos rfl, hl_cg H' (fun j j0 j1 => by rw [gwR_27, if_neg (by omega), rao 27 (by decide)])]
      rw [eh]
      rcases hx with ⟨y1, y2⟩ | ⟨y1, y2, y3⟩
      · exact Or.inr (Or.inr (Or.inl ⟨y1, _, y2, rfl⟩))
      · exact Or.inr (Or.inr (Or.inr ⟨y1, y2, _, y3, rfl⟩))
theorem tw_rel {B : Int → Int} {n : Int} {m : Nat} {q0 r0 qb rb : Mh} {P p : Int} {a : Nat} (hp : isP P) (eP : P = q0 46 1) (hb1 : qb 46 1 = P) (p1 : 1 ≤ p) :
    ∀ (N H k : Nat) (q r : Mh), LI B n m q0 r0 qb rb P a N H k q r → r 0 69 = 0 →
    ∃ (N' H' k' : Nat) (q' r' : Mh), LI B n m q0 r0 qb rb P a N' H' k' q' r' ∧ r' 0 69 = 0 ∧ tpF (r' 26) N' < p ∧ r' 0 67 = r 0 67 ∧ r' 0 68 = r 0 68 ∧ q' 49 = q 49 ∧ (∀ j, 7 ≤ j → j ≤ 10 → r' 0 j = r 0 j) ∧ (∀ K : Mh → Prop, K q' → wp_X9_release p q K) ∧ (∀ K : Mh → Prop, K r' → wp_X14_bind p r K) := by
  have sP := shC_P hp
  have hq := hp
  unfold isP at hq
  intro N
  induction N with
  | zero =>
    intro H k q r h h69
    have c1 : q 46 12 = 0 := h.2.2.2.2.2.2.2.1.1
    have c2 : r 0 65 = 0 := h.2.2.2.2.2.2.2.1.2.1
    refine ⟨0, H, k, q, r, h, h69, by show (0 : Int) < p; omega, rfl, rfl, rfl, fun _ _ _ => rfl, fun K hk => ?_, fun K hk => ?_⟩
    · unfold wp_X9_release
      rw [c1, if_pos (by decide)]; exact hk
    · unfold wp_X14_bind
      rw [c2, if_pos (by decide)]; exact hk
  | succ N ih =>
    intro H k q r h h69
    have h' := h
    obtain ⟨hT, hc, hr, f1, f2, f3, f4, ⟨c1, c2, c3, c4, c5, c6, c7, c8, c9, c10, c11, c12⟩, st, zc, bc, sum, mn, kn⟩ := h
    have zr := zcn_r (r 26) N
    have br := bnn_r (r 26) N
    have zc' : zcn (r 26) N + (if r 26 (N : Int) = 0 then 1 else 0) = r 0 67 := zc
    have bc' : bnn (r 26) N + (if 3 ≤ r 26 (N : Int) then 1 else 0) + (1 - r 0 69) = H := bc
    have N72 : N + 1 ≤ 72 := by
      have : 0 ≤ zcn (r 26) N + (if r 26 (N : Int) = 0 then 1 else 0) := by rw [zc']; exact c6
      omega
    obtain ⟨x, ex⟩ : ∃ x, x = r 26 (N : Int) := ⟨_, rfl⟩
    have hst := st N (by omega) (by omega)
    rw [← ex] at hst zc' bc'
    have tp : tpF (r 26) (N + 1) = rkF x := by show rkF (r 26 (N : Int)) = rkF x; rw [ex]
    have wN : w32 (((N + 1 : Nat) : Int) - 1) = N := by rw [w32_eq (by omega) (by omega)]; omega
    have q1P : q 46 1 = P := by rw [f2 1 (by decide)]; exact hb1
    by_cases z : rkF x < p
    · refine ⟨N + 1, H, k, q, r, h', h69, by rw [tp]; exact z, rfl, rfl, rfl, fun _ _ _ => rfl, fun K hk => ?_, fun K hk => ?_⟩
      · unfold wp_X9_release
        rw [c1, if_neg (by omega), if_neg (by omega)]
        refine run_top c1 (by omega) (fun j j0 j1 => (st j j0 j1).2.2) ?_
        rw [tp, if_pos z]; exact hk
      · unfold wp_X14_bind
        rw [c2, if_neg (by omega), wN]
        refine ⟨⟨by omega, by omega⟩, ?_⟩
        rw [← ex]
        refine run_rank ?_
        rw [if_pos z]; exact hk
    · have x0 : ¬ x = 0 := fun y => by
        have := ((rkF_0 hst.1).2.2.1).mpr y
        omega
      have x2 : 2 ≤ x ∧ x ≤ 14 := hst.1.resolve_left x0
      rw [if_neg x0] at zc'
      rw [h69] at bc'
      have k64 : k < 64 := by omega
      obtain ⟨H', eH'⟩ : ∃ H' : Nat, (H' : Int) = bnn (r 26) N := ⟨(bnn (r 26) N).toNat, by omega⟩
      have H96 : H' < 96 := by omega
      have goC : ∀ K : Mh → Prop, wp_X9_release p (adC P k (cdw x) 0 (up q 46 12 N)) K → wp_X9_release p q K := by
        intro K hk
        have hk' : Lfp (F_X9_release p K) (0, [], adC P k (cdw x) 0 (up q 46 12 N)) := L_X9_release_0 hk
        unfold wp_X9_release
        rw [c1, if_neg (by omega), if_neg (by omega)]
        refine run_top c1 (by omega) (fun j j0 j1 => (st j j0 j1).2.2) ?_
        rw [tp, if_neg z, c1, wN]
        intro h2 e2
        have e1 : h2 46 1 = P := by rw [e2, up_slot (by decide)]; exact q1P
        have e12 : h2 46 12 = N := by rw [e2, up_self]
        rw [e1, e12]
        refine ⟨sP, ⟨by omega, by omega⟩, ?_⟩
        rw [show h2 47 N = cdw x by rw [e2, up_other (by decide)]; exact hst.2.1]
        refine run_add3 hp (by rw [e2, up_other (by omega)]; exact kn.1) k64 ?_
        rw [e2]; exact hk'
      by_cases z2 : x = 2
      · rw [if_neg (by omega)] at bc'
        have eH : H = H' + 1 := by omega
        have hh : hl (r 27) H = r 27 H' :: hl (r 27) H' := by rw [eH]; rfl
        have li := h'.pop (pa := r 27 H') (pb := -1) (w := H') hp eP h69 ex eH'.symm (Or.inl ⟨z2, hh⟩)
        obtain ⟨N2, H2, k2, q2, r2, l1, l2, l3, l4, l5, l6, l7, l8, l9⟩ := ih _ _ _ _ li (by rw [gwR_j (by decide) (by decide), up_slot (by decide), up_slot (by decide)]; exact h69)
        refine ⟨N2, H2, k2, q2, r2, l1, l2, l3, ?_, ?_, ?_, ?_, fun K hk => goC K (l8 K hk), fun K hk => ?_⟩
        · rw [l4, gwR_j (by decide) (by decide), up_slot (by decide), up_slot (by decide)]
        · rw [l5, gwR_j (by decide) (by decide), up_slot (by decide), up_slot (by decide)]
        · rw [l6, adC_o (by omega), up_other (by decide)]
        · intro j j0 j1
          rw [l7 j j0 j1, gwR_j (by omega) (by omega), up_slot (by omega), up_slot (by omega)]
        · have hk' : Lfp (F_X14_bind p K) (0, [], gwR k H' x (r 27 H') (-1) (up (up r 0 65 N) 0 66 H')) := L_X14_bind_0 (l9 K hk)
          unfold wp_X14_bind
          rw [c2, if_neg (by omega), wN]
          refine ⟨⟨by omega, by omega⟩, ?_⟩
          rw [← ex]
          refine run_rank ?_
          rw [if_neg z, c2, wN]
          intro h2 e2
          have e65 : h2 0 65 = N := by rw [e2, up_self]
          rw [e65]
          refine ⟨⟨by omega, by omega⟩, ?_⟩
          intro x' ex'
          rw [show x' = x by rw [ex', e2, up_other (by decide), ex], if_neg (fun y => y z2)]
          refine run_dropHeld (H := H') (by rw [e2, up_slot (by decide), c3]; omega) H96 ?_
          rw [show h2 27 H' = r 27 H' by rw [e2, up_other (by decide)]]
          refine run_grown (k := k) (H := H') (by rw [up_slot (by decide), e2, up_slot (by decide)]; exact c4) up_self k64 H96 ?_
          rw [e2]; exact hk'
      · have x3 : 3 ≤ x := by omega
        rw [if_pos x3] at bc'
        have eH : H = H' + 2 := by omega
        have hh : hl (r 27) H = r 27 ((H' + 1 : Nat) : Int) :: r 27 H' :: hl (r 27) H' := by rw [eH]; rfl
        have li := h'.pop (pa := r 27 H') (pb := r 27 ((H' + 1 : Nat) : Int)) (w := H') hp eP h69 ex eH'.symm (Or.inr ⟨x3, x2.2, hh⟩)
        obtain ⟨N2, H2, k2, q2, r2, l1, l2, l3, l4, l5, l6, l7, l8, l9⟩ := ih _ _ _ _ li (by rw [gwR_j (by decide) (by decide), up_slot (by decide), up_slot (by decide)]; exact h69)
        refine ⟨N2, H2, k2, q2, r2, l1, l2, l3, ?_, ?_, ?_, ?_, fun K hk => goC K (l8 K hk), fun K hk => ?_⟩
        · rw [l4, gwR_j (by decide) (by decide), up_slot (by decide), up_slot (by decide)]
        · rw [l5, gwR_j (by decide) (by decide), up_slot (by decide), up_slot (by decide)]
        · rw [l6, adC_o (by omega), up_other (by decide)]
        · intro j j0 j1
          rw [l7 j j0 j1, gwR_j (by omega) (by omega), up_slot (by omega), up_slot (by omega)]
        · have hk' : Lfp (F_X14_bind p K) (0, [], gwR k H' x (r 27 H') (r 27 ((H' + 1 : Nat) : Int)) (up (up r 0 65 N) 0 66 H')) := L_X14_bind_0 (l9 K hk)
          unfold wp_X14_bind
          rw [c2, if_neg (by omega), wN]
          refine ⟨⟨by omega, by omega⟩, ?_⟩
          rw [← ex]
          refine run_rank ?_
          rw [if_neg z, c2, wN]
          intro h2 e2
          have e65 : h2 0 65 = N := by rw [e2, up_self]
          rw [e65]
          refine ⟨⟨by omega, by omega⟩, ?_⟩
          intro x' ex'
          rw [show x' = x by rw [ex', e2, up_other (by decide), ex], if_pos z2]
          refine run_dropHeld (H := H' + 1) (by rw [e2, up_slot (by decide), c3]; omega) (by omega) ?_
          refine run_dropHeld (H := H') (by rw [up_self]; omega) H96 ?_
          rw [show h2 27 ((H' + 1 : Nat) : Int) = r 27 ((H' + 1 : Nat) : Int) by rw [e2, up_other (by decide)], show up h2 0 66 ((H' + 1 : Nat) : Int) 27 H' = r 27 H' by rw [up_other (by decide), e2, up_other (by decide)], up_up]
          refine run_grown (k := k) (H := H') (by rw [up_slot (by decide), e2, up_slot (by decide)]; exact c4) up_self k64 H96 ?_
          rw [e2]; exact hk'
