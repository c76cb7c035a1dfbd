/-! ===== the law: one token more ===== -/
theorem LI.adv {B : Int → Int} {n : Int} {m : Nat} {q0 r0 qb rb : Mh} {P : Int} {a N H k : Nat} {q r : Mh} (h : LI B n m q0 r0 qb rb P a N H k q r) (hp : isP P) (eP : P = q0 46 1) (am : a < m) : LI B n m q0 r0 qb rb P (a + 1) N H k (advC q) (tokR r) := by
  have hp0 : isP (q0 46 1) := by rw [← eP]; exact hp
  have hq := hp
  unfold isP at hq
  obtain ⟨hT, hc, hr, f1, f2, f3, f4, f5, st, zc, bc, sum, mn, kn⟩ := h
  have A : ∀ o, ¬ o = 49 → advC q o = q o := fun o y => advC_o y
  have T : ∀ o, ¬ o = 0 → tokR r o = r o := fun o y => tokR_o y
  have Tj : ∀ j, ¬ (7 ≤ j ∧ j ≤ 10) → tokR r 0 j = r 0 j := fun j y => tokR_j y
  refine ⟨hT.step am, fxC_adv hc hp0, fxR_tok hr, fun o y z => by rw [A o (by omega), f1 o y z], fun j y => by rw [A 46 (by decide), f2 j y], fun o y z => by rw [T o y, f3 o y z], fun j y z w => by rw [Tj j (by omega), f4 j y z w], ?_, ?_, ?_, ?_, ?_, ?_, ?_⟩
  · rw [A 46 (by decide), Tj 65 (by omega), Tj 66 (by omega), Tj 33 (by omega), Tj 67 (by omega), Tj 68 (by omega), Tj 69 (by omega)]; exact f5
  · rw [A 47 (by decide), A 48 (by decide), T 26 (by decide)]; exact st
  · rw [T 26 (by decide), Tj 67 (by omega)]; exact zc
  · rw [T 26 (by decide), Tj 69 (by omega)]; exact bc
  · rw [Tj 67 (by omega), Tj 68 (by omega)]; exact sum
  · rw [T 26 (by decide), Tj 69 (by omega), Tj 70 (by omega)]; exact mn
  · rw [T 27 (by decide)]
    exact kn.same (fun o y z => A o (by omega)) (fun o y z => T o (by omega))
theorem LI.push {B : Int → Int} {n : Int} {m : Nat} {q0 r0 qb rb : Mh} {P : Int} {a N H k : Nat} {q r q' r' : Mh} {x : Int} (h : LI B n m q0 r0 qb rb P a N H k q r) (hp : isP P) (hx : x = 0 ∨ (2 ≤ x ∧ x ≤ 14))
    (hT : PTok B n m a q' r') (hc : fxC q0 q') (hr : fxR r0 r') (qo : ∀ o, ¬ (46 ≤ o ∧ o ≤ 48) → q' o = q o) (q47 : ∀ j, q' 47 j = if j = N then cdw x else q 47 j) (q48 : ∀ j, q' 48 j = if j = N then rkF x else q 48 j) (qj : ∀ j, ¬ (12 ≤ j ∧ j ≤ 15) → q' 46 j = q 46 j) (q12 : q' 46 12 = N + 1) (q13 : q' 46 13 = r' 0 67) (q14 : q' 46 14 = r' 0 68) (q15 : q' 46 15 = 0)
    (ro : ∀ o, ¬ o = 0 → ¬ o = 26 → r' o = r o) (r26 : ∀ j, r' 26 j = if j = N then x else r 26 j) (rj : ∀ j, ¬ j = 65 → ¬ (67 ≤ j ∧ j ≤ 70) → r' 0 j = r 0 j) (r65 : r' 0 65 = N + 1) (r69 : r' 0 69 = 1) (r67 : r' 0 67 = r 0 67 + (if x = 0 then 1 else 0)) (r68 : r' 0 68 = r 0 68 + (if x = 0 then 0 else 1)) (l67 : r' 0 67 ≤ 8) (l68 : r' 0 68 ≤ 64) (r70 : r' 0 70 = 0 ↔ 3 < rkF x) (hH : bnn (r 26) N + (if 3 ≤ x then 1 else 0) = H) : LI B n m q0 r0 qb rb P a (N + 1) H k q' r' := by
  have hq := hp
  unfold isP at hq
  obtain ⟨_, _, _, f1, f2, f3, f4, ⟨c1, c2, c3, c4, c5, c6, c7, c8, c9, c10, c11, c12⟩, st, zc, bc, sum, mn, kn⟩ := h
  have low : ∀ j : Int, 0 ≤ j → j < N → r' 26 j = r 26 j := fun j y z => by rw [r26, if_neg (by omega)]
  have top : r' 26 (N : Int) = x := by rw [r26, if_pos rfl]
  refine ⟨hT, hc, hr, fun o y z => by rw [qo o (by omega), f1 o y z], fun j y => by rw [qj j y, f2 j y], fun o y z => by rw [ro o y (by omega), f3 o y z], fun j y z w => by rw [rj j (by omega) (by omega), f4 j y z w], ⟨by rw [q12]; omega, by rw [r65]; omega, by rw [rj 66 (by decide) (by decide)]; exact c3, by rw [rj 33 (by decide) (by decide)]; exact c4, q13, ?_, l67, q14, ?_, l68, Or.inr r69, by rw [q15, r69]; decide⟩, ?_, ?_, ?_, ?_, ?_, ?_⟩
  · rw [r67]; split <;> omega
  · rw [r68]; split <;> omega
  · intro j j0 j1
    by_cases z : j = N
    · rw [z, top, q47, if_pos rfl, q48, if_pos rfl]; exact ⟨hx, rfl, rfl⟩
    · rw [low j j0 (by omega), q47, if_neg z, q48, if_neg z]; exact st j j0 (by omega)
  · show zcn (r' 26) N + (if r' 26 (N : Int) = 0 then 1 else 0) = r' 0 67
    rw [top, zcn_cg N low, zc, r67]
  · show bnn (r' 26) N + (if 3 ≤ r' 26 (N : Int) then 1 else 0) + (1 - r' 0 69) = H
    rw [top, bnn_cg N low, r69, hH]; omega
  · rw [r67, r68]
    by_cases z : x = 0
    · rw [if_pos z, if_pos z]; omega
    · rw [if_neg z, if_neg z]; omega
  · intro _
    show r' 0 70 = 0 ↔ 3 < rkF (r' 26 (N : Int))
    rw [top]; exact r70
  · rw [ro 27 (by decide) (by decide)]
    exact kn.same (fun o y z => qo o (by omega)) (fun o y z => ro o (by omega) (by omega))
theorem LI.leaf {B : Int → Int} {n : Int} {m : Nat} {q0 r0 qb rb : Mh} {P : Int} {a N H k : Nat} {q r : Mh} {x pa c v : Int} (h : LI B n m q0 r0 qb rb P a N H k q r) (hp : isP P) (eP : P = q0 46 1) (h69 : r 0 69 = 1) (l68 : r 0 68 < 64) (hcc : c = cdk x pa) (hx : (x = 0 ∧ v = pa ∧ 0 ≤ pa ∧ pa ≤ 9999) ∨ (x = 1 ∧ 0 ≤ pa ∧ pa ≤ 4)) :
    LI B n m q0 r0 qb rb P a N (H + 1) (k + 1) (up (adC P k c v (up q 46 14 (r 0 68 + 1))) 46 15 1) (up (gwR k H x pa 0 (up r 0 68 (r 0 68 + 1))) 0 69 0) := by
  have hp0 : isP (q0 46 1) := by rw [← eP]; exact hp
  have hq := hp
  unfold isP at hq
  obtain ⟨hT, hc, hr, f1, f2, f3, f4, ⟨c1, c2, c3, c4, c5, c6, c7, c8, c9, c10, c11, c12⟩, st, zc, bc, sum, mn, kn⟩ := h
  obtain ⟨qa, eqa⟩ : ∃ qa, qa = up q 46 14 (r 0 68 + 1) := ⟨_, rfl⟩
  obtain ⟨ra, era⟩ : ∃ ra, ra = up r 0 68 (r 0 68 + 1) := ⟨_, rfl⟩
  have qao : ∀ o, ¬ o = 46 → qa o = q o := fun o y => by rw [eqa, up_other y]
  have rao : ∀ o, ¬ o = 0 → ra o = r o := fun o y => by rw [era, up_other y]
  rw [← eqa, ← era]
  obtain ⟨q', eq'⟩ : ∃ q', q' = up (adC P k c v qa) 46 15 1 := ⟨_, rfl⟩
  obtain ⟨r', er'⟩ : ∃ r', r' = up (gwR k H x pa 0 ra) 0 69 0 := ⟨_, rfl⟩
  rw [← eq', ← er']
  have hTa : PTok B n m a qa ra := by rw [eqa, era]; exact (hT.upC (by decide)).up11 (by omega)
  have qo : ∀ o, ¬ o = 46 → ¬ (P + 37 ≤ o ∧ o ≤ P + 39) → q' o = q o := fun o y z => by rw [eq', up_other y, adC_o z, qao o y]
  have qj : ∀ j, ¬ j = 14 → ¬ j = 15 → q' 46 j = q 46 j := fun j y z => by rw [eq', up_slot z, adC_o (by omega), eqa, up_slot y]
  have ro : ∀ o, ¬ o = 0 → ¬ (23 ≤ o ∧ o ≤ 25) → ¬ o = 27 → r' o = r o := fun o y z w => by rw [er', up_other y, gwR_o y z w, rao o y]
  have rj : ∀ j, ¬ j = 33 → ¬ j = 66 → ¬ j = 68 → ¬ j = 69 → r' 0 j = r 0 j := fun j y z w u => by rw [er', up_slot u, gwR_j z y, era, up_slot w]
  have r68 : r' 0 68 = r 0 68 + 1 := by rw [er', up_slot (by decide), gwR_j (by decide) (by decide), era, up_self]
  have r69 : r' 0 69 = 0 := by rw [er', up_self]
  have e26 : r' 26 = r 26 := ro 26 (by decide) (by decide) (by decide)
  refine ⟨?_, ?_, ?_, fun o y z => by rw [qo o (by omega) z, f1 o y z], fun j y => by rw [qj j (by omega) (by omega), f2 j y], fun o y z => by rw [ro o y (by omega) (by omega), f3 o y z], fun j y z w => by rw [rj j z (by omega) (by omega) (by omega), f4 j y z w], ⟨by rw [qj 12 (by decide) (by decide)]; exact c1, by rw [rj 65 (by decide) (by decide) (by decide) (by decide)]; exact c2, ?_, ?_, by rw [qj 13 (by decide) (by decide), rj 67 (by decide) (by decide) (by decide) (by decide)]; exact c5, by rw [rj 67 (by decide) (by decide) (by decide) (by decide)]; exact c6, by rw [rj 67 (by decide) (by decide) (by decide) (by decide)]; exact c7, ?_, by rw [r68]; omega, by rw [r68]; omega, Or.inl r69, ?_⟩, ?_, ?_, ?_, ?_, ?_, ?_⟩
  · rw [eq', er']; exact ((gwR_T (adC_T hp hTa)).upC (by decide)).up11 (by omega)
  · rw [eq', eqa]; exact fxC_up (adC_fx hp eP (fxC_up hc (Or.inl (by omega)) hp0)) (Or.inl (by omega)) hp0
  · rw [er', era]; exact fxR_0 (gwR_fx (fxR_0 hr (by omega))) (by omega)
  · rw [er', up_slot (by decide), gwR_66]; omega
  · rw [er', up_slot (by decide), gwR_33]; omega
  · rw [eq', up_slot (by decide), adC_o (by omega), eqa, up_self, r68]
  · rw [eq', up_self, r69]; decide
  · rw [e26, qo 47 (by decide) (by omega), qo 48 (by decide) (by omega)]; exact st
  · rw [e26, rj 67 (by decide) (by decide) (by decide) (by decide)]; exact zc
  · rw [e26, r69]
    rw [h69] at bc
    omega
  · rw [r68, rj 67 (by decide) (by decide) (by decide) (by decide)]; omega
  · intro y
    rw [r69] at y
    exact absurd y (by decide)
  · have kn' : KN qa ra P k (hl (r 27) H) := kn.same (fun o y z => qao o (by omega)) (fun o y z => rao o (by omega))
    have k3 : KN (adC P k c v qa) (gwR k H x pa 0 ra) P (k + 1) ((k : Int) :: hl (r 27) H) := by
      refine kn'.step (c := c) (v := v) (x := x) (a := pa) (b := 0) adC_37 (fun j => adC_38) (fun j => adC_39) (fun j => gwR_23) (fun j => gwR_24) (fun j => gwR_25) hcc ?_
      rcases hx with ⟨y1, y2, y3, y4⟩ | ⟨y1, y2, y3⟩
      · exact Or.inl ⟨y1, y2, y3, y4, rfl⟩
      · exact Or.inr (Or.inl ⟨y1, y2, y3, rfl⟩)
    have eh : hl (r' 27) (H + 1) = (k : Int) :: hl (r 27) H := by
      rw [er', up_other (by decide)]
      show gwR k H x pa 0 ra 27 (H : Int) :: hl (gwR k H x pa 0 ra 27) H = _
      rw [gwR_27, if_pos rfl, hl_cg H (fun j j0 j1 => by rw [gwR_27, if_neg (by omega), rao 27 (by decide)])]
    rw [eh]
    exact k3.same (fun o y z => by rw [eq', up_other (by omega)]) (fun o y z => by rw [er', up_other (by omega)])
/-! ===== what is asked of the token ===== -/
theorem run_of {w : Int} {h : Mh} {K : Int → Mh → Prop} (w0 : 0 ≤ w) (w1 : w < 22) (hk : K (ix w) h) : wp_X12_of (wl (ix w)) h K := by
  have r := ix_r w.toNat (by omega)
  rw [show ((w.toNat : Nat) : Int) = w by omega] at r
  refine sp_of ?_
  intro i hi
  rcases hi with ⟨_, y⟩ | ⟨i0, i1, i2⟩
  · exact absurd rfl (y (ix w) r.1 r.2)
  · have e := wl_inj i.toNat (by omega) (ix w).toNat (by omega) (by rw [show ((i.toNat : Nat) : Int) = i by omega, show (((ix w).toNat : Nat) : Int) = ix w by omega]; exact i2)
    rw [show i = ix w by omega]; exact hk
/-- what a word is in a law -/
def wcF (w : Int) : Int := if w = 14 then 8 else if w = 15 then 7 else if w = 16 then 6 else if 17 ≤ w then w - 16 else -1
theorem wc_ix : ∀ w : Nat, w < 22 → wc (ix w) = wcF w := by decide +kernel
theorem run_wordCode {B : Int → Int} {n : Int} {m a : Nat} {q r : Mh} (hT : PTok B n m a q r) {K : Int → Mh → Prop} (hk : K (if r 0 8 = 1 then wcF (r 0 9) else -1) q) : wp_X9_wordCode q K := by
  obtain ⟨w1, w2⟩ := hT.word
  unfold wp_X9_wordCode
  by_cases z : q 49 8 = 3
  · obtain ⟨am, i0, i1, i2⟩ := w2 z
    rw [if_pos (w1.mp z)] at hk
    rw [if_neg (fun y => y z), i2]
    refine run_of i0 i1 ?_
    have r' := ix_r (r 0 9).toNat (by omega)
    have e := wc_ix (r 0 9).toNat (by omega)
    rw [show (((r 0 9).toNat : Nat) : Int) = r 0 9 by omega] at r' e
    rw [if_pos r'.1, e]
    exact ⟨r', hk⟩
  · rw [if_neg (fun y => z (w1.mpr y))] at hk
    rw [if_pos z, if_neg (by decide)]
    exact hk
theorem run_room {q : Mh} {c : Int} {K : Int → Mh → Prop} (h : q 46 14 = c) (c0 : 0 ≤ c) (c1 : c < 64) (hk : K 1 (up q 46 14 (c + 1))) : wp_X9_isRoomForKnot q K := by
  unfold wp_X9_isRoomForKnot
  rw [h, if_pos c1, w32_eq (by omega) (by omega)]
  intro g e
  rw [e]; exact hk
theorem run_room0 {q : Mh} {K : Int → Mh → Prop} (h : q 46 14 = 64) (hk : K 0 (rfC 2 q)) : wp_X9_isRoomForKnot q K := by
  unfold wp_X9_isRoomForKnot
  rw [h, if_neg (by decide)]
  exact run_refuse hk
theorem run_counted {r : Mh} {c : Int} {K : Int → Mh → Prop} (h : r 0 68 = c) (c0 : 0 ≤ c) (c1 : c < 64) (hk : K 1 (up r 0 68 (c + 1))) : wp_X14_isCounted r K := by
  unfold wp_X14_isCounted
  rw [h, if_pos (by omega), w32_eq (by omega) (by omega)]
  intro g e
  rw [e]; exact hk
theorem run_counted0 {r : Mh} {K : Int → Mh → Prop} (h : r 0 68 = 64) (hk : K 0 (wgR 2 r)) : wp_X14_isCounted r K := by
  unfold wp_X14_isCounted
  rw [h, if_neg (fun y => y rfl)]
  exact run_wrong hk
theorem run_hold {q : Mh} {N : Nat} {p1 p2 : Int} {K : Int → Mh → Prop} (h : q 46 12 = N) (hN : N < 72) (hk : K 1 (up (up (up q 47 N p1) 48 N p2) 46 12 (N + 1))) : wp_X9_hold p1 p2 q K := by
  unfold wp_X9_hold
  rw [h, if_neg (by omega), if_pos (by omega)]
  refine ⟨⟨by omega, by omega⟩, ?_⟩
  intro g2 e2
  rw [show g2 46 12 = N by rw [e2, up_other (by decide)]; exact h]
  refine ⟨⟨by omega, by omega⟩, ?_⟩
  intro g3 e3
  rw [show g3 46 12 = N by rw [e3, up_other (by decide), e2, up_other (by decide)]; exact h, w32_eq (by omega) (by omega)]
  intro g4 e4
  rw [e4, e3, e2]; exact hk
theorem run_waits {r : Mh} {N : Nat} {x : Int} {K : Mh → Prop} (h : r 0 65 = N) (hN : N < 96) (hk : K (up (up r 26 N x) 0 65 (N + 1))) : wp_X14_waitsFor x r K := by
  unfold wp_X14_waitsFor
  rw [h]
  refine ⟨⟨by omega, by omega⟩, ?_⟩
  intro g1 e1
  rw [show g1 0 65 = N by rw [e1, up_other (by decide)]; exact h, w32_eq (by omega) (by omega)]
  intro g2 e2
  rw [e2, e1]; exact hk
