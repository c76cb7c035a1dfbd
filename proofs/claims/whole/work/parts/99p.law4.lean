/-! ===== an operand, read by both ===== -/
theorem yesSgnC {q : Mh} {v : Int} (h : q 49 8 = 4 ∧ q 49 10 = v) {K : Int → Mh → Prop} (hk : K 1 q) : wp_X10_isSign v q K := by
  unfold wp_X10_isSign
  rw [if_neg (fun y => y h.1), if_neg (fun y => y h.2)]; exact hk
theorem yesSgnR {r : Mh} {v : Int} (h : r 0 8 = 4 ∧ r 0 9 = v) {K : Int → Mh → Prop} (hk : K 1 r) : wp_X14_isSign v r K := by
  unfold wp_X14_isSign
  rw [if_neg (fun y => y h.1), if_neg (fun y => y h.2)]; exact hk
theorem noKeyR {r : Mh} {v : Int} (h : ¬ (r 0 8 = 1 ∧ r 0 9 = v)) {K : Int → Mh → Prop} (hk : K 0 r) : wp_X14_isKey v r K := by
  unfold wp_X14_isKey
  by_cases z : r 0 8 = 1
  · rw [if_neg (fun y => y z), if_pos (fun y => h ⟨z, y⟩)]; exact hk
  · rw [if_pos z]; exact hk
theorem yesKeyR {r : Mh} {v : Int} (h : r 0 8 = 1 ∧ r 0 9 = v) {K : Int → Mh → Prop} (hk : K 1 r) : wp_X14_isKey v r K := by
  unfold wp_X14_isKey
  rw [if_neg (fun y => y h.1), if_neg (fun y => y h.2)]; exact hk
theorem wrong_run {e : Int} {r : Mh} {K : Int → Mh → Prop} (h : wp_X14_wrong e r K) : K 0 (wgR e r) := by
  unfold wp_X14_wrong at h
  have := h _ rfl _ rfl
  rw [up_slot (by decide)] at this
  exact this
theorem run_leafC {q : Mh} {P c cc : Int} {k : Nat} (hp : isP P) (h1 : q 46 1 = P) (h4 : q (P + 37) 4 = k) (k64 : k < 64) (h14 : q 46 14 = c) (c0 : 0 ≤ c) (c1 : c < 64) {K : Int → Mh → Prop} (hk : K 1 (up (adC P k cc (q 49 10) (up q 46 14 (c + 1))) 46 15 1)) : wp_X9_readLeaf cc q K := by
  have hq := hp
  unfold isP at hq
  unfold wp_X9_readLeaf
  refine run_room h14 c0 c1 ?_
  rw [if_pos (by decide), show up q 46 14 (c + 1) 46 1 = P by rw [up_slot (by decide)]; exact h1]
  refine ⟨shC_P hp, ?_⟩
  refine run_add3 hp (by rw [up_other (by omega)]; exact h4) k64 ?_
  intro h3 e3
  rw [e3, show up q 46 14 (c + 1) 49 10 = q 49 10 by rw [up_other (by decide)]]; exact hk
theorem run_leafC0 {q : Mh} {cc : Int} (h14 : q 46 14 = 64) {K : Int → Mh → Prop} (hk : K 0 (rfC 2 q)) : wp_X9_readLeaf cc q K := by
  unfold wp_X9_readLeaf
  refine run_room0 h14 ?_
  rw [if_neg (by decide)]; exact hk
theorem tw_opd {B : Int → Int} {n : Int} {m : Nat} {q0 r0 qb rb : Mh} {P : Int} {a N H k : Nat} {q r : Mh} (h : LI B n m q0 r0 qb rb P a N H k q r) (hp : isP P) (eP : P = q0 46 1) (hb1 : qb 46 1 = P) (h69 : r 0 69 = 1) :
    (∃ q' r', PBad q0 r0 q' r' ∧ (∀ K : Int → Mh → Prop, K 0 q' → wp_X9_readOperand q K) ∧ (∀ K : Int → Mh → Prop, K 0 r' → wp_X14_leafRead r K)) ∨
    (a < m ∧ ∃ (N' H' k' : Nat) (q1 r1 : Mh), LI B n m q0 r0 qb rb P a N' H' k' q1 r1 ∧ (∀ K : Int → Mh → Prop, K 1 q1 → wp_X9_readOperand q K) ∧ (∀ K : Int → Mh → Prop, K 1 (tokR r1) → wp_X14_leafRead r K)) := by
  have hp0 : isP (q0 46 1) := by rw [← eP]; exact hp
  have hq := hp
  unfold isP at hq
  have h' := h
  obtain ⟨hT, hc, hr, f1, f2, f3, f4, ⟨c1, c2, c3, c4, c5, c6, c7, c8, c9, c10, c11, c12⟩, st, zc, bc, sum, mn, kn⟩ := h
  have q1P : q 46 1 = P := by rw [f2 1 (by decide)]; exact hb1
  have zr := zcn_r (r 26) N
  have br := bnn_r (r 26) N
  obtain ⟨s1, s2⟩ := hT.sgn (v := 19) (w := 40) (Or.inr (Or.inl ⟨rfl, rfl⟩))
  obtain ⟨n1, n2⟩ := hT.num
  obtain ⟨w1, w2⟩ := hT.word
  -- what neither takes
  have evil : ¬ (q 49 8 = 4 ∧ q 49 10 = 19) → ¬ q 49 8 = 1 → (r 0 8 = 1 → r 0 9 < 16 ∨ (r 0 9 = 16 ∧ r 0 70 = 0)) → (∃ q' r', PBad q0 r0 q' r' ∧ (∀ K : Int → Mh → Prop, K 0 q' → wp_X9_readOperand q K) ∧ (∀ K : Int → Mh → Prop, K 0 r' → wp_X14_leafRead r K)) := by
    intro y1 y2 y3
    refine ⟨_, _, PBad.of hT hc hr hp0 (e := 1) (by decide), fun K hk => ?_, fun K hk => ?_⟩
    · unfold wp_X9_readOperand
      rw [if_pos y2]
      refine noSgnC y1 ?_
      rw [if_pos rfl]
      refine run_wordCode hT ?_
      have l102 : ∀ cd : Int, (cd = 6 → 3 < tpF (r 26) N) → Lfp (F_X9_readOperand K) (102, [cd], q) := by
        intro cd hcd
        apply L_X9_readOperand_102
        unfold B_X9_readOperand_102
        by_cases z : cd = 6
        · rw [if_neg (fun y => y z)]
          refine run_top c1 (by omega) (fun j j0 j1 => (st j j0 j1).2.2) ?_
          rw [if_pos (hcd z)]
          exact run_refuse hk
        · rw [if_pos z]; exact run_refuse hk
      by_cases z : r 0 8 = 1
      · rw [if_pos z]
        rcases y3 z with u | ⟨u1, u2⟩
        · by_cases v1 : r 0 9 = 14
          · rw [show wcF (r 0 9) = 8 by unfold wcF; rw [if_pos v1], if_neg (by decide), if_pos (by decide)]; exact l102 8 (fun y => absurd y (by decide))
          · by_cases v2 : r 0 9 = 15
            · rw [show wcF (r 0 9) = 7 by unfold wcF; rw [if_neg v1, if_pos v2], if_neg (by decide), if_pos (by decide)]; exact l102 7 (fun y => absurd y (by decide))
            · rw [show wcF (r 0 9) = -1 by unfold wcF; rw [if_neg v1, if_neg v2, if_neg (by omega), if_neg (by omega)], if_pos (by decide)]; exact l102 (-1) (fun y => absurd y (by decide))
        · rw [show wcF (r 0 9) = 6 by rw [u1]; rfl, if_neg (by decide), if_pos (by decide)]
          exact l102 6 (fun _ => (mn h69).mp u2)
      · rw [if_neg z, if_pos (by decide)]; exact l102 (-1) (fun y => absurd y (by decide))
    · have l86 : Lfp (F_X14_leafRead K) (86, [], r) := by
        apply L_X14_leafRead_86
        unfold B_X14_leafRead_86 wp_X14_nameMet
        by_cases z : r 0 8 = 1
        · rw [if_neg (fun y => y z), if_pos (by rcases y3 z with u | u <;> omega)]
          dsimp only
          rw [if_neg (by decide), if_neg (by omega)]
          exact run_wrong hk
        · rw [if_pos z]
          dsimp only
          rw [if_neg (by decide), if_neg (fun y => y2 (n1.mpr y))]
          exact run_wrong hk
      unfold wp_X14_leafRead
      refine noSgnR (fun y => y1 (s1.mpr y)) ?_
      rw [if_pos rfl]
      by_cases z : r 0 8 = 1 ∧ r 0 9 = 16
      · refine yesKeyR z ?_
        rw [if_neg (by decide)]
        rcases y3 z.1 with u | u
        · omega
        · rw [if_pos u.2]; exact l86
      · refine noKeyR z ?_
        rw [if_pos rfl]; exact l86
  -- a leaf, for both
  have leaf : ∀ x pa cc v : Int, a < m → v = q 49 10 → cc = cdk x pa → ((x = 0 ∧ v = pa ∧ 0 ≤ pa ∧ pa ≤ 9999) ∨ (x = 1 ∧ 0 ≤ pa ∧ pa ≤ 4)) → (∀ K : Int → Mh → Prop, wp_X9_readLeaf cc q K → wp_X9_readOperand q K) → (∀ K : Int → Mh → Prop, wp_X14_isCounted r (fun x1 h1 => if ¬ x1 = 0 then (wp_X14_grown x pa 0 h1 (fun h1 => ∀ h2 : Mh, h2 = up h1 0 69 0 → wp_X14_token h2 (fun h3 => K 1 h3))) else (K 0 h1)) → wp_X14_leafRead r K) →
      (∃ q' r', PBad q0 r0 q' r' ∧ (∀ K : Int → Mh → Prop, K 0 q' → wp_X9_readOperand q K) ∧ (∀ K : Int → Mh → Prop, K 0 r' → wp_X14_leafRead r K)) ∨
      (a < m ∧ ∃ (N' H' k' : Nat) (q1 r1 : Mh), LI B n m q0 r0 qb rb P a N' H' k' q1 r1 ∧ (∀ K : Int → Mh → Prop, K 1 q1 → wp_X9_readOperand q K) ∧ (∀ K : Int → Mh → Prop, K 1 (tokR r1) → wp_X14_leafRead r K)) := by
    intro x pa cc v am ev ec hx goC goR
    by_cases z : r 0 68 < 64
    · right
      have li := h'.leaf hp eP h69 z ec hx
      refine ⟨am, _, _, _, _, _, li, fun K hk => goC K ?_, fun K hk => goR K ?_⟩
      · refine run_leafC hp q1P kn.1 (by omega) c8 c9 z ?_
        rw [← ev]; exact hk
      · refine run_counted rfl c9 z ?_
        rw [if_pos (by decide)]
        refine run_grown (k := k) (H := H) (by rw [up_slot (by decide)]; exact c4) (by rw [up_slot (by decide)]; exact c3) (by omega) (by omega) ?_
        intro h2 e2
        rw [e2]
        exact li.1.runR hk
    · left
      have e64 : r 0 68 = 64 := by omega
      refine ⟨_, _, PBad.of hT hc hr hp0 (e := 2) (by decide), fun K hk => goC K (run_leafC0 (by rw [c8]; exact e64) hk), fun K hk => goR K (run_counted0 e64 ?_)⟩
      rw [if_neg (by decide)]; exact hk
  by_cases z1 : q 49 8 = 4 ∧ q 49 10 = 19
  · -- a bracket
    have am := s2 z1
    have y1 := s1.mp z1
    have begC : ∀ K : Int → Mh → Prop, (if (q 46 13) < 8 then (∀ h4 : Mh, h4 = up q 46 13 (w32 ((q 46 13) + 1)) → wp_X9_hold 19 0 h4 (fun x4 h5 => K x4 h5)) else (wp_X9_refuse 2 q (fun x5 h6 => K x5 h6))) → wp_X9_readOperand q K := by
      intro K hk
      unfold wp_X9_readOperand
      rw [if_pos (by omega)]
      refine yesSgnC z1 ?_
      rw [if_neg (by decide)]; exact hk
    have begR : ∀ K : Int → Mh → Prop, (if ¬ (r 0 67) = 8 then (∀ h6 : Mh, h6 = up r 0 67 (w32 ((r 0 67) + 1)) → wp_X14_waitsFor 0 h6 (fun h7 => ∀ h8 : Mh, h8 = up h7 0 70 1 → wp_X14_token h8 (fun h9 => K 1 h9))) else (wp_X14_wrong 2 r (fun x4 h10 => K x4 h10))) → wp_X14_leafRead r K := by
      intro K hk
      unfold wp_X14_leafRead
      refine yesSgnR y1 ?_
      rw [if_neg (by decide)]; exact hk
    by_cases z : r 0 67 = 8
    · left
      refine ⟨_, _, PBad.of hT hc hr hp0 (e := 2) (by decide), fun K hk => begC K ?_, fun K hk => begR K ?_⟩
      · rw [if_neg (by omega)]; exact run_refuse hk
      · rw [if_neg (fun y => y z)]; exact run_wrong hk
    · right
      obtain ⟨qn, eqn⟩ : ∃ qn, qn = up (up (up (up q 46 13 (r 0 67 + 1)) 47 N 19) 48 N 0) 46 12 (N + 1) := ⟨_, rfl⟩
      obtain ⟨rn, ern⟩ : ∃ rn, rn = up (up (up (up r 0 67 (r 0 67 + 1)) 26 N 0) 0 65 (N + 1)) 0 70 1 := ⟨_, rfl⟩
      have r67 : rn 0 67 = r 0 67 + 1 := by rw [ern, up_slot (by decide), up_slot (by decide), up_other (by decide), up_self]
      have r68 : rn 0 68 = r 0 68 := by rw [ern, up_slot (by decide), up_slot (by decide), up_other (by decide), up_slot (by decide)]
      have hTn : PTok B n m a qn rn := by
        rw [eqn, ern]
        exact (((((((hT.upC (by decide)).upC (by decide)).upC (by decide)).upC (by decide)).up11 (by omega)).upR (by decide)).up11 (by omega)).up11 (by omega)
      have li : LI B n m q0 r0 qb rb P a (N + 1) H k qn rn := by
        refine h'.push (x := 0) hp (Or.inl rfl) hTn ?_ ?_ ?_ ?_ ?_ ?_ ?_ ?_ ?_ ?_ ?_ ?_ ?_ ?_ ?_ ?_ ?_ ?_ ?_ ?_ ?_
        · rw [eqn]; exact fxC_up (fxC_up (fxC_up (fxC_up hc (Or.inl (by omega)) hp0) (Or.inl (by omega)) hp0) (Or.inl (by omega)) hp0) (Or.inl (by omega)) hp0
        · rw [ern]; exact fxR_0 (fxR_0 (fxR_3 (fxR_0 hr (by omega)) (by omega)) (by omega)) (by omega)
        · intro o y; rw [eqn, up_other (by omega), up_other (by omega), up_other (by omega), up_other (by omega)]
        · intro j; rw [eqn, up_other (by decide), up_other (by decide), up_get, up_other (by decide)]; rfl
        · intro j; rw [eqn, up_other (by decide), up_get, up_other (by decide), up_other (by decide)]; rfl
        · intro j y; rw [eqn, up_slot (by omega), up_other (by decide), up_other (by decide), up_slot (by omega)]
        · rw [eqn, up_self]
        · rw [eqn, up_slot (by decide), up_other (by decide), up_other (by decide), up_self, r67]
        · rw [eqn, up_slot (by decide), up_other (by decide), up_other (by decide), up_slot (by decide), r68]; exact c8
        · rw [eqn, up_slot (by decide), up_other (by decide), up_other (by decide), up_slot (by decide), c12, h69]; decide
        · intro o y u; rw [ern, up_other y, up_other y, up_other u, up_other y]
        · intro j; rw [ern, up_other (by decide), up_other (by decide), up_get, up_other (by decide)]
        · intro j y u; rw [ern, up_slot (by omega), up_slot (by omega), up_other (by decide), up_slot (by omega)]
        · rw [ern, up_slot (by decide), up_self]
        · rw [ern, up_slot (by decide), up_slot (by decide), up_other (by decide), up_slot (by decide)]; exact h69
        · rw [r67, if_pos rfl]
        · rw [r68, if_pos rfl]; omega
        · rw [r67]; omega
        · rw [r68]; exact c10
        · rw [ern, up_self]; decide
        · rw [if_neg (by decide)]; omega
      refine ⟨am, N + 1, H, k, qn, rn, li, fun K hk => begC K ?_, fun K hk => begR K ?_⟩
      · rw [if_pos (by omega), c5, w32_eq (by omega) (by omega)]
        intro h4 e4
        rw [e4]
        refine run_hold (N := N) (by rw [up_slot (by decide)]; exact c1) (by omega) ?_
        rw [← eqn]; exact hk
      · rw [if_pos z, w32_eq (by omega) (by omega)]
        intro h6 e6
        rw [e6]
        refine run_waits (N := N) (by rw [up_slot (by decide)]; exact c2) (by omega) ?_
        intro h8 e8
        rw [e8, ← ern]
        exact hTn.runR hk
  · by_cases z2 : q 49 8 = 1
    · -- a number
      have y3 := n1.mp z2
      obtain ⟨am, v0, v1, u0, u1, vu⟩ := n2 z2
      have begR : ∀ K : Int → Mh → Prop, Lfp (F_X14_leafRead K) (109, [-1], r) → wp_X14_leafRead r K := by
        intro K hk
        unfold wp_X14_leafRead
        refine noSgnR (by omega) ?_
        rw [if_pos rfl]
        refine noKeyR (by omega) ?_
        rw [if_pos rfl]
        apply L_X14_leafRead_86
        unfold B_X14_leafRead_86 wp_X14_nameMet
        rw [if_pos (by omega)]
        dsimp only
        rw [if_neg (by decide), if_pos y3]
        exact hk
      by_cases z : q 49 10 ≤ 9999
      · have ev : q 49 10 = r 0 9 := by omega
        refine leaf 0 (r 0 9) 0 (r 0 9) am ev.symm rfl (Or.inl ⟨rfl, rfl, u0, by omega⟩) (fun K hk => ?_) (fun K hk => begR K ?_)
        · unfold wp_X9_readOperand
          rw [if_neg (fun y => y z2), if_pos z]; exact hk
        · apply L_X14_leafRead_109
          unfold B_X14_leafRead_109
          rw [if_neg (by decide), if_pos (by omega)]
          apply L_X14_leafRead_129
          unfold B_X14_leafRead_129
          by_cases t : r 0 68 < 64
          · refine run_counted rfl c9 t ?_
            rw [if_pos (by decide), if_pos (by decide)]
            apply L_X14_leafRead_148
            unfold B_X14_leafRead_148
            rw [if_pos (by decide)]
            unfold wp_X14_isCounted at hk
            rw [if_pos (by omega), w32_eq (by omega) (by omega)] at hk
            have hk2 := hk _ rfl
            dsimp only at hk2
            rw [if_pos (by decide)] at hk2
            rw [show up r 0 68 (r 0 68 + 1) 0 9 = r 0 9 by rw [up_slot (by decide)]]
            exact hk2
          · have e64 : r 0 68 = 64 := by omega
            refine run_counted0 e64 ?_
            rw [if_neg (by decide)]
            unfold wp_X14_isCounted at hk
            rw [if_neg (fun y => y e64)] at hk
            have hk2 := wrong_run hk
            dsimp only at hk2
            rw [if_neg (by decide)] at hk2
            exact hk2
      · left
        refine ⟨_, _, PBad.of hT hc hr hp0 (e := 2) (by decide), fun K hk => ?_, fun K hk => begR K ?_⟩
        · unfold wp_X9_readOperand
          rw [if_neg (fun y => y z2), if_neg z]; exact run_refuse hk
        · apply L_X14_leafRead_109
          unfold B_X14_leafRead_109
          rw [if_neg (by decide), if_neg (by omega)]
          exact run_wrong hk
    · by_cases z3 : r 0 8 = 1 ∧ (17 ≤ r 0 9 ∨ (r 0 9 = 16 ∧ ¬ r 0 70 = 0))
      · have y3 := w1.mpr z3.1
        obtain ⟨am, i0, i1, i2⟩ := w2 y3
        rcases z3.2 with u | ⟨u1, u2⟩
        · -- a name
          refine leaf 1 (r 0 9 - 17) (r 0 9 - 16) (q 49 10) am rfl ?_ (Or.inr ⟨rfl, by omega, by omega⟩) (fun K hk => ?_) (fun K hk => ?_)
          · unfold cdk; rw [if_neg (by decide), if_pos rfl]; omega
          · unfold wp_X9_readOperand
            rw [if_pos z2]
            refine noSgnC z1 ?_
            rw [if_pos rfl]
            refine run_wordCode hT ?_
            rw [if_pos z3.1]
            rw [show wcF (r 0 9) = r 0 9 - 16 by unfold wcF; rw [if_neg (by omega), if_neg (by omega), if_neg (by omega), if_pos u], if_neg (by omega), if_neg (by omega)]
            exact hk
          · unfold wp_X14_leafRead
            refine noSgnR (by omega) ?_
            rw [if_pos rfl]
            refine noKeyR (by omega) ?_
            rw [if_pos rfl]
            apply L_X14_leafRead_86
            unfold B_X14_leafRead_86 wp_X14_nameMet
            rw [if_neg (fun y => y z3.1), if_neg (by omega), w32_eq (by omega) (by omega)]
            dsimp only
            rw [if_pos (by omega)]
            apply L_X14_leafRead_109
            unfold B_X14_leafRead_109
            rw [if_pos (by omega)]
            apply L_X14_leafRead_129
            unfold B_X14_leafRead_129
            by_cases t : r 0 68 < 64
            · refine run_counted rfl c9 t ?_
              rw [if_pos (by decide), if_neg (by omega)]
              apply L_X14_leafRead_148
              unfold B_X14_leafRead_148
              rw [if_neg (by omega)]
              unfold wp_X14_isCounted at hk
              rw [if_pos (by omega), w32_eq (by omega) (by omega)] at hk
              have hk2 := hk _ rfl
              dsimp only at hk2
              rw [if_pos (by decide)] at hk2
              exact hk2
            · have e64 : r 0 68 = 64 := by omega
              refine run_counted0 e64 ?_
              rw [if_neg (by decide)]
              unfold wp_X14_isCounted at hk
              rw [if_neg (fun y => y e64)] at hk
              have hk2 := wrong_run hk
              dsimp only at hk2
              rw [if_neg (by decide)] at hk2
              exact hk2
        · -- not
          have tp : ¬ 3 < tpF (r 26) N := fun y => u2 ((mn h69).mpr y)
          have begC : ∀ K : Int → Mh → Prop, wp_X9_isRoomForKnot q (fun x4 h4 => if x4 = 0 then (K 0 h4) else (wp_X9_hold 6 3 h4 (fun x5 h5 => if x5 = 0 then (K 0 h5) else (K 1 h5)))) → wp_X9_readOperand q K := by
            intro K hk
            unfold wp_X9_readOperand
            rw [if_pos z2]
            refine noSgnC z1 ?_
            rw [if_pos rfl]
            refine run_wordCode hT ?_
            rw [if_pos z3.1]
            rw [show wcF (r 0 9) = 6 by rw [u1]; rfl, if_neg (by decide), if_pos (by decide)]
            apply L_X9_readOperand_102
            unfold B_X9_readOperand_102
            rw [if_neg (by decide)]
            refine run_top c1 (by omega) (fun j j0 j1 => (st j j0 j1).2.2) ?_
            rw [if_neg tp]; exact hk
          have begR : ∀ K : Int → Mh → Prop, wp_X14_isCounted r (fun x3 h3 => if ¬ x3 = 0 then (wp_X14_waitsFor 2 h3 (fun h4 => wp_X14_token h4 (fun h5 => K 1 h5))) else (K 0 h3)) → wp_X14_leafRead r K := by
            intro K hk
            unfold wp_X14_leafRead
            refine noSgnR (by omega) ?_
            rw [if_pos rfl]
            refine yesKeyR ⟨z3.1, u1⟩ ?_
            rw [if_neg (by decide), if_neg u2]; exact hk
          by_cases t : r 0 68 < 64
          · right
            obtain ⟨qn, eqn⟩ : ∃ qn, qn = up (up (up (up q 46 14 (r 0 68 + 1)) 47 N 6) 48 N 3) 46 12 (N + 1) := ⟨_, rfl⟩
            obtain ⟨rn, ern⟩ : ∃ rn, rn = up (up (up r 0 68 (r 0 68 + 1)) 26 N 2) 0 65 (N + 1) := ⟨_, rfl⟩
            have r67 : rn 0 67 = r 0 67 := by rw [ern, up_slot (by decide), up_other (by decide), up_slot (by decide)]
            have r68 : rn 0 68 = r 0 68 + 1 := by rw [ern, up_slot (by decide), up_other (by decide), up_self]
            have hTn : PTok B n m a qn rn := by
              rw [eqn, ern]
              exact ((((((hT.upC (by decide)).upC (by decide)).upC (by decide)).upC (by decide)).up11 (by omega)).upR (by decide)).up11 (by omega)
            have li : LI B n m q0 r0 qb rb P a (N + 1) H k qn rn := by
              refine h'.push (x := 2) hp (Or.inr (by decide)) hTn ?_ ?_ ?_ ?_ ?_ ?_ ?_ ?_ ?_ ?_ ?_ ?_ ?_ ?_ ?_ ?_ ?_ ?_ ?_ ?_ ?_
              · rw [eqn]; exact fxC_up (fxC_up (fxC_up (fxC_up hc (Or.inl (by omega)) hp0) (Or.inl (by omega)) hp0) (Or.inl (by omega)) hp0) (Or.inl (by omega)) hp0
              · rw [ern]; exact fxR_0 (fxR_3 (fxR_0 hr (by omega)) (by omega)) (by omega)
              · intro o y; rw [eqn, up_other (by omega), up_other (by omega), up_other (by omega), up_other (by omega)]
              · intro j; rw [eqn, up_other (by decide), up_other (by decide), up_get, up_other (by decide)]; rfl
              · intro j; rw [eqn, up_other (by decide), up_get, up_other (by decide), up_other (by decide)]; rfl
              · intro j y; rw [eqn, up_slot (by omega), up_other (by decide), up_other (by decide), up_slot (by omega)]
              · rw [eqn, up_self]
              · rw [eqn, up_slot (by decide), up_other (by decide), up_other (by decide), up_slot (by decide), r67]; exact c5
              · rw [eqn, up_slot (by decide), up_other (by decide), up_other (by decide), up_self, r68]
              · rw [eqn, up_slot (by decide), up_other (by decide), up_other (by decide), up_slot (by decide), c12, h69]; decide
              · intro o y u; rw [ern, up_other y, up_other u, up_other y]
              · intro j; rw [ern, up_other (by decide), up_get, up_other (by decide)]
              · intro j y u; rw [ern, up_slot (by omega), up_other (by decide), up_slot (by omega)]
              · rw [ern, up_self]
              · rw [ern, up_slot (by decide), up_other (by decide), up_slot (by decide)]; exact h69
              · rw [r67, if_neg (by decide)]; omega
              · rw [r68, if_neg (by decide)]
              · rw [r67]; exact c7
              · rw [r68]; omega
              · rw [ern, up_slot (by decide), up_other (by decide), up_slot (by decide)]
                exact ⟨fun y => absurd y u2, fun y => absurd y (by decide)⟩
              · rw [if_neg (by decide)]; omega
            refine ⟨am, N + 1, H, k, qn, rn, li, fun K hk => begC K ?_, fun K hk => begR K ?_⟩
            · refine run_room c8 c9 t ?_
              rw [if_neg (by decide)]
              refine run_hold (N := N) (by rw [up_slot (by decide)]; exact c1) (by omega) ?_
              rw [if_neg (by decide), ← eqn]; exact hk
            · refine run_counted rfl c9 t ?_
              rw [if_pos (by decide)]
              refine run_waits (N := N) (by rw [up_slot (by decide)]; exact c2) (by omega) ?_
              rw [← ern]
              exact hTn.runR hk
          · left
            have e64 : r 0 68 = 64 := by omega
            refine ⟨_, _, PBad.of hT hc hr hp0 (e := 2) (by decide), fun K hk => begC K (run_room0 (by rw [c8]; exact e64) ?_), fun K hk => begR K (run_counted0 e64 ?_)⟩
            · rw [if_pos rfl]; exact hk
            · rw [if_neg (by decide)]; exact hk
      · left
        refine evil z1 z2 (fun y => ?_)
        by_cases t : r 0 9 < 16
        · exact Or.inl t
        · right
          by_cases u : 17 ≤ r 0 9
          · exact absurd ⟨y, Or.inl u⟩ z3
          · refine ⟨by omega, ?_⟩
            by_cases v : r 0 70 = 0
            · exact v
            · exact absurd ⟨y, Or.inr ⟨by omega, v⟩⟩ z3
