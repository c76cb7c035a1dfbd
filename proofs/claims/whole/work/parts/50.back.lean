/-! ===== undo, keep, back ===== -/
theorem op_undo {q r : Mh} (h : Rel q r) : wp_X13_undo q (fun x q' => wp_X14_undo r (fun y r' => x = y ∧ Rel q' r')) := by
  have hd := h.1.2.2.1.1
  have hg := h.1.2.2.2.1
  have hm := szs_mul hd.2.2.2.2.1.1
  have hs := hd.2.2.2.2.1.1
  have hD := h.1.2.2.2.2.1
  have hU := h.1.2.2.2.2.2.2.1
  have hI := h.1.2.2.2.2.2.1
  have hM := h.1.2.2.2.2.2.2.2.2
  have h0 : Rel q (up r 0 2 0) := h.thrown (sameR.thrown r)
  have er : ∀ o, o ≠ 0 → up r 0 2 0 o = r o := fun o ho => up_other ho
  have e0 : ∀ j, j ≠ 2 → up r 0 2 0 0 j = r 0 j := fun j hj => up_slot hj
  unfold wp_X13_undo wp_X11_undoLatest
  have u0 := hU.2.1
  have u1 := hU.2.2.1
  rw [hU.1]
  by_cases k : 1 ≤ r 0 82
  · rw [if_pos k, w32_eq (by omega) (by omega)]
    intro g1 e1
    have f1 : g1 53 7 = r 0 82 - 1 := by rw [e1, up_self]
    rw [f1]
    refine ⟨⟨by omega, by omega⟩, ?_⟩
    obtain ⟨c1, c2⟩ := hU.2.2.2.1 (r 0 82 - 1) (by omega) (by omega)
    intro x ex
    rw [e1, up_other (by decide), c1] at ex
    have cnt : cnt1 (r 33) (-1) (r 0 82).toNat 0 = cnt1 (r 33) (-1) (r 0 82 - 1).toNat 0 + (if r 33 (r 0 82 - 1) = -1 then 1 else 0) := by
      rw [show (r 0 82).toNat = (r 0 82 - 1).toNat + 1 by omega, cnt1_snoc, show (0 : Int) + ((r 0 82 - 1).toNat : Int) = r 0 82 - 1 by omega]
    have cpos := cnt1_le (f := r 33) (v := -1) (r 0 82 - 1).toNat 0
    have hc5 := hU.2.2.2.2
    -- the reference up to its branch
    have ref0 : ∀ {K : Int → Mh → Prop}, (∀ s2, s2 = up (up r 0 2 0) 0 82 (r 0 82 - 1) → if 0 ≤ r 33 (r 0 82 - 1) then (((0 : Int) ≤ r 0 82 - 1 ∧ r 0 82 - 1 < (20 : Int)) ∧ ((0 : Int) ≤ r 33 (r 0 82 - 1) ∧ r 33 (r 0 82 - 1) < (96 : Int)) ∧ ∀ h3 : Mh, h3 = up s2 5 (r 33 (r 0 82 - 1)) 1 → wp_X14_layWays h3 (fun h4 => K (h4 0 82) h4)) else (∀ h5 : Mh, h5 = up s2 0 76 (w32 (r 0 76 - 1)) → K (h5 0 82) h5)) → wp_X14_undo r K := by
      intro K hK
      unfold wp_X14_undo
      intro r1 er1
      subst er1
      rw [e0 82 (by decide), if_pos (by omega), w32_eq (by omega) (by omega)]
      intro s2 es2
      have m2 : s2 0 82 = r 0 82 - 1 := by rw [es2, up_self]
      have m3 : s2 33 = r 33 := by rw [es2, up_other (by decide), er 33 (by decide)]
      have m4 : s2 0 76 = r 0 76 := by rw [es2, up_slot (by decide), e0 76 (by decide)]
      rw [m2, m3, m4]
      exact ⟨⟨by omega, by omega⟩, hK s2 es2⟩
    by_cases kx : x = -1
    · rw [if_neg (fun z => z kx)]
      have k33 : r 33 (r 0 82 - 1) = -1 := by omega
      rw [k33, if_pos rfl] at cnt
      unfold wp_X1_removeLast
      have g98 : g1 98 3 = r 0 76 := by rw [e1, up_other (by decide)]; exact hD.1
      have d16 := hD.2.2.1
      rw [g98, if_neg (by omega), w32_eq (by omega) (by omega)]
      intro g3 e3 g4 e4
      have g7 : g4 53 7 = r 0 82 - 1 := by rw [e4, up_slot (by decide), e3, up_other (by decide)]; exact f1
      rw [g7]
      refine ref0 ?_
      intro s2 es2
      rw [k33, if_neg (by decide), w32_eq (by omega) (by omega)]
      intro s5 es5
      have m7 : s5 0 82 = r 0 82 - 1 := by rw [es5, up_slot (by decide), es2, up_self]
      rw [m7]
      have FD : frD q g4 := by
        intro o j h1 h2
        rw [e4, up_ne _ (by omega), e3, up_ne _ (by omega), e1, up_ne _ (by omega)]
      have FE : frE r s5 := by
        intro o j h1 h2
        rw [es5, up_ne _ (by omega), es2, up_ne _ (by omega), up_ne _ (by omega)]
      have rw5 : ∀ o, o ≠ 0 → s5 o = r o := by
        intro o ho
        rw [es5, up_other ho, es2, up_other ho, er o ho]
      have h5 : ∀ d, 0 ≤ d → d < 48 → (s5 5 d = 2 ↔ r 5 d = 2) := fun d _ _ => by rw [rw5 5 (by decide)]
      have hR := FE.ref h5
      have hP := FD.pond hd.1
      have q53 : ∀ j, j ≠ 7 → j ≠ 9 → g4 53 j = q 53 j := by
        intro j h1 h2
        rw [e4, up_slot h2, e3, up_other (by decide), e1, up_slot h1]
      have rows : ∀ o, o ≠ 53 → o ≠ 98 → g4 o = q o := by
        intro o h1 h2
        rw [e4, up_other h1, e3, up_other h2, e1, up_other h1]
      have m76 : s5 0 76 = r 0 76 - 1 := by rw [es5, up_self]
      have s0 : ∀ j, j ≠ 2 → j ≠ 76 → j ≠ 82 → s5 0 j = r 0 j := by
        intro j h1 h2 h3
        rw [es5, up_slot h2, es2, up_slot h3, e0 j h1]
      refine ⟨rfl, ?_, ?_, ?_⟩
      · refine h.1.ofD FD FE h5 (hg.same hP (q53 1 (by decide) (by decide)) hR (fun c _ _ => by rw [rw5 5 (by decide)])) ?_ ?_ ?_ ?_
        · refine ⟨by rw [e4, up_other (by decide), e3, up_self, m76], by rw [m76]; omega, by rw [m76]; omega, fun d d0 d1 => ?_⟩
          rw [m76] at d1
          rw [rows 99 (by decide) (by decide), rows 100 (by decide) (by decide), rows 101 (by decide) (by decide), rw5 17 (by decide), rw5 18 (by decide), rw5 19 (by decide)]
          obtain ⟨p1, p2, p3, p4⟩ := hD.2.2.2 d d0 (by omega)
          exact ⟨p1, p2, p3, p4.same hd.2.2.2.2.1 hR⟩
        · exact hI.same hd.2.2.2.2.1 hP hR (q53 4 (by decide) (by decide)) (q53 5 (by decide) (by decide)) (fun o h1 h2 => rows o (by omega) (by omega)) (s0 96 (by decide) (by decide) (by decide)) (s0 97 (by decide) (by decide) (by decide)) (rw5 39 (by decide)) (rw5 40 (by decide))
        · refine ⟨by rw [g7, m7], by rw [m7]; omega, by rw [m7]; omega, fun i i0 i1 => ?_, ?_⟩
          · rw [m7] at i1
            rw [rows 106 (by decide) (by decide), rw5 33 (by decide)]
            have := hU.2.2.2.1 i i0 (by omega)
            exact ⟨this.1, this.2.imp id (fun y => (hR.wr hd.2.2.2.2.1).mpr y)⟩
          · rw [m7, rw5 33 (by decide), m76]; omega
        · exact wayR_congr hR.1 (rw5 5 (by decide)) (rw5 30 (by decide)) (rw5 31 (by decide)) hM.2.1
      · intro z8
        rw [q53 8 (by decide) (by decide)] at z8
        exact waysOK_congr (q53 0 (by decide) (by decide)) (q53 1 (by decide) (by decide)) (hP.2 _ (by omega) (by omega)) (FD.row (by decide) (by decide)) (FD.row (by decide) (by decide)) (FD.row (by decide) (by decide)) (h.2.1 z8)
      · intro z9
        rw [e4, up_self] at z9
        exact absurd z9 (by decide)
    · rw [if_pos kx]
      have hw : watR r x := by
        rcases c2 with z | z
        · exact absurd (by omega) kx
        · rw [ex]; exact z
      rw [← ex] at cnt
      rw [if_neg kx] at cnt
      have x0 := hw.1
      have x1 := hw.2.1
      unfold wp_X11_changeReeds
      intro g2 e2 g3 e3 g4 e4
      have g11 : g1 53 1 = q 53 1 := by rw [e1, up_slot (by decide)]
      rw [g11] at e2
      have g7 : g4 53 7 = r 0 82 - 1 := by rw [e4, up_slot (by decide), e3, up_slot (by decide), e2, up_slot (by decide)]; exact f1
      rw [g7]
      refine ref0 ?_
      intro s2 es2
      rw [← ex, if_pos x0]
      refine ⟨⟨by omega, by omega⟩, ⟨x0, by omega⟩, ?_⟩
      intro s6 u6
      have p6 : prm s6 := prm_of hd.2.2.2.2.1 (fun j j0 j1 => by rw [u6, up_other (by decide), es2, up_slot (by omega), e0 j (by omega)])
      refine sp_layWays p6 ?_
      have t0 : ∀ j, wayT s6 0 j = s6 0 j := fun j => by rw [wayT_ne s6 (by decide) (by decide)]
      have m7 : wayT s6 0 82 = r 0 82 - 1 := by rw [t0, u6, up_other (by decide), es2, up_self]
      rw [m7]
      have FD : frD q g4 := by
        intro o j h1 h2
        rw [e4, up_ne _ (by omega), e3, up_ne _ (by omega), e2, up_ne _ (by omega), e1, up_ne _ (by omega)]
      have FE : frE r (wayT s6) := by
        intro o j h1 h2
        rw [wayT_ne s6 (by omega) (by omega), u6, up_other (by omega), es2, up_ne _ (by omega), up_ne _ (by omega)]
      have v5 : ∀ j, wayT s6 5 j = if j = x then 1 else r 5 j := by
        intro j
        rw [wayT_ne s6 (by decide) (by decide), u6]
        by_cases z : j = x
        · rw [if_pos z, z, up_self]
        · rw [if_neg z, up_slot z, es2, up_other (by decide), er 5 (by decide)]
      have h5 : ∀ d, 0 ≤ d → d < 48 → (wayT s6 5 d = 2 ↔ r 5 d = 2) := by
        intro d _ _
        rw [v5]
        by_cases z : d = x
        · rw [if_pos z, z]
          exact ⟨fun y => absurd y (by decide), fun y => absurd y hw.2.2⟩
        · rw [if_neg z]
      have hR := FE.ref h5
      have hP := FD.pond hd.1
      have row9 : ∀ o, o ≠ 5 → o ≠ 30 → o ≠ 31 → o ≠ 0 → wayT s6 o = r o := by
        intro o h1 h2 h3 h5
        rw [wayT_ne s6 h2 h3, u6, up_other h1, es2, up_other h5, er o h5]
      have rows : ∀ o, o ≠ 53 → g4 o = q o := by
        intro o h1
        rw [e4, up_other h1, e3, up_other h1, e2, up_other h1, e1, up_other h1]
      have q53 : ∀ j, j ≠ 7 → j ≠ 1 → j ≠ 8 → j ≠ 9 → g4 53 j = q 53 j := by
        intro j h1 h2 h3 h4
        rw [e4, up_slot h4, e3, up_slot h3, e2, up_slot h2, e1, up_slot h1]
      have q531 : g4 53 1 = j_lor (q 53 1) (j_lshl 1 x) := by
        rw [e4, up_slot (by decide), e3, up_slot (by decide), e2, up_self]
      have pq : g4 (q 53 0) = q (q 53 0) := hP.2 _ (by omega) (by omega)
      have lnd : bit (q (q 53 0) 2) x = false := by
        have := hg.1 x x0 (by omega)
        by_cases z : bit (q (q 53 0) 2) x = true
        · exact absurd (by rw [this]; exact cg_2.mpr z) hw.2.2
        · simpa using z
      have m0 : ∀ j, j ≠ 2 → j ≠ 82 → wayT s6 0 j = r 0 j := by
        intro j h1 h2
        rw [t0, u6, up_other (by decide), es2, up_slot h2, e0 j h1]
      refine ⟨rfl, ?_, ?_, ?_⟩
      · refine h.1.ofD FD FE h5 ⟨fun d d0 d1 => ?_, fun d d0 d1 => ?_, fun d d0 d1 => ?_⟩ ?_ ?_ ?_ (wayR_wayT s6)
        · rw [v5]
          unfold cg
          rw [hP.1, pq, q531, bit_add x0 (by omega) d0 (by omega)]
          by_cases z : d = x
          · rw [if_pos z, z, lnd]
            simp
          · rw [if_neg z, hg.1 d d0 d1]
            unfold cg
            simp [z]
        · rw [hP.1, pq, hR.1 12 (by decide) (by decide), hR.1 13 (by decide) (by decide)]
          exact hg.2.1 d d0 d1
        · rw [hP.1, pq, q531, bit_add x0 (by omega) d0 d1, hR.1 12 (by decide) (by decide), hR.1 13 (by decide) (by decide)]
          intro z
          by_cases y : d = x
          · rw [y]; exact ⟨x1, lnd⟩
          · simp [y] at z
            exact hg.2.2 d d0 d1 z
        · exact hD.same hd.2.2.2.2.1 (fun o h1 h2 => rows o (by omega)) hR (m0 76 (by decide) (by decide)) (fun o h1 h2 => row9 o (by omega) (by omega) (by omega) (by omega))
        · exact hI.same hd.2.2.2.2.1 hP hR (q53 4 (by decide) (by decide) (by decide) (by decide)) (q53 5 (by decide) (by decide) (by decide) (by decide)) (fun o h1 h2 => rows o (by omega)) (m0 96 (by decide) (by decide)) (m0 97 (by decide) (by decide)) (row9 39 (by decide) (by decide) (by decide) (by decide)) (row9 40 (by decide) (by decide) (by decide) (by decide))
        · refine ⟨by rw [g7, m7], by rw [m7]; omega, by rw [m7]; omega, fun i i0 i1 => ?_, ?_⟩
          · rw [m7] at i1
            rw [rows 106 (by decide), row9 33 (by decide) (by decide) (by decide) (by decide)]
            have := hU.2.2.2.1 i i0 (by omega)
            exact ⟨this.1, this.2.imp id (fun y => (hR.wr hd.2.2.2.2.1).mpr y)⟩
          · rw [m7, row9 33 (by decide) (by decide) (by decide) (by decide), m0 76 (by decide) (by decide)]; omega
      · intro z8
        rw [e4, up_slot (by decide), e3, up_self] at z8
        exact absurd z8 (by decide)
      · intro z9
        rw [e4, up_self] at z9
        exact absurd z9 (by decide)
  · rw [if_neg k]
    unfold wp_X14_undo
    intro r1 er1
    subst er1
    rw [e0 82 (by decide), if_neg (fun z => z (by omega))]
    exact ⟨rfl, h0⟩
theorem sp_keepR {r : Mh} {K : Int → Mh → Prop} (hk : ∀ s, (∀ o j, o ≠ 39 → o ≠ 40 → ¬ (o = 0 ∧ (j = 2 ∨ j = 96 ∨ j = 97)) → s o j = r o j) → s 0 96 = 1 → s 0 97 = r 0 76 → (∀ c, 0 ≤ c → c < 48 → s 39 c = r 5 c) → (∀ d, 0 ≤ d → d < 16 → s 40 (3 * d) = r 17 d ∧ s 40 (3 * d + 1) = r 18 d ∧ s 40 (3 * d + 2) = r 19 d) → K (r 0 76) s) : wp_X14_keep r K := by
  unfold wp_X14_keep
  intro r1 e1 r2 e2 r3 e3
  have f3 : ∀ o j, ¬ (o = 0 ∧ (j = 2 ∨ j = 96 ∨ j = 97)) → r3 o j = r o j := by
    intro o j ho
    rw [e3, up_ne _ (by omega), e2, up_ne _ (by omega), e1, up_ne _ (by omega)]
  have m96 : r3 0 96 = 1 := by rw [e3, up_slot (by decide), e2, up_self]
  have m97 : r3 0 97 = r 0 76 := by rw [e3, up_self, e2, up_slot (by decide), e1, up_slot (by decide)]
  have l2 : ∀ (n : Nat) (i : Int) (s : Mh), 0 ≤ i → i + n = 16 → (∀ o j, o ≠ 39 → o ≠ 40 → s o j = r3 o j) → (∀ c, 0 ≤ c → c < 48 → s 39 c = r 5 c) → (∀ d, 0 ≤ d → d < i → s 40 (3 * d) = r 17 d ∧ s 40 (3 * d + 1) = r 18 d ∧ s 40 (3 * d + 2) = r 19 d) → Lfp (F_X14_keep K) (46, [i], s) := by
    intro n
    induction n with
    | zero =>
      intro i s i0 hn hs h39 h40
      apply L_X14_keep_46
      unfold B_X14_keep_46
      rw [if_pos (by omega), hs 0 76 (by decide) (by decide), f3 0 76 (by decide)]
      exact hk s (fun o j a b c => by rw [hs o j a b, f3 o j c]) (by rw [hs 0 96 (by decide) (by decide)]; exact m96) (by rw [hs 0 97 (by decide) (by decide)]; exact m97) h39 (fun d d0 d1 => h40 d d0 (by omega))
    | succ n ih =>
      intro i s i0 hn hs h39 h40
      apply L_X14_keep_46
      unfold B_X14_keep_46
      rw [if_neg (by omega), w32_eq (x := 3 * i) (by omega) (by omega), w32_eq (x := 3 * i + 1) (by omega) (by omega), w32_eq (x := 3 * i + 2) (by omega) (by omega)]
      refine ⟨⟨i0, by omega⟩, ⟨by omega, by omega⟩, ?_⟩
      intro s1 u1
      refine ⟨⟨i0, by omega⟩, ⟨by omega, by omega⟩, ?_⟩
      intro s2 u2
      refine ⟨⟨i0, by omega⟩, ⟨by omega, by omega⟩, ?_⟩
      intro s3 u3 x ex
      rw [w32_eq (by omega) (by omega)] at ex
      subst ex
      have v17 : s 17 i = r 17 i := by rw [hs 17 i (by decide) (by decide), f3 17 i (by omega)]
      have v18 : s1 18 i = r 18 i := by rw [u1, up_other (by decide), hs 18 i (by decide) (by decide), f3 18 i (by omega)]
      have v19 : s2 19 i = r 19 i := by rw [u2, up_other (by decide), u1, up_other (by decide), hs 19 i (by decide) (by decide), f3 19 i (by omega)]
      rw [v17] at u1
      rw [v18] at u2
      rw [v19] at u3
      refine ih (i + 1) s3 (by omega) (by omega) (fun o j a b => by rw [u3, up_other b, u2, up_other b, u1, up_other b, hs o j a b]) (fun c c0 c1 => by rw [u3, up_other (by decide), u2, up_other (by decide), u1, up_other (by decide), h39 c c0 c1]) (fun d d0 d1 => ?_)
      by_cases z : d = i
      · rw [z]
        refine ⟨?_, ?_, ?_⟩
        · rw [u3, up_slot (by omega), u2, up_slot (by omega), u1, up_self]
        · rw [u3, up_slot (by omega), u2, up_self]
        · rw [u3, up_self]
      · have e : ∀ j, j < 3 * i → s3 40 j = s 40 j := by
          intro j hj
          rw [u3, up_slot (by omega), u2, up_slot (by omega), u1, up_slot (by omega)]
        rw [e _ (by omega), e _ (by omega), e _ (by omega)]
        exact h40 d d0 (by omega)
  have l1 : ∀ (n : Nat) (i : Int) (s : Mh), 0 ≤ i → i + n = 48 → (∀ o j, o ≠ 39 → s o j = r3 o j) → (∀ c, 0 ≤ c → c < i → s 39 c = r 5 c) → Lfp (F_X14_keep K) (20, [i], s) := by
    intro n
    induction n with
    | zero =>
      intro i s i0 hn hs h39
      apply L_X14_keep_20
      unfold B_X14_keep_20
      rw [if_pos (by omega)]
      exact l2 16 0 s (by omega) (by omega) (fun o j a _ => hs o j a) (fun c c0 c1 => h39 c c0 (by omega)) (fun d d0 d1 => by omega)
    | succ n ih =>
      intro i s i0 hn hs h39
      apply L_X14_keep_20
      unfold B_X14_keep_20
      rw [if_neg (by omega)]
      refine ⟨⟨i0, by omega⟩, ⟨by omega, by omega⟩, ?_⟩
      intro s1 u1 x ex
      rw [w32_eq (by omega) (by omega)] at ex
      subst ex
      rw [hs 5 i (by decide), f3 5 i (by omega)] at u1
      refine ih (i + 1) s1 (by omega) (by omega) (fun o j a => by rw [u1, up_other a, hs o j a]) (fun c c0 c1 => ?_)
      rw [u1]
      by_cases z : c = i
      · rw [z, up_self]
      · rw [up_slot z, h39 c c0 (by omega)]
  exact l1 48 0 r3 (by omega) (by omega) (fun _ _ _ => rfl) (fun c a b => by omega)
theorem op_keep {q r : Mh} (h : Rel q r) : wp_X13_keep q (fun x q' => wp_X14_keep r (fun y r' => x = y ∧ Rel q' r')) := by
  have hd := h.1.2.2.1.1
  have hg := h.1.2.2.2.1
  have hm := szs_mul hd.2.2.2.2.1.1
  have hD := h.1.2.2.2.2.1
  have hU := h.1.2.2.2.2.2.2.1
  have hM := h.1.2.2.2.2.2.2.2.2
  have d0 := hD.2.1
  have d1 := hD.2.2.1
  unfold wp_X13_keep wp_X11_keepImage
  have s16 : (shC (98 + 1)).2 = 16 ∧ (shC (98 + 2)).2 = 16 ∧ (shC (98 + 3)).2 = 16 ∧ (shC (102 + 1)).2 = 16 ∧ (shC (102 + 2)).2 = 16 ∧ (shC (102 + 3)).2 = 16 := by decide
  have hD1 := hD.1
  refine sp_copyOf rfl (by decide) (by rw [hD.1]; exact d0) (by rw [hD.1]; omega) (by rw [hD.1, s16.1]; exact d1) (by rw [hD.1, s16.2.1]; exact d1) (by rw [hD.1, s16.2.2.1]; exact d1) (by rw [hD.1, s16.2.2.2.1]; exact d1) (by rw [hD.1, s16.2.2.2.2.1]; exact d1) (by rw [hD.1, s16.2.2.2.2.2]; exact d1) ?_
  intro g2 e2 g3 e3
  have c0 : ∀ o j, ¬ (102 ≤ o ∧ o ≤ 105) → dcopy q 102 98 o j = q o j := by
    intro o j ho
    unfold dcopy
    rw [if_neg (by omega), if_neg (by omega), if_neg (by omega), if_neg (by omega)]
  have FD : frD q g3 := by
    intro o j h1 h2
    rw [e3, up_ne _ (by omega), e2, up_ne _ (by omega), c0 o j (by omega)]
  have q53 : ∀ j, j ≠ 4 → j ≠ 5 → g3 53 j = q 53 j := by
    intro j h1 h2
    rw [e3, up_slot h2, e2, up_slot h1, c0 53 j (by decide)]
  have q534 : g3 53 4 = q 53 1 := by rw [e3, up_slot (by decide), e2, up_self, c0 53 1 (by decide)]
  have rows : ∀ o, o ≠ 53 → ¬ (102 ≤ o ∧ o ≤ 105) → g3 o = q o := by
    intro o h1 h2
    funext j
    rw [e3, up_other h1, e2, up_other h1, c0 o j h2]
  have g98 : g3 98 3 = r 0 76 := by rw [rows 98 (by decide) (by decide)]; exact hD.1
  rw [g98]
  refine sp_keepR ?_
  intro s f m96 m97 v39 v40
  have FE : frE r s := by
    intro o j h1 h2
    exact f o j (by omega) (by omega) (by omega)
  have r5 : s 5 = r 5 := by funext j; exact f 5 j (by decide) (by decide) (by omega)
  have h5 : ∀ d, 0 ≤ d → d < 48 → (s 5 d = 2 ↔ r 5 d = 2) := fun d _ _ => by rw [r5]
  have hR := FE.ref h5
  have hP := FD.pond hd.1
  have pq : g3 (q 53 0) = q (q 53 0) := hP.2 _ (by omega) (by omega)
  have rr : ∀ o, o ≠ 39 → o ≠ 40 → o ≠ 0 → s o = r o := fun o a b c => by funext j; exact f o j a b (by omega)
  have rC : Core g3 s := by
    refine h.1.ofD FD FE h5 (hg.same hP (q53 1 (by decide) (by decide)) hR (fun c _ _ => by rw [r5])) ?_ ?_ ?_ ?_
    · exact hD.same hd.2.2.2.2.1 (fun o h1 h2 => rows o (by omega) (by omega)) hR (f 0 76 (by decide) (by decide) (by decide)) (fun o h1 h2 => rr o (by omega) (by omega) (by omega))
    · refine ⟨?_, fun _ => ⟨?_, by rw [m97]; exact d0, by rw [m97]; exact d1, fun d p0 p1 => ?_, fun c p0 p1 => ?_, fun c p0 p1 => ?_⟩⟩
      · rw [e3, up_self, m96]
      · rw [e3, up_other (by decide), e2, up_other (by decide), m97]
        unfold dcopy
        rw [if_pos ⟨rfl, rfl⟩]; exact hD.1
      · rw [m97] at p1
        obtain ⟨w1, w2, w3⟩ := v40 d p0 (by omega)
        obtain ⟨y1, y2, y3, y4⟩ := hD.2.2.2 d p0 p1
        rw [w1, w2, w3]
        refine ⟨?_, ?_, ?_, y4.same hd.2.2.2.2.1 hR⟩
        · rw [e3, up_other (by decide), e2, up_other (by decide)]
          unfold dcopy
          rw [if_neg (by omega), if_pos ⟨by decide, p0, by rw [hD.1]; exact p1⟩]; exact y1
        · rw [e3, up_other (by decide), e2, up_other (by decide)]
          unfold dcopy
          rw [if_neg (by omega), if_neg (by omega), if_pos ⟨by decide, p0, by rw [hD.1]; exact p1⟩]; exact y2
        · rw [e3, up_other (by decide), e2, up_other (by decide)]
          unfold dcopy
          rw [if_neg (by omega), if_neg (by omega), if_neg (by omega), if_pos ⟨by decide, p0, by rw [hD.1]; exact p1⟩]; exact y3
      · rw [v39 c p0 p1, hP.1, pq, q534, hg.1 c p0 p1]; rfl
      · rw [hP.1, pq, q534, hR.1 12 (by decide) (by decide), hR.1 13 (by decide) (by decide)]
        exact hg.2.2 c p0 p1
    · exact hU.same hd.2.2.2.2.1 hR (q53 7 (by decide) (by decide)) (rows 106 (by decide) (by decide)) (f 0 82 (by decide) (by decide) (by decide)) (rr 33 (by decide) (by decide) (by decide)) (f 0 76 (by decide) (by decide) (by decide))
    · exact wayR_congr hR.1 r5 (rr 30 (by decide) (by decide) (by decide)) (rr 31 (by decide) (by decide) (by decide)) hM.2.1
  refine ⟨rfl, rC, ?_, ?_⟩
  · intro z8
    rw [q53 8 (by decide) (by decide)] at z8
    exact waysOK_congr (q53 0 (by decide) (by decide)) (q53 1 (by decide) (by decide)) pq (FD.row (by decide) (by decide)) (FD.row (by decide) (by decide)) (FD.row (by decide) (by decide)) (h.2.1 z8)
  · intro z9
    rw [q53 9 (by decide) (by decide)] at z9
    have hs9 := h.2.2 z9
    have hq3 : Core g3 s := rC
    intro c t p0 p1 t0 t1
    rw [hP.1, pq] at p1
    rw [rows 120 (by decide) (by decide), hs9 c t p0 p1 t0 t1]
    -- the sums look at what is unchanged
    unfold csum
    rw [rows 98 (by decide) (by decide), rows 99 (by decide) (by decide), rows 100 (by decide) (by decide), rows 101 (by decide) (by decide)]
    refine sumN_congr _ 0 (fun d w0 w1 => ?_)
    obtain ⟨y1, y2, y3, y4⟩ := hD.2.2.2 d w0 (by rw [← hD.1]; omega)
    have k4 := h.1.2.2.1.2.2.1.2.1
    have y5 := y4.1
    have y6 := y4.2.1
    unfold cgiv crs
    rw [FC_congr hP.1 (q53 1 (by decide) (by decide)) pq, hP.1, pq, y1, hP.2 (q 53 0 + 1) (by omega) (by omega), hP.2 (q 53 0 + 1 + 1) (by omega) (by omega), hP.2 (q 53 0 + 15 + 2 * r 17 d) (by omega) (by omega), hP.2 (q 53 0 + 16 + 2 * r 17 d) (by omega) (by omega)]
