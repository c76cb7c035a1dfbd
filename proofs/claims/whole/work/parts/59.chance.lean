/-! ===== chance ===== -/
def nxD (d : Int) : Int := j_land (w64 (w64 (d * 1103515245) + 12345)) 2147483647
def nuD (d m : Int) : Int := w32 (j_lrem (j_ldiv d 65536) m)
theorem nxD_r (d : Int) : 0 ≤ nxD d ∧ nxD d < 2147483648 := by
  unfold nxD j_land
  generalize Int64.ofInt (w64 (w64 (d * 1103515245) + 12345)) = x
  rw [Int64.toInt, Int64.toBitVec_and, show (Int64.ofInt 2147483647).toBitVec = 2147483647#64 from rfl]
  have e : (x.toBitVec &&& 2147483647#64).toNat = x.toBitVec.toNat % 2147483648 := by
    rw [BitVec.toNat_and, show (2147483647#64).toNat = 2 ^ 31 - 1 from rfl, Nat.and_two_pow_sub_one_eq_mod]
  rw [BitVec.toInt_eq_toNat_of_lt (by rw [e]; omega), e]
  omega
theorem j_lrem_pos {a b : Int} (h0 : 0 ≤ a) (h1 : a < 2147483648) (b0 : 0 < b) (b1 : b < 2147483648) : j_lrem a b = a % b := by
  unfold j_lrem
  have ha := i64_toInt (a := a) ⟨by omega, by omega⟩
  have hb := i64_toInt (a := b) ⟨by omega, by omega⟩
  have q0 : 0 ≤ a / b := Int.ediv_nonneg h0 (by omega)
  have q1 : a / b ≤ a := Int.ediv_le_self b h0
  have m0 : a % b = a - b * (a / b) := Int.emod_def a b
  have m1 : 0 ≤ a % b := Int.emod_nonneg a (by omega)
  have m2 : a / b * b = b * (a / b) := Int.mul_comm _ _
  have m3 : 0 ≤ b * (a / b) := Int.mul_nonneg (by omega) q0
  rw [Int64.toInt_sub, Int64.toInt_mul, Int64.toInt_div, ha, hb, Int.tdiv_eq_ediv_of_nonneg h0, ← w64_bmod, ← w64_bmod, ← w64_bmod, w64_eq (x := a / b) (by omega) (by omega), m2, w64_eq (x := b * (a / b)) (by omega) (by omega), w64_eq (by omega) (by omega), m0]
theorem nuD_r {d m : Int} (h0 : 0 ≤ d) (h1 : d < 2147483648) (m0 : 0 < m) (m1 : m ≤ 48) : 0 ≤ nuD d m ∧ nuD d m < m := by
  unfold nuD j_ldiv
  rw [Int.tdiv_eq_ediv_of_nonneg h0, w64_eq (by omega) (by omega), j_lrem_pos (by omega) (by omega) m0 (by omega)]
  have a1 := Int.emod_nonneg (d / 65536) (show m ≠ 0 by omega)
  have a2 := Int.emod_lt_of_pos (d / 65536) m0
  rw [w32_eq (by omega) (by omega)]
  exact ⟨a1, a2⟩
/-- n drops drawn: what they give, the last number -/
def chI (G : Int → Int → Int) (wt : Int → Bool) (cells t : Int) : Nat → Int → Int → Int × Int
  | 0, v, d => (v, d)
  | n + 1, v, d => if wt (nuD (nxD d) cells) = true then chI G wt cells t n (v + G (nuD (nxD d) cells) (t - nuD (nxD (nxD d)) 16)) (nxD (nxD d)) else chI G wt cells t n v (nxD d)
def chO (G : Int → Int → Int) (wt : Int → Bool) (cells t : Int) (n : Nat) : Nat → Int → Int → Int
  | 0, v, _ => v
  | i + 1, v, d => chO G wt cells t n i (if 0 < (chI G wt cells t n 0 d).1 then v + 1 else v) (chI G wt cells t n 0 d).2
theorem op_chance {q r : Mh} (sd k n ck t : Int) (h : Rel q r) : wp_X13_chance sd k n ck t q (fun x q' => wp_X14_chance sd k n ck t r (fun y r' => x = y ∧ Rel q' r')) := by
  have hP := h.1.2.2.1
  have hd := hP.1
  have hg := h.1.2.2.2.1
  have hs := hd.2.2.2.2.1.1
  have hm := szs_mul hs
  have hKn := hP.2.2.1
  have h4 := hKn.2.1
  have hC := hP.2.2.2.1
  have h6 := hC.2.1
  have h0 : Rel q (up r 0 2 0) := h.thrown (sameR.thrown r)
  have e0 : ∀ j, j ≠ 2 → up r 0 2 0 0 j = r 0 j := fun j hj => up_slot hj
  have k01 : ∀ x m : Int, (if x < 0 then (0 : Int) else if m ≤ x then 0 else 1) = (if 0 ≤ x ∧ x < m then 1 else 0) := by
    intro x m
    by_cases z : x < 0
    · rw [if_pos z, if_neg (by omega)]
    · rw [if_neg z]
      by_cases y : m ≤ x
      · rw [if_pos y, if_neg (by omega)]
      · rw [if_neg y, if_pos (by omega)]
  have t01 : ∀ x l u : Int, (if x < l then (0 : Int) else if u < x then 0 else 1) = (if l ≤ x ∧ x ≤ u then 1 else 0) := by
    intro x l u
    by_cases z : x < l
    · rw [if_pos z, if_neg (by omega)]
    · rw [if_neg z]
      by_cases y : u < x
      · rw [if_pos y, if_neg (by omega)]
      · rw [if_neg y, if_pos (by omega)]
  have no : ¬ (0 ≤ sd ∧ (0 ≤ k ∧ k < r 0 14) ∧ (1 ≤ n ∧ n ≤ 9) ∧ (0 ≤ ck ∧ ck < r 0 15) ∧ (0 ≤ t ∧ t ≤ 40)) → wp_X14_chance sd k n ck t r (fun y r' => -1 = y ∧ Rel q r') := by
    intro hn
    unfold wp_X14_chance
    intro r1 e1
    subst e1
    by_cases c0 : sd < 0
    · rw [if_pos c0]; exact ⟨rfl, h0⟩
    · rw [if_neg c0, wi_isKind, e0 14 (by decide), k01]
      by_cases c1 : 0 ≤ k ∧ k < r 0 14
      · rw [if_pos c1, if_neg (by decide), wi_isIn, t01]
        by_cases c2 : 1 ≤ n ∧ n ≤ 9
        · rw [if_pos c2, if_neg (by decide), wi_isCork, e0 15 (by decide), k01]
          by_cases c3 : 0 ≤ ck ∧ ck < r 0 15
          · rw [if_pos c3, if_neg (by decide), wi_isIn, t01]
            rw [if_neg (show ¬ (0 ≤ t ∧ t ≤ 40) from fun z => hn ⟨by omega, c1, c2, c3, z⟩), if_neg (fun z => z rfl)]
            exact ⟨rfl, h0⟩
          · rw [if_neg c3, if_pos rfl]; exact ⟨rfl, h0⟩
        · rw [if_neg c2, if_pos rfl]; exact ⟨rfl, h0⟩
      · rw [if_neg c1, if_pos rfl]; exact ⟨rfl, h0⟩
  have l39 : ¬ ((0 ≤ k ∧ k < r 0 14) ∧ (0 ≤ ck ∧ ck < r 0 15)) → Lfp (F_X13_chance sd k n ck t (fun x q' => wp_X14_chance sd k n ck t r (fun y r' => x = y ∧ Rel q' r'))) (39, [], q) := by
    intro hn
    apply L_X13_chance_39
    unfold B_X13_chance_39
    apply L_X13_chance_40
    unfold B_X13_chance_40
    rw [if_pos rfl]
    exact no (fun z => hn ⟨z.2.1, z.2.2.2.1⟩)
  unfold wp_X13_chance
  refine ⟨isP_4 hd.1, ?_⟩
  rw [wi_has, hKn.1.1, k01]
  by_cases c1 : 0 ≤ k ∧ k < r 0 14
  · rw [if_pos c1, if_neg (by decide)]
    refine ⟨isP_4 hd.1, ?_⟩
    rw [wi_has, hC.1.1, k01]
    by_cases c3 : 0 ≤ ck ∧ ck < r 0 15
    · rw [if_pos c3, if_neg (by decide)]
      apply L_X13_chance_40
      unfold B_X13_chance_40
      rw [if_neg (by decide)]
      by_cases c0 : sd < 0
      · rw [if_pos c0]; exact no (fun z => by have := z.1; omega)
      rw [if_neg c0]
      by_cases c2 : n < 1
      · rw [if_pos c2]; exact no (fun z => by have := z.2.2.1.1; omega)
      rw [if_neg c2]
      by_cases c2' : 9 < n
      · rw [if_pos c2']; exact no (fun z => by have := z.2.2.1.2; omega)
      rw [if_neg c2', wi_stepC, t01]
      by_cases c5 : 0 ≤ t ∧ t ≤ 40
      · rw [if_pos c5, if_pos (by decide)]
        refine sp_freshenWays hd.cp h.2.1 ?_
        intro g f z w
        have hR := h.fw f w (sameR.refl r)
        have hw := hC.2.2.2 ck c3.1 c3.2
        have w1 : r 14 ck < 48 := by have := hw.2.1; omega
        have ro := h.1.ro
        let G : Int → Int → Int := fun a m => rgiv r k a (r 14 ck) m
        have Gb : ∀ a m, -396 ≤ G a m ∧ G a m ≤ 396 := fun a m => rgiv_le ro c1.1 c1.2 a _ m
        let cs : Int := r 0 12 * r 0 13
        -- the reference
        have ref : ∀ g', Rel g' r → wp_X14_chance sd k n ck t r (fun y r' => chO G (wtr r) cs t n.toNat 10 0 sd = y ∧ Rel g' r') := by
          intro g' hg'
          unfold wp_X14_chance
          intro r1 e1
          subst e1
          rw [if_neg c0, wi_isKind, e0 14 (by decide), k01, if_pos c1, if_neg (by decide), wi_isIn, t01, if_pos (show 1 ≤ n ∧ n ≤ 9 by omega), if_neg (by decide), wi_isCork, e0 15 (by decide), k01, if_pos c3, if_neg (by decide), wi_isIn, t01, if_pos c5, if_pos (by decide)]
          intro u0 e1
          -- heaps that differ by the number drawn
          let H : Mh → Int → Prop := fun u d => sameR r u ∧ u 0 95 = d
          have HD : ∀ {u : Mh} {d m : Int} {K : Int → Mh → Prop}, H u d → 0 < m → m ≤ 48 → (∀ u', H u' (nxD d) → K (nuD (nxD d) m) u') → wp_X14_drawn1 m u K := by
            intro u d m K hu m0 m1 hK
            unfold wp_X14_drawn1
            intro u1 e1
            rw [hu.2] at e1
            have v : u1 0 95 = nxD d := by rw [e1, up_self]; rfl
            refine ⟨by omega, ?_⟩
            rw [v]
            refine hK u1 ⟨fun o j a b => ?_, v⟩
            rw [e1, up_ne _ (by omega), hu.1 o j a b]
          have inner : ∀ (m : Nat) (y i v mv d : Int) (u : Mh), 0 ≤ y → y + m = n → -(396 * y) ≤ v → v ≤ 396 * y → H u d → (∀ u' d' v', (v', d') = chI G (wtr r) cs t m v d → H u' d' → Lfp (F_X14_chance sd k n ck t (fun y r' => chO G (wtr r) cs t n.toNat 10 0 sd = y ∧ Rel g' r')) (74, [mv, i, v', n], u')) → Lfp (F_X14_chance sd k n ck t (fun y r' => chO G (wtr r) cs t n.toNat 10 0 sd = y ∧ Rel g' r')) (74, [mv, i, v, y], u) := by
            intro m
            induction m with
            | zero =>
              intro y i v mv d u y0 hy v0 v1 hu hz
              have := hz u d v rfl hu
              have ey : ((74, [mv, i, v, n], u) : Ms) = (74, [mv, i, v, y], u) := by rw [show n = y by omega]
              rw [ey] at this
              exact this
            | succ m ih =>
              intro y i v mv d u y0 hy v0 v1 hu hz
              apply L_X14_chance_74
              unfold B_X14_chance_74 wp_X14_cells
              dsimp only
              rw [if_neg (by omega), hu.1 0 12 (by decide) (by decide), hu.1 0 13 (by decide) (by decide), w32_eq (by omega) (by omega)]
              refine HD hu (by omega) (by omega) ?_
              intro u2 hu2
              have dr := nxD_r d
              have cr := nuD_r (m := cs) dr.1 dr.2 (by show 0 < r 0 12 * r 0 13; omega) (by show r 0 12 * r 0 13 ≤ 48; omega)
              have cs48 : cs ≤ 48 := by show r 0 12 * r 0 13 ≤ 48; omega
              have hz2 : ∀ u' d' v', (v', d') = (if wtr r (nuD (nxD d) cs) = true then chI G (wtr r) cs t m (v + G (nuD (nxD d) cs) (t - nuD (nxD (nxD d)) 16)) (nxD (nxD d)) else chI G (wtr r) cs t m v (nxD d)) → H u' d' → Lfp (F_X14_chance sd k n ck t (fun y r' => chO G (wtr r) cs t n.toNat 10 0 sd = y ∧ Rel g' r')) (74, [mv, i, v', n], u') := hz
              show ((0 : Int) ≤ nuD (nxD d) cs ∧ nuD (nxD d) cs < 96) ∧ _
              refine ⟨⟨cr.1, by omega⟩, ?_⟩
              rw [hu2.1.row (o := 5) (by decide) (by decide), hu2.1.row (o := 14) (by decide) (by decide)]
              show if ¬ r 5 (nuD (nxD d) cs) = 2 then _ else _
              by_cases hl : r 5 (nuD (nxD d) cs) = 2
              · rw [if_neg (fun z => z hl)]
                have wf : wtr r (nuD (nxD d) cs) = false := by unfold wtr; simp [hl]
                rw [wf, if_neg (by decide)] at hz2
                intro x ex
                rw [w32_eq (by omega) (by omega)] at ex
                subst ex
                exact ih (y + 1) i v mv (nxD d) u2 (by omega) (by omega) (by omega) (by omega) hu2 hz2
              · rw [if_pos hl]
                have wt : wtr r (nuD (nxD d) cs) = true := by unfold wtr; simp [hl]
                rw [wt, if_pos rfl] at hz2
                refine ⟨⟨c3.1, by omega⟩, ?_⟩
                refine HD hu2 (by decide) (by decide) ?_
                intro u3 hu3
                have dr2 := nxD_r (nxD d)
                have nr := nuD_r (m := 16) dr2.1 dr2.2 (by decide) (by decide)
                rw [w32_eq (by omega) (by omega)]
                refine rgives (ro.thrown hu3.1) c1.1 (by rw [hu3.1 0 14 (by decide) (by decide)]; exact c1.2) cr.1 (show nuD (nxD d) cs < 48 from by have := cr.2; omega) hw.1 w1 (by omega) (by omega) ?_
                rw [rgiv_sameR hu3.1]
                have gb := Gb (nuD (nxD d) cs) (t - nuD (nxD (nxD d)) 16)
                show ∀ x9 : Int, x9 = w32 (v + G (nuD (nxD d) cs) (t - nuD (nxD (nxD d)) 16)) → _
                intro x ex x2 ex2
                rw [w32_eq (by omega) (by omega)] at ex
                rw [w32_eq (by omega) (by omega)] at ex2
                subst ex; subst ex2
                exact ih (y + 1) i _ mv (nxD (nxD d)) u3 (by omega) (by omega) (by omega) (by omega) hu3 hz2
          have outer : ∀ (m : Nat) (i mv d : Int) (u : Mh), 0 ≤ i → i + m = 10 → 0 ≤ mv → mv ≤ i → H u d → chO G (wtr r) cs t n.toNat m mv d = chO G (wtr r) cs t n.toNat 10 0 sd → Lfp (F_X14_chance sd k n ck t (fun y r' => chO G (wtr r) cs t n.toNat 10 0 sd = y ∧ Rel g' r')) (61, [mv, i], u) := by
            intro m
            induction m with
            | zero =>
              intro i mv d u i0 hi mv0 mv1 hu hz
              apply L_X14_chance_61
              unfold B_X14_chance_61
              rw [if_pos (by omega)]
              exact ⟨hz.symm, hg'.thrown hu.1⟩
            | succ m ih =>
              intro i mv d u i0 hi mv0 mv1 hu hz
              apply L_X14_chance_61
              unfold B_X14_chance_61
              rw [if_neg (by omega)]
              refine inner n.toNat 0 i 0 mv d u (by omega) (by omega) (by omega) (by omega) hu ?_
              intro u' d' v' ev hu'
              have hz2 : chO G (wtr r) cs t n.toNat m (if 0 < (chI G (wtr r) cs t n.toNat 0 d).1 then mv + 1 else mv) (chI G (wtr r) cs t n.toNat 0 d).2 = chO G (wtr r) cs t n.toNat 10 0 sd := hz
              rw [← ev] at hz2
              dsimp only at hz2
              apply L_X14_chance_74
              unfold B_X14_chance_74
              rw [if_pos (by omega)]
              by_cases y : v' ≤ 0
              · rw [if_pos y]
                rw [if_neg (by omega)] at hz2
                intro x ex x2 ex2
                rw [w32_eq (by omega) (by omega)] at ex ex2
                subst ex; subst ex2
                exact ih (i + 1) (mv + 0) d' u' (by omega) (by omega) (by omega) (by omega) hu' (by rw [Int.add_zero]; exact hz2)
              · rw [if_neg y]
                rw [if_pos (by omega)] at hz2
                intro x ex x2 ex2
                rw [w32_eq (by omega) (by omega)] at ex ex2
                subst ex; subst ex2
                exact ih (i + 1) (mv + 1) d' u' (by omega) (by omega) (by omega) (by omega) hu' hz2
          refine outer 10 0 0 sd u0 (by omega) (by omega) (by omega) (by omega) ⟨fun o j a b => ?_, by rw [e1, up_self]⟩ rfl
          rw [e1, up_ne _ (by omega), up_ne _ (by omega)]
        -- the class
        have hdg := hR.1.2.2.1.1
        have hCg := hR.1.2.2.1.2.2.2.1
        unfold wp_X2_drawsAbove
        refine ⟨isP_4 hdg.1, ?_⟩
        rw [wi_orZero (by rw [hCg.2.2.1.1, isP_27 hdg.1]; exact h6), hCg.2.2.1.rf]
        have er2 : rsf (r 0 15) (fun j => r 14 (0 + j)) ck = r 14 ck := by unfold rsf; rw [if_neg (by omega), if_neg (by omega)]; simp
        rw [er2]
        intro g0 e1
        let H : Mh → Int → Prop := fun u d => (∀ o j, ¬ (o = 127 ∧ j = 10) → u o j = g o j) ∧ u 127 10 = d
        have HRel : ∀ {u d}, H u d → Rel u r ∧ waysOK u := by
          intro u d hu
          have er : ∀ o, o ≠ 127 → u o = g o := fun o ho => by funext j; exact hu.1 o j (fun z => ho z.1)
          have hr : Rel u r := hR.keep (fun o j a b c d => hu.1 o j (by omega)) (er 53 (by decide)) (er 116 (by decide)) (er 117 (by decide)) (er 118 (by decide)) (er 120 (by decide)) (sameR.refl r)
          refine ⟨hr, ?_⟩
          have ep : u (g 53 0) = g (g 53 0) := by rcases hdg.1 with e | e <;> exact er _ (by omega)
          exact waysOK_congr (by rw [er 53 (by decide)]) (by rw [er 53 (by decide)]) ep (er 116 (by decide)) (er 117 (by decide)) (er 118 (by decide)) w
        have HD : ∀ {u : Mh} {d m : Int} {K : Int → Mh → Prop}, H u d → 0 < m → (∀ u', H u' (nxD d) → K (nuD (nxD d) m) u') → wp_X2_drawNumber m u K := by
          intro u d m K hu m0 hK
          unfold wp_X2_drawNumber
          intro u1 e1
          rw [hu.2] at e1
          have v : u1 127 10 = nxD d := by rw [e1, up_self]; rfl
          rw [if_neg (by omega)]
          refine ⟨by omega, ?_⟩
          rw [v]
          refine hK u1 ⟨fun o j a => ?_, v⟩
          rw [e1, up_ne _ a, hu.1 o j a]
        have inner : ∀ (m : Nat) (y i v mv d : Int) (u : Mh), 0 ≤ y → y + m = n → -(396 * y) ≤ v → v ≤ 396 * y → H u d → (∀ u' d' v', (v', d') = chI G (wtr r) cs t m v d → H u' d' → Lfp (F_X2_drawsAbove sd k n ck t (fun x q' => wp_X14_chance sd k n ck t r (fun y r' => x = y ∧ Rel q' r'))) (42, [mv, r 14 ck, i, v', n], u')) → Lfp (F_X2_drawsAbove sd k n ck t (fun x q' => wp_X14_chance sd k n ck t r (fun y r' => x = y ∧ Rel q' r'))) (42, [mv, r 14 ck, i, v, y], u) := by
          intro m
          induction m with
          | zero =>
            intro y i v mv d u y0 hy v0 v1 hu hz
            have := hz u d v rfl hu
            have ey : ((42, [mv, r 14 ck, i, v, n], u) : Ms) = (42, [mv, r 14 ck, i, v, y], u) := by rw [show n = y by omega]
            rw [ey] at this
            exact this
          | succ m ih =>
            intro y i v mv d u y0 hy v0 v1 hu hz
            apply L_X2_drawsAbove_42
            unfold B_X2_drawsAbove_42 wp_X2_drawnRise wp_X5_cells
            obtain ⟨hru, _⟩ := HRel hu
            have hdu := hru.1.2.2.1.1
            rw [if_neg (by omega)]
            refine ⟨isP_4 hdu.1, ?_⟩
            dsimp only
            rw [hdu.2.2.1, hdu.2.2.2.1, w32_eq (by omega) (by omega)]
            refine HD hu (by omega) ?_
            intro u2 hu2
            obtain ⟨hru2, _⟩ := HRel hu2
            have hdu2 := hru2.1.2.2.1.1
            have dr := nxD_r d
            have cr := nuD_r (m := cs) dr.1 dr.2 (by show 0 < r 0 12 * r 0 13; omega) (by show r 0 12 * r 0 13 ≤ 48; omega)
            have cs48 : cs ≤ 48 := by show r 0 12 * r 0 13 ≤ 48; omega
            have hz2 : ∀ u' d' v', (v', d') = (if wtr r (nuD (nxD d) cs) = true then chI G (wtr r) cs t m (v + G (nuD (nxD d) cs) (t - nuD (nxD (nxD d)) 16)) (nxD (nxD d)) else chI G (wtr r) cs t m v (nxD d)) → H u' d' → Lfp (F_X2_drawsAbove sd k n ck t (fun x q' => wp_X14_chance sd k n ck t r (fun y r' => x = y ∧ Rel q' r'))) (42, [mv, r 14 ck, i, v', n], u') := hz
            refine ⟨isP_4 hdu2.1, ?_⟩
            rw [wi_wet hdu2 hru2.1.2.2.2.1]
            by_cases hl : r 5 (nuD (nxD d) cs) = 2
            · have wf : wtr r (nuD (nxD d) cs) = false := by unfold wtr; simp [hl]
              rw [wf, if_neg (by decide)] at hz2
              rw [if_neg (show ¬ watR r (nuD (nxD d) (r 0 12 * r 0 13)) from fun z => z.2.2 hl), if_neg (fun z => z rfl)]
              intro x ex x2 ex2
              rw [w32_eq (by omega) (by omega)] at ex ex2
              subst ex; subst ex2
              exact ih (y + 1) i (v + 0) mv (nxD d) u2 (by omega) (by omega) (by omega) (by omega) hu2 (by rw [Int.add_zero]; exact hz2)
            · have wt : wtr r (nuD (nxD d) cs) = true := by unfold wtr; simp [hl]
              rw [wt, if_pos rfl] at hz2
              rw [if_pos (show watR r (nuD (nxD d) (r 0 12 * r 0 13)) from ⟨cr.1, cr.2, hl⟩), if_pos (by decide)]
              refine HD hu2 (by decide) ?_
              intro u3 hu3
              obtain ⟨hru3, hw3⟩ := HRel hu3
              have hdu3 := hru3.1.2.2.1.1
              have dr2 := nxD_r (nxD d)
              have nr := nuD_r (m := 16) dr2.1 dr2.2 (by decide) (by decide)
              intro x5 ex5
              rw [w32_eq (by omega) (by omega)] at ex5
              subst ex5
              refine ⟨isP_4 hdu3.1, ?_⟩
              refine sp_alone hdu3.cp hw3 hru3.1.cs c1.1 (by omega) (hru3.1.2.2.1.2.2.1.kc c1.1 c1.2) (hru3.1.2.2.1.2.1.rs hdu3) cr.1 (hdu3.cl cr.2) hw.1 (hdu3.cl hw.2.1) (by omega) (by omega) ?_
              rw [cgiv_rgiv hru3.1.2.2.1 hru3.1.2.2.2.1 c1.1 c1.2]
              have gb := Gb (nuD (nxD d) cs) (t - nuD (nxD (nxD d)) 16)
              show ∀ x9 : Int, x9 = w32 (v + G (nuD (nxD d) cs) (t - nuD (nxD (nxD d)) 16)) → _
              intro x ex x2 ex2
              rw [w32_eq (by omega) (by omega)] at ex
              rw [w32_eq (by omega) (by omega)] at ex2
              subst ex; subst ex2
              exact ih (y + 1) i _ mv (nxD (nxD d)) u3 (by omega) (by omega) (by omega) (by omega) hu3 hz2
        have outer : ∀ (m : Nat) (i mv d : Int) (u : Mh), 0 ≤ i → i + m = 10 → 0 ≤ mv → mv ≤ i → H u d → chO G (wtr r) cs t n.toNat m mv d = chO G (wtr r) cs t n.toNat 10 0 sd → Lfp (F_X2_drawsAbove sd k n ck t (fun x q' => wp_X14_chance sd k n ck t r (fun y r' => x = y ∧ Rel q' r'))) (29, [mv, r 14 ck, i], u) := by
          intro m
          induction m with
          | zero =>
            intro i mv d u i0 hi mv0 mv1 hu hz
            apply L_X2_drawsAbove_29
            unfold B_X2_drawsAbove_29
            rw [if_pos (by omega)]
            have ev : mv = chO G (wtr r) cs t n.toNat 10 0 sd := hz
            rw [ev]
            exact ref u (HRel hu).1
          | succ m ih =>
            intro i mv d u i0 hi mv0 mv1 hu hz
            apply L_X2_drawsAbove_29
            unfold B_X2_drawsAbove_29
            rw [if_neg (by omega)]
            refine inner n.toNat 0 i 0 mv d u (by omega) (by omega) (by omega) (by omega) hu ?_
            intro u' d' v' ev hu'
            have hz2 : chO G (wtr r) cs t n.toNat m (if 0 < (chI G (wtr r) cs t n.toNat 0 d).1 then mv + 1 else mv) (chI G (wtr r) cs t n.toNat 0 d).2 = chO G (wtr r) cs t n.toNat 10 0 sd := hz
            rw [← ev] at hz2
            dsimp only at hz2
            apply L_X2_drawsAbove_42
            unfold B_X2_drawsAbove_42
            rw [if_pos (by omega)]
            by_cases y : v' ≤ 0
            · rw [if_pos y]
              rw [if_neg (by omega)] at hz2
              intro x2 ex2
              rw [w32_eq (by omega) (by omega)] at ex2
              subst ex2
              exact ih (i + 1) mv d' u' (by omega) (by omega) (by omega) (by omega) hu' hz2
            · rw [if_neg y]
              rw [if_pos (by omega)] at hz2
              intro x ex x2 ex2
              rw [w32_eq (by omega) (by omega)] at ex ex2
              subst ex; subst ex2
              exact ih (i + 1) (mv + 1) d' u' (by omega) (by omega) (by omega) (by omega) hu' hz2
        refine outer 10 0 0 sd g0 (by omega) (by omega) (by omega) (by omega) ⟨fun o j a => by rw [e1, up_ne _ a], by rw [e1, up_self]⟩ rfl
      · rw [if_neg c5, if_neg (fun z => z rfl)]
        exact no (fun z => c5 z.2.2.2.2)
    · rw [if_neg c3, if_pos rfl]
      exact l39 (fun z => c3 z.2)
  · rw [if_neg c1, if_pos rfl]
    exact l39 (fun z => c1 z.1)
