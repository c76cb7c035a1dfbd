/-! ===== text: how both begin ===== -/
theorem plT_o {h : Mh} {o : Int} (h0 : ¬ o = 0) (h3 : ¬ (3 ≤ o ∧ o ≤ 7)) : plainT h o = h o := by
  funext j
  unfold plainT pl5 pl4 pl0
  rw [if_neg (by omega), if_neg (by omega), if_neg (by omega), up_other (by omega), up_other (by omega), up_other (by omega), up_other h0, up_other h0, up_other h0, up_other h0, up_other h0, up_other h0, up_other h0, up_other h0, up_other h0, up_other h0, up_other h0, up_other h0, up_other h0, up_other h0, up_other h0]
theorem plT_0 {h : Mh} {j : Int} : plainT h 0 j = pl0 h 0 j := by
  unfold plainT pl5 pl4
  rw [if_neg (by omega), if_neg (by omega), if_neg (by omega)]
theorem plT_j {h : Mh} {j : Int} (a : ¬ (25 ≤ j ∧ j ≤ 38)) (b : ¬ j = 68) : plainT h 0 j = h 0 j := by
  rw [plT_0]
  unfold pl0
  rw [up_other (by decide), up_other (by decide), up_other (by decide), up_slot (by omega), up_slot (by omega), up_slot (by omega), up_slot (by omega), up_slot (by omega), up_slot (by omega), up_slot (by omega), up_slot (by omega), up_slot (by omega), up_slot (by omega), up_slot (by omega), up_slot (by omega), up_slot (by omega), up_slot (by omega), up_slot (by omega)]
theorem plT_low {h : Mh} {o j : Int} (a : 5 ≤ o) (b : ¬ o = 7) (c : o ≤ 6 → j < 48) : plainT h o j = h o j := by
  by_cases z : o ≤ 6
  · have := c z
    unfold plainT pl5 pl4 pl0
    rw [if_neg (by omega), if_neg (by omega), if_neg (by omega), up_other (by omega), up_other (by omega), up_other (by omega), up_other (by omega), up_other (by omega), up_other (by omega), up_other (by omega), up_other (by omega), up_other (by omega), up_other (by omega), up_other (by omega), up_other (by omega), up_other (by omega), up_other (by omega), up_other (by omega), up_other (by omega), up_other (by omega), up_other (by omega)]
  · rw [plT_o (by omega) (by omega)]
theorem plT_fx {r0 h : Mh} (f : fxR r0 h) : fxR r0 (plainT h) := by
  refine ⟨fun j a b c => by rw [plT_j b (by omega)]; exact f.1 j a b c, by rw [plT_o (by decide) (by decide)]; exact f.2.1, by rw [plT_o (by decide) (by decide)]; exact f.2.2.1, fun o a => by rw [plT_o (by omega) (by omega)]; exact f.2.2.2.1 o a, fun o j a b c d => ?_⟩
  rw [plT_low a c (fun z => by unfold off at d; split at d <;> omega)]
  exact f.2.2.2.2 o j a b c d
def r6F (n : Int) (r : Mh) : Mh := up (up (up (up (up (up r 0 2 0) 0 6 n) 0 1 0) 0 4 0) 0 5 (-1)) 0 7 0
def r8F (n : Int) (r : Mh) : Mh := tokR (plainT (r6F n r))
def r0F (r : Mh) : Mh := up (up r 0 2 0) 0 1 0
theorem r6F_o {n : Int} {r : Mh} {o : Int} (h : ¬ o = 0) : r6F n r o = r o := by
  unfold r6F
  rw [up_other h, up_other h, up_other h, up_other h, up_other h, up_other h]
theorem r8F_fx {n : Int} {r : Mh} : fxR (r0F r) (r8F n r) := by
  unfold r8F
  refine fxR_tok (plT_fx ?_)
  have e : r6F n r = up (up (up (up (r0F r) 0 6 n) 0 4 0) 0 5 (-1)) 0 7 0 := by
    unfold r6F r0F
    funext o j
    unfold up
    grind
  rw [e]
  exact fxR_0 (fxR_0 (fxR_0 (fxR_0 (fxR.refl _) (by omega)) (by omega)) (by omega)) (by omega)
theorem run_textR {n : Int} {q r : Mh} (ht : RTape q r) (hw : ∀ j, 0 ≤ j → j < 108 → r 2 j = wrd j) (n0 : 0 ≤ n) (n1 : n ≤ r 0 1) {K : Int → Mh → Prop} (hk : Lfp (F_X14_text n K) (55, [0], r8F n r)) : wp_X14_text n r K := by
  unfold wp_X14_text
  intro h1 e1
  have t1 : h1 0 1 = r 0 1 := by rw [e1, up_slot (by decide)]
  rw [if_neg (by omega), if_pos (by omega)]
  intro h2 e2 h3 e3 h4 e4 h5 e5 h6 e6
  have e : h6 = r6F n r := by rw [e6, e5, e4, e3, e2, e1]; rfl
  rw [e]
  refine xp_plain ?_
  have p7 : plainT (r6F n r) 0 7 = 0 := by rw [plT_j (by decide) (by decide)]; unfold r6F; rw [up_self]
  have p6 : plainT (r6F n r) 0 6 = n := by rw [plT_j (by decide) (by decide)]; unfold r6F; rw [up_slot (by decide), up_slot (by decide), up_slot (by decide), up_slot (by decide), up_self]
  have t2 := ht.2.2.1
  refine xp_token ?_ (by rw [p7]; decide) (by rw [p7, p6]; exact n0) (by rw [p6]; omega) ?_ ?_
  · rw [plT_o (by decide) (by decide), r6F_o (by decide)]; exact hw
  · rw [p6, plT_o (by decide) (by decide), r6F_o (by decide)]
    intro j j0 j1
    have := (ht.2.2.2 j j0 (by omega)).1
    omega
  · exact hk
/-- what the class did before its lines -/
def bgn (P : Int) (q g5 gz g : Mh) : Prop := clr P (up (up q 0 1 0) 46 1 P) g5 ∧ gz = up (up (up (up (up (up (up (up g5 46 2 0) 46 3 (-1)) 46 4 0) 46 5 0) 46 6 0) 46 7 0) 46 8 0) 46 9 0 ∧ frX gz g
theorem rv_0 {r : Mh} {j : Int} (a : 12 ≤ j) (b : j ≤ 20) : rv r 0 j = r 0 (j + 13) := by
  unfold rv
  rw [if_pos rfl, if_neg (by omega), if_neg (by omega), if_neg (by omega), if_neg (by omega), if_neg (by omega), if_neg (by omega), if_pos ⟨a, b⟩]
theorem PG.begin {n : Int} {m : Nat} {q r g5 gz g : Mh} {P : Int} (hc : Core q r) (eP : P = q 0 2) (hp : isP P) (n0 : 0 ≤ n) (n1 : n ≤ r 0 1) (hb : bgn P q g5 gz g) (hL : TokL (r 1) n m g) (h7 : g 49 7 = -1) : PG (r 1) n m 0 0 (up (up q 0 1 0) 46 1 P) (r0F r) (advC g) (r8F n r) := by
  have hq := hp
  unfold isP at hq
  obtain ⟨⟨cf, c0, c1, c2, c3, c17, c18, c19, w1, w10, w12, w23, w25, w27, w29, w31, w33, w37, wm, wk⟩, egz, hfr⟩ := hb
  have ht := hc.1
  have hw : ∀ j, 0 ≤ j → j < 108 → r 2 j = wrd j := hc.2.2.2.2.2.2.2.2.2.2
  have t2 := ht.2.2.1
  have ao : ∀ o, ¬ (46 ≤ o ∧ o ≤ 52) → advC g o = g5 o := by
    intro o y
    funext j
    rw [advC_o (by omega), hfr o j (by omega) (by omega), egz]
    rw [up_other (by omega), up_other (by omega), up_other (by omega), up_other (by omega), up_other (by omega), up_other (by omega), up_other (by omega), up_other (by omega)]
  have a46 : ∀ j, advC g 46 j = gz 46 j := fun j => by rw [advC_o (by decide), hfr 46 j (by omega) (by omega)]
  have z1 : advC g 46 1 = P := by
    rw [a46, egz, up_slot (by decide), up_slot (by decide), up_slot (by decide), up_slot (by decide), up_slot (by decide), up_slot (by decide), up_slot (by decide), up_slot (by decide), cf 46 (by omega), up_self]
  have p6 : plainT (r6F n r) 0 6 = n := by rw [plT_j (by decide) (by decide)]; unfold r6F; rw [up_slot (by decide), up_slot (by decide), up_slot (by decide), up_slot (by decide), up_self]
  have p7 : plainT (r6F n r) 0 7 = 0 := by rw [plT_j (by decide) (by decide)]; unfold r6F; rw [up_self]
  have p1 : plainT (r6F n r) 1 = r 1 := by rw [plT_o (by decide) (by decide), r6F_o (by decide)]
  have p2 : plainT (r6F n r) 2 = r 2 := by rw [plT_o (by decide) (by decide), r6F_o (by decide)]
  have gg : ∀ o, P ≤ o → o ≤ P + 39 → qv (advC g) o = g5 o := fun o x y => by rw [qv_get (by rw [z1]; exact hp) (by omega) (by omega), ao o (by omega)]
  have v0 : qv (advC g) 53 0 = P := by rw [qv_0]; exact z1
  have nil : PP (qv (advC g)) (rv (r8F n r)) ∧ PEmp (qv (advC g)) (rv (r8F n r)) := by
    unfold r8F
    rw [rv_tok]
    refine PP.nil ?_ ?_ ?_ ?_ ?_ ?_ ?_ ?_ ?_ ?_ ?_ ?_ ?_ ?_ ?_ ?_ ?_ ?_ ?_ ?_ ?_ ?_
    · rw [v0]; exact hp
    · rw [v0]; unfold qv; rw [if_neg (by decide), if_pos rfl, z1]
    · rw [v0, gg P (by omega) (by omega)]; exact c0
    · rw [v0, gg P (by omega) (by omega)]; exact c1
    · rw [v0, gg P (by omega) (by omega)]; exact c2
    · rw [qv_1 z1, ao P (by omega)]; exact c3
    · rw [v0, gg P (by omega) (by omega)]; exact c17
    · rw [v0, gg P (by omega) (by omega)]; exact c18
    · rw [v0, gg P (by omega) (by omega)]; exact c19
    · intro o ho
      rw [v0, gg _ (by omega) (by omega)]
      rcases ho with e | e | e | e | e | e | e | e <;> rw [e]
      · exact w1
      · exact w10
      · exact w12
      · exact w23
      · exact w25
      · exact w27
      · exact w29
      · exact w31
    · rw [v0, gg _ (by omega) (by omega)]; exact w37
    · rw [qv_98 hp z1 (by decide) (by decide), show P + 33 + (98 - 98) = P + 33 by omega, ao _ (by omega)]; exact w33
    · intro k k0 k1
      rw [v0, gg _ (by omega) (by omega)]; exact wm k k0 k1
    · intro k k0 k1
      rw [v0, gg _ (by omega) (by omega)]; exact wk k k0 k1
    · rw [rv_0 (by decide) (by decide), plT_0]; simp [pl0, up]
    · rw [rv_0 (by decide) (by decide), plT_0]; simp [pl0, up]
    · intro j hj
      have hj2 : j = 14 ∨ j = 15 ∨ j = 16 ∨ j = 17 ∨ j = 18 ∨ j = 19 ∨ j = 20 ∨ j = 24 ∨ j = 34 ∨ j = 35 ∨ j = 76 ∨ j = 77 := by omega
      rcases hj2 with e | e | e | e | e | e | e | e | e | e | e | e <;> rw [e] <;> simp [rv, plT_0, pl0, up]
    · simp [rv, plainT, pl5, pl4, pl0, up]
    · simp [rv, plainT, pl5, pl4, pl0, up]
    · simp [rv, plainT, pl5, pl4, pl0, up]
    · intro c x y
      refine ⟨?_, ?_, ?_⟩
      · show plainT (r6F n r) 5 (48 + c) = 0
        unfold plainT pl5
        rw [if_pos (by omega)]
      · show plainT (r6F n r) 6 (48 + c) = 0
        unfold plainT pl5
        rw [if_pos (by omega)]
      · show plainT (r6F n r) 7 (0 + c) = 0
        unfold plainT pl5
        rw [if_neg (by omega), if_pos (by omega)]
    · intro j _ _; rfl
  refine ⟨⟨hL.adv, TokC.adv hL h7 0 ?_, ?_⟩, ?_, nil.1, fun _ => nil.2, ?_, r8F_fx, ?_, by decide, by decide⟩
  · rw [if_neg (by omega)]; rfl
  · unfold r8F
    refine TokX.tok hL (Nat.zero_le _) p1 p6 ?_ (by rw [p2]; exact hw) ?_
    · intro j j0 j1
      have := (ht.2.2.2 j j0 (by omega)).1
      omega
    · rw [p7]; rfl
  · have rj : ∀ j, ¬ (7 ≤ j ∧ j ≤ 10) → r8F n r 0 j = plainT (r6F n r) 0 j := fun j y => by unfold r8F; rw [tokR_j y]
    have r4 : ∀ j, 0 ≤ j → j < 3 → r8F n r 4 j = 0 := fun j x y => by
      unfold r8F
      rw [tokR_o (by decide)]
      unfold plainT pl5 pl4
      rw [if_neg (by omega), if_neg (by omega), if_pos (by omega)]
    unfold PFlag
    rw [z1, rj 4 (by decide), rj 5 (by decide), rj 36 (by decide), rj 37 (by decide), rj 38 (by decide), rj 68 (by decide), r4 0 (by decide) (by decide), r4 1 (by decide) (by decide), r4 2 (by decide) (by decide), a46, a46, a46, a46, a46, a46, a46, egz, plT_j (j := 4) (by decide) (by decide), plT_j (j := 5) (by decide) (by decide), plT_0, plT_0, plT_0, plT_0]
    refine ⟨hp, ?_, ?_, ?_, ?_, ?_, ?_, ?_, ?_, ?_, ?_⟩ <;> simp [up, r6F, pl0]
  · refine ⟨by rw [z1, up_self], fun o j y z => ?_⟩
    rw [up_self] at z
    rw [ao o y, cf o z]
  · rw [a46, egz]; simp [up]
