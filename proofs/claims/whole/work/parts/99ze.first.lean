/-! ===== both are laid: they agree ===== -/
def h0R : Mh := fun o j => dfl shR o j
def h0C : Mh := fun o j => dfl shC o j
theorem Fr_h0 {sh : Int → Nat × Nat} {n : Nat} : Fr sh n (fun o j => dfl sh o j) := fun _ _ _ => rfl
def r0R : Mh := plainT (refH h0R)
def s1R : Mh := up (up (up (up (up (cpT (ktF r0R) 25) 0 76 (r0R 0 30)) 0 82 0) 0 84 0) 0 85 (-1)) 0 96 0
theorem r0R_0 {j : Int} (h : ¬ (25 ≤ j ∧ j ≤ 38)) (h68 : ¬ j = 68) : r0R 0 j = refH h0R 0 j := by
  unfold r0R plainT pl5 pl4 pl0
  rw [if_neg (by omega), if_neg (by omega), if_neg (by omega)]
  rw [up_other (by decide), up_other (by decide), up_other (by decide), up_slot (by omega), up_slot (by omega), up_slot (by omega), up_slot (by omega), up_slot (by omega), up_slot (by omega), up_slot (by omega), up_slot (by omega), up_slot (by omega), up_slot (by omega), up_slot (by omega), up_slot (by omega), up_slot (by omega), up_slot (by omega), up_slot (by omega)]
theorem r0R_a : r0R 0 25 = 4 ∧ r0R 0 26 = 4 ∧ r0R 0 27 = 0 ∧ r0R 0 28 = 0 ∧ r0R 0 29 = 0 ∧ r0R 0 30 = 0 ∧ r0R 0 31 = 0 ∧ r0R 0 32 = 0 ∧ r0R 0 33 = 0 ∧ r0R 0 34 = 0 ∧ r0R 0 35 = 0 ∧ r0R 0 38 = 0 ∧ r0R 3 0 = 10 ∧ r0R 3 1 = 30 ∧ r0R 3 2 = 50 := by
  unfold r0R plainT pl5 pl4 pl0
  refine ⟨?_, ?_, ?_, ?_, ?_, ?_, ?_, ?_, ?_, ?_, ?_, ?_, ?_, ?_, ?_⟩ <;> simp [up]
theorem s1R_0 {j : Int} (a : ¬ j = 76) (b : ¬ j = 82) (c : ¬ j = 84) (d : ¬ j = 85) (e : ¬ j = 96) : s1R 0 j = ktF r0R 0 j := by
  unfold s1R
  rw [up_slot e, up_slot d, up_slot c, up_slot b, up_slot a, cpT_o (Or.inl (by decide)) (by decide)]
theorem s1R_k : s1R 0 12 = 4 ∧ s1R 0 13 = 4 ∧ s1R 0 14 = 0 ∧ s1R 0 15 = 0 ∧ s1R 0 16 = 0 ∧ s1R 0 17 = 0 ∧ s1R 0 18 = 0 ∧ s1R 0 19 = 0 ∧ s1R 0 20 = 0 ∧ s1R 0 21 = 10 ∧ s1R 0 22 = 30 ∧ s1R 0 23 = 50 ∧ s1R 0 24 = 0 := by
  obtain ⟨a1, a2, a3, a4, a5, a6, a7, a8, a9, a10, a11, a12, a13, a14, a15⟩ := r0R_a
  have f : ∀ j, 12 ≤ j → j ≤ 24 → s1R 0 j = ktF r0R 0 j := fun j a b => s1R_0 (by omega) (by omega) (by omega) (by omega) (by omega)
  rw [f 12 (by decide) (by decide), f 13 (by decide) (by decide), f 14 (by decide) (by decide), f 15 (by decide) (by decide), f 16 (by decide) (by decide), f 17 (by decide) (by decide), f 18 (by decide) (by decide), f 19 (by decide) (by decide), f 20 (by decide) (by decide), f 21 (by decide) (by decide), f 22 (by decide) (by decide), f 23 (by decide) (by decide), f 24 (by decide) (by decide)]
  unfold ktF
  refine ⟨?_, ?_, ?_, ?_, ?_, ?_, ?_, ?_, ?_, ?_, ?_, ?_, ?_⟩ <;> simp [up, a1, a2, a3, a4, a5, a6, a7, a8, a9, a12, a13, a14, a15]
theorem s1R_prm : prm s1R := by
  obtain ⟨a1, a2, _, _, _, _, _, _, _, a3, a4, _⟩ := s1R_k
  unfold prm
  rw [a1, a2, a3, a4]
  decide
theorem s1R_o {o : Int} (h : ¬ o = 0) : s1R o = cpT (ktF r0R) 25 o := by
  unfold s1R
  rw [up_other h, up_other h, up_other h, up_other h, up_other h]
theorem ct_Ref0 {l : Launch} {z : Mz} : aCal shR l yX14_init cX14_init 1 5 105 40 11406 z 1 41 [(2, ((0 : Nat) : Int))] h0R (KRf h0R) := ct_Ref Fr_h0 (fun s1 e => by rw [e]; exact s1R_prm)
theorem first_Rel {q s : Mh} (hq : KFin q) (hs : KRf h0R s) : Rel q s := by
  obtain ⟨r, s1, er, es1, hs, s77, s32, _⟩ := hs
  have e1 : s1 = s1R := by rw [es1, er]; rfl
  rw [e1] at hs s77 s32
  obtain ⟨_, c1, c2, c3, c4, c5, c6, c7, c8, c9, c10, c11, c12, c13, c14⟩ := hq
  obtain ⟨_, b0, b1, b2, b3, b17, b18, b19, b4, b5, b6, b7, b8, b9, b10, b11, b12, b13, b14, b15⟩ := c14
  obtain ⟨a1, a2, a3, a4, a5, a6, a7, a8, a9, a10, a11, a12, a13, a14, a15⟩ := r0R_a
  obtain ⟨k1, k2, k3, k4, k5, k6, k7, k8, k9, k10, k11, k12, k13⟩ := s1R_k
  have h0 : ∀ j, ¬ j = 77 → s 0 j = s1R 0 j := fun j a => by rw [hs 0 j (by omega) (by omega), wayT_ne s1R (by decide) (by decide)]
  have ho : ∀ o, ¬ o = 0 → ¬ o = 30 → ¬ o = 31 → ¬ o = 32 → ∀ j, s o j = cpT (ktF r0R) 25 o j := fun o a b c d j => by rw [hs o j (by omega) (by omega), wayT_ne s1R b c, s1R_o a]
  have g0 : ∀ j, ¬ (12 ≤ j ∧ j ≤ 38) → ¬ j = 68 → ¬ j = 76 → ¬ j = 77 → ¬ j = 82 → ¬ j = 84 → ¬ j = 85 → ¬ j = 96 → s 0 j = refH h0R 0 j := fun j a b c d e f g h => by rw [h0 j d, s1R_0 c e f g h, ktF_j (by omega), r0R_0 (by omega) b]
  have z1 : s 0 1 = 0 := by rw [g0 1 (by decide) (by decide) (by decide) (by decide) (by decide) (by decide) (by decide) (by decide)]; decide +kernel
  have z4 : s 0 4 = 0 := by rw [g0 4 (by decide) (by decide) (by decide) (by decide) (by decide) (by decide) (by decide) (by decide)]; decide +kernel
  have z5 : s 0 5 = -1 := by rw [g0 5 (by decide) (by decide) (by decide) (by decide) (by decide) (by decide) (by decide) (by decide)]; decide +kernel
  have z79 : s 0 79 = -1 := by rw [g0 79 (by decide) (by decide) (by decide) (by decide) (by decide) (by decide) (by decide) (by decide)]; decide +kernel
  have z76 : s 0 76 = 0 := by rw [h0 76 (by decide)]; unfold s1R; rw [up_slot (by decide), up_slot (by decide), up_slot (by decide), up_slot (by decide), up_self]; exact a6
  have z82 : s 0 82 = 0 := by rw [h0 82 (by decide)]; unfold s1R; rw [up_slot (by decide), up_slot (by decide), up_slot (by decide), up_self]
  have z84 : s 0 84 = 0 := by rw [h0 84 (by decide)]; unfold s1R; rw [up_slot (by decide), up_slot (by decide), up_self]
  have z85 : s 0 85 = -1 := by rw [h0 85 (by decide)]; unfold s1R; rw [up_slot (by decide), up_self]
  have z96 : s 0 96 = 0 := by rw [h0 96 (by decide)]; unfold s1R; rw [up_self]
  have z77 : s 0 77 = 0 := by rw [s77, wayT_ne s1R (by decide) (by decide)]; exact k7
  have z34 : s 0 34 = 0 := by rw [h0 34 (by decide), s1R_0 (by decide) (by decide) (by decide) (by decide) (by decide), ktF_j (by decide)]; exact a10
  have z35 : s 0 35 = 0 := by rw [h0 35 (by decide), s1R_0 (by decide) (by decide) (by decide) (by decide) (by decide), ktF_j (by decide)]; exact a11
  have z567 : ∀ c, 0 ≤ c → c < 48 → s 5 c = 0 ∧ s 6 c = 0 ∧ s 7 c = 0 := by
    intro c x0 x1
    rw [ho 5 (by decide) (by decide) (by decide) (by decide), ho 6 (by decide) (by decide) (by decide) (by decide), ho 7 (by decide) (by decide) (by decide) (by decide)]
    unfold cpT
    have o5 : off 5 = 48 := by decide
    have o6 : off 6 = 48 := by decide
    rw [o5, o6, if_pos (by omega), if_pos (by omega), if_neg (by omega), ktF_o (by decide), ktF_o (by decide), ktF_o (by decide)]
    unfold r0R plainT pl5
    rw [if_pos (by omega), if_pos (by omega), if_neg (by omega), if_pos (by omega)]
    exact ⟨rfl, rfl, rfl⟩
  have z2 : ∀ j, 0 ≤ j → j < 108 → s 2 j = wrd j := by
    intro j x0 x1
    rw [ho 2 (by decide) (by decide) (by decide) (by decide), cpT_o (Or.inl (by decide)) (by decide), ktF_o (by decide)]
    have e2 : r0R 2 j = refH h0R 2 j := by
      unfold r0R plainT pl5 pl4 pl0
      rw [if_neg (by omega), if_neg (by omega), if_neg (by omega)]
      rw [up_other (by decide), up_other (by decide), up_other (by decide), up_other (by decide), up_other (by decide), up_other (by decide), up_other (by decide), up_other (by decide), up_other (by decide), up_other (by decide), up_other (by decide), up_other (by decide), up_other (by decide), up_other (by decide), up_other (by decide), up_other (by decide), up_other (by decide), up_other (by decide)]
    rw [e2]
    obtain ⟨k, rfl⟩ := Int.eq_ofNat_of_zero_le x0
    have : ∀ k : Nat, k < 108 → look (a_wordsAL ++ a_wordsBL) 2 (k : Int) none = some (wrd k) := by decide +kernel
    have hl := this k (by omega)
    unfold refH
    rw [ups_other refLb _ 2 (by decide +kernel)]
    have ea : ∀ g : Mh, ups a_wordsBL (ups a_wordsAL g) = ups (a_wordsAL ++ a_wordsBL) g := fun g => by unfold ups; rw [List.foldl_append]
    rw [ea]
    exact ups_look _ _ 2 k none _ (fun v y => by cases y) hl
  have pp := (PP.nil (Q := q) (R := s) (by rw [c5]; exact Or.inr rfl) (by rw [c5, c2]; rfl) (by rw [c5]; exact b0) (by rw [c5]; exact b1) (by rw [c5]; exact b2) c6 (by rw [c5]; exact b17) (by rw [c5]; exact b18) (by rw [c5]; exact b19)
    (by
      intro o y
      rw [c5]
      rcases y with e | e | e | e | e | e | e | e <;> rw [e] <;> assumption) (by rw [c5]; exact b13) c11 (by rw [c5]; exact b14) (by rw [c5]; exact b15)
    (by rw [h0 12 (by decide)]; exact k1) (by rw [h0 13 (by decide)]; exact k2)
    (by
      intro j y
      have y' : j = 14 ∨ j = 15 ∨ j = 16 ∨ j = 17 ∨ j = 18 ∨ j = 19 ∨ j = 20 ∨ j = 24 ∨ j = 34 ∨ j = 35 ∨ j = 76 ∨ j = 77 := by omega
      rcases y' with e | e | e | e | e | e | e | e | e | e | e | e <;> rw [e] <;> first | assumption | (rw [h0 _ (by decide)]; assumption))
    (by rw [h0 21 (by decide)]; exact k10) (by rw [h0 22 (by decide)]; exact k11) (by rw [h0 23 (by decide)]; exact k12) z567
    (fun j x0 x1 => by rw [s32 j x0 x1, wayT_ne s1R (by decide) (by decide), hs 8 j (by omega) (by omega), wayT_ne s1R (by decide) (by decide)])).1
  refine ⟨⟨⟨by rw [c1, z1], by rw [z1]; decide, by rw [z1]; decide, fun j x0 x1 => by rw [z1] at x1; omega⟩, ⟨by rw [c3, z4], by rw [c4, z5]⟩, pp.1, pp.2.1, pp.2.2.1, ?_, ?_, ?_, z79, ?_, z2⟩, (fun y => absurd (c9.symm.trans y) (by decide)), (fun y => absurd (c10.symm.trans y) (by decide))⟩
  · refine ⟨by rw [c7, z96], fun y => absurd z96 y⟩
  · unfold RUnd
    rw [z82, z76, c8]
    exact ⟨rfl, by decide, by decide, fun i x0 x1 => by omega, Int.le_refl _⟩
  · unfold RNotes
    rw [z84, z85, c12, c13]
    exact ⟨rfl, by decide, by decide, rfl, by decide, by decide, fun i x0 x1 => by omega⟩
  · refine wayR_congr ?_ ?_ ?_ ?_ (wayR_wayT s1R)
    · intro j a b
      exact hs 0 j (by omega) (by omega)
    · funext j; exact hs 5 j (by omega) (by omega)
    · funext j; exact hs 30 j (by omega) (by omega)
    · funext j; exact hs 31 j (by omega) (by omega)
