/-! ===== the class's ways ===== -/
/-- how far and how weak, as the class has pond and reeds; 999: no way -/
def FC (q : Mh) (a b : Int) : Int × Int := if wat (q (q 53 0) 0) (q (q 53 0) 1) (cg q) a then DD (q (q 53 0) 0) (q (q 53 0) 1) (cg q) (q (q 53 0) 17) (q (q 53 0) 18) a 47 b else (999, 0)
abbrev cprm (q : Mh) : Prop := csz q ∧ (0 ≤ q (q 53 0) 17 ∧ q (q 53 0) 17 ≤ 50) ∧ (0 ≤ q (q 53 0) 18 ∧ q (q 53 0) 18 ≤ 99)
def nearOK (q : Mh) : Prop := ∀ c v, 0 ≤ c → c < q (q 53 0) 0 * q (q 53 0) 1 → 0 ≤ v → v < 5 → q 116 (5 * c + v) = nx (q (q 53 0) 0) (q (q 53 0) 1) (cg q) c v
def wayAt (q g : Mh) (a : Int) : Prop := ∀ b, 0 ≤ b → b < q (q 53 0) 0 * q (q 53 0) 1 → g 117 (48 * a + b) = (if (FC q a b).1 = 999 then -2 else (FC q a b).1) ∧ g 118 (48 * a + b) = (if (FC q a b).1 = 999 then -2 else (FC q a b).2)
theorem DD_off {w hh : Int} {g : Int → Int} {loss thick a b : Int} (ha : wat w hh g a) (hb : ¬ wat w hh g b) : ∀ n : Nat, (DD w hh g loss thick a n b).1 = 999 := by
  intro n
  induction n with
  | zero =>
    by_cases z : a = b
    · exact absurd (z ▸ ha) hb
    · rw [DD_zero, if_neg z]
  | succ n ih =>
    rw [DD_succ]
    by_cases k : 0 ≤ b ∧ b < w * hh
    · rw [if_pos k]
      unfold stp
      by_cases k2 : g b = 2
      · rw [if_pos k2]; exact ih
      · exact absurd ⟨k.1, k.2, k2⟩ hb
    · rw [if_neg k]; exact ih
/-- what a heap keeps of the class's pond -/
def pondSame (q g : Mh) : Prop := g 53 = q 53 ∧ g (q 53 0) = q (q 53 0) ∧ g 116 = q 116
theorem isP_ne {p : Int} (h : isP p) : p = 2 ∨ p = 54 := h
theorem sp_spread {q : Mh} {K : Mh → Prop} (hc : cprm q) (hnr : nearOK q) {a : Int} (a0 : 0 ≤ a) (a1 : a < 48)
    (hk : ∀ g : Mh, (∀ o j, o ≠ 119 → ¬ ((o = 117 ∨ o = 118) ∧ 48 * a ≤ j ∧ j < 48 * a + 48) → g o j = q o j) → wayAt q g a → K g) : wp_X6_spread a q K := by
  obtain ⟨hcs, ⟨l0, l1⟩, ⟨t0, t1⟩⟩ := hc
  have hp := hcs.1
  have hs := hcs.2
  have hmul := szs_mul hs
  have fr : ∀ g : Mh, (∀ o j, o ≠ 119 → ¬ ((o = 117 ∨ o = 118) ∧ 48 * a ≤ j ∧ j < 48 * a + 48) → g o j = q o j) → g 53 = q 53 ∧ g (q 53 0) = q (q 53 0) ∧ g 116 = q 116 := by
    intro g hg
    refine ⟨?_, ?_, ?_⟩
    · funext j; exact hg 53 j (by decide) (by omega)
    · funext j
      rcases hp with e | e
      · exact hg _ j (by omega) (by omega)
      · exact hg _ j (by omega) (by omega)
    · funext j; exact hg 116 j (by decide) (by omega)
  -- the walk
  have walk : ∀ (m : Nat) (lev : Int → Nat) (i v e : Int) (g : Mh), m = ((48 - i) * 6 - v).toNat → 1 ≤ v → v ≤ 5 → i < e → BI (q (q 53 0) 0) (q (q 53 0) 1) (cg q) (q (q 53 0) 17) (q (q 53 0) 18) a q lev i v e g → wat (q (q 53 0) 0) (q (q 53 0) 1) (cg q) a → Lfp (F_X6_spread a K) (118, [e, i, v], g) := by
    intro m
    induction m using Nat.strongRecOn with
    | _ m ih =>
    intro lev i v e g hm v0 v1 hi h hwa
    have hh := h
    obtain ⟨hf, hr, ha, hq, hd, hso, hl1, hmm, hn, wa, hW⟩ := hh
    obtain ⟨f1, f2, f3⟩ := fr g hf
    have f4 : g 53 0 = q 53 0 := by rw [f1]
    have f5 : cg g = cg q := by unfold cg; rw [f1, f2]
    apply L_X6_spread_118
    unfold B_X6_spread_118
    by_cases k5 : 5 ≤ v
    · rw [if_pos k5]
      intro x ex
      rw [w32_eq (by omega) (by omega)] at ex
      subst ex
      have v5 : v = 5 := by omega
      rw [v5] at h
      have h2 := h.turn hi
      apply L_X6_spread_104
      unfold B_X6_spread_104
      by_cases ke : e ≤ i + 1
      · rw [if_pos ke]
        have e2 : i + 1 = e := by omega
        rw [e2] at h2
        refine hk g hf ?_
        intro b b0 b1
        unfold FC
        rw [if_pos hwa]
        by_cases kw : wat (q (q 53 0) 0) (q (q 53 0) 1) (cg q) b
        · exact h2.done hs l0 t0 rfl b0 kw.2.1 kw.2.2
        · rw [if_pos (DD_off hwa kw 47), if_pos (DD_off hwa kw 47)]
          refine hn b b0 b1 ?_
          rintro ⟨k, k0, k1, ek⟩
          exact kw (ek ▸ (hq k k0 k1).1)
      · rw [if_neg ke, if_neg (by omega)]
        exact ih (((48 - (i + 1)) * 6 - 1).toNat) (by omega) lev (i + 1) 1 e g rfl (by omega) (by omega) (by omega) h2 hwa
    · rw [if_neg k5]
      refine ⟨⟨hr.1, by omega⟩, ?_⟩
      have hwc := hq i hr.1 hi
      refine sp_nearOf ⟨by rw [f4]; exact hp, by rw [f4, f2]; exact hs⟩ hwc.1.1 (by rw [f4, f2]; exact hwc.1.2.1) (by omega) (by omega) ?_
      rw [f3, hnr _ v hwc.1.1 hwc.1.2.1 (by omega) (by omega)]
      have hw := h.weak hs l0 t0 hi
      by_cases kb : nx (q (q 53 0) 0) (q (q 53 0) 1) (cg q) (g 119 i) v < 0
      · rw [if_pos kb]
        intro x ex
        rw [w32_eq (by omega) (by omega)] at ex
        subst ex
        refine ih _ (by omega) lev i (v + 1) e g rfl (by omega) (by omega) hi (h.keep v0 (by omega) hi (Or.inl kb) ?_) hwa
        intro k k0 k1 ek
        have := (hq k k0 k1).1.1
        omega
      · have hwb : wat (q (q 53 0) 0) (q (q 53 0) 1) (cg q) (nx (q (q 53 0) 0) (q (q 53 0) 1) (cg q) (g 119 i) v) := by
          rcases nx_r (g := cg q) (c := g 119 i) (way := v) hs with z | z
          · omega
          · exact z
        have hrd : (if bit (g 53 1) (nx (q (q 53 0) 0) (q (q 53 0) 1) (cg q) (g 119 i) v) = true then g (g 53 0) 18 else 0) = (if cg q (nx (q (q 53 0) 0) (q (q 53 0) 1) (cg q) (g 119 i) v) = 1 then q (q 53 0) 18 else 0) := by
          rw [f4, f2, f1]
          by_cases z : cg q (nx (q (q 53 0) 0) (q (q 53 0) 1) (cg q) (g 119 i) v) = 1
          · rw [if_pos z, if_pos ((cg_1 hwb.2.2).mp z)]
          · rw [if_neg z, if_neg (fun y => z ((cg_1 hwb.2.2).mpr y))]
        have hF := hwc.2.2.1
        have hL := hwc.2.2.2
        have hle := DD_le (w := q (q 53 0) 0) (hh := q (q 53 0) 1) (g := cg q) (a := a) l0 t0 (lev i) (g 119 i)
        have hle2 : ((lev i : Nat) : Int) * (q (q 53 0) 17 + q (q 53 0) 18) ≤ 48 * 149 := by
          have : ((lev i : Nat) : Int) * (q (q 53 0) 17 + q (q 53 0) 18) ≤ 48 * (q (q 53 0) 17 + q (q 53 0) 18) := Int.mul_le_mul_of_nonneg_right (by omega) (by omega)
          omega
        rw [if_neg kb, if_neg (by omega)]
        refine ⟨⟨hr.1, by omega⟩, ?_⟩
        have hin : ∀ _ : Int, 0 ≤ g 117 (48 * a + nx (q (q 53 0) 0) (q (q 53 0) 1) (cg q) (g 119 i) v) → ∃ k, 0 ≤ k ∧ k < e ∧ g 119 k = nx (q (q 53 0) 0) (q (q 53 0) 1) (cg q) (g 119 i) v := by
          intro _ z
          refine Classical.byContradiction fun y => ?_
          have := (hn _ hwb.1 hwb.2.1 y).1
          omega
        have hnin : ∀ _ : Int, g 117 (48 * a + nx (q (q 53 0) 0) (q (q 53 0) 1) (cg q) (g 119 i) v) < 0 → ¬ ∃ k, 0 ≤ k ∧ k < e ∧ g 119 k = nx (q (q 53 0) 0) (q (q 53 0) 1) (cg q) (g 119 i) v := by
          rintro _ z ⟨k, k0, k1, ek⟩
          have := (hq k k0 k1).2.2.1
          rw [ek] at this
          omega
        refine sp_handOn ⟨by rw [f4]; exact hp, by rw [f4, f2]; exact hs⟩ a0 a1 hwc.1.1 (by omega) hwb.1 (by omega) (by rw [f4, f2]; exact l0) (by rw [f4, f2]; exact l1) (by rw [f4, f2]; exact t0) (by rw [f4, f2]; exact t1) (by rw [hF]; omega) (by rw [hF]; omega) (by rw [hw]; omega) (by rw [hw]; omega) ?_ ?_ ?_
        · intro z
          rw [hrd, hF, hw, f4, f2, if_neg (by decide)]
          have hnot := hnin 0 z
          have e48 : e < 48 := (h.fresh hs l0 t0 (g' := fun o j => if (o = 117 ∧ j = 48 * a + nx (q (q 53 0) 0) (q (q 53 0) 1) (cg q) (g 119 i) v) then (lev i : Int) + 1 else if (o = 118 ∧ j = 48 * a + nx (q (q 53 0) 0) (q (q 53 0) 1) (cg q) (g 119 i) v) then (DD (q (q 53 0) 0) (q (q 53 0) 1) (cg q) (q (q 53 0) 17) (q (q 53 0) 18) a (lev i) (g 119 i)).2 + q (q 53 0) 17 + (if cg q (nx (q (q 53 0) 0) (q (q 53 0) 1) (cg q) (g 119 i) v) = 1 then q (q 53 0) 18 else 0) else if (o = 119 ∧ j = e) then nx (q (q 53 0) 0) (q (q 53 0) 1) (cg q) (g 119 i) v else g o j) v0 (by omega) hi (by omega) hnot (by simp) (by simp) (by simp) (fun o j z1 z2 => by rw [if_neg (fun y => z1 ⟨Or.inl y.1, y.2⟩), if_neg (fun y => z1 ⟨Or.inr y.1, y.2⟩), if_neg z2])).1
          rw [if_neg (by omega)]
          refine ⟨⟨by omega, e48⟩, ?_⟩
          intro g2 eg x1 ex1 x2 ex2
          rw [w32_eq (by omega) (by omega)] at ex1 ex2
          subst ex1; subst ex2
          refine ih _ (by omega) (fun k => if k = e then lev i + 1 else lev k) i (v + 1) (e + 1) g2 rfl (by omega) (by omega) (by omega) ?_ hwa
          refine (h.fresh hs l0 t0 (g' := g2) v0 (by omega) hi (by omega) hnot ?_ ?_ ?_ ?_).2
          · rw [eg, up_other (by decide), up_other (by decide), up_self]
          · rw [eg, up_other (by decide), up_self]
          · rw [eg, up_self]
          · intro o j z1 z2
            rw [eg, up_ne _ z2, up_ne _ (fun y => z1 ⟨Or.inr y.1, y.2⟩), up_ne _ (fun y => z1 ⟨Or.inl y.1, y.2⟩)]
        · intro z1 z2 z3
          rw [hrd, hw, f4, f2] at z3
          rw [hF] at z2
          rw [hrd, hF, hw, f4, f2, if_pos rfl]
          intro x ex
          rw [w32_eq (by omega) (by omega)] at ex
          subst ex
          obtain ⟨k, k0, k1, ek⟩ := hin 0 z1
          have hk2 := (hq k k0 k1).2.2.1
          have hk3 := (hq k k0 k1).1
          refine ih _ (by omega) lev i (v + 1) e _ rfl (by omega) (by omega) hi (h.better v0 (by omega) hi k0 k1 ek.symm (by rw [ek] at hk2; omega) (by omega) ?_ ?_ ?_) hwa
          · rw [ek]; exact z3
          · rw [ek, up_self]
          · intro o j y
            rw [ek] at y
            rw [up_ne _ y]
            by_cases y2 : o = 117 ∧ j = 48 * a + nx (q (q 53 0) 0) (q (q 53 0) 1) (cg q) (g 119 i) v
            · rw [y2.1, y2.2, up_self, z2]
            · rw [up_ne _ y2]
        · intro z1 z2
          rw [hrd, hw, hF, f4, f2] at z2
          rw [if_pos rfl]
          intro x ex
          rw [w32_eq (by omega) (by omega)] at ex
          subst ex
          refine ih _ (by omega) lev i (v + 1) e g rfl (by omega) (by omega) hi (h.keep v0 (by omega) hi (Or.inr (hin 0 z1)) ?_) hwa
          intro k k0 k1 ek el
          have hk2 := (hq k k0 k1).2.2.1
          rw [← ek] at hk2 ⊢
          rcases z2 with z2 | z2
          · omega
          · exact z2
  -- first all are -2
  unfold wp_X6_spread
  have start : ∀ g : Mh, (∀ o k, ¬ ((o = 117 ∨ o = 118) ∧ 48 * a ≤ k ∧ k < 48 * a + 48) → g o k = q o k) → (∀ k, 0 ≤ k → k < q (q 53 0) 0 * q (q 53 0) 1 → g 117 (48 * a + k) = -2 ∧ g 118 (48 * a + k) = -2) → Lfp (F_X6_spread a K) (54, [], g) := by
    intro g hg hgk
    obtain ⟨f1, f2, f3⟩ := fr g (fun o j _ h2 => hg o j h2)
    have f4 : g 53 0 = q 53 0 := by rw [f1]
    have f5 : cg g = cg q := by unfold cg; rw [f1, f2]
    apply L_X6_spread_54
    unfold B_X6_spread_54
    rw [f4]
    refine ⟨isP_4 hp, ?_⟩
    have hw2 := wi_isWet (q := g) (by rw [f4, f2]; exact hs) a
    rw [f4, f2, f5] at hw2
    rw [hw2, w32_eq (x := a * 48) (by omega) (by omega), w32_eq (by omega) (by omega), show a * 48 + a = 48 * a + a by omega]
    by_cases kw : wat (q (q 53 0) 0) (q (q 53 0) 1) (cg q) a
    · rw [if_pos kw, if_pos (by decide)]
      refine ⟨⟨by omega, by omega⟩, ?_⟩
      intro g1 e1
      refine ⟨⟨by omega, by omega⟩, ?_⟩
      intro g2 e2 g3 e3
      apply L_X6_spread_104
      unfold B_X6_spread_104
      rw [if_neg (by decide), if_neg (by decide)]
      have g9 : g3 119 0 = a := by rw [e3, up_self]
      refine walk _ (fun _ => 0) 0 1 1 g3 rfl (by omega) (by omega) (by omega) ?_ kw
      have k0 : ∀ k : Int, 0 ≤ k → k < 1 → k = 0 := by intro k h1 h2; omega
      refine ⟨?_, by omega, ⟨g9, rfl⟩, ?_, ?_, ?_, ?_, ?_, ?_, ?_, ?_⟩
      · intro o k h1 h2
        rw [e3, up_ne _ (fun z => h1 z.1), e2, up_ne _ (fun z => h2 ⟨Or.inr z.1, by omega, by omega⟩), e1, up_ne _ (fun z => h2 ⟨Or.inl z.1, by omega, by omega⟩)]
        exact hg o k h2
      · intro k h1 h2
        rw [k0 k h1 h2, g9]
        refine ⟨kw, Lv_zero.mpr rfl, ?_, by decide⟩
        rw [e3, up_other (by decide), e2, up_other (by decide), e1, up_self]
        rfl
      · intro k l h1 h2 h3 h4 _; omega
      · intro k l _ _ _; exact Nat.le_refl 0
      · intro l _ _ _; exact Nat.zero_le _
      · intro b hb
        constructor
        · rintro ⟨k, h1, h2, h3⟩
          rw [k0 k h1 h2, g9] at h3
          exact Or.inl h3.symm
        · rintro (z | ⟨k, u, z1, _⟩)
          · exact ⟨0, by omega, by omega, by rw [g9, z]⟩
          · unfold Pd at z1; omega
      · intro b b0 b1 hb
        have hba : b ≠ a := fun z => hb ⟨0, by omega, by omega, by rw [g9, z]⟩
        rw [e3, up_other (by decide), up_other (by decide), e2, up_other (by decide), up_ne _ (by omega), e1, up_ne _ (by omega), up_other (by decide)]
        exact hgk b b0 b1
      · rw [e3, up_other (by decide), e2, up_self]
      · intro k h1 h2; omega
    · rw [if_neg kw, if_neg (by decide)]
      refine hk g (fun o j _ h2 => hg o j h2) ?_
      intro b b0 b1
      unfold FC
      rw [if_neg kw, if_pos rfl, if_pos rfl]
      exact hgk b b0 b1
  have init : ∀ (m : Nat) (j : Int) (g : Mh), 0 ≤ j → j + m = q (q 53 0) 0 * q (q 53 0) 1 → (∀ o k, ¬ ((o = 117 ∨ o = 118) ∧ 48 * a ≤ k ∧ k < 48 * a + 48) → g o k = q o k) → (∀ k, 0 ≤ k → k < j → g 117 (48 * a + k) = -2 ∧ g 118 (48 * a + k) = -2) → Lfp (F_X6_spread a K) (2, [j], g) := by
    intro m
    induction m with
    | zero =>
      intro j g j0 hj hg hgk
      obtain ⟨f1, f2, f3⟩ := fr g (fun o j _ h2 => hg o j h2)
      have f4 : g 53 0 = q 53 0 := by rw [f1]
      apply L_X6_spread_2
      unfold B_X6_spread_2 wp_X5_cells
      rw [f4, f2, w32_eq (x := q (q 53 0) 0 * q (q 53 0) 1) (by omega) (by omega)]
      refine ⟨isP_4 hp, ?_⟩
      dsimp only
      rw [if_pos (by omega)]
      exact start g hg (fun k h1 h2 => hgk k h1 (by omega))
    | succ m ih =>
      intro j g j0 hj hg hgk
      obtain ⟨f1, f2, f3⟩ := fr g (fun o j _ h2 => hg o j h2)
      have f4 : g 53 0 = q 53 0 := by rw [f1]
      apply L_X6_spread_2
      unfold B_X6_spread_2 wp_X5_cells
      rw [f4, f2, w32_eq (x := q (q 53 0) 0 * q (q 53 0) 1) (by omega) (by omega)]
      refine ⟨isP_4 hp, ?_⟩
      dsimp only
      rw [if_neg (by omega), if_neg (by omega), w32_eq (x := a * 48) (by omega) (by omega), w32_eq (x := a * 48 + j) (by omega) (by omega), show a * 48 + j = 48 * a + j by omega]
      refine ⟨⟨by omega, by omega⟩, ?_⟩
      intro g1 e1
      refine ⟨⟨by omega, by omega⟩, ?_⟩
      intro g2 e2 x ex
      rw [w32_eq (by omega) (by omega)] at ex
      subst ex
      refine ih (j + 1) g2 (by omega) (by omega) ?_ ?_
      · intro o k h
        rw [e2, up_ne _ (fun z => h ⟨Or.inr z.1, by omega, by omega⟩), e1, up_ne _ (fun z => h ⟨Or.inl z.1, by omega, by omega⟩)]
        exact hg o k h
      · intro k h1 h2
        by_cases z : k = j
        · rw [z, e2, up_self, up_other (by decide), e1, up_self]
          exact ⟨rfl, rfl⟩
        · rw [e2, up_other (by decide), up_ne _ (by omega), e1, up_ne _ (by omega), up_other (by decide)]
          exact hgk k h1 (by omega)
  exact init (q (q 53 0) 0 * q (q 53 0) 1).toNat 0 q (by omega) (by omega) (fun _ _ _ => rfl) (fun k h1 h2 => by omega)
theorem cg_congr {q g : Mh} (h0 : g 53 0 = q 53 0) (h1 : g 53 1 = q 53 1) (hp : g (q 53 0) = q (q 53 0)) : cg g = cg q := by
  unfold cg
  rw [h0, h1, hp]
theorem FC_congr {q g : Mh} (h0 : g 53 0 = q 53 0) (h1 : g 53 1 = q 53 1) (hp : g (q 53 0) = q (q 53 0)) : FC g = FC q := by
  funext a b
  unfold FC
  rw [cg_congr h0 h1 hp, h0, hp]
theorem nearOK_congr {q g : Mh} (h0 : g 53 0 = q 53 0) (h1 : g 53 1 = q 53 1) (hp : g (q 53 0) = q (q 53 0)) (h : g 116 = q 116) (hn : nearOK q) : nearOK g := by
  intro c v
  rw [cg_congr h0 h1 hp, h0, hp, h]
  exact hn c v
def waysOK (q : Mh) : Prop := nearOK q ∧ ∀ a, 0 ≤ a → a < q (q 53 0) 0 * q (q 53 0) 1 → wayAt q q a
theorem waysOK_congr {q g : Mh} (h0 : g 53 0 = q 53 0) (h1 : g 53 1 = q 53 1) (hp : g (q 53 0) = q (q 53 0)) (h6 : g 116 = q 116) (h7 : g 117 = q 117) (h8 : g 118 = q 118) (h : waysOK q) : waysOK g := by
  refine ⟨nearOK_congr h0 h1 hp h6 h.1, ?_⟩
  intro a a0 a1 b b0 b1
  rw [h0, hp] at a1 b1
  rw [h7, h8, FC_congr h0 h1 hp]
  exact h.2 a a0 a1 b b0 b1
/-- all but the ways' rows -/
def frW (q g : Mh) : Prop := ∀ o j, ¬ (116 ≤ o ∧ o ≤ 119) → ¬ (o = 53 ∧ j = 8) → g o j = q o j
theorem frW.at0 {q g : Mh} (h : frW q g) : g 53 0 = q 53 0 := h 53 0 (by decide) (by decide)
theorem frW.at1 {q g : Mh} (h : frW q g) : g 53 1 = q 53 1 := h 53 1 (by decide) (by decide)
theorem frW.row {q g : Mh} (h : frW q g) {o : Int} (h1 : ¬ (116 ≤ o ∧ o ≤ 119)) (h2 : o ≠ 53) : g o = q o := by
  funext j
  exact h o j h1 (fun z => h2 z.1)
theorem frW.pond {q g : Mh} (h : frW q g) (hp : isP (q 53 0)) : g (q 53 0) = q (q 53 0) := by
  rcases hp with e | e
  · exact h.row (by omega) (by omega)
  · exact h.row (by omega) (by omega)
theorem sp_freshenWays {q : Mh} {K : Mh → Prop} (hc : cprm q) (hW : q 53 8 = 0 → waysOK q) (hk : ∀ g, frW q g → g 53 8 = 0 → waysOK g → K g) : wp_X6_freshenWays q K := by
  unfold wp_X6_freshenWays
  by_cases k : q 53 8 = 0
  · rw [if_neg (by omega)]
    exact hk q (fun _ _ _ _ => rfl) k (hW k)
  · rw [if_pos k]
    intro q1 e1
    have f0 : q1 53 0 = q 53 0 := by rw [e1, up_slot (by decide)]
    have f1 : q1 53 1 = q 53 1 := by rw [e1, up_slot (by decide)]
    have fp : q1 (q 53 0) = q (q 53 0) := by
      rw [e1]
      refine up_other ?_
      rcases hc.1.1 with e | e <;> omega
    have hs1 : csz q1 := ⟨by rw [f0]; exact hc.1.1, by rw [f0, fp]; exact hc.1.2⟩
    refine sp_layNeighbours hs1 ?_
    obtain ⟨n1, n2, n3⟩ := nearK_eq hs1.1 (5 * (q1 (q1 53 0) 0 * q1 (q1 53 0) 1))
    generalize e2 : nearK q1 (5 * (q1 (q1 53 0) 0 * q1 (q1 53 0) 1)) = q2 at *
    rw [f0] at n2
    have g0 : q2 53 0 = q 53 0 := by rw [n1, f0]
    have g1 : q2 53 1 = q 53 1 := by rw [n1, f1]
    have gp : q2 (q 53 0) = q (q 53 0) := by rw [n2, fp]
    have gc : cg q2 = cg q := cg_congr g0 g1 gp
    have fr2 : frW q q2 := by
      intro o j h1 h2
      rw [← e2]
      unfold nearK
      rw [if_neg (by omega), e1, up_ne _ h2]
    have nr2 : nearOK q2 := by
      intro c v c0 c1 v0 v1
      rw [g0, gp] at c1 ⊢
      rw [gc, ← e2]
      unfold nearK
      rw [f0, fp, if_pos ⟨rfl, by omega, by omega⟩, cg_congr f0 f1 fp, show (5 * c + v) / 5 = c by omega, show (5 * c + v) % 5 = v by omega]
    have z2 : q2 53 8 = 0 := by rw [n1, e1, up_self]
    have hc2 : cprm q2 := by
      unfold cprm csz
      rw [g0, gp]
      exact hc
    -- cell by cell
    have hm2 := szs_mul hc2.1.2
    have loop : ∀ (m : Nat) (a : Int) (g : Mh), 0 ≤ a → a + m = q2 (q2 53 0) 0 * q2 (q2 53 0) 1 → (∀ o j, ¬ (117 ≤ o ∧ o ≤ 119) → g o j = q2 o j) → (∀ b, 0 ≤ b → b < a → wayAt q2 g b) → Lfp (F_X6_freshenWays K) (25, [a], g) := by
      intro m
      induction m with
      | zero =>
        intro a g a0 ha hg hw
        apply L_X6_freshenWays_25
        unfold B_X6_freshenWays_25 wp_X5_cells
        have r53 : g 53 = q2 53 := by funext j; exact hg 53 j (by decide)
        have r116 : g 116 = q2 116 := by funext j; exact hg 116 j (by decide)
        have rp : g (q2 53 0) = q2 (q2 53 0) := by
          funext j
          rcases hc2.1.1 with e | e
          · exact hg _ j (by omega)
          · exact hg _ j (by omega)
        rw [r53, rp, w32_eq (x := q2 (q2 53 0) 0 * q2 (q2 53 0) 1) (by omega) (by omega)]
        refine ⟨isP_4 hc2.1.1, ?_⟩
        dsimp only
        rw [if_pos (by omega)]
        refine hk g ?_ ?_ ⟨nearOK_congr (by rw [r53]) (by rw [r53]) rp r116 nr2, ?_⟩
        · intro o j h1 h2
          rw [hg o j (by omega)]
          exact fr2 o j h1 h2
        · rw [r53]; exact z2
        · intro b b0 b1 c c0 c1
          rw [r53, rp] at b1 c1
          rw [FC_congr (q := q2) (by rw [r53]) (by rw [r53]) rp]
          exact hw b b0 (by omega) c c0 c1
      | succ m ih =>
        intro a g a0 ha hg hw
        apply L_X6_freshenWays_25
        unfold B_X6_freshenWays_25 wp_X5_cells
        have r53 : g 53 = q2 53 := by funext j; exact hg 53 j (by decide)
        have r116 : g 116 = q2 116 := by funext j; exact hg 116 j (by decide)
        have rp : g (q2 53 0) = q2 (q2 53 0) := by
          funext j
          rcases hc2.1.1 with e | e
          · exact hg _ j (by omega)
          · exact hg _ j (by omega)
        have hcg : cprm g := by
          unfold cprm csz
          rw [r53, rp]
          exact hc2
        rw [r53, rp, w32_eq (x := q2 (q2 53 0) 0 * q2 (q2 53 0) 1) (by omega) (by omega)]
        refine ⟨isP_4 hc2.1.1, ?_⟩
        dsimp only
        rw [if_neg (by omega), if_neg (by omega)]
        refine sp_spread hcg (nearOK_congr (by rw [r53]) (by rw [r53]) rp r116 nr2) a0 (by omega) ?_
        intro g3 f3 w3 x ex
        rw [w32_eq (by omega) (by omega)] at ex
        subst ex
        refine ih (a + 1) g3 (by omega) (by omega) ?_ ?_
        · intro o j h1
          rw [f3 o j (by omega) (by omega)]
          exact hg o j h1
        · intro b b0 b1
          by_cases z : b = a
          · rw [z]
            intro c c0 c1
            rw [← FC_congr (q := q2) (g := g) (by rw [r53]) (by rw [r53]) rp]
            exact w3 c c0 (by rw [r53, rp]; exact c1)
          · intro c c0 c1
            rw [f3 117 _ (by decide) (by omega), f3 118 _ (by decide) (by omega)]
            exact hw b b0 (by omega) c c0 c1
    exact loop (q2 (q2 53 0) 0 * q2 (q2 53 0) 1).toNat 0 q2 (by omega) (by omega) (fun _ _ _ => rfl) (fun b h1 h2 => by omega)
