/-! ===== the reference's token ===== -/
def frK (h g : Mh) : Prop := ∀ o j, ¬ (o = 0 ∧ 7 ≤ j ∧ j ≤ 10) → g o j = h o j
theorem wi_isSmall {h : Mh} {p : Int} (p0 : 0 ≤ p) (hn : h 0 6 ≤ 800) (K : Int → Mh → Prop) : wp_X14_isSmall p h K = K (if p < h 0 6 ∧ isS (h 1 p) = true then 1 else 0) h := by
  unfold wp_X14_isSmall isS
  by_cases c : h 0 6 ≤ p
  · rw [if_pos c, if_neg (by omega)]
  · rw [if_neg c]
    have b : (0 : Int) ≤ p ∧ p < 800 := ⟨p0, by omega⟩
    by_cases c1 : h 1 p < 97
    · rw [if_pos c1, if_neg (fun z => by have := of_decide_eq_true z.2; omega)]
      exact propext ⟨fun z => z.2, fun z => ⟨b, z⟩⟩
    · rw [if_neg c1]
      by_cases c2 : 122 < h 1 p
      · rw [if_pos c2, if_neg (fun z => by have := of_decide_eq_true z.2; omega)]
        exact propext ⟨fun z => z.2.2, fun z => ⟨b, b, z⟩⟩
      · rw [if_neg c2, if_pos ⟨by omega, decide_eq_true ⟨by omega, by omega⟩⟩]
        exact propext ⟨fun z => z.2.2, fun z => ⟨b, b, z⟩⟩
theorem wi_isDigitR {h : Mh} {p : Int} (p0 : 0 ≤ p) (hn : h 0 6 ≤ 800) (K : Int → Mh → Prop) : wp_X14_isDigit p h K = K (if p < h 0 6 ∧ isD (h 1 p) = true then 1 else 0) h := by
  unfold wp_X14_isDigit isD
  by_cases c : h 0 6 ≤ p
  · rw [if_pos c, if_neg (by omega)]
  · rw [if_neg c]
    have b : (0 : Int) ≤ p ∧ p < 800 := ⟨p0, by omega⟩
    by_cases c1 : h 1 p < 48
    · rw [if_pos c1, if_neg (fun z => by have := of_decide_eq_true z.2; omega)]
      exact propext ⟨fun z => z.2, fun z => ⟨b, z⟩⟩
    · rw [if_neg c1]
      by_cases c2 : 57 < h 1 p
      · rw [if_pos c2, if_neg (fun z => by have := of_decide_eq_true z.2; omega)]
        exact propext ⟨fun z => z.2.2, fun z => ⟨b, b, z⟩⟩
      · rw [if_neg c2, if_pos ⟨by omega, decide_eq_true ⟨by omega, by omega⟩⟩]
        exact propext ⟨fun z => z.2.2, fun z => ⟨b, b, z⟩⟩
theorem frK_up {h g : Mh} {i v : Int} (f : frK h g) (a : 7 ≤ i) (b : i ≤ 10) : frK h (up g 0 i v) := fun o j c => by rw [up_ne _ (by omega), f o j c]
/-- a sign, or what is none -/
theorem sp_signToken {h : Mh} {K : Mh → Prop} (p0 : 0 ≤ h 0 7) (pn : h 0 7 < h 0 6) (hn : h 0 6 ≤ 800) (nS : isS (h 1 (h 0 7)) = false) (nD : isD (h 1 (h 0 7)) = false) (hk : ∀ g, frK h g → g 0 10 = h 0 10 → g 0 7 = tE (h 1) (h 0 6) (h 0 7) → g 0 8 = (tR (h 1) (h 0 6) (h 0 7)).1 → g 0 9 = (tR (h 1) (h 0 6) (h 0 7)).2 → K g) : wp_X14_signToken h K := by
  have e1 : ¬ isS (h 1 (h 0 7)) = true := by rw [nS]; decide
  have e2 : ¬ isD (h 1 (h 0 7)) = true := by rw [nD]; decide
  obtain ⟨n, en⟩ : ∃ n, n = h 0 6 := ⟨_, rfl⟩
  obtain ⟨p, ep⟩ : ∃ p, p = h 0 7 := ⟨_, rfl⟩
  obtain ⟨b, eb⟩ : ∃ b, b = h 1 p := ⟨_, rfl⟩
  rw [← en, ← ep] at hk
  rw [← ep] at p0 pn e1 e2
  rw [← en] at pn hn
  unfold tE tR at hk
  rw [if_neg e1, if_neg e2, if_neg e1, if_neg e2, ← eb] at hk
  unfold wp_X14_signToken
  rw [← ep, ← eb]
  refine ⟨⟨p0, by omega⟩, ?_⟩
  intro h1 q1 h2 q2
  have v7 : h1 0 7 = p := by rw [q1, up_slot (by decide)]; exact ep.symm
  rw [v7, w32_eq (by omega) (by omega)] at q2
  have v9 : h2 0 9 = b := by rw [q2, up_slot (by decide), q1, up_self]
  have w7 : h2 0 7 = p + 1 := by rw [q2, up_self]
  have w6 : h2 0 6 = n := by rw [q2, up_slot (by decide), q1, up_slot (by decide)]; exact en.symm
  have w1 : h2 1 = h 1 := by rw [q2, up_other (by decide), q1, up_other (by decide)]
  have w10 : h2 0 10 = h 0 10 := by rw [q2, up_slot (by decide), q1, up_slot (by decide)]
  have f2 : frK h h2 := by rw [q2, q1]; exact frK_up (frK_up (fun _ _ _ => rfl) (by decide) (by decide)) (by decide) (by decide)
  have wq : w32 (p + 1 + 1) = p + 2 := by rw [w32_eq (by omega) (by omega)]; omega
  rw [v9]
  -- signs that stand alone
  have alone : ∀ kd : Int, ¬ b = 60 → ¬ b = 62 → ¬ b = 61 → (kd = if b = 59 ∨ b = 40 ∨ b = 41 ∨ b = 43 ∨ b = 45 ∨ b = 42 ∨ b = 47 ∨ b = 37 then 4 else 6) → ∀ h3, h3 = up h2 0 8 kd → K h3 := by
    intro kd n60 n62 n61 hkd h3 q3
    rw [if_neg (show ¬ ((b = 60 ∧ p + 1 < n ∧ (h 1 (p + 1) = 61 ∨ h 1 (p + 1) = 62)) ∨ (b = 62 ∧ p + 1 < n ∧ h 1 (p + 1) = 61)) from fun z => z.elim (fun y => n60 y.1) (fun y => n62 y.1)), if_neg n61, if_neg n60, if_neg n62] at hk
    refine hk h3 (by rw [q3]; exact frK_up f2 (by decide) (by decide)) (by rw [q3, up_slot (by decide)]; exact w10) (by rw [q3, up_slot (by decide)]; exact w7) (by rw [q3, up_self]; exact hkd) (by rw [q3, up_slot (by decide)]; exact v9)
  have l270 : ¬ b = 60 → ¬ b = 62 → ¬ b = 61 → (b = 59 ∨ b = 40 ∨ b = 41 ∨ b = 43 ∨ b = 45 ∨ b = 42 ∨ b = 47 ∨ b = 37) → Lfp (F_X14_signToken K) (270, [], h2) := by
    intro n60 n62 n61 hb
    apply L_X14_signToken_270
    unfold B_X14_signToken_270
    rw [if_neg (by decide)]
    exact alone 4 n60 n62 n61 (by rw [if_pos hb])
  -- comparisons
  have l135 : ∀ (eq un : Int) (u : Mh), frK h u → u 0 10 = h 0 10 → u 0 9 = b → (eq = 0 ∨ eq = 1) → (un = 0 ∨ un = 1) → (b = 60 ∨ b = 61 ∨ b = 62) → (u 0 7 = if (b = 60 ∧ p + 1 < n ∧ (h 1 (p + 1) = 61 ∨ h 1 (p + 1) = 62)) ∨ (b = 62 ∧ p + 1 < n ∧ h 1 (p + 1) = 61) then p + 2 else p + 1) → (eq = 1 ↔ ¬ b = 61 ∧ p + 1 < n ∧ h 1 (p + 1) = 61) → (un = 1 ↔ b = 60 ∧ p + 1 < n ∧ h 1 (p + 1) = 62) → Lfp (F_X14_signToken K) (135, [eq, un], u) := by
    intro eq un u fu u10 u9 he hu hb u7 heq hun
    apply L_X14_signToken_135
    unfold B_X14_signToken_135
    intro u1 q1
    have v9' : u1 0 9 = b := by rw [q1, up_slot (by decide)]; exact u9
    rw [v9']
    have fin : ∀ wh : Int, (wh = (if b = 61 then ((5 : Int), (2 : Int)) else if b = 60 then (5, if p + 1 < n ∧ h 1 (p + 1) = 61 then 1 else if p + 1 < n ∧ h 1 (p + 1) = 62 then 3 else 0) else if b = 62 then (5, if p + 1 < n ∧ h 1 (p + 1) = 61 then 4 else 5) else (if b = 59 ∨ b = 40 ∨ b = 41 ∨ b = 43 ∨ b = 45 ∨ b = 42 ∨ b = 47 ∨ b = 37 then 4 else 6, b)).2) → ∀ u2, u2 = up u1 0 9 wh → K u2 := by
      intro wh ewh u2 q2
      refine hk u2 (by rw [q2, q1]; exact frK_up (frK_up fu (by decide) (by decide)) (by decide) (by decide)) (by rw [q2, up_slot (by decide), q1, up_slot (by decide)]; exact u10) (by rw [q2, up_slot (by decide), q1, up_slot (by decide)]; exact u7) ?_ (by rw [q2, up_self]; exact ewh)
      rw [q2, up_slot (by decide), q1, up_self]
      rcases hb with z | z | z
      · rw [z]; rfl
      · rw [z]; rfl
      · rw [z]; rfl
    by_cases b61 : b = 61
    · rw [if_neg (fun z => z b61)]
      exact fin 2 (by rw [if_pos b61])
    · rw [if_pos b61]
      by_cases b60 : b = 60
      · rw [if_neg (fun z => z b60)]
        by_cases e : eq = 0
        · rw [if_pos e]
          have ne : ¬ (p + 1 < n ∧ h 1 (p + 1) = 61) := fun z => absurd (e.symm.trans (heq.mpr ⟨b61, z⟩)) (by decide)
          by_cases u0 : un = 0
          · rw [if_pos u0]
            have nu : ¬ (p + 1 < n ∧ h 1 (p + 1) = 62) := fun z => absurd (u0.symm.trans (hun.mpr ⟨b60, z⟩)) (by decide)
            exact fin 0 (by rw [if_neg b61, if_pos b60]; dsimp only; rw [if_neg ne, if_neg nu])
          · rw [if_neg u0]
            have nu := (hun.mp (hu.resolve_left u0)).2
            exact fin 3 (by rw [if_neg b61, if_pos b60]; dsimp only; rw [if_neg ne, if_pos nu])
        · rw [if_neg e]
          have ne := (heq.mp (he.resolve_left e)).2
          exact fin 1 (by rw [if_neg b61, if_pos b60]; dsimp only; rw [if_pos ne])
      · rw [if_pos b60]
        have b62 : b = 62 := (hb.resolve_left b60).resolve_left b61
        by_cases e : eq = 0
        · rw [if_pos e]
          have ne : ¬ (p + 1 < n ∧ h 1 (p + 1) = 61) := fun z => absurd (e.symm.trans (heq.mpr ⟨b61, z⟩)) (by decide)
          exact fin 5 (by rw [if_neg b61, if_neg b60, if_pos b62]; dsimp only; rw [if_neg ne])
        · rw [if_neg e]
          have ne := (heq.mp (he.resolve_left e)).2
          exact fin 4 (by rw [if_neg b61, if_neg b60, if_pos b62]; dsimp only; rw [if_pos ne])
  have l50 : (b = 60 ∨ b = 61 ∨ b = 62) → Lfp (F_X14_signToken K) (50, [], h2) := by
    intro hb
    apply L_X14_signToken_50
    unfold B_X14_signToken_50
    rw [w6, w7, w1]
    -- what comes then
    have l74 : ∀ th : Int, (th = if p + 1 < n then h 1 (p + 1) else 0) → Lfp (F_X14_signToken K) (74, [th], h2) := by
      intro th eth
      have thq : ∀ c : Int, ¬ c = 0 → (th = c ↔ p + 1 < n ∧ h 1 (p + 1) = c) := by
        intro c c0
        rw [eth]
        by_cases z : p + 1 < n
        · rw [if_pos z]; exact ⟨fun y => ⟨z, y⟩, fun y => y.2⟩
        · rw [if_neg z]; exact ⟨fun y => absurd y.symm c0, fun y => absurd y.1 z⟩
      have t61 := thq 61 (by decide)
      have t62 := thq 62 (by decide)
      have l116 : ∀ eq un : Int, (eq = 0 ∨ eq = 1) → (un = 0 ∨ un = 1) → (eq = 1 ↔ ¬ b = 61 ∧ th = 61) → (un = 1 ↔ b = 60 ∧ th = 62) → Lfp (F_X14_signToken K) (116, [eq, un], h2) := by
        intro eq un he hu heq hun
        have he2 : eq = 1 ↔ ¬ b = 61 ∧ p + 1 < n ∧ h 1 (p + 1) = 61 := by rw [heq, t61]
        have hu2 : un = 1 ↔ b = 60 ∧ p + 1 < n ∧ h 1 (p + 1) = 62 := by rw [hun, t62]
        have go1 : (eq = 1 ∨ un = 1) → Lfp (F_X14_signToken K) (125, [eq, un], h2) := by
          intro hor
          apply L_X14_signToken_125
          unfold B_X14_signToken_125
          rw [w7, wq]
          intro u q
          refine l135 eq un u (by rw [q]; exact frK_up f2 (by decide) (by decide)) (by rw [q, up_slot (by decide)]; exact w10) (by rw [q, up_slot (by decide)]; exact v9) he hu hb ?_ he2 hu2
          rw [q, up_self, if_pos]
          · rcases hor with z | z
            · obtain ⟨x1, x2, x3⟩ := he2.mp z
              rcases hb with y | y | y
              · exact Or.inl ⟨y, x2, Or.inl x3⟩
              · exact absurd y x1
              · exact Or.inr ⟨y, x2, x3⟩
            · obtain ⟨x1, x2, x3⟩ := hu2.mp z
              exact Or.inl ⟨x1, x2, Or.inr x3⟩
        apply L_X14_signToken_116
        unfold B_X14_signToken_116
        by_cases z : eq = 0
        · rw [if_neg (fun y => y z)]
          by_cases y : un = 0
          · rw [if_pos y]
            refine l135 eq un h2 f2 w10 v9 he hu hb ?_ he2 hu2
            rw [w7, if_neg]
            rintro (⟨x1, x2, x3 | x3⟩ | ⟨x1, x2, x3⟩)
            · exact absurd (z.symm.trans (he2.mpr ⟨by rw [x1]; decide, x2, x3⟩)) (by decide)
            · exact absurd (y.symm.trans (hu2.mpr ⟨x1, x2, x3⟩)) (by decide)
            · exact absurd (z.symm.trans (he2.mpr ⟨by rw [x1]; decide, x2, x3⟩)) (by decide)
          · rw [if_neg y]; exact go1 (Or.inr (hu.resolve_left y))
        · rw [if_pos z]; exact go1 (Or.inl (he.resolve_left z))
      have l95 : ∀ eq : Int, (eq = 0 ∨ eq = 1) → (eq = 1 ↔ ¬ b = 61 ∧ th = 61) → Lfp (F_X14_signToken K) (95, [th, eq], h2) := by
        intro eq he heq
        have l115 : ¬ (b = 60 ∧ th = 62) → Lfp (F_X14_signToken K) (115, [eq], h2) := by
          intro hn2
          apply L_X14_signToken_115
          unfold B_X14_signToken_115
          exact l116 eq 0 he (Or.inl rfl) heq ⟨fun z => absurd z (by decide), fun z => absurd z hn2⟩
        apply L_X14_signToken_95
        unfold B_X14_signToken_95
        rw [v9]
        by_cases z : b = 60
        · rw [if_neg (fun y => y z)]
          by_cases y : th = 62
          · rw [if_neg (fun x => x y)]
            exact l116 eq 1 he (Or.inr rfl) heq ⟨fun _ => ⟨z, y⟩, fun _ => rfl⟩
          · rw [if_pos y]; exact l115 (fun x => y x.2)
        · rw [if_pos z]; exact l115 (fun x => z x.1)
      have l94 : ¬ (¬ b = 61 ∧ th = 61) → Lfp (F_X14_signToken K) (94, [th], h2) := by
        intro hn2
        apply L_X14_signToken_94
        unfold B_X14_signToken_94
        exact l95 0 (Or.inl rfl) ⟨fun z => absurd z (by decide), fun z => absurd z hn2⟩
      apply L_X14_signToken_74
      unfold B_X14_signToken_74
      rw [v9]
      by_cases z : b = 61
      · rw [if_pos z]; exact l94 (fun y => y.1 z)
      · rw [if_neg z]
        by_cases y : th = 61
        · rw [if_neg (fun x => x y)]
          exact l95 1 (Or.inr rfl) ⟨fun _ => ⟨z, y⟩, fun _ => rfl⟩
        · rw [if_pos y]; exact l94 (fun x => y x.2)
    by_cases z : n ≤ p + 1
    · rw [if_pos z]; exact l74 0 (by rw [if_neg (by omega)])
    · rw [if_neg z]
      exact ⟨⟨by omega, by omega⟩, l74 _ (by rw [if_pos (by omega)])⟩
  by_cases b60 : b = 60
  · rw [if_pos b60]; exact l50 (by omega)
  rw [if_neg b60]
  by_cases b62 : b = 62
  · rw [if_pos b62]; exact l50 (by omega)
  rw [if_neg b62]
  by_cases b61 : b = 61
  · rw [if_neg (fun z => z b61)]; exact l50 (by omega)
  rw [if_pos b61]
  by_cases c1 : b = 59
  · rw [if_pos c1]; exact l270 b60 b62 b61 (by omega)
  rw [if_neg c1]
  by_cases c2 : b = 40
  · rw [if_pos c2]; exact l270 b60 b62 b61 (by omega)
  rw [if_neg c2]
  by_cases c3 : b = 41
  · rw [if_pos c3]; exact l270 b60 b62 b61 (by omega)
  rw [if_neg c3]
  by_cases c4 : b = 43
  · rw [if_pos c4]; exact l270 b60 b62 b61 (by omega)
  rw [if_neg c4]
  by_cases c5 : b = 45
  · rw [if_pos c5]; exact l270 b60 b62 b61 (by omega)
  rw [if_neg c5]
  by_cases c6 : b = 42
  · rw [if_pos c6]; exact l270 b60 b62 b61 (by omega)
  rw [if_neg c6]
  by_cases c7 : b = 47
  · rw [if_pos c7]; exact l270 b60 b62 b61 (by omega)
  rw [if_neg c7]
  by_cases c8 : b = 37
  · rw [if_neg (fun z => z c8)]; exact l270 b60 b62 b61 (by omega)
  · rw [if_pos c8, if_pos rfl]
    exact alone 6 b60 b62 b61 (by rw [if_neg (by omega)])
