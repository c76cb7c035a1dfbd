/-- signs -/
def cdo (c : Int) : Int := if c = 40 then 19 else if c = 41 then 20 else if c = 42 then 17 else if c = 43 then 15 else if c = 45 then 16 else if c = 47 then 18 else if c = 59 then 21 else if c = 60 then 9 else if c = 61 then 11 else if c = 62 then 14 else -1
theorem sp_codeOf {c : Int} {h : Mh} {K : Int → Mh → Prop} (hk : K (cdo c) h) : wp_X10_codeOf c h K := by
  have d : cdo c = -1 → Lfp (F_X10_codeOf c K) (138, [], h) := by
    intro z
    rw [z] at hk
    apply L_X10_codeOf_138
    unfold B_X10_codeOf_138
    exact hk
  unfold wp_X10_codeOf
  by_cases z : c = 40
  · rw [if_pos z]; rw [z] at hk; exact hk
  rw [if_neg z]
  by_cases z : c = 41
  · rw [if_pos z]; rw [z] at hk; exact hk
  rw [if_neg z]
  by_cases z : c = 42
  · rw [if_pos z]; rw [z] at hk; exact hk
  rw [if_neg z]
  by_cases z : c = 43
  · rw [if_pos z]; rw [z] at hk; exact hk
  rw [if_neg z]
  by_cases z : c = 44
  · rw [if_pos z]; exact d (by rw [z]; rfl)
  rw [if_neg z]
  by_cases z : c = 45
  · rw [if_pos z]; rw [z] at hk; exact hk
  rw [if_neg z]
  by_cases z : c = 46
  · rw [if_pos z]; exact d (by rw [z]; rfl)
  rw [if_neg z]
  by_cases z : c = 47
  · rw [if_pos z]; rw [z] at hk; exact hk
  rw [if_neg z]
  by_cases z : c = 48
  · rw [if_pos z]; exact d (by rw [z]; rfl)
  rw [if_neg z]
  by_cases z : c = 49
  · rw [if_pos z]; exact d (by rw [z]; rfl)
  rw [if_neg z]
  by_cases z : c = 50
  · rw [if_pos z]; exact d (by rw [z]; rfl)
  rw [if_neg z]
  by_cases z : c = 51
  · rw [if_pos z]; exact d (by rw [z]; rfl)
  rw [if_neg z]
  by_cases z : c = 52
  · rw [if_pos z]; exact d (by rw [z]; rfl)
  rw [if_neg z]
  by_cases z : c = 53
  · rw [if_pos z]; exact d (by rw [z]; rfl)
  rw [if_neg z]
  by_cases z : c = 54
  · rw [if_pos z]; exact d (by rw [z]; rfl)
  rw [if_neg z]
  by_cases z : c = 55
  · rw [if_pos z]; exact d (by rw [z]; rfl)
  rw [if_neg z]
  by_cases z : c = 56
  · rw [if_pos z]; exact d (by rw [z]; rfl)
  rw [if_neg z]
  by_cases z : c = 57
  · rw [if_pos z]; exact d (by rw [z]; rfl)
  rw [if_neg z]
  by_cases z : c = 58
  · rw [if_pos z]; exact d (by rw [z]; rfl)
  rw [if_neg z]
  by_cases z : c = 59
  · rw [if_pos z]; rw [z] at hk; exact hk
  rw [if_neg z]
  by_cases z : c = 60
  · rw [if_pos z]; rw [z] at hk; exact hk
  rw [if_neg z]
  by_cases z : c = 61
  · rw [if_pos z]; rw [z] at hk; exact hk
  rw [if_neg z]
  by_cases z : c = 62
  · rw [if_pos z]; rw [z] at hk; exact hk
  rw [if_neg z]
  exact d (by unfold cdo; simp only [*, if_false])
theorem sp_scanSign {h : Mh} {B : Int → Int} {K : Mh → Prop} (hB : byt B (h 1) (h 49 5)) (hn : h 49 5 ≤ 800) (p0 : 0 ≤ h 49 6) (pn : h 49 6 < h 49 5) (k0 : 0 ≤ h 49 4) (k1 : h 49 4 < 800) (nS : isS (B (h 49 6)) = false) (nD : isD (B (h 49 6)) = false) (hb : isB (B (h 49 6)) = true → K (up h 49 6 (h 49 6 + 1))) (hk : isB (B (h 49 6)) = false → ∀ t v, tRel t v (tR B (h 49 5) (h 49 6)).1 (tR B (h 49 5) (h 49 6)).2 → K (addT h (tE B (h 49 5) (h 49 6)) t (h 49 6) v)) : wp_X10_scanSign (h 1 (h 49 6)) h K := by
  obtain ⟨p, ep⟩ : ∃ p, p = h 49 6 := ⟨_, rfl⟩
  obtain ⟨n, en⟩ : ∃ n, n = h 49 5 := ⟨_, rfl⟩
  rw [← ep] at hb
  rw [← ep, ← en] at hk
  rw [← ep] at p0 pn nS nD
  rw [← en] at hB hn pn
  rw [← ep]
  have ce : ∀ x, 0 ≤ x → x < 128 → (h 1 p = x ↔ B p = x) := fun x a b => hB.e p0 pn a b
  obtain ⟨c, ec⟩ : ∃ c, c = h 1 p := ⟨_, rfl⟩
  obtain ⟨b, eb⟩ : ∃ b, b = B p := ⟨_, rfl⟩
  rw [← ec, ← eb] at ce
  rw [← ec]
  have te : tE B n p = if (b = 60 ∧ p + 1 < n ∧ (B (p + 1) = 61 ∨ B (p + 1) = 62)) ∨ (b = 62 ∧ p + 1 < n ∧ B (p + 1) = 61) then p + 2 else p + 1 := by
    unfold tE; rw [nS, nD, if_neg (by decide), if_neg (by decide), ← eb]
  have tr : tR B n p = if b = 61 then (5, 2) else if b = 60 then (5, if p + 1 < n ∧ B (p + 1) = 61 then 1 else if p + 1 < n ∧ B (p + 1) = 62 then 3 else 0) else if b = 62 then (5, if p + 1 < n ∧ B (p + 1) = 61 then 4 else 5) else (if b = 59 ∨ b = 40 ∨ b = 41 ∨ b = 43 ∨ b = 45 ∨ b = 42 ∨ b = 47 ∨ b = 37 then 4 else 6, b) := by
    unfold tR; rw [nS, nD, if_neg (by decide), if_neg (by decide), ← eb]
  obtain ⟨E, eE⟩ : ∃ E, E = tE B n p := ⟨_, rfl⟩
  rw [← eE, tr] at hk
  rw [← eE] at te
  rw [← eb] at hk hb
  clear tr eE
  unfold wp_X10_scanSign
  rw [← ep, w32_eq (by omega) (by omega)]
  intro x1 ex1 h1 q1
  rw [← q1] at hb
  by_cases c10 : c = 10
  · rw [if_pos c10]; exact hb (decide_eq_true (Or.inl ((ce 10 (by decide) (by decide)).mp c10)))
  rw [if_neg c10]
  by_cases c32 : c = 32
  · rw [if_neg (fun z => z c32)]; exact hb (decide_eq_true (Or.inr ((ce 32 (by decide) (by decide)).mp c32)))
  rw [if_pos c32]
  have hk := hk (decide_eq_false (fun z => z.elim (fun y => c10 ((ce 10 (by decide) (by decide)).mpr y)) (fun y => c32 ((ce 32 (by decide) (by decide)).mpr y))))
  refine sp_codeOf ?_
  have h16 : h1 49 6 = p + 1 := by rw [q1, up_self]
  have h15 : h1 49 5 = n := by rw [q1, up_slot (by decide)]; exact en.symm
  rw [h16, wi_byteAt (by omega) (by rw [h15]; exact hn), h15, ex1]
  have h11 : h1 1 = h 1 := by rw [q1, up_other (by decide)]
  rw [h11]
  have th : ∀ x, 0 < x → x < 128 → ((if p + 1 < n then h 1 (p + 1) else 0) = x ↔ p + 1 < n ∧ B (p + 1) = x) := by
    intro x a d
    by_cases z : p + 1 < n
    · rw [if_pos z]
      exact ⟨fun y => ⟨z, (hB.e (by omega) z (by omega) d).mp y⟩, fun y => (hB.e (by omega) z (by omega) d).mpr y.2⟩
    · rw [if_neg z]
      exact ⟨fun y => by omega, fun y => absurd y.1 z⟩
  obtain ⟨t, et⟩ : ∃ t, t = (if p + 1 < n then h 1 (p + 1) else 0) := ⟨_, rfl⟩
  rw [← et] at th ⊢
  have t61 := th 61 (by decide) (by decide)
  have t62 := th 62 (by decide) (by decide)
  have b60 := ce 60 (by decide) (by decide)
  have b61 := ce 61 (by decide) (by decide)
  have b62 := ce 62 (by decide) (by decide)
  have h8 : ∀ e : Int, up h1 49 6 e = up h 49 6 e := fun e => by rw [q1, up_up]
  -- what is told
  have l127 : ∀ e cd : Int, (∀ ty, (ty = if cd = -1 then 5 else 4) → K (addT h e ty p cd)) → Lfp (F_X10_scanSign c K) (127, [p, cd], up h 49 6 e) := by
    intro e cd hh
    apply L_X10_scanSign_127
    unfold B_X10_scanSign_127
    by_cases z : cd = -1
    · rw [if_neg (fun y => y z)]
      exact sp_put k0 k1 (hh 5 (by rw [if_pos z]))
    · rw [if_pos z]
      exact sp_put k0 k1 (hh 4 (by rw [if_neg z]))
  have two : w32 (p + 1 + 1) = p + 2 := by rw [w32_eq (by omega) (by omega)]; omega
  -- a sign of one byte
  have one : ¬ (b = 60 ∧ p + 1 < n ∧ (B (p + 1) = 61 ∨ B (p + 1) = 62)) → ¬ (b = 62 ∧ p + 1 < n ∧ B (p + 1) = 61) → Lfp (F_X10_scanSign c K) (127, [p, cdo c], h1) := by
    intro n1 n2
    rw [q1]
    refine l127 (p + 1) (cdo c) ?_
    intro ty ety
    rw [if_neg (fun z => z.elim n1 n2)] at te
    rw [te] at hk
    refine hk ty (cdo c) ?_
    have t4 : ∀ x, c = x → ¬ cdo x = -1 → ty = 4 := fun x a d => by rw [ety, a, if_neg d]
    clear hk hb l127 t61 t62 th
    by_cases y : b = 61
    · rw [if_pos y, t4 61 (b61.mpr y) (by decide), b61.mpr y]; exact Or.inr (Or.inr (Or.inr (Or.inl ⟨rfl, rfl, by decide, by decide, by decide⟩)))
    rw [if_neg y]
    by_cases y : b = 60
    · rw [if_pos y, t4 60 (b60.mpr y) (by decide), b60.mpr y]
      dsimp only
      rw [if_neg (fun x => n1 ⟨y, x.1, Or.inl x.2⟩), if_neg (fun x => n1 ⟨y, x.1, Or.inr x.2⟩)]
      exact Or.inr (Or.inr (Or.inr (Or.inl ⟨rfl, rfl, by decide, by decide, by decide⟩)))
    rw [if_neg y]
    by_cases y : b = 62
    · rw [if_pos y, t4 62 (b62.mpr y) (by decide), b62.mpr y]
      dsimp only
      rw [if_neg (fun x => n2 ⟨y, x⟩)]
      exact Or.inr (Or.inr (Or.inr (Or.inl ⟨rfl, rfl, by decide, by decide, by decide⟩)))
    rw [if_neg y]
    dsimp only
    by_cases y : b = 59
    · rw [if_pos (Or.inl y), t4 59 ((ce 59 (by decide) (by decide)).mpr y) (by decide), (ce 59 (by decide) (by decide)).mpr y, y]; exact Or.inr (Or.inr (Or.inr (Or.inr (Or.inl ⟨rfl, rfl, by decide⟩))))
    by_cases y : b = 40
    · rw [if_pos (Or.inr (Or.inl y)), t4 40 ((ce 40 (by decide) (by decide)).mpr y) (by decide), (ce 40 (by decide) (by decide)).mpr y, y]; exact Or.inr (Or.inr (Or.inr (Or.inr (Or.inl ⟨rfl, rfl, by decide⟩))))
    by_cases y : b = 41
    · rw [if_pos (Or.inr (Or.inr (Or.inl y))), t4 41 ((ce 41 (by decide) (by decide)).mpr y) (by decide), (ce 41 (by decide) (by decide)).mpr y, y]; exact Or.inr (Or.inr (Or.inr (Or.inr (Or.inl ⟨rfl, rfl, by decide⟩))))
    by_cases y : b = 43
    · rw [if_pos (Or.inr (Or.inr (Or.inr (Or.inl y)))), t4 43 ((ce 43 (by decide) (by decide)).mpr y) (by decide), (ce 43 (by decide) (by decide)).mpr y, y]; exact Or.inr (Or.inr (Or.inr (Or.inr (Or.inl ⟨rfl, rfl, by decide⟩))))
    by_cases y : b = 45
    · rw [if_pos (Or.inr (Or.inr (Or.inr (Or.inr (Or.inl y))))), t4 45 ((ce 45 (by decide) (by decide)).mpr y) (by decide), (ce 45 (by decide) (by decide)).mpr y, y]; exact Or.inr (Or.inr (Or.inr (Or.inr (Or.inl ⟨rfl, rfl, by decide⟩))))
    by_cases y : b = 42
    · rw [if_pos (Or.inr (Or.inr (Or.inr (Or.inr (Or.inr (Or.inl y)))))), t4 42 ((ce 42 (by decide) (by decide)).mpr y) (by decide), (ce 42 (by decide) (by decide)).mpr y, y]; exact Or.inr (Or.inr (Or.inr (Or.inr (Or.inl ⟨rfl, rfl, by decide⟩))))
    by_cases y : b = 47
    · rw [if_pos (Or.inr (Or.inr (Or.inr (Or.inr (Or.inr (Or.inr (Or.inl y))))))), t4 47 ((ce 47 (by decide) (by decide)).mpr y) (by decide), (ce 47 (by decide) (by decide)).mpr y, y]; exact Or.inr (Or.inr (Or.inr (Or.inr (Or.inl ⟨rfl, rfl, by decide⟩))))
    have cn : cdo c = -1 := by
      unfold cdo
      rw [if_neg (by rw [ce 40 (by decide) (by decide)]; assumption), if_neg (by rw [ce 41 (by decide) (by decide)]; assumption), if_neg (by rw [ce 42 (by decide) (by decide)]; assumption), if_neg (by rw [ce 43 (by decide) (by decide)]; assumption), if_neg (by rw [ce 45 (by decide) (by decide)]; assumption), if_neg (by rw [ce 47 (by decide) (by decide)]; assumption), if_neg (by rw [ce 59 (by decide) (by decide)]; assumption), if_neg (by rw [b60]; assumption), if_neg (by rw [b61]; assumption), if_neg (by rw [b62]; assumption)]
    have t5 : ty = 5 := by rw [ety, cn]; rfl
    rw [t5]
    by_cases y : b = 37
    · rw [if_pos (by omega)]; exact Or.inr (Or.inr (Or.inr (Or.inr (Or.inr ⟨rfl, Or.inr ⟨rfl, y⟩⟩))))
    · rw [if_neg (by omega)]; exact Or.inr (Or.inr (Or.inr (Or.inr (Or.inr ⟨rfl, Or.inl rfl⟩))))
  have l101 : ¬ (b = 60 ∧ p + 1 < n ∧ (B (p + 1) = 61 ∨ B (p + 1) = 62)) → Lfp (F_X10_scanSign c K) (101, [p, cdo c, t], h1) := by
    intro n1
    apply L_X10_scanSign_101
    unfold B_X10_scanSign_101
    by_cases z : c = 62
    · rw [if_neg (fun y => y z)]
      by_cases y : t = 61
      · rw [if_neg (fun x => x y), h16, two, h8]
        intro h2 q2
        rw [q2]
        refine l127 (p + 2) 13 ?_
        intro ty ety
        have yy := t61.mp y
        have zz := b62.mp z
        rw [if_pos (Or.inr ⟨zz, yy⟩)] at te
        rw [te] at hk
        refine hk ty 13 ?_
        rw [ety, if_neg (by decide), if_neg (by rw [zz]; decide), if_neg (by rw [zz]; decide), if_pos zz]
        dsimp only
        rw [if_pos yy]
        exact Or.inr (Or.inr (Or.inr (Or.inl ⟨rfl, rfl, by decide, by decide, by decide⟩)))
      · rw [if_pos y]; exact one n1 (fun x => y (t61.mpr x.2))
    · rw [if_pos z]; exact one n1 (fun x => z (b62.mpr x.1))
  have l72 : ¬ (b = 60 ∧ p + 1 < n ∧ B (p + 1) = 61) → Lfp (F_X10_scanSign c K) (72, [p, cdo c, t], h1) := by
    intro n1
    apply L_X10_scanSign_72
    unfold B_X10_scanSign_72
    by_cases z : c = 60
    · rw [if_neg (fun y => y z)]
      by_cases y : t = 62
      · rw [if_neg (fun x => x y), h16, two, h8]
        intro h2 q2
        rw [q2]
        refine l127 (p + 2) 12 ?_
        intro ty ety
        have yy := t62.mp y
        have zz := b60.mp z
        rw [if_pos (Or.inl ⟨zz, yy.1, Or.inr yy.2⟩)] at te
        rw [te] at hk
        refine hk ty 12 ?_
        rw [ety, if_neg (by decide), if_neg (by rw [zz]; decide), if_pos zz]
        dsimp only
        rw [if_neg (fun x => n1 ⟨zz, x⟩), if_pos yy]
        exact Or.inr (Or.inr (Or.inr (Or.inl ⟨rfl, rfl, by decide, by decide, by decide⟩)))
      · rw [if_pos y]; exact l101 (fun x => x.2.2.elim (fun w => n1 ⟨x.1, x.2.1, w⟩) (fun w => y (t62.mpr ⟨x.2.1, w⟩)))
    · rw [if_pos z]; exact l101 (fun x => z (b60.mpr x.1))
  by_cases z : c = 60
  · rw [if_neg (fun y => y z)]
    by_cases y : t = 61
    · rw [if_neg (fun x => x y), h16, two, h8]
      intro h2 q2
      rw [q2]
      refine l127 (p + 2) 10 ?_
      intro ty ety
      have yy := t61.mp y
      have zz := b60.mp z
      rw [if_pos (Or.inl ⟨zz, yy.1, Or.inl yy.2⟩)] at te
      rw [te] at hk
      refine hk ty 10 ?_
      rw [ety, if_neg (by decide), if_neg (by rw [zz]; decide), if_pos zz]
      dsimp only
      rw [if_pos yy]
      exact Or.inr (Or.inr (Or.inr (Or.inl ⟨rfl, rfl, by decide, by decide, by decide⟩)))
    · rw [if_pos y]; exact l72 (fun x => y (t61.mpr x.2))
  · rw [if_pos z]; exact l72 (fun x => z (b60.mpr x.1))
