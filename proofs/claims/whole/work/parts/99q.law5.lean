/-! ===== what stands behind an operand, read by both ===== -/
/-- the reference's sign or word between two sides; 0: none -/
def xF (k w : Int) : Int := if k = 1 ∧ w = 14 then 3 else if k = 1 ∧ w = 15 then 4 else if k = 5 then 5 + w else if k = 4 ∧ w = 43 then 11 else if k = 4 ∧ w = 45 then 12 else if k = 4 ∧ w = 42 then 13 else if k = 4 ∧ w = 47 then 14 else 0
theorem run_47 {r : Mh} (h5 : r 0 8 = 5 → 0 ≤ r 0 9 ∧ r 0 9 ≤ 5) {K : Int → Mh → Prop} (hk : Lfp (F_X14_signs K) (147, [xF (r 0 8) (r 0 9)], r)) : Lfp (F_X14_signs K) (47, [], r) := by
  apply L_X14_signs_47
  unfold B_X14_signs_47
  unfold xF at hk
  by_cases a1 : r 0 8 = 1 ∧ r 0 9 = 14
  · rw [if_pos a1] at hk
    refine yesKeyR a1 ?_
    rw [if_neg (by decide)]; exact hk
  rw [if_neg a1] at hk
  refine noKeyR a1 ?_
  rw [if_pos rfl]
  by_cases a2 : r 0 8 = 1 ∧ r 0 9 = 15
  · rw [if_pos a2] at hk
    refine yesKeyR a2 ?_
    rw [if_neg (by decide)]; exact hk
  rw [if_neg a2] at hk
  refine noKeyR a2 ?_
  rw [if_pos rfl]
  by_cases a3 : r 0 8 = 5
  · have := h5 a3
    rw [if_pos a3] at hk
    rw [if_neg (fun y => y a3), w32_eq (by omega) (by omega)]; exact hk
  rw [if_neg a3] at hk
  rw [if_pos a3]
  by_cases a4 : r 0 8 = 4 ∧ r 0 9 = 43
  · rw [if_pos a4] at hk
    refine yesSgnR a4 ?_
    rw [if_neg (by decide)]; exact hk
  rw [if_neg a4] at hk
  refine noSgnR a4 ?_
  rw [if_pos rfl]
  by_cases a5 : r 0 8 = 4 ∧ r 0 9 = 45
  · rw [if_pos a5] at hk
    refine yesSgnR a5 ?_
    rw [if_neg (by decide)]; exact hk
  rw [if_neg a5] at hk
  refine noSgnR a5 ?_
  rw [if_pos rfl]
  by_cases a6 : r 0 8 = 4 ∧ r 0 9 = 42
  · rw [if_pos a6] at hk
    refine yesSgnR a6 ?_
    rw [if_neg (by decide)]; exact hk
  rw [if_neg a6] at hk
  refine noSgnR a6 ?_
  rw [if_pos rfl]
  by_cases a7 : r 0 8 = 4 ∧ r 0 9 = 47
  · rw [if_pos a7] at hk
    refine yesSgnR a7 ?_
    rw [if_neg (by decide)]; exact hk
  rw [if_neg a7] at hk
  refine noSgnR a7 ?_
  rw [if_pos rfl]; exact hk
theorem xF_4 {w : Int} : xF 4 w = if w = 43 then 11 else if w = 45 then 12 else if w = 42 then 13 else if w = 47 then 14 else 0 := by
  unfold xF
  rw [if_neg (by omega), if_neg (by omega), if_neg (by decide)]
  by_cases a : w = 43
  · rw [if_pos ⟨rfl, a⟩, if_pos a]
  rw [if_neg (fun y => a y.2), if_neg a]
  by_cases b : w = 45
  · rw [if_pos ⟨rfl, b⟩, if_pos b]
  rw [if_neg (fun y => b y.2), if_neg b]
  by_cases c : w = 42
  · rw [if_pos ⟨rfl, c⟩, if_pos c]
  rw [if_neg (fun y => c y.2), if_neg c]
  by_cases d : w = 47
  · rw [if_pos ⟨rfl, d⟩, if_pos d]
  rw [if_neg (fun y => d y.2), if_neg d]
theorem xF_0 {k w : Int} (h1 : ¬ k = 1) (h4 : ¬ k = 4) (h5 : ¬ k = 5) : xF k w = 0 := by
  unfold xF
  rw [if_neg (fun y => h1 y.1), if_neg (fun y => h1 y.1), if_neg h5, if_neg (fun y => h4 y.1), if_neg (fun y => h4 y.1), if_neg (fun y => h4 y.1), if_neg (fun y => h4 y.1)]
/-- how both name it -/
theorem PTok.oper {B : Int → Int} {n : Int} {m a : Nat} {q r : Mh} (h : PTok B n m a q r) :
    (r 0 8 = 5 → 0 ≤ r 0 9 ∧ r 0 9 ≤ 5) ∧ ∃ cd : Int, (∀ K : Int → Mh → Prop, ¬ (q 49 8 = 4 ∧ q 49 10 = 20) → Lfp (F_X9_readBehindOperand K) (42, [cd], q) → wp_X9_readBehindOperand q K) ∧
      ((xF (r 0 8) (r 0 9) = 0 ∧ (cd < 7 ∨ 18 < cd)) ∨ (a < m ∧ 3 ≤ xF (r 0 8) (r 0 9) ∧ xF (r 0 8) (r 0 9) ≤ 14 ∧ cd = cdk (xF (r 0 8) (r 0 9)) 0)) := by
  have hs : q 49 8 = 4 → ∀ K : Int → Mh → Prop, ¬ (q 49 8 = 4 ∧ q 49 10 = 20) → Lfp (F_X9_readBehindOperand K) (42, [q 49 10], q) → wp_X9_readBehindOperand q K := by
    intro z K y hk
    unfold wp_X9_readBehindOperand
    refine noSgnC y ?_
    rw [if_pos rfl, if_neg (fun u => u z)]; exact hk
  have hw : ¬ q 49 8 = 4 → ∀ K : Int → Mh → Prop, ¬ (q 49 8 = 4 ∧ q 49 10 = 20) → Lfp (F_X9_readBehindOperand K) (42, [if r 0 8 = 1 then wcF (r 0 9) else -1], q) → wp_X9_readBehindOperand q K := by
    intro z K y hk
    unfold wp_X9_readBehindOperand
    refine noSgnC y ?_
    rw [if_pos rfl, if_pos z]
    exact run_wordCode h hk
  rcases h.see.2 with ⟨_, a1, a2⟩ | ⟨am, t⟩
  · refine ⟨by omega, _, hw (by omega), Or.inl ⟨xF_0 (by omega) (by omega) (by omega), ?_⟩⟩
    rw [if_neg (by omega)]; omega
  · unfold tRel at t
    rcases t with t | t | t | t | t | t
    · refine ⟨by omega, _, hw (by omega), Or.inl ⟨xF_0 (by omega) (by omega) (by omega), ?_⟩⟩
      rw [if_neg (by omega)]; omega
    · refine ⟨by omega, _, hw (by omega), Or.inl ⟨xF_0 (by omega) (by omega) (by omega), ?_⟩⟩
      rw [if_neg (by omega)]; omega
    · obtain ⟨t1, t2, t3, t4, t5⟩ := t
      refine ⟨by omega, _, hw (by omega), ?_⟩
      rw [if_pos t2, t2]
      by_cases v1 : r 0 9 = 14
      · right
        rw [v1]
        refine ⟨am, by decide, by decide, by decide⟩
      · by_cases v2 : r 0 9 = 15
        · right
          rw [v2]
          refine ⟨am, by decide, by decide, by decide⟩
        · left
          refine ⟨?_, ?_⟩
          · unfold xF
            rw [if_neg (by omega), if_neg (by omega), if_neg (by decide), if_neg (by omega), if_neg (by omega), if_neg (by omega), if_neg (by omega)]
          · unfold wcF
            rw [if_neg v1, if_neg v2]
            split
            · omega
            · split <;> omega
    · obtain ⟨t1, t2, t3, t4, t5⟩ := t
      refine ⟨fun _ => ⟨t3, t4⟩, _, hs t1, Or.inr ?_⟩
      have e : xF (r 0 8) (r 0 9) = 5 + r 0 9 := by
        unfold xF
        rw [if_neg (by omega), if_neg (by omega), if_pos t2]
      rw [e, t5]
      refine ⟨am, by omega, by omega, ?_⟩
      unfold cdk
      rw [if_neg (by omega), if_neg (by omega), if_neg (by omega), if_neg (by omega)]; omega
    · obtain ⟨t1, t2, t3⟩ := t
      refine ⟨by omega, _, hs t1, ?_⟩
      rw [t2, xF_4]
      rcases t3 with ⟨u, v⟩ | ⟨u, v⟩ | ⟨u, v⟩ | ⟨u, v⟩ | ⟨u, v⟩ | ⟨u, v⟩ | ⟨u, v⟩
      · rw [u, v]; exact Or.inl (by decide)
      · rw [u, v]; exact Or.inl (by decide)
      · rw [u, v]; exact Or.inl (by decide)
      · rw [u, v]; exact Or.inr ⟨am, by decide⟩
      · rw [u, v]; exact Or.inr ⟨am, by decide⟩
      · rw [u, v]; exact Or.inr ⟨am, by decide⟩
      · rw [u, v]; exact Or.inr ⟨am, by decide⟩
    · obtain ⟨t1, t2⟩ := t
      refine ⟨by omega, _, hw (by omega), Or.inl ⟨?_, ?_⟩⟩
      · rcases t2 with u | ⟨u, v⟩
        · exact xF_0 (by omega) (by omega) (by omega)
        · rw [u, v]; decide
      · rw [if_neg (by omega)]; omega
theorem run_rankOf {x : Int} {q : Mh} {K : Int → Mh → Prop} (h3 : 3 ≤ x) (h14 : x ≤ 14) (hk : K (rkF x) q) : wp_X9_rankOf (cdk x 0) q K := by
  unfold wp_X9_rankOf
  have hc : x = 3 ∨ x = 4 ∨ x = 5 ∨ x = 6 ∨ x = 7 ∨ x = 8 ∨ x = 9 ∨ x = 10 ∨ x = 11 ∨ x = 12 ∨ x = 13 ∨ x = 14 := by omega
  rcases hc with e | e | e | e | e | e | e | e | e | e | e | e <;> rw [e] at hk ⊢ <;> exact hk
theorem cdk_r {x : Int} (h3 : 3 ≤ x) (h14 : x ≤ 14) : 7 ≤ cdk x 0 ∧ cdk x 0 ≤ 18 := by
  unfold cdk
  rw [if_neg (by omega), if_neg (by omega)]
  split
  · omega
  · split <;> omega
theorem tpF_r {B : Int → Int} {n : Int} {m : Nat} {q0 r0 qb rb : Mh} {P : Int} {a N H k : Nat} {q r : Mh} (h : LI B n m q0 r0 qb rb P a N H k q r) : (tpF (r 26) N < 1 → 0 < r 0 67 → ∃ N', N = N' + 1 ∧ r 26 (N' : Int) = 0) := by
  obtain ⟨hT, hc, hr, f1, f2, f3, f4, ⟨c1, c2, c3, c4, c5, c6, c7, c8, c9, c10, c11, c12⟩, st, zc, bc, sum, mn, kn⟩ := h
  intro h1 h2
  cases N with
  | zero =>
    have : zcn (r 26) 0 = 0 := rfl
    omega
  | succ N' =>
    refine ⟨N', rfl, ?_⟩
    have h1' : rkF (r 26 (N' : Int)) < 1 := h1
    have := (rkF_0 (st N' (by omega) (by omega)).1)
    exact this.2.2.1.mp (by omega)
