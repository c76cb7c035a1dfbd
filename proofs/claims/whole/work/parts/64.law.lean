/-! ===== what a law is worth ===== -/
def LB : Int := 1000000000000
def okV (v : Int) : Prop := -1000000000000 ≤ v ∧ v ≤ 1000000000000
/-- a knot's worth by the worths of its sides; none: an error -/
def kv (nm : Int → Int) (k p a b : Int) : Option Int :=
  if k = 0 then some p else if k = 1 then some (nm p) else if k = 2 then some (if a = 0 then 1 else 0)
  else if k = 3 then some (if a = 0 then 0 else if b = 0 then 0 else 1) else if k = 4 then some (if a = 0 then (if b = 0 then 0 else 1) else 1)
  else if k = 5 then some (if a < b then 1 else 0) else if k = 6 then some (if a ≤ b then 1 else 0) else if k = 7 then some (if a = b then 1 else 0)
  else if k = 8 then some (if a = b then 0 else 1) else if k = 9 then some (if b ≤ a then 1 else 0) else if k = 10 then some (if b < a then 1 else 0)
  else if k = 11 then (if -1000000000000 ≤ a + b ∧ a + b ≤ 1000000000000 then some (a + b) else none)
  else if k = 12 then (if -1000000000000 ≤ a - b ∧ a - b ≤ 1000000000000 then some (a - b) else none)
  else if k = 13 then (if -1000000000000 ≤ a * b ∧ a * b ≤ 1000000000000 then some (a * b) else none)
  else (if b = 0 then none else some (a.tdiv b))
def evs (r : Mh) (nm : Int → Int) : Nat → Option (Int → Int)
  | 0 => some (fun _ => 0)
  | n + 1 => match evs r nm n with
    | none => none
    | some f => match kv nm (r 23 n) (r 24 n) (f (r 24 n)) (f (r 25 n)) with
      | none => none
      | some v => some (fun j => if j = n then v else f j)
theorem tdiv_ok {a b : Int} (h : okV a) : okV (a.tdiv b) := by
  have h1 : (a.tdiv b).natAbs = a.natAbs / b.natAbs := Int.natAbs_tdiv a b
  have h2 : a.natAbs / b.natAbs ≤ a.natAbs := Nat.div_le_self _ _
  unfold okV at *
  omega
theorem ite_ok {c : Prop} [Decidable c] {x y : Int} (hx : okV x) (hy : okV y) : okV (if c then x else y) := by
  by_cases h : c
  · rw [if_pos h]; exact hx
  · rw [if_neg h]; exact hy
theorem opt_ok {c : Prop} [Decidable c] {x v : Int} (hc : c → okV x) (h : (if c then some x else none) = some v) : okV v := by
  by_cases k : c
  · rw [if_pos k] at h; rw [← Option.some.inj h]; exact hc k
  · rw [if_neg k] at h; cases h
theorem kv_ok {nm : Int → Int} {k p a b v : Int} (hn : okV (nm p)) (hp : okV p) (ha : okV a) (h : kv nm k p a b = some v) : okV v := by
  have z1 : okV 1 := by unfold okV; omega
  have z0 : okV 0 := by unfold okV; omega
  unfold kv at h
  by_cases c0 : k = 0
  · rw [if_pos c0] at h; rw [← Option.some.inj h]; exact hp
  rw [if_neg c0] at h
  by_cases c1 : k = 1
  · rw [if_pos c1] at h; rw [← Option.some.inj h]; exact hn
  rw [if_neg c1] at h
  by_cases c2 : k = 2
  · rw [if_pos c2] at h; rw [← Option.some.inj h]; exact ite_ok z1 z0
  rw [if_neg c2] at h
  by_cases c3 : k = 3
  · rw [if_pos c3] at h; rw [← Option.some.inj h]; exact ite_ok z0 (ite_ok z0 z1)
  rw [if_neg c3] at h
  by_cases c4 : k = 4
  · rw [if_pos c4] at h; rw [← Option.some.inj h]; exact ite_ok (ite_ok z0 z1) z1
  rw [if_neg c4] at h
  by_cases c5 : k = 5
  · rw [if_pos c5] at h; rw [← Option.some.inj h]; exact ite_ok z1 z0
  rw [if_neg c5] at h
  by_cases c6 : k = 6
  · rw [if_pos c6] at h; rw [← Option.some.inj h]; exact ite_ok z1 z0
  rw [if_neg c6] at h
  by_cases c7 : k = 7
  · rw [if_pos c7] at h; rw [← Option.some.inj h]; exact ite_ok z1 z0
  rw [if_neg c7] at h
  by_cases c8 : k = 8
  · rw [if_pos c8] at h; rw [← Option.some.inj h]; exact ite_ok z0 z1
  rw [if_neg c8] at h
  by_cases c9 : k = 9
  · rw [if_pos c9] at h; rw [← Option.some.inj h]; exact ite_ok z1 z0
  rw [if_neg c9] at h
  by_cases c10 : k = 10
  · rw [if_pos c10] at h; rw [← Option.some.inj h]; exact ite_ok z1 z0
  rw [if_neg c10] at h
  by_cases c11 : k = 11
  · rw [if_pos c11] at h; exact opt_ok (c := -1000000000000 ≤ a + b ∧ a + b ≤ 1000000000000) (fun z => z) h
  rw [if_neg c11] at h
  by_cases c12 : k = 12
  · rw [if_pos c12] at h; exact opt_ok (c := -1000000000000 ≤ a - b ∧ a - b ≤ 1000000000000) (fun z => z) h
  rw [if_neg c12] at h
  by_cases c13 : k = 13
  · rw [if_pos c13] at h; exact opt_ok (c := -1000000000000 ≤ a * b ∧ a * b ≤ 1000000000000) (fun z => z) h
  rw [if_neg c13] at h
  by_cases b0 : b = 0
  · rw [if_pos b0] at h; cases h
  · rw [if_neg b0] at h; rw [← Option.some.inj h]; exact tdiv_ok ha
/-- products within the bound, by a division -/
theorem mul_bound {a b : Int} (ha : okV a) (hb : okV b) (b0 : b ≠ 0) : ((if 0 < a then a else -a) ≤ 1000000000000 / (if 0 < b then b else -b)) ↔ (-1000000000000 ≤ a * b ∧ a * b ≤ 1000000000000) := by
  have bp : 0 < (if 0 < b then b else -b) := by split <;> omega
  rw [Int.le_ediv_iff_mul_le bp]
  by_cases x : 0 < a
  · rw [if_pos x]
    by_cases y : 0 < b
    · rw [if_pos y]
      have := Int.mul_pos x y
      omega
    · rw [if_neg y, Int.mul_neg]
      have := Int.mul_neg_of_pos_of_neg x (show b < 0 by omega)
      omega
  · rw [if_neg x]
    by_cases y : 0 < b
    · rw [if_pos y, Int.neg_mul]
      have : a * b ≤ 0 := Int.mul_nonpos_of_nonpos_of_nonneg (by omega) (by omega)
      omega
    · rw [if_neg y, Int.neg_mul_neg]
      have : 0 ≤ a * b := Int.mul_nonneg_of_nonpos_of_nonpos (by omega) (by omega)
      omega
theorem j_ldiv_pos {b : Int} (h0 : 0 < b) (h1 : b ≤ 1000000000000) : j_ldiv 1000000000000 b = 1000000000000 / b := by
  unfold j_ldiv
  rw [Int.tdiv_eq_ediv_of_nonneg (by decide)]
  have q0 : 0 ≤ 1000000000000 / b := Int.ediv_nonneg (by decide) (by omega)
  have q1 : 1000000000000 / b ≤ 1000000000000 := Int.ediv_le_self b (by decide)
  rw [w64_eq (by omega) (by omega)]
theorem j_ldiv_ok {a b : Int} (h : okV a) : j_ldiv a b = a.tdiv b := by
  have := tdiv_ok (b := b) h
  unfold okV at this
  unfold j_ldiv
  rw [w64_eq (by omega) (by omega)]
/-- joined: a knot with two sides, in the class -/
theorem sp_joined {nm : Int → Int} {k p a b : Int} {h : Mh} {K : Int → Mh → Prop} (k3 : 3 ≤ k) (k14 : k ≤ 14) (ha : okV a) (hb : okV b) (hK : ∀ x, (match kv nm k p a b with | none => ¬ okV x | some v => x = v) → K x h) : wp_X3_joined (cdk k p) a b h K := by
  have nok : ¬ okV (-9223372036854775808) := by unfold okV; omega
  have hk : k = 3 ∨ k = 4 ∨ k = 5 ∨ k = 6 ∨ k = 7 ∨ k = 8 ∨ k = 9 ∨ k = 10 ∨ k = 11 ∨ k = 12 ∨ k = 13 ∨ k = 14 := by omega
  unfold okV at ha hb
  rcases hk with rfl | rfl | rfl | rfl | rfl | rfl | rfl | rfl | rfl | rfl | rfl | rfl <;> simp only [cdk] <;> unfold wp_X3_joined
  · simp only [Int.reduceEq, if_true, if_false]
    unfold kv at hK
    simp only [Int.reduceEq, if_true, if_false] at hK
    simp only [j_cmp_eq]
    by_cases x : a = 0
    · rw [if_pos x]; exact hK 0 (by rw [if_pos x])
    · rw [if_neg x]
      by_cases y : b = 0
      · rw [if_pos y]; exact hK 0 (by rw [if_neg x, if_pos y])
      · rw [if_neg y]; exact hK 1 (by rw [if_neg x, if_neg y])
  · simp only [Int.reduceEq, if_true, if_false]
    unfold kv at hK
    simp only [Int.reduceEq, if_true, if_false] at hK
    simp only [j_cmp_eq]
    by_cases x : a = 0
    · rw [if_neg (fun z => z x)]
      by_cases y : b = 0
      · rw [if_pos y]; exact hK 0 (by rw [if_pos x, if_pos y])
      · rw [if_neg y]; exact hK 1 (by rw [if_pos x, if_neg y])
    · rw [if_pos x]; exact hK 1 (by rw [if_neg x])
  · simp only [Int.reduceEq, Int.reduceAdd, if_true, if_false]
    unfold kv at hK
    simp only [Int.reduceEq, if_true, if_false] at hK
    simp only [j_cmp_ge]
    by_cases x : a < b
    · rw [if_neg (by omega)]; exact hK 1 (by rw [if_pos x])
    · rw [if_pos (by omega)]; exact hK 0 (by rw [if_neg x])
  · simp only [Int.reduceEq, Int.reduceAdd, if_true, if_false]
    unfold kv at hK
    simp only [Int.reduceEq, if_true, if_false] at hK
    simp only [j_cmp_gt]
    by_cases x : a ≤ b
    · rw [if_neg (by omega)]; exact hK 1 (by rw [if_pos x])
    · rw [if_pos (by omega)]; exact hK 0 (by rw [if_neg x])
  · simp only [Int.reduceEq, Int.reduceAdd, if_true, if_false]
    unfold kv at hK
    simp only [Int.reduceEq, if_true, if_false] at hK
    simp only [j_cmp_eq]
    by_cases x : a = b
    · rw [if_neg (fun z => z x)]; exact hK 1 (by rw [if_pos x])
    · rw [if_pos x]; exact hK 0 (by rw [if_neg x])
  · simp only [Int.reduceEq, Int.reduceAdd, if_true, if_false]
    unfold kv at hK
    simp only [Int.reduceEq, if_true, if_false] at hK
    simp only [j_cmp_eq]
    by_cases x : a = b
    · rw [if_pos x]; exact hK 0 (by rw [if_pos x])
    · rw [if_neg x]; exact hK 1 (by rw [if_neg x])
  · simp only [Int.reduceEq, Int.reduceAdd, if_true, if_false]
    unfold kv at hK
    simp only [Int.reduceEq, if_true, if_false] at hK
    simp only [j_cmp_lt]
    by_cases x : b ≤ a
    · rw [if_neg (by omega)]; exact hK 1 (by rw [if_pos x])
    · rw [if_pos (by omega)]; exact hK 0 (by rw [if_neg x])
  · simp only [Int.reduceEq, Int.reduceAdd, if_true, if_false]
    unfold kv at hK
    simp only [Int.reduceEq, if_true, if_false] at hK
    simp only [j_cmp_le]
    by_cases x : b < a
    · rw [if_neg (by omega)]; exact hK 1 (by rw [if_pos x])
    · rw [if_pos (by omega)]; exact hK 0 (by rw [if_neg x])
  · simp only [Int.reduceEq, Int.reduceAdd, if_true, if_false]
    unfold kv at hK
    simp only [Int.reduceEq, if_true, if_false] at hK
    rw [w64_eq (by omega) (by omega)]
    refine hK _ ?_
    by_cases x : -1000000000000 ≤ a + b ∧ a + b ≤ 1000000000000
    · rw [if_pos x]
    · rw [if_neg x]; exact x
  · simp only [Int.reduceEq, Int.reduceAdd, if_true, if_false]
    unfold kv at hK
    simp only [Int.reduceEq, if_true, if_false] at hK
    rw [w64_eq (by omega) (by omega)]
    refine hK _ ?_
    by_cases x : -1000000000000 ≤ a - b ∧ a - b ≤ 1000000000000
    · rw [if_pos x]
    · rw [if_neg x]; exact x
  · simp only [Int.reduceEq, Int.reduceAdd, if_true, if_false]
    unfold kv at hK
    simp only [Int.reduceEq, if_true, if_false] at hK
    simp only [j_cmp_eq]
    by_cases x : b = 0
    · rw [if_neg (fun z => z x)]
      refine hK 0 ?_
      rw [x, Int.mul_zero, if_pos (by decide)]
    · rw [if_pos x]
      have wb : (if 0 < b then b else w64 (-b)) = (if 0 < b then b else -b) := by rw [w64_eq (x := -b) (by omega) (by omega)]
      have wa : (if 0 < a then a else w64 (-a)) = (if 0 < a then a else -a) := by rw [w64_eq (x := -a) (by omega) (by omega)]
      have mb := mul_bound ha hb x
      have bp : 0 < (if 0 < b then b else -b) ∧ (if 0 < b then b else -b) ≤ 1000000000000 := by split <;> omega
      rw [wb, wa, j_ldiv_pos bp.1 bp.2]
      simp only [j_cmp_le]
      refine ⟨by omega, ?_⟩
      by_cases y : -1000000000000 ≤ a * b ∧ a * b ≤ 1000000000000
      · rw [if_pos (mb.mpr y), w64_eq (by omega) (by omega)]
        exact hK _ (by rw [if_pos y])
      · rw [if_neg (fun z => y (mb.mp z))]
        exact hK _ (by rw [if_neg y]; exact nok)
  · simp only [Int.reduceEq, Int.reduceAdd, if_true, if_false]
    unfold kv at hK
    simp only [Int.reduceEq, if_true, if_false] at hK
    simp only [j_cmp_eq]
    by_cases x : b = 0
    · rw [if_neg (fun z => z x)]
      exact hK _ (by rw [if_pos x]; exact nok)
    · rw [if_pos x]
      refine ⟨x, ?_⟩
      rw [j_ldiv_ok ha]
      exact hK _ (by rw [if_neg x])
