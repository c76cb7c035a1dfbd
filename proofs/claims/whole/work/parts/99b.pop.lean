/-! ===== one bit more ===== -/
theorem pop_same {x y : Int} : ∀ (n : Nat) (i : Int), (∀ c, i ≤ c → c < i + n → bit y c = bit x c) → pop y n i = pop x n i := by
  intro n
  induction n with
  | zero => intro i _; rfl
  | succ n ih =>
    intro i h
    show (if bit y i = true then 1 else 0) + pop y n (i + 1) = (if bit x i = true then 1 else 0) + pop x n (i + 1)
    rw [h i (by omega) (by omega), ih (i + 1) (fun c a b => h c (by omega) (by omega))]
theorem bit_set {x k c : Int} (k0 : 0 ≤ k) (k1 : k < 64) (c0 : 0 ≤ c) (c1 : c < 64) : bit (j_lor x (j_lshl 1 k)) c = (bit x c || decide (c = k)) := by
  rw [bit_or, bit_one_shl k0 k1 c0 c1]
theorem pop_set {x k : Int} (k0 : 0 ≤ k) (k1 : k < 64) (hb : bit x k = false) : ∀ (n : Nat) (i : Int), 0 ≤ i → i + n ≤ 64 → i ≤ k → k < i + n → pop (j_lor x (j_lshl 1 k)) n i = pop x n i + 1 := by
  intro n
  induction n with
  | zero => intro i _ _ _ _; omega
  | succ n ih =>
    intro i i0 i1 ik kn
    show (if bit (j_lor x (j_lshl 1 k)) i = true then 1 else 0) + pop (j_lor x (j_lshl 1 k)) n (i + 1) = (if bit x i = true then 1 else 0) + pop x n (i + 1) + 1
    rw [bit_set k0 k1 i0 (by omega)]
    by_cases z : i = k
    · rw [decide_eq_true z, z, hb, Bool.or_true, if_pos rfl, if_neg (by decide)]
      rw [pop_same (x := x) n (k + 1) (fun c a b => by rw [bit_set k0 k1 (by omega) (by omega), decide_eq_false (by omega), Bool.or_false])]
      omega
    · rw [decide_eq_false z, Bool.or_false, ih (i + 1) (by omega) (by omega) (by omega) (by omega)]
      omega
