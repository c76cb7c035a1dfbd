/-! ===== apart: bits and bytes ===== -/
theorem byte_key64 (x : BitVec 64) (n : Nat) (hn : n ≤ 56) : (x >>> n) &&& 255#64 = x.sshiftRight n &&& 255#64 := by
  apply BitVec.eq_of_getLsbD_eq
  intro i hi
  have f : (255#64).getLsbD i = decide (i < 8) := by
    have : ∀ i : Nat, i < 64 → (255#64).getLsbD i = decide (i < 8) := by decide +kernel
    exact this i hi
  rw [BitVec.getLsbD_and, BitVec.getLsbD_and, BitVec.getLsbD_sshiftRight, BitVec.getLsbD_ushiftRight, f]
  by_cases q : i < 8
  · simp [q, hi, show n + i < 64 by omega]
  · simp [q]
/-- the cell that a byte of the row tells -/
def cof (x i : Int) : Int := w32 (j_land (j_lushr x (8 * i)) 255)
theorem cof_eq {x i : Int} (i0 : 0 ≤ i) (i1 : i < 6) : w32 (j_land (j_lshr x (8 * i)) 255) = cof x i := by
  have hi : i = 0 ∨ i = 1 ∨ i = 2 ∨ i = 3 ∨ i = 4 ∨ i = 5 := by omega
  unfold cof
  congr 1
  have main : ∀ n : Nat, n = 0 ∨ n = 8 ∨ n = 16 ∨ n = 24 ∨ n = 32 ∨ n = 40 → j_land (j_lshr x n) 255 = j_land (j_lushr x n) 255 := by
    intro n hn
    have l1 : j_land (j_lushr x n) 255 = ((BitVec.ofInt 64 x) >>> n &&& 255#64).toInt := by
      unfold j_land j_lushr
      rw [Int64.ofInt_toInt]
      show (((Int64.ofInt x).toUInt64 >>> ((Int32.ofInt n).toInt64.toUInt64 &&& Int64.toUInt64 63)).toInt64 &&& Int64.ofInt 255).toBitVec.toInt = _
      congr 1
      rw [Int64.toBitVec_and]
      congr 1
      show ((Int64.ofInt x).toUInt64 >>> ((Int32.ofInt n).toInt64.toUInt64 &&& Int64.toUInt64 63)).toBitVec = _
      rw [UInt64.toBitVec_shiftRight]
      rcases hn with rfl | rfl | rfl | rfl | rfl | rfl <;> rfl
    have l2 : j_land (j_lshr x n) 255 = ((BitVec.ofInt 64 x).sshiftRight n &&& 255#64).toInt := by
      unfold j_land j_lshr
      rw [Int64.ofInt_toInt]
      show ((Int64.ofInt x >>> ((Int32.ofInt n).toInt64 &&& 63)) &&& Int64.ofInt 255).toBitVec.toInt = _
      congr 1
      rw [Int64.toBitVec_and]
      congr 1
      rw [Int64.toBitVec_shiftRight]
      rcases hn with rfl | rfl | rfl | rfl | rfl | rfl <;> rfl
    rw [l1, l2, byte_key64 _ n (by omega)]
  rcases hi with rfl | rfl | rfl | rfl | rfl | rfl
  · exact main 0 (by omega)
  · exact main 8 (by omega)
  · exact main 16 (by omega)
  · exact main 24 (by omega)
  · exact main 32 (by omega)
  · exact main 40 (by omega)
theorem j_shl1 : ∀ m : Nat, m < 7 → j_shl 1 m = ((2 ^ m : Nat) : Int) := by decide +kernel
theorem j_shr_pos {a : Int} (h : r32 a) (m : Nat) (hm : m < 5) : j_shr a m = a / ((2 ^ m : Nat) : Int) := by
  have hc : m = 0 ∨ m = 1 ∨ m = 2 ∨ m = 3 ∨ m = 4 := by omega
  have l2 : j_shr a m = ((BitVec.ofInt 32 a).sshiftRight m).toInt := by
    unfold j_shr
    show ((Int32.ofInt a >>> (Int32.ofInt m &&& 31))).toBitVec.toInt = _
    congr 1
    rw [Int32.toBitVec_shiftRight]
    rcases hc with rfl | rfl | rfl | rfl | rfl <;> rfl
  have e : (BitVec.ofInt 32 a).toInt = a := i32_toInt h
  rw [l2, BitVec.toInt_sshiftRight, e, Int.shiftRight_eq_div_pow]
/-- a kind of those asked for -/
def kbt (p k : Int) : Bool := decide (¬ j_and (j_ushr p k) 1 = 0)
theorem kbt_all : ∀ p : Nat, p < 16 → ∀ k : Nat, k < 4 → (kbt p k = true ↔ j_and (j_shr p k) 1 = 1) ∧ ∀ m : Nat, m < 5 → m ≤ k → p < 2 ^ m → kbt p k = false := by decide +kernel
/-- bits of a small number -/
def pcb (v : Int) : Int := j_and (j_shr v 0) 1 + j_and (j_shr v 1) 1 + j_and (j_shr v 2) 1 + j_and (j_shr v 3) 1 + j_and (j_shr v 4) 1 + j_and (j_shr v 5) 1 + j_and (j_shr v 6) 1 + j_and (j_shr v 7) 1
def swr (p0 : Int) : Int :=
  let x1 := w32 (p0 - j_and (j_ushr p0 1) 1431655765)
  let x2 := w32 (j_and x1 858993459 + j_and (j_ushr x1 2) 858993459)
  let x3 := j_and (w32 (x2 + j_ushr x2 4)) 252645135
  let x4 := w32 (x3 + j_ushr x3 8)
  let x5 := w32 (x4 + j_ushr x4 16)
  j_and x5 63
theorem swr_eq : ∀ v : Nat, v < 64 → swr v = pcb v ∧ (∀ k : Nat, k < 8 → j_and (j_shr v k) 1 = 0 ∨ j_and (j_shr v k) 1 = 1) := by decide +kernel
theorem sp_bitCount32 {v : Int} {h : Mh} {K : Int → Mh → Prop} (v0 : 0 ≤ v) (v1 : v < 64) (hK : K (pcb v) h) : wp_J6_bitCount_0f7a4 v h K := by
  obtain ⟨n, rfl⟩ := Int.eq_ofNat_of_zero_le v0
  rw [← (swr_eq n (by omega)).1] at hK
  unfold wp_J6_bitCount_0f7a4
  intro x1 e1 x2 e2 x3 e3 x4 e4 x5 e5
  subst e1; subst e2; subst e3; subst e4; subst e5
  exact hK
theorem sp_manyOf {v : Int} {h : Mh} {K : Int → Mh → Prop} (v0 : 0 ≤ v) (v1 : v < 64) (hK : K (pcb v) h) : wp_X14_manyOf v h K := by
  obtain ⟨n, rfl⟩ := Int.eq_ofNat_of_zero_le v0
  have hb := (swr_eq n (by omega)).2
  have loop : ∀ (m : Nat) (k s : Int), 0 ≤ k → k + m = 8 → 0 ≤ s → s ≤ k → s + sumN (fun k => j_and (j_shr n k) 1) m k = pcb n → Lfp (F_X14_manyOf n K) (4, [s, k], h) := by
    intro m
    induction m with
    | zero =>
      intro k s k0 hk s0 s1 hs
      apply L_X14_manyOf_4
      unfold B_X14_manyOf_4
      rw [if_pos (by omega)]
      unfold sumN at hs
      rw [show s = pcb n by omega]
      exact hK
    | succ m ih =>
      intro k s k0 hk s0 s1 hs
      apply L_X14_manyOf_4
      unfold B_X14_manyOf_4
      rw [if_neg (by omega)]
      have hk2 := hb k.toNat (by omega)
      rw [show ((k.toNat : Nat) : Int) = k by omega] at hk2
      unfold sumN at hs
      intro x ex y ey
      rw [w32_eq (by omega) (by omega)] at ex
      rw [w32_eq (by omega) (by omega)] at ey
      subst ex; subst ey
      exact ih (k + 1) _ (by omega) (by omega) (by omega) (by omega) (by omega)
  unfold wp_X14_manyOf
  refine loop 8 0 0 (by omega) (by omega) (by omega) (by omega) ?_
  simp only [sumN, pcb]
  simp only [Int.zero_add, Int.add_zero, Int.reduceAdd]
  omega
theorem fb_snoc (f : Int → Bool) : ∀ (n : Nat) (m v : Int), fb f (n + 1) m v = if f (m + n) = true then j_or (fb f n m v) (j_shl 1 (m + n)) else fb f n m v := by
  intro n
  induction n with
  | zero => intro m v; simp [fb]
  | succ n ih =>
    intro m v
    have h := ih (m + 1) (if f m = true then j_or v (j_shl 1 m) else v)
    show fb f (n + 1) (m + 1) (if f m = true then j_or v (j_shl 1 m) else v) = _
    rw [h, show m + 1 + (n : Int) = m + ((n + 1 : Nat) : Int) by omega]
    rfl
theorem fb_r (f : Int → Bool) : ∀ (n : Nat) (m v : Int), r32 v → r32 (fb f n m v) := by
  intro n
  induction n with
  | zero => intro m v hv; exact hv
  | succ n ih =>
    intro m v hv
    unfold fb
    refine ih _ _ ?_
    split
    · exact j_or_r _ _
    · exact hv
theorem j_or_idem (a b : Int) : j_or (j_or a b) b = j_or a b := by
  unfold j_or
  rw [Int32.ofInt_toInt, Int32.or_assoc, Int32.or_self]
/-! ===== apart: what falls are told apart ===== -/
abbrev Lf : Type := List (Int × Int)
def gK (p c : Int) : Nat → Int → Lf → Lf
  | 0, _, L => L
  | n + 1, k, L => gK p c n (k + 1) (if kbt p k = true then L ++ [(k, c)] else L)
theorem gK_none {p c : Int} : ∀ (n : Nat) (k : Int) (L : Lf), (∀ j, k ≤ j → j < k + n → kbt p j = false) → gK p c n k L = L := by
  intro n
  induction n with
  | zero => intro k L _; rfl
  | succ n ih =>
    intro k L h
    unfold gK
    rw [h k (by omega) (by omega), if_neg (by decide)]
    exact ih (k + 1) L (fun j a b => h j (by omega) (by omega))
theorem gK_split {p c : Int} : ∀ (a b : Nat) (k : Int) (L : Lf), gK p c (a + b) k L = gK p c b (k + a) (gK p c a k L) := by
  intro a
  induction a with
  | zero => intro b k L; simp [gK]
  | succ a ih =>
    intro b k L
    rw [show a + 1 + b = (a + b) + 1 by omega]
    show gK p c (a + b) (k + 1) (if kbt p k = true then L ++ [(k, c)] else L) = _
    rw [ih b (k + 1), show k + 1 + (a : Int) = k + ((a + 1 : Nat) : Int) by omega]
    rfl
theorem gK_kinds {p c m : Int} (p0 : 0 ≤ p) (m0 : 0 ≤ m) (m4 : m ≤ 4) (pm : p < ((2 ^ m.toNat : Nat) : Int)) (L : Lf) : gK p c 4 0 L = gK p c m.toNat 0 L := by
  obtain ⟨n, rfl⟩ := Int.eq_ofNat_of_zero_le p0
  have hp : n < 2 ^ m.toNat := by omega
  have p16 : n < 16 := Nat.lt_of_lt_of_le hp (Nat.le_trans (Nat.pow_le_pow_right (by decide) (show m.toNat ≤ 4 by omega)) (by decide))
  have e : (4 : Nat) = m.toNat + (4 - m.toNat) := by omega
  rw [e, gK_split, gK_none]
  intro j j0 j1
  have := (kbt_all n p16 j.toNat (by omega)).2 m.toNat (by omega) (by omega) hp
  rw [show ((j.toNat : Nat) : Int) = j by omega] at this
  exact this
theorem gK_len {p c : Int} : ∀ (n : Nat) (k : Int) (L : Lf), L.length ≤ (gK p c n k L).length ∧ (gK p c n k L).length ≤ L.length + n := by
  intro n
  induction n with
  | zero => intro k L; exact ⟨Nat.le_refl _, Nat.le_refl _⟩
  | succ n ih =>
    intro k L
    unfold gK
    have := ih (k + 1) (if kbt p k = true then L ++ [(k, c)] else L)
    split at this
    · rw [List.length_append] at this
      simp only [List.length_cons, List.length_nil] at this
      rename_i hh
      rw [if_pos hh]
      omega
    · rename_i hh
      rw [if_neg hh]
      omega
theorem gK_mem {p c : Int} {P : Int × Int → Prop} : ∀ (n : Nat) (k : Int) (L : Lf), (∀ x ∈ L, P x) → (∀ j, k ≤ j → j < k + n → P (j, c)) → ∀ x ∈ gK p c n k L, P x := by
  intro n
  induction n with
  | zero => intro k L h _; exact h
  | succ n ih =>
    intro k L h hk
    unfold gK
    refine ih (k + 1) _ ?_ (fun j a b => hk j (by omega) (by omega))
    split
    · intro x hx
      rcases List.mem_append.mp hx with h1 | h1
      · exact h x h1
      · rw [List.mem_singleton] at h1
        rw [h1]
        exact hk k (by omega) (by omega)
    · exact h
/-- whether a byte's cell is water and new -/
def wtb (r : Mh) (c : Int) : Bool := decide (watR r c)
def ndp (x i : Int) : Bool := allT (fun j => decide (¬ cof x j = cof x i)) i.toNat 0
def gA (r : Mh) (p x : Int) : Nat → Int → Lf → Option Lf
  | 0, _, L => some L
  | n + 1, i, L => if (wtb r (cof x i) && ndp x i) = true then gA r p x n (i + 1) (gK p (cof x i) 4 0 L) else none
/-- rows that hold a list of falls -/
def rowL (cnt : Int) (f g : Int → Int) (L : Lf) : Prop := cnt = L.length ∧ ∀ i : Nat, i < L.length → f i = (L.getD i (0, 0)).1 ∧ g i = (L.getD i (0, 0)).2
theorem rowL.push {cnt cnt' : Int} {f g f' g' : Int → Int} {L : Lf} {k c : Int} (h : rowL cnt f g L) (hc : cnt' = cnt + 1) (hf : ∀ j, f' j = if j = cnt then k else f j) (hg : ∀ j, g' j = if j = cnt then c else g j) : rowL cnt' f' g' (L ++ [(k, c)]) := by
  obtain ⟨h1, h2⟩ := h
  refine ⟨by rw [hc, h1]; simp, fun i hi => ?_⟩
  rw [List.length_append] at hi
  simp only [List.length_cons, List.length_nil] at hi
  rw [hf, hg]
  by_cases z : i < L.length
  · rw [if_neg (by omega), if_neg (by omega), List.getD_eq_getElem?_getD, List.getElem?_append_left z, ← List.getD_eq_getElem?_getD]
    exact h2 i z
  · have ei : i = L.length := by omega
    rw [if_pos (by omega), if_pos (by omega), ei, List.getD_eq_getElem?_getD, List.getElem?_append_right (Nat.le_refl _)]
    simp
