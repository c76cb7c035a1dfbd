/-! ===== bits ===== -/
/-- whether a long has a bit -/
def bit (x c : Int) : Bool := (BitVec.ofInt 64 x).getLsbD c.toNat
theorem bv_toInt64 (x : Int64) : BitVec.ofInt 64 x.toInt = x.toBitVec := by
  rw [← Int64.toBitVec_ofInt, Int64.ofInt_toInt]
theorem bv_toInt32 (x : Int32) : BitVec.ofInt 32 x.toInt = x.toBitVec := by
  rw [← Int32.toBitVec_ofInt, Int32.ofInt_toInt]
theorem bit_or (x y c : Int) : bit (j_lor x y) c = (bit x c || bit y c) := by
  unfold bit j_lor
  rw [bv_toInt64, Int64.toBitVec_or, BitVec.getLsbD_or]
  rfl
theorem bit_and (x y c : Int) : bit (j_land x y) c = (bit x c && bit y c) := by
  unfold bit j_land
  rw [bv_toInt64, Int64.toBitVec_and, BitVec.getLsbD_and]
  rfl
theorem bit_xor (x y c : Int) : bit (j_lxor x y) c = ((bit x c) ^^ (bit y c)) := by
  unfold bit j_lxor
  rw [bv_toInt64, Int64.toBitVec_xor, BitVec.getLsbD_xor]
  rfl
theorem bit_zero (c : Int) : bit 0 c = false := by
  unfold bit
  simp
theorem bit_one (c : Int) : bit 1 c = decide (c.toNat = 0) := by
  unfold bit
  rw [show BitVec.ofInt 64 1 = 1#64 from rfl]
  simp
theorem bit_m1 {c : Int} (h : c.toNat < 64) : bit (-1) c = true := by
  show (BitVec.allOnes 64).getLsbD c.toNat = true
  rw [BitVec.getLsbD_allOnes, decide_eq_true h]
/-- a shift's count, of 0 .. 63 -/
theorem sh63 {k : Int} (h0 : 0 ≤ k) (h1 : k < 64) : ((Int32.ofInt k).toInt64 &&& 63).toBitVec.toNat = k.toNat := by
  obtain ⟨n, rfl⟩ := Int.eq_ofNat_of_zero_le h0
  have : ∀ n : Nat, n < 64 → ((Int32.ofInt (n : Int)).toInt64 &&& 63).toBitVec.toNat = n := by decide +kernel
  rw [this n (by omega)]
  omega
theorem bit_shl {x k c : Int} (h0 : 0 ≤ k) (h1 : k < 64) (c1 : c.toNat < 64) : bit (j_lshl x k) c = (decide (k.toNat ≤ c.toNat) && (BitVec.ofInt 64 x).getLsbD (c.toNat - k.toNat)) := by
  unfold bit j_lshl
  rw [bv_toInt64]
  have e := sh63 h0 h1
  have e2 : ((Int32.ofInt k).toInt64 &&& 63).toBitVec.smod 64 = ((Int32.ofInt k).toInt64 &&& 63).toBitVec := by
    obtain ⟨n, rfl⟩ := Int.eq_ofNat_of_zero_le h0
    have : ∀ n : Nat, n < 64 → ((Int32.ofInt (n : Int)).toInt64 &&& 63).toBitVec.smod 64 = ((Int32.ofInt (n : Int)).toInt64 &&& 63).toBitVec := by decide +kernel
    exact this n (by omega)
  rw [Int64.toBitVec_shiftLeft, e2, BitVec.shiftLeft_eq', e, BitVec.getLsbD_shiftLeft]
  by_cases q : k.toNat ≤ c.toNat
  · simp [c1, q]
    intro; omega
  · simp [q]
    intro; omega
theorem bit_one_shl {k c : Int} (h0 : 0 ≤ k) (h1 : k < 64) (c0 : 0 ≤ c) (c1 : c < 64) : bit (j_lshl 1 k) c = decide (c = k) := by
  rw [bit_shl h0 h1 (by omega), show BitVec.ofInt 64 1 = 1#64 from rfl]
  by_cases q : c = k
  · subst q; simp
  · by_cases z : k.toNat ≤ c.toNat
    · have : c.toNat - k.toNat ≠ 0 := by omega
      simp [q, z, this]
    · simp [q, z]
theorem bit_test {x k : Int} (h0 : 0 ≤ k) (h1 : k < 64) : j_cmp (j_land (j_lushr x k) 1) 0 = 0 ↔ bit x k = false := by
  rw [j_cmp_eq]
  unfold j_land j_lushr bit
  have e2 : ((Int32.ofInt k).toInt64.toUInt64 &&& Int64.toUInt64 63).toBitVec.toNat = k.toNat := sh63 h0 h1
  have e3 : (((Int32.ofInt k).toInt64.toUInt64 &&& Int64.toUInt64 63) % 64).toBitVec.toNat = k.toNat := by
    obtain ⟨n, rfl⟩ := Int.eq_ofNat_of_zero_le h0
    have : ∀ n : Nat, n < 64 → (((Int32.ofInt (n : Int)).toInt64.toUInt64 &&& Int64.toUInt64 63) % 64).toBitVec.toNat = n := by decide +kernel
    rw [this n (by omega)]; omega
  rw [← Int64.toInt_zero, Int64.toInt_inj, ← Int64.toBitVec_inj, Int64.toBitVec_and, Int64.toBitVec_ofInt, bv_toInt64]
  have e4 : (((Int64.ofInt x).toUInt64 >>> ((Int32.ofInt k).toInt64.toUInt64 &&& Int64.toUInt64 63)).toInt64).toBitVec = (BitVec.ofInt 64 x) >>> k.toNat := by
    show ((Int64.ofInt x).toUInt64 >>> ((Int32.ofInt k).toInt64.toUInt64 &&& Int64.toUInt64 63)).toBitVec = _
    rw [UInt64.toBitVec_shiftRight]
    rw [BitVec.ushiftRight_eq']
    congr 1
  rw [e4]
  constructor
  · intro h
    have := congrArg (fun b => b.getLsbD 0) h
    simpa [BitVec.getLsbD_and, BitVec.getLsbD_ushiftRight] using this
  · intro h
    apply BitVec.eq_of_getLsbD_eq
    intro i hi
    rw [BitVec.getLsbD_and, BitVec.getLsbD_ushiftRight]
    rw [show (Int64.ofInt 1).toBitVec = 1#64 from rfl]
    by_cases q : i = 0
    · subst q; simp [h]
    · simp [q]
