/-! ===== how many bits: by bytes ===== -/
def bval : List Nat → Nat
  | [] => 0
  | b :: l => b + 256 * bval l
def rep8 (m : Nat) : Nat → Nat
  | 0 => 0
  | n + 1 => m + 256 * rep8 m n
theorem land_byte {a y m M : Nat} (ha : a < 256) (hm : m < 256) : (a + 256 * y) &&& (m + 256 * M) = (a &&& m) + 256 * (y &&& M) := land_split (b := 8) ha hm
theorem bval_land {m : Nat} (hm : m < 256) : ∀ (l : List Nat), (∀ b ∈ l, b < 256) → bval l &&& rep8 m l.length = bval (l.map (fun b => b &&& m)) := by
  intro l
  induction l with
  | nil => intro _; simp [bval]
  | cons b l ih =>
    intro h
    show (b + 256 * bval l) &&& (m + 256 * rep8 m l.length) = (b &&& m) + 256 * bval (l.map (fun b => b &&& m))
    rw [land_byte (h b (by simp)) hm, ih (fun c hc => h c (by simp [hc]))]
theorem bval_add (f g : Nat → Nat) : ∀ l : List Nat, bval (l.map f) + bval (l.map g) = bval (l.map (fun b => f b + g b)) := by
  intro l
  induction l with
  | nil => rfl
  | cons b l ih =>
    show (f b + 256 * bval (l.map f)) + (g b + 256 * bval (l.map g)) = (f b + g b) + 256 * bval (l.map (fun b => f b + g b))
    rw [← ih]; omega
theorem bval_sub (g : Nat → Nat) : ∀ l : List Nat, (∀ b ∈ l, g b ≤ b) → bval (l.map g) ≤ bval l ∧ bval l - bval (l.map g) = bval (l.map (fun b => b - g b)) := by
  intro l
  induction l with
  | nil => intro _; exact ⟨Nat.le_refl _, rfl⟩
  | cons b l ih =>
    intro h
    obtain ⟨h1, h2⟩ := ih (fun c hc => h c (by simp [hc]))
    have h3 := h b (by simp)
    show (g b + 256 * bval (l.map g) ≤ b + 256 * bval l) ∧ (b + 256 * bval l) - (g b + 256 * bval (l.map g)) = (b - g b) + 256 * bval (l.map (fun b => b - g b))
    rw [← h2]
    omega
/-- a shift and a mask that lets nothing of the next byte in -/
theorem bval_shr1 : ∀ (l : List Nat), (∀ b ∈ l, b < 256) → (bval l >>> 1) &&& rep8 0x55 l.length = bval (l.map (fun b => (b >>> 1) &&& 0x55)) := by
  have key : ∀ b : Nat, b < 256 → ∀ y : Nat, y < 2 → (b / 2 + 128 * y) &&& 0x55 = (b >>> 1) &&& 0x55 := by decide +kernel
  intro l
  induction l with
  | nil => intro _; rfl
  | cons b l ih =>
    intro h
    have hb := h b (by simp)
    show ((b + 256 * bval l) >>> 1) &&& (0x55 + 256 * rep8 0x55 l.length) = ((b >>> 1) &&& 0x55) + 256 * bval (l.map (fun b => (b >>> 1) &&& 0x55))
    rw [← ih (fun c hc => h c (by simp [hc])), Nat.shiftRight_eq_div_pow, Nat.shiftRight_eq_div_pow (bval l)]
    rw [show (b + 256 * bval l) / 2 ^ 1 = (b / 2 + 128 * (bval l % 2)) + 256 * (bval l / 2 ^ 1) by omega, land_byte (by omega) (by decide), key b hb _ (Nat.mod_lt _ (by decide))]
theorem bval_shr2 : ∀ (l : List Nat), (∀ b ∈ l, b < 256) → (bval l >>> 2) &&& rep8 0x33 l.length = bval (l.map (fun b => (b >>> 2) &&& 0x33)) := by
  have key : ∀ b : Nat, b < 256 → ∀ y : Nat, y < 4 → (b / 4 + 64 * y) &&& 0x33 = (b >>> 2) &&& 0x33 := by decide +kernel
  intro l
  induction l with
  | nil => intro _; rfl
  | cons b l ih =>
    intro h
    have hb := h b (by simp)
    show ((b + 256 * bval l) >>> 2) &&& (0x33 + 256 * rep8 0x33 l.length) = ((b >>> 2) &&& 0x33) + 256 * bval (l.map (fun b => (b >>> 2) &&& 0x33))
    rw [← ih (fun c hc => h c (by simp [hc])), Nat.shiftRight_eq_div_pow, Nat.shiftRight_eq_div_pow (bval l)]
    rw [show (b + 256 * bval l) / 2 ^ 2 = (b / 4 + 64 * (bval l % 4)) + 256 * (bval l / 2 ^ 2) by omega, land_byte (by omega) (by decide), key b hb _ (Nat.mod_lt _ (by decide))]
def nib (b : Nat) : Prop := b < 256 ∧ b % 16 ≤ 4 ∧ b / 16 ≤ 4
theorem bval_sum4 : ∀ (l : List Nat), (∀ b ∈ l, nib b) → (bval l + (bval l >>> 4)) &&& rep8 0x0f l.length = bval (l.map (fun b => (b + (b >>> 4)) &&& 0x0f)) ∧ bval l % 16 ≤ 4 := by
  have key : ∀ b : Nat, b < 256 → ∀ y : Nat, y < 5 → (b + b / 16 + 16 * y) &&& 0x0f = (b + (b >>> 4)) &&& 0x0f := by decide +kernel
  intro l
  induction l with
  | nil => intro _; exact ⟨rfl, by decide⟩
  | cons b l ih =>
    intro h
    have hb := h b (by simp)
    obtain ⟨h1, h2⟩ := ih (fun c hc => h c (by simp [hc]))
    obtain ⟨b1, b2, b3⟩ := hb
    refine ⟨?_, by show (b + 256 * bval l) % 16 ≤ 4; omega⟩
    show ((b + 256 * bval l) + ((b + 256 * bval l) >>> 4)) &&& (0x0f + 256 * rep8 0x0f l.length) = ((b + (b >>> 4)) &&& 0x0f) + 256 * bval (l.map (fun b => (b + (b >>> 4)) &&& 0x0f))
    rw [← h1, Nat.shiftRight_eq_div_pow, Nat.shiftRight_eq_div_pow (bval l)]
    rw [show (b + 256 * bval l) + (b + 256 * bval l) / 2 ^ 4 = (b + b / 16 + 16 * (bval l % 16)) + 256 * (bval l + bval l / 2 ^ 4) by omega, land_byte (by omega) (by decide), key b b1 _ (by omega)]
/-- the bits of a byte -/
def bc (b : Nat) : Nat := (if b.testBit 0 then 1 else 0) + (if b.testBit 1 then 1 else 0) + (if b.testBit 2 then 1 else 0) + (if b.testBit 3 then 1 else 0) + (if b.testBit 4 then 1 else 0) + (if b.testBit 5 then 1 else 0) + (if b.testBit 6 then 1 else 0) + (if b.testBit 7 then 1 else 0)
def b1 (b : Nat) : Nat := b - ((b >>> 1) &&& 0x55)
def b2 (b : Nat) : Nat := (b &&& 0x33) + ((b >>> 2) &&& 0x33)
def b3 (b : Nat) : Nat := (b + (b >>> 4)) &&& 0x0f
theorem bc_eq : ∀ b : Nat, b < 256 → ((b >>> 1) &&& 0x55 ≤ b ∧ b1 b < 256) ∧ nib (b2 (b1 b)) ∧ b3 (b2 (b1 b)) = bc b ∧ bc b ≤ 8 := by
  unfold nib
  decide +kernel
theorem swar (n : Nat) (hn : n < 2 ^ 48) : ∃ l : List Nat, l.length = 6 ∧ (∀ b ∈ l, b < 256) ∧ n = bval l := by
  refine ⟨[n % 256, n / 256 % 256, n / 65536 % 256, n / 16777216 % 256, n / 4294967296 % 256, n / 1099511627776], rfl, ?_, ?_⟩
  · intro b hb
    simp only [List.mem_cons, List.not_mem_nil, or_false] at hb
    rcases hb with rfl | rfl | rfl | rfl | rfl | rfl <;> omega
  · simp only [bval]
    omega
/-- all but the last steps of bitCount -/
theorem swar3 (l : List Nat) (h : ∀ b ∈ l, b < 256) : ∃ x1 x2 : Nat, (bval l >>> 1) &&& rep8 0x55 l.length ≤ bval l ∧ bval l - ((bval l >>> 1) &&& rep8 0x55 l.length) = x1 ∧ (x1 &&& rep8 0x33 l.length) + ((x1 >>> 2) &&& rep8 0x33 l.length) = x2 ∧ (x2 + (x2 >>> 4)) &&& rep8 0x0f l.length = bval (l.map bc) := by
  obtain ⟨s1, s2⟩ := bval_sub (fun b => (b >>> 1) &&& 0x55) l (fun b hb => (bc_eq b (h b hb)).1.1)
  rw [← bval_shr1 l h] at s1 s2
  refine ⟨bval (l.map b1), bval (l.map (fun b => b2 (b1 b))), s1, s2, ?_, ?_⟩
  · have hl : ∀ b ∈ l.map b1, b < 256 := by
      intro b hb
      obtain ⟨c, hc, rfl⟩ := List.mem_map.mp hb
      exact (bc_eq c (h c hc)).1.2
    have e : l.length = (l.map b1).length := by simp
    rw [e, bval_land (by decide) _ hl, bval_shr2 _ hl, bval_add, List.map_map]
    rfl
  · have hl : ∀ b ∈ l.map (fun b => b2 (b1 b)), nib b := by
      intro b hb
      obtain ⟨c, hc, rfl⟩ := List.mem_map.mp hb
      exact (bc_eq c (h c hc)).2.1
    have e : l.length = (l.map (fun b => b2 (b1 b))).length := by simp
    rw [e, (bval_sum4 _ hl).1, List.map_map]
    congr 1
    apply List.map_congr_left
    intro b hb
    exact (bc_eq b (h b hb)).2.2.1
theorem j_land_nat {a b : Nat} (ha : a < 2 ^ 63) (hb : b < 2 ^ 63) : j_land a b = ((a &&& b : Nat) : Int) := by
  have h : a &&& b < 2 ^ 63 := Nat.and_lt_two_pow a hb
  unfold j_land
  rw [Int64.toInt, Int64.toBitVec_and, Int64.toBitVec_ofInt, Int64.toBitVec_ofInt, BitVec.ofInt_natCast, BitVec.ofInt_natCast, BitVec.toInt_eq_toNat_of_lt]
  · rw [BitVec.toNat_and, BitVec.toNat_ofNat, BitVec.toNat_ofNat, Nat.mod_eq_of_lt (by omega), Nat.mod_eq_of_lt (by omega)]
  · rw [BitVec.toNat_and, BitVec.toNat_ofNat, BitVec.toNat_ofNat, Nat.mod_eq_of_lt (by omega), Nat.mod_eq_of_lt (by omega)]
    omega
theorem j_lushr_nat {a k : Nat} (ha : a < 2 ^ 63) (hk : k < 64) : j_lushr a k = ((a >>> k : Nat) : Int) := by
  have h : a >>> k ≤ a := Nat.shiftRight_le a k
  have e3 : (((Int32.ofInt (k : Int)).toInt64.toUInt64 &&& Int64.toUInt64 63) % 64).toBitVec.toNat = k := by
    have : ∀ n : Nat, n < 64 → (((Int32.ofInt (n : Int)).toInt64.toUInt64 &&& Int64.toUInt64 63) % 64).toBitVec.toNat = n := by decide +kernel
    exact this k hk
  have e4 : (((Int64.ofInt (a : Int)).toUInt64 >>> ((Int32.ofInt (k : Int)).toInt64.toUInt64 &&& Int64.toUInt64 63)).toInt64).toBitVec = (BitVec.ofInt 64 a) >>> k := by
    show ((Int64.ofInt (a : Int)).toUInt64 >>> ((Int32.ofInt (k : Int)).toInt64.toUInt64 &&& Int64.toUInt64 63)).toBitVec = _
    rw [UInt64.toBitVec_shiftRight, BitVec.ushiftRight_eq']
    have e5 : (((Int32.ofInt (k : Int)).toInt64.toUInt64 &&& Int64.toUInt64 63).toBitVec % 64#64).toNat = k := e3
    congr 1
  unfold j_lushr
  rw [Int64.toInt, e4, BitVec.ofInt_natCast, BitVec.toInt_eq_toNat_of_lt]
  · rw [BitVec.toNat_ushiftRight, BitVec.toNat_ofNat, Nat.mod_eq_of_lt (by omega)]
  · rw [BitVec.toNat_ushiftRight, BitVec.toNat_ofNat, Nat.mod_eq_of_lt (by omega)]
    omega
theorem j_and127 {x : Nat} : j_and (w32 x) 127 = ((x % 128 : Nat) : Int) := by
  unfold j_and
  rw [i32_w, Int32.toInt, Int32.toBitVec_and, Int32.toBitVec_ofInt, BitVec.ofInt_natCast, show (Int32.ofInt 127).toBitVec = 127#32 from rfl]
  have e : (BitVec.ofNat 32 x &&& 127#32).toNat = x % 128 := by
    rw [BitVec.toNat_and, BitVec.toNat_ofNat, show (127#32).toNat = 2 ^ 7 - 1 from rfl, Nat.and_two_pow_sub_one_eq_mod]
    omega
  rw [BitVec.toInt_eq_toNat_of_lt (by rw [e]; omega), e]
theorem i64_mod {x y : Int} (h : x % 18446744073709551616 = y % 18446744073709551616) : Int64.ofInt x = Int64.ofInt y := by
  rw [← i64_w x, ← i64_w y]
  congr 1
  unfold w64
  omega
/-- the same bits: the same count -/
theorem swarX (n : Nat) (hn : n < 2 ^ 48) {h : Mh} {K : Int → Mh → Prop} {x : Int} (hx : x % 18446744073709551616 = n) (hk : ∀ l : List Nat, l.length = 6 → (∀ b ∈ l, b < 256) → n = bval l → K (((l.map bc).foldr (· + ·) 0 : Nat) : Int) h) : wp_J13_bitCount_95d88 x h K := by
  obtain ⟨l, hl, hb, rfl⟩ := swar n hn
  obtain ⟨x1, x2, q0, q1, q2, q3⟩ := swar3 l hb
  rw [hl] at q0 q1 q2 q3
  have m55 : rep8 0x55 6 = 0x555555555555 := by decide
  have m33 : rep8 0x33 6 = 0x333333333333 := by decide
  have m0f : rep8 0x0f 6 = 0x0f0f0f0f0f0f := by decide
  have up6 : ∀ {a M m : Nat}, a < 2 ^ 48 → m < 2 ^ 48 → a &&& (m + 2 ^ 48 * M) = a &&& m := by
    intro a M m ha hm
    have := land_split (b := 48) (a := a) (y := 0) (m := m) (M := M) ha hm
    simpa using this
  have x1b : x1 < 2 ^ 48 := by omega
  have l2 : (x1 &&& rep8 0x33 6) ≤ x1 := Nat.and_le_left
  have l3 : ((x1 >>> 2) &&& rep8 0x33 6) ≤ x1 >>> 2 := Nat.and_le_left
  have l4 : x1 >>> 2 ≤ x1 / 4 := by rw [Nat.shiftRight_eq_div_pow]; exact Nat.le_refl _
  have l5 : (x1 &&& rep8 0x33 6) ≤ rep8 0x33 6 := Nat.and_le_right
  have l6 : ((x1 >>> 2) &&& rep8 0x33 6) ≤ rep8 0x33 6 := Nat.and_le_right
  rw [m33] at l5 l6
  have x2b : x2 ≤ 2 * 0x333333333333 := by rw [← q2, m33]; omega
  have i1 : Int64.ofInt x = Int64.ofInt ((bval l : Nat) : Int) := i64_mod (by rw [hx]; omega)
  have sh1 : j_lushr x 1 = ((bval l >>> 1 : Nat) : Int) := by
    have : j_lushr x 1 = j_lushr ((bval l : Nat) : Int) ((1 : Nat) : Int) := by unfold j_lushr; rw [i1]; rfl
    rw [this, j_lushr_nat (by omega) (by decide)]
  have s1l : bval l >>> 1 ≤ bval l := Nat.shiftRight_le _ _
  unfold wp_J13_bitCount_95d88
  intro y1 ey1
  rw [sh1, show (6148914691236517205 : Int) = ((0x5555555555555555 : Nat) : Int) from rfl, j_land_nat (by omega) (by decide)] at ey1
  rw [show (0x5555555555555555 : Nat) = 0x555555555555 + 2 ^ 48 * 0x5555 by decide, up6 (by omega) (by decide), ← m55] at ey1
  have ey1b : y1 = x1 := by
    rw [ey1]
    have : w64 (x - (((bval l >>> 1) &&& rep8 0x55 6 : Nat) : Int)) = w64 (((bval l : Nat) : Int) - (((bval l >>> 1) &&& rep8 0x55 6 : Nat) : Int)) := by
      unfold w64
      omega
    rw [this, w64_eq (by omega) (by omega)]
    omega
  subst ey1b
  intro y2 ey2
  have sh2 : j_lushr (x1 : Int) 2 = ((x1 >>> 2 : Nat) : Int) := j_lushr_nat (k := 2) (by omega) (by decide)
  have s2l : x1 >>> 2 ≤ x1 := Nat.shiftRight_le _ _
  rw [sh2, show (3689348814741910323 : Int) = ((0x3333333333333333 : Nat) : Int) from rfl, j_land_nat (by omega) (by decide), j_land_nat (by omega) (by decide)] at ey2
  rw [show (0x3333333333333333 : Nat) = 0x333333333333 + 2 ^ 48 * 0x3333 by decide, up6 x1b (by decide), up6 (by omega) (by decide), ← m33] at ey2
  rw [m33] at q2
  rw [m33, w64_eq (by omega) (by omega)] at ey2
  have ey2b : y2 = x2 := by rw [ey2]; omega
  subst ey2b
  intro y3 ey3
  have sh3 : j_lushr (x2 : Int) 4 = ((x2 >>> 4 : Nat) : Int) := j_lushr_nat (k := 4) (by omega) (by decide)
  have s3l : x2 >>> 4 ≤ x2 := Nat.shiftRight_le _ _
  have s3m : x2 >>> 4 = x2 / 16 := Nat.shiftRight_eq_div_pow _ _
  rw [sh3, w64_eq (by omega) (by omega), show ((x2 : Int) + ((x2 >>> 4 : Nat) : Int)) = ((x2 + (x2 >>> 4) : Nat) : Int) by omega, show (1085102592571150095 : Int) = ((0x0f0f0f0f0f0f0f0f : Nat) : Int) from rfl, j_land_nat (by omega) (by decide)] at ey3
  rw [show (0x0f0f0f0f0f0f0f0f : Nat) = 0x0f0f0f0f0f0f + 2 ^ 48 * 0x0f0f by decide, up6 (by omega) (by decide), ← m0f, q3] at ey3
  -- six bytes, each at most 8
  match l, hl, hb with
  | [p0, p1, p2, p3, p4, p5], _, hb =>
    have c0 := (bc_eq p0 (hb p0 (by simp))).2.2.2
    have c1 := (bc_eq p1 (hb p1 (by simp))).2.2.2
    have c2 := (bc_eq p2 (hb p2 (by simp))).2.2.2
    have c3 := (bc_eq p3 (hb p3 (by simp))).2.2.2
    have c4 := (bc_eq p4 (hb p4 (by simp))).2.2.2
    have c5 := (bc_eq p5 (hb p5 (by simp))).2.2.2
    have hK := hk [p0, p1, p2, p3, p4, p5] rfl hb rfl
    simp only [List.map, bval, List.foldr] at ey3 hK
    generalize bc p0 = t0 at *
    generalize bc p1 = t1 at *
    generalize bc p2 = t2 at *
    generalize bc p3 = t3 at *
    generalize bc p4 = t4 at *
    generalize bc p5 = t5 at *
    generalize en : t0 + 256 * (t1 + 256 * (t2 + 256 * (t3 + 256 * (t4 + 256 * (t5 + 256 * 0))))) = n3 at ey3
    have shr : ∀ a k : Nat, a < 2 ^ 62 → k < 64 → j_lushr (a : Int) (k : Int) = ((a / 2 ^ k : Nat) : Int) := by
      intro a k ha hk
      rw [j_lushr_nat (by omega) hk, Nat.shiftRight_eq_div_pow]
    subst ey3
    intro y4 ey4
    have z4 := shr n3 8 (by omega) (by decide)
    rw [show ((8 : Nat) : Int) = 8 from rfl] at z4
    rw [z4, w64_eq (by omega) (by omega), show (n3 : Int) + ((n3 / 2 ^ 8 : Nat) : Int) = ((n3 + n3 / 256 : Nat) : Int) by omega] at ey4
    subst ey4
    intro y5 ey5
    have z5 := shr (n3 + n3 / 256) 16 (by omega) (by decide)
    rw [show ((16 : Nat) : Int) = 16 from rfl] at z5
    rw [z5, w64_eq (by omega) (by omega), show ((n3 + n3 / 256 : Nat) : Int) + (((n3 + n3 / 256) / 2 ^ 16 : Nat) : Int) = ((n3 + n3 / 256 + (n3 + n3 / 256) / 65536 : Nat) : Int) by omega] at ey5
    subst ey5
    intro y6 ey6
    have z6 := shr (n3 + n3 / 256 + (n3 + n3 / 256) / 65536) 32 (by omega) (by decide)
    rw [show ((32 : Nat) : Int) = 32 from rfl] at z6
    rw [z6, w64_eq (by omega) (by omega), show ((n3 + n3 / 256 + (n3 + n3 / 256) / 65536 : Nat) : Int) + (((n3 + n3 / 256 + (n3 + n3 / 256) / 65536) / 2 ^ 32 : Nat) : Int) = ((n3 + n3 / 256 + (n3 + n3 / 256) / 65536 + (n3 + n3 / 256 + (n3 + n3 / 256) / 65536) / 4294967296 : Nat) : Int) by omega] at ey6
    subst ey6
    rw [j_and127]
    have fin : (n3 + n3 / 256 + (n3 + n3 / 256) / 65536 + (n3 + n3 / 256 + (n3 + n3 / 256) / 65536) / 4294967296) % 128 = t0 + (t1 + (t2 + (t3 + (t4 + (t5 + 0))))) := by
      have a1 : n3 / 256 = t1 + 256 * (t2 + 256 * (t3 + 256 * (t4 + 256 * t5))) := by omega
      have a2 : n3 + n3 / 256 = (t0 + t1) + 256 * (t1 + t2) + 65536 * (t2 + t3) + 16777216 * (t3 + t4) + 4294967296 * (t4 + t5) + 1099511627776 * t5 := by omega
      have a3 : (n3 + n3 / 256) / 65536 = (t2 + t3) + 256 * (t3 + t4) + 65536 * (t4 + t5) + 16777216 * t5 := by omega
      have a4 : n3 + n3 / 256 + (n3 + n3 / 256) / 65536 = (t0 + t1 + t2 + t3) + 256 * (t1 + t2 + t3 + t4) + 65536 * (t2 + t3 + t4 + t5) + 16777216 * (t3 + t4 + t5) + 4294967296 * (t4 + t5) + 1099511627776 * t5 := by omega
      have a5 : (n3 + n3 / 256 + (n3 + n3 / 256) / 65536) / 4294967296 = (t4 + t5) + 256 * t5 := by omega
      omega
    rw [fin]
    exact hK
