/-! ===== the plain memory: cells by numbers, whole numbers in them ===== -/
abbrev Mh : Type := Int → Int → Int
abbrev Mv : Type := Nat × Int
/-- the tables' numbers, array classes, addresses, shapes (kind, length), wiring, how many cells, enum constants, two static arrays -/
abbrev Mx : Type := va_G × (Nat → ClassId) × (Int → Nat) × (Int → Nat × Nat) × (Int → Int → Int) × Nat × (Nat → Nat) × Nat × Nat
abbrev mxD (X : Mx) : va_G := X.1
abbrev mxC (X : Mx) : Nat → ClassId := X.2.1
abbrev mxA (X : Mx) : Int → Nat := X.2.2.1
abbrev mxS (X : Mx) : Int → Nat × Nat := X.2.2.2.1
abbrev mxW (X : Mx) : Int → Int → Int := X.2.2.2.2.1
abbrev mxN (X : Mx) : Nat := X.2.2.2.2.2.1
abbrev mxE (X : Mx) : Nat → Nat := X.2.2.2.2.2.2.1
abbrev mxT (X : Mx) : Nat := X.2.2.2.2.2.2.2.1
abbrev mxM (X : Mx) : Nat := X.2.2.2.2.2.2.2.2
def up (h : Mh) (o k v : Int) : Mh := fun b j => if b = o ∧ j = k then v else h b j
theorem up_same (h : Mh) (o k v : Int) : up h o k v o k = v := by simp [up]
theorem up_ne (h : Mh) {o k v b j : Int} (q : ¬ (b = o ∧ j = k)) : up h o k v b j = h b j := by simp [up, q]
def w32 (x : Int) : Int := (x + 2147483648) % 4294967296 - 2147483648
def w64 (x : Int) : Int := (x + 9223372036854775808) % 18446744073709551616 - 9223372036854775808
abbrev r32 (x : Int) : Prop := -2147483648 ≤ x ∧ x < 2147483648
abbrev r64 (x : Int) : Prop := -9223372036854775808 ≤ x ∧ x < 9223372036854775808
theorem w32_r (x : Int) : r32 (w32 x) := by unfold w32 r32; omega
theorem w64_r (x : Int) : r64 (w64 x) := by unfold w64 r64; omega
theorem w32_eq {x : Int} (h : -2147483648 ≤ x) (h2 : x < 2147483648) : w32 x = x := by unfold w32; omega
theorem w64_eq {x : Int} (h : -9223372036854775808 ≤ x) (h2 : x < 9223372036854775808) : w64 x = x := by unfold w64; omega
theorem w32_bmod (x : Int) : w32 x = x.bmod (2 ^ 32) := by
  unfold w32 Int.bmod
  simp only [show ((2 ^ 32 : Nat) : Int) = 4294967296 from rfl]
  split <;> omega
theorem w64_bmod (x : Int) : w64 x = x.bmod (2 ^ 64) := by
  unfold w64 Int.bmod
  simp only [show ((2 ^ 64 : Nat) : Int) = 18446744073709551616 from rfl]
  split <;> omega
theorem i32_toInt {a : Int} (h : r32 a) : (Int32.ofInt a).toInt = a := Int32.toInt_ofInt_of_le h.1 h.2
theorem i64_toInt {a : Int} (h : r64 a) : (Int64.ofInt a).toInt = a := Int64.toInt_ofInt_of_le h.1 h.2
theorem i32_eq {x : Int32} {a : Int} (h : x.toInt = a) : x = Int32.ofInt a := by rw [← h, Int32.ofInt_toInt]
theorem i64_eq {x : Int64} {a : Int} (h : x.toInt = a) : x = Int64.ofInt a := by rw [← h, Int64.ofInt_toInt]
theorem i32_w (x : Int) : Int32.ofInt (w32 x) = Int32.ofInt x := Int32.toInt_inj.mp (by rw [Int32.toInt_ofInt, Int32.toInt_ofInt, w32_bmod]; exact Int.bmod_bmod ..)
theorem i64_w (x : Int) : Int64.ofInt (w64 x) = Int64.ofInt x := Int64.toInt_inj.mp (by rw [Int64.toInt_ofInt, Int64.toInt_ofInt, w64_bmod]; exact Int.bmod_bmod ..)
theorem i32_r (x : Int32) : r32 x.toInt := ⟨x.le_toInt, x.toInt_lt⟩
theorem i64_r (x : Int64) : r64 x.toInt := ⟨x.le_toInt, x.toInt_lt⟩
theorem i32_inj {a b : Int} (ha : r32 a) (hb : r32 b) : Int32.ofInt a = Int32.ofInt b ↔ a = b := by
  rw [← Int32.toInt_inj, i32_toInt ha, i32_toInt hb]
theorem i32_lt {a b : Int} (ha : r32 a) (hb : r32 b) : Int32.ofInt a < Int32.ofInt b ↔ a < b := by
  rw [Int32.lt_iff_toInt_lt, i32_toInt ha, i32_toInt hb]
theorem i32_le {a b : Int} (ha : r32 a) (hb : r32 b) : Int32.ofInt a ≤ Int32.ofInt b ↔ a ≤ b := by
  rw [Int32.le_iff_toInt_le, i32_toInt ha, i32_toInt hb]
-- bits, shifts, divisions, comparisons of longs
def j_and (a b : Int) : Int := (Int32.ofInt a &&& Int32.ofInt b).toInt
def j_or (a b : Int) : Int := (Int32.ofInt a ||| Int32.ofInt b).toInt
def j_shl (a b : Int) : Int := (Int32.ofInt a <<< (Int32.ofInt b &&& 31)).toInt
def j_shr (a b : Int) : Int := (Int32.ofInt a >>> (Int32.ofInt b &&& 31)).toInt
def j_ushr (a b : Int) : Int := ((Int32.ofInt a).toUInt32 >>> ((Int32.ofInt b).toUInt32 &&& Int32.toUInt32 31)).toInt32.toInt
def j_land (a b : Int) : Int := (Int64.ofInt a &&& Int64.ofInt b).toInt
def j_lor (a b : Int) : Int := (Int64.ofInt a ||| Int64.ofInt b).toInt
def j_lxor (a b : Int) : Int := (Int64.ofInt a ^^^ Int64.ofInt b).toInt
def j_lshl (a b : Int) : Int := (Int64.ofInt a <<< ((Int32.ofInt b).toInt64 &&& 63)).toInt
def j_lshr (a b : Int) : Int := (Int64.ofInt a >>> ((Int32.ofInt b).toInt64 &&& 63)).toInt
def j_lushr (a b : Int) : Int := ((Int64.ofInt a).toUInt64 >>> ((Int32.ofInt b).toInt64.toUInt64 &&& Int64.toUInt64 63)).toInt64.toInt
def j_i2b (a : Int) : Int := (Int32.ofInt a).toInt8.toInt32.toInt
def j_div (a b : Int) : Int := w32 (a.tdiv b)
def j_rem (a b : Int) : Int := (Int32.ofInt a - Int32.ofInt a / Int32.ofInt b * Int32.ofInt b).toInt
def j_ldiv (a b : Int) : Int := w64 (a.tdiv b)
def j_lrem (a b : Int) : Int := (Int64.ofInt a - Int64.ofInt a / Int64.ofInt b * Int64.ofInt b).toInt
def j_cmp (a b : Int) : Int := if a < b then -1 else if a = b then 0 else 1
/-! ===== kinds of cells ===== -/
def mcl : List vw_C := [(RX1, TX1, 4), (RX2, TX2, 11), (RX3, TX3, 5), (RX4, TX4, 8), (RX5, TX5, 20), (RX6, TX6, 8), (RX7, TX7, 2), (RX8, TX8, 5), (RX9, TX9, 16), (RX10, TX10, 11), (RX11, TX11, 10), (RX13, TX13, 9), (RX14, TX14, 100)]
def mnf (k : Nat) : Nat := match k with
  | 0 => 4 | 1 => 11 | 2 => 5 | 3 => 8 | 4 => 20 | 5 => 8 | 6 => 2 | 7 => 5 | 8 => 16 | 9 => 11 | 10 => 10 | 11 => 9 | 12 => 100 | _ => 0
def mty (k : Nat) : Nat → FieldType := match k with
  | 0 => tyX1 | 1 => tyX2 | 2 => tyX3 | 3 => tyX4 | 4 => tyX5 | 5 => tyX6 | 6 => tyX7 | 7 => tyX8 | 8 => tyX9 | 9 => tyX10 | 10 => tyX11 | 11 => tyX13 | 12 => tyX14 | _ => fun _ => .int
/-- what the elements of an array of this kind are -/
def mel (k : Nat) : FieldType := match k with
  | 13 => .byte | 14 => .int | 15 => .long | 16 => .boolean | _ => .object RX7
def mtag (t : FieldType) : Nat := match t with
  | .long => 1 | .object _ => 2 | .array _ => 2 | _ => 0
def mcv (X : Mx) (v : Mv) : Value := match v.1 with
  | 0 => .int (Int32.ofInt v.2)
  | 1 => .long (Int64.ofInt v.2)
  | 2 => if v.2 < 0 then .null else .ref (mxA X v.2)
  | 3 => if v.2 < 0 then .null else .ref (mxE X v.2.toNat)
  | _ => .ref (if v.2 = 0 then mxT X else mxM X)
def mok (v : Mv) : Prop := match v.1 with
  | 0 => r32 v.2
  | 1 => r64 v.2
  | _ => True
/-- what a place of this type may hold -/
def mokT (t : FieldType) (x : Int) : Prop := match t with
  | .long => r64 x
  | .boolean => x = 0 ∨ x = 1
  | .byte => -128 ≤ x ∧ x < 128
  | .object _ => True
  | .array _ => True
  | _ => r32 x
theorem mokT_ok {t : FieldType} {x : Int} (h : mokT t x) : mok (mtag t, x) := by
  unfold mokT at h; unfold mtag mok
  cases t <;> simp_all <;> omega
def mobj (X : Mx) (k : Nat) (f : Int → Int) : List Value := (List.range (mnf k)).map fun j => mcv X (mtag (mty k j), f j)
def mE (X : Mx) (q : Nat × Nat) (f : Int → Int) : va_E :=
  if q.1 < 13 then .inr (q.1, mobj X q.1 f)
  else if q.1 = 15 then .inl (mxC X 15, q.2, .inr (.inl fun j => Int64.ofInt (f j)))
  else if q.1 = 17 then .inl (mxC X 17, q.2, .inr (.inr (.inr (.inr fun j => if f j < 0 then none else some (mxA X (f j))))))
  else .inl (mxC X q.1, q.2, .inl fun j => Int32.ofInt (f j))
def mW (X : Mx) (h : Mh) : va_W := (List.range (mxN X)).map fun (i : Nat) => (mxA X i, mE X (mxS X i) (h i))
def mtys (X : Mx) : List (ClassId × FieldType) := [(mxC X 13, .byte), (mxC X 14, .int), (mxC X 15, .long), (mxC X 16, .boolean), (mxC X 17, .object RX7)]
/-- fields that are wired once for all -/
def mfin (k : Nat) (j : Nat) : Bool := match mcl[k]? with
  | some q => (q.2.1 j).2.2.2 && mtag (mty k j) == 2
  | none => k == 17
def mokH (X : Mx) (h : Mh) : Prop := ∀ i : Nat, i < mxN X →
  (∀ j : Nat, j < (if (mxS X i).1 < 13 then mnf (mxS X i).1 else (mxS X i).2) → mokT (if (mxS X i).1 < 13 then mty (mxS X i).1 j else mel (mxS X i).1) (h i j) ∧ (mfin (mxS X i).1 j = true → h i j = mxW X i j))
def mA (X : Mx) (sz : Nat) : Nat → Prop := fun q => (∃ i : Nat, i < mxN X ∧ q = mxA X i) ∨ sz ≤ q
def mInj (X : Mx) : Prop := (∀ i j : Nat, i < mxN X → j < mxN X → mxA X i = mxA X j → i = j) ∧ (∀ o : Int, (mxS X o).1 < 90 → 0 ≤ o ∧ o < mxN X) ∧ ∀ o : Int, (mxS X o).2 < 2147483648
theorem mW_at {X : Mx} {h : Mh} {i : Nat} (hi : i < mxN X) : (mW X h)[i]? = some (mxA X i, mE X (mxS X i) (h i)) := by
  simp [mW, hi]
theorem mW_of {X : Mx} {h : Mh} {i : Nat} {q : Nat × va_E} (hq : (mW X h)[i]? = some q) : i < mxN X ∧ q = (mxA X i, mE X (mxS X i) (h i)) := by
  have hi : i < mxN X := by
    have := (List.getElem?_eq_some_iff.mp hq).1
    simpa [mW] using this
  exact ⟨hi, (Option.some.inj ((mW_at (h := h) hi).symm.trans hq)).symm⟩
theorem mW_set {X : Mx} {h : Mh} {o : Nat} {k v : Int} (ho : o < mxN X) {e : va_E} (he : e = mE X (mxS X o) (up h o k v o)) : (mW X h).set o (mxA X o, e) = mW X (up h o k v) := by
  apply List.ext_getElem?
  intro i
  by_cases hi : i < mxN X
  · rw [mW_at hi, List.getElem?_set]
    by_cases e2 : o = i
    · subst e2
      simp [mW, hi, he]
    · have e3 : up h o k v i = h i := by
        funext j
        have : ¬ ((i : Int) = (o : Int) ∧ j = k) := by omega
        exact up_ne h this
      simp only [if_neg e2, mW_at hi, e3]
  · have l1 : (mW X h).length = mxN X := by simp [mW]
    have l2 : (mW X (up h o k v)).length = mxN X := by simp [mW]
    rw [List.getElem?_eq_none (by simp [l1]; omega), List.getElem?_eq_none (by omega)]
theorem mD {X : Mx} {h : Mh} (hj : mInj X) (A : Nat → Prop) (hA : ∀ i : Nat, i < mxN X → A (mxA X i)) : va_D A (mW X h) := by
  refine ⟨fun i j p q hp hq e => ?_, fun k q hq => ?_⟩
  · obtain ⟨h1, rfl⟩ := mW_of hp
    obtain ⟨h2, rfl⟩ := mW_of hq
    exact hj.1 i j h1 h2 e
  · obtain ⟨h1, rfl⟩ := mW_of hq
    exact hA k h1
theorem mA_of {X : Mx} {h : Mh} {sz : Nat} (q : Nat) : va_A (mW X h) sz q ↔ mA X sz q := by
  constructor
  · rintro (⟨k, e, hk⟩ | hk)
    · obtain ⟨h1, h2⟩ := mW_of hk
      exact Or.inl ⟨k, h1, (Prod.mk.inj h2).1⟩
    · exact Or.inr hk
  · rintro (⟨i, h1, rfl⟩ | hk)
    · exact Or.inl ⟨i, _, mW_at h1⟩
    · exact Or.inr hk
