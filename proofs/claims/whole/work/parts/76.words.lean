/-! ===== the class's words ===== -/
theorem j_pack {v c : Int} (v0 : 0 ≤ v) (v1 : v < 33554432) (c0 : 0 ≤ c) (c1 : c < 32) : j_or (j_shl v 5) c = 32 * v + c := by
  obtain ⟨n, rfl⟩ := Int.eq_ofNat_of_zero_le v0
  obtain ⟨m, rfl⟩ := Int.eq_ofNat_of_zero_le c0
  have hn : n < 33554432 := by omega
  have hm : m < 32 := by omega
  unfold j_or j_shl
  rw [Int32.ofInt_toInt]
  show ((Int32.ofInt n <<< (Int32.ofInt 5 &&& 31)) ||| Int32.ofInt m).toBitVec.toInt = _
  have e : ((Int32.ofInt n <<< (Int32.ofInt 5 &&& 31)) ||| Int32.ofInt m).toBitVec = (BitVec.ofNat 32 n <<< 5) ||| BitVec.ofNat 32 m := by
    rw [Int32.toBitVec_or, Int32.toBitVec_shiftLeft]
    rfl
  rw [e]
  have t : ((BitVec.ofNat 32 n <<< 5) ||| BitVec.ofNat 32 m).toNat = 32 * n + m := by
    rw [BitVec.toNat_or, BitVec.toNat_shiftLeft, BitVec.toNat_ofNat, BitVec.toNat_ofNat, Nat.mod_eq_of_lt (show n < 2 ^ 32 by omega), Nat.mod_eq_of_lt (show m < 2 ^ 32 by omega)]
    rw [Nat.mod_eq_of_lt (show n <<< 5 < 2 ^ 32 by rw [Nat.shiftLeft_eq]; omega)]
    rw [← Nat.shiftLeft_add_eq_or_of_lt (show m < 2 ^ 5 by omega), Nat.shiftLeft_eq]
    omega
  rw [BitVec.toInt_eq_toNat_of_lt (by rw [t]; omega), t]
  omega
theorem j_shl5 {v : Int} (v0 : 0 ≤ v) (v1 : v < 33554432) : j_shl v 5 = 32 * v := by
  have := j_pack v0 v1 (c := 0) (by omega) (by omega)
  rw [j_or_zero (j_shl_r _ _)] at this
  omega
def cB (B : Int → Int) (e p : Int) : Int := if e ≤ p then 0 else B p - 96
def pv (c : Int → Int) : Int := 32 * (32 * (32 * (32 * (32 * c 0 + c 1) + c 2) + c 3) + c 4) + c 5
theorem pkR_val {B : Int → Int} {s e : Int} (hc : ∀ i, s ≤ i → i < s + 6 → 0 ≤ cB B e i ∧ cB B e i < 32) : pkR B e 6 s 0 = pv (fun i => cB B e (s + i)) := by
  have h0 := hc s (by omega) (by omega)
  have h1 := hc (s + 1) (by omega) (by omega)
  have h2 := hc (s + 2) (by omega) (by omega)
  have h3 := hc (s + 3) (by omega) (by omega)
  have h4 := hc (s + 4) (by omega) (by omega)
  have h5 := hc (s + 5) (by omega) (by omega)
  have st : ∀ (m : Nat) (p v : Int), 0 ≤ v → v < 33554432 → 0 ≤ cB B e p → cB B e p < 32 → pkR B e (m + 1) p v = pkR B e m (p + 1) (32 * v + cB B e p) := by
    intro m p v a b c d
    show pkR B e m (p + 1) (j_or (j_shl v 5) (cB B e p)) = _
    rw [j_pack a b c d]
  rw [st 5 s 0 (by omega) (by omega) h0.1 h0.2]
  rw [st 4 (s + 1) _ (by omega) (by omega) h1.1 h1.2, show s + 1 + 1 = s + 2 by omega]
  rw [st 3 (s + 2) _ (by omega) (by omega) h2.1 h2.2, show s + 2 + 1 = s + 3 by omega]
  rw [st 2 (s + 3) _ (by omega) (by omega) h3.1 h3.2, show s + 3 + 1 = s + 4 by omega]
  rw [st 1 (s + 4) _ (by omega) (by omega) h4.1 h4.2, show s + 4 + 1 = s + 5 by omega]
  rw [st 0 (s + 5) _ (by omega) (by omega) h5.1 h5.2]
  unfold pkR pv
  dsimp only
  rw [show s + 0 = s by omega]
  omega
def dgt (f l i : Int) : Int := if i < l then wrd (f + i) - 96 else 0
theorem mtch_pv {B : Int → Int} {s e f l : Int} (h6 : e - s ≤ 6) (hs : s ≤ e) (hB : ∀ j, s ≤ j → j < e → 97 ≤ B j ∧ B j ≤ 122) (l0 : 0 ≤ l) (l6 : l ≤ 6) (hw : ∀ i, 0 ≤ i → i < l → 97 ≤ wrd (f + i) ∧ wrd (f + i) ≤ 122) : mtch B s e f l = true ↔ pv (fun i => cB B e (s + i)) = pv (dgt f l) := by
  have c1 : ∀ i, 0 ≤ i → (s + i < e → cB B e (s + i) = B (s + i) - 96 ∧ 97 ≤ B (s + i) ∧ B (s + i) ≤ 122) ∧ (e ≤ s + i → cB B e (s + i) = 0) := by
    intro i i0
    unfold cB
    exact ⟨fun z => ⟨if_neg (by omega), hB _ (by omega) z⟩, fun z => if_pos z⟩
  have c2 : ∀ i, 0 ≤ i → (i < l → dgt f l i = wrd (f + i) - 96 ∧ 97 ≤ wrd (f + i) ∧ wrd (f + i) ≤ 122) ∧ (l ≤ i → dgt f l i = 0) := by
    intro i i0
    unfold dgt
    exact ⟨fun z => ⟨if_pos z, hw _ i0 z⟩, fun z => if_neg (by omega)⟩
  have b1 : ∀ i, 0 ≤ i → 0 ≤ cB B e (s + i) ∧ cB B e (s + i) < 32 := by
    intro i i0
    rcases Int.lt_or_le (s + i) e with z | z
    · have := (c1 i i0).1 z; omega
    · have := (c1 i i0).2 z; omega
  have b2 : ∀ i, 0 ≤ i → 0 ≤ dgt f l i ∧ dgt f l i < 32 := by
    intro i i0
    rcases Int.lt_or_le i l with z | z
    · have := (c2 i i0).1 z; omega
    · have := (c2 i i0).2 z; omega
  constructor
  · intro hm
    unfold mtch at hm
    rw [Bool.and_eq_true] at hm
    have hl := of_decide_eq_true hm.1
    have ha := (allT_iff _ _).mp hm.2
    have eq : ∀ i, 0 ≤ i → cB B e (s + i) = dgt f l i := by
      intro i i0
      rcases Int.lt_or_le i l with z | z
      · have z1 := (c1 i i0).1 (by omega)
        have z2 := (c2 i i0).1 z
        have z3 : wrd (f + i) = B (s + i) := of_decide_eq_true (ha i i0 (by omega))
        omega
      · have z1 := (c1 i i0).2 (by omega)
        have z2 := (c2 i i0).2 z
        omega
    unfold pv
    dsimp only
    rw [eq 0 (by omega), eq 1 (by omega), eq 2 (by omega), eq 3 (by omega), eq 4 (by omega), eq 5 (by omega)]
  · intro hp
    unfold pv at hp
    dsimp only at hp
    have dg : ∀ a b x y : Int, 0 ≤ x ∧ x < 32 → 0 ≤ y ∧ y < 32 → 32 * a + x = 32 * b + y → a = b ∧ x = y := by
      intro a b x y h1 h2 h3
      omega
    obtain ⟨hp, e5⟩ := dg _ _ _ _ (b1 5 (by omega)) (b2 5 (by omega)) hp
    obtain ⟨hp, e4⟩ := dg _ _ _ _ (b1 4 (by omega)) (b2 4 (by omega)) hp
    obtain ⟨hp, e3⟩ := dg _ _ _ _ (b1 3 (by omega)) (b2 3 (by omega)) hp
    obtain ⟨hp, e2⟩ := dg _ _ _ _ (b1 2 (by omega)) (b2 2 (by omega)) hp
    obtain ⟨e0, e1⟩ := dg _ _ _ _ (b1 1 (by omega)) (b2 1 (by omega)) hp
    have D : ∀ i, 0 ≤ i → i < 6 → cB B e (s + i) = dgt f l i := by
      intro i i0 i6
      have : i = 0 ∨ i = 1 ∨ i = 2 ∨ i = 3 ∨ i = 4 ∨ i = 5 := by omega
      rcases this with rfl | rfl | rfl | rfl | rfl | rfl <;> assumption
    have hl : l = e - s := by
      rcases Int.lt_trichotomy l (e - s) with z | z | z
      · have z0 := D l l0 (by omega)
        have z1 := (c1 l l0).1 (by omega)
        have z2 := (c2 l l0).2 (by omega)
        omega
      · exact z
      · have z0 := D (e - s) (by omega) (by omega)
        have z1 := (c1 (e - s) (by omega)).2 (by omega)
        have z2 := (c2 (e - s) (by omega)).1 (by omega)
        omega
    unfold mtch
    rw [Bool.and_eq_true]
    refine ⟨decide_eq_true hl, (allT_iff _ _).mpr ?_⟩
    intro j j0 j1
    have z0 := D j j0 (by omega)
    have z1 := (c1 j j0).1 (by omega)
    have z2 := (c2 j j0).1 (by omega)
    exact decide_eq_true (by omega)
/-- the reference's word k is the class's word ix k -/
def ix (k : Int) : Int := ([0, 1, 2, 3, 4, 6, 7, 8, 9, 10, 11, 12, 13, 5, 15, 14, 16, 17, 18, 19, 20, 21] : List Int).getD k.toNat 0
def wdk (k : Nat) : Int × Int := wds.getD k (0, 0)
theorem wl_ix : ∀ k : Nat, k < 22 → wl (ix k) = pv (dgt (wdk k).1 (wdk k).2) ∧ 0 ≤ (wdk k).2 ∧ (wdk k).2 ≤ 6 ∧ allT (fun i => decide (97 ≤ wrd ((wdk k).1 + i) ∧ wrd ((wdk k).1 + i) ≤ 122)) (wdk k).2.toNat 0 = true := by decide +kernel
def xi (i : Nat) : Nat := ([0, 1, 2, 3, 4, 13, 5, 6, 7, 8, 9, 10, 11, 12, 15, 14, 16, 17, 18, 19, 20, 21] : List Nat).getD i 0
theorem ix_onto : ∀ i : Nat, i < 22 → ∃ k : Nat, k < 22 ∧ ix k = i := by
  have h : ∀ i : Nat, i < 22 → ix (xi i) = i ∧ xi i < 22 := by decide +kernel
  intro i hi
  exact ⟨xi i, (h i hi).2, (h i hi).1⟩
theorem ix_r : ∀ k : Nat, k < 22 → 0 ≤ ix k ∧ ix k < 22 := by decide +kernel
theorem wl_inj : ∀ i : Nat, i < 22 → ∀ j : Nat, j < 22 → wl i = wl j → i = j := by decide +kernel
theorem widx_get {B : Int → Int} {s e : Int} : ∀ (L : List (Int × Int)) (k : Int), (widx B s e L k = -1 ∧ ∀ j : Nat, j < L.length → mtch B s e (L.getD j (0, 0)).1 (L.getD j (0, 0)).2 = false) ∨ (∃ j : Nat, j < L.length ∧ widx B s e L k = k + j ∧ mtch B s e (L.getD j (0, 0)).1 (L.getD j (0, 0)).2 = true) := by
  intro L
  induction L with
  | nil => intro k; left; exact ⟨rfl, fun j hj => absurd hj (Nat.not_lt_zero j)⟩
  | cons x t ih =>
    intro k
    obtain ⟨f, l⟩ := x
    cases hm : mtch B s e f l
    · have hw : widx B s e ((f, l) :: t) k = widx B s e t (k + 1) := by
        show (if mtch B s e f l = true then k else widx B s e t (k + 1)) = _
        rw [hm, if_neg (by decide)]
      rcases ih (k + 1) with ⟨a, b⟩ | ⟨j, a, b, c⟩
      · left
        refine ⟨by rw [hw, a], ?_⟩
        intro j hj
        cases j with
        | zero => exact hm
        | succ j => exact b j (Nat.lt_of_succ_lt_succ hj)
      · right
        refine ⟨j + 1, Nat.succ_lt_succ a, ?_, c⟩
        rw [hw, b]; omega
    · right
      refine ⟨0, Nat.zero_lt_succ _, ?_, hm⟩
      show (if mtch B s e f l = true then k else widx B s e t (k + 1)) = _
      rw [hm, if_pos rfl]; omega
/-- the reference's word by its letters -/
theorem widx_pv {B : Int → Int} {s e : Int} (h6 : e - s ≤ 6) (hs : s ≤ e) (hB : ∀ j, s ≤ j → j < e → 97 ≤ B j ∧ B j ≤ 122) : (widx B s e wds 0 = -1 ∧ ∀ i, 0 ≤ i → i < 22 → ¬ wl i = pv (fun i => cB B e (s + i))) ∨ (0 ≤ widx B s e wds 0 ∧ widx B s e wds 0 < 22 ∧ pv (fun i => cB B e (s + i)) = wl (ix (widx B s e wds 0))) := by
  have mp : ∀ j : Nat, j < 22 → (mtch B s e (wdk j).1 (wdk j).2 = true ↔ pv (fun i => cB B e (s + i)) = wl (ix j)) := by
    intro j hj
    obtain ⟨a, b, c, d⟩ := wl_ix j hj
    rw [a]
    refine mtch_pv h6 hs hB b c ?_
    intro i i0 i1
    exact of_decide_eq_true ((allT_iff _ _).mp d i i0 (by omega))
  rcases widx_get (B := B) (s := s) (e := e) wds 0 with ⟨a, b⟩ | ⟨j, a, b, c⟩
  · left
    refine ⟨a, ?_⟩
    intro i i0 i1 hi
    obtain ⟨k, hk, ek⟩ := ix_onto i.toNat (by omega)
    have h1 := b k (by exact hk)
    have h2 := (mp k hk).mpr (by rw [ek, ← hi]; congr 1; omega)
    have h3 : mtch B s e (wdk k).1 (wdk k).2 = false := h1
    rw [h2] at h3; cases h3
  · right
    have hj : j < 22 := a
    have h1 := (mp j hj).mp c
    rw [b, show (0 : Int) + j = j by omega]
    exact ⟨by omega, by omega, h1⟩
theorem widx_long {B : Int → Int} {s e : Int} (h6 : 6 < e - s) : widx B s e wds 0 = -1 := by
  rcases widx_get (B := B) (s := s) (e := e) wds 0 with ⟨a, b⟩ | ⟨j, a, b, c⟩
  · exact a
  · exfalso
    have hj : j < 22 := a
    obtain ⟨_, x, y, _⟩ := wl_ix j hj
    have c : mtch B s e (wdk j).1 (wdk j).2 = true := c
    unfold mtch at c
    rw [Bool.and_eq_true] at c
    have := of_decide_eq_true c.1
    omega
theorem sp_of {v : Int} {h : Mh} {K : Int → Mh → Prop} (hk : ∀ i, ((i = -1 ∧ ∀ j, 0 ≤ j → j < 22 → ¬ wl j = v) ∨ (0 ≤ i ∧ i < 22 ∧ wl i = v)) → K i h) : wp_X12_of v h K := by
  have loop : ∀ (m : Nat) (i : Int), 0 ≤ i → i + m = 22 → (∀ j, 0 ≤ j → j < i → ¬ wl j = v) → Lfp (F_X12_of v K) (2, [i], h) := by
    intro m
    induction m with
    | zero =>
      intro i i0 hi hj
      apply L_X12_of_2
      unfold B_X12_of_2
      rw [if_pos (by omega)]
      exact hk (-1) (Or.inl ⟨rfl, fun j a b => hj j a (by omega)⟩)
    | succ m ih =>
      intro i i0 hi hj
      apply L_X12_of_2
      unfold B_X12_of_2
      rw [if_neg (by omega)]
      refine ⟨⟨i0, by omega⟩, ⟨i0, by omega⟩, ?_⟩
      by_cases z : wl i = v
      · rw [if_neg (fun y => y z)]
        exact ⟨⟨i0, by omega⟩, hk i (Or.inr ⟨i0, by omega, z⟩)⟩
      · rw [if_pos z]
        intro x ex
        rw [w32_eq (by omega) (by omega)] at ex
        subst ex
        refine ih (i + 1) (by omega) (by omega) ?_
        intro j a b
        by_cases y : j = i
        · rw [y]; exact z
        · exact hj j a (by omega)
  unfold wp_X12_of
  exact loop 22 0 (by omega) (by omega) (fun j a b => by omega)
