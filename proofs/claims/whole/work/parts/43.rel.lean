/-! ===== the two heaps side by side ===== -/
abbrev watR (r : Mh) (c : Int) : Prop := wat (r 0 12) (r 0 13) (r 5) c
/-- sizes, weakness: told by the text -/
def RDim (q r : Mh) : Prop := isP (q 53 0) ∧ q 0 2 = 56 - q 53 0 ∧ q (q 53 0) 0 = r 0 12 ∧ q (q 53 0) 1 = r 0 13 ∧ prm r ∧ q (q 53 0) 17 = r 0 21 ∧ q (q 53 0) 18 = r 0 22 ∧ q (q 53 0) 19 = r 0 23 ∧ 0 ≤ r 0 23 ∧ r 0 23 ≤ 99
def RShr (q r : Mh) : Prop := RRow q r (q 53 0 + 1) (r 0 18) 8 0 ∧ r 0 18 ≤ 3 ∧ (∀ j, 0 ≤ j → j < r 0 18 → watR r (r 8 j)) ∧ (∀ c, 0 ≤ c → c < 48 → (r 6 c = 0 ↔ ∀ j, 0 ≤ j → j < r 0 18 → r 8 j ≠ c)) ∧ r 0 77 = r 0 18 ∧ ∀ j, 0 ≤ j → j < 3 → r 32 j = r 8 j
def RKnd (q r : Mh) : Prop := RRow q r (q 53 0 + 12) (r 0 14) 9 0 ∧ r 0 14 ≤ 4 ∧ RRow q r (q 53 0 + 23) (r 0 14) 11 0 ∧ ∀ k, 0 ≤ k → k < r 0 14 → 1 ≤ r 11 k ∧ r 11 k ≤ 99 ∧ kndR r k ∧ RRow q r (q 53 0 + 15 + 2 * k) (r 10 k) 12 (6 * k)
def RCrk (q r : Mh) : Prop := RRow q r (q 53 0 + 25) (r 0 15) 13 0 ∧ r 0 15 ≤ 6 ∧ RRow q r (q 53 0 + 27) (r 0 15) 14 0 ∧ ∀ k, 0 ≤ k → k < r 0 15 → watR r (r 14 k)
def RSkt (q r : Mh) : Prop := RRow q r (q 53 0 + 29) (r 0 16) 15 0 ∧ r 0 16 ≤ 3 ∧ RRow q r (q 53 0 + 31) (r 0 16) 16 0 ∧ ∀ k, 0 ≤ k → k < r 0 16 → watR r (r 16 k)
def RMay (q r : Mh) : Prop := RRow q r (q 53 0 + 10) (r 0 19) 20 0 ∧ r 0 19 ≤ 3 ∧ ∀ m, 0 ≤ m → m < r 0 19 → RRow q r (q 53 0 + 4 + 2 * m) (r 21 m) 22 (3 * m) ∧ r 21 m ≤ 3 ∧ ∀ j, 0 ≤ j → j < r 21 m → watR r (r 22 (3 * m + j))
/-- a knot's code in the class -/
def cdk (k a : Int) : Int := if k = 0 then 0 else if k = 1 then a + 1 else if k = 3 then 8 else if k = 4 then 7 else k + 4
/-- knot i, and the knots that wait ahead of it and behind it -/
def knotOK (q r : Mh) (i : Int) (s t : List Int) : Prop := q (q 53 0 + 38) i = cdk (r 23 i) (r 24 i) ∧
  ((r 23 i = 0 ∧ q (q 53 0 + 39) i = r 24 i ∧ 0 ≤ r 24 i ∧ r 24 i ≤ 9999 ∧ t = i :: s) ∨ (r 23 i = 1 ∧ 0 ≤ r 24 i ∧ r 24 i ≤ 4 ∧ t = i :: s) ∨ (r 23 i = 2 ∧ ∃ u, s = r 24 i :: u ∧ t = i :: u) ∨ (3 ≤ r 23 i ∧ r 23 i ≤ 14 ∧ ∃ u, s = r 25 i :: r 24 i :: u ∧ t = i :: u))
def RLaw (q r : Mh) : Prop := q (q 53 0 + 37) 4 = r 0 20 ∧ 0 ≤ r 0 20 ∧ r 0 20 ≤ 64 ∧ (r 0 24 = 0 ↔ r 0 20 = 0) ∧ ∃ sk : Nat → List Int, sk 0 = [] ∧ (∀ i : Nat, (i : Int) < r 0 20 → knotOK q r i (sk i) (sk (i + 1))) ∧ (0 < r 0 20 → ∃ x, sk (r 0 20).toNat = [x])
def RPond (q r : Mh) : Prop := RDim q r ∧ RShr q r ∧ RKnd q r ∧ RCrk q r ∧ RSkt q r ∧ RMay q r ∧ RLaw q r
def RGr (q r : Mh) : Prop := (∀ c, 0 ≤ c → c < 48 → r 5 c = cg q c) ∧ (∀ c, 0 ≤ c → c < 64 → bit (q (q 53 0) 2) c = true → c < r 0 12 * r 0 13) ∧ (∀ c, 0 ≤ c → c < 64 → bit (q 53 1) c = true → c < r 0 12 * r 0 13 ∧ bit (q (q 53 0) 2) c = false)
/-- a drop that may be -/
def okD (r : Mh) (k c t : Int) : Prop := 0 ≤ k ∧ k < r 0 14 ∧ watR r c ∧ 0 ≤ t ∧ t ≤ 99
def RDrp (q r : Mh) : Prop := q 98 3 = r 0 76 ∧ 0 ≤ r 0 76 ∧ r 0 76 ≤ 16 ∧ ∀ d, 0 ≤ d → d < r 0 76 → q 99 d = r 17 d ∧ q 100 d = r 18 d ∧ q 101 d = r 19 d ∧ okD r (r 17 d) (r 18 d) (r 19 d)
def RImg (q r : Mh) : Prop := (q 53 5 = 0 ↔ r 0 96 = 0) ∧ (¬ r 0 96 = 0 → q 102 3 = r 0 97 ∧ 0 ≤ r 0 97 ∧ r 0 97 ≤ 16 ∧ (∀ d, 0 ≤ d → d < r 0 97 → q 103 d = r 40 (3 * d) ∧ q 104 d = r 40 (3 * d + 1) ∧ q 105 d = r 40 (3 * d + 2) ∧ okD r (r 40 (3 * d)) (r 40 (3 * d + 1)) (r 40 (3 * d + 2))) ∧
  (∀ c, 0 ≤ c → c < 48 → r 39 c = if bit (q (q 53 0) 2) c = true then 2 else if bit (q 53 4) c = true then 1 else 0) ∧ (∀ c, 0 ≤ c → c < 64 → bit (q 53 4) c = true → c < r 0 12 * r 0 13 ∧ bit (q (q 53 0) 2) c = false))
def RUnd (q r : Mh) : Prop := q 53 7 = r 0 82 ∧ 0 ≤ r 0 82 ∧ r 0 82 ≤ 20 ∧ (∀ i, 0 ≤ i → i < r 0 82 → q 106 i = r 33 i ∧ (r 33 i = -1 ∨ watR r (r 33 i))) ∧ cnt1 (r 33) (-1) (r 0 82).toNat 0 ≤ r 0 76
/-- the words of the language, each with a blank behind it -/
def wrd (j : Int) : Int := ([112, 111, 110, 100, 32, 108, 97, 110, 100, 32, 114, 101, 101, 100, 32, 115, 104, 111, 114, 101, 32, 107, 105, 110, 100, 32, 99, 111, 114, 107, 32, 115, 107, 97, 116, 101, 114, 32, 100, 114, 111, 112, 32, 108, 111, 115, 115, 32, 116, 104, 105, 99, 107, 32, 115, 101, 110, 116, 32, 108, 97, 119, 32, 109, 97, 121, 32, 111, 100, 100, 115, 32, 97, 110, 100, 32, 111, 114, 32, 110, 111, 116, 32, 114, 105, 115, 101, 32, 104, 101, 114, 101, 32, 114, 101, 101, 100, 115, 32, 119, 97, 121, 32, 115, 116, 101, 112, 32] : List Int).getD j.toNat 0
def RMsc (r : Mh) : Prop := r 0 79 = -1 ∧ wayR r ∧ ∀ j, 0 ≤ j → j < 108 → r 2 j = wrd j
def Core (q r : Mh) : Prop := RTape q r ∧ RFault q r ∧ RPond q r ∧ RGr q r ∧ RDrp q r ∧ RImg q r ∧ RUnd q r ∧ RNotes q r ∧ RMsc r
/-! ===== what the groups look at ===== -/
theorem RRow.same {q r g s : Mh} {row cnt arr base : Int} (h : RRow q r row cnt arr base) (h1 : g row = q row) (h2 : g (row + 1) = q (row + 1)) (h3 : s arr = r arr) : RRow g s row cnt arr base := by
  unfold RRow at h ⊢
  rw [h1, h2, h3]
  exact h
def pondEq (q g : Mh) : Prop := g 53 0 = q 53 0 ∧ ∀ o, q 53 0 ≤ o → o ≤ q 53 0 + 39 → g o = q o
def refEq (r s : Mh) : Prop := (∀ j, 12 ≤ j → j ≤ 24 → s 0 j = r 0 j) ∧ s 0 77 = r 0 77 ∧ (∀ o, 8 ≤ o → o ≤ 25 → ¬ (17 ≤ o ∧ o ≤ 19) → s o = r o) ∧ s 6 = r 6 ∧ s 32 = r 32 ∧ ∀ c, 0 ≤ c → c < 48 → (s 5 c = 2 ↔ r 5 c = 2)
theorem refEq.wr {r s : Mh} (h : refEq r s) (hp : prm r) {c : Int} : watR s c ↔ watR r c := by
  have hm := szs_mul hp.1
  unfold watR wat
  rw [h.1 12 (by decide) (by decide), h.1 13 (by decide) (by decide)]
  constructor
  · rintro ⟨a, b, d⟩
    exact ⟨a, b, fun z => d ((h.2.2.2.2.2 c a (by omega)).mpr z)⟩
  · rintro ⟨a, b, d⟩
    exact ⟨a, b, fun z => d ((h.2.2.2.2.2 c a (by omega)).mp z)⟩
theorem refEq.pr {r s : Mh} (h : refEq r s) (hp : prm r) : prm s := by
  unfold prm at hp ⊢
  rw [h.1 12 (by decide) (by decide), h.1 13 (by decide) (by decide), h.1 21 (by decide) (by decide), h.1 22 (by decide) (by decide)]
  exact hp
theorem RDim.same {q r g s : Mh} (h : RDim q r) (hq : pondEq q g) (h2 : g 0 2 = q 0 2) (hr : refEq r s) : RDim g s := by
  have hp := hr.pr h.2.2.2.2.1
  unfold RDim at h ⊢
  rw [hq.1, h2, hq.2 (q 53 0) (by omega) (by omega), hr.1 12 (by decide) (by decide), hr.1 13 (by decide) (by decide), hr.1 21 (by decide) (by decide), hr.1 22 (by decide) (by decide), hr.1 23 (by decide) (by decide)]
  exact ⟨h.1, h.2.1, h.2.2.1, h.2.2.2.1, hp, h.2.2.2.2.2⟩
theorem RShr.same {q r g s : Mh} (h : RShr q r) (hd : RDim q r) (hq : pondEq q g) (hr : refEq r s) : RShr g s := by
  have hw := fun c => hr.wr hd.2.2.2.2.1 (c := c)
  unfold RShr at h ⊢
  rw [hq.1, hr.1 18 (by decide) (by decide), hr.2.1, hr.2.2.1 8 (by decide) (by decide) (by decide), hr.2.2.2.1, hr.2.2.2.2.1]
  refine ⟨h.1.same (hq.2 _ (by omega) (by omega)) (hq.2 _ (by omega) (by omega)) (hr.2.2.1 8 (by decide) (by decide) (by decide)), h.2.1, fun j h0 h1 => (hw _).mpr (h.2.2.1 j h0 h1), h.2.2.2⟩
theorem RKnd.same {q r g s : Mh} (h : RKnd q r) (hq : pondEq q g) (hr : refEq r s) : RKnd g s := by
  have e : ∀ o, 8 ≤ o → o ≤ 16 → s o = r o := fun o h1 h2 => hr.2.2.1 o h1 (by omega) (by omega)
  unfold RKnd at h ⊢
  rw [hq.1, hr.1 14 (by decide) (by decide), e 10 (by decide) (by decide), e 11 (by decide) (by decide)]
  refine ⟨h.1.same (hq.2 _ (by omega) (by omega)) (hq.2 _ (by omega) (by omega)) (e 9 (by decide) (by decide)), h.2.1, h.2.2.1.same (hq.2 _ (by omega) (by omega)) (hq.2 _ (by omega) (by omega)) (e 11 (by decide) (by decide)), fun k k0 k1 => ?_⟩
  have hk := h.2.2.2 k k0 k1
  have h4 := h.2.1
  refine ⟨hk.1, hk.2.1, ?_, hk.2.2.2.same (hq.2 _ (by omega) (by omega)) (hq.2 _ (by omega) (by omega)) (e 12 (by decide) (by decide))⟩
  have h3 := hk.2.2.1
  unfold kndR at h3 ⊢
  rw [e 10 (by decide) (by decide), e 12 (by decide) (by decide)]
  exact h3
theorem RCrk.same {q r g s : Mh} (h : RCrk q r) (hd : RDim q r) (hq : pondEq q g) (hr : refEq r s) : RCrk g s := by
  have hw := fun c => hr.wr hd.2.2.2.2.1 (c := c)
  have e : ∀ o, 8 ≤ o → o ≤ 16 → s o = r o := fun o h1 h2 => hr.2.2.1 o h1 (by omega) (by omega)
  unfold RCrk at h ⊢
  rw [hq.1, hr.1 15 (by decide) (by decide), e 14 (by decide) (by decide)]
  exact ⟨h.1.same (hq.2 _ (by omega) (by omega)) (hq.2 _ (by omega) (by omega)) (e 13 (by decide) (by decide)), h.2.1, h.2.2.1.same (hq.2 _ (by omega) (by omega)) (hq.2 _ (by omega) (by omega)) (e 14 (by decide) (by decide)), fun k k0 k1 => (hw _).mpr (h.2.2.2 k k0 k1)⟩
theorem RSkt.same {q r g s : Mh} (h : RSkt q r) (hd : RDim q r) (hq : pondEq q g) (hr : refEq r s) : RSkt g s := by
  have hw := fun c => hr.wr hd.2.2.2.2.1 (c := c)
  have e : ∀ o, 8 ≤ o → o ≤ 16 → s o = r o := fun o h1 h2 => hr.2.2.1 o h1 (by omega) (by omega)
  unfold RSkt at h ⊢
  rw [hq.1, hr.1 16 (by decide) (by decide), e 16 (by decide) (by decide)]
  exact ⟨h.1.same (hq.2 _ (by omega) (by omega)) (hq.2 _ (by omega) (by omega)) (e 15 (by decide) (by decide)), h.2.1, h.2.2.1.same (hq.2 _ (by omega) (by omega)) (hq.2 _ (by omega) (by omega)) (e 16 (by decide) (by decide)), fun k k0 k1 => (hw _).mpr (h.2.2.2 k k0 k1)⟩
theorem RMay.same {q r g s : Mh} (h : RMay q r) (hd : RDim q r) (hq : pondEq q g) (hr : refEq r s) : RMay g s := by
  have hw := fun c => hr.wr hd.2.2.2.2.1 (c := c)
  have e : ∀ o, 20 ≤ o → o ≤ 25 → s o = r o := fun o h1 h2 => hr.2.2.1 o (by omega) (by omega) (by omega)
  unfold RMay at h ⊢
  rw [hq.1, hr.1 19 (by decide) (by decide), e 21 (by decide) (by decide), e 22 (by decide) (by decide)]
  have h4 := h.2.1
  refine ⟨h.1.same (hq.2 _ (by omega) (by omega)) (hq.2 _ (by omega) (by omega)) (e 20 (by decide) (by decide)), h.2.1, fun m m0 m1 => ?_⟩
  have hk := h.2.2 m m0 m1
  exact ⟨hk.1.same (hq.2 _ (by omega) (by omega)) (hq.2 _ (by omega) (by omega)) (e 22 (by decide) (by decide)), hk.2.1, fun j j0 j1 => (hw _).mpr (hk.2.2 j j0 j1)⟩
theorem RLaw.same {q r g s : Mh} (h : RLaw q r) (hq : pondEq q g) (hr : refEq r s) : RLaw g s := by
  have e : ∀ o, 20 ≤ o → o ≤ 25 → s o = r o := fun o h1 h2 => hr.2.2.1 o (by omega) (by omega) (by omega)
  unfold RLaw knotOK at h ⊢
  rw [hq.1, hq.2 (q 53 0 + 37) (by omega) (by omega), hq.2 (q 53 0 + 38) (by omega) (by omega), hq.2 (q 53 0 + 39) (by omega) (by omega), hr.1 20 (by decide) (by decide), hr.1 24 (by decide) (by decide), e 23 (by decide) (by decide), e 24 (by decide) (by decide), e 25 (by decide) (by decide)]
  exact h
theorem RPond.same {q r g s : Mh} (h : RPond q r) (hq : pondEq q g) (h2 : g 0 2 = q 0 2) (hr : refEq r s) : RPond g s :=
  ⟨h.1.same hq h2 hr, h.2.1.same h.1 hq hr, h.2.2.1.same hq hr, h.2.2.2.1.same h.1 hq hr, h.2.2.2.2.1.same h.1 hq hr, h.2.2.2.2.2.1.same h.1 hq hr, h.2.2.2.2.2.2.same hq hr⟩
theorem RGr.same {q r g s : Mh} (h : RGr q r) (hq : pondEq q g) (h1 : g 53 1 = q 53 1) (hr : refEq r s) (h5 : ∀ c, 0 ≤ c → c < 48 → s 5 c = r 5 c) : RGr g s := by
  unfold RGr at h ⊢
  rw [cg_congr hq.1 h1 (hq.2 _ (by omega) (by omega)), hq.1, h1, hq.2 (q 53 0) (by omega) (by omega), hr.1 12 (by decide) (by decide), hr.1 13 (by decide) (by decide)]
  exact ⟨fun c c0 c1 => by rw [h5 c c0 c1]; exact h.1 c c0 c1, h.2⟩
theorem okD.same {r s : Mh} {k c t : Int} (h : okD r k c t) (hp : prm r) (hr : refEq r s) : okD s k c t := by
  unfold okD at h ⊢
  rw [hr.1 14 (by decide) (by decide), hr.wr hp]
  exact h
theorem RDrp.same {q r g s : Mh} (h : RDrp q r) (hp : prm r) (hq : ∀ o, 98 ≤ o → o ≤ 101 → g o = q o) (hr : refEq r s) (h76 : s 0 76 = r 0 76) (h17 : ∀ o, 17 ≤ o → o ≤ 19 → s o = r o) : RDrp g s := by
  unfold RDrp at h ⊢
  rw [hq 98 (by decide) (by decide), hq 99 (by decide) (by decide), hq 100 (by decide) (by decide), hq 101 (by decide) (by decide), h76, h17 17 (by decide) (by decide), h17 18 (by decide) (by decide), h17 19 (by decide) (by decide)]
  refine ⟨h.1, h.2.1, h.2.2.1, fun d d0 d1 => ?_⟩
  obtain ⟨a, b, c, e⟩ := h.2.2.2 d d0 d1
  exact ⟨a, b, c, e.same hp hr⟩
theorem RImg.same {q r g s : Mh} (h : RImg q r) (hp : prm r) (hq : pondEq q g) (hr : refEq r s) (h4 : g 53 4 = q 53 4) (h5 : g 53 5 = q 53 5) (h102 : ∀ o, 102 ≤ o → o ≤ 105 → g o = q o) (h96 : s 0 96 = r 0 96) (h97 : s 0 97 = r 0 97) (h39 : s 39 = r 39) (h40 : s 40 = r 40) : RImg g s := by
  unfold RImg at h ⊢
  rw [h5, h4, hq.1, hq.2 (q 53 0) (by omega) (by omega), h102 102 (by decide) (by decide), h102 103 (by decide) (by decide), h102 104 (by decide) (by decide), h102 105 (by decide) (by decide), h96, h97, h39, h40, hr.1 12 (by decide) (by decide), hr.1 13 (by decide) (by decide)]
  refine ⟨h.1, fun z => ?_⟩
  obtain ⟨a, b, c, d, e⟩ := h.2 z
  refine ⟨a, b, c, fun i i0 i1 => ?_, e⟩
  obtain ⟨a1, b1, c1, e1⟩ := d i i0 i1
  exact ⟨a1, b1, c1, e1.same hp hr⟩
theorem RUnd.same {q r g s : Mh} (h : RUnd q r) (hp : prm r) (hr : refEq r s) (h7 : g 53 7 = q 53 7) (h106 : g 106 = q 106) (h82 : s 0 82 = r 0 82) (h33 : s 33 = r 33) (h76 : s 0 76 = r 0 76) : RUnd g s := by
  unfold RUnd at h ⊢
  rw [h7, h106, h82, h33, h76]
  refine ⟨h.1, h.2.1, h.2.2.1, fun i i0 i1 => ?_, h.2.2.2.2⟩
  obtain ⟨a, b⟩ := h.2.2.2.1 i i0 i1
  exact ⟨a, b.imp id (fun z => (hr.wr hp).mpr z)⟩
theorem RTape.same {q r g s : Mh} (h : RTape q r) (h1 : g 0 1 = q 0 1) (h2 : g 1 = q 1) (h3 : s 0 1 = r 0 1) (h4 : s 1 = r 1) : RTape g s := by
  unfold RTape at h ⊢
  rw [h1, h2, h3, h4]
  exact h
theorem RFault.same {q r g s : Mh} (h : RFault q r) (h1 : g 46 = q 46) (h3 : s 0 4 = r 0 4) (h4 : s 0 5 = r 0 5) : RFault g s := by
  unfold RFault at h ⊢
  rw [h1, h3, h4]
  exact h
/-- changes of the class that no promise sees -/
def sameC (q g : Mh) : Prop := ∀ o j, ¬ (112 ≤ o ∧ o ≤ 114) → ¬ (116 ≤ o ∧ o ≤ 141) → ¬ (o = 42 ∨ o = 43 ∨ o = 94 ∨ o = 95) → ¬ (o = 53 ∧ (j = 8 ∨ j = 9)) → g o j = q o j
def sameR (r s : Mh) : Prop := ∀ o j, ¬ (o = 28 ∨ o = 29 ∨ (35 ≤ o ∧ o ≤ 38)) → ¬ (o = 0 ∧ (j = 2 ∨ j = 73 ∨ (88 ≤ j ∧ j ≤ 90) ∨ j = 94 ∨ j = 95)) → s o j = r o j
theorem sameC.refl (q : Mh) : sameC q q := fun _ _ _ _ _ _ => rfl
theorem sameR.refl (r : Mh) : sameR r r := fun _ _ _ _ => rfl
theorem sameC.trans {q g k : Mh} (h1 : sameC q g) (h2 : sameC g k) : sameC q k := fun o j a b c d => (h2 o j a b c d).trans (h1 o j a b c d)
theorem sameR.trans {q g k : Mh} (h1 : sameR q g) (h2 : sameR g k) : sameR q k := fun o j a b => (h2 o j a b).trans (h1 o j a b)
theorem sameC.row {q g : Mh} (h : sameC q g) {o : Int} (a : ¬ (112 ≤ o ∧ o ≤ 114)) (b : ¬ (116 ≤ o ∧ o ≤ 141)) (c : ¬ (o = 42 ∨ o = 43 ∨ o = 94 ∨ o = 95)) (d : o ≠ 53) : g o = q o := by
  funext j
  exact h o j a b c (fun z => d z.1)
theorem sameR.row {r s : Mh} (h : sameR r s) {o : Int} (a : ¬ (o = 28 ∨ o = 29 ∨ (35 ≤ o ∧ o ≤ 38))) (b : o ≠ 0) : s o = r o := by
  funext j
  exact h o j a (fun z => b z.1)
theorem sameC.pond {q g : Mh} (h : sameC q g) (hp : isP (q 53 0)) : pondEq q g := by
  refine ⟨h 53 0 (by decide) (by decide) (by decide) (by decide), fun o h1 h2 => ?_⟩
  rcases hp with e | e
  · exact h.row (by omega) (by omega) (by omega) (by omega)
  · exact h.row (by omega) (by omega) (by omega) (by omega)
theorem sameR.ref {r s : Mh} (h : sameR r s) : refEq r s :=
  ⟨fun j h1 h2 => h 0 j (by decide) (by omega), h 0 77 (by decide) (by decide), fun o h1 h2 h3 => h.row (by omega) (by omega), h.row (by decide) (by decide), h.row (by decide) (by decide), fun c _ _ => by rw [h.row (o := 5) (by decide) (by decide)]⟩
theorem wayR_congr {r s : Mh} (hr : (∀ j, 12 ≤ j → j ≤ 24 → s 0 j = r 0 j)) (h5 : s 5 = r 5) (h30 : s 30 = r 30) (h31 : s 31 = r 31) (h : wayR r) : wayR s := by
  have e : FA s = FA r := by
    funext a b
    unfold FA
    rw [hr 12 (by decide) (by decide), hr 13 (by decide) (by decide), hr 21 (by decide) (by decide), hr 22 (by decide) (by decide), h5]
  unfold wayR at h ⊢
  rw [e, h30, h31]
  exact h
theorem Core.same {q r g s : Mh} (h : Core q r) (hq : sameC q g) (hr : sameR r s) : Core g s := by
  obtain ⟨h1, h2, h3, h4, h5, h6, h7, h8, h9, h10, h11⟩ := h
  have hP := hq.pond h3.1.1
  have hR := hr.ref
  have p5 : s 5 = r 5 := hr.row (by decide) (by decide)
  have q0 : ∀ j, g 0 j = q 0 j := fun j => hq 0 j (by decide) (by decide) (by decide) (by omega)
  have q53 : ∀ j, j ≠ 8 → j ≠ 9 → g 53 j = q 53 j := fun j a b => hq 53 j (by decide) (by decide) (by decide) (by omega)
  refine ⟨h1.same (q0 1) (hq.row (by decide) (by decide) (by decide) (by decide)) (hr 0 1 (by decide) (by decide)) (hr.row (by decide) (by decide)), h2.same (hq.row (by decide) (by decide) (by decide) (by decide)) (hr 0 4 (by decide) (by decide)) (hr 0 5 (by decide) (by decide)), h3.same hP (q0 2) hR, h4.same hP (q53 1 (by decide) (by decide)) hR (fun c _ _ => by rw [p5]), ?_, ?_, ?_, ?_, ?_⟩
  · exact h5.same h3.1.2.2.2.2.1 (fun o a b => hq.row (by omega) (by omega) (by omega) (by omega)) hR (hr 0 76 (by decide) (by decide)) (fun o a b => hr.row (by omega) (by omega))
  · exact h6.same h3.1.2.2.2.2.1 hP hR (q53 4 (by decide) (by decide)) (q53 5 (by decide) (by decide)) (fun o a b => hq.row (by omega) (by omega) (by omega) (by omega)) (hr 0 96 (by decide) (by decide)) (hr 0 97 (by decide) (by decide)) (hr.row (by decide) (by decide)) (hr.row (by decide) (by decide))
  · exact h7.same h3.1.2.2.2.2.1 hR (q53 7 (by decide) (by decide)) (hq.row (by decide) (by decide) (by decide) (by decide)) (hr 0 82 (by decide) (by decide)) (hr.row (by decide) (by decide)) (hr 0 76 (by decide) (by decide))
  · exact h8.same (fun b h1 h2 => hq.row (by omega) (by omega) (by omega) (by omega)) (hr.row (by decide) (by decide)) (hr 0 15 (by decide) (by decide)) (hr 0 84 (by decide) (by decide)) (hr 0 85 (by decide) (by decide))
  · refine ⟨?_, wayR_congr (fun j a b => hr 0 j (by decide) (by omega)) p5 (hr.row (by decide) (by decide)) (hr.row (by decide) (by decide)) h10, ?_⟩
    · rw [hr 0 79 (by decide) (by decide)]; exact h9
    · rw [hr.row (o := 2) (by decide) (by decide)]; exact h11
theorem sameR.thrown (r : Mh) : sameR r (up r 0 2 0) := fun o j _ h2 => up_ne r (fun z => h2 ⟨z.1, Or.inl z.2⟩)
