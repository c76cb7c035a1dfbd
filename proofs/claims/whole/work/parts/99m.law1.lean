/-! ===== the law: stacks ===== -/
/-- the first n of f, the latest ahead -/
def hl (f : Int → Int) : Nat → List Int
  | 0 => []
  | n + 1 => f (n : Int) :: hl f n
/-- how many of the first n are brackets -/
def zcn (f : Int → Int) : Nat → Int
  | 0 => 0
  | n + 1 => zcn f n + (if f (n : Int) = 0 then 1 else 0)
/-- how many of the first n join two sides -/
def bnn (f : Int → Int) : Nat → Int
  | 0 => 0
  | n + 1 => bnn f n + (if 3 ≤ f (n : Int) then 1 else 0)
theorem hl_cg {f g : Int → Int} : ∀ n : Nat, (∀ j : Int, 0 ≤ j → j < n → g j = f j) → hl g n = hl f n := by
  intro n
  induction n with
  | zero => intro _; rfl
  | succ n ih =>
    intro h
    show g (n : Int) :: hl g n = f (n : Int) :: hl f n
    rw [h n (by omega) (by omega), ih (fun j a b => h j a (by omega))]
theorem zcn_cg {f g : Int → Int} : ∀ n : Nat, (∀ j : Int, 0 ≤ j → j < n → g j = f j) → zcn g n = zcn f n := by
  intro n
  induction n with
  | zero => intro _; rfl
  | succ n ih =>
    intro h
    show zcn g n + (if g (n : Int) = 0 then 1 else 0) = zcn f n + (if f (n : Int) = 0 then 1 else 0)
    rw [h n (by omega) (by omega), ih (fun j a b => h j a (by omega))]
theorem bnn_cg {f g : Int → Int} : ∀ n : Nat, (∀ j : Int, 0 ≤ j → j < n → g j = f j) → bnn g n = bnn f n := by
  intro n
  induction n with
  | zero => intro _; rfl
  | succ n ih =>
    intro h
    show bnn g n + (if 3 ≤ g (n : Int) then 1 else 0) = bnn f n + (if 3 ≤ f (n : Int) then 1 else 0)
    rw [h n (by omega) (by omega), ih (fun j a b => h j a (by omega))]
theorem zcn_r (f : Int → Int) : ∀ n : Nat, 0 ≤ zcn f n ∧ zcn f n ≤ n := by
  intro n
  induction n with
  | zero => exact ⟨Int.le_refl _, Int.le_refl _⟩
  | succ n ih =>
    show 0 ≤ zcn f n + (if f (n : Int) = 0 then 1 else 0) ∧ zcn f n + (if f (n : Int) = 0 then 1 else 0) ≤ ((n + 1 : Nat) : Int)
    split <;> omega
theorem bnn_r (f : Int → Int) : ∀ n : Nat, 0 ≤ bnn f n ∧ bnn f n ≤ n := by
  intro n
  induction n with
  | zero => exact ⟨Int.le_refl _, Int.le_refl _⟩
  | succ n ih =>
    show 0 ≤ bnn f n + (if 3 ≤ f (n : Int) then 1 else 0) ∧ bnn f n + (if 3 ≤ f (n : Int) then 1 else 0) ≤ ((n + 1 : Nat) : Int)
    split <;> omega
/-- how closely it binds -/
def rkF (k : Int) : Int := if k < 13 then (if k < 11 then (if k < 5 then (if k = 2 then 3 else if k = 3 then 2 else if k = 4 then 1 else 0) else 4) else 5) else 6
/-- what waits, as the class calls it -/
def cdw (k : Int) : Int := if k = 0 then 19 else cdk k 0
theorem run_rank {k : Int} {h : Mh} {K : Int → Mh → Prop} (hk : K (rkF k) h) : wp_X14_rank k h K := by
  unfold rkF at hk
  unfold wp_X14_rank
  by_cases a : k < 13
  · rw [if_pos a] at hk ⊢
    by_cases b : k < 11
    · rw [if_pos b] at hk ⊢
      by_cases c : k < 5
      · rw [if_pos c] at hk ⊢
        by_cases d : k = 2
        · rw [if_pos d] at hk; rw [if_neg (fun y => y d)]; exact hk
        · rw [if_neg d] at hk; rw [if_pos d]
          by_cases e : k = 3
          · rw [if_pos e] at hk; rw [if_neg (fun y => y e)]; exact hk
          · rw [if_neg e] at hk; rw [if_pos e]
            by_cases f : k = 4
            · rw [if_pos f] at hk; rw [if_neg (fun y => y f)]; exact hk
            · rw [if_neg f] at hk; rw [if_pos f]; exact hk
      · rw [if_neg c] at hk ⊢; exact hk
    · rw [if_neg b] at hk ⊢; exact hk
  · rw [if_neg a] at hk ⊢; exact hk
theorem rkF_0 {k : Int} (h : k = 0 ∨ (2 ≤ k ∧ k ≤ 14)) : 0 ≤ rkF k ∧ rkF k ≤ 6 ∧ (rkF k = 0 ↔ k = 0) ∧ (rkF k = 3 ↔ k = 2) := by
  unfold rkF
  by_cases a : k < 13
  · rw [if_pos a]
    by_cases b : k < 11
    · rw [if_pos b]
      by_cases c : k < 5
      · rw [if_pos c]
        by_cases d : k = 2
        · rw [if_pos d]; omega
        · rw [if_neg d]
          by_cases e : k = 3
          · rw [if_pos e]; omega
          · rw [if_neg e]
            by_cases f : k = 4
            · rw [if_pos f]; omega
            · rw [if_neg f]; omega
      · rw [if_neg c]; omega
    · rw [if_neg b]; omega
  · rw [if_neg a]; omega
/-- the closeness of what waits on top -/
def tpF (f : Int → Int) : Nat → Int
  | 0 => 0
  | n + 1 => rkF (f (n : Int))
theorem run_top {q : Mh} {f : Int → Int} {N : Nat} {K : Int → Mh → Prop} (h12 : q 46 12 = N) (hN : N ≤ 72) (hr : ∀ j : Int, 0 ≤ j → j < N → q 48 j = rkF (f j)) (hk : K (tpF f N) q) : wp_X9_topRank q K := by
  unfold wp_X9_topRank
  rw [h12]
  cases N with
  | zero =>
    rw [if_pos (by decide), if_pos rfl]; exact hk
  | succ n =>
    rw [if_neg (by omega), if_neg (by omega), if_neg (by decide), w32_eq (by omega) (by omega)]
    refine ⟨⟨by omega, by omega⟩, ?_⟩
    rw [hr _ (by omega) (by omega), show (((n + 1 : Nat) : Int) - 1) = (n : Int) by omega]
    exact hk
def gwR (k : Nat) (H : Nat) (x a b : Int) (r : Mh) : Mh := up (up (up (up (up (up r 23 (64 + k) x) 24 (64 + k) a) 25 (64 + k) b) 27 H k) 0 66 (H + 1)) 0 33 (k + 1)
theorem run_grown {r : Mh} {k H : Nat} {x a b : Int} {K : Mh → Prop} (h33 : r 0 33 = k) (h66 : r 0 66 = H) (k64 : k < 64) (H96 : H < 96) (hk : K (gwR k H x a b r)) : wp_X14_grown x a b r K := by
  unfold wp_X14_grown
  rw [h33, w32_eq (by omega) (by omega)]
  refine ⟨⟨by omega, by omega⟩, ?_⟩
  intro g1 e1
  rw [show g1 0 33 = k by rw [e1, up_other (by decide)]; exact h33, w32_eq (by omega) (by omega)]
  refine ⟨⟨by omega, by omega⟩, ?_⟩
  intro g2 e2
  rw [show g2 0 33 = k by rw [e2, up_other (by decide), e1, up_other (by decide)]; exact h33, w32_eq (by omega) (by omega)]
  refine ⟨⟨by omega, by omega⟩, ?_⟩
  intro g3 e3
  have f33 : g3 0 33 = k := by rw [e3, up_other (by decide), e2, up_other (by decide), e1, up_other (by decide)]; exact h33
  have f66 : g3 0 66 = H := by rw [e3, up_other (by decide), e2, up_other (by decide), e1, up_other (by decide)]; exact h66
  rw [f33, f66]
  refine ⟨⟨by omega, by omega⟩, ?_⟩
  intro g4 e4
  rw [show g4 0 66 = H by rw [e4, up_other (by decide)]; exact f66, w32_eq (by omega) (by omega)]
  intro g5 e5
  rw [show g5 0 33 = k by rw [e5, up_slot (by decide), e4, up_other (by decide)]; exact f33, w32_eq (by omega) (by omega)]
  intro g6 e6
  rw [e6, e5, e4, e3, e2, e1]; exact hk
theorem run_dropHeld {r : Mh} {H : Nat} {K : Int → Mh → Prop} (h66 : r 0 66 = H + 1) (H96 : H < 96) (hk : K (r 27 H) (up r 0 66 H)) : wp_X14_dropHeld r K := by
  unfold wp_X14_dropHeld
  rw [h66, w32_eq (by omega) (by omega)]
  intro g e
  have e66 : g 0 66 = H := by rw [e, up_self]; omega
  rw [e66]
  refine ⟨⟨by omega, by omega⟩, ?_⟩
  rw [show g 27 H = r 27 H by rw [e, up_other (by decide)], e, show ((H : Int) + 1 - 1) = H by omega]
  exact hk
def adC (P : Int) (k : Nat) (c v : Int) (q : Mh) : Mh := up (up (up q (P + 37 + 1) k c) (P + 37 + 2) k v) (P + 37) 4 (k + 1)
theorem run_add3 {q : Mh} {P : Int} {k : Nat} {c v : Int} {K : Mh → Prop} (hp : isP P) (h4 : q (P + 37) 4 = k) (k64 : k < 64) (hk : K (adC P k c v q)) : wp_X3_add shC (P + 37) c v q K := by
  have s1 : ((shC (P + 37 + 1)).2 : Int) = 64 := by rcases hp with e | e <;> rw [e] <;> rfl
  have s2 : ((shC (P + 37 + 2)).2 : Int) = 64 := by rcases hp with e | e <;> rw [e] <;> rfl
  unfold wp_X3_add
  rw [h4, if_neg (by omega), if_neg (by omega), s1, s2]
  refine ⟨⟨by omega, by omega⟩, ?_⟩
  intro g1 e1
  rw [show g1 (P + 37) 4 = k by rw [e1, up_other (by omega)]; exact h4]
  refine ⟨⟨by omega, by omega⟩, ?_⟩
  intro g2 e2
  rw [show g2 (P + 37) 4 = k by rw [e2, up_other (by omega), e1, up_other (by omega)]; exact h4, w32_eq (by omega) (by omega)]
  intro g3 e3
  rw [e3, e2, e1]; exact hk
/-! ===== knots ===== -/
def knotK (q r : Mh) (P : Int) (i : Nat) (s t : List Int) : Prop := q (P + 38) i = cdk (r 23 (64 + i)) (r 24 (64 + i)) ∧
  ((r 23 (64 + i) = 0 ∧ q (P + 39) i = r 24 (64 + i) ∧ 0 ≤ r 24 (64 + i) ∧ r 24 (64 + i) ≤ 9999 ∧ t = (i : Int) :: s) ∨ (r 23 (64 + i) = 1 ∧ 0 ≤ r 24 (64 + i) ∧ r 24 (64 + i) ≤ 4 ∧ t = (i : Int) :: s) ∨ (r 23 (64 + i) = 2 ∧ ∃ u, s = r 24 (64 + i) :: u ∧ t = (i : Int) :: u) ∨ (3 ≤ r 23 (64 + i) ∧ r 23 (64 + i) ≤ 14 ∧ ∃ u, s = r 25 (64 + i) :: r 24 (64 + i) :: u ∧ t = (i : Int) :: u))
def KN (q r : Mh) (P : Int) (k : Nat) (s : List Int) : Prop := q (P + 37) 4 = k ∧ ∃ sk : Nat → List Int, sk 0 = [] ∧ (∀ i : Nat, i < k → knotK q r P i (sk i) (sk (i + 1))) ∧ sk k = s
theorem KN.same {q r q' r' : Mh} {P : Int} {k : Nat} {s : List Int} (h : KN q r P k s) (h1 : ∀ o, P + 37 ≤ o → o ≤ P + 39 → q' o = q o) (h2 : ∀ o, 23 ≤ o → o ≤ 25 → r' o = r o) : KN q' r' P k s := by
  unfold KN knotK at h ⊢
  rw [h1 (P + 37) (by omega) (by omega), h1 (P + 38) (by omega) (by omega), h1 (P + 39) (by omega) (by omega), h2 23 (by decide) (by decide), h2 24 (by decide) (by decide), h2 25 (by decide) (by decide)]
  exact h
theorem KN.step {q r q' r' : Mh} {P : Int} {k : Nat} {s t : List Int} {c v x a b : Int} (h : KN q r P k s) (p37 : q' (P + 37) 4 = k + 1) (p38 : ∀ j, q' (P + 38) j = if j = k then c else q (P + 38) j) (p39 : ∀ j, q' (P + 39) j = if j = k then v else q (P + 39) j) (r23 : ∀ j, r' 23 j = if j = 64 + k then x else r 23 j) (r24 : ∀ j, r' 24 j = if j = 64 + k then a else r 24 j) (r25 : ∀ j, r' 25 j = if j = 64 + k then b else r 25 j)
    (hc : c = cdk x a) (hx : (x = 0 ∧ v = a ∧ 0 ≤ a ∧ a ≤ 9999 ∧ t = (k : Int) :: s) ∨ (x = 1 ∧ 0 ≤ a ∧ a ≤ 4 ∧ t = (k : Int) :: s) ∨ (x = 2 ∧ ∃ u, s = a :: u ∧ t = (k : Int) :: u) ∨ (3 ≤ x ∧ x ≤ 14 ∧ ∃ u, s = b :: a :: u ∧ t = (k : Int) :: u)) : KN q' r' P (k + 1) t := by
  obtain ⟨h1, sk, h2, h3, h4⟩ := h
  refine ⟨by rw [p37]; omega, fun i => if i = k + 1 then t else sk i, ?_, ?_, ?_⟩
  · show (if 0 = k + 1 then t else sk 0) = []
    rw [if_neg (by omega)]; exact h2
  · intro i hi
    show knotK q' r' P i (if i = k + 1 then t else sk i) (if i + 1 = k + 1 then t else sk (i + 1))
    rw [if_neg (by omega)]
    by_cases z : i = k
    · rw [if_pos (by omega), z]
      unfold knotK
      rw [p38, p39, r23, r24, r25, if_pos rfl, if_pos rfl, if_pos rfl, if_pos rfl, if_pos rfl, h4]
      exact ⟨hc, hx⟩
    · rw [if_neg (by omega)]
      unfold knotK
      rw [p38, p39, r23, r24, r25, if_neg (by omega), if_neg (by omega), if_neg (by omega), if_neg (by omega), if_neg (by omega)]
      exact h3 i (by omega)
  · show (if k + 1 = k + 1 then t else sk (k + 1)) = t
    rw [if_pos rfl]
/-! ===== both, within a law ===== -/
def LI (B : Int → Int) (n : Int) (m : Nat) (q0 r0 qb rb : Mh) (P : Int) (a N H k : Nat) (q r : Mh) : Prop :=
  PTok B n m a q r ∧ fxC q0 q ∧ fxR r0 r ∧ (∀ o, ¬ (46 ≤ o ∧ o ≤ 49) → ¬ (P + 37 ≤ o ∧ o ≤ P + 39) → q o = qb o) ∧ (∀ j, ¬ (12 ≤ j ∧ j ≤ 15) → q 46 j = qb 46 j) ∧ (∀ o, ¬ o = 0 → ¬ (23 ≤ o ∧ o ≤ 27) → r o = rb o) ∧ (∀ j, ¬ (7 ≤ j ∧ j ≤ 11) → ¬ j = 33 → ¬ (65 ≤ j ∧ j ≤ 70) → r 0 j = rb 0 j) ∧
  (q 46 12 = N ∧ r 0 65 = N ∧ r 0 66 = H ∧ r 0 33 = k ∧ q 46 13 = r 0 67 ∧ 0 ≤ r 0 67 ∧ r 0 67 ≤ 8 ∧ q 46 14 = r 0 68 ∧ 0 ≤ r 0 68 ∧ r 0 68 ≤ 64 ∧ (r 0 69 = 0 ∨ r 0 69 = 1) ∧ q 46 15 = 1 - r 0 69) ∧
  (∀ j : Int, 0 ≤ j → j < N → (r 26 j = 0 ∨ (2 ≤ r 26 j ∧ r 26 j ≤ 14)) ∧ q 47 j = cdw (r 26 j) ∧ q 48 j = rkF (r 26 j)) ∧
  zcn (r 26) N = r 0 67 ∧ bnn (r 26) N + (1 - r 0 69) = H ∧ (k : Int) + N = r 0 68 + r 0 67 ∧ (r 0 69 = 1 → (r 0 70 = 0 ↔ 3 < tpF (r 26) N)) ∧ KN q r P k (hl (r 27) H)
