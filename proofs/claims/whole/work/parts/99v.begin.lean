/-! ===== both begin to read ===== -/
theorem st_ge {B : Int → Int} {n : Int} {m : Nat} {g : Mh} (h : TokL B n m g) : ∀ i : Nat, i < m → (i : Int) ≤ st B n i := by
  intro i
  induction i with
  | zero => intro hi; exact (h.2.2.2.2.2.2 0 hi).1
  | succ i ih =>
    intro hi
    have a := ih (by omega)
    have b := h.2.2.2.2.2.2 i (by omega)
    have c := tE_r (B := B) b.2.1
    show ((i + 1 : Nat) : Int) ≤ re isB B n (tE B n (st B n i))
    have d := re_r (P := isB) (B := B) (n := n) (p := tE B n (st B n i)) (by omega)
    omega
theorem tok_le {B : Int → Int} {n : Int} {m : Nat} {g : Mh} (h : TokL B n m g) : (m : Int) ≤ n := by
  cases m with
  | zero => exact h.2.1
  | succ k =>
    have a := st_ge h k (by omega)
    have b := (h.2.2.2.2.2.2 k (by omega)).2.1
    omega
/-- a pond that is cleared -/
def clr (P : Int) (h g : Mh) : Prop := (∀ o, ¬ (P ≤ o ∧ o ≤ P + 39) → g o = h o) ∧ g P 0 = 4 ∧ g P 1 = 4 ∧ g P 2 = 0 ∧ g P 3 = 0 ∧ g P 17 = 10 ∧ g P 18 = 30 ∧ g P 19 = 50 ∧ g (P + 1) 1 = 0 ∧ g (P + 10) 1 = 0 ∧ g (P + 12) 1 = 0 ∧ g (P + 23) 1 = 0 ∧ g (P + 25) 1 = 0 ∧ g (P + 27) 1 = 0 ∧ g (P + 29) 1 = 0 ∧ g (P + 31) 1 = 0 ∧ g (P + 33) 3 = 0 ∧ g (P + 37) 4 = 0 ∧ (∀ k, 0 ≤ k → k < 3 → g (P + 4 + 2 * k) 1 = 0) ∧ (∀ k, 0 ≤ k → k < 4 → g (P + 15 + 2 * k) 1 = 0)
theorem sp_clear5 {P : Int} {h : Mh} {K : Mh → Prop} (hp : isP P) (hk : ∀ g, clr P h g → K g) : wp_X5_clear shC P h K := by
  have s3 : ((shC (P + 3)).2 : Int) = 3 := by rcases hp with e | e <;> rw [e] <;> rfl
  have s14 : ((shC (P + 14)).2 : Int) = 4 := by rcases hp with e | e <;> rw [e] <;> rfl
  unfold wp_X5_clear
  intro h1 e1 h2 e2 h3 e3 h4 e4 h5 e5 h6 e6 h7 e7
  unfold wp_X7_clear wp_X1_clear wp_X3_clear
  intro h8 e8 h9 e9 h10 e10 h11 e11 h12 e12 h13 e13 h14 e14 h15 e15 h16 e16 h17 e17
  have l136 : ∀ (v : Int) (g : Mh), 0 ≤ v → v < 4 → Lfp (F_X5_clear shC P K) (136, [v + 1], up g (P + 14 + 1 + 2 * v) 1 0) → Lfp (F_X5_clear shC P K) (136, [v], g) := by
    intro v g v0 v1 hl
    apply L_X5_clear_136
    unfold B_X5_clear_136 wp_X7_clear
    rw [s14, if_neg (by omega)]
    refine ⟨⟨v0, v1⟩, ?_⟩
    intro g1 eg x1 ex
    rw [ex, w32_eq (by omega) (by omega), eg]; exact hl
  have l110 : ∀ (v : Int) (g : Mh), 0 ≤ v → v < 3 → Lfp (F_X5_clear shC P K) (110, [v + 1], up g (P + 3 + 1 + 2 * v) 1 0) → Lfp (F_X5_clear shC P K) (110, [v], g) := by
    intro v g v0 v1 hl
    apply L_X5_clear_110
    unfold B_X5_clear_110 wp_X7_clear
    rw [s3, if_neg (by omega)]
    refine ⟨⟨v0, v1⟩, ?_⟩
    intro g1 eg x1 ex
    rw [ex, w32_eq (by omega) (by omega), eg]; exact hl
  refine l110 0 _ (by decide) (by decide) (l110 1 _ (by decide) (by decide) (l110 2 _ (by decide) (by decide) ?_))
  apply L_X5_clear_110
  unfold B_X5_clear_110
  rw [s3, if_pos (by decide)]
  refine l136 0 _ (by decide) (by decide) (l136 1 _ (by decide) (by decide) (l136 2 _ (by decide) (by decide) (l136 3 _ (by decide) (by decide) ?_)))
  apply L_X5_clear_136
  unfold B_X5_clear_136
  rw [s14, if_pos (by decide)]
  refine hk _ ?_
  rw [e17, e16, e15, e14, e13, e12, e11, e10, e9, e8, e7, e6, e5, e4, e3, e2, e1]
  refine ⟨fun o y => ?_, ?_, ?_, ?_, ?_, ?_, ?_, ?_, ?_, ?_, ?_, ?_, ?_, ?_, ?_, ?_, ?_, ?_, fun k k0 k1 => ?_, fun k k0 k1 => ?_⟩
  · rw [up_other (by omega), up_other (by omega), up_other (by omega), up_other (by omega), up_other (by omega), up_other (by omega), up_other (by omega), up_other (by omega), up_other (by omega), up_other (by omega), up_other (by omega), up_other (by omega), up_other (by omega), up_other (by omega), up_other (by omega), up_other (by omega), up_other (by omega), up_other (by omega), up_other (by omega), up_other (by omega), up_other (by omega), up_other (by omega), up_other (by omega), up_other (by omega)]
  all_goals first
    | (rcases hp with e | e <;> (rw [e]; simp [up]; done))
    | (have hk : k = 0 ∨ k = 1 ∨ k = 2 ∨ k = 3 := by omega
       rcases hk with c | c | c | c <;> rcases hp with e | e <;> rw [e, c] <;> first | (simp [up]; done) | omega)
/-- nothing is told yet -/
theorem PP.nil {Q R : Mh} (hp : isP (Q 53 0)) (h02 : Q 0 2 = 56 - Q 53 0) (hP0 : Q (Q 53 0) 0 = 4) (hP1 : Q (Q 53 0) 1 = 4) (hP2 : Q (Q 53 0) 2 = 0) (h53 : Q 53 1 = 0) (hP17 : Q (Q 53 0) 17 = 10) (hP18 : Q (Q 53 0) 18 = 30) (hP19 : Q (Q 53 0) 19 = 50)
    (hr : ∀ o, (o = 1 ∨ o = 10 ∨ o = 12 ∨ o = 23 ∨ o = 25 ∨ o = 27 ∨ o = 29 ∨ o = 31) → Q (Q 53 0 + o) 1 = 0) (h37 : Q (Q 53 0 + 37) 4 = 0) (h98 : Q 98 3 = 0) (hm : ∀ k, 0 ≤ k → k < 3 → Q (Q 53 0 + 4 + 2 * k) 1 = 0) (hk : ∀ k, 0 ≤ k → k < 4 → Q (Q 53 0 + 15 + 2 * k) 1 = 0)
    (r12 : R 0 12 = 4) (r13 : R 0 13 = 4) (r0 : ∀ j, (14 ≤ j ∧ j ≤ 20) ∨ j = 24 ∨ j = 34 ∨ j = 35 ∨ j = 76 ∨ j = 77 → R 0 j = 0) (r21 : R 0 21 = 10) (r22 : R 0 22 = 30) (r23 : R 0 23 = 50) (r5 : ∀ c, 0 ≤ c → c < 48 → R 5 c = 0 ∧ R 6 c = 0 ∧ R 7 c = 0) (r32 : ∀ j, 0 ≤ j → j < 3 → R 32 j = R 8 j) : PP Q R ∧ PEmp Q R := by
  have row : ∀ o arr, (o = 1 ∨ o = 10 ∨ o = 12 ∨ o = 23 ∨ o = 25 ∨ o = 27 ∨ o = 29 ∨ o = 31) → RRow Q R (Q 53 0 + o) 0 arr 0 := fun o arr y => ⟨hr o y, Int.le_refl _, fun j a b => by omega⟩
  have p0 : pop 0 48 0 = 0 := pop_none 0 48 0 (fun c _ _ => bit_zero c)
  refine ⟨⟨⟨?_, ?_, ?_, ?_, ?_, ?_, ?_⟩, ?_, ?_, ?_, ?_, ?_, ?_, ?_, ?_⟩, ?_⟩
  · unfold RDim prm
    rw [h02, hP0, hP1, hP17, hP18, hP19, r12, r13, r21, r22, r23]
    exact ⟨hp, rfl, rfl, rfl, ⟨⟨⟨by decide, by decide⟩, by decide, by decide⟩, ⟨by decide, by decide⟩, by decide, by decide⟩, rfl, rfl, rfl, by decide, by decide⟩
  · unfold RShr
    rw [r0 18 (by decide), r0 77 (by decide)]
    exact ⟨row 1 8 (by decide), by decide, fun j a b => by omega, fun c c0 c1 => ⟨fun _ j a b => by omega, fun _ => (r5 c c0 c1).2.1⟩, rfl, r32⟩
  · unfold RKnd
    rw [r0 14 (by decide)]
    exact ⟨row 12 9 (by decide), by decide, row 23 11 (by decide), fun k a b => by omega⟩
  · unfold RCrk
    rw [r0 15 (by decide)]
    exact ⟨row 25 13 (by decide), by decide, row 27 14 (by decide), fun k a b => by omega⟩
  · unfold RSkt
    rw [r0 16 (by decide)]
    exact ⟨row 29 15 (by decide), by decide, row 31 16 (by decide), fun k a b => by omega⟩
  · unfold RMay
    rw [r0 19 (by decide)]
    exact ⟨row 10 20 (by decide), by decide, fun k a b => by omega⟩
  · unfold RLaw
    rw [r0 20 (by decide), r0 24 (by decide), h37]
    exact ⟨rfl, by decide, by decide, Iff.rfl, fun _ => [], rfl, fun i hi => by omega, fun y => absurd y (by decide)⟩
  · unfold RGr cg
    rw [hP2, h53]
    refine ⟨fun c c0 c1 => ?_, fun c c0 c1 y => ?_, fun c c0 c1 y => ?_⟩
    · rw [if_neg (by rw [bit_zero]; decide), if_neg (by rw [bit_zero]; decide)]; exact (r5 c c0 c1).1
    · rw [bit_zero] at y; cases y
    · rw [bit_zero] at y; cases y
  · unfold RDrp
    rw [r0 76 (by decide)]
    exact ⟨h98, by decide, by decide, fun d a b => by omega⟩
  · rw [r0 76 (by decide)]; decide
  · rw [hP2, r0 34 (by decide), p0]; exact ⟨rfl, by decide⟩
  · rw [h53, r0 35 (by decide), p0]; exact ⟨rfl, by decide⟩
  · intro c c0 c1
    unfold free
    rw [r0 15 (by decide), r0 16 (by decide), r0 76 (by decide), r0 19 (by decide)]
    exact ⟨fun _ => ⟨fun j a b => by omega, fun j a b => by omega, fun j a b => by omega, fun k a b => by omega⟩, fun _ => (r5 c c0 c1).2.2⟩
  · intro k a b
    rw [r0 14 (by decide)] at a
    exact hk k a b
  · intro k a b
    rw [r0 19 (by decide)] at a
    exact hm k a b
  · unfold PEmp
    rw [r0 18 (by decide), r0 15 (by decide), r0 16 (by decide), r0 19 (by decide), r0 76 (by decide), hP2, h53]
    exact ⟨rfl, rfl, rfl, rfl, rfl, fun c _ _ => ⟨bit_zero c, bit_zero c⟩⟩
