/-! ===== a pond is laid ===== -/
def look : List (Int × Int × Int) → Int → Int → Option Int → Option Int
  | [], _, _, a => a
  | q :: t, o, j, a => look t o j (if o = q.1 ∧ j = q.2.1 then some q.2.2 else a)
theorem ups_look : ∀ (L : List (Int × Int × Int)) (h : Mh) (o j : Int) (a : Option Int) (x : Int), (∀ v, a = some v → h o j = v) → look L o j a = some x → ups L h o j = x := by
  intro L
  induction L with
  | nil => intro h o j a x ha hx; exact ha x hx
  | cons q t ih =>
    intro h o j a x ha hx
    refine ih (up h q.1 q.2.1 q.2.2) o j _ x (fun v hv => ?_) hx
    by_cases z : o = q.1 ∧ j = q.2.1
    · rw [if_pos z] at hv
      rw [z.1, z.2, up_same]
      exact Option.some.inj hv
    · rw [if_neg z] at hv
      rw [up_ne _ z]; exact ha v hv
theorem ups_other : ∀ (L : List (Int × Int × Int)) (h : Mh) (o : Int), (∀ q ∈ L, o ≠ q.1) → ups L h o = h o := by
  intro L
  induction L with
  | nil => intro h o _; rfl
  | cons q t ih =>
    intro h o hq
    show ups t (up h q.1 q.2.1 q.2.2) o = h o
    rw [ih _ o (fun x hx => hq x (List.mem_cons_of_mem _ hx)), up_other (hq q List.mem_cons_self)]
theorem ups_lo {L : List (Int × Int × Int)} {h : Mh} {o b : Int} (hb : (L.all fun q => decide (b ≤ q.1)) = true) (ho : o < b) : ups L h o = h o := ups_other L h o (fun q hq => by
  have := of_decide_eq_true (List.all_eq_true.mp hb q hq)
  omega)
theorem ups_hi {L : List (Int × Int × Int)} {h : Mh} {o b : Int} (hb : (L.all fun q => decide (q.1 < b)) = true) (ho : b ≤ o) : ups L h o = h o := ups_other L h o (fun q hq => by
  have := of_decide_eq_true (List.all_eq_true.mp hb q hq)
  omega)
/-- wired as told, but the two that are not yet -/
def Wt (W0 : Int → Int → Int) (i j : Int) : Int := if (shC i).1 = 11 ∨ (shC i).1 = 10 then W0 i j else wrC i j
/-- the cells ahead of a are wired, but the two that are not yet -/
def aWdX (a : Nat) (h : Mh) : Prop := ∀ i : Nat, i < a → (shC i).1 ≠ 11 → (shC i).1 ≠ 10 → ∀ j : Nat, j < alen (shC i) → mfin (shC i).1 j = true → h i j = wrC i j
def KPd (P : Nat) (h h' : Mh) : Prop := (∀ o : Int, ¬ ((P : Int) ≤ o ∧ o < P + 44) → h' o = h o) ∧ (∀ i : Nat, P ≤ i → i < P + 44 → ∀ j : Nat, j < alen (shC i) → mfin (shC i).1 j = true → h' i j = wrC i j) ∧ ∃ g, clr P g h'
theorem sp_clearG {sh : Int → Nat × Nat} {P : Int} {h : Mh} {K : Mh → Prop} (hp : isP P) (s3 : ((sh (P + 3)).2 : Int) = 3) (s14 : ((sh (P + 14)).2 : Int) = 4) (hk : ∀ g, clr P h g → g (P + 3) = h (P + 3) → g (P + 14) = h (P + 14) → K g) : wp_X5_clear sh P h K := by
  unfold wp_X5_clear
  intro h1 e1 h2 e2 h3 e3 h4 e4 h5 e5 h6 e6 h7 e7
  unfold wp_X7_clear wp_X1_clear wp_X3_clear
  intro h8 e8 h9 e9 h10 e10 h11 e11 h12 e12 h13 e13 h14 e14 h15 e15 h16 e16 h17 e17
  have l136 : ∀ (v : Int) (g : Mh), 0 ≤ v → v < 4 → Lfp (F_X5_clear sh P K) (136, [v + 1], up g (P + 14 + 1 + 2 * v) 1 0) → Lfp (F_X5_clear sh P K) (136, [v], g) := by
    intro v g v0 v1 hl
    apply L_X5_clear_136
    unfold B_X5_clear_136 wp_X7_clear
    rw [s14, if_neg (by omega)]
    refine ⟨⟨v0, v1⟩, ?_⟩
    intro g1 eg x1 ex
    rw [ex, w32_eq (by omega) (by omega), eg]; exact hl
  have l110 : ∀ (v : Int) (g : Mh), 0 ≤ v → v < 3 → Lfp (F_X5_clear sh P K) (110, [v + 1], up g (P + 3 + 1 + 2 * v) 1 0) → Lfp (F_X5_clear sh P K) (110, [v], g) := by
    intro v g v0 v1 hl
    apply L_X5_clear_110
    unfold B_X5_clear_110 wp_X7_clear
    rw [s3, if_neg (by omega)]
    refine ⟨⟨v0, v1⟩, ?_⟩
    intro g1 eg x1 ex
    rw [ex, w32_eq (by omega) (by omega), eg]; exact hl
  refine l110 0 _ (by decide) (by decide) (l110 1 _ (by decide) (by decide) (l110 2 _ (by decide) (by decide) ?_))
  apply L_X5_clear_110
  unfold B_X5_clear_110
  rw [s3, if_pos (by decide)]
  refine l136 0 _ (by decide) (by decide) (l136 1 _ (by decide) (by decide) (l136 2 _ (by decide) (by decide) (l136 3 _ (by decide) (by decide) ?_)))
  apply L_X5_clear_136
  unfold B_X5_clear_136
  rw [s14, if_pos (by decide)]
  refine hk _ ?_ ?_ ?_
  · rw [e17, e16, e15, e14, e13, e12, e11, e10, e9, e8, e7, e6, e5, e4, e3, e2, e1]
    refine ⟨fun o y => ?_, ?_, ?_, ?_, ?_, ?_, ?_, ?_, ?_, ?_, ?_, ?_, ?_, ?_, ?_, ?_, ?_, ?_, fun k k0 k1 => ?_, fun k k0 k1 => ?_⟩
    · rw [up_other (by omega), up_other (by omega), up_other (by omega), up_other (by omega), up_other (by omega), up_other (by omega), up_other (by omega), up_other (by omega), up_other (by omega), up_other (by omega), up_other (by omega), up_other (by omega), up_other (by omega), up_other (by omega), up_other (by omega), up_other (by omega), up_other (by omega), up_other (by omega), up_other (by omega), up_other (by omega), up_other (by omega), up_other (by omega), up_other (by omega), up_other (by omega)]
    all_goals first
      | (rcases hp with e | e <;> (rw [e]; simp [up]; done))
      | (have hk : k = 0 ∨ k = 1 ∨ k = 2 ∨ k = 3 := by omega
         rcases hk with c | c | c | c <;> rcases hp with e | e <;> rw [e, c] <;> first | (simp [up]; done) | omega)
  · rw [e17, e16, e15, e14, e13, e12, e11, e10, e9, e8, e7, e6, e5, e4, e3, e2, e1]
    rw [up_other (by omega), up_other (by omega), up_other (by omega), up_other (by omega), up_other (by omega), up_other (by omega), up_other (by omega), up_other (by omega), up_other (by omega), up_other (by omega), up_other (by omega), up_other (by omega), up_other (by omega), up_other (by omega), up_other (by omega), up_other (by omega), up_other (by omega), up_other (by omega), up_other (by omega), up_other (by omega), up_other (by omega), up_other (by omega), up_other (by omega), up_other (by omega)]
  · rw [e17, e16, e15, e14, e13, e12, e11, e10, e9, e8, e7, e6, e5, e4, e3, e2, e1]
    rw [up_other (by omega), up_other (by omega), up_other (by omega), up_other (by omega), up_other (by omega), up_other (by omega), up_other (by omega), up_other (by omega), up_other (by omega), up_other (by omega), up_other (by omega), up_other (by omega), up_other (by omega), up_other (by omega), up_other (by omega), up_other (by omega), up_other (by omega), up_other (by omega), up_other (by omega), up_other (by omega), up_other (by omega), up_other (by omega), up_other (by omega), up_other (by omega)]
set_option maxRecDepth 20000 in
theorem wirP_46 {z : Mz} {W0 : Int → Int → Int} : mWir (XW shC z 46 (Wt W0)) := ⟨(fun r q => by
    have q' : (if r < ((46 : Nat) : Int) then shC r else (99, 0)).1 = 0 := q
    by_cases t : r < ((46 : Nat) : Int)
    · rw [if_pos t] at q'
      obtain ⟨i, rfl, hi⟩ := shC_in (o := r) (by rw [q']; decide)
      have hi2 : i < 46 := by omega
      have hh : ∀ i : Nat, i < 46 → (shC i).1 = 0 → wrC i 0 = i + 1 ∧ i + 1 < 46 ∧ (shC (i + 1)).1 = 14 := by decide +kernel
      obtain ⟨a, b, c⟩ := hh i hi2 q'
      refine ⟨?_, ?_⟩
      · show Wt W0 i 0 = i + 1
        unfold Wt
        rw [if_neg (by rw [q']; decide)]; exact a
      · show (if (i : Int) + 1 < ((46 : Nat) : Int) then shC ((i : Int) + 1) else (99, 0)).1 = 14
        rw [if_pos (by omega)]; exact c
    · rw [if_neg t] at q'
      exact absurd q' (by decide)), (fun r q => by
    have q' : (if r < ((46 : Nat) : Int) then shC r else (99, 0)).1 = 0 := q
    by_cases t : r < ((46 : Nat) : Int)
    · rw [if_pos t] at q'
      obtain ⟨i, rfl, hi⟩ := shC_in (o := r) (by rw [q']; decide)
      have hi2 : i < 46 := by omega
      have hh : ∀ i : Nat, i < 46 → (shC i).1 = 0 → wrC i 1 = i + 2 ∧ i + 2 < 46 ∧ (shC (i + 2)).1 = 14 := by decide +kernel
      obtain ⟨a, b, c⟩ := hh i hi2 q'
      refine ⟨?_, ?_⟩
      · show Wt W0 i 1 = i + 2
        unfold Wt
        rw [if_neg (by rw [q']; decide)]; exact a
      · show (if (i : Int) + 2 < ((46 : Nat) : Int) then shC ((i : Int) + 2) else (99, 0)).1 = 14
        rw [if_pos (by omega)]; exact c
    · rw [if_neg t] at q'
      exact absurd q' (by decide)), (fun r q => by
    have q' : (if r < ((46 : Nat) : Int) then shC r else (99, 0)).1 = 0 := q
    by_cases t : r < ((46 : Nat) : Int)
    · rw [if_pos t] at q'
      obtain ⟨i, rfl, hi⟩ := shC_in (o := r) (by rw [q']; decide)
      have hi2 : i < 46 := by omega
      have hh : ∀ i : Nat, i < 46 → (shC i).1 = 0 → wrC i 2 = i + 3 ∧ i + 3 < 46 ∧ (shC (i + 3)).1 = 14 := by decide +kernel
      obtain ⟨a, b, c⟩ := hh i hi2 q'
      refine ⟨?_, ?_⟩
      · show Wt W0 i 2 = i + 3
        unfold Wt
        rw [if_neg (by rw [q']; decide)]; exact a
      · show (if (i : Int) + 3 < ((46 : Nat) : Int) then shC ((i : Int) + 3) else (99, 0)).1 = 14
        rw [if_pos (by omega)]; exact c
    · rw [if_neg t] at q'
      exact absurd q' (by decide)), (fun r q => by
    have q' : (if r < ((46 : Nat) : Int) then shC r else (99, 0)).1 = 2 := q
    by_cases t : r < ((46 : Nat) : Int)
    · rw [if_pos t] at q'
      obtain ⟨i, rfl, hi⟩ := shC_in (o := r) (by rw [q']; decide)
      have hi2 : i < 46 := by omega
      have hh : ∀ i : Nat, i < 46 → (shC i).1 = 2 → wrC i 0 = i + 1 ∧ i + 1 < 46 ∧ (shC (i + 1)).1 = 14 := by decide +kernel
      obtain ⟨a, b, c⟩ := hh i hi2 q'
      refine ⟨?_, ?_⟩
      · show Wt W0 i 0 = i + 1
        unfold Wt
        rw [if_neg (by rw [q']; decide)]; exact a
      · show (if (i : Int) + 1 < ((46 : Nat) : Int) then shC ((i : Int) + 1) else (99, 0)).1 = 14
        rw [if_pos (by omega)]; exact c
    · rw [if_neg t] at q'
      exact absurd q' (by decide)), (fun r q => by
    have q' : (if r < ((46 : Nat) : Int) then shC r else (99, 0)).1 = 2 := q
    by_cases t : r < ((46 : Nat) : Int)
    · rw [if_pos t] at q'
      obtain ⟨i, rfl, hi⟩ := shC_in (o := r) (by rw [q']; decide)
      have hi2 : i < 46 := by omega
      have hh : ∀ i : Nat, i < 46 → (shC i).1 = 2 → wrC i 1 = i + 2 ∧ i + 2 < 46 ∧ (shC (i + 2)).1 = 14 := by decide +kernel
      obtain ⟨a, b, c⟩ := hh i hi2 q'
      refine ⟨?_, ?_⟩
      · show Wt W0 i 1 = i + 2
        unfold Wt
        rw [if_neg (by rw [q']; decide)]; exact a
      · show (if (i : Int) + 2 < ((46 : Nat) : Int) then shC ((i : Int) + 2) else (99, 0)).1 = 14
        rw [if_pos (by omega)]; exact c
    · rw [if_neg t] at q'
      exact absurd q' (by decide)), (fun r q => by
    have q' : (if r < ((46 : Nat) : Int) then shC r else (99, 0)).1 = 2 := q
    by_cases t : r < ((46 : Nat) : Int)
    · rw [if_pos t] at q'
      obtain ⟨i, rfl, hi⟩ := shC_in (o := r) (by rw [q']; decide)
      have hi2 : i < 46 := by omega
      have hh : ∀ i : Nat, i < 46 → (shC i).1 = 2 → wrC i 2 = i + 3 ∧ i + 3 < 46 ∧ (shC (i + 3)).1 = 15 := by decide +kernel
      obtain ⟨a, b, c⟩ := hh i hi2 q'
      refine ⟨?_, ?_⟩
      · show Wt W0 i 2 = i + 3
        unfold Wt
        rw [if_neg (by rw [q']; decide)]; exact a
      · show (if (i : Int) + 3 < ((46 : Nat) : Int) then shC ((i : Int) + 3) else (99, 0)).1 = 15
        rw [if_pos (by omega)]; exact c
    · rw [if_neg t] at q'
      exact absurd q' (by decide)), (fun r q => by
    have q' : (if r < ((46 : Nat) : Int) then shC r else (99, 0)).1 = 2 := q
    by_cases t : r < ((46 : Nat) : Int)
    · rw [if_pos t] at q'
      obtain ⟨i, rfl, hi⟩ := shC_in (o := r) (by rw [q']; decide)
      have hi2 : i < 46 := by omega
      have hh : ∀ i : Nat, i < 46 → (shC i).1 = 2 → wrC i 3 = i + 4 ∧ i + 4 < 46 ∧ (shC (i + 4)).1 = 15 := by decide +kernel
      obtain ⟨a, b, c⟩ := hh i hi2 q'
      refine ⟨?_, ?_⟩
      · show Wt W0 i 3 = i + 4
        unfold Wt
        rw [if_neg (by rw [q']; decide)]; exact a
      · show (if (i : Int) + 4 < ((46 : Nat) : Int) then shC ((i : Int) + 4) else (99, 0)).1 = 15
        rw [if_pos (by omega)]; exact c
    · rw [if_neg t] at q'
      exact absurd q' (by decide)), (fun r q => by
    have q' : (if r < ((46 : Nat) : Int) then shC r else (99, 0)).1 = 4 := q
    by_cases t : r < ((46 : Nat) : Int)
    · rw [if_pos t] at q'
      obtain ⟨i, rfl, hi⟩ := shC_in (o := r) (by rw [q']; decide)
      have hi2 : i < 46 := by omega
      have hh : ∀ i : Nat, i < 46 → (shC i).1 = 4 → wrC i 4 = i + 1 ∧ i + 1 < 46 ∧ (shC (i + 1)).1 = 6 := by decide +kernel
      obtain ⟨a, b, c⟩ := hh i hi2 q'
      refine ⟨?_, ?_⟩
      · show Wt W0 i 4 = i + 1
        unfold Wt
        rw [if_neg (by rw [q']; decide)]; exact a
      · show (if (i : Int) + 1 < ((46 : Nat) : Int) then shC ((i : Int) + 1) else (99, 0)).1 = 6
        rw [if_pos (by omega)]; exact c
    · rw [if_neg t] at q'
      exact absurd q' (by decide)), (fun r q => by
    have q' : (if r < ((46 : Nat) : Int) then shC r else (99, 0)).1 = 4 := q
    by_cases t : r < ((46 : Nat) : Int)
    · rw [if_pos t] at q'
      obtain ⟨i, rfl, hi⟩ := shC_in (o := r) (by rw [q']; decide)
      have hi2 : i < 46 := by omega
      have hh : ∀ i : Nat, i < 46 → (shC i).1 = 4 → wrC i 5 = i + 3 ∧ i + 3 < 46 ∧ (shC (i + 3)).1 = 17 := by decide +kernel
      obtain ⟨a, b, c⟩ := hh i hi2 q'
      refine ⟨?_, ?_⟩
      · show Wt W0 i 5 = i + 3
        unfold Wt
        rw [if_neg (by rw [q']; decide)]; exact a
      · show (if (i : Int) + 3 < ((46 : Nat) : Int) then shC ((i : Int) + 3) else (99, 0)).1 = 17
        rw [if_pos (by omega)]; exact c
    · rw [if_neg t] at q'
      exact absurd q' (by decide)), (fun r q => by
    have q' : (if r < ((46 : Nat) : Int) then shC r else (99, 0)).1 = 4 := q
    by_cases t : r < ((46 : Nat) : Int)
    · rw [if_pos t] at q'
      obtain ⟨i, rfl, hi⟩ := shC_in (o := r) (by rw [q']; decide)
      have hi2 : i < 46 := by omega
      have hh : ∀ i : Nat, i < 46 → (shC i).1 = 4 → wrC i 6 = i + 10 ∧ i + 10 < 46 ∧ (shC (i + 10)).1 = 6 := by decide +kernel
      obtain ⟨a, b, c⟩ := hh i hi2 q'
      refine ⟨?_, ?_⟩
      · show Wt W0 i 6 = i + 10
        unfold Wt
        rw [if_neg (by rw [q']; decide)]; exact a
      · show (if (i : Int) + 10 < ((46 : Nat) : Int) then shC ((i : Int) + 10) else (99, 0)).1 = 6
        rw [if_pos (by omega)]; exact c
    · rw [if_neg t] at q'
      exact absurd q' (by decide)), (fun r q => by
    have q' : (if r < ((46 : Nat) : Int) then shC r else (99, 0)).1 = 4 := q
    by_cases t : r < ((46 : Nat) : Int)
    · rw [if_pos t] at q'
      obtain ⟨i, rfl, hi⟩ := shC_in (o := r) (by rw [q']; decide)
      have hi2 : i < 46 := by omega
      have hh : ∀ i : Nat, i < 46 → (shC i).1 = 4 → wrC i 7 = i + 12 ∧ i + 12 < 46 ∧ (shC (i + 12)).1 = 6 := by decide +kernel
      obtain ⟨a, b, c⟩ := hh i hi2 q'
      refine ⟨?_, ?_⟩
      · show Wt W0 i 7 = i + 12
        unfold Wt
        rw [if_neg (by rw [q']; decide)]; exact a
      · show (if (i : Int) + 12 < ((46 : Nat) : Int) then shC ((i : Int) + 12) else (99, 0)).1 = 6
        rw [if_pos (by omega)]; exact c
    · rw [if_neg t] at q'
      exact absurd q' (by decide)), (fun r q => by
    have q' : (if r < ((46 : Nat) : Int) then shC r else (99, 0)).1 = 4 := q
    by_cases t : r < ((46 : Nat) : Int)
    · rw [if_pos t] at q'
      obtain ⟨i, rfl, hi⟩ := shC_in (o := r) (by rw [q']; decide)
      have hi2 : i < 46 := by omega
      have hh : ∀ i : Nat, i < 46 → (shC i).1 = 4 → wrC i 8 = i + 14 ∧ i + 14 < 46 ∧ (shC (i + 14)).1 = 17 := by decide +kernel
      obtain ⟨a, b, c⟩ := hh i hi2 q'
      refine ⟨?_, ?_⟩
      · show Wt W0 i 8 = i + 14
        unfold Wt
        rw [if_neg (by rw [q']; decide)]; exact a
      · show (if (i : Int) + 14 < ((46 : Nat) : Int) then shC ((i : Int) + 14) else (99, 0)).1 = 17
        rw [if_pos (by omega)]; exact c
    · rw [if_neg t] at q'
      exact absurd q' (by decide)), (fun r q => by
    have q' : (if r < ((46 : Nat) : Int) then shC r else (99, 0)).1 = 4 := q
    by_cases t : r < ((46 : Nat) : Int)
    · rw [if_pos t] at q'
      obtain ⟨i, rfl, hi⟩ := shC_in (o := r) (by rw [q']; decide)
      have hi2 : i < 46 := by omega
      have hh : ∀ i : Nat, i < 46 → (shC i).1 = 4 → wrC i 9 = i + 23 ∧ i + 23 < 46 ∧ (shC (i + 23)).1 = 6 := by decide +kernel
      obtain ⟨a, b, c⟩ := hh i hi2 q'
      refine ⟨?_, ?_⟩
      · show Wt W0 i 9 = i + 23
        unfold Wt
        rw [if_neg (by rw [q']; decide)]; exact a
      · show (if (i : Int) + 23 < ((46 : Nat) : Int) then shC ((i : Int) + 23) else (99, 0)).1 = 6
        rw [if_pos (by omega)]; exact c
    · rw [if_neg t] at q'
      exact absurd q' (by decide)), (fun r q => by
    have q' : (if r < ((46 : Nat) : Int) then shC r else (99, 0)).1 = 4 := q
    by_cases t : r < ((46 : Nat) : Int)
    · rw [if_pos t] at q'
      obtain ⟨i, rfl, hi⟩ := shC_in (o := r) (by rw [q']; decide)
      have hi2 : i < 46 := by omega
      have hh : ∀ i : Nat, i < 46 → (shC i).1 = 4 → wrC i 10 = i + 25 ∧ i + 25 < 46 ∧ (shC (i + 25)).1 = 6 := by decide +kernel
      obtain ⟨a, b, c⟩ := hh i hi2 q'
      refine ⟨?_, ?_⟩
      · show Wt W0 i 10 = i + 25
        unfold Wt
        rw [if_neg (by rw [q']; decide)]; exact a
      · show (if (i : Int) + 25 < ((46 : Nat) : Int) then shC ((i : Int) + 25) else (99, 0)).1 = 6
        rw [if_pos (by omega)]; exact c
    · rw [if_neg t] at q'
      exact absurd q' (by decide)), (fun r q => by
    have q' : (if r < ((46 : Nat) : Int) then shC r else (99, 0)).1 = 4 := q
    by_cases t : r < ((46 : Nat) : Int)
    · rw [if_pos t] at q'
      obtain ⟨i, rfl, hi⟩ := shC_in (o := r) (by rw [q']; decide)
      have hi2 : i < 46 := by omega
      have hh : ∀ i : Nat, i < 46 → (shC i).1 = 4 → wrC i 11 = i + 27 ∧ i + 27 < 46 ∧ (shC (i + 27)).1 = 6 := by decide +kernel
      obtain ⟨a, b, c⟩ := hh i hi2 q'
      refine ⟨?_, ?_⟩
      · show Wt W0 i 11 = i + 27
        unfold Wt
        rw [if_neg (by rw [q']; decide)]; exact a
      · show (if (i : Int) + 27 < ((46 : Nat) : Int) then shC ((i : Int) + 27) else (99, 0)).1 = 6
        rw [if_pos (by omega)]; exact c
    · rw [if_neg t] at q'
      exact absurd q' (by decide)), (fun r q => by
    have q' : (if r < ((46 : Nat) : Int) then shC r else (99, 0)).1 = 4 := q
    by_cases t : r < ((46 : Nat) : Int)
    · rw [if_pos t] at q'
      obtain ⟨i, rfl, hi⟩ := shC_in (o := r) (by rw [q']; decide)
      have hi2 : i < 46 := by omega
      have hh : ∀ i : Nat, i < 46 → (shC i).1 = 4 → wrC i 12 = i + 29 ∧ i + 29 < 46 ∧ (shC (i + 29)).1 = 6 := by decide +kernel
      obtain ⟨a, b, c⟩ := hh i hi2 q'
      refine ⟨?_, ?_⟩
      · show Wt W0 i 12 = i + 29
        unfold Wt
        rw [if_neg (by rw [q']; decide)]; exact a
      · show (if (i : Int) + 29 < ((46 : Nat) : Int) then shC ((i : Int) + 29) else (99, 0)).1 = 6
        rw [if_pos (by omega)]; exact c
    · rw [if_neg t] at q'
      exact absurd q' (by decide)), (fun r q => by
    have q' : (if r < ((46 : Nat) : Int) then shC r else (99, 0)).1 = 4 := q
    by_cases t : r < ((46 : Nat) : Int)
    · rw [if_pos t] at q'
      obtain ⟨i, rfl, hi⟩ := shC_in (o := r) (by rw [q']; decide)
      have hi2 : i < 46 := by omega
      have hh : ∀ i : Nat, i < 46 → (shC i).1 = 4 → wrC i 13 = i + 31 ∧ i + 31 < 46 ∧ (shC (i + 31)).1 = 6 := by decide +kernel
      obtain ⟨a, b, c⟩ := hh i hi2 q'
      refine ⟨?_, ?_⟩
      · show Wt W0 i 13 = i + 31
        unfold Wt
        rw [if_neg (by rw [q']; decide)]; exact a
      · show (if (i : Int) + 31 < ((46 : Nat) : Int) then shC ((i : Int) + 31) else (99, 0)).1 = 6
        rw [if_pos (by omega)]; exact c
    · rw [if_neg t] at q'
      exact absurd q' (by decide)), (fun r q => by
    have q' : (if r < ((46 : Nat) : Int) then shC r else (99, 0)).1 = 4 := q
    by_cases t : r < ((46 : Nat) : Int)
    · rw [if_pos t] at q'
      obtain ⟨i, rfl, hi⟩ := shC_in (o := r) (by rw [q']; decide)
      have hi2 : i < 46 := by omega
      have hh : ∀ i : Nat, i < 46 → (shC i).1 = 4 → wrC i 14 = i + 33 ∧ i + 33 < 46 ∧ (shC (i + 33)).1 = 0 := by decide +kernel
      obtain ⟨a, b, c⟩ := hh i hi2 q'
      refine ⟨?_, ?_⟩
      · show Wt W0 i 14 = i + 33
        unfold Wt
        rw [if_neg (by rw [q']; decide)]; exact a
      · show (if (i : Int) + 33 < ((46 : Nat) : Int) then shC ((i : Int) + 33) else (99, 0)).1 = 0
        rw [if_pos (by omega)]; exact c
    · rw [if_neg t] at q'
      exact absurd q' (by decide)), (fun r q => by
    have q' : (if r < ((46 : Nat) : Int) then shC r else (99, 0)).1 = 4 := q
    by_cases t : r < ((46 : Nat) : Int)
    · rw [if_pos t] at q'
      obtain ⟨i, rfl, hi⟩ := shC_in (o := r) (by rw [q']; decide)
      have hi2 : i < 46 := by omega
      have hh : ∀ i : Nat, i < 46 → (shC i).1 = 4 → wrC i 15 = i + 37 ∧ i + 37 < 46 ∧ (shC (i + 37)).1 = 2 := by decide +kernel
      obtain ⟨a, b, c⟩ := hh i hi2 q'
      refine ⟨?_, ?_⟩
      · show Wt W0 i 15 = i + 37
        unfold Wt
        rw [if_neg (by rw [q']; decide)]; exact a
      · show (if (i : Int) + 37 < ((46 : Nat) : Int) then shC ((i : Int) + 37) else (99, 0)).1 = 2
        rw [if_pos (by omega)]; exact c
    · rw [if_neg t] at q'
      exact absurd q' (by decide)), (fun r q => by
    have q' : (if r < ((46 : Nat) : Int) then shC r else (99, 0)).1 = 4 := q
    by_cases t : r < ((46 : Nat) : Int)
    · rw [if_pos t] at q'
      obtain ⟨i, rfl, hi⟩ := shC_in (o := r) (by rw [q']; decide)
      have hi2 : i < 46 := by omega
      have hh : ∀ i : Nat, i < 46 → (shC i).1 = 4 → wrC i 16 = i + 42 ∧ i + 42 < 46 ∧ (shC (i + 42)).1 = 6 := by decide +kernel
      obtain ⟨a, b, c⟩ := hh i hi2 q'
      refine ⟨?_, ?_⟩
      · show Wt W0 i 16 = i + 42
        unfold Wt
        rw [if_neg (by rw [q']; decide)]; exact a
      · show (if (i : Int) + 42 < ((46 : Nat) : Int) then shC ((i : Int) + 42) else (99, 0)).1 = 6
        rw [if_pos (by omega)]; exact c
    · rw [if_neg t] at q'
      exact absurd q' (by decide)), (fun r q => by
    have q' : (if r < ((46 : Nat) : Int) then shC r else (99, 0)).1 = 6 := q
    by_cases t : r < ((46 : Nat) : Int)
    · rw [if_pos t] at q'
      obtain ⟨i, rfl, hi⟩ := shC_in (o := r) (by rw [q']; decide)
      have hi2 : i < 46 := by omega
      have hh : ∀ i : Nat, i < 46 → (shC i).1 = 6 → wrC i 0 = i + 1 ∧ i + 1 < 46 ∧ (shC (i + 1)).1 = 14 := by decide +kernel
      obtain ⟨a, b, c⟩ := hh i hi2 q'
      refine ⟨?_, ?_⟩
      · show Wt W0 i 0 = i + 1
        unfold Wt
        rw [if_neg (by rw [q']; decide)]; exact a
      · show (if (i : Int) + 1 < ((46 : Nat) : Int) then shC ((i : Int) + 1) else (99, 0)).1 = 14
        rw [if_pos (by omega)]; exact c
    · rw [if_neg t] at q'
      exact absurd q' (by decide)), (fun a i q h0 h1 => by
    have q' : (if a < ((46 : Nat) : Int) then shC a else (99, 0)).1 = 17 := q
    have h1' : i < ((if a < ((46 : Nat) : Int) then shC a else (99, 0)).2 : Int) := h1
    by_cases t : a < ((46 : Nat) : Int)
    · rw [if_pos t] at q' h1'
      obtain ⟨j, rfl, hj⟩ := shC_in (o := a) (by rw [q']; decide)
      have hj2 : j < 46 := by omega
      obtain ⟨k, rfl⟩ := Int.eq_ofNat_of_zero_le h0
      have h1 : k < (shC j).2 := by omega
      have hh : ∀ j : Nat, j < 46 → (shC j).1 = 17 → ∀ k : Nat, k < (shC j).2 → wrC j k = j + 1 + 2 * k ∧ j + 1 + 2 * k < 46 ∧ (shC (j + 1 + 2 * k)).1 = 6 := by decide +kernel
      obtain ⟨a1, b1, c1⟩ := hh j hj2 q' k h1
      refine ⟨?_, ?_⟩
      · show Wt W0 j k = j + 1 + 2 * k
        unfold Wt
        rw [if_neg (by rw [q']; decide)]; exact a1
      · show (if (j : Int) + 1 + 2 * k < ((46 : Nat) : Int) then shC ((j : Int) + 1 + 2 * k) else (99, 0)).1 = 6
        rw [if_pos (by omega)]; exact c1
    · rw [if_neg t] at q'
      exact absurd q' (by decide))⟩
set_option maxRecDepth 20000 in
theorem wirP_98 {z : Mz} {W0 : Int → Int → Int} : mWir (XW shC z 98 (Wt W0)) := ⟨(fun r q => by
    have q' : (if r < ((98 : Nat) : Int) then shC r else (99, 0)).1 = 0 := q
    by_cases t : r < ((98 : Nat) : Int)
    · rw [if_pos t] at q'
      obtain ⟨i, rfl, hi⟩ := shC_in (o := r) (by rw [q']; decide)
      have hi2 : i < 98 := by omega
      have hh : ∀ i : Nat, i < 98 → (shC i).1 = 0 → wrC i 0 = i + 1 ∧ i + 1 < 98 ∧ (shC (i + 1)).1 = 14 := by decide +kernel
      obtain ⟨a, b, c⟩ := hh i hi2 q'
      refine ⟨?_, ?_⟩
      · show Wt W0 i 0 = i + 1
        unfold Wt
        rw [if_neg (by rw [q']; decide)]; exact a
      · show (if (i : Int) + 1 < ((98 : Nat) : Int) then shC ((i : Int) + 1) else (99, 0)).1 = 14
        rw [if_pos (by omega)]; exact c
    · rw [if_neg t] at q'
      exact absurd q' (by decide)), (fun r q => by
    have q' : (if r < ((98 : Nat) : Int) then shC r else (99, 0)).1 = 0 := q
    by_cases t : r < ((98 : Nat) : Int)
    · rw [if_pos t] at q'
      obtain ⟨i, rfl, hi⟩ := shC_in (o := r) (by rw [q']; decide)
      have hi2 : i < 98 := by omega
      have hh : ∀ i : Nat, i < 98 → (shC i).1 = 0 → wrC i 1 = i + 2 ∧ i + 2 < 98 ∧ (shC (i + 2)).1 = 14 := by decide +kernel
      obtain ⟨a, b, c⟩ := hh i hi2 q'
      refine ⟨?_, ?_⟩
      · show Wt W0 i 1 = i + 2
        unfold Wt
        rw [if_neg (by rw [q']; decide)]; exact a
      · show (if (i : Int) + 2 < ((98 : Nat) : Int) then shC ((i : Int) + 2) else (99, 0)).1 = 14
        rw [if_pos (by omega)]; exact c
    · rw [if_neg t] at q'
      exact absurd q' (by decide)), (fun r q => by
    have q' : (if r < ((98 : Nat) : Int) then shC r else (99, 0)).1 = 0 := q
    by_cases t : r < ((98 : Nat) : Int)
    · rw [if_pos t] at q'
      obtain ⟨i, rfl, hi⟩ := shC_in (o := r) (by rw [q']; decide)
      have hi2 : i < 98 := by omega
      have hh : ∀ i : Nat, i < 98 → (shC i).1 = 0 → wrC i 2 = i + 3 ∧ i + 3 < 98 ∧ (shC (i + 3)).1 = 14 := by decide +kernel
      obtain ⟨a, b, c⟩ := hh i hi2 q'
      refine ⟨?_, ?_⟩
      · show Wt W0 i 2 = i + 3
        unfold Wt
        rw [if_neg (by rw [q']; decide)]; exact a
      · show (if (i : Int) + 3 < ((98 : Nat) : Int) then shC ((i : Int) + 3) else (99, 0)).1 = 14
        rw [if_pos (by omega)]; exact c
    · rw [if_neg t] at q'
      exact absurd q' (by decide)), (fun r q => by
    have q' : (if r < ((98 : Nat) : Int) then shC r else (99, 0)).1 = 2 := q
    by_cases t : r < ((98 : Nat) : Int)
    · rw [if_pos t] at q'
      obtain ⟨i, rfl, hi⟩ := shC_in (o := r) (by rw [q']; decide)
      have hi2 : i < 98 := by omega
      have hh : ∀ i : Nat, i < 98 → (shC i).1 = 2 → wrC i 0 = i + 1 ∧ i + 1 < 98 ∧ (shC (i + 1)).1 = 14 := by decide +kernel
      obtain ⟨a, b, c⟩ := hh i hi2 q'
      refine ⟨?_, ?_⟩
      · show Wt W0 i 0 = i + 1
        unfold Wt
        rw [if_neg (by rw [q']; decide)]; exact a
      · show (if (i : Int) + 1 < ((98 : Nat) : Int) then shC ((i : Int) + 1) else (99, 0)).1 = 14
        rw [if_pos (by omega)]; exact c
    · rw [if_neg t] at q'
      exact absurd q' (by decide)), (fun r q => by
    have q' : (if r < ((98 : Nat) : Int) then shC r else (99, 0)).1 = 2 := q
    by_cases t : r < ((98 : Nat) : Int)
    · rw [if_pos t] at q'
      obtain ⟨i, rfl, hi⟩ := shC_in (o := r) (by rw [q']; decide)
      have hi2 : i < 98 := by omega
      have hh : ∀ i : Nat, i < 98 → (shC i).1 = 2 → wrC i 1 = i + 2 ∧ i + 2 < 98 ∧ (shC (i + 2)).1 = 14 := by decide +kernel
      obtain ⟨a, b, c⟩ := hh i hi2 q'
      refine ⟨?_, ?_⟩
      · show Wt W0 i 1 = i + 2
        unfold Wt
        rw [if_neg (by rw [q']; decide)]; exact a
      · show (if (i : Int) + 2 < ((98 : Nat) : Int) then shC ((i : Int) + 2) else (99, 0)).1 = 14
        rw [if_pos (by omega)]; exact c
    · rw [if_neg t] at q'
      exact absurd q' (by decide)), (fun r q => by
    have q' : (if r < ((98 : Nat) : Int) then shC r else (99, 0)).1 = 2 := q
    by_cases t : r < ((98 : Nat) : Int)
    · rw [if_pos t] at q'
      obtain ⟨i, rfl, hi⟩ := shC_in (o := r) (by rw [q']; decide)
      have hi2 : i < 98 := by omega
      have hh : ∀ i : Nat, i < 98 → (shC i).1 = 2 → wrC i 2 = i + 3 ∧ i + 3 < 98 ∧ (shC (i + 3)).1 = 15 := by decide +kernel
      obtain ⟨a, b, c⟩ := hh i hi2 q'
      refine ⟨?_, ?_⟩
      · show Wt W0 i 2 = i + 3
        unfold Wt
        rw [if_neg (by rw [q']; decide)]; exact a
      · show (if (i : Int) + 3 < ((98 : Nat) : Int) then shC ((i : Int) + 3) else (99, 0)).1 = 15
        rw [if_pos (by omega)]; exact c
    · rw [if_neg t] at q'
      exact absurd q' (by decide)), (fun r q => by
    have q' : (if r < ((98 : Nat) : Int) then shC r else (99, 0)).1 = 2 := q
    by_cases t : r < ((98 : Nat) : Int)
    · rw [if_pos t] at q'
      obtain ⟨i, rfl, hi⟩ := shC_in (o := r) (by rw [q']; decide)
      have hi2 : i < 98 := by omega
      have hh : ∀ i : Nat, i < 98 → (shC i).1 = 2 → wrC i 3 = i + 4 ∧ i + 4 < 98 ∧ (shC (i + 4)).1 = 15 := by decide +kernel
      obtain ⟨a, b, c⟩ := hh i hi2 q'
      refine ⟨?_, ?_⟩
      · show Wt W0 i 3 = i + 4
        unfold Wt
        rw [if_neg (by rw [q']; decide)]; exact a
      · show (if (i : Int) + 4 < ((98 : Nat) : Int) then shC ((i : Int) + 4) else (99, 0)).1 = 15
        rw [if_pos (by omega)]; exact c
    · rw [if_neg t] at q'
      exact absurd q' (by decide)), (fun r q => by
    have q' : (if r < ((98 : Nat) : Int) then shC r else (99, 0)).1 = 4 := q
    by_cases t : r < ((98 : Nat) : Int)
    · rw [if_pos t] at q'
      obtain ⟨i, rfl, hi⟩ := shC_in (o := r) (by rw [q']; decide)
      have hi2 : i < 98 := by omega
      have hh : ∀ i : Nat, i < 98 → (shC i).1 = 4 → wrC i 4 = i + 1 ∧ i + 1 < 98 ∧ (shC (i + 1)).1 = 6 := by decide +kernel
      obtain ⟨a, b, c⟩ := hh i hi2 q'
      refine ⟨?_, ?_⟩
      · show Wt W0 i 4 = i + 1
        unfold Wt
        rw [if_neg (by rw [q']; decide)]; exact a
      · show (if (i : Int) + 1 < ((98 : Nat) : Int) then shC ((i : Int) + 1) else (99, 0)).1 = 6
        rw [if_pos (by omega)]; exact c
    · rw [if_neg t] at q'
      exact absurd q' (by decide)), (fun r q => by
    have q' : (if r < ((98 : Nat) : Int) then shC r else (99, 0)).1 = 4 := q
    by_cases t : r < ((98 : Nat) : Int)
    · rw [if_pos t] at q'
      obtain ⟨i, rfl, hi⟩ := shC_in (o := r) (by rw [q']; decide)
      have hi2 : i < 98 := by omega
      have hh : ∀ i : Nat, i < 98 → (shC i).1 = 4 → wrC i 5 = i + 3 ∧ i + 3 < 98 ∧ (shC (i + 3)).1 = 17 := by decide +kernel
      obtain ⟨a, b, c⟩ := hh i hi2 q'
      refine ⟨?_, ?_⟩
      · show Wt W0 i 5 = i + 3
        unfold Wt
        rw [if_neg (by rw [q']; decide)]; exact a
      · show (if (i : Int) + 3 < ((98 : Nat) : Int) then shC ((i : Int) + 3) else (99, 0)).1 = 17
        rw [if_pos (by omega)]; exact c
    · rw [if_neg t] at q'
      exact absurd q' (by decide)), (fun r q => by
    have q' : (if r < ((98 : Nat) : Int) then shC r else (99, 0)).1 = 4 := q
    by_cases t : r < ((98 : Nat) : Int)
    · rw [if_pos t] at q'
      obtain ⟨i, rfl, hi⟩ := shC_in (o := r) (by rw [q']; decide)
      have hi2 : i < 98 := by omega
      have hh : ∀ i : Nat, i < 98 → (shC i).1 = 4 → wrC i 6 = i + 10 ∧ i + 10 < 98 ∧ (shC (i + 10)).1 = 6 := by decide +kernel
      obtain ⟨a, b, c⟩ := hh i hi2 q'
      refine ⟨?_, ?_⟩
      · show Wt W0 i 6 = i + 10
        unfold Wt
        rw [if_neg (by rw [q']; decide)]; exact a
      · show (if (i : Int) + 10 < ((98 : Nat) : Int) then shC ((i : Int) + 10) else (99, 0)).1 = 6
        rw [if_pos (by omega)]; exact c
    · rw [if_neg t] at q'
      exact absurd q' (by decide)), (fun r q => by
    have q' : (if r < ((98 : Nat) : Int) then shC r else (99, 0)).1 = 4 := q
    by_cases t : r < ((98 : Nat) : Int)
    · rw [if_pos t] at q'
      obtain ⟨i, rfl, hi⟩ := shC_in (o := r) (by rw [q']; decide)
      have hi2 : i < 98 := by omega
      have hh : ∀ i : Nat, i < 98 → (shC i).1 = 4 → wrC i 7 = i + 12 ∧ i + 12 < 98 ∧ (shC (i + 12)).1 = 6 := by decide +kernel
      obtain ⟨a, b, c⟩ := hh i hi2 q'
      refine ⟨?_, ?_⟩
      · show Wt W0 i 7 = i + 12
        unfold Wt
        rw [if_neg (by rw [q']; decide)]; exact a
      · show (if (i : Int) + 12 < ((98 : Nat) : Int) then shC ((i : Int) + 12) else (99, 0)).1 = 6
        rw [if_pos (by omega)]; exact c
    · rw [if_neg t] at q'
      exact absurd q' (by decide)), (fun r q => by
    have q' : (if r < ((98 : Nat) : Int) then shC r else (99, 0)).1 = 4 := q
    by_cases t : r < ((98 : Nat) : Int)
    · rw [if_pos t] at q'
      obtain ⟨i, rfl, hi⟩ := shC_in (o := r) (by rw [q']; decide)
      have hi2 : i < 98 := by omega
      have hh : ∀ i : Nat, i < 98 → (shC i).1 = 4 → wrC i 8 = i + 14 ∧ i + 14 < 98 ∧ (shC (i + 14)).1 = 17 := by decide +kernel
      obtain ⟨a, b, c⟩ := hh i hi2 q'
      refine ⟨?_, ?_⟩
      · show Wt W0 i 8 = i + 14
        unfold Wt
        rw [if_neg (by rw [q']; decide)]; exact a
      · show (if (i : Int) + 14 < ((98 : Nat) : Int) then shC ((i : Int) + 14) else (99, 0)).1 = 17
        rw [if_pos (by omega)]; exact c
    · rw [if_neg t] at q'
      exact absurd q' (by decide)), (fun r q => by
    have q' : (if r < ((98 : Nat) : Int) then shC r else (99, 0)).1 = 4 := q
    by_cases t : r < ((98 : Nat) : Int)
    · rw [if_pos t] at q'
      obtain ⟨i, rfl, hi⟩ := shC_in (o := r) (by rw [q']; decide)
      have hi2 : i < 98 := by omega
      have hh : ∀ i : Nat, i < 98 → (shC i).1 = 4 → wrC i 9 = i + 23 ∧ i + 23 < 98 ∧ (shC (i + 23)).1 = 6 := by decide +kernel
      obtain ⟨a, b, c⟩ := hh i hi2 q'
      refine ⟨?_, ?_⟩
      · show Wt W0 i 9 = i + 23
        unfold Wt
        rw [if_neg (by rw [q']; decide)]; exact a
      · show (if (i : Int) + 23 < ((98 : Nat) : Int) then shC ((i : Int) + 23) else (99, 0)).1 = 6
        rw [if_pos (by omega)]; exact c
    · rw [if_neg t] at q'
      exact absurd q' (by decide)), (fun r q => by
    have q' : (if r < ((98 : Nat) : Int) then shC r else (99, 0)).1 = 4 := q
    by_cases t : r < ((98 : Nat) : Int)
    · rw [if_pos t] at q'
      obtain ⟨i, rfl, hi⟩ := shC_in (o := r) (by rw [q']; decide)
      have hi2 : i < 98 := by omega
      have hh : ∀ i : Nat, i < 98 → (shC i).1 = 4 → wrC i 10 = i + 25 ∧ i + 25 < 98 ∧ (shC (i + 25)).1 = 6 := by decide +kernel
      obtain ⟨a, b, c⟩ := hh i hi2 q'
      refine ⟨?_, ?_⟩
      · show Wt W0 i 10 = i + 25
        unfold Wt
        rw [if_neg (by rw [q']; decide)]; exact a
      · show (if (i : Int) + 25 < ((98 : Nat) : Int) then shC ((i : Int) + 25) else (99, 0)).1 = 6
        rw [if_pos (by omega)]; exact c
    · rw [if_neg t] at q'
      exact absurd q' (by decide)), (fun r q => by
    have q' : (if r < ((98 : Nat) : Int) then shC r else (99, 0)).1 = 4 := q
    by_cases t : r < ((98 : Nat) : Int)
    · rw [if_pos t] at q'
      obtain ⟨i, rfl, hi⟩ := shC_in (o := r) (by rw [q']; decide)
      have hi2 : i < 98 := by omega
      have hh : ∀ i : Nat, i < 98 → (shC i).1 = 4 → wrC i 11 = i + 27 ∧ i + 27 < 98 ∧ (shC (i + 27)).1 = 6 := by decide +kernel
      obtain ⟨a, b, c⟩ := hh i hi2 q'
      refine ⟨?_, ?_⟩
      · show Wt W0 i 11 = i + 27
        unfold Wt
        rw [if_neg (by rw [q']; decide)]; exact a
      · show (if (i : Int) + 27 < ((98 : Nat) : Int) then shC ((i : Int) + 27) else (99, 0)).1 = 6
        rw [if_pos (by omega)]; exact c
    · rw [if_neg t] at q'
      exact absurd q' (by decide)), (fun r q => by
    have q' : (if r < ((98 : Nat) : Int) then shC r else (99, 0)).1 = 4 := q
    by_cases t : r < ((98 : Nat) : Int)
    · rw [if_pos t] at q'
      obtain ⟨i, rfl, hi⟩ := shC_in (o := r) (by rw [q']; decide)
      have hi2 : i < 98 := by omega
      have hh : ∀ i : Nat, i < 98 → (shC i).1 = 4 → wrC i 12 = i + 29 ∧ i + 29 < 98 ∧ (shC (i + 29)).1 = 6 := by decide +kernel
      obtain ⟨a, b, c⟩ := hh i hi2 q'
      refine ⟨?_, ?_⟩
      · show Wt W0 i 12 = i + 29
        unfold Wt
        rw [if_neg (by rw [q']; decide)]; exact a
      · show (if (i : Int) + 29 < ((98 : Nat) : Int) then shC ((i : Int) + 29) else (99, 0)).1 = 6
        rw [if_pos (by omega)]; exact c
    · rw [if_neg t] at q'
      exact absurd q' (by decide)), (fun r q => by
    have q' : (if r < ((98 : Nat) : Int) then shC r else (99, 0)).1 = 4 := q
    by_cases t : r < ((98 : Nat) : Int)
    · rw [if_pos t] at q'
      obtain ⟨i, rfl, hi⟩ := shC_in (o := r) (by rw [q']; decide)
      have hi2 : i < 98 := by omega
      have hh : ∀ i : Nat, i < 98 → (shC i).1 = 4 → wrC i 13 = i + 31 ∧ i + 31 < 98 ∧ (shC (i + 31)).1 = 6 := by decide +kernel
      obtain ⟨a, b, c⟩ := hh i hi2 q'
      refine ⟨?_, ?_⟩
      · show Wt W0 i 13 = i + 31
        unfold Wt
        rw [if_neg (by rw [q']; decide)]; exact a
      · show (if (i : Int) + 31 < ((98 : Nat) : Int) then shC ((i : Int) + 31) else (99, 0)).1 = 6
        rw [if_pos (by omega)]; exact c
    · rw [if_neg t] at q'
      exact absurd q' (by decide)), (fun r q => by
    have q' : (if r < ((98 : Nat) : Int) then shC r else (99, 0)).1 = 4 := q
    by_cases t : r < ((98 : Nat) : Int)
    · rw [if_pos t] at q'
      obtain ⟨i, rfl, hi⟩ := shC_in (o := r) (by rw [q']; decide)
      have hi2 : i < 98 := by omega
      have hh : ∀ i : Nat, i < 98 → (shC i).1 = 4 → wrC i 14 = i + 33 ∧ i + 33 < 98 ∧ (shC (i + 33)).1 = 0 := by decide +kernel
      obtain ⟨a, b, c⟩ := hh i hi2 q'
      refine ⟨?_, ?_⟩
      · show Wt W0 i 14 = i + 33
        unfold Wt
        rw [if_neg (by rw [q']; decide)]; exact a
      · show (if (i : Int) + 33 < ((98 : Nat) : Int) then shC ((i : Int) + 33) else (99, 0)).1 = 0
        rw [if_pos (by omega)]; exact c
    · rw [if_neg t] at q'
      exact absurd q' (by decide)), (fun r q => by
    have q' : (if r < ((98 : Nat) : Int) then shC r else (99, 0)).1 = 4 := q
    by_cases t : r < ((98 : Nat) : Int)
    · rw [if_pos t] at q'
      obtain ⟨i, rfl, hi⟩ := shC_in (o := r) (by rw [q']; decide)
      have hi2 : i < 98 := by omega
      have hh : ∀ i : Nat, i < 98 → (shC i).1 = 4 → wrC i 15 = i + 37 ∧ i + 37 < 98 ∧ (shC (i + 37)).1 = 2 := by decide +kernel
      obtain ⟨a, b, c⟩ := hh i hi2 q'
      refine ⟨?_, ?_⟩
      · show Wt W0 i 15 = i + 37
        unfold Wt
        rw [if_neg (by rw [q']; decide)]; exact a
      · show (if (i : Int) + 37 < ((98 : Nat) : Int) then shC ((i : Int) + 37) else (99, 0)).1 = 2
        rw [if_pos (by omega)]; exact c
    · rw [if_neg t] at q'
      exact absurd q' (by decide)), (fun r q => by
    have q' : (if r < ((98 : Nat) : Int) then shC r else (99, 0)).1 = 4 := q
    by_cases t : r < ((98 : Nat) : Int)
    · rw [if_pos t] at q'
      obtain ⟨i, rfl, hi⟩ := shC_in (o := r) (by rw [q']; decide)
      have hi2 : i < 98 := by omega
      have hh : ∀ i : Nat, i < 98 → (shC i).1 = 4 → wrC i 16 = i + 42 ∧ i + 42 < 98 ∧ (shC (i + 42)).1 = 6 := by decide +kernel
      obtain ⟨a, b, c⟩ := hh i hi2 q'
      refine ⟨?_, ?_⟩
      · show Wt W0 i 16 = i + 42
        unfold Wt
        rw [if_neg (by rw [q']; decide)]; exact a
      · show (if (i : Int) + 42 < ((98 : Nat) : Int) then shC ((i : Int) + 42) else (99, 0)).1 = 6
        rw [if_pos (by omega)]; exact c
    · rw [if_neg t] at q'
      exact absurd q' (by decide)), (fun r q => by
    have q' : (if r < ((98 : Nat) : Int) then shC r else (99, 0)).1 = 6 := q
    by_cases t : r < ((98 : Nat) : Int)
    · rw [if_pos t] at q'
      obtain ⟨i, rfl, hi⟩ := shC_in (o := r) (by rw [q']; decide)
      have hi2 : i < 98 := by omega
      have hh : ∀ i : Nat, i < 98 → (shC i).1 = 6 → wrC i 0 = i + 1 ∧ i + 1 < 98 ∧ (shC (i + 1)).1 = 14 := by decide +kernel
      obtain ⟨a, b, c⟩ := hh i hi2 q'
      refine ⟨?_, ?_⟩
      · show Wt W0 i 0 = i + 1
        unfold Wt
        rw [if_neg (by rw [q']; decide)]; exact a
      · show (if (i : Int) + 1 < ((98 : Nat) : Int) then shC ((i : Int) + 1) else (99, 0)).1 = 14
        rw [if_pos (by omega)]; exact c
    · rw [if_neg t] at q'
      exact absurd q' (by decide)), (fun a i q h0 h1 => by
    have q' : (if a < ((98 : Nat) : Int) then shC a else (99, 0)).1 = 17 := q
    have h1' : i < ((if a < ((98 : Nat) : Int) then shC a else (99, 0)).2 : Int) := h1
    by_cases t : a < ((98 : Nat) : Int)
    · rw [if_pos t] at q' h1'
      obtain ⟨j, rfl, hj⟩ := shC_in (o := a) (by rw [q']; decide)
      have hj2 : j < 98 := by omega
      obtain ⟨k, rfl⟩ := Int.eq_ofNat_of_zero_le h0
      have h1 : k < (shC j).2 := by omega
      have hh : ∀ j : Nat, j < 98 → (shC j).1 = 17 → ∀ k : Nat, k < (shC j).2 → wrC j k = j + 1 + 2 * k ∧ j + 1 + 2 * k < 98 ∧ (shC (j + 1 + 2 * k)).1 = 6 := by decide +kernel
      obtain ⟨a1, b1, c1⟩ := hh j hj2 q' k h1
      refine ⟨?_, ?_⟩
      · show Wt W0 j k = j + 1 + 2 * k
        unfold Wt
        rw [if_neg (by rw [q']; decide)]; exact a1
      · show (if (j : Int) + 1 + 2 * k < ((98 : Nat) : Int) then shC ((j : Int) + 1 + 2 * k) else (99, 0)).1 = 6
        rw [if_pos (by omega)]; exact c1
    · rw [if_neg t] at q'
      exact absurd q' (by decide))⟩
theorem hdW_X5_clear : yX5_clear.cls = RX5 ∧ yX5_clear.cls ≠ "java/lang/invoke/MethodHandle" ∧ yX5_clear.cls ≠ "java/lang/invoke/VarHandle" ∧ (parseMethodDescriptor yX5_clear.desc).map (fun d => d.parameters.length) = some 0 := by decide +kernel
set_option maxRecDepth 20000 in
theorem ct_Pond_2 {l : Launch} {z : Mz} {h : Mh} (F : Fr shC 3 h) (HW : aWdX 2 h) : aCal shC l yX5_init cX5_init 1 2 42 43 335 z 3 46 [(2, ((2 : Nat) : Int))] h (KPd 2 h) := by
  obtain ⟨L, eL⟩ : ∃ L : List (Int × Int × Int), L = [(((3 : Nat) : Int), ((0 : Nat) : Int), ((4 : Nat) : Int)), (((2 : Nat) : Int), ((4 : Nat) : Int), ((3 : Nat) : Int)), (((6 : Nat) : Int), ((0 : Nat) : Int), ((7 : Nat) : Int)), (((5 : Nat) : Int), 0, ((6 : Nat) : Int)), (((8 : Nat) : Int), ((0 : Nat) : Int), ((9 : Nat) : Int)), (((5 : Nat) : Int), 1, ((8 : Nat) : Int)), (((10 : Nat) : Int), ((0 : Nat) : Int), ((11 : Nat) : Int)), (((5 : Nat) : Int), 2, ((10 : Nat) : Int)), (((2 : Nat) : Int), ((5 : Nat) : Int), ((5 : Nat) : Int)), (((12 : Nat) : Int), ((0 : Nat) : Int), ((13 : Nat) : Int)), (((2 : Nat) : Int), ((6 : Nat) : Int), ((12 : Nat) : Int)), (((14 : Nat) : Int), ((0 : Nat) : Int), ((15 : Nat) : Int)), (((2 : Nat) : Int), ((7 : Nat) : Int), ((14 : Nat) : Int)), (((17 : Nat) : Int), ((0 : Nat) : Int), ((18 : Nat) : Int)), (((16 : Nat) : Int), 0, ((17 : Nat) : Int)), (((19 : Nat) : Int), ((0 : Nat) : Int), ((20 : Nat) : Int)), (((16 : Nat) : Int), 1, ((19 : Nat) : Int)), (((21 : Nat) : Int), ((0 : Nat) : Int), ((22 : Nat) : Int)), (((16 : Nat) : Int), 2, ((21 : Nat) : Int)), (((23 : Nat) : Int), ((0 : Nat) : Int), ((24 : Nat) : Int)), (((16 : Nat) : Int), 3, ((23 : Nat) : Int)), (((2 : Nat) : Int), ((8 : Nat) : Int), ((16 : Nat) : Int)), (((25 : Nat) : Int), ((0 : Nat) : Int), ((26 : Nat) : Int)), (((2 : Nat) : Int), ((9 : Nat) : Int), ((25 : Nat) : Int)), (((27 : Nat) : Int), ((0 : Nat) : Int), ((28 : Nat) : Int)), (((2 : Nat) : Int), ((10 : Nat) : Int), ((27 : Nat) : Int)), (((29 : Nat) : Int), ((0 : Nat) : Int), ((30 : Nat) : Int)), (((2 : Nat) : Int), ((11 : Nat) : Int), ((29 : Nat) : Int)), (((31 : Nat) : Int), ((0 : Nat) : Int), ((32 : Nat) : Int)), (((2 : Nat) : Int), ((12 : Nat) : Int), ((31 : Nat) : Int)), (((33 : Nat) : Int), ((0 : Nat) : Int), ((34 : Nat) : Int)), (((2 : Nat) : Int), ((13 : Nat) : Int), ((33 : Nat) : Int)), (((35 : Nat) : Int), ((0 : Nat) : Int), ((36 : Nat) : Int)), (((35 : Nat) : Int), ((1 : Nat) : Int), ((37 : Nat) : Int)), (((35 : Nat) : Int), ((2 : Nat) : Int), ((38 : Nat) : Int)), (((2 : Nat) : Int), ((14 : Nat) : Int), ((35 : Nat) : Int)), (((39 : Nat) : Int), ((0 : Nat) : Int), ((40 : Nat) : Int)), (((39 : Nat) : Int), ((1 : Nat) : Int), ((41 : Nat) : Int)), (((39 : Nat) : Int), ((2 : Nat) : Int), ((42 : Nat) : Int)), (((39 : Nat) : Int), ((3 : Nat) : Int), ((43 : Nat) : Int)), (((2 : Nat) : Int), ((15 : Nat) : Int), ((39 : Nat) : Int)), (((44 : Nat) : Int), ((0 : Nat) : Int), ((45 : Nat) : Int)), (((2 : Nat) : Int), ((16 : Nat) : Int), ((44 : Nat) : Int))] := ⟨_, rfl⟩
  have wL : ∀ i : Nat, i < 46 → 2 ≤ i → ∀ j : Nat, j < alen (shC i) → mfin (shC i).1 j = true → look L i j none = some (wrC i j) := by rw [eL]; decide +kernel
  have bL : (L.all fun q => decide (((2 : Nat) : Int) ≤ q.1)) = true := by rw [eL]; decide +kernel
  have tL : (L.all fun q => decide (q.1 < ((46 : Nat) : Int))) = true := by rw [eL]; decide +kernel
  have rI : ∀ i : Nat, i < 46 → 2 ≤ i → ∀ j : Nat, j < alen (shC i) → mtag (aty (shC i) j) = 2 → mfin (shC i).1 j = true ∧ wrC i j < ((46 : Nat) : Int) := by decide +kernel
  have nk : ∀ i : Nat, i < 46 → 2 ≤ i → (shC i).1 ≠ 11 ∧ (shC i).1 ≠ 10 := by decide +kernel
  have k17 : ∀ i : Nat, i < 46 → 2 ≤ i → (shC i).1 = 17 → i = 5 ∨ i = 16 := by decide +kernel
  refine a_entry RX5 rfl rfl (by decide) rfl (fun p e s m args below meth c C hr => ?_)
  have Z := zle.refl z 3
  have HF : ∀ i : Nat, 3 ≤ i → i < 3 → s.heap.size ≤ z.2.2.1 i := fun i a b => by omega
  show aG shC z 3 p l e _ s m args below meth c _ _ 0 0 0 [(0, (2, ((2 : Nat) : Int)))] [] h
  refine a_aload_n C dX5_init_0 rfl (by decide) rfl ?_
  refine a_objInit C (by decide) k_171 k_164 k_165 rfl rfl rfl dX5_init_1 ?_
  refine a_aload_n C dX5_init_4 rfl (by decide) rfl ?_
  refine a_new C 6 rfl (by decide) rfl iX7 tyX7 tyX7_ok rfl (by decide) k_172 k_173 k_136 rfl F.at rfl rfl dX5_init_5 (fun z1 hz hf C => ?_)
  replace HF := hf_trans HF hz hf
  replace Z := Z.trans hz (by decide)
  replace F := F.le (n' := 4) (by decide)
  refine a_dup C (show ¬ (2 : Nat) = 1 by decide) dX5_init_8 ?_
  refine a_iconst C ⟨by decide, by decide⟩ dX5_init_9 ?_
  refine a_callI C (av := [(0, 3)]) (np := 1) (ct_Row (by decide) rfl rfl (by decide) F) k_174 k_175 k_136 k_176 rfl hdI_X7_init rfl rfl rfl rfl rfl dX5_init_10 rfl rfl (by decide) (fun z2 h1 hz hf C e1 => ?_)
  replace HF := hf_trans HF hz hf
  replace Z := Z.trans hz (by decide)
  replace F : Fr shC 5 h1 := by rw [e1]; exact Fr.ups (F.le (by decide)) (by decide)
  refine a_putE C 4 4 rfl (by decide) rfl iX5 (by decide) k_279 tyX5 tyX5_ok nmX5 rfl rfl (Or.inr (Or.inr (Or.inr (Or.inl ⟨_, rfl⟩)))) rfl dX5_init_13 (by decide) rfl trivial (fun h2 e2 => ?_)
  replace F : Fr shC 5 h2 := by rw [e2]; exact F.up (by decide)
  refine a_aload_n C dX5_init_16 rfl (by decide) rfl ?_
  refine a_iconst C ⟨by decide, by decide⟩ dX5_init_17 ?_
  refine a_newq C (N' := 3) k_172 rfl rfl (by decide) (F.q (N := 3) rfl) rfl rfl dX5_init_18 F.at (fun z3 hz hf C => ?_)
  replace HF := hf_trans HF hz hf
  replace Z := Z.trans hz (by decide)
  replace F := F.le (n' := 6) (by decide)
  refine a_dup C (show ¬ (2 : Nat) = 1 by decide) dX5_init_21 ?_
  refine a_iconst C ⟨by decide, by decide⟩ dX5_init_22 ?_
  refine a_new C 6 rfl (by decide) rfl iX7 tyX7 tyX7_ok rfl (by decide) k_172 k_173 k_136 rfl F.at rfl rfl dX5_init_23 (fun z4 hz hf C => ?_)
  replace HF := hf_trans HF hz hf
  replace Z := Z.trans hz (by decide)
  replace F := F.le (n' := 7) (by decide)
  refine a_dup C (show ¬ (2 : Nat) = 1 by decide) dX5_init_26 ?_
  refine a_iconst C ⟨by decide, by decide⟩ dX5_init_27 ?_
  refine a_callI C (av := [(0, 3)]) (np := 1) (ct_Row (by decide) rfl rfl (by decide) F) k_174 k_175 k_136 k_176 rfl hdI_X7_init rfl rfl rfl rfl rfl dX5_init_28 rfl rfl (by decide) (fun z5 h3 hz hf C e3 => ?_)
  replace HF := hf_trans HF hz hf
  replace Z := Z.trans hz (by decide)
  replace F : Fr shC 8 h3 := by rw [e3]; exact Fr.ups (F.le (by decide)) (by decide)
  refine a_aastoreE C (len := 3) dX5_init_31 (by decide) rfl (by decide) rfl (by decide) (by decide) (fun h4 e4 => ?_)
  replace F : Fr shC 8 h4 := by rw [e4]; exact F.up (by decide)
  refine a_dup C (show ¬ (2 : Nat) = 1 by decide) dX5_init_32 ?_
  refine a_iconst C ⟨by decide, by decide⟩ dX5_init_33 ?_
  refine a_new C 6 rfl (by decide) rfl iX7 tyX7 tyX7_ok rfl (by decide) k_172 k_173 k_136 rfl F.at rfl rfl dX5_init_34 (fun z6 hz hf C => ?_)
  replace HF := hf_trans HF hz hf
  replace Z := Z.trans hz (by decide)
  replace F := F.le (n' := 9) (by decide)
  refine a_dup C (show ¬ (2 : Nat) = 1 by decide) dX5_init_37 ?_
  refine a_iconst C ⟨by decide, by decide⟩ dX5_init_38 ?_
  refine a_callI C (av := [(0, 3)]) (np := 1) (ct_Row (by decide) rfl rfl (by decide) F) k_174 k_175 k_136 k_176 rfl hdI_X7_init rfl rfl rfl rfl rfl dX5_init_39 rfl rfl (by decide) (fun z7 h5 hz hf C e5 => ?_)
  replace HF := hf_trans HF hz hf
  replace Z := Z.trans hz (by decide)
  replace F : Fr shC 10 h5 := by rw [e5]; exact Fr.ups (F.le (by decide)) (by decide)
  refine a_aastoreE C (len := 3) dX5_init_42 (by decide) rfl (by decide) rfl (by decide) (by decide) (fun h6 e6 => ?_)
  replace F : Fr shC 10 h6 := by rw [e6]; exact F.up (by decide)
  refine a_dup C (show ¬ (2 : Nat) = 1 by decide) dX5_init_43 ?_
  refine a_iconst C ⟨by decide, by decide⟩ dX5_init_44 ?_
  refine a_new C 6 rfl (by decide) rfl iX7 tyX7 tyX7_ok rfl (by decide) k_172 k_173 k_136 rfl F.at rfl rfl dX5_init_45 (fun z8 hz hf C => ?_)
  replace HF := hf_trans HF hz hf
  replace Z := Z.trans hz (by decide)
  replace F := F.le (n' := 11) (by decide)
  refine a_dup C (show ¬ (2 : Nat) = 1 by decide) dX5_init_48 ?_
  refine a_iconst C ⟨by decide, by decide⟩ dX5_init_49 ?_
  refine a_callI C (av := [(0, 3)]) (np := 1) (ct_Row (by decide) rfl rfl (by decide) F) k_174 k_175 k_136 k_176 rfl hdI_X7_init rfl rfl rfl rfl rfl dX5_init_50 rfl rfl (by decide) (fun z9 h7 hz hf C e7 => ?_)
  replace HF := hf_trans HF hz hf
  replace Z := Z.trans hz (by decide)
  replace F : Fr shC 12 h7 := by rw [e7]; exact Fr.ups (F.le (by decide)) (by decide)
  refine a_aastoreE C (len := 3) dX5_init_53 (by decide) rfl (by decide) rfl (by decide) (by decide) (fun h8 e8 => ?_)
  replace F : Fr shC 12 h8 := by rw [e8]; exact F.up (by decide)
  refine a_putE C 4 5 rfl (by decide) rfl iX5 (by decide) k_284 tyX5 tyX5_ok nmX5 rfl rfl (Or.inr (Or.inr (Or.inr (Or.inr ⟨_, rfl⟩)))) rfl dX5_init_54 (by decide) rfl trivial (fun h9 e9 => ?_)
  replace F : Fr shC 12 h9 := by rw [e9]; exact F.up (by decide)
  refine a_aload_n C dX5_init_57 rfl (by decide) rfl ?_
  refine a_new C 6 rfl (by decide) rfl iX7 tyX7 tyX7_ok rfl (by decide) k_172 k_173 k_136 rfl F.at rfl rfl dX5_init_58 (fun z10 hz hf C => ?_)
  replace HF := hf_trans HF hz hf
  replace Z := Z.trans hz (by decide)
  replace F := F.le (n' := 13) (by decide)
  refine a_dup C (show ¬ (2 : Nat) = 1 by decide) dX5_init_61 ?_
  refine a_iconst C ⟨by decide, by decide⟩ dX5_init_62 ?_
  refine a_callI C (av := [(0, 3)]) (np := 1) (ct_Row (by decide) rfl rfl (by decide) F) k_174 k_175 k_136 k_176 rfl hdI_X7_init rfl rfl rfl rfl rfl dX5_init_63 rfl rfl (by decide) (fun z11 h10 hz hf C e10 => ?_)
  replace HF := hf_trans HF hz hf
  replace Z := Z.trans hz (by decide)
  replace F : Fr shC 14 h10 := by rw [e10]; exact Fr.ups (F.le (by decide)) (by decide)
  refine a_putE C 4 6 rfl (by decide) rfl iX5 (by decide) k_285 tyX5 tyX5_ok nmX5 rfl rfl (Or.inr (Or.inr (Or.inr (Or.inl ⟨_, rfl⟩)))) rfl dX5_init_66 (by decide) rfl trivial (fun h11 e11 => ?_)
  replace F : Fr shC 14 h11 := by rw [e11]; exact F.up (by decide)
  refine a_aload_n C dX5_init_69 rfl (by decide) rfl ?_
  refine a_new C 6 rfl (by decide) rfl iX7 tyX7 tyX7_ok rfl (by decide) k_172 k_173 k_136 rfl F.at rfl rfl dX5_init_70 (fun z12 hz hf C => ?_)
  replace HF := hf_trans HF hz hf
  replace Z := Z.trans hz (by decide)
  replace F := F.le (n' := 15) (by decide)
  refine a_dup C (show ¬ (2 : Nat) = 1 by decide) dX5_init_73 ?_
  refine a_iconst C ⟨by decide, by decide⟩ dX5_init_74 ?_
  refine a_callI C (av := [(0, 4)]) (np := 1) (ct_Row (by decide) rfl rfl (by decide) F) k_174 k_175 k_136 k_176 rfl hdI_X7_init rfl rfl rfl rfl rfl dX5_init_75 rfl rfl (by decide) (fun z13 h12 hz hf C e12 => ?_)
  replace HF := hf_trans HF hz hf
  replace Z := Z.trans hz (by decide)
  replace F : Fr shC 16 h12 := by rw [e12]; exact Fr.ups (F.le (by decide)) (by decide)
  refine a_putE C 4 7 rfl (by decide) rfl iX5 (by decide) k_289 tyX5 tyX5_ok nmX5 rfl rfl (Or.inr (Or.inr (Or.inr (Or.inl ⟨_, rfl⟩)))) rfl dX5_init_78 (by decide) rfl trivial (fun h13 e13 => ?_)
  replace F : Fr shC 16 h13 := by rw [e13]; exact F.up (by decide)
  refine a_aload_n C dX5_init_81 rfl (by decide) rfl ?_
  refine a_iconst C ⟨by decide, by decide⟩ dX5_init_82 ?_
  refine a_newq C (N' := 4) k_172 rfl rfl (by decide) (F.q (N := 4) rfl) rfl rfl dX5_init_83 F.at (fun z14 hz hf C => ?_)
  replace HF := hf_trans HF hz hf
  replace Z := Z.trans hz (by decide)
  replace F := F.le (n' := 17) (by decide)
  refine a_dup C (show ¬ (2 : Nat) = 1 by decide) dX5_init_86 ?_
  refine a_iconst C ⟨by decide, by decide⟩ dX5_init_87 ?_
  refine a_new C 6 rfl (by decide) rfl iX7 tyX7 tyX7_ok rfl (by decide) k_172 k_173 k_136 rfl F.at rfl rfl dX5_init_88 (fun z15 hz hf C => ?_)
  replace HF := hf_trans HF hz hf
  replace Z := Z.trans hz (by decide)
  replace F := F.le (n' := 18) (by decide)
  refine a_dup C (show ¬ (2 : Nat) = 1 by decide) dX5_init_91 ?_
  refine a_bipush C ⟨by decide, by decide⟩ (by decide) dX5_init_92 ?_
  refine a_callI C (av := [(0, 6)]) (np := 1) (ct_Row (by decide) rfl rfl (by decide) F) k_174 k_175 k_136 k_176 rfl hdI_X7_init rfl rfl rfl rfl rfl dX5_init_94 rfl rfl (by decide) (fun z16 h14 hz hf C e14 => ?_)
  replace HF := hf_trans HF hz hf
  replace Z := Z.trans hz (by decide)
  replace F : Fr shC 19 h14 := by rw [e14]; exact Fr.ups (F.le (by decide)) (by decide)
  refine a_aastoreE C (len := 4) dX5_init_97 (by decide) rfl (by decide) rfl (by decide) (by decide) (fun h15 e15 => ?_)
  replace F : Fr shC 19 h15 := by rw [e15]; exact F.up (by decide)
  refine a_dup C (show ¬ (2 : Nat) = 1 by decide) dX5_init_98 ?_
  refine a_iconst C ⟨by decide, by decide⟩ dX5_init_99 ?_
  refine a_new C 6 rfl (by decide) rfl iX7 tyX7 tyX7_ok rfl (by decide) k_172 k_173 k_136 rfl F.at rfl rfl dX5_init_100 (fun z17 hz hf C => ?_)
  replace HF := hf_trans HF hz hf
  replace Z := Z.trans hz (by decide)
  replace F := F.le (n' := 20) (by decide)
  refine a_dup C (show ¬ (2 : Nat) = 1 by decide) dX5_init_103 ?_
  refine a_bipush C ⟨by decide, by decide⟩ (by decide) dX5_init_104 ?_
  refine a_callI C (av := [(0, 6)]) (np := 1) (ct_Row (by decide) rfl rfl (by decide) F) k_174 k_175 k_136 k_176 rfl hdI_X7_init rfl rfl rfl rfl rfl dX5_init_106 rfl rfl (by decide) (fun z18 h16 hz hf C e16 => ?_)
  replace HF := hf_trans HF hz hf
  replace Z := Z.trans hz (by decide)
  replace F : Fr shC 21 h16 := by rw [e16]; exact Fr.ups (F.le (by decide)) (by decide)
  refine a_aastoreE C (len := 4) dX5_init_109 (by decide) rfl (by decide) rfl (by decide) (by decide) (fun h17 e17 => ?_)
  replace F : Fr shC 21 h17 := by rw [e17]; exact F.up (by decide)
  refine a_dup C (show ¬ (2 : Nat) = 1 by decide) dX5_init_110 ?_
  refine a_iconst C ⟨by decide, by decide⟩ dX5_init_111 ?_
  refine a_new C 6 rfl (by decide) rfl iX7 tyX7 tyX7_ok rfl (by decide) k_172 k_173 k_136 rfl F.at rfl rfl dX5_init_112 (fun z19 hz hf C => ?_)
  replace HF := hf_trans HF hz hf
  replace Z := Z.trans hz (by decide)
  replace F := F.le (n' := 22) (by decide)
  refine a_dup C (show ¬ (2 : Nat) = 1 by decide) dX5_init_115 ?_
  refine a_bipush C ⟨by decide, by decide⟩ (by decide) dX5_init_116 ?_
  refine a_callI C (av := [(0, 6)]) (np := 1) (ct_Row (by decide) rfl rfl (by decide) F) k_174 k_175 k_136 k_176 rfl hdI_X7_init rfl rfl rfl rfl rfl dX5_init_118 rfl rfl (by decide) (fun z20 h18 hz hf C e18 => ?_)
  replace HF := hf_trans HF hz hf
  replace Z := Z.trans hz (by decide)
  replace F : Fr shC 23 h18 := by rw [e18]; exact Fr.ups (F.le (by decide)) (by decide)
  refine a_aastoreE C (len := 4) dX5_init_121 (by decide) rfl (by decide) rfl (by decide) (by decide) (fun h19 e19 => ?_)
  replace F : Fr shC 23 h19 := by rw [e19]; exact F.up (by decide)
  refine a_dup C (show ¬ (2 : Nat) = 1 by decide) dX5_init_122 ?_
  refine a_iconst C ⟨by decide, by decide⟩ dX5_init_123 ?_
  refine a_new C 6 rfl (by decide) rfl iX7 tyX7 tyX7_ok rfl (by decide) k_172 k_173 k_136 rfl F.at rfl rfl dX5_init_124 (fun z21 hz hf C => ?_)
  replace HF := hf_trans HF hz hf
  replace Z := Z.trans hz (by decide)
  replace F := F.le (n' := 24) (by decide)
  refine a_dup C (show ¬ (2 : Nat) = 1 by decide) dX5_init_127 ?_
  refine a_bipush C ⟨by decide, by decide⟩ (by decide) dX5_init_128 ?_
  refine a_callI C (av := [(0, 6)]) (np := 1) (ct_Row (by decide) rfl rfl (by decide) F) k_174 k_175 k_136 k_176 rfl hdI_X7_init rfl rfl rfl rfl rfl dX5_init_130 rfl rfl (by decide) (fun z22 h20 hz hf C e20 => ?_)
  replace HF := hf_trans HF hz hf
  replace Z := Z.trans hz (by decide)
  replace F : Fr shC 25 h20 := by rw [e20]; exact Fr.ups (F.le (by decide)) (by decide)
  refine a_aastoreE C (len := 4) dX5_init_133 (by decide) rfl (by decide) rfl (by decide) (by decide) (fun h21 e21 => ?_)
  replace F : Fr shC 25 h21 := by rw [e21]; exact F.up (by decide)
  refine a_putE C 4 8 rfl (by decide) rfl iX5 (by decide) k_293 tyX5 tyX5_ok nmX5 rfl rfl (Or.inr (Or.inr (Or.inr (Or.inr ⟨_, rfl⟩)))) rfl dX5_init_134 (by decide) rfl trivial (fun h22 e22 => ?_)
  replace F : Fr shC 25 h22 := by rw [e22]; exact F.up (by decide)
  refine a_aload_n C dX5_init_137 rfl (by decide) rfl ?_
  refine a_new C 6 rfl (by decide) rfl iX7 tyX7 tyX7_ok rfl (by decide) k_172 k_173 k_136 rfl F.at rfl rfl dX5_init_138 (fun z23 hz hf C => ?_)
  replace HF := hf_trans HF hz hf
  replace Z := Z.trans hz (by decide)
  replace F := F.le (n' := 26) (by decide)
  refine a_dup C (show ¬ (2 : Nat) = 1 by decide) dX5_init_141 ?_
  refine a_iconst C ⟨by decide, by decide⟩ dX5_init_142 ?_
  refine a_callI C (av := [(0, 4)]) (np := 1) (ct_Row (by decide) rfl rfl (by decide) F) k_174 k_175 k_136 k_176 rfl hdI_X7_init rfl rfl rfl rfl rfl dX5_init_143 rfl rfl (by decide) (fun z24 h23 hz hf C e23 => ?_)
  replace HF := hf_trans HF hz hf
  replace Z := Z.trans hz (by decide)
  replace F : Fr shC 27 h23 := by rw [e23]; exact Fr.ups (F.le (by decide)) (by decide)
  refine a_putE C 4 9 rfl (by decide) rfl iX5 (by decide) k_294 tyX5 tyX5_ok nmX5 rfl rfl (Or.inr (Or.inr (Or.inr (Or.inl ⟨_, rfl⟩)))) rfl dX5_init_146 (by decide) rfl trivial (fun h24 e24 => ?_)
  replace F : Fr shC 27 h24 := by rw [e24]; exact F.up (by decide)
  refine a_aload_n C dX5_init_149 rfl (by decide) rfl ?_
  refine a_new C 6 rfl (by decide) rfl iX7 tyX7 tyX7_ok rfl (by decide) k_172 k_173 k_136 rfl F.at rfl rfl dX5_init_150 (fun z25 hz hf C => ?_)
  replace HF := hf_trans HF hz hf
  replace Z := Z.trans hz (by decide)
  replace F := F.le (n' := 28) (by decide)
  refine a_dup C (show ¬ (2 : Nat) = 1 by decide) dX5_init_153 ?_
  refine a_bipush C ⟨by decide, by decide⟩ (by decide) dX5_init_154 ?_
  refine a_callI C (av := [(0, 6)]) (np := 1) (ct_Row (by decide) rfl rfl (by decide) F) k_174 k_175 k_136 k_176 rfl hdI_X7_init rfl rfl rfl rfl rfl dX5_init_156 rfl rfl (by decide) (fun z26 h25 hz hf C e25 => ?_)
  replace HF := hf_trans HF hz hf
  replace Z := Z.trans hz (by decide)
  replace F : Fr shC 29 h25 := by rw [e25]; exact Fr.ups (F.le (by decide)) (by decide)
  refine a_putE C 4 10 rfl (by decide) rfl iX5 (by decide) k_298 tyX5 tyX5_ok nmX5 rfl rfl (Or.inr (Or.inr (Or.inr (Or.inl ⟨_, rfl⟩)))) rfl dX5_init_159 (by decide) rfl trivial (fun h26 e26 => ?_)
  replace F : Fr shC 29 h26 := by rw [e26]; exact F.up (by decide)
  refine a_aload_n C dX5_init_162 rfl (by decide) rfl ?_
  refine a_new C 6 rfl (by decide) rfl iX7 tyX7 tyX7_ok rfl (by decide) k_172 k_173 k_136 rfl F.at rfl rfl dX5_init_163 (fun z27 hz hf C => ?_)
  replace HF := hf_trans HF hz hf
  replace Z := Z.trans hz (by decide)
  replace F := F.le (n' := 30) (by decide)
  refine a_dup C (show ¬ (2 : Nat) = 1 by decide) dX5_init_166 ?_
  refine a_bipush C ⟨by decide, by decide⟩ (by decide) dX5_init_167 ?_
  refine a_callI C (av := [(0, 6)]) (np := 1) (ct_Row (by decide) rfl rfl (by decide) F) k_174 k_175 k_136 k_176 rfl hdI_X7_init rfl rfl rfl rfl rfl dX5_init_169 rfl rfl (by decide) (fun z28 h27 hz hf C e27 => ?_)
  replace HF := hf_trans HF hz hf
  replace Z := Z.trans hz (by decide)
  replace F : Fr shC 31 h27 := by rw [e27]; exact Fr.ups (F.le (by decide)) (by decide)
  refine a_putE C 4 11 rfl (by decide) rfl iX5 (by decide) k_302 tyX5 tyX5_ok nmX5 rfl rfl (Or.inr (Or.inr (Or.inr (Or.inl ⟨_, rfl⟩)))) rfl dX5_init_172 (by decide) rfl trivial (fun h28 e28 => ?_)
  replace F : Fr shC 31 h28 := by rw [e28]; exact F.up (by decide)
  refine a_aload_n C dX5_init_175 rfl (by decide) rfl ?_
  refine a_new C 6 rfl (by decide) rfl iX7 tyX7 tyX7_ok rfl (by decide) k_172 k_173 k_136 rfl F.at rfl rfl dX5_init_176 (fun z29 hz hf C => ?_)
  replace HF := hf_trans HF hz hf
  replace Z := Z.trans hz (by decide)
  replace F := F.le (n' := 32) (by decide)
  refine a_dup C (show ¬ (2 : Nat) = 1 by decide) dX5_init_179 ?_
  refine a_iconst C ⟨by decide, by decide⟩ dX5_init_180 ?_
  refine a_callI C (av := [(0, 3)]) (np := 1) (ct_Row (by decide) rfl rfl (by decide) F) k_174 k_175 k_136 k_176 rfl hdI_X7_init rfl rfl rfl rfl rfl dX5_init_181 rfl rfl (by decide) (fun z30 h29 hz hf C e29 => ?_)
  replace HF := hf_trans HF hz hf
  replace Z := Z.trans hz (by decide)
  replace F : Fr shC 33 h29 := by rw [e29]; exact Fr.ups (F.le (by decide)) (by decide)
  refine a_putE C 4 12 rfl (by decide) rfl iX5 (by decide) k_306 tyX5 tyX5_ok nmX5 rfl rfl (Or.inr (Or.inr (Or.inr (Or.inl ⟨_, rfl⟩)))) rfl dX5_init_184 (by decide) rfl trivial (fun h30 e30 => ?_)
  replace F : Fr shC 33 h30 := by rw [e30]; exact F.up (by decide)
  refine a_aload_n C dX5_init_187 rfl (by decide) rfl ?_
  refine a_new C 6 rfl (by decide) rfl iX7 tyX7 tyX7_ok rfl (by decide) k_172 k_173 k_136 rfl F.at rfl rfl dX5_init_188 (fun z31 hz hf C => ?_)
  replace HF := hf_trans HF hz hf
  replace Z := Z.trans hz (by decide)
  replace F := F.le (n' := 34) (by decide)
  refine a_dup C (show ¬ (2 : Nat) = 1 by decide) dX5_init_191 ?_
  refine a_iconst C ⟨by decide, by decide⟩ dX5_init_192 ?_
  refine a_callI C (av := [(0, 3)]) (np := 1) (ct_Row (by decide) rfl rfl (by decide) F) k_174 k_175 k_136 k_176 rfl hdI_X7_init rfl rfl rfl rfl rfl dX5_init_193 rfl rfl (by decide) (fun z32 h31 hz hf C e31 => ?_)
  replace HF := hf_trans HF hz hf
  replace Z := Z.trans hz (by decide)
  replace F : Fr shC 35 h31 := by rw [e31]; exact Fr.ups (F.le (by decide)) (by decide)
  refine a_putE C 4 13 rfl (by decide) rfl iX5 (by decide) k_310 tyX5 tyX5_ok nmX5 rfl rfl (Or.inr (Or.inr (Or.inr (Or.inl ⟨_, rfl⟩)))) rfl dX5_init_196 (by decide) rfl trivial (fun h32 e32 => ?_)
  replace F : Fr shC 35 h32 := by rw [e32]; exact F.up (by decide)
  refine a_aload_n C dX5_init_199 rfl (by decide) rfl ?_
  refine a_new C 0 rfl (by decide) rfl iX1 tyX1 tyX1_ok rfl (by decide) k_196 k_197 k_138 rfl F.at rfl rfl dX5_init_200 (fun z33 hz hf C => ?_)
  replace HF := hf_trans HF hz hf
  replace Z := Z.trans hz (by decide)
  replace F := F.le (n' := 36) (by decide)
  refine a_dup C (show ¬ (2 : Nat) = 1 by decide) dX5_init_203 ?_
  refine a_bipush C ⟨by decide, by decide⟩ (by decide) dX5_init_204 ?_
  refine a_callI C (av := [(0, 8)]) (np := 1) (ct_Drops (by decide) rfl rfl rfl rfl (by decide) F) k_198 k_199 k_138 k_200 rfl hdI_X1_init rfl rfl rfl rfl rfl dX5_init_206 rfl rfl (by decide) (fun z34 h33 hz hf C e33 => ?_)
  replace HF := hf_trans HF hz hf
  replace Z := Z.trans hz (by decide)
  replace F : Fr shC 39 h33 := by rw [e33]; exact Fr.ups (F.le (by decide)) (by decide)
  refine a_putE C 4 14 rfl (by decide) rfl iX5 (by decide) k_314 tyX5 tyX5_ok nmX5 rfl rfl (Or.inr (Or.inr (Or.inr (Or.inl ⟨_, rfl⟩)))) rfl dX5_init_209 (by decide) rfl trivial (fun h34 e34 => ?_)
  replace F : Fr shC 39 h34 := by rw [e34]; exact F.up (by decide)
  refine a_aload_n C dX5_init_212 rfl (by decide) rfl ?_
  refine a_new C 2 rfl (by decide) rfl iX3 tyX3 tyX3_ok rfl (by decide) k_226 k_227 k_139 rfl F.at rfl rfl dX5_init_213 (fun z35 hz hf C => ?_)
  replace HF := hf_trans HF hz hf
  replace Z := Z.trans hz (by decide)
  replace F := F.le (n' := 40) (by decide)
  refine a_dup C (show ¬ (2 : Nat) = 1 by decide) dX5_init_216 ?_
  refine a_callIN C (av := []) (np := 0) (ct_Law (by decide) rfl rfl rfl rfl rfl F) k_228 k_229 k_139 k_230 rfl hdI_X3_init rfl rfl rfl rfl rfl dX5_init_217 rfl rfl (by decide) (fun z36 h35 hz hf C e35 => ?_)
  replace HF := hf_trans HF hz hf
  replace Z := Z.trans hz (by decide)
  replace F : Fr shC 44 h35 := by rw [e35]; exact Fr.ups (F.le (by decide)) (by decide)
  refine a_putE C 4 15 rfl (by decide) rfl iX5 (by decide) k_317 tyX5 tyX5_ok nmX5 rfl rfl (Or.inr (Or.inr (Or.inr (Or.inl ⟨_, rfl⟩)))) rfl dX5_init_220 (by decide) rfl trivial (fun h36 e36 => ?_)
  replace F : Fr shC 44 h36 := by rw [e36]; exact F.up (by decide)
  refine a_aload_n C dX5_init_223 rfl (by decide) rfl ?_
  refine a_new C 6 rfl (by decide) rfl iX7 tyX7 tyX7_ok rfl (by decide) k_172 k_173 k_136 rfl F.at rfl rfl dX5_init_224 (fun z37 hz hf C => ?_)
  replace HF := hf_trans HF hz hf
  replace Z := Z.trans hz (by decide)
  replace F := F.le (n' := 45) (by decide)
  refine a_dup C (show ¬ (2 : Nat) = 1 by decide) dX5_init_227 ?_
  refine a_iconst C ⟨by decide, by decide⟩ dX5_init_228 ?_
  refine a_callI C (av := [(0, 0)]) (np := 1) (ct_Row (by decide) rfl rfl (by decide) F) k_174 k_175 k_136 k_176 rfl hdI_X7_init rfl rfl rfl rfl rfl dX5_init_229 rfl rfl (by decide) (fun z38 h37 hz hf C e37 => ?_)
  replace HF := hf_trans HF hz hf
  replace Z := Z.trans hz (by decide)
  replace F : Fr shC 46 h37 := by rw [e37]; exact Fr.ups (F.le (by decide)) (by decide)
  refine a_putE C 4 16 rfl (by decide) rfl iX5 (by decide) k_321 tyX5 tyX5_ok nmX5 rfl rfl (Or.inr (Or.inr (Or.inr (Or.inl ⟨_, rfl⟩)))) rfl dX5_init_232 (by decide) rfl trivial (fun h38 e38 => ?_)
  replace F : Fr shC 46 h38 := by rw [e38]; exact F.up (by decide)
  refine a_aload_n C dX5_init_235 rfl (by decide) rfl ?_
  have eH : h38 = ups L h := by rw [e38, e37, e36, e35, e34, e33, e32, e31, e30, e29, e28, e27, e26, e25, e24, e23, e22, e21, e20, e19, e18, e17, e16, e15, e14, e13, e12, e11, e10, e9, e8, e7, e6, e5, e4, e3, e2, e1, eL]; rfl
  have hwd : aWd shC 46 (Wt h38) h38 := by
    intro i hi j hj hf
    unfold Wt
    by_cases r : (shC i).1 = 11 ∨ (shC i).1 = 10
    · rw [if_pos r]
    · rw [if_neg r, eH]
      by_cases t : i < 2
      · rw [ups_lo bL (by omega)]
        exact HW i t (fun y => r (Or.inl y)) (fun y => r (Or.inr y)) j hj hf
      · exact ups_look L h i j none _ (fun v y => by cases y) (wL i hi (by omega) j hj hf)
  refine a_callV C (Wt h38) (o := 2) (av := []) (np := 0) (K := fun g => clr ((2 : Nat) : Int) h38 g ∧ g (((2 : Nat) : Int) + 3) = h38 (((2 : Nat) : Int) + 3) ∧ g (((2 : Nat) : Int) + 14) = h38 (((2 : Nat) : Int) + 14)) (sim_X5_clear wirP_46 rfl (sp_clearG (by unfold isP; decide) rfl rfl (fun g a b c => ⟨a, b, c⟩))) hwd k_250 k_251 k_252 k_135 k_253 hdW_X5_clear rfl rfl (by decide) rfl (by decide) rfl rfl rfl rfl dX5_init_236 rfl rfl ?_ (fun g hK hm => ?_)
  · intro hao g hK hm i hi
    by_cases t : 2 ≤ i ∧ i ≤ 41
    · refine ⟨fun j hj => ?_, fun h17 j => ?_⟩
      · have hmm := hm i hi j (by rw [show mxS (XW shC _ 46 (Wt h38)) (i : Int) = shC i from if_pos (by omega)]; exact hj)
        rw [show mxS (XW shC _ 46 (Wt h38)) (i : Int) = shC i from if_pos (by omega)] at hmm
        refine ⟨hmm.1, fun q => ?_⟩
        obtain ⟨q1, q2⟩ := rI i hi t.1 j hj q
        rw [hmm.2 q1]
        show Wt h38 i j < _
        unfold Wt
        rw [if_neg (fun y => y.elim (nk i hi t.1).1 (nk i hi t.1).2)]; exact q2
      · have hao2 := (hao i hi).2 h17 j
        rcases k17 i hi t.1 h17 with y | y
        · subst y; rw [show g ((5 : Nat) : Int) = h38 ((5 : Nat) : Int) from hK.2.1]; exact hao2
        · subst y; rw [show g ((16 : Nat) : Int) = h38 ((16 : Nat) : Int) from hK.2.2]; exact hao2
    · have e0 : g i = h38 i := hK.1.1 i (by omega)
      rw [e0]; exact hao i hi
  refine a_ret C Z (by decide) HF hr dX5_init_239 ⟨fun o y => ?_, fun i a b j hj hf => ?_, _, hK.1⟩
  · rw [hK.1.1 o (by omega), eH]
    rcases Int.lt_or_le o ((2 : Nat) : Int) with t | t
    · exact ups_lo bL t
    · exact ups_hi tL (by omega)
  · have hmm := hm i (show i < 46 by omega) j (by rw [show mxS (XW shC _ 46 (Wt h38)) (i : Int) = shC i from if_pos (by omega)]; exact hj)
    rw [show mxS (XW shC _ 46 (Wt h38)) (i : Int) = shC i from if_pos (by omega)] at hmm
    rw [hmm.2 hf]
    show Wt h38 i j = _
    unfold Wt
    rw [if_neg (fun y => y.elim (nk i (by omega) a).1 (nk i (by omega) a).2)]
set_option maxRecDepth 20000 in
theorem ct_Pond_54 {l : Launch} {z : Mz} {h : Mh} (F : Fr shC 55 h) (HW : aWdX 54 h) : aCal shC l yX5_init cX5_init 1 2 42 43 335 z 55 98 [(2, ((54 : Nat) : Int))] h (KPd 54 h) := by
  obtain ⟨L, eL⟩ : ∃ L : List (Int × Int × Int), L = [(((55 : Nat) : Int), ((0 : Nat) : Int), ((56 : Nat) : Int)), (((54 : Nat) : Int), ((4 : Nat) : Int), ((55 : Nat) : Int)), (((58 : Nat) : Int), ((0 : Nat) : Int), ((59 : Nat) : Int)), (((57 : Nat) : Int), 0, ((58 : Nat) : Int)), (((60 : Nat) : Int), ((0 : Nat) : Int), ((61 : Nat) : Int)), (((57 : Nat) : Int), 1, ((60 : Nat) : Int)), (((62 : Nat) : Int), ((0 : Nat) : Int), ((63 : Nat) : Int)), (((57 : Nat) : Int), 2, ((62 : Nat) : Int)), (((54 : Nat) : Int), ((5 : Nat) : Int), ((57 : Nat) : Int)), (((64 : Nat) : Int), ((0 : Nat) : Int), ((65 : Nat) : Int)), (((54 : Nat) : Int), ((6 : Nat) : Int), ((64 : Nat) : Int)), (((66 : Nat) : Int), ((0 : Nat) : Int), ((67 : Nat) : Int)), (((54 : Nat) : Int), ((7 : Nat) : Int), ((66 : Nat) : Int)), (((69 : Nat) : Int), ((0 : Nat) : Int), ((70 : Nat) : Int)), (((68 : Nat) : Int), 0, ((69 : Nat) : Int)), (((71 : Nat) : Int), ((0 : Nat) : Int), ((72 : Nat) : Int)), (((68 : Nat) : Int), 1, ((71 : Nat) : Int)), (((73 : Nat) : Int), ((0 : Nat) : Int), ((74 : Nat) : Int)), (((68 : Nat) : Int), 2, ((73 : Nat) : Int)), (((75 : Nat) : Int), ((0 : Nat) : Int), ((76 : Nat) : Int)), (((68 : Nat) : Int), 3, ((75 : Nat) : Int)), (((54 : Nat) : Int), ((8 : Nat) : Int), ((68 : Nat) : Int)), (((77 : Nat) : Int), ((0 : Nat) : Int), ((78 : Nat) : Int)), (((54 : Nat) : Int), ((9 : Nat) : Int), ((77 : Nat) : Int)), (((79 : Nat) : Int), ((0 : Nat) : Int), ((80 : Nat) : Int)), (((54 : Nat) : Int), ((10 : Nat) : Int), ((79 : Nat) : Int)), (((81 : Nat) : Int), ((0 : Nat) : Int), ((82 : Nat) : Int)), (((54 : Nat) : Int), ((11 : Nat) : Int), ((81 : Nat) : Int)), (((83 : Nat) : Int), ((0 : Nat) : Int), ((84 : Nat) : Int)), (((54 : Nat) : Int), ((12 : Nat) : Int), ((83 : Nat) : Int)), (((85 : Nat) : Int), ((0 : Nat) : Int), ((86 : Nat) : Int)), (((54 : Nat) : Int), ((13 : Nat) : Int), ((85 : Nat) : Int)), (((87 : Nat) : Int), ((0 : Nat) : Int), ((88 : Nat) : Int)), (((87 : Nat) : Int), ((1 : Nat) : Int), ((89 : Nat) : Int)), (((87 : Nat) : Int), ((2 : Nat) : Int), ((90 : Nat) : Int)), (((54 : Nat) : Int), ((14 : Nat) : Int), ((87 : Nat) : Int)), (((91 : Nat) : Int), ((0 : Nat) : Int), ((92 : Nat) : Int)), (((91 : Nat) : Int), ((1 : Nat) : Int), ((93 : Nat) : Int)), (((91 : Nat) : Int), ((2 : Nat) : Int), ((94 : Nat) : Int)), (((91 : Nat) : Int), ((3 : Nat) : Int), ((95 : Nat) : Int)), (((54 : Nat) : Int), ((15 : Nat) : Int), ((91 : Nat) : Int)), (((96 : Nat) : Int), ((0 : Nat) : Int), ((97 : Nat) : Int)), (((54 : Nat) : Int), ((16 : Nat) : Int), ((96 : Nat) : Int))] := ⟨_, rfl⟩
  have wL : ∀ i : Nat, i < 98 → 54 ≤ i → ∀ j : Nat, j < alen (shC i) → mfin (shC i).1 j = true → look L i j none = some (wrC i j) := by rw [eL]; decide +kernel
  have bL : (L.all fun q => decide (((54 : Nat) : Int) ≤ q.1)) = true := by rw [eL]; decide +kernel
  have tL : (L.all fun q => decide (q.1 < ((98 : Nat) : Int))) = true := by rw [eL]; decide +kernel
  have rI : ∀ i : Nat, i < 98 → 54 ≤ i → ∀ j : Nat, j < alen (shC i) → mtag (aty (shC i) j) = 2 → mfin (shC i).1 j = true ∧ wrC i j < ((98 : Nat) : Int) := by decide +kernel
  have nk : ∀ i : Nat, i < 98 → 54 ≤ i → (shC i).1 ≠ 11 ∧ (shC i).1 ≠ 10 := by decide +kernel
  have k17 : ∀ i : Nat, i < 98 → 54 ≤ i → (shC i).1 = 17 → i = 57 ∨ i = 68 := by decide +kernel
  refine a_entry RX5 rfl rfl (by decide) rfl (fun p e s m args below meth c C hr => ?_)
  have Z := zle.refl z 55
  have HF : ∀ i : Nat, 55 ≤ i → i < 55 → s.heap.size ≤ z.2.2.1 i := fun i a b => by omega
  show aG shC z 55 p l e _ s m args below meth c _ _ 0 0 0 [(0, (2, ((54 : Nat) : Int)))] [] h
  refine a_aload_n C dX5_init_0 rfl (by decide) rfl ?_
  refine a_objInit C (by decide) k_171 k_164 k_165 rfl rfl rfl dX5_init_1 ?_
  refine a_aload_n C dX5_init_4 rfl (by decide) rfl ?_
  refine a_new C 6 rfl (by decide) rfl iX7 tyX7 tyX7_ok rfl (by decide) k_172 k_173 k_136 rfl F.at rfl rfl dX5_init_5 (fun z1 hz hf C => ?_)
  replace HF := hf_trans HF hz hf
  replace Z := Z.trans hz (by decide)
  replace F := F.le (n' := 56) (by decide)
  refine a_dup C (show ¬ (2 : Nat) = 1 by decide) dX5_init_8 ?_
  refine a_iconst C ⟨by decide, by decide⟩ dX5_init_9 ?_
  refine a_callI C (av := [(0, 3)]) (np := 1) (ct_Row (by decide) rfl rfl (by decide) F) k_174 k_175 k_136 k_176 rfl hdI_X7_init rfl rfl rfl rfl rfl dX5_init_10 rfl rfl (by decide) (fun z2 h1 hz hf C e1 => ?_)
  replace HF := hf_trans HF hz hf
  replace Z := Z.trans hz (by decide)
  replace F : Fr shC 57 h1 := by rw [e1]; exact Fr.ups (F.le (by decide)) (by decide)
  refine a_putE C 4 4 rfl (by decide) rfl iX5 (by decide) k_279 tyX5 tyX5_ok nmX5 rfl rfl (Or.inr (Or.inr (Or.inr (Or.inl ⟨_, rfl⟩)))) rfl dX5_init_13 (by decide) rfl trivial (fun h2 e2 => ?_)
  replace F : Fr shC 57 h2 := by rw [e2]; exact F.up (by decide)
  refine a_aload_n C dX5_init_16 rfl (by decide) rfl ?_
  refine a_iconst C ⟨by decide, by decide⟩ dX5_init_17 ?_
  refine a_newq C (N' := 3) k_172 rfl rfl (by decide) (F.q (N := 3) rfl) rfl rfl dX5_init_18 F.at (fun z3 hz hf C => ?_)
  replace HF := hf_trans HF hz hf
  replace Z := Z.trans hz (by decide)
  replace F := F.le (n' := 58) (by decide)
  refine a_dup C (show ¬ (2 : Nat) = 1 by decide) dX5_init_21 ?_
  refine a_iconst C ⟨by decide, by decide⟩ dX5_init_22 ?_
  refine a_new C 6 rfl (by decide) rfl iX7 tyX7 tyX7_ok rfl (by decide) k_172 k_173 k_136 rfl F.at rfl rfl dX5_init_23 (fun z4 hz hf C => ?_)
  replace HF := hf_trans HF hz hf
  replace Z := Z.trans hz (by decide)
  replace F := F.le (n' := 59) (by decide)
  refine a_dup C (show ¬ (2 : Nat) = 1 by decide) dX5_init_26 ?_
  refine a_iconst C ⟨by decide, by decide⟩ dX5_init_27 ?_
  refine a_callI C (av := [(0, 3)]) (np := 1) (ct_Row (by decide) rfl rfl (by decide) F) k_174 k_175 k_136 k_176 rfl hdI_X7_init rfl rfl rfl rfl rfl dX5_init_28 rfl rfl (by decide) (fun z5 h3 hz hf C e3 => ?_)
  replace HF := hf_trans HF hz hf
  replace Z := Z.trans hz (by decide)
  replace F : Fr shC 60 h3 := by rw [e3]; exact Fr.ups (F.le (by decide)) (by decide)
  refine a_aastoreE C (len := 3) dX5_init_31 (by decide) rfl (by decide) rfl (by decide) (by decide) (fun h4 e4 => ?_)
  replace F : Fr shC 60 h4 := by rw [e4]; exact F.up (by decide)
  refine a_dup C (show ¬ (2 : Nat) = 1 by decide) dX5_init_32 ?_
  refine a_iconst C ⟨by decide, by decide⟩ dX5_init_33 ?_
  refine a_new C 6 rfl (by decide) rfl iX7 tyX7 tyX7_ok rfl (by decide) k_172 k_173 k_136 rfl F.at rfl rfl dX5_init_34 (fun z6 hz hf C => ?_)
  replace HF := hf_trans HF hz hf
  replace Z := Z.trans hz (by decide)
  replace F := F.le (n' := 61) (by decide)
  refine a_dup C (show ¬ (2 : Nat) = 1 by decide) dX5_init_37 ?_
  refine a_iconst C ⟨by decide, by decide⟩ dX5_init_38 ?_
  refine a_callI C (av := [(0, 3)]) (np := 1) (ct_Row (by decide) rfl rfl (by decide) F) k_174 k_175 k_136 k_176 rfl hdI_X7_init rfl rfl rfl rfl rfl dX5_init_39 rfl rfl (by decide) (fun z7 h5 hz hf C e5 => ?_)
  replace HF := hf_trans HF hz hf
  replace Z := Z.trans hz (by decide)
  replace F : Fr shC 62 h5 := by rw [e5]; exact Fr.ups (F.le (by decide)) (by decide)
  refine a_aastoreE C (len := 3) dX5_init_42 (by decide) rfl (by decide) rfl (by decide) (by decide) (fun h6 e6 => ?_)
  replace F : Fr shC 62 h6 := by rw [e6]; exact F.up (by decide)
  refine a_dup C (show ¬ (2 : Nat) = 1 by decide) dX5_init_43 ?_
  refine a_iconst C ⟨by decide, by decide⟩ dX5_init_44 ?_
  refine a_new C 6 rfl (by decide) rfl iX7 tyX7 tyX7_ok rfl (by decide) k_172 k_173 k_136 rfl F.at rfl rfl dX5_init_45 (fun z8 hz hf C => ?_)
  replace HF := hf_trans HF hz hf
  replace Z := Z.trans hz (by decide)
  replace F := F.le (n' := 63) (by decide)
  refine a_dup C (show ¬ (2 : Nat) = 1 by decide) dX5_init_48 ?_
  refine a_iconst C ⟨by decide, by decide⟩ dX5_init_49 ?_
  refine a_callI C (av := [(0, 3)]) (np := 1) (ct_Row (by decide) rfl rfl (by decide) F) k_174 k_175 k_136 k_176 rfl hdI_X7_init rfl rfl rfl rfl rfl dX5_init_50 rfl rfl (by decide) (fun z9 h7 hz hf C e7 => ?_)
  replace HF := hf_trans HF hz hf
  replace Z := Z.trans hz (by decide)
  replace F : Fr shC 64 h7 := by rw [e7]; exact Fr.ups (F.le (by decide)) (by decide)
  refine a_aastoreE C (len := 3) dX5_init_53 (by decide) rfl (by decide) rfl (by decide) (by decide) (fun h8 e8 => ?_)
  replace F : Fr shC 64 h8 := by rw [e8]; exact F.up (by decide)
  refine a_putE C 4 5 rfl (by decide) rfl iX5 (by decide) k_284 tyX5 tyX5_ok nmX5 rfl rfl (Or.inr (Or.inr (Or.inr (Or.inr ⟨_, rfl⟩)))) rfl dX5_init_54 (by decide) rfl trivial (fun h9 e9 => ?_)
  replace F : Fr shC 64 h9 := by rw [e9]; exact F.up (by decide)
  refine a_aload_n C dX5_init_57 rfl (by decide) rfl ?_
  refine a_new C 6 rfl (by decide) rfl iX7 tyX7 tyX7_ok rfl (by decide) k_172 k_173 k_136 rfl F.at rfl rfl dX5_init_58 (fun z10 hz hf C => ?_)
  replace HF := hf_trans HF hz hf
  replace Z := Z.trans hz (by decide)
  replace F := F.le (n' := 65) (by decide)
  refine a_dup C (show ¬ (2 : Nat) = 1 by decide) dX5_init_61 ?_
  refine a_iconst C ⟨by decide, by decide⟩ dX5_init_62 ?_
  refine a_callI C (av := [(0, 3)]) (np := 1) (ct_Row (by decide) rfl rfl (by decide) F) k_174 k_175 k_136 k_176 rfl hdI_X7_init rfl rfl rfl rfl rfl dX5_init_63 rfl rfl (by decide) (fun z11 h10 hz hf C e10 => ?_)
  replace HF := hf_trans HF hz hf
  replace Z := Z.trans hz (by decide)
  replace F : Fr shC 66 h10 := by rw [e10]; exact Fr.ups (F.le (by decide)) (by decide)
  refine a_putE C 4 6 rfl (by decide) rfl iX5 (by decide) k_285 tyX5 tyX5_ok nmX5 rfl rfl (Or.inr (Or.inr (Or.inr (Or.inl ⟨_, rfl⟩)))) rfl dX5_init_66 (by decide) rfl trivial (fun h11 e11 => ?_)
  replace F : Fr shC 66 h11 := by rw [e11]; exact F.up (by decide)
  refine a_aload_n C dX5_init_69 rfl (by decide) rfl ?_
  refine a_new C 6 rfl (by decide) rfl iX7 tyX7 tyX7_ok rfl (by decide) k_172 k_173 k_136 rfl F.at rfl rfl dX5_init_70 (fun z12 hz hf C => ?_)
  replace HF := hf_trans HF hz hf
  replace Z := Z.trans hz (by decide)
  replace F := F.le (n' := 67) (by decide)
  refine a_dup C (show ¬ (2 : Nat) = 1 by decide) dX5_init_73 ?_
  refine a_iconst C ⟨by decide, by decide⟩ dX5_init_74 ?_
  refine a_callI C (av := [(0, 4)]) (np := 1) (ct_Row (by decide) rfl rfl (by decide) F) k_174 k_175 k_136 k_176 rfl hdI_X7_init rfl rfl rfl rfl rfl dX5_init_75 rfl rfl (by decide) (fun z13 h12 hz hf C e12 => ?_)
  replace HF := hf_trans HF hz hf
  replace Z := Z.trans hz (by decide)
  replace F : Fr shC 68 h12 := by rw [e12]; exact Fr.ups (F.le (by decide)) (by decide)
  refine a_putE C 4 7 rfl (by decide) rfl iX5 (by decide) k_289 tyX5 tyX5_ok nmX5 rfl rfl (Or.inr (Or.inr (Or.inr (Or.inl ⟨_, rfl⟩)))) rfl dX5_init_78 (by decide) rfl trivial (fun h13 e13 => ?_)
  replace F : Fr shC 68 h13 := by rw [e13]; exact F.up (by decide)
  refine a_aload_n C dX5_init_81 rfl (by decide) rfl ?_
  refine a_iconst C ⟨by decide, by decide⟩ dX5_init_82 ?_
  refine a_newq C (N' := 4) k_172 rfl rfl (by decide) (F.q (N := 4) rfl) rfl rfl dX5_init_83 F.at (fun z14 hz hf C => ?_)
  replace HF := hf_trans HF hz hf
  replace Z := Z.trans hz (by decide)
  replace F := F.le (n' := 69) (by decide)
  refine a_dup C (show ¬ (2 : Nat) = 1 by decide) dX5_init_86 ?_
  refine a_iconst C ⟨by decide, by decide⟩ dX5_init_87 ?_
  refine a_new C 6 rfl (by decide) rfl iX7 tyX7 tyX7_ok rfl (by decide) k_172 k_173 k_136 rfl F.at rfl rfl dX5_init_88 (fun z15 hz hf C => ?_)
  replace HF := hf_trans HF hz hf
  replace Z := Z.trans hz (by decide)
  replace F := F.le (n' := 70) (by decide)
  refine a_dup C (show ¬ (2 : Nat) = 1 by decide) dX5_init_91 ?_
  refine a_bipush C ⟨by decide, by decide⟩ (by decide) dX5_init_92 ?_
  refine a_callI C (av := [(0, 6)]) (np := 1) (ct_Row (by decide) rfl rfl (by decide) F) k_174 k_175 k_136 k_176 rfl hdI_X7_init rfl rfl rfl rfl rfl dX5_init_94 rfl rfl (by decide) (fun z16 h14 hz hf C e14 => ?_)
  replace HF := hf_trans HF hz hf
  replace Z := Z.trans hz (by decide)
  replace F : Fr shC 71 h14 := by rw [e14]; exact Fr.ups (F.le (by decide)) (by decide)
  refine a_aastoreE C (len := 4) dX5_init_97 (by decide) rfl (by decide) rfl (by decide) (by decide) (fun h15 e15 => ?_)
  replace F : Fr shC 71 h15 := by rw [e15]; exact F.up (by decide)
  refine a_dup C (show ¬ (2 : Nat) = 1 by decide) dX5_init_98 ?_
  refine a_iconst C ⟨by decide, by decide⟩ dX5_init_99 ?_
  refine a_new C 6 rfl (by decide) rfl iX7 tyX7 tyX7_ok rfl (by decide) k_172 k_173 k_136 rfl F.at rfl rfl dX5_init_100 (fun z17 hz hf C => ?_)
  replace HF := hf_trans HF hz hf
  replace Z := Z.trans hz (by decide)
  replace F := F.le (n' := 72) (by decide)
  refine a_dup C (show ¬ (2 : Nat) = 1 by decide) dX5_init_103 ?_
  refine a_bipush C ⟨by decide, by decide⟩ (by decide) dX5_init_104 ?_
  refine a_callI C (av := [(0, 6)]) (np := 1) (ct_Row (by decide) rfl rfl (by decide) F) k_174 k_175 k_136 k_176 rfl hdI_X7_init rfl rfl rfl rfl rfl dX5_init_106 rfl rfl (by decide) (fun z18 h16 hz hf C e16 => ?_)
  replace HF := hf_trans HF hz hf
  replace Z := Z.trans hz (by decide)
  replace F : Fr shC 73 h16 := by rw [e16]; exact Fr.ups (F.le (by decide)) (by decide)
  refine a_aastoreE C (len := 4) dX5_init_109 (by decide) rfl (by decide) rfl (by decide) (by decide) (fun h17 e17 => ?_)
  replace F : Fr shC 73 h17 := by rw [e17]; exact F.up (by decide)
  refine a_dup C (show ¬ (2 : Nat) = 1 by decide) dX5_init_110 ?_
  refine a_iconst C ⟨by decide, by decide⟩ dX5_init_111 ?_
  refine a_new C 6 rfl (by decide) rfl iX7 tyX7 tyX7_ok rfl (by decide) k_172 k_173 k_136 rfl F.at rfl rfl dX5_init_112 (fun z19 hz hf C => ?_)
  replace HF := hf_trans HF hz hf
  replace Z := Z.trans hz (by decide)
  replace F := F.le (n' := 74) (by decide)
  refine a_dup C (show ¬ (2 : Nat) = 1 by decide) dX5_init_115 ?_
  refine a_bipush C ⟨by decide, by decide⟩ (by decide) dX5_init_116 ?_
  refine a_callI C (av := [(0, 6)]) (np := 1) (ct_Row (by decide) rfl rfl (by decide) F) k_174 k_175 k_136 k_176 rfl hdI_X7_init rfl rfl rfl rfl rfl dX5_init_118 rfl rfl (by decide) (fun z20 h18 hz hf C e18 => ?_)
  replace HF := hf_trans HF hz hf
  replace Z := Z.trans hz (by decide)
  replace F : Fr shC 75 h18 := by rw [e18]; exact Fr.ups (F.le (by decide)) (by decide)
  refine a_aastoreE C (len := 4) dX5_init_121 (by decide) rfl (by decide) rfl (by decide) (by decide) (fun h19 e19 => ?_)
  replace F : Fr shC 75 h19 := by rw [e19]; exact F.up (by decide)
  refine a_dup C (show ¬ (2 : Nat) = 1 by decide) dX5_init_122 ?_
  refine a_iconst C ⟨by decide, by decide⟩ dX5_init_123 ?_
  refine a_new C 6 rfl (by decide) rfl iX7 tyX7 tyX7_ok rfl (by decide) k_172 k_173 k_136 rfl F.at rfl rfl dX5_init_124 (fun z21 hz hf C => ?_)
  replace HF := hf_trans HF hz hf
  replace Z := Z.trans hz (by decide)
  replace F := F.le (n' := 76) (by decide)
  refine a_dup C (show ¬ (2 : Nat) = 1 by decide) dX5_init_127 ?_
  refine a_bipush C ⟨by decide, by decide⟩ (by decide) dX5_init_128 ?_
  refine a_callI C (av := [(0, 6)]) (np := 1) (ct_Row (by decide) rfl rfl (by decide) F) k_174 k_175 k_136 k_176 rfl hdI_X7_init rfl rfl rfl rfl rfl dX5_init_130 rfl rfl (by decide) (fun z22 h20 hz hf C e20 => ?_)
  replace HF := hf_trans HF hz hf
  replace Z := Z.trans hz (by decide)
  replace F : Fr shC 77 h20 := by rw [e20]; exact Fr.ups (F.le (by decide)) (by decide)
  refine a_aastoreE C (len := 4) dX5_init_133 (by decide) rfl (by decide) rfl (by decide) (by decide) (fun h21 e21 => ?_)
  replace F : Fr shC 77 h21 := by rw [e21]; exact F.up (by decide)
  refine a_putE C 4 8 rfl (by decide) rfl iX5 (by decide) k_293 tyX5 tyX5_ok nmX5 rfl rfl (Or.inr (Or.inr (Or.inr (Or.inr ⟨_, rfl⟩)))) rfl dX5_init_134 (by decide) rfl trivial (fun h22 e22 => ?_)
  replace F : Fr shC 77 h22 := by rw [e22]; exact F.up (by decide)
  refine a_aload_n C dX5_init_137 rfl (by decide) rfl ?_
  refine a_new C 6 rfl (by decide) rfl iX7 tyX7 tyX7_ok rfl (by decide) k_172 k_173 k_136 rfl F.at rfl rfl dX5_init_138 (fun z23 hz hf C => ?_)
  replace HF := hf_trans HF hz hf
  replace Z := Z.trans hz (by decide)
  replace F := F.le (n' := 78) (by decide)
  refine a_dup C (show ¬ (2 : Nat) = 1 by decide) dX5_init_141 ?_
  refine a_iconst C ⟨by decide, by decide⟩ dX5_init_142 ?_
  refine a_callI C (av := [(0, 4)]) (np := 1) (ct_Row (by decide) rfl rfl (by decide) F) k_174 k_175 k_136 k_176 rfl hdI_X7_init rfl rfl rfl rfl rfl dX5_init_143 rfl rfl (by decide) (fun z24 h23 hz hf C e23 => ?_)
  replace HF := hf_trans HF hz hf
  replace Z := Z.trans hz (by decide)
  replace F : Fr shC 79 h23 := by rw [e23]; exact Fr.ups (F.le (by decide)) (by decide)
  refine a_putE C 4 9 rfl (by decide) rfl iX5 (by decide) k_294 tyX5 tyX5_ok nmX5 rfl rfl (Or.inr (Or.inr (Or.inr (Or.inl ⟨_, rfl⟩)))) rfl dX5_init_146 (by decide) rfl trivial (fun h24 e24 => ?_)
  replace F : Fr shC 79 h24 := by rw [e24]; exact F.up (by decide)
  refine a_aload_n C dX5_init_149 rfl (by decide) rfl ?_
  refine a_new C 6 rfl (by decide) rfl iX7 tyX7 tyX7_ok rfl (by decide) k_172 k_173 k_136 rfl F.at rfl rfl dX5_init_150 (fun z25 hz hf C => ?_)
  replace HF := hf_trans HF hz hf
  replace Z := Z.trans hz (by decide)
  replace F := F.le (n' := 80) (by decide)
  refine a_dup C (show ¬ (2 : Nat) = 1 by decide) dX5_init_153 ?_
  refine a_bipush C ⟨by decide, by decide⟩ (by decide) dX5_init_154 ?_
  refine a_callI C (av := [(0, 6)]) (np := 1) (ct_Row (by decide) rfl rfl (by decide) F) k_174 k_175 k_136 k_176 rfl hdI_X7_init rfl rfl rfl rfl rfl dX5_init_156 rfl rfl (by decide) (fun z26 h25 hz hf C e25 => ?_)
  replace HF := hf_trans HF hz hf
  replace Z := Z.trans hz (by decide)
  replace F : Fr shC 81 h25 := by rw [e25]; exact Fr.ups (F.le (by decide)) (by decide)
  refine a_putE C 4 10 rfl (by decide) rfl iX5 (by decide) k_298 tyX5 tyX5_ok nmX5 rfl rfl (Or.inr (Or.inr (Or.inr (Or.inl ⟨_, rfl⟩)))) rfl dX5_init_159 (by decide) rfl trivial (fun h26 e26 => ?_)
  replace F : Fr shC 81 h26 := by rw [e26]; exact F.up (by decide)
  refine a_aload_n C dX5_init_162 rfl (by decide) rfl ?_
  refine a_new C 6 rfl (by decide) rfl iX7 tyX7 tyX7_ok rfl (by decide) k_172 k_173 k_136 rfl F.at rfl rfl dX5_init_163 (fun z27 hz hf C => ?_)
  replace HF := hf_trans HF hz hf
  replace Z := Z.trans hz (by decide)
  replace F := F.le (n' := 82) (by decide)
  refine a_dup C (show ¬ (2 : Nat) = 1 by decide) dX5_init_166 ?_
  refine a_bipush C ⟨by decide, by decide⟩ (by decide) dX5_init_167 ?_
  refine a_callI C (av := [(0, 6)]) (np := 1) (ct_Row (by decide) rfl rfl (by decide) F) k_174 k_175 k_136 k_176 rfl hdI_X7_init rfl rfl rfl rfl rfl dX5_init_169 rfl rfl (by decide) (fun z28 h27 hz hf C e27 => ?_)
  replace HF := hf_trans HF hz hf
  replace Z := Z.trans hz (by decide)
  replace F : Fr shC 83 h27 := by rw [e27]; exact Fr.ups (F.le (by decide)) (by decide)
  refine a_putE C 4 11 rfl (by decide) rfl iX5 (by decide) k_302 tyX5 tyX5_ok nmX5 rfl rfl (Or.inr (Or.inr (Or.inr (Or.inl ⟨_, rfl⟩)))) rfl dX5_init_172 (by decide) rfl trivial (fun h28 e28 => ?_)
  replace F : Fr shC 83 h28 := by rw [e28]; exact F.up (by decide)
  refine a_aload_n C dX5_init_175 rfl (by decide) rfl ?_
  refine a_new C 6 rfl (by decide) rfl iX7 tyX7 tyX7_ok rfl (by decide) k_172 k_173 k_136 rfl F.at rfl rfl dX5_init_176 (fun z29 hz hf C => ?_)
  replace HF := hf_trans HF hz hf
  replace Z := Z.trans hz (by decide)
  replace F := F.le (n' := 84) (by decide)
  refine a_dup C (show ¬ (2 : Nat) = 1 by decide) dX5_init_179 ?_
  refine a_iconst C ⟨by decide, by decide⟩ dX5_init_180 ?_
  refine a_callI C (av := [(0, 3)]) (np := 1) (ct_Row (by decide) rfl rfl (by decide) F) k_174 k_175 k_136 k_176 rfl hdI_X7_init rfl rfl rfl rfl rfl dX5_init_181 rfl rfl (by decide) (fun z30 h29 hz hf C e29 => ?_)
  replace HF := hf_trans HF hz hf
  replace Z := Z.trans hz (by decide)
  replace F : Fr shC 85 h29 := by rw [e29]; exact Fr.ups (F.le (by decide)) (by decide)
  refine a_putE C 4 12 rfl (by decide) rfl iX5 (by decide) k_306 tyX5 tyX5_ok nmX5 rfl rfl (Or.inr (Or.inr (Or.inr (Or.inl ⟨_, rfl⟩)))) rfl dX5_init_184 (by decide) rfl trivial (fun h30 e30 => ?_)
  replace F : Fr shC 85 h30 := by rw [e30]; exact F.up (by decide)
  refine a_aload_n C dX5_init_187 rfl (by decide) rfl ?_
  refine a_new C 6 rfl (by decide) rfl iX7 tyX7 tyX7_ok rfl (by decide) k_172 k_173 k_136 rfl F.at rfl rfl dX5_init_188 (fun z31 hz hf C => ?_)
  replace HF := hf_trans HF hz hf
  replace Z := Z.trans hz (by decide)
  replace F := F.le (n' := 86) (by decide)
  refine a_dup C (show ¬ (2 : Nat) = 1 by decide) dX5_init_191 ?_
  refine a_iconst C ⟨by decide, by decide⟩ dX5_init_192 ?_
  refine a_callI C (av := [(0, 3)]) (np := 1) (ct_Row (by decide) rfl rfl (by decide) F) k_174 k_175 k_136 k_176 rfl hdI_X7_init rfl rfl rfl rfl rfl dX5_init_193 rfl rfl (by decide) (fun z32 h31 hz hf C e31 => ?_)
  replace HF := hf_trans HF hz hf
  replace Z := Z.trans hz (by decide)
  replace F : Fr shC 87 h31 := by rw [e31]; exact Fr.ups (F.le (by decide)) (by decide)
  refine a_putE C 4 13 rfl (by decide) rfl iX5 (by decide) k_310 tyX5 tyX5_ok nmX5 rfl rfl (Or.inr (Or.inr (Or.inr (Or.inl ⟨_, rfl⟩)))) rfl dX5_init_196 (by decide) rfl trivial (fun h32 e32 => ?_)
  replace F : Fr shC 87 h32 := by rw [e32]; exact F.up (by decide)
  refine a_aload_n C dX5_init_199 rfl (by decide) rfl ?_
  refine a_new C 0 rfl (by decide) rfl iX1 tyX1 tyX1_ok rfl (by decide) k_196 k_197 k_138 rfl F.at rfl rfl dX5_init_200 (fun z33 hz hf C => ?_)
  replace HF := hf_trans HF hz hf
  replace Z := Z.trans hz (by decide)
  replace F := F.le (n' := 88) (by decide)
  refine a_dup C (show ¬ (2 : Nat) = 1 by decide) dX5_init_203 ?_
  refine a_bipush C ⟨by decide, by decide⟩ (by decide) dX5_init_204 ?_
  refine a_callI C (av := [(0, 8)]) (np := 1) (ct_Drops (by decide) rfl rfl rfl rfl (by decide) F) k_198 k_199 k_138 k_200 rfl hdI_X1_init rfl rfl rfl rfl rfl dX5_init_206 rfl rfl (by decide) (fun z34 h33 hz hf C e33 => ?_)
  replace HF := hf_trans HF hz hf
  replace Z := Z.trans hz (by decide)
  replace F : Fr shC 91 h33 := by rw [e33]; exact Fr.ups (F.le (by decide)) (by decide)
  refine a_putE C 4 14 rfl (by decide) rfl iX5 (by decide) k_314 tyX5 tyX5_ok nmX5 rfl rfl (Or.inr (Or.inr (Or.inr (Or.inl ⟨_, rfl⟩)))) rfl dX5_init_209 (by decide) rfl trivial (fun h34 e34 => ?_)
  replace F : Fr shC 91 h34 := by rw [e34]; exact F.up (by decide)
  refine a_aload_n C dX5_init_212 rfl (by decide) rfl ?_
  refine a_new C 2 rfl (by decide) rfl iX3 tyX3 tyX3_ok rfl (by decide) k_226 k_227 k_139 rfl F.at rfl rfl dX5_init_213 (fun z35 hz hf C => ?_)
  replace HF := hf_trans HF hz hf
  replace Z := Z.trans hz (by decide)
  replace F := F.le (n' := 92) (by decide)
  refine a_dup C (show ¬ (2 : Nat) = 1 by decide) dX5_init_216 ?_
  refine a_callIN C (av := []) (np := 0) (ct_Law (by decide) rfl rfl rfl rfl rfl F) k_228 k_229 k_139 k_230 rfl hdI_X3_init rfl rfl rfl rfl rfl dX5_init_217 rfl rfl (by decide) (fun z36 h35 hz hf C e35 => ?_)
  replace HF := hf_trans HF hz hf
  replace Z := Z.trans hz (by decide)
  replace F : Fr shC 96 h35 := by rw [e35]; exact Fr.ups (F.le (by decide)) (by decide)
  refine a_putE C 4 15 rfl (by decide) rfl iX5 (by decide) k_317 tyX5 tyX5_ok nmX5 rfl rfl (Or.inr (Or.inr (Or.inr (Or.inl ⟨_, rfl⟩)))) rfl dX5_init_220 (by decide) rfl trivial (fun h36 e36 => ?_)
  replace F : Fr shC 96 h36 := by rw [e36]; exact F.up (by decide)
  refine a_aload_n C dX5_init_223 rfl (by decide) rfl ?_
  refine a_new C 6 rfl (by decide) rfl iX7 tyX7 tyX7_ok rfl (by decide) k_172 k_173 k_136 rfl F.at rfl rfl dX5_init_224 (fun z37 hz hf C => ?_)
  replace HF := hf_trans HF hz hf
  replace Z := Z.trans hz (by decide)
  replace F := F.le (n' := 97) (by decide)
  refine a_dup C (show ¬ (2 : Nat) = 1 by decide) dX5_init_227 ?_
  refine a_iconst C ⟨by decide, by decide⟩ dX5_init_228 ?_
  refine a_callI C (av := [(0, 0)]) (np := 1) (ct_Row (by decide) rfl rfl (by decide) F) k_174 k_175 k_136 k_176 rfl hdI_X7_init rfl rfl rfl rfl rfl dX5_init_229 rfl rfl (by decide) (fun z38 h37 hz hf C e37 => ?_)
  replace HF := hf_trans HF hz hf
  replace Z := Z.trans hz (by decide)
  replace F : Fr shC 98 h37 := by rw [e37]; exact Fr.ups (F.le (by decide)) (by decide)
  refine a_putE C 4 16 rfl (by decide) rfl iX5 (by decide) k_321 tyX5 tyX5_ok nmX5 rfl rfl (Or.inr (Or.inr (Or.inr (Or.inl ⟨_, rfl⟩)))) rfl dX5_init_232 (by decide) rfl trivial (fun h38 e38 => ?_)
  replace F : Fr shC 98 h38 := by rw [e38]; exact F.up (by decide)
  refine a_aload_n C dX5_init_235 rfl (by decide) rfl ?_
  have eH : h38 = ups L h := by rw [e38, e37, e36, e35, e34, e33, e32, e31, e30, e29, e28, e27, e26, e25, e24, e23, e22, e21, e20, e19, e18, e17, e16, e15, e14, e13, e12, e11, e10, e9, e8, e7, e6, e5, e4, e3, e2, e1, eL]; rfl
  have hwd : aWd shC 98 (Wt h38) h38 := by
    intro i hi j hj hf
    unfold Wt
    by_cases r : (shC i).1 = 11 ∨ (shC i).1 = 10
    · rw [if_pos r]
    · rw [if_neg r, eH]
      by_cases t : i < 54
      · rw [ups_lo bL (by omega)]
        exact HW i t (fun y => r (Or.inl y)) (fun y => r (Or.inr y)) j hj hf
      · exact ups_look L h i j none _ (fun v y => by cases y) (wL i hi (by omega) j hj hf)
  refine a_callV C (Wt h38) (o := 54) (av := []) (np := 0) (K := fun g => clr ((54 : Nat) : Int) h38 g ∧ g (((54 : Nat) : Int) + 3) = h38 (((54 : Nat) : Int) + 3) ∧ g (((54 : Nat) : Int) + 14) = h38 (((54 : Nat) : Int) + 14)) (sim_X5_clear wirP_98 rfl (sp_clearG (by unfold isP; decide) rfl rfl (fun g a b c => ⟨a, b, c⟩))) hwd k_250 k_251 k_252 k_135 k_253 hdW_X5_clear rfl rfl (by decide) rfl (by decide) rfl rfl rfl rfl dX5_init_236 rfl rfl ?_ (fun g hK hm => ?_)
  · intro hao g hK hm i hi
    by_cases t : 54 ≤ i ∧ i ≤ 93
    · refine ⟨fun j hj => ?_, fun h17 j => ?_⟩
      · have hmm := hm i hi j (by rw [show mxS (XW shC _ 98 (Wt h38)) (i : Int) = shC i from if_pos (by omega)]; exact hj)
        rw [show mxS (XW shC _ 98 (Wt h38)) (i : Int) = shC i from if_pos (by omega)] at hmm
        refine ⟨hmm.1, fun q => ?_⟩
        obtain ⟨q1, q2⟩ := rI i hi t.1 j hj q
        rw [hmm.2 q1]
        show Wt h38 i j < _
        unfold Wt
        rw [if_neg (fun y => y.elim (nk i hi t.1).1 (nk i hi t.1).2)]; exact q2
      · have hao2 := (hao i hi).2 h17 j
        rcases k17 i hi t.1 h17 with y | y
        · subst y; rw [show g ((57 : Nat) : Int) = h38 ((57 : Nat) : Int) from hK.2.1]; exact hao2
        · subst y; rw [show g ((68 : Nat) : Int) = h38 ((68 : Nat) : Int) from hK.2.2]; exact hao2
    · have e0 : g i = h38 i := hK.1.1 i (by omega)
      rw [e0]; exact hao i hi
  refine a_ret C Z (by decide) HF hr dX5_init_239 ⟨fun o y => ?_, fun i a b j hj hf => ?_, _, hK.1⟩
  · rw [hK.1.1 o (by omega), eH]
    rcases Int.lt_or_le o ((54 : Nat) : Int) with t | t
    · exact ups_lo bL t
    · exact ups_hi tL (by omega)
  · have hmm := hm i (show i < 98 by omega) j (by rw [show mxS (XW shC _ 98 (Wt h38)) (i : Int) = shC i from if_pos (by omega)]; exact hj)
    rw [show mxS (XW shC _ 98 (Wt h38)) (i : Int) = shC i from if_pos (by omega)] at hmm
    rw [hmm.2 hf]
    show Wt h38 i j = _
    unfold Wt
    rw [if_neg (fun y => y.elim (nk i (by omega) a).1 (nk i (by omega) a).2)]
