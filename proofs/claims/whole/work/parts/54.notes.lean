/-! ===== which notes are known and not struck ===== -/
def kby (r : Mh) : Int := if 0 ≤ r 0 85 then r 0 85 else r 0 84
/-- struck, behind n of them from i downward; t: what a strike strikes -/
def stk (t : Int → Int) : Nat → Int → (Int → Bool) → Int → Bool
  | 0, _, f => f
  | n + 1, i, f => stk t n (i - 1) (if f i = false ∧ 0 ≤ t i then (fun j => if j = t i then true else f j) else f)
theorem stk_congr {t u : Int → Int} : ∀ (n : Nat) (i : Int) (f : Int → Bool), (∀ j, i - n < j → j ≤ i → t j = u j) → stk t n i f = stk u n i f := by
  intro n
  induction n with
  | zero => intro i f _; rfl
  | succ n ih =>
    intro i f h
    unfold stk
    rw [h i (by omega) (by omega), ih (i - 1) _ (fun j h1 h2 => h j (by omega) (by omega))]
/-- notes that tell: neither strikes nor struck -/
def kept (r : Mh) (i : Int) : Bool := (!(stk (fun j => if r 34 (3 * j) < 0 then r 34 (3 * j + 2) else -1) (kby r).toNat (kby r - 1) (fun _ => false) i)) && decide (0 ≤ r 34 (3 * i))
theorem kby_r {q r : Mh} (hN : RNotes q r) : 0 ≤ kby r ∧ kby r ≤ 32 ∧ kby r ≤ r 0 84 := by
  obtain ⟨a, b, c, d, e, f, _⟩ := hN
  unfold kby
  split <;> omega
theorem wi_knownByC {q r : Mh} (hN : RNotes q r) (K : Int → Mh → Prop) : wp_X4_knownBy q K = K (kby r) q := by
  unfold wp_X4_knownBy kby
  rw [hN.1, hN.2.2.2.1]
  split <;> rfl
theorem wi_knownByR {r : Mh} (K : Int → Mh → Prop) : wp_X14_knownBy r K = K (kby r) r := by
  unfold wp_X14_knownBy kby
  split <;> rfl
def fr35 (r s : Mh) : Prop := ∀ o, o ≠ 35 → s o = r o
theorem fr35.kb {r s : Mh} (h : fr35 r s) : kby s = kby r := by unfold kby; rw [h 0 (by decide)]
theorem fr35.sc {r s : Mh} (h : fr35 r s) : sameR r s := fun o j a b => by rw [h o (by omega)]
theorem sp_layCounts {q r : Mh} {K : Mh → Prop} (hN : RNotes q r) (hk : ∀ s, fr35 r s → (∀ i, 0 ≤ i → i < kby r → (s 35 i = 0 ↔ kept r i = false)) → K s) : wp_X14_layCounts r K := by
  have hb := kby_r hN
  have hno : ∀ i, 0 ≤ i → i < kby r → (0 ≤ r 34 (3 * i)) ∨ (r 34 (3 * i) < 0 ∧ 0 ≤ r 34 (3 * i + 2) ∧ r 34 (3 * i + 2) < i) := by
    intro i i0 i1
    rcases hN.2.2.2.2.2.2 i i0 (by omega) with ⟨a, b, c, _⟩ | ⟨a, b, c, d⟩
    · left; omega
    · right; omega
  let t : Int → Int := fun j => if r 34 (3 * j) < 0 then r 34 (3 * j + 2) else -1
  let F : Int → Bool := stk t (kby r).toNat (kby r - 1) (fun _ => false)
  have l3 : ∀ (n : Nat) (i : Int) (s : Mh), 0 ≤ i → i + n = kby r → fr35 r s → (∀ j, 0 ≤ j → j < i → (s 35 j = 0 ↔ kept r j = false)) → (∀ j, i ≤ j → j < kby r → (s 35 j = 0 ↔ F j = true)) → Lfp (F_X14_layCounts K) (78, [i], s) := by
    intro n
    induction n with
    | zero =>
      intro i s i0 hn f h1 h2
      apply L_X14_layCounts_78
      unfold B_X14_layCounts_78
      rw [wi_knownByR, f.kb, if_pos (by omega)]
      exact hk s f (fun j j0 j1 => h1 j j0 (by omega))
    | succ n ih =>
      intro i s i0 hn f h1 h2
      apply L_X14_layCounts_78
      unfold B_X14_layCounts_78
      rw [wi_knownByR, f.kb, if_neg (by omega), f 34 (by decide), w32_eq (x := 3 * i) (by omega) (by omega)]
      refine ⟨⟨i0, by omega⟩, ?_⟩
      have hF := h2 i (by omega) (by omega)
      have nx : ∀ v : Int, (v = 0 ↔ kept r i = false) → ∀ s1, s1 = up s 35 i v → ∀ x : Int, x = w32 (i + 1) → Lfp (F_X14_layCounts K) (78, [x], s1) := by
        intro v hv s1 e1 x ex
        rw [w32_eq (by omega) (by omega)] at ex
        subst ex
        refine ih (i + 1) s1 (by omega) (by omega) (fun o ho => by rw [e1, up_other ho, f o ho]) (fun j j0 j1 => ?_) (fun j j0 j1 => ?_)
        · rw [e1]
          by_cases z : j = i
          · rw [z, up_self]; exact hv
          · rw [up_slot z]; exact h1 j j0 (by omega)
        · rw [e1, up_slot (by omega)]; exact h2 j (by omega) j1
      by_cases k : s 35 i = 0
      · rw [if_pos k]
        refine ⟨⟨i0, by omega⟩, nx 0 ?_⟩
        have : F i = true := hF.mp k
        have e : kept r i = false := by
          show (!(F i) && _) = false
          rw [this]; rfl
        exact ⟨fun _ => e, fun _ => rfl⟩
      · rw [if_neg k]
        refine ⟨⟨by omega, by omega⟩, ?_⟩
        have hf : F i = false := by
          cases z : F i
          · rfl
          · exact absurd (hF.mpr z) k
        by_cases k2 : r 34 (3 * i) < 0
        · rw [if_pos k2]
          refine ⟨⟨i0, by omega⟩, nx 0 ?_⟩
          have e : kept r i = false := by
            show (!(F i) && decide (0 ≤ r 34 (3 * i))) = false
            rw [decide_eq_false (by omega)]; simp
          exact ⟨fun _ => e, fun _ => rfl⟩
        · rw [if_neg k2]
          refine ⟨⟨i0, by omega⟩, nx 1 ?_⟩
          have e : kept r i = true := by
            show (!(F i) && decide (0 ≤ r 34 (3 * i))) = true
            rw [hf, decide_eq_true (by omega)]; rfl
          rw [e]
          exact ⟨fun z => absurd z (by decide), fun z => by cases z⟩
  have l2 : ∀ (n : Nat) (i : Int) (s : Mh) (g : Int → Bool), i + 1 = n → i < kby r → fr35 r s → (∀ j, 0 ≤ j → j < kby r → (s 35 j = 0 ↔ g j = true)) → stk t n i g = F → Lfp (F_X14_layCounts K) (30, [i], s) := by
    intro n
    induction n with
    | zero =>
      intro i s g hn hi f h1 hF
      apply L_X14_layCounts_30
      unfold B_X14_layCounts_30
      rw [if_pos (by omega)]
      refine l3 (kby r).toNat 0 s (by omega) (by omega) f (fun j a b => by omega) (fun j j0 j1 => ?_)
      rw [h1 j j0 j1, ← hF]; rfl
    | succ n ih =>
      intro i s g hn hi f h1 hF
      apply L_X14_layCounts_30
      unfold B_X14_layCounts_30
      rw [if_neg (by omega), f 34 (by decide), w32_eq (x := 3 * i) (by omega) (by omega), w32_eq (x := 3 * i + 2) (by omega) (by omega)]
      refine ⟨⟨by omega, by omega⟩, ?_⟩
      unfold stk at hF
      have hg := h1 i (by omega) hi
      have same : (¬ (g i = false ∧ 0 ≤ t i)) → ∀ x : Int, x = w32 (i + -1) → Lfp (F_X14_layCounts K) (30, [x], s) := by
        intro hc x ex
        rw [w32_eq (by omega) (by omega)] at ex
        subst ex
        rw [if_neg hc] at hF
        exact ih (i + -1) s g (by omega) (by omega) f h1 hF
      by_cases k : s 35 i = 0
      · rw [if_pos k]
        exact same (fun z => by rw [hg.mp k] at z; cases z.1)
      · rw [if_neg k]
        refine ⟨⟨by omega, by omega⟩, ?_⟩
        have gi : g i = false := by
          cases z : g i
          · rfl
          · exact absurd (hg.mpr z) k
        by_cases k2 : 0 ≤ r 34 (3 * i)
        · rw [if_pos k2]
          refine same (fun z => ?_)
          have : t i = -1 := if_neg (by omega)
          have := z.2
          omega
        · rw [if_neg k2]
          have ti : t i = r 34 (3 * i + 2) := if_pos (by omega)
          rcases hno i (by omega) hi with z | ⟨z1, z2, z3⟩
          · exact absurd z k2
          · refine ⟨⟨by omega, by omega⟩, ⟨z2, by omega⟩, ?_⟩
            intro s1 e1 x ex
            rw [w32_eq (by omega) (by omega)] at ex
            subst ex
            rw [if_pos ⟨gi, by omega⟩] at hF
            refine ih (i + -1) s1 _ (by omega) (by omega) (fun o ho => by rw [e1, up_other ho, f o ho]) (fun j j0 j1 => ?_) hF
            rw [e1, ti]
            by_cases y : j = r 34 (3 * i + 2)
            · rw [y, up_self, if_pos rfl]; simp
            · rw [up_slot y, if_neg y]; exact h1 j j0 j1
  have l1 : ∀ (n : Nat) (i : Int) (s : Mh), 0 ≤ i → i + n = kby r → fr35 r s → (∀ j, 0 ≤ j → j < i → s 35 j = 1) → Lfp (F_X14_layCounts K) (2, [i], s) := by
    intro n
    induction n with
    | zero =>
      intro i s i0 hn f h1
      apply L_X14_layCounts_2
      unfold B_X14_layCounts_2
      rw [wi_knownByR, f.kb, if_pos (by omega), wi_knownByR, f.kb]
      intro x ex
      rw [w32_eq (by omega) (by omega)] at ex
      subst ex
      refine l2 (kby r).toNat (kby r - 1) s (fun _ => false) (by omega) (by omega) f (fun j j0 j1 => ?_) rfl
      rw [h1 j j0 (by omega)]; simp
    | succ n ih =>
      intro i s i0 hn f h1
      apply L_X14_layCounts_2
      unfold B_X14_layCounts_2
      rw [wi_knownByR, f.kb, if_neg (by omega)]
      refine ⟨⟨i0, by omega⟩, ?_⟩
      intro s1 e1 x ex
      rw [w32_eq (by omega) (by omega)] at ex
      subst ex
      refine ih (i + 1) s1 (by omega) (by omega) (fun o ho => by rw [e1, up_other ho, f o ho]) (fun j j0 j1 => ?_)
      rw [e1]
      by_cases z : j = i
      · rw [z, up_self]
      · rw [up_slot z]; exact h1 j j0 (by omega)
  exact l1 (kby r).toNat 0 r (by omega) (by omega) (fun _ _ => rfl) (fun j a b => by omega)
/-- the row of the notes that tell -/
def frS (q g : Mh) : Prop := ∀ o, ¬ (112 ≤ o ∧ o ≤ 114) → g o = q o
def sightsOK (r g : Mh) : Prop := 0 ≤ g 113 1 ∧ g 113 1 ≤ 32 ∧ (∀ j, 0 ≤ j → j < g 113 1 → 0 ≤ g 114 j ∧ g 114 j < kby r ∧ kept r (g 114 j) = true) ∧ ∀ i, 0 ≤ i → i < kby r → kept r i = true → ∃ j, 0 ≤ j ∧ j < g 113 1 ∧ g 114 j = i
theorem frS.sc {q g : Mh} (h : frS q g) : sameC q g := fun o j a b c d => by rw [h o a]
theorem sp_knownSights {q r : Mh} {K : Int → Mh → Prop} (hN : RNotes q r) (hk : ∀ g, frS q g → sightsOK r g → K 113 g) : wp_X4_knownSights q K := by
  have hb := kby_r hN
  have hno : ∀ i, 0 ≤ i → i < kby r → (q 111 i = -1 ∧ 0 ≤ r 34 (3 * i)) ∨ (0 ≤ q 111 i ∧ q 111 i < i ∧ r 34 (3 * i) < 0 ∧ r 34 (3 * i + 2) = q 111 i) := by
    intro i i0 i1
    rcases hN.2.2.2.2.2.2 i i0 (by omega) with ⟨a, b, c, _⟩ | ⟨a, b, c, d⟩
    · left; omega
    · right; omega
  let t : Int → Int := fun j => if r 34 (3 * j) < 0 then r 34 (3 * j + 2) else -1
  have ht : ∀ i, 0 ≤ i → i < kby r → t i = q 111 i := by
    intro i i0 i1
    rcases hno i i0 i1 with ⟨a, b⟩ | ⟨a, b, c, d⟩
    · show (if _ then _ else _) = _
      rw [if_neg (by omega), a]
    · show (if _ then _ else _) = _
      rw [if_pos c, d]
  let F : Int → Bool := stk t (kby r).toNat (kby r - 1) (fun _ => false)
  have hkept : ∀ i, 0 ≤ i → i < kby r → (kept r i = true ↔ (F i = false ∧ q 111 i = -1)) := by
    intro i i0 i1
    show ((!(F i) && decide (0 ≤ r 34 (3 * i))) = true) ↔ _
    rcases hno i i0 i1 with ⟨a, b⟩ | ⟨a, b, c, d⟩
    · rw [decide_eq_true b, a]
      cases F i <;> simp
    · rw [decide_eq_false (by omega)]
      constructor
      · intro z; simp at z
      · intro z; have := z.2; omega
  have l3 : ∀ (n : Nat) (i : Int) (g : Mh), 0 ≤ i → i + n = kby r → frS q g → (∀ j, 0 ≤ j → j < kby r → (g 112 j = 0 ↔ F j = false)) → 0 ≤ g 113 1 → g 113 1 ≤ i → (∀ j, 0 ≤ j → j < g 113 1 → 0 ≤ g 114 j ∧ g 114 j < i ∧ kept r (g 114 j) = true) → (∀ k, 0 ≤ k → k < i → kept r k = true → ∃ j, 0 ≤ j ∧ j < g 113 1 ∧ g 114 j = k) → Lfp (F_X4_knownSights K) (93, [kby r, i], g) := by
    intro n
    induction n with
    | zero =>
      intro i g i0 hn f h0 c0 c1 h1 h2
      apply L_X4_knownSights_93
      unfold B_X4_knownSights_93
      rw [if_pos (by omega)]
      refine hk g f ⟨c0, by omega, fun j j0 j1 => ?_, fun k k0 k1 hk => h2 k k0 (by omega) hk⟩
      have := h1 j j0 j1
      exact ⟨this.1, by omega, this.2.2⟩
    | succ n ih =>
      intro i g i0 hn f h0 c0 c1 h1 h2
      apply L_X4_knownSights_93
      unfold B_X4_knownSights_93
      rw [if_neg (by omega)]
      refine ⟨⟨i0, by omega⟩, ?_⟩
      have hz := h0 i i0 (by omega)
      have hkp := hkept i i0 (by omega)
      have skip : kept r i = false → ∀ x : Int, x = w32 (i + 1) → Lfp (F_X4_knownSights K) (93, [kby r, x], g) := by
        intro hf x ex
        rw [w32_eq (by omega) (by omega)] at ex
        subst ex
        refine ih (i + 1) g (by omega) (by omega) f h0 c0 (by omega) (fun j j0 j1 => by have := h1 j j0 j1; exact ⟨this.1, by omega, this.2.2⟩) (fun k k0 k1 hk => ?_)
        by_cases z : k = i
        · rw [z, hf] at hk; cases hk
        · exact h2 k k0 (by omega) hk
      by_cases k : g 112 i = 0
      · rw [if_neg (fun z => z k)]
        refine ⟨⟨i0, by omega⟩, ?_⟩
        rw [f 111 (by decide)]
        by_cases k2 : q 111 i = -1
        · rw [if_neg (fun z => z k2)]
          have hkt : kept r i = true := hkp.mpr ⟨hz.mp k, k2⟩
          unfold wp_X7_add
          have s32 : (shC (113 + 1)).2 = 32 := rfl
          rw [if_neg (by omega), s32, if_neg (show ¬ ((32 : Nat) : Int) ≤ g 113 1 by omega)]
          refine ⟨⟨c0, by omega⟩, ?_⟩
          intro g1 e1 g2 e2 x ex
          rw [w32_eq (by omega) (by omega)] at ex
          subst ex
          have e1' : g1 = up g 114 (g 113 1) i := e1
          have m1 : g1 113 1 = g 113 1 := by rw [e1', up_other (by decide)]
          rw [m1, w32_eq (by omega) (by omega)] at e2
          have m2 : g2 113 1 = g 113 1 + 1 := by rw [e2, up_self]
          have m3 : ∀ j, g2 114 j = if j = g 113 1 then i else g 114 j := by
            intro j
            rw [e2, up_other (by decide), e1']
            by_cases z : j = g 113 1
            · rw [if_pos z, z, up_self]
            · rw [if_neg z, up_slot z]
          refine ih (i + 1) g2 (by omega) (by omega) (fun o ho => by rw [e2, up_other (by omega), e1', up_other (by omega), f o ho]) (fun j j0 j1 => by rw [e2, up_other (by decide), e1', up_other (by decide)]; exact h0 j j0 j1) (by omega) (by omega) (fun j j0 j1 => ?_) (fun k k0 k1 hk => ?_)
          · rw [m2] at j1
            rw [m3]
            by_cases z : j = g 113 1
            · rw [if_pos z]; exact ⟨i0, by omega, hkt⟩
            · rw [if_neg z]
              have := h1 j j0 (by omega)
              exact ⟨this.1, by omega, this.2.2⟩
          · by_cases z : k = i
            · exact ⟨g 113 1, c0, by omega, by rw [m3, if_pos rfl, z]⟩
            · obtain ⟨j, j0, j1, j2⟩ := h2 k k0 (by omega) hk
              exact ⟨j, j0, by omega, by rw [m3, if_neg (by omega), j2]⟩
        · rw [if_pos k2]
          refine skip ?_
          cases z : kept r i
          · rfl
          · exact absurd (hkp.mp z).2 k2
      · rw [if_pos k]
        refine skip ?_
        cases z : kept r i
        · rfl
        · exact absurd (hz.mpr (hkp.mp z).1) k
  have l2 : ∀ (n : Nat) (i : Int) (g : Mh) (m : Int → Bool), i + 1 = n → i < kby r → frS q g → (∀ j, 0 ≤ j → j < kby r → (g 112 j = 0 ↔ m j = false)) → stk t n i m = F → Lfp (F_X4_knownSights K) (34, [kby r, i], g) := by
    intro n
    induction n with
    | zero =>
      intro i g m hn hi f h1 hF
      apply L_X4_knownSights_34
      unfold B_X4_knownSights_34 wp_X7_clear
      rw [if_pos (by omega)]
      intro g1 e1
      have m1 : g1 113 1 = 0 := by rw [e1, up_self]
      refine l3 (kby r).toNat 0 g1 (by omega) (by omega) (fun o ho => by rw [e1, up_other (by omega), f o ho]) (fun j j0 j1 => ?_) (by omega) (by omega) (fun j a b => by omega) (fun j a b => by omega)
      rw [e1, up_other (by decide), h1 j j0 j1, ← hF]; rfl
    | succ n ih =>
      intro i g m hn hi f h1 hF
      apply L_X4_knownSights_34
      unfold B_X4_knownSights_34
      rw [if_neg (by omega), f 111 (by decide)]
      refine ⟨⟨by omega, by omega⟩, ?_⟩
      unfold stk at hF
      have hg := h1 i (by omega) hi
      have hti := ht i (by omega) hi
      have same : (¬ (m i = false ∧ 0 ≤ t i)) → ∀ x : Int, x = w32 (i + -1) → Lfp (F_X4_knownSights K) (34, [kby r, x], g) := by
        intro hc x ex
        rw [w32_eq (by omega) (by omega)] at ex
        subst ex
        rw [if_neg hc] at hF
        exact ih (i + -1) g m (by omega) (by omega) f h1 hF
      by_cases k : g 112 i = 0
      · rw [if_neg (fun z => z k)]
        refine ⟨⟨by omega, by omega⟩, ?_⟩
        by_cases k2 : q 111 i < 0
        · rw [if_pos k2]
          exact same (fun z => by have := z.2; omega)
        · rw [if_neg k2]
          refine ⟨⟨by omega, by omega⟩, ?_⟩
          rcases hno i (by omega) hi with ⟨a, b⟩ | ⟨a, b, c, d⟩
          · omega
          · rw [if_neg (by omega)]
            refine ⟨⟨by omega, by omega⟩, ⟨a, by omega⟩, ?_⟩
            intro g1 e1 x ex
            rw [w32_eq (by omega) (by omega)] at ex
            subst ex
            rw [if_pos ⟨hg.mp k, by omega⟩] at hF
            refine ih (i + -1) g1 _ (by omega) (by omega) (fun o ho => by rw [e1, up_other (by omega), f o ho]) (fun j j0 j1 => ?_) hF
            rw [e1, hti]
            by_cases y : j = q 111 i
            · rw [y, up_self, if_pos rfl]; simp
            · rw [up_slot y, if_neg y]; exact h1 j j0 j1
      · rw [if_pos k]
        exact same (fun z => k (hg.mpr z.1))
  have l1 : ∀ (n : Nat) (i : Int) (g : Mh), 0 ≤ i → i + n = kby r → frS q g → (∀ j, 0 ≤ j → j < i → g 112 j = 0) → Lfp (F_X4_knownSights K) (12, [kby r, i], g) := by
    intro n
    induction n with
    | zero =>
      intro i g i0 hn f h1
      apply L_X4_knownSights_12
      unfold B_X4_knownSights_12
      rw [if_pos (by omega)]
      intro x ex
      rw [w32_eq (by omega) (by omega)] at ex
      subst ex
      refine l2 (kby r).toNat (kby r - 1) g (fun _ => false) (by omega) (by omega) f (fun j j0 j1 => ?_) rfl
      rw [h1 j j0 (by omega)]; simp
    | succ n ih =>
      intro i g i0 hn f h1
      apply L_X4_knownSights_12
      unfold B_X4_knownSights_12
      rw [if_neg (by omega)]
      refine ⟨⟨i0, by omega⟩, ?_⟩
      intro g1 e1 x ex
      rw [w32_eq (by omega) (by omega)] at ex
      subst ex
      refine ih (i + 1) g1 (by omega) (by omega) (fun o ho => by rw [e1, up_other (by omega), f o ho]) (fun j j0 j1 => ?_)
      rw [e1]
      by_cases z : j = i
      · rw [z, up_self]
      · rw [up_slot z]; exact h1 j j0 (by omega)
  unfold wp_X4_knownSights
  rw [wi_knownByC hN]
  intro x ex
  rw [if_neg (by omega)] at ex
  subst ex
  exact l1 (kby r).toNat 0 q (by omega) (by omega) (fun _ _ => rfl) (fun j a b => by omega)
