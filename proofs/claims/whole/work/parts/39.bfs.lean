/-! ===== the class's walk through the water ===== -/
/-- a pair of a place in the queue and a way that is done with, at place i and way v -/
def Pd (i v k u : Int) : Prop := 1 ≤ u ∧ u < 5 ∧ 0 ≤ k ∧ (k < i ∨ (k = i ∧ u < v))
section BF
variable (w hh : Int) (gr : Int → Int) (loss thick a : Int) (q : Mh)
/-- what is so at place i, way v, with e cells in the queue -/
def BI (lev : Int → Nat) (i v e : Int) (g : Mh) : Prop :=
  (∀ o j, o ≠ 119 → ¬ ((o = 117 ∨ o = 118) ∧ 48 * a ≤ j ∧ j < 48 * a + 48) → g o j = q o j) ∧
  (0 ≤ i ∧ i ≤ e ∧ 1 ≤ e ∧ e ≤ 48) ∧ (g 119 0 = a ∧ lev 0 = 0) ∧
  (∀ k, 0 ≤ k → k < e → wat w hh gr (g 119 k) ∧ Lv w hh gr loss thick a (lev k) (g 119 k) ∧ g 117 (48 * a + g 119 k) = lev k ∧ (lev k : Int) ≤ k) ∧
  (∀ k l, 0 ≤ k → k < e → 0 ≤ l → l < e → g 119 k = g 119 l → k = l) ∧
  (∀ k l, 0 ≤ k → k ≤ l → l < e → lev k ≤ lev l) ∧
  (∀ l, 0 ≤ l → l < e → i < e → lev l ≤ lev i + 1) ∧
  (∀ b, wat w hh gr b → ((∃ k, 0 ≤ k ∧ k < e ∧ g 119 k = b) ↔ (b = a ∨ ∃ k u, Pd i v k u ∧ k < e ∧ nx w hh gr (g 119 k) u = b))) ∧
  (∀ b, 0 ≤ b → b < w * hh → (¬ ∃ k, 0 ≤ k ∧ k < e ∧ g 119 k = b) → g 117 (48 * a + b) = -2 ∧ g 118 (48 * a + b) = -2) ∧
  g 118 (48 * a + a) = 0 ∧
  (∀ k, 0 < k → k < e → (∃ l u, Pd i v l u ∧ l < e ∧ nx w hh gr (g 119 l) u = g 119 k ∧ lev l + 1 = lev k ∧ g 118 (48 * a + g 119 k) = (DD w hh gr loss thick a (lev l) (g 119 l)).2 + loss + (if gr (g 119 k) = 1 then thick else 0)) ∧
    ∀ l u, Pd i v l u → l < e → nx w hh gr (g 119 l) u = g 119 k → lev l + 1 = lev k → g 118 (48 * a + g 119 k) ≤ (DD w hh gr loss thick a (lev l) (g 119 l)).2 + loss + (if gr (g 119 k) = 1 then thick else 0))
variable {w hh gr loss thick a q}
theorem BI.near (hs : szs w hh) (l0 : 0 ≤ loss) (t0 : 0 ≤ thick) {lev : Int → Nat} {i v e : Int} {g : Mh} (h : BI w hh gr loss thick a q lev i v e g) (hi : i < e) : ∀ (n : Nat), n ≤ lev i → ∀ b, wat w hh gr b → Lv w hh gr loss thick a n b → ∃ k, 0 ≤ k ∧ k < e ∧ g 119 k = b := by
  obtain ⟨_, ⟨i0, ie, e0, e1⟩, ⟨qa, la⟩, hq, hd, hso, hl1, hm, _⟩ := h
  intro n
  induction n with
  | zero =>
    intro _ b _ hb
    rw [Lv_zero] at hb
    exact ⟨0, by omega, by omega, by rw [qa]; exact hb⟩
  | succ n ih =>
    intro hn b hw hb
    have li := (hq i i0 hi).2.2.2
    obtain ⟨b0, b1, b2, _, u, u0, u1, u2, u3⟩ := (Lv_succ l0 t0 (by omega)).mp hb
    have hc : wat w hh gr (nx w hh gr b u) := by
      rcases nx_r (g := gr) (c := b) (way := u) hs with z | z
      · omega
      · exact z
    obtain ⟨k, k0, k1, ek⟩ := ih (by omega) _ hc u3
    have elk : lev k = n := Lv.uniq (by rw [← ek] at u3; exact (hq k k0 k1).2.1) (by rw [ek]; exact u3)
    have ki : k < i := by
      rcases Int.lt_or_le k i with z | z
      · exact z
      · have := hso i k i0 z k1
        omega
    refine (hm b hw).mpr (Or.inr ⟨k, opp u, ⟨opp_r.1, opp_r.2, k0, Or.inl ki⟩, k1, ?_⟩)
    rw [ek]
    exact nx_sym hs b0 b1 b2 u0 u1 u2
/-- what the cell at place i has is its weakness -/
theorem BI.weak (hs : szs w hh) (l0 : 0 ≤ loss) (t0 : 0 ≤ thick) {lev : Int → Nat} {i v e : Int} {g : Mh} (h : BI w hh gr loss thick a q lev i v e g) (hi : i < e) : g 118 (48 * a + g 119 i) = (DD w hh gr loss thick a (lev i) (g 119 i)).2 := by
  have near := h.near hs l0 t0 hi
  obtain ⟨_, ⟨i0, ie, e0, e1⟩, ⟨qa, la⟩, hq, hd, hso, hl1, hm, _, wa, hW⟩ := h
  by_cases z : i = 0
  · rw [z, qa, wa, la, DD_zero, if_pos rfl]
  · obtain ⟨⟨l, u, hp, hl, en, el, ew⟩, hmin⟩ := hW i (by omega) hi
    have li := (hq i i0 hi).2.2.2
    have hLi := (hq i i0 hi).2.1
    have hwi := (hq i i0 hi).1
    have hql := hq l hp.2.2.1 hl
    rw [← el] at hLi
    obtain ⟨⟨x, x0, x1, x2, x3, x4⟩, y⟩ := Lv_weak l0 t0 (by omega) hLi
    rw [← el, ew]
    refine Int.le_antisymm ?_ ?_
    · -- the best way is one that was done
      rw [x4]
      have hc : wat w hh gr (nx w hh gr (g 119 i) x) := by
        rcases nx_r (g := gr) (c := g 119 i) (way := x) hs with z | z
        · omega
        · exact z
      obtain ⟨k, k0, k1, ek⟩ := near (lev l) (by omega) _ hc x3
      have elk : lev k = lev l := Lv.uniq (by rw [← ek] at x3; exact (hq k k0 k1).2.1) (by rw [ek]; exact x3)
      have ki : k < i := by
        rcases Int.lt_or_le k i with z | z
        · exact z
        · have := hso i k i0 z k1
          omega
      have m := hmin k (opp x) ⟨opp_r.1, opp_r.2, k0, Or.inl ki⟩ k1 (by rw [ek]; exact nx_sym hs hwi.1 hwi.2.1 hwi.2.2 x0 x1 x2) (by omega)
      rw [ew, elk, ek] at m
      exact m
    · have hb : 0 ≤ nx w hh gr (g 119 l) u := by rw [en]; exact hwi.1
      have s := nx_sym hs hql.1.1 hql.1.2.1 hql.1.2.2 hp.1 hp.2.1 hb
      rw [en] at s
      have := y (opp u) opp_r.1 opp_r.2 (by rw [s]; exact hql.1.1) (by rw [s]; exact hql.2.1)
      rw [s] at this
      exact this
end BF
