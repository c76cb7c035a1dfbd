/-! ===== levels of cells: what the layers say ===== -/
section LV0
variable {w hh : Int} {g : Int → Int} {loss thick a : Int}
theorem DD_zero {b : Int} : DD w hh g loss thick a 0 b = if a = b then (0, 0) else (999, 0) := rfl
theorem DD_succ {n : Nat} {b : Int} : DD w hh g loss thick a (n + 1) b = if 0 ≤ b ∧ b < w * hh then stp w hh g loss thick (DD w hh g loss thick a n) ((n : Int) + 1) b else DD w hh g loss thick a n b := rfl
/-- b lies n steps from a -/
def Lv (w hh : Int) (g : Int → Int) (loss thick a : Int) (n : Nat) (b : Int) : Prop := (DD w hh g loss thick a n b).1 = n
theorem DD_fst : ∀ (n : Nat) (b : Int), (DD w hh g loss thick a n b).1 = 999 ∨ (0 ≤ (DD w hh g loss thick a n b).1 ∧ (DD w hh g loss thick a n b).1 ≤ n) := by
  intro n
  induction n with
  | zero => intro b; rw [DD_zero]; split <;> simp
  | succ n ih =>
    intro b
    rw [DD_succ]
    have h := ih b
    split
    · unfold stp
      split
      · omega
      · split
        · split
          · right; dsimp only; omega
          · omega
        · omega
    · omega
theorem DD_keep {n : Nat} {b : Int} (h : (DD w hh g loss thick a n b).1 ≤ n) : ∀ k : Nat, DD w hh g loss thick a (n + k) b = DD w hh g loss thick a n b := by
  intro k
  induction k with
  | zero => rfl
  | succ k ih =>
    show DD w hh g loss thick a (n + k + 1) b = _
    rw [DD_succ]
    split
    · unfold stp
      rw [ih]
      split
      · rfl
      · rw [if_neg (by omega)]
    · exact ih
theorem Lv.later {n m : Nat} {b : Int} (h : Lv w hh g loss thick a n b) (hm : n ≤ m) : DD w hh g loss thick a m b = DD w hh g loss thick a n b := by
  have := DD_keep (w := w) (hh := hh) (g := g) (loss := loss) (thick := thick) (a := a) (n := n) (b := b) (by unfold Lv at h; omega) (m - n)
  rw [show n + (m - n) = m by omega] at this
  exact this
theorem Lv.uniq {n m : Nat} {b : Int} (h1 : Lv w hh g loss thick a n b) (h2 : Lv w hh g loss thick a m b) : n = m := by
  rcases Nat.le_total n m with q | q
  · have e := h1.later q
    unfold Lv at h1 h2
    rw [e, h1] at h2
    omega
  · have e := h2.later q
    unfold Lv at h1 h2
    rw [e, h2] at h1
    omega
theorem Lv_zero {b : Int} : Lv w hh g loss thick a 0 b ↔ a = b := by
  unfold Lv
  rw [DD_zero]
  split
  · simp_all
  · simp_all
/-- what bst finds -/
theorem bst_spec {D : Int → Int × Int} {n b : Int} (l0 : 0 ≤ loss) (t0 : 0 ≤ thick) (hD : ∀ c, 0 ≤ (D c).2) : ∀ (k : Nat) (way best : Int), -1 ≤ best →
    (0 ≤ bst w hh g loss thick D n b k way best ↔ (0 ≤ best ∨ ∃ v, way ≤ v ∧ v < way + k ∧ 0 ≤ nx w hh g b v ∧ (D (nx w hh g b v)).1 = n - 1)) ∧
    (0 ≤ bst w hh g loss thick D n b k way best → ((0 ≤ best ∧ bst w hh g loss thick D n b k way best = best) ∨ ∃ v, way ≤ v ∧ v < way + k ∧ 0 ≤ nx w hh g b v ∧ (D (nx w hh g b v)).1 = n - 1 ∧ bst w hh g loss thick D n b k way best = (D (nx w hh g b v)).2 + loss + (if g b = 1 then thick else 0)) ∧
      (0 ≤ best → bst w hh g loss thick D n b k way best ≤ best) ∧ ∀ v, way ≤ v → v < way + k → 0 ≤ nx w hh g b v → (D (nx w hh g b v)).1 = n - 1 → bst w hh g loss thick D n b k way best ≤ (D (nx w hh g b v)).2 + loss + (if g b = 1 then thick else 0)) := by
  intro k
  induction k with
  | zero =>
    intro way best hb
    simp only [bst]
    refine ⟨⟨fun h => Or.inl h, fun h => ?_⟩, fun h => ⟨Or.inl ⟨h, trivial⟩, fun _ => Int.le_refl _, fun v v0 v1 => ?_⟩⟩
    · rcases h with h | ⟨v, v0, v1, _⟩
      · exact h
      · omega
    · omega
  | succ k ih =>
    intro way best hb
    unfold bst
    have ht : 0 ≤ (if g b = 1 then thick else 0) := by split <;> omega
    have hc := hD (nx w hh g b way)
    by_cases c0 : nx w hh g b way < 0
    · rw [if_pos c0]
      obtain ⟨i1, i2⟩ := ih (way + 1) best hb
      refine ⟨i1.trans ⟨fun h => ?_, fun h => ?_⟩, fun h => ?_⟩
      · rcases h with h | ⟨v, v0, v1, v2, v3⟩
        · exact Or.inl h
        · exact Or.inr ⟨v, by omega, by omega, v2, v3⟩
      · rcases h with h | ⟨v, v0, v1, v2, v3⟩
        · exact Or.inl h
        · have : v ≠ way := fun e => by subst e; omega
          exact Or.inr ⟨v, by omega, by omega, v2, v3⟩
      · obtain ⟨j1, j2, j3⟩ := i2 h
        refine ⟨?_, j2, fun v v0 v1 v2 v3 => ?_⟩
        · rcases j1 with j | ⟨v, v0, v1, v2, v3, v4⟩
          · exact Or.inl j
          · exact Or.inr ⟨v, by omega, by omega, v2, v3, v4⟩
        · have : v ≠ way := fun e => by subst e; omega
          exact j3 v (by omega) (by omega) v2 v3
    · rw [if_neg c0]
      by_cases c1 : (D (nx w hh g b way)).1 = n - 1
      · rw [if_pos c1]
        -- the new best
        have nb : ∀ best2 : Int, 0 ≤ best2 → best2 ≤ (D (nx w hh g b way)).2 + loss + (if g b = 1 then thick else 0) → (0 ≤ best → best2 ≤ best) → (best2 = (D (nx w hh g b way)).2 + loss + (if g b = 1 then thick else 0) ∨ (0 ≤ best ∧ best2 = best)) →
            (0 ≤ bst w hh g loss thick D n b k (way + 1) best2 ↔ (0 ≤ best ∨ ∃ v, way ≤ v ∧ v < way + (k + 1 : Nat) ∧ 0 ≤ nx w hh g b v ∧ (D (nx w hh g b v)).1 = n - 1)) ∧
            (0 ≤ bst w hh g loss thick D n b k (way + 1) best2 → ((0 ≤ best ∧ bst w hh g loss thick D n b k (way + 1) best2 = best) ∨ ∃ v, way ≤ v ∧ v < way + (k + 1 : Nat) ∧ 0 ≤ nx w hh g b v ∧ (D (nx w hh g b v)).1 = n - 1 ∧ bst w hh g loss thick D n b k (way + 1) best2 = (D (nx w hh g b v)).2 + loss + (if g b = 1 then thick else 0)) ∧
              (0 ≤ best → bst w hh g loss thick D n b k (way + 1) best2 ≤ best) ∧ ∀ v, way ≤ v → v < way + (k + 1 : Nat) → 0 ≤ nx w hh g b v → (D (nx w hh g b v)).1 = n - 1 → bst w hh g loss thick D n b k (way + 1) best2 ≤ (D (nx w hh g b v)).2 + loss + (if g b = 1 then thick else 0)) := by
          intro best2 e0 e1 e2 e3
          obtain ⟨i1, i2⟩ := ih (way + 1) best2 (by omega)
          have pos : 0 ≤ bst w hh g loss thick D n b k (way + 1) best2 := i1.mpr (Or.inl e0)
          refine ⟨⟨fun _ => Or.inr ⟨way, by omega, by omega, by omega, c1⟩, fun _ => pos⟩, fun h => ?_⟩
          obtain ⟨j1, j2, j3⟩ := i2 h
          have j2' := j2 e0
          refine ⟨?_, fun z => by have := e2 z; omega, fun v v0 v1 v2 v3 => ?_⟩
          · rcases j1 with ⟨_, j⟩ | ⟨v, v0, v1, v2, v3, v4⟩
            · rcases e3 with e3 | ⟨e4, e5⟩
              · exact Or.inr ⟨way, by omega, by omega, by omega, c1, by omega⟩
              · exact Or.inl ⟨e4, by omega⟩
            · exact Or.inr ⟨v, by omega, by omega, v2, v3, v4⟩
          · by_cases q : v = way
            · subst q; omega
            · exact j3 v (by omega) (by omega) v2 v3
        by_cases c2 : best < 0
        · rw [if_pos c2]
          exact nb _ (by omega) (by omega) (fun z => by omega) (Or.inl rfl)
        · rw [if_neg c2]
          by_cases c3 : best ≤ (D (nx w hh g b way)).2 + loss + (if g b = 1 then thick else 0)
          · rw [if_pos c3]
            exact nb _ (by omega) c3 (fun _ => Int.le_refl _) (Or.inr ⟨by omega, rfl⟩)
          · rw [if_neg c3]
            exact nb _ (by omega) (by omega) (fun _ => by omega) (Or.inl rfl)
      · rw [if_neg c1]
        obtain ⟨i1, i2⟩ := ih (way + 1) best hb
        refine ⟨i1.trans ⟨fun h => ?_, fun h => ?_⟩, fun h => ?_⟩
        · rcases h with h | ⟨v, v0, v1, v2, v3⟩
          · exact Or.inl h
          · exact Or.inr ⟨v, by omega, by omega, v2, v3⟩
        · rcases h with h | ⟨v, v0, v1, v2, v3⟩
          · exact Or.inl h
          · have : v ≠ way := fun e => by subst e; exact c1 v3
            exact Or.inr ⟨v, by omega, by omega, v2, v3⟩
        · obtain ⟨j1, j2, j3⟩ := i2 h
          refine ⟨?_, j2, fun v v0 v1 v2 v3 => ?_⟩
          · rcases j1 with j | ⟨v, v0, v1, v2, v3, v4⟩
            · exact Or.inl j
            · exact Or.inr ⟨v, by omega, by omega, v2, v3, v4⟩
          · have : v ≠ way := fun e => by subst e; exact c1 v3
            exact j3 v (by omega) (by omega) v2 v3
/-- the next level: cells of the water beside one of this level, that are of no level so far -/
theorem Lv_succ (l0 : 0 ≤ loss) (t0 : 0 ≤ thick) {n : Nat} (hn : n < 900) {b : Int} : Lv w hh g loss thick a (n + 1) b ↔ (0 ≤ b ∧ b < w * hh ∧ ¬ g b = 2 ∧ (DD w hh g loss thick a n b).1 = 999 ∧ ∃ v, 1 ≤ v ∧ v < 5 ∧ 0 ≤ nx w hh g b v ∧ Lv w hh g loss thick a n (nx w hh g b v)) := by
  have hf := DD_fst (w := w) (hh := hh) (g := g) (loss := loss) (thick := thick) (a := a) n b
  have hs := (bst_spec (w := w) (hh := hh) (g := g) (D := DD w hh g loss thick a n) (n := (n : Int) + 1) (b := b) l0 t0 (fun c => (DD_le l0 t0 n c).1) 4 1 (-1) (by omega)).1
  have e1 : (n : Int) + 1 - 1 = n := by omega
  have hs1 := hs.mp
  have hs2 := hs.mpr
  clear hs
  unfold Lv
  rw [DD_succ]
  constructor
  · intro h
    clear hs2
    by_cases hr : 0 ≤ b ∧ b < w * hh
    · rw [if_pos hr] at h
      unfold stp at h
      by_cases h2 : g b = 2
      · rw [if_pos h2] at h
        clear hs1
        omega
      · rw [if_neg h2] at h
        by_cases h3 : (n : Int) + 1 ≤ (DD w hh g loss thick a n b).1
        · rw [if_pos h3] at h
          have h6 : (DD w hh g loss thick a n b).1 = 999 := by clear hs1 h; omega
          by_cases h4 : 0 ≤ bst w hh g loss thick (DD w hh g loss thick a n) ((n : Int) + 1) b 4 1 (-1)
          · obtain h5 | ⟨v, v0, v1, v2, v3⟩ := hs1 h4
            · exact absurd h5 (by decide)
            · clear hs1
              exact ⟨hr.1, hr.2, h2, h6, v, v0, by omega, v2, by rw [v3, e1]⟩
          · rw [if_neg h4] at h
            clear hs1
            omega
        · rw [if_neg h3] at h
          clear hs1
          omega
    · rw [if_neg hr] at h
      clear hs1
      omega
  · rintro ⟨h0, h1, h2, h3, v, v0, v1, v2, v3⟩
    have p := hs2 (Or.inr ⟨v, v0, by clear hs1 hs2; omega, v2, by rw [v3, e1]⟩)
    clear hs1 hs2
    rw [if_pos ⟨h0, h1⟩]
    unfold stp
    rw [if_neg h2, if_pos (by omega), if_pos p]
    show (n : Int) + 1 = ((n + 1 : Nat) : Int)
    omega
theorem Lv_weak (l0 : 0 ≤ loss) (t0 : 0 ≤ thick) {n : Nat} (hn : n < 900) {b : Int} (h : Lv w hh g loss thick a (n + 1) b) :
    (∃ v, 1 ≤ v ∧ v < 5 ∧ 0 ≤ nx w hh g b v ∧ Lv w hh g loss thick a n (nx w hh g b v) ∧ (DD w hh g loss thick a (n + 1) b).2 = (DD w hh g loss thick a n (nx w hh g b v)).2 + loss + (if g b = 1 then thick else 0)) ∧
    ∀ v, 1 ≤ v → v < 5 → 0 ≤ nx w hh g b v → Lv w hh g loss thick a n (nx w hh g b v) → (DD w hh g loss thick a (n + 1) b).2 ≤ (DD w hh g loss thick a n (nx w hh g b v)).2 + loss + (if g b = 1 then thick else 0) := by
  obtain ⟨h0, h1, h2, h3, v, v0, v1, v2, v3⟩ := (Lv_succ l0 t0 hn).mp h
  obtain ⟨s1, s2⟩ := bst_spec (w := w) (hh := hh) (g := g) (D := DD w hh g loss thick a n) (n := (n : Int) + 1) (b := b) l0 t0 (fun c => (DD_le l0 t0 n c).1) 4 1 (-1) (by omega)
  have e1 : (n : Int) + 1 - 1 = n := by omega
  have s3 := s1.mpr
  clear s1
  have pos := s3 (Or.inr ⟨v, v0, by clear s3 s2; omega, v2, by rw [e1]; exact v3⟩)
  clear s3
  have e : DD w hh g loss thick a (n + 1) b = ((n : Int) + 1, bst w hh g loss thick (DD w hh g loss thick a n) ((n : Int) + 1) b 4 1 (-1)) := by
    rw [DD_succ, if_pos ⟨h0, h1⟩]
    unfold stp
    rw [if_neg h2, if_pos (by clear s2; omega), if_pos pos]
  obtain ⟨j1, j2, j3⟩ := s2 pos
  clear s2
  rw [e]
  refine ⟨?_, fun u u0 u1 u2 u3 => j3 u u0 (by omega) u2 (by rw [e1]; exact u3)⟩
  rcases j1 with ⟨j, _⟩ | ⟨u, u0, u1, u2, u3, u4⟩
  · omega
  · exact ⟨u, u0, by omega, u2, by rw [e1] at u3; exact u3, u4⟩
end LV0
