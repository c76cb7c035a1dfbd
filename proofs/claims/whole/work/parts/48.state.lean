/-! ===== cell, fall, cut, undo, keep, back ===== -/
def frD (q g : Mh) : Prop := ∀ o j, ¬ (98 ≤ o ∧ o ≤ 106) → ¬ (o = 53 ∧ j ≠ 0) → g o j = q o j
def frE (r s : Mh) : Prop := ∀ o j, ¬ (o = 5 ∨ (17 ≤ o ∧ o ≤ 19) ∨ o = 30 ∨ o = 31 ∨ o = 33 ∨ o = 39 ∨ o = 40) → ¬ (o = 0 ∧ (j = 2 ∨ j = 76 ∨ j = 82 ∨ j = 96 ∨ j = 97)) → s o j = r o j
theorem frD.row {q g : Mh} (h : frD q g) {o : Int} (a : ¬ (98 ≤ o ∧ o ≤ 106)) (b : o ≠ 53) : g o = q o := by
  funext j
  exact h o j a (fun z => b z.1)
theorem frE.row {r s : Mh} (h : frE r s) {o : Int} (a : ¬ (o = 5 ∨ (17 ≤ o ∧ o ≤ 19) ∨ o = 30 ∨ o = 31 ∨ o = 33 ∨ o = 39 ∨ o = 40)) (b : o ≠ 0) : s o = r o := by
  funext j
  exact h o j a (fun z => b z.1)
theorem frD.pond {q g : Mh} (h : frD q g) (hp : isP (q 53 0)) : pondEq q g := by
  refine ⟨h 53 0 (by decide) (by decide), fun o h1 h2 => ?_⟩
  rcases hp with e | e
  · exact h.row (by omega) (by omega)
  · exact h.row (by omega) (by omega)
theorem frE.ref {r s : Mh} (h : frE r s) (h5 : ∀ c, 0 ≤ c → c < 48 → (s 5 c = 2 ↔ r 5 c = 2)) : refEq r s :=
  ⟨fun j h1 h2 => h 0 j (by decide) (by omega), h 0 77 (by decide) (by decide), fun o h1 h2 h3 => h.row (by omega) (by omega), h.row (by decide) (by decide), h.row (by decide) (by decide), h5⟩
theorem Core.ofD {q r g s : Mh} (h : Core q r) (hq : frD q g) (hr : frE r s) (h5 : ∀ c, 0 ≤ c → c < 48 → (s 5 c = 2 ↔ r 5 c = 2)) (a1 : RGr g s) (a2 : RDrp g s) (a3 : RImg g s) (a4 : RUnd g s) (a5 : wayR s) : Core g s := by
  obtain ⟨b1, b2, b3, b4, b5, b6, b7, b8, b9, b10, b11⟩ := h
  have hP := hq.pond b3.1.1
  have hR := hr.ref h5
  have q0 : ∀ j, g 0 j = q 0 j := fun j => hq 0 j (by decide) (by omega)
  refine ⟨b1.same (q0 1) (hq.row (by decide) (by decide)) (hr 0 1 (by decide) (by decide)) (hr.row (by decide) (by decide)), b2.same (hq.row (by decide) (by decide)) (hr 0 4 (by decide) (by decide)) (hr 0 5 (by decide) (by decide)), b3.same hP (q0 2) hR, a1, a2, a3, a4, ?_, ?_, a5, ?_⟩
  · exact b8.same (fun b h1 h2 => hq.row (by omega) (by omega)) (hr.row (by decide) (by decide)) (hr 0 15 (by decide) (by decide)) (hr 0 84 (by decide) (by decide)) (hr 0 85 (by decide) (by decide))
  · rw [hr 0 79 (by decide) (by decide)]; exact b9
  · rw [hr.row (o := 2) (by decide) (by decide)]; exact b11
theorem wayR_wayT (r : Mh) : wayR (wayT r) := by
  have e : FA (wayT r) = FA r := by
    funext a b
    unfold FA
    have e0 : ∀ j, wayT r 0 j = r 0 j := fun j => by simp [wayT]
    have e5 : wayT r 5 = r 5 := by funext j; simp [wayT]
    rw [e0, e0, e0, e0, e5]
  intro a b a0 a1 b0 b1
  rw [e]
  unfold wayT
  constructor
  · rw [if_pos ⟨rfl, by omega, by omega⟩, show (48 * a + b) / 48 = a by omega, show (48 * a + b) % 48 = b by omega]
  · rw [if_neg (by omega), if_pos ⟨rfl, by omega, by omega⟩, show (48 * a + b) / 48 = a by omega, show (48 * a + b) % 48 = b by omega]
theorem wayT_ne (r : Mh) {o : Int} (h1 : o ≠ 30) (h2 : o ≠ 31) : wayT r o = r o := by
  funext j
  unfold wayT
  rw [if_neg (fun z => h1 z.1), if_neg (fun z => h2 z.1)]
/-! ===== what can be undone ===== -/
def remF (f : Int → Int) (n c : Int) : Int → Int := fun i => if n = 20 then (if i = 19 then c else f (i + 1)) else (if i = n then c else f i)
def remN (n : Int) : Int := if n = 20 then 20 else n + 1
theorem cnt1_snoc {f : Int → Int} {v : Int} : ∀ (n : Nat) (i : Int), cnt1 f v (n + 1) i = cnt1 f v n i + (if f (i + n) = v then 1 else 0) := by
  intro n
  induction n with
  | zero => intro i; simp [cnt1]
  | succ n ih =>
    intro i
    have h := ih (i + 1)
    show (if f i = v then 1 else 0) + cnt1 f v (n + 1) (i + 1) = ((if f i = v then 1 else 0) + cnt1 f v n (i + 1)) + (if f (i + ((n + 1 : Nat) : Int)) = v then 1 else 0)
    rw [h, show i + ((n + 1 : Nat) : Int) = i + 1 + n by omega]
    omega
theorem cnt1_shift {f : Int → Int} {v : Int} : ∀ (n : Nat) (i : Int), cnt1 (fun j => f (j + 1)) v n i = cnt1 f v n (i + 1) := by
  intro n
  induction n with
  | zero => intro i; rfl
  | succ n ih =>
    intro i
    unfold cnt1
    rw [ih]
theorem cnt1_rem {f : Int → Int} {n c : Int} (n0 : 0 ≤ n) (n1 : n ≤ 20) : cnt1 (remF f n c) (-1) (remN n).toNat 0 ≤ cnt1 f (-1) n.toNat 0 + (if c = -1 then 1 else 0) := by
  unfold remN
  by_cases h : n = 20
  · rw [if_pos h, h, show (20 : Int).toNat = 19 + 1 from rfl, cnt1_snoc 19 0]
    have e1 : remF f 20 c (0 + ((19 : Nat) : Int)) = c := by unfold remF; rw [if_pos rfl, if_pos (by omega)]
    have e2 : cnt1 (remF f 20 c) (-1) 19 0 = cnt1 (fun j => f (j + 1)) (-1) 19 0 := cnt1_congr 19 0 (fun j j0 j1 => by unfold remF; rw [if_pos rfl, if_neg (by omega)])
    rw [e1, e2, cnt1_shift]
    have e3 : cnt1 f (-1) (19 + 1) 0 = (if f 0 = -1 then 1 else 0) + cnt1 f (-1) 19 (0 + 1) := rfl
    rw [e3]
    split <;> split <;> omega
  · rw [if_neg h, show (n + 1).toNat = n.toNat + 1 by omega, cnt1_snoc]
    have e1 : remF f n c (0 + (n.toNat : Int)) = c := by unfold remF; rw [if_neg h, if_pos (by omega)]
    have e2 : cnt1 (remF f n c) (-1) n.toNat 0 = cnt1 f (-1) n.toNat 0 := cnt1_congr _ 0 (fun j j0 j1 => by unfold remF; rw [if_neg h, if_neg (by omega)])
    rw [e1, e2]
    exact Int.le_refl _
theorem sp_rememberC {c : Int} {q : Mh} {K : Mh → Prop} (h0 : 0 ≤ q 53 7) (h1 : q 53 7 ≤ 20) (hk : ∀ g, (∀ o j, o ≠ 106 → ¬ (o = 53 ∧ j = 7) → g o j = q o j) → g 53 7 = remN (q 53 7) → (∀ i, 0 ≤ i → i < remN (q 53 7) → g 106 i = remF (q 106) (q 53 7) c i) → K g) : wp_X11_remember c q K := by
  unfold wp_X11_remember
  by_cases h : q 53 7 < 20
  · rw [if_pos h]
    refine ⟨⟨h0, h⟩, ?_⟩
    intro g1 e1 g2 e2
    have f1 : g1 53 7 = q 53 7 := by rw [e1, up_other (by decide)]
    rw [f1, w32_eq (by omega) (by omega)] at e2
    refine hk g2 (fun o j a b => ?_) ?_ (fun i i0 i1 => ?_)
    · rw [e2, up_ne _ b, e1, up_other a]
    · rw [e2, up_self]; unfold remN; rw [if_neg (by omega)]
    · rw [e2, up_other (by decide), e1]
      unfold remF remN at *
      rw [if_neg (by omega)]
      by_cases e : i = q 53 7
      · rw [if_pos e, e, up_self]
      · rw [if_neg e, up_slot e]
  · rw [if_neg h]
    have e20 : q 53 7 = 20 := by omega
    have loop : ∀ (n : Nat) (i : Int) (g : Mh), 1 ≤ i → i + n = 20 → (∀ o j, o ≠ 106 → g o j = q o j) → (∀ j, 0 ≤ j → j < i - 1 → g 106 j = q 106 (j + 1)) → (∀ j, i - 1 ≤ j → g 106 j = q 106 j) → Lfp (F_X11_remember c K) (11, [i], g) := by
      intro n
      induction n with
      | zero =>
        intro i g i0 hn hg ha hb
        apply L_X11_remember_11
        unfold B_X11_remember_11
        rw [if_pos (by omega)]
        intro g1 e1
        have f1 : g1 53 7 = 19 := by rw [e1, up_self]
        rw [f1]
        refine ⟨⟨by decide, by decide⟩, ?_⟩
        intro g2 e2 g3 e3
        have f2 : g2 53 7 = 19 := by rw [e2, up_other (by decide), f1]
        rw [f2, w32_eq (by omega) (by omega)] at e3
        refine hk g3 (fun o j a b => ?_) ?_ (fun j j0 j1 => ?_)
        · rw [e3, up_ne _ b, e2, up_other a, e1, up_ne _ b, hg o j a]
        · rw [e3, up_self, e20]; rfl
        · rw [e20] at j1
          have j2 : j < 20 := j1
          rw [e3, up_other (by decide), e2]
          unfold remF
          rw [if_pos e20]
          by_cases e : j = 19
          · rw [if_pos e, e, up_self]
          · rw [if_neg e, up_slot e, e1, up_other (by decide), ha j j0 (by omega)]
      | succ n ih =>
        intro i g i0 hn hg ha hb
        apply L_X11_remember_11
        unfold B_X11_remember_11
        rw [if_neg (by omega), w32_eq (x := i - 1) (by omega) (by omega)]
        refine ⟨⟨by omega, by omega⟩, ⟨by omega, by omega⟩, ?_⟩
        intro g1 e1 x ex
        rw [w32_eq (by omega) (by omega)] at ex
        subst ex
        refine ih (i + 1) g1 (by omega) (by omega) (fun o j a => by rw [e1, up_other a, hg o j a]) (fun j j0 j1 => ?_) (fun j j0 => ?_)
        · rw [e1]
          by_cases e : j = i - 1
          · rw [e, up_self, hb i (by omega), show i - 1 + 1 = i by omega]
          · rw [up_slot e, ha j j0 (by omega)]
        · rw [e1, up_slot (by omega), hb j (by omega)]
    exact loop 19 1 q (by omega) (by omega) (fun _ _ _ => rfl) (fun j a b => by omega) (fun _ _ => rfl)
theorem sp_rememberR {c : Int} {r : Mh} {K : Mh → Prop} (h0 : 0 ≤ r 0 82) (h1 : r 0 82 ≤ 20) (hk : ∀ g, (∀ o j, o ≠ 33 → ¬ (o = 0 ∧ j = 82) → g o j = r o j) → g 0 82 = remN (r 0 82) → (∀ i, 0 ≤ i → i < remN (r 0 82) → g 33 i = remF (r 33) (r 0 82) c i) → K g) : wp_X14_remember c r K := by
  unfold wp_X14_remember
  by_cases h : r 0 82 = 20
  · rw [if_neg (fun z => z h)]
    have loop : ∀ (n : Nat) (i : Int) (g : Mh), 0 ≤ i → i + n = 19 → (∀ o j, o ≠ 33 → g o j = r o j) → (∀ j, 0 ≤ j → j < i → g 33 j = r 33 (j + 1)) → (∀ j, i ≤ j → g 33 j = r 33 j) → Lfp (F_X14_remember c K) (11, [i], g) := by
      intro n
      induction n with
      | zero =>
        intro i g i0 hn hg ha hb
        apply L_X14_remember_11
        unfold B_X14_remember_11
        rw [if_pos (by omega)]
        intro g1 e1
        rw [hg 0 82 (by decide), h, w32_eq (by omega) (by omega)] at e1
        have f1 : g1 0 82 = 19 := by rw [e1, up_self]; rfl
        rw [f1]
        refine ⟨⟨by decide, by decide⟩, ?_⟩
        intro g2 e2 g3 e3
        have f2 : g2 0 82 = 19 := by rw [e2, up_other (by decide), f1]
        rw [f2, w32_eq (by omega) (by omega)] at e3
        refine hk g3 (fun o j a b => ?_) ?_ (fun j j0 j1 => ?_)
        · rw [e3, up_ne _ b, e2, up_other a, e1, up_ne _ b, hg o j a]
        · rw [e3, up_self, h]; rfl
        · rw [h] at j1
          have j2 : j < 20 := j1
          rw [e3, up_other (by decide), e2]
          unfold remF
          rw [if_pos h]
          by_cases e : j = 19
          · rw [if_pos e, e, up_self]
          · rw [if_neg e, up_slot e, e1, up_other (by decide), ha j j0 (by omega)]
      | succ n ih =>
        intro i g i0 hn hg ha hb
        apply L_X14_remember_11
        unfold B_X14_remember_11
        rw [if_neg (by omega), w32_eq (x := i + 1) (by omega) (by omega)]
        refine ⟨⟨by omega, by omega⟩, ⟨by omega, by omega⟩, ?_⟩
        intro g1 e1 x ex
        subst ex
        refine ih (i + 1) g1 (by omega) (by omega) (fun o j a => by rw [e1, up_other a, hg o j a]) (fun j j0 j1 => ?_) (fun j j0 => ?_)
        · rw [e1]
          by_cases e : j = i
          · rw [e, up_self, hb (i + 1) (by omega)]
          · rw [up_slot e, ha j j0 (by omega)]
        · rw [e1, up_slot (by omega), hb j (by omega)]
    exact loop 19 0 r (by omega) (by omega) (fun _ _ _ => rfl) (fun j a b => by omega) (fun _ _ => rfl)
  · rw [if_pos h]
    refine ⟨⟨h0, by omega⟩, ?_⟩
    intro g1 e1 g2 e2
    have f1 : g1 0 82 = r 0 82 := by rw [e1, up_other (by decide)]
    rw [f1, w32_eq (by omega) (by omega)] at e2
    refine hk g2 (fun o j a b => ?_) ?_ (fun i i0 i1 => ?_)
    · rw [e2, up_ne _ b, e1, up_other a]
    · rw [e2, up_self]; unfold remN; rw [if_neg h]
    · rw [e2, up_other (by decide), e1]
      unfold remF remN at *
      rw [if_neg h]
      by_cases e : i = r 0 82
      · rw [if_pos e, e, up_self]
      · rw [if_neg e, up_slot e]
theorem RUnd.push {q r g s : Mh} {c : Int} (h : RUnd q r) (hp : prm r) (hR : refEq r s) (hc : c = -1 ∨ watR r c) (e1 : g 53 7 = remN (q 53 7)) (e2 : ∀ i, 0 ≤ i → i < remN (q 53 7) → g 106 i = remF (q 106) (q 53 7) c i) (e3 : s 0 82 = remN (r 0 82)) (e4 : ∀ i, 0 ≤ i → i < remN (r 0 82) → s 33 i = remF (r 33) (r 0 82) c i) (e5 : s 0 76 = r 0 76 + (if c = -1 then 1 else 0)) : RUnd g s := by
  obtain ⟨a1, a2, a3, a4, a5⟩ := h
  have rn : 0 ≤ remN (r 0 82) ∧ remN (r 0 82) ≤ 20 := by unfold remN; split <;> omega
  refine ⟨by rw [e1, e3, a1], by rw [e3]; exact rn.1, by rw [e3]; exact rn.2, fun i i0 i1 => ?_, ?_⟩
  · rw [e3] at i1
    rw [e2 i i0 (by rw [a1]; exact i1), e4 i i0 i1, a1]
    unfold remF remN at *
    by_cases k : r 0 82 = 20
    · rw [if_pos k, if_pos k]
      rw [if_pos k] at i1
      by_cases z : i = 19
      · rw [if_pos z, if_pos z]
        exact ⟨rfl, hc.imp id (fun y => (hR.wr hp).mpr y)⟩
      · rw [if_neg z, if_neg z]
        have := a4 (i + 1) (by omega) (by omega)
        exact ⟨this.1, this.2.imp id (fun y => (hR.wr hp).mpr y)⟩
    · rw [if_neg k, if_neg k]
      rw [if_neg k] at i1
      by_cases z : i = r 0 82
      · rw [if_pos z, if_pos z]
        exact ⟨rfl, hc.imp id (fun y => (hR.wr hp).mpr y)⟩
      · rw [if_neg z, if_neg z]
        have := a4 i i0 (by omega)
        exact ⟨this.1, this.2.imp id (fun y => (hR.wr hp).mpr y)⟩
  · rw [e3, cnt1_congr (g := remF (r 33) (r 0 82) c) _ 0 (fun j j0 j1 => e4 j j0 (by omega)), e5]
    have := cnt1_rem (f := r 33) (n := r 0 82) (c := c) a2 a3
    omega
/-! ===== cell ===== -/
theorem fst1_r {f : Int → Int} {v : Int} : ∀ (n : Nat) (i : Int), (fst1 f v n i = -1 ∧ ∀ j, i ≤ j → j < i + n → f j ≠ v) ∨ (i ≤ fst1 f v n i ∧ fst1 f v n i < i + n ∧ f (fst1 f v n i) = v) := by
  intro n
  induction n with
  | zero => intro i; left; exact ⟨rfl, fun j a b => by omega⟩
  | succ n ih =>
    intro i
    unfold fst1
    by_cases e : f i = v
    · right; rw [if_pos e]; exact ⟨by omega, by omega, e⟩
    · rw [if_neg e]
      rcases ih (i + 1) with ⟨a, b⟩ | ⟨a, b, c⟩
      · left
        refine ⟨a, fun j j0 j1 => ?_⟩
        by_cases z : j = i
        · rw [z]; exact e
        · exact b j (by omega) (by omega)
      · right; exact ⟨by omega, by omega, c⟩
theorem sp_cork {a b : Int} {r : Mh} {K : Int → Mh → Prop} (h0 : 0 ≤ r 0 15) (h1 : r 0 15 ≤ 6) (hk : K (fst1 (r 14) a (r 0 15).toNat 0) r) : Lfp (F_X14_cell a b K) (73, [0], r) := by
  have loop : ∀ (n : Nat) (i : Int), 0 ≤ i → i + n = r 0 15 → K (fst1 (r 14) a n i) r → Lfp (F_X14_cell a b K) (73, [i], r) := by
    intro n
    induction n with
    | zero =>
      intro i i0 hn hk
      apply L_X14_cell_73
      unfold B_X14_cell_73
      rw [if_pos (by omega), if_pos (by omega)]
      exact hk
    | succ n ih =>
      intro i i0 hn hk
      apply L_X14_cell_73
      unfold B_X14_cell_73
      rw [if_neg (by omega)]
      refine ⟨⟨i0, by omega⟩, ?_⟩
      unfold fst1 at hk
      by_cases e : r 14 i = a
      · rw [if_pos e, if_neg (by omega)]
        rw [if_pos e] at hk
        exact hk
      · rw [if_neg e]
        rw [if_neg e] at hk
        intro x ex
        rw [w32_eq (by omega) (by omega)] at ex
        subst ex
        exact ih (i + 1) (by omega) (by omega) hk
  exact loop (r 0 15).toNat 0 (by omega) (by omega) hk
theorem sp_dropsIn {a b : Int} {r : Mh} {K : Int → Mh → Prop} (h0 : 0 ≤ r 0 76) (h1 : r 0 76 ≤ 16) (hk : K (cnt1 (r 18) a (r 0 76).toNat 0) r) : Lfp (F_X14_cell a b K) (118, [0, 0], r) := by
  have loop : ∀ (n : Nat) (i v : Int), 0 ≤ i → i + n = r 0 76 → 0 ≤ v → v ≤ i → K (v + cnt1 (r 18) a n i) r → Lfp (F_X14_cell a b K) (118, [v, i], r) := by
    intro n
    induction n with
    | zero =>
      intro i v i0 hn v0 v1 hk
      apply L_X14_cell_118
      unfold B_X14_cell_118
      rw [if_pos (by omega)]
      unfold cnt1 at hk
      simpa using hk
    | succ n ih =>
      intro i v i0 hn v0 v1 hk
      apply L_X14_cell_118
      unfold B_X14_cell_118
      rw [if_neg (by omega)]
      refine ⟨⟨i0, by omega⟩, ?_⟩
      unfold cnt1 at hk
      by_cases e : r 18 i = a
      · rw [if_neg (fun z => z e)]
        rw [if_pos e] at hk
        intro x ex y ey
        rw [w32_eq (by omega) (by omega)] at ex ey
        subst ex; subst ey
        refine ih (i + 1) (v + 1) (by omega) (by omega) (by omega) (by omega) ?_
        rw [Int.add_assoc]; exact hk
      · rw [if_pos e]
        rw [if_neg e] at hk
        intro x ex y ey
        rw [w32_eq (by omega) (by omega)] at ex ey
        subst ex; subst ey
        refine ih (i + 1) (v + 0) (by omega) (by omega) (by omega) (by omega) ?_
        rw [Int.add_assoc]; exact hk
  exact loop (r 0 76).toNat 0 0 (by omega) (by omega) (by omega) (by omega) (by simpa using hk)
theorem op_cell {q r : Mh} (a b : Int) (h : Rel q r) : wp_X13_cell a b q (fun x q' => wp_X14_cell a b r (fun y r' => x = y ∧ Rel q' r')) := by
  have hd := h.1.2.2.1.1
  have hg := h.1.2.2.2.1
  have hm := szs_mul hd.2.2.2.2.1.1
  have h0 : Rel q (up r 0 2 0) := h.thrown (sameR.thrown r)
  have hs := hd.2.2.2.2.1.1
  have er : ∀ o, o ≠ 0 → up r 0 2 0 o = r o := fun o ho => up_other ho
  have e0 : ∀ j, j ≠ 2 → up r 0 2 0 0 j = r 0 j := fun j hj => up_slot hj
  unfold wp_X13_cell
  refine ⟨isP_4 hd.1, ?_⟩
  rw [wi_cellC hd]
  by_cases ka : 0 ≤ a ∧ a < r 0 12 * r 0 13
  · rw [if_pos ka, if_pos (by decide)]
    by_cases b0 : b = 0
    · rw [if_pos b0]
      refine ⟨isP_4 hd.1, ?_⟩
      have ref : ∀ x, x = r 5 a → wp_X14_cell a b r (fun y r' => x = y ∧ Rel q r') := by
        intro x ex
        unfold wp_X14_cell
        intro r1 e1
        subst e1
        rw [wi_cellT hs, if_pos ka, if_pos (by decide), if_pos b0, er 5 (by decide)]
        exact ⟨⟨ka.1, by omega⟩, ex, h0⟩
      rw [wi_wet hd hg]
      have eg := hg.1 a ka.1 (by omega)
      by_cases kw : watR r a
      · rw [if_pos kw, if_neg (by decide), wi_hasReeds ka.1 (by omega)]
        have n2 : ¬ cg q a = 2 := fun z => kw.2.2 (by rw [eg]; exact z)
        have c1 := cg_1 n2
        by_cases kr : bit (q 53 1) a = true
        · rw [if_pos kr, if_neg (by decide)]
          exact ref 1 (by rw [eg]; exact (c1.mpr kr).symm)
        · rw [if_neg kr, if_pos rfl]
          refine ref 0 ?_
          rw [eg]
          unfold cg at n2 ⊢
          by_cases kl : bit (q (q 53 0) 2) a = true
          · rw [if_pos kl] at n2; exact absurd rfl n2
          · rw [if_neg kl, if_neg kr]
      · rw [if_neg kw, if_pos rfl]
        refine ref 2 ?_
        by_cases z : r 5 a = 2
        · exact z.symm
        · exact absurd ⟨ka.1, ka.2, z⟩ kw
    · rw [if_neg b0]
      by_cases b1 : b = 1
      · rw [if_pos b1]
        refine ⟨isP_4 hd.1, ?_⟩
        have hS := h.1.2.2.1.2.1
        have h3 := hS.2.1
        have hsz : (shC (q 53 0 + 1 + 1)).2 = 3 := (isP_shr hd.1).2
        have ref : ∀ x, (x = if r 6 a = 0 then 0 else 1) → wp_X14_cell a b r (fun y r' => x = y ∧ Rel q r') := by
          intro x ex
          unfold wp_X14_cell
          intro r1 e1
          subst e1
          rw [wi_cellT hs, if_pos ka, if_pos (by decide), if_neg b0, if_pos b1, er 6 (by decide)]
          refine ⟨⟨ka.1, by omega⟩, ?_⟩
          by_cases z : r 6 a = 0
          · rw [if_pos z] at ex ⊢; exact ⟨ex, h0⟩
          · rw [if_neg z] at ex ⊢; exact ⟨ex, h0⟩
        refine sp_indexOf (by rw [hS.1.1]; exact hS.1.2.1) (by rw [hS.1.1, hsz]; exact h3) (by rw [hS.1.1]; omega) ?_
        have h6 := hS.2.2.2.1 a ka.1 (by omega)
        rcases fst1_r (f := q (q 53 0 + 1 + 1)) (v := a) (q (q 53 0 + 1) 1).toNat 0 with ⟨z, y⟩ | ⟨z, y, w⟩
        · rw [z, if_pos (by decide)]
          refine ref 0 ?_
          rw [if_pos]
          refine h6.mpr (fun j j0 j1 => ?_)
          have := y j j0 (by rw [hS.1.1]; omega)
          rw [hS.1.2.2 j j0 j1] at this
          simpa using this
        · rw [if_neg (by omega)]
          refine ref 1 ?_
          rw [if_neg]
          intro hz
          have y2 : fst1 (q (q 53 0 + 1 + 1)) a (q (q 53 0 + 1) 1).toNat 0 < r 0 18 := by rw [hS.1.1] at y ⊢; have := hS.1.2.1; omega
          have := h6.mp hz _ z y2
          rw [hS.1.2.2 _ z y2] at w
          simp at w
          exact this w
      · rw [if_neg b1]
        by_cases b2 : b = 2
        · rw [if_pos b2]
          refine ⟨isP_4 hd.1, ?_⟩
          have hK := h.1.2.2.1.2.2.2.1
          have h6 := hK.2.1
          have hsz : (shC (q 53 0 + 27 + 1)).2 = 6 := by rcases hd.1 with e | e <;> rw [e] <;> decide
          refine sp_indexOf (by rw [hK.2.2.1.1]; exact hK.1.2.1) (by rw [hK.2.2.1.1, hsz]; exact h6) (by rw [hK.2.2.1.1]; omega) ?_
          unfold wp_X14_cell
          intro r1 e1
          subst e1
          rw [wi_cellT hs, if_pos ka, if_pos (by decide), if_neg b0, if_neg b1, if_pos b2]
          refine sp_cork (by rw [e0 15 (by decide)]; exact hK.1.2.1) (by rw [e0 15 (by decide)]; exact h6) ?_
          rw [e0 15 (by decide), er 14 (by decide), hK.2.2.1.1]
          refine ⟨fst1_congr _ 0 (fun j j0 j1 => ?_), h0⟩
          rw [hK.2.2.1.2.2 j j0 (by omega)]
          simp
        · rw [if_neg b2]
          by_cases b3 : b = 3
          · rw [if_pos b3]
            have h5 := h.1.2.2.2.2.1
            have h6 := h5.2.2.1
            have h7 := h5.2.1
            refine sp_inCell (by rw [h5.1]; exact h7) (by rw [h5.1]; exact h6) (by rw [h5.1]; omega) ?_
            unfold wp_X14_cell
            intro r1 e1
            subst e1
            rw [wi_cellT hs, if_pos ka, if_pos (by decide), if_neg b0, if_neg b1, if_neg b2, if_pos b3]
            refine sp_dropsIn (by rw [e0 76 (by decide)]; exact h7) (by rw [e0 76 (by decide)]; exact h6) ?_
            rw [e0 76 (by decide), er 18 (by decide), h5.1]
            exact ⟨cnt1_congr _ 0 (fun j j0 j1 => (h5.2.2.2 j j0 (by omega)).2.1), h0⟩
          · rw [if_neg b3]
            unfold wp_X14_cell
            intro r1 e1
            subst e1
            rw [wi_cellT hs, if_pos ka, if_pos (by decide), if_neg b0, if_neg b1, if_neg b2, if_neg b3]
            exact ⟨rfl, h0⟩
  · rw [if_neg ka, if_neg (fun z => z rfl)]
    unfold wp_X14_cell
    intro r1 e1
    subst e1
    rw [wi_cellT hs, if_neg ka, if_neg (fun z => z rfl)]
    exact ⟨rfl, h0⟩
