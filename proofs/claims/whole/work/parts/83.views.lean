/-! ===== the pond that is being read, seen as if it were the one that counts ===== -/
def qv (q : Mh) : Mh := fun o j => if o = 53 then (if j = 0 then q 46 1 else q (q 46 1) 3) else if o = 0 then 56 - q 46 1 else if q 46 1 ≤ o ∧ o ≤ q 46 1 + 39 then q o j else if 98 ≤ o ∧ o ≤ 101 then q (q 46 1 + 33 + (o - 98)) j else 0
def off (o : Int) : Int := if o = 5 ∨ o = 6 then 48 else if o = 7 then 0 else if o = 8 then 3 else if o ≤ 11 then 4 else if o = 12 then 24 else if o ≤ 14 then 6 else if o ≤ 16 then 3 else if o ≤ 19 then 16 else if o ≤ 21 then 3 else if o = 22 then 9 else 64
def rv (r : Mh) : Mh := fun o j =>
  if o = 0 then (if j = 21 then r 3 0 else if j = 22 then r 3 1 else if j = 23 then r 3 2 else if j = 24 then r 0 38 else if j = 76 then r 0 30 else if j = 77 then r 0 31 else if 12 ≤ j ∧ j ≤ 20 then r 0 (j + 13) else if j = 34 ∨ j = 35 then r 0 j else 0)
  else if 5 ≤ o ∧ o ≤ 25 then r o (off o + j) else if o = 32 then r 8 (3 + j) else 0
theorem qv_same {q g : Mh} (h1 : g 46 1 = q 46 1) (h2 : ∀ o, q 46 1 ≤ o → o ≤ q 46 1 + 39 → g o = q o) : qv g = qv q := by
  funext o j
  unfold qv
  rw [h1, h2 (q 46 1) (by omega) (by omega)]
  by_cases a : o = 53
  · rw [if_pos a, if_pos a]
  rw [if_neg a, if_neg a]
  by_cases b : o = 0
  · rw [if_pos b, if_pos b]
  rw [if_neg b, if_neg b]
  by_cases c : q 46 1 ≤ o ∧ o ≤ q 46 1 + 39
  · rw [if_pos c, if_pos c, h2 o c.1 c.2]
  rw [if_neg c, if_neg c]
  by_cases d : 98 ≤ o ∧ o ≤ 101
  · rw [if_pos d, if_pos d, h2 _ (by omega) (by omega)]
  · rw [if_neg d, if_neg d]
theorem rv_same {r s : Mh} (h1 : ∀ j, 25 ≤ j → j ≤ 38 → ¬ j = 36 → ¬ j = 37 → s 0 j = r 0 j) (h2 : s 3 = r 3) (h3 : ∀ o, 5 ≤ o → o ≤ 25 → s o = r o) : rv s = rv r := by
  funext o j
  unfold rv
  rw [h1 38 (by decide) (by decide) (by decide) (by decide), h1 30 (by decide) (by decide) (by decide) (by decide), h1 31 (by decide) (by decide) (by decide) (by decide), h2, h3 8 (by decide) (by decide)]
  by_cases a : o = 0
  · rw [if_pos a, if_pos a]
    by_cases c : 12 ≤ j ∧ j ≤ 20
    · rw [if_pos c, if_pos c, h1 (j + 13) (by omega) (by omega) (by omega) (by omega)]
    · rw [if_neg c, if_neg c]
      by_cases d : j = 34 ∨ j = 35
      · rw [if_pos d, if_pos d, h1 j (by omega) (by omega) (by omega) (by omega)]
      · rw [if_neg d, if_neg d]
  · rw [if_neg a, if_neg a]
    by_cases c : 5 ≤ o ∧ o ≤ 25
    · rw [if_pos c, if_pos c, h3 o c.1 c.2]
    · rw [if_neg c, if_neg c]
/-- a cell that land may not take, as the reference marks it -/
def free (R : Mh) (c : Int) : Prop := (∀ j, 0 ≤ j → j < R 0 15 → R 14 j ≠ c) ∧ (∀ j, 0 ≤ j → j < R 0 16 → R 16 j ≠ c) ∧ (∀ j, 0 ≤ j → j < R 0 76 → R 18 j ≠ c) ∧ ∀ m, 0 ≤ m → m < R 0 19 → ∀ j, 0 ≤ j → j < R 21 m → R 22 (3 * m + j) ≠ c
/-- the pond that is being read, between two lines -/
def PP (Q R : Mh) : Prop := RPond Q R ∧ RGr Q R ∧ RDrp Q R ∧ R 0 76 ≤ 8 ∧ (R 0 34 = pop (Q (Q 53 0) 2) 48 0 ∧ R 0 34 ≤ 20) ∧ (R 0 35 = pop (Q 53 1) 48 0 ∧ R 0 35 ≤ 20) ∧ (∀ c, 0 ≤ c → c < 48 → (R 7 c = 0 ↔ free R c)) ∧ (∀ k, R 0 14 ≤ k → k < 4 → Q (Q 53 0 + 15 + 2 * k) 1 = 0) ∧ (∀ k, R 0 19 ≤ k → k < 3 → Q (Q 53 0 + 4 + 2 * k) 1 = 0)
/-- no cell is told -/
def PEmp (Q R : Mh) : Prop := R 0 18 = 0 ∧ R 0 15 = 0 ∧ R 0 16 = 0 ∧ R 0 19 = 0 ∧ R 0 76 = 0 ∧ (∀ c, 0 ≤ c → c < 64 → bit (Q (Q 53 0) 2) c = false ∧ bit (Q 53 1) c = false)
def PFlag (q r : Mh) : Prop := isP (q 46 1) ∧ q 46 2 = 0 ∧ r 0 4 = 0 ∧ q 46 3 = -1 ∧ r 0 5 = -1 ∧ q 46 5 = r 0 36 ∧ q 46 6 = r 4 0 ∧ q 46 7 = r 4 1 ∧ q 46 8 = r 4 2 ∧ q 46 9 = r 0 37 ∧ (r 0 38 = 0 → r 0 68 = 0)
theorem PFlag.same {q r g s : Mh} (h : PFlag q r) (h1 : ∀ j, 1 ≤ j → j ≤ 9 → g 46 j = q 46 j) (h2 : ∀ j, 4 ≤ j → j ≤ 5 → s 0 j = r 0 j) (h3 : ∀ j, 36 ≤ j → j ≤ 38 → s 0 j = r 0 j) (h4 : s 4 = r 4) (h5 : s 0 68 = r 0 68) : PFlag g s := by
  unfold PFlag at h ⊢
  rw [h1 1 (by decide) (by decide), h1 2 (by decide) (by decide), h1 3 (by decide) (by decide), h1 5 (by decide) (by decide), h1 6 (by decide) (by decide), h1 7 (by decide) (by decide), h1 8 (by decide) (by decide), h1 9 (by decide) (by decide), h2 4 (by decide) (by decide), h2 5 (by decide) (by decide), h3 36 (by decide) (by decide), h3 37 (by decide) (by decide), h3 38 (by decide) (by decide), h4, h5]
  exact h
/-- what reading never touches -/
def fxC (q g : Mh) : Prop := g 46 1 = q 46 1 ∧ ∀ o j, ¬ (46 ≤ o ∧ o ≤ 52 ∧ ¬ (o = 46 ∧ j = 4)) → ¬ (q 46 1 ≤ o ∧ o ≤ q 46 1 + 39) → g o j = q o j
def fxR (r s : Mh) : Prop := (∀ j, ¬ (4 ≤ j ∧ j ≤ 11) → ¬ (25 ≤ j ∧ j ≤ 38) → ¬ (62 ≤ j ∧ j ≤ 70) → s 0 j = r 0 j) ∧ s 1 = r 1 ∧ s 2 = r 2 ∧ (∀ o, 28 ≤ o → s o = r o) ∧ ∀ o j, 5 ≤ o → o ≤ 25 → ¬ o = 7 → j < off o → s o j = r o j
theorem fxC.refl (q : Mh) : fxC q q := ⟨rfl, fun _ _ _ _ => rfl⟩
theorem fxR.refl (r : Mh) : fxR r r := ⟨fun _ _ _ _ => rfl, rfl, rfl, fun _ _ => rfl, fun _ _ _ _ _ _ => rfl⟩
theorem fxC.trans {q g k : Mh} (h1 : fxC q g) (h2 : fxC g k) : fxC q k := ⟨h2.1.trans h1.1, fun o j a b => by rw [h2.2 o j a (by rw [h1.1]; exact b), h1.2 o j a b]⟩
theorem fxR.trans {r s t : Mh} (h1 : fxR r s) (h2 : fxR s t) : fxR r t := ⟨fun j a b c => by rw [h2.1 j a b c, h1.1 j a b c], h2.2.1.trans h1.2.1, h2.2.2.1.trans h1.2.2.1, fun o a => by rw [h2.2.2.2.1 o a, h1.2.2.2.1 o a], fun o j a b c d => by rw [h2.2.2.2.2 o j a b c d, h1.2.2.2.2 o j a b c d]⟩
theorem fxC_up {q g : Mh} {o k v : Int} (h : fxC q g) (a : (46 ≤ o ∧ o ≤ 52 ∧ ¬ (o = 46 ∧ k = 1) ∧ ¬ (o = 46 ∧ k = 4)) ∨ (q 46 1 ≤ o ∧ o ≤ q 46 1 + 39)) (b : isP (q 46 1)) : fxC q (up g o k v) := by
  unfold isP at b
  exact ⟨by rw [up_ne _ (by omega)]; exact h.1, fun x j c d => by rw [up_ne _ (by omega)]; exact h.2 x j c d⟩
theorem fxC_adv {q g : Mh} (h : fxC q g) (b : isP (q 46 1)) : fxC q (advC g) := by
  unfold advC
  exact fxC_up (fxC_up (fxC_up (fxC_up h (Or.inl (by omega)) b) (Or.inl (by omega)) b) (Or.inl (by omega)) b) (Or.inl (by omega)) b
theorem fxR_0 {r s : Mh} {k v : Int} (h : fxR r s) (a : (4 ≤ k ∧ k ≤ 11) ∨ (25 ≤ k ∧ k ≤ 38) ∨ (62 ≤ k ∧ k ≤ 70)) : fxR r (up s 0 k v) :=
  ⟨fun j b c d => by rw [up_slot (by omega)]; exact h.1 j b c d, by rw [up_other (by decide)]; exact h.2.1, by rw [up_other (by decide)]; exact h.2.2.1, fun o b => by rw [up_other (by omega)]; exact h.2.2.2.1 o b, fun o j b c d e => by rw [up_other (by omega)]; exact h.2.2.2.2 o j b c d e⟩
theorem fxR_3 {r s : Mh} {o k v : Int} (h : fxR r s) (a : o = 3 ∨ o = 4 ∨ o = 7 ∨ o = 26 ∨ o = 27) : fxR r (up s o k v) :=
  ⟨fun j b c d => by rw [up_other (by omega)]; exact h.1 j b c d, by rw [up_other (by omega)]; exact h.2.1, by rw [up_other (by omega)]; exact h.2.2.1, fun x b => by rw [up_other (by omega)]; exact h.2.2.2.1 x b, fun x j b c d e => by rw [up_other (by omega)]; exact h.2.2.2.2 x j b c d e⟩
theorem fxR_5 {r s : Mh} {o k v : Int} (h : fxR r s) (a : 5 ≤ o) (b : o ≤ 25) (c : off o ≤ k) : fxR r (up s o k v) :=
  ⟨fun j x y z => by rw [up_other (by omega)]; exact h.1 j x y z, by rw [up_other (by omega)]; exact h.2.1, by rw [up_other (by omega)]; exact h.2.2.1, fun x y => by rw [up_other (by omega)]; exact h.2.2.2.1 x y, fun x j y z d e => by
    rw [up_ne _ (fun w => by rw [w.1, w.2] at e; omega)]; exact h.2.2.2.2 x j y z d e⟩
theorem fxR_tok {r s : Mh} (h : fxR r s) : fxR r (tokR s) := by
  refine ⟨fun j a b c => by rw [tokR_j (by omega)]; exact h.1 j a b c, by rw [tokR_o (by decide)]; exact h.2.1, by rw [tokR_o (by decide)]; exact h.2.2.1, fun o a => by rw [tokR_o (by omega)]; exact h.2.2.2.1 o a, fun o j a b c d => by rw [tokR_o (by omega)]; exact h.2.2.2.2 o j a b c d⟩
theorem qv_adv {q : Mh} (b : isP (q 46 1)) : qv (advC q) = qv q := by
  unfold isP at b
  exact qv_same (by rw [advC_o (by decide)]) (fun o c d => advC_o (by omega))
theorem rv_tok {r : Mh} : rv (tokR r) = rv r := rv_same (fun j a b _ _ => tokR_j (by omega)) (tokR_o (by decide)) (fun o a b => tokR_o (by omega))
