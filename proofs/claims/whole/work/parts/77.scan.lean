/-! ===== the class's scan ===== -/
theorem up_up {h : Mh} {o k a b : Int} : up (up h o k a) o k b = up h o k b := by
  funext x j
  unfold up
  by_cases z : x = o ∧ j = k
  · rw [if_pos z, if_pos z]
  · rw [if_neg z, if_neg z, if_neg z]
/-- a token of the class against one of the reference -/
def tRel (t v k w : Int) : Prop := (t = 1 ∧ k = 3 ∧ 0 ≤ v ∧ v ≤ 1000000 ∧ 0 ≤ w ∧ w ≤ 1000000 ∧ (v = w ∨ (9999 < v ∧ 9999 < w))) ∨ (t = 2 ∧ k = 2 ∧ v = w ∧ 0 ≤ w ∧ w < 1073741824) ∨ (t = 3 ∧ k = 1 ∧ 0 ≤ w ∧ w < 22 ∧ v = wl (ix w)) ∨ (t = 4 ∧ k = 5 ∧ 0 ≤ w ∧ w ≤ 5 ∧ v = 9 + w) ∨ (t = 4 ∧ k = 4 ∧ ((w = 59 ∧ v = 21) ∨ (w = 40 ∧ v = 19) ∨ (w = 41 ∧ v = 20) ∨ (w = 43 ∧ v = 15) ∨ (w = 45 ∧ v = 16) ∨ (w = 42 ∧ v = 17) ∨ (w = 47 ∧ v = 18))) ∨ (t = 5 ∧ (k = 6 ∨ (k = 4 ∧ w = 37)))
/-- the reference's bytes and the class's -/
def byt (B C : Int → Int) (n : Int) : Prop := ∀ j, 0 ≤ j → j < n → B j = C j % 256 ∧ -128 ≤ C j ∧ C j < 128
theorem byt.s {B C : Int → Int} {n j : Int} (h : byt B C n) (a : 0 ≤ j) (b : j < n) : isS (C j) = isS (B j) := by
  have := h j a b
  unfold isS; exact decide_eq_decide.mpr (by omega)
theorem byt.d {B C : Int → Int} {n j : Int} (h : byt B C n) (a : 0 ≤ j) (b : j < n) : isD (C j) = isD (B j) := by
  have := h j a b
  unfold isD; exact decide_eq_decide.mpr (by omega)
theorem byt.e {B C : Int → Int} {n j : Int} (h : byt B C n) (a : 0 ≤ j) (b : j < n) {x : Int} (x0 : 0 ≤ x) (x1 : x < 128) : C j = x ↔ B j = x := by
  have := h j a b
  omega
theorem wi_byteAt {h : Mh} {p : Int} (p0 : 0 ≤ p) (hn : h 49 5 ≤ 800) (K : Int → Mh → Prop) : wp_X10_byteAt p h K = K (if p < h 49 5 then h 1 p else 0) h := by
  unfold wp_X10_byteAt
  rw [if_neg (by omega)]
  by_cases z : h 49 5 ≤ p
  · rw [if_pos z, if_neg (by omega)]
  · rw [if_neg z, if_neg (by omega), if_pos (by omega)]
    exact propext ⟨fun y => y.2, fun y => ⟨⟨p0, by omega⟩, y⟩⟩
theorem wi_isLetter {c : Int} {h : Mh} (K : Int → Mh → Prop) : wp_X10_isLetter c h K = K (b01 (isS c)) h := by
  unfold wp_X10_isLetter isS
  by_cases a : c < 97
  · rw [if_pos a, decide_eq_false (by omega)]; rfl
  · rw [if_neg a]
    by_cases b : 122 < c
    · rw [if_pos b, decide_eq_false (by omega)]; rfl
    · rw [if_neg b, decide_eq_true (by omega)]; rfl
theorem wi_isDigitC {c : Int} {h : Mh} (K : Int → Mh → Prop) : wp_X10_isDigit c h K = K (b01 (isD c)) h := by
  unfold wp_X10_isDigit isD
  by_cases a : c < 48
  · rw [if_pos a, decide_eq_false (by omega)]; rfl
  · rw [if_neg a]
    by_cases b : 57 < c
    · rw [if_pos b, decide_eq_false (by omega)]; rfl
    · rw [if_neg b, decide_eq_true (by omega)]; rfl
/-- one token more -/
def addT (h : Mh) (e t p v : Int) : Mh := up (up (up (up (up h 49 6 e) 50 (h 49 4) t) 51 (h 49 4) p) 52 (h 49 4) v) 49 4 (h 49 4 + 1)
theorem sp_put {h : Mh} {e t p v : Int} {K : Mh → Prop} (k0 : 0 ≤ h 49 4) (k1 : h 49 4 < 800) (hk : K (addT h e t p v)) : wp_X10_put t p v (up h 49 6 e) K := by
  unfold wp_X10_put
  have e4 : up h 49 6 e 49 4 = h 49 4 := by rw [up_slot (by decide)]
  rw [e4, if_neg (by omega), if_neg (by omega)]
  refine ⟨⟨k0, k1⟩, ?_⟩
  intro h1 q1
  have f1 : h1 49 4 = h 49 4 := by rw [q1, up_other (by decide)]; exact e4
  rw [f1]
  refine ⟨⟨k0, k1⟩, ?_⟩
  intro h2 q2
  have f2 : h2 49 4 = h 49 4 := by rw [q2, up_other (by decide)]; exact f1
  rw [f2]
  refine ⟨⟨k0, k1⟩, ?_⟩
  intro h3 q3
  have f3 : h3 49 4 = h 49 4 := by rw [q3, up_other (by decide)]; exact f2
  rw [f3, w32_eq (by omega) (by omega)]
  intro h4 q4
  rw [q4, q3, q2, q1]
  exact hk
/-- numbers -/
theorem sp_scanNumber {h : Mh} {B : Int → Int} {K : Mh → Prop} (hB : byt B (h 1) (h 49 5)) (hn : h 49 5 ≤ 800) (p0 : 0 ≤ h 49 6) (pn : h 49 6 < h 49 5) (k0 : 0 ≤ h 49 4) (k1 : h 49 4 < 800) (nS : isS (B (h 49 6)) = false) (hd : isD (B (h 49 6)) = true) (hk : ∀ t v, tRel t v (tR B (h 49 5) (h 49 6)).1 (tR B (h 49 5) (h 49 6)).2 → K (addT h (tE B (h 49 5) (h 49 6)) t (h 49 6) v)) : wp_X10_scanNumber h K := by
  have te : tE B (h 49 5) (h 49 6) = re isD B (h 49 5) (h 49 6) := by unfold tE; rw [nS, hd, if_neg (by decide), if_pos rfl]
  have tr : tR B (h 49 5) (h 49 6) = (3, nuR B (re isD B (h 49 5) (h 49 6) - h 49 6).toNat (h 49 6) 0) := by unfold tR; rw [nS, hd, if_neg (by decide), if_pos rfl]
  rw [te, tr] at hk
  obtain ⟨p, ep⟩ : ∃ p, p = h 49 6 := ⟨_, rfl⟩
  obtain ⟨n, en⟩ : ∃ n, n = h 49 5 := ⟨_, rfl⟩
  rw [← ep, ← en] at hk
  rw [← ep] at p0 pn
  rw [← en] at hB hn pn
  have rr := re_r (P := isD) (B := B) (n := n) (p := p) (by omega)
  have loop : ∀ (m : Nat) (x v w : Int), p ≤ x → x + m = re isD B n p → 0 ≤ v → v ≤ 1000000 → 0 ≤ w → w ≤ 1000000 → (v = w ∨ (9999 < v ∧ 9999 < w)) → nuR B m x w = nuR B (re isD B n p - p).toNat p 0 → Lfp (F_X10_scanNumber K) (7, [p, v], up h 49 6 x) := by
    intro m
    induction m with
    | zero =>
      intro x v w px hx v0 v1 w0 w1 vw nu
      have nu : w = nuR B (re isD B n p - p).toNat p 0 := nu
      have ex : x = re isD B n p := by omega
      have fin : wp_X10_put 1 p v (up h 49 6 x) K := by
        refine sp_put k0 k1 ?_
        rw [ex]
        exact hk 1 v (Or.inl ⟨rfl, rfl, v0, v1, by rw [← nu]; exact ⟨w0, w1, vw⟩⟩)
      apply L_X10_scanNumber_7
      unfold B_X10_scanNumber_7
      rw [up_slot (b := 49) (j := 5) (by decide), up_self, ← en]
      by_cases z : n ≤ x
      · rw [if_pos z]; exact fin
      · rw [if_neg z, wi_byteAt (by omega) (by rw [up_slot (by decide), ← en]; exact hn), up_slot (b := 49) (j := 5) (by decide), ← en, if_pos (by omega), up_other (b := 1) (by decide), wi_isDigitC, hB.d (by omega) (by omega)]
        rcases re_end (P := isD) (B := B) (n := n) (n - p).toNat p (by omega) with y | y
        · omega
        · rw [ex, y, show b01 false = 0 from rfl, if_pos rfl, ← ex]
          exact fin
    | succ m ih =>
      intro x v w px hx v0 v1 w0 w1 vw nu
      have nu : nuR B m (x + 1) (if w ≤ 9999 then 10 * w + B x - 48 else w) = nuR B (re isD B n p - p).toNat p 0 := nu
      have dp := re_in (P := isD) (B := B) (n := n) (n - p).toNat p (by omega) x px (by omega)
      have dq : 48 ≤ B x ∧ B x ≤ 57 := of_decide_eq_true dp
      have bx := hB x (by omega) (by omega)
      have hx1 : h 1 x = B x := by omega
      apply L_X10_scanNumber_7
      unfold B_X10_scanNumber_7
      rw [up_slot (b := 49) (j := 5) (by decide), up_self, ← en, if_neg (by omega)]
      rw [wi_byteAt (by omega) (by rw [up_slot (by decide), ← en]; exact hn), up_slot (b := 49) (j := 5) (by decide), ← en, if_pos (by omega), up_other (b := 1) (by decide), wi_isDigitC, hB.d (by omega) (by omega), dp, show b01 true = 1 from rfl, if_neg (by decide)]
      rw [up_self, wi_byteAt (by omega) (by rw [up_slot (by decide), ← en]; exact hn), up_slot (b := 49) (j := 5) (by decide), ← en, if_pos (show x < n by omega), up_other (b := 1) (by decide), hx1]
      rw [w32_eq (x := v * 10) (by omega) (by omega), w32_eq (x := v * 10 + B x) (by omega) (by omega), w32_eq (x := v * 10 + B x - 48) (by omega) (by omega)]
      intro v' ev h6 q6
      rw [up_self, w32_eq (by omega) (by omega), up_up] at q6
      subst q6
      refine ih (x + 1) v' (if w ≤ 9999 then 10 * w + B x - 48 else w) (by omega) (by omega) ?_ ?_ ?_ ?_ ?_ nu
      · rw [ev]; split <;> omega
      · rw [ev]; split <;> omega
      · split <;> omega
      · split <;> omega
      · rw [ev]
        by_cases z : w ≤ 9999
        · rw [if_pos z, if_pos (by omega)]; omega
        · rw [if_neg z]; right; split <;> omega
  unfold wp_X10_scanNumber
  intro x1 ex1
  rw [← ep] at ex1
  subst ex1
  have hh : h = up h 49 6 x1 := by
    funext o j
    unfold up
    by_cases z : o = 49 ∧ j = 6
    · rw [if_pos z, z.1, z.2]; exact ep.symm
    · rw [if_neg z]
  rw [hh]
  exact loop (re isD B n x1 - x1).toNat x1 0 0 (by omega) (by omega) (by omega) (by omega) (by omega) (by omega) (Or.inl rfl) rfl
