/-! ===== tokens: what stands at a place of the tape ===== -/
def isS (b : Int) : Bool := decide (97 ≤ b ∧ b ≤ 122)
def isD (b : Int) : Bool := decide (48 ≤ b ∧ b ≤ 57)
def isB (b : Int) : Bool := decide (b = 10 ∨ b = 32)
def ru (P : Int → Bool) (B : Int → Int) (n : Int) : Nat → Int → Int
  | 0, p => p
  | k + 1, p => if p < n ∧ P (B p) = true then ru P B n k (p + 1) else p
/-- behind the run that begins at p -/
def re (P : Int → Bool) (B : Int → Int) (n p : Int) : Int := ru P B n (n - p).toNat p
theorem re_step {P : Int → Bool} {B : Int → Int} {n p : Int} (hp : p < n) (h : P (B p) = true) : re P B n p = re P B n (p + 1) := by
  unfold re
  rw [show (n - p).toNat = (n - (p + 1)).toNat + 1 by omega]
  show (if p < n ∧ P (B p) = true then ru P B n (n - (p + 1)).toNat (p + 1) else p) = _
  rw [if_pos ⟨hp, h⟩]
theorem re_stop {P : Int → Bool} {B : Int → Int} {n p : Int} (h : n ≤ p ∨ P (B p) = false) : re P B n p = p := by
  unfold re
  cases e : (n - p).toNat with
  | zero => rfl
  | succ k =>
    show (if p < n ∧ P (B p) = true then ru P B n k (p + 1) else p) = p
    rw [if_neg]
    rintro ⟨a, b⟩
    rcases h with z | z
    · omega
    · rw [z] at b; cases b
theorem ru_r (P : Int → Bool) (B : Int → Int) (n : Int) : ∀ (k : Nat) (p : Int), p ≤ n → p ≤ ru P B n k p ∧ ru P B n k p ≤ n ∧ ru P B n k p ≤ p + k := by
  intro k
  induction k with
  | zero => intro p hp; unfold ru; omega
  | succ k ih =>
    intro p hp
    unfold ru
    split
    · rename_i h
      have := ih (p + 1) (by omega)
      omega
    · omega
theorem re_r {P : Int → Bool} {B : Int → Int} {n p : Int} (hp : p ≤ n) : p ≤ re P B n p ∧ re P B n p ≤ n := by
  have := ru_r P B n (n - p).toNat p hp
  unfold re; omega
theorem re_end {P : Int → Bool} {B : Int → Int} {n : Int} : ∀ (k : Nat) (p : Int), p + k = n → re P B n p = n ∨ P (B (re P B n p)) = false := by
  intro k
  induction k with
  | zero => intro p hp; left; rw [re_stop (Or.inl (by omega))]; omega
  | succ k ih =>
    intro p hp
    cases h : P (B p)
    · right; rw [re_stop (Or.inr h)]; exact h
    · rw [re_step (by omega) h]
      exact ih (p + 1) (by omega)
theorem re_in {P : Int → Bool} {B : Int → Int} {n : Int} : ∀ (k : Nat) (p : Int), p + k = n → ∀ j, p ≤ j → j < re P B n p → P (B j) = true := by
  intro k
  induction k with
  | zero => intro p hp j h1 h2; rw [re_stop (Or.inl (by omega))] at h2; omega
  | succ k ih =>
    intro p hp j h1 h2
    cases h : P (B p)
    · rw [re_stop (Or.inr h)] at h2; omega
    · rw [re_step (by omega) h] at h2
      by_cases z : j = p
      · rw [z]; exact h
      · exact ih (p + 1) (by omega) j (by omega) h2
/-! the reference's words -/
def wds : List (Int × Int) := [(0, 4), (5, 4), (10, 4), (15, 5), (21, 4), (26, 4), (31, 6), (38, 4), (43, 4), (48, 5), (54, 4), (59, 3), (63, 3), (67, 4), (72, 3), (76, 2), (79, 3), (83, 4), (88, 4), (93, 5), (99, 3), (103, 4)]
def mtch (B : Int → Int) (s e f l : Int) : Bool := decide (l = e - s) && allT (fun i => decide (wrd (f + i) = B (s + i))) l.toNat 0
def widx (B : Int → Int) (s e : Int) : List (Int × Int) → Int → Int
  | [], _ => -1
  | (f, l) :: t, k => if mtch B s e f l = true then k else widx B s e t (k + 1)
def chn : List (Int × Int) → Int → Bool
  | [], f => decide (f = 108)
  | (g, l) :: t, f => decide (g = f ∧ 0 ≤ l ∧ 0 ≤ f ∧ f + l < 108 ∧ l ≤ 6 ∧ wrd (f + l) = 32) && allT (fun i => decide (¬ wrd (f + i) = 32)) l.toNat 0 && chn t (f + l + 1)
theorem chn_wds : chn wds 0 = true := by decide +kernel
theorem sp_wordAt {s e : Int} {h : Mh} {K : Int → Mh → Prop} (hw : ∀ j, 0 ≤ j → j < 108 → h 2 j = wrd j) (s0 : 0 ≤ s) (se : s ≤ e) (e1 : e ≤ 800) (hk : K (widx (h 1) s e wds 0) h) : wp_X14_wordAt s e h K := by
  have outer : ∀ (L : List (Int × Int)) (k f : Int), 0 ≤ k → k + L.length ≤ 100 → chn L f = true → K (widx (h 1) s e L k) h → Lfp (F_X14_wordAt s e K) (5, [k, f], h) := by
    intro L
    induction L with
    | nil =>
      intro k f k0 kl hc hk
      apply L_X14_wordAt_5
      unfold B_X14_wordAt_5
      have : f = 108 := of_decide_eq_true hc
      rw [if_pos (by omega)]
      exact hk
    | cons x t ih =>
      intro k f k0 kl hc hk
      obtain ⟨g, l⟩ := x
      have hc2 : (decide (g = f ∧ 0 ≤ l ∧ 0 ≤ f ∧ f + l < 108 ∧ l ≤ 6 ∧ wrd (f + l) = 32) && allT (fun i => decide (¬ wrd (f + i) = 32)) l.toNat 0 && chn t (f + l + 1)) = true := hc
      rw [Bool.and_eq_true, Bool.and_eq_true] at hc2
      obtain ⟨⟨h1, h2⟩, h3⟩ := hc2
      obtain ⟨a1, a2, a3, a4, a5, a6⟩ := of_decide_eq_true h1
      subst a1
      have nb := (allT_iff _ _).mp h2
      have hk2 : K (if mtch (h 1) s e g l = true then k else widx (h 1) s e t (k + 1)) h := hk
      simp only [List.length_cons] at kl
      apply L_X14_wordAt_5
      unfold B_X14_wordAt_5
      rw [if_neg (by omega)]
      -- the end of a comparison
      have fin : ∀ b : Bool, b = mtch (h 1) s e g l → (if b01 b = 0 then (∀ x1 : Int, x1 = w32 (g + w32 (l + 1)) → ∀ x2 : Int, x2 = w32 (k + 1) → Lfp (F_X14_wordAt s e K) (5, [x2, x1], h)) else K k h) := by
        intro b hb
        rw [← hb] at hk2
        cases b
        · rw [show b01 false = 0 from rfl, if_pos rfl]
          rw [if_neg (by decide)] at hk2
          intro x1 ex1 x2 ex2
          rw [w32_eq (x := l + 1) (by omega) (by omega), w32_eq (by omega) (by omega)] at ex1
          rw [w32_eq (by omega) (by omega)] at ex2
          subst ex1; subst ex2
          rw [show g + (l + 1) = g + l + 1 by omega]
          exact ih (k + 1) (g + l + 1) (by omega) (by omega) h3 hk2
        · rw [show b01 true = 1 from rfl, if_neg (by decide)]
          rw [if_pos rfl] at hk2
          exact hk2
      -- letter by letter
      have cmp : ∀ (m : Nat) (i : Int) (b : Bool), 0 ≤ i → i + m = l → (l = e - s ∨ b = false) → (b && allT (fun i => decide (wrd (g + i) = h 1 (s + i))) m i) = mtch (h 1) s e g l → Lfp (F_X14_wordAt s e K) (57, [k, g, l, b01 b, i], h) := by
        intro m
        induction m with
        | zero =>
          intro i b i0 hi hl hb
          apply L_X14_wordAt_57
          unfold B_X14_wordAt_57
          rw [if_pos (by omega)]
          exact fin b (by rw [← hb]; simp [allT])
        | succ m ihm =>
          intro i b i0 hi hl hb
          apply L_X14_wordAt_57
          unfold B_X14_wordAt_57
          rw [if_neg (by omega)]
          cases b
          · rw [show b01 false = 0 from rfl, if_pos rfl]
            have := fin false (by rw [← hb]; rfl)
            rw [show b01 false = 0 from rfl] at this
            exact this
          · have hle : l = e - s := by rcases hl with z | z; exact z; cases z
            rw [show b01 true = 1 from rfl, if_neg (by decide), w32_eq (x := g + i) (by omega) (by omega), w32_eq (x := s + i) (by omega) (by omega), hw (g + i) (by omega) (by omega)]
            refine ⟨⟨by omega, by omega⟩, ⟨by omega, by omega⟩, ?_⟩
            have hb2 : (true && (decide (wrd (g + i) = h 1 (s + i)) && allT (fun i => decide (wrd (g + i) = h 1 (s + i))) m (i + 1))) = mtch (h 1) s e g l := hb
            by_cases eq : wrd (g + i) = h 1 (s + i)
            · rw [if_neg (fun z => z eq)]
              rw [decide_eq_true eq] at hb2
              intro y ey
              rw [w32_eq (by omega) (by omega)] at ey
              subst ey
              exact ihm (i + 1) true (by omega) (by omega) hl (by simpa using hb2)
            · rw [if_pos eq]
              rw [decide_eq_false eq] at hb2
              intro y ey
              rw [w32_eq (by omega) (by omega)] at ey
              subst ey
              exact ihm (i + 1) false (by omega) (by omega) (Or.inr rfl) (by simpa using hb2)
      have len : ∀ (m : Nat) (i : Int), 0 ≤ i → i + m = l → Lfp (F_X14_wordAt s e K) (18, [k, g, i], h) := by
        intro m
        induction m with
        | zero =>
          intro i i0 hi
          apply L_X14_wordAt_18
          unfold B_X14_wordAt_18
          have il : i = l := by omega
          rw [w32_eq (x := g + i) (by omega) (by omega), hw (g + i) (by omega) (by omega), w32_eq (x := e - s) (by omega) (by omega)]
          refine ⟨⟨by omega, by omega⟩, ?_⟩
          rw [if_pos (by rw [il]; exact a6), il]
          by_cases z : l = e - s
          · rw [if_neg (fun y => y z)]
            exact cmp l.toNat 0 true (by omega) (by omega) (Or.inl z) (by unfold mtch; rw [decide_eq_true z])
          · rw [if_pos z]
            exact cmp l.toNat 0 false (by omega) (by omega) (Or.inr rfl) (by unfold mtch; rw [decide_eq_false z])
        | succ m ihm =>
          intro i i0 hi
          apply L_X14_wordAt_18
          unfold B_X14_wordAt_18
          rw [w32_eq (x := g + i) (by omega) (by omega), hw (g + i) (by omega) (by omega)]
          refine ⟨⟨by omega, by omega⟩, ?_⟩
          have := of_decide_eq_true (nb i i0 (by omega))
          rw [if_neg this]
          intro y ey
          rw [w32_eq (by omega) (by omega)] at ey
          subst ey
          exact ihm (i + 1) (by omega) (by omega)
      exact len l.toNat 0 (by omega) (by omega)
  unfold wp_X14_wordAt
  exact outer wds 0 0 (by omega) (by decide) chn_wds hk
/-- letters packed, five bits each, six of them -/
def pkR (B : Int → Int) (e : Int) : Nat → Int → Int → Int
  | 0, _, v => v
  | m + 1, p, v => pkR B e m (p + 1) (j_or (j_shl v 5) (if e ≤ p then 0 else B p - 96))
theorem sp_packed {s e : Int} {h : Mh} {K : Int → Mh → Prop} (s0 : 0 ≤ s) (e1 : e ≤ 800) (hB : ∀ j, 0 ≤ j → j < e → 0 ≤ h 1 j ∧ h 1 j ≤ 255) (s1 : s ≤ 800) (hk : K (pkR (h 1) e 6 s 0) h) : wp_X14_packed s e h K := by
  have loop : ∀ (m : Nat) (p v : Int), 0 ≤ p → p + m = s + 6 → K (pkR (h 1) e m p v) h → Lfp (F_X14_packed s e K) (5, [v, p], h) := by
    intro m
    induction m with
    | zero =>
      intro p v p0 hp hk
      apply L_X14_packed_5
      unfold B_X14_packed_5
      rw [w32_eq (by omega) (by omega), if_pos (by omega)]
      exact hk
    | succ m ih =>
      intro p v p0 hp hk
      apply L_X14_packed_5
      unfold B_X14_packed_5
      rw [w32_eq (x := s + 6) (by omega) (by omega), if_neg (by omega)]
      unfold pkR at hk
      by_cases z : e ≤ p
      · rw [if_pos z]
        rw [if_pos z] at hk
        intro x ex y ey
        rw [w32_eq (by omega) (by omega)] at ey
        subst ex; subst ey
        exact ih (p + 1) _ (by omega) (by omega) hk
      · rw [if_neg z]
        rw [if_neg z] at hk
        have hb := hB p p0 (by omega)
        refine ⟨⟨p0, by omega⟩, ?_⟩
        rw [w32_eq (x := h 1 p - 96) (by omega) (by omega)]
        intro x ex y ey
        rw [w32_eq (by omega) (by omega)] at ey
        subst ex; subst ey
        exact ih (p + 1) _ (by omega) (by omega) hk
  unfold wp_X14_packed
  exact loop 6 s 0 s0 (by omega) hk
def nuR (B : Int → Int) : Nat → Int → Int → Int
  | 0, _, v => v
  | m + 1, p, v => nuR B m (p + 1) (if v ≤ 9999 then 10 * v + B p - 48 else v)
/-- a token of the reference at a place that isn't blank: kind, which, end -/
def tE (B : Int → Int) (n s : Int) : Int :=
  if isS (B s) = true then re isS B n s else if isD (B s) = true then re isD B n s
  else if (B s = 60 ∧ s + 1 < n ∧ (B (s + 1) = 61 ∨ B (s + 1) = 62)) ∨ (B s = 62 ∧ s + 1 < n ∧ B (s + 1) = 61) then s + 2 else s + 1
def tR (B : Int → Int) (n s : Int) : Int × Int :=
  if isS (B s) = true then (if 0 ≤ widx B s (re isS B n s) wds 0 then (1, widx B s (re isS B n s) wds 0) else if re isS B n s - s ≤ 6 then (2, pkR B (re isS B n s) 6 s 0) else (6, -1))
  else if isD (B s) = true then (3, nuR B (re isD B n s - s).toNat s 0)
  else if B s = 61 then (5, 2)
  else if B s = 60 then (5, if s + 1 < n ∧ B (s + 1) = 61 then 1 else if s + 1 < n ∧ B (s + 1) = 62 then 3 else 0)
  else if B s = 62 then (5, if s + 1 < n ∧ B (s + 1) = 61 then 4 else 5)
  else (if B s = 59 ∨ B s = 40 ∨ B s = 41 ∨ B s = 43 ∨ B s = 45 ∨ B s = 42 ∨ B s = 47 ∨ B s = 37 then 4 else 6, B s)
