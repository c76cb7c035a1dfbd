/-- words -/
def la (B : Int → Int) (p : Int) : Nat → Int
  | 0 => 0
  | m + 1 => if m < 6 then 32 * la B p m + (B (p + m) - 96) else la B p m
theorem la_pv {B : Int → Int} {p e : Int} (h1 : p < e) (h6 : e - p ≤ 6) : la B p (e - p).toNat * 32 ^ (6 - (e - p)).toNat = pv (fun i => cB B e (p + i)) := by
  have hc : e = p + 1 ∨ e = p + 2 ∨ e = p + 3 ∨ e = p + 4 ∨ e = p + 5 ∨ e = p + 6 := by omega
  unfold pv
  dsimp only
  rcases hc with rfl | rfl | rfl | rfl | rfl | rfl
  · rw [show (p + 1 - p).toNat = 1 by omega, show (6 - (p + 1 - p)).toNat = 5 by omega]
    unfold cB
    rw [if_neg (by omega), if_pos (show p + 1 ≤ p + 1 by omega), if_pos (show p + 1 ≤ p + 2 by omega), if_pos (show p + 1 ≤ p + 3 by omega), if_pos (show p + 1 ≤ p + 4 by omega), if_pos (show p + 1 ≤ p + 5 by omega)]
    show (32 * 0 + (B (p + ((0 : Nat) : Int)) - 96)) * 32 ^ 5 = _
    rw [show p + ((0 : Nat) : Int) = p + 0 by omega]
    omega
  · rw [show (p + 2 - p).toNat = 2 by omega, show (6 - (p + 2 - p)).toNat = 4 by omega]
    unfold cB
    rw [if_neg (by omega), if_neg (show ¬ p + 2 ≤ p + 1 by omega), if_pos (show p + 2 ≤ p + 2 by omega), if_pos (show p + 2 ≤ p + 3 by omega), if_pos (show p + 2 ≤ p + 4 by omega), if_pos (show p + 2 ≤ p + 5 by omega)]
    show (32 * (32 * 0 + (B (p + ((0 : Nat) : Int)) - 96)) + (B (p + ((1 : Nat) : Int)) - 96)) * 32 ^ 4 = _
    rw [show p + ((0 : Nat) : Int) = p + 0 by omega, show p + ((1 : Nat) : Int) = p + 1 by omega]
    omega
  · rw [show (p + 3 - p).toNat = 3 by omega, show (6 - (p + 3 - p)).toNat = 3 by omega]
    unfold cB
    rw [if_neg (by omega), if_neg (show ¬ p + 3 ≤ p + 1 by omega), if_neg (show ¬ p + 3 ≤ p + 2 by omega), if_pos (show p + 3 ≤ p + 3 by omega), if_pos (show p + 3 ≤ p + 4 by omega), if_pos (show p + 3 ≤ p + 5 by omega)]
    show (32 * (32 * (32 * 0 + (B (p + ((0 : Nat) : Int)) - 96)) + (B (p + ((1 : Nat) : Int)) - 96)) + (B (p + ((2 : Nat) : Int)) - 96)) * 32 ^ 3 = _
    rw [show p + ((0 : Nat) : Int) = p + 0 by omega, show p + ((1 : Nat) : Int) = p + 1 by omega, show p + ((2 : Nat) : Int) = p + 2 by omega]
    omega
  · rw [show (p + 4 - p).toNat = 4 by omega, show (6 - (p + 4 - p)).toNat = 2 by omega]
    unfold cB
    rw [if_neg (by omega), if_neg (show ¬ p + 4 ≤ p + 1 by omega), if_neg (show ¬ p + 4 ≤ p + 2 by omega), if_neg (show ¬ p + 4 ≤ p + 3 by omega), if_pos (show p + 4 ≤ p + 4 by omega), if_pos (show p + 4 ≤ p + 5 by omega)]
    show (32 * (32 * (32 * (32 * 0 + (B (p + ((0 : Nat) : Int)) - 96)) + (B (p + ((1 : Nat) : Int)) - 96)) + (B (p + ((2 : Nat) : Int)) - 96)) + (B (p + ((3 : Nat) : Int)) - 96)) * 32 ^ 2 = _
    rw [show p + ((0 : Nat) : Int) = p + 0 by omega, show p + ((1 : Nat) : Int) = p + 1 by omega, show p + ((2 : Nat) : Int) = p + 2 by omega, show p + ((3 : Nat) : Int) = p + 3 by omega]
    omega
  · rw [show (p + 5 - p).toNat = 5 by omega, show (6 - (p + 5 - p)).toNat = 1 by omega]
    unfold cB
    rw [if_neg (by omega), if_neg (show ¬ p + 5 ≤ p + 1 by omega), if_neg (show ¬ p + 5 ≤ p + 2 by omega), if_neg (show ¬ p + 5 ≤ p + 3 by omega), if_neg (show ¬ p + 5 ≤ p + 4 by omega), if_pos (show p + 5 ≤ p + 5 by omega)]
    show (32 * (32 * (32 * (32 * (32 * 0 + (B (p + ((0 : Nat) : Int)) - 96)) + (B (p + ((1 : Nat) : Int)) - 96)) + (B (p + ((2 : Nat) : Int)) - 96)) + (B (p + ((3 : Nat) : Int)) - 96)) + (B (p + ((4 : Nat) : Int)) - 96)) * 32 ^ 1 = _
    rw [show p + ((0 : Nat) : Int) = p + 0 by omega, show p + ((1 : Nat) : Int) = p + 1 by omega, show p + ((2 : Nat) : Int) = p + 2 by omega, show p + ((3 : Nat) : Int) = p + 3 by omega, show p + ((4 : Nat) : Int) = p + 4 by omega]
    omega
  · rw [show (p + 6 - p).toNat = 6 by omega, show (6 - (p + 6 - p)).toNat = 0 by omega]
    unfold cB
    rw [if_neg (by omega), if_neg (show ¬ p + 6 ≤ p + 1 by omega), if_neg (show ¬ p + 6 ≤ p + 2 by omega), if_neg (show ¬ p + 6 ≤ p + 3 by omega), if_neg (show ¬ p + 6 ≤ p + 4 by omega), if_neg (show ¬ p + 6 ≤ p + 5 by omega)]
    show (32 * (32 * (32 * (32 * (32 * (32 * 0 + (B (p + ((0 : Nat) : Int)) - 96)) + (B (p + ((1 : Nat) : Int)) - 96)) + (B (p + ((2 : Nat) : Int)) - 96)) + (B (p + ((3 : Nat) : Int)) - 96)) + (B (p + ((4 : Nat) : Int)) - 96)) + (B (p + ((5 : Nat) : Int)) - 96)) * 32 ^ 0 = _
    rw [show p + ((0 : Nat) : Int) = p + 0 by omega, show p + ((1 : Nat) : Int) = p + 1 by omega, show p + ((2 : Nat) : Int) = p + 2 by omega, show p + ((3 : Nat) : Int) = p + 3 by omega, show p + ((4 : Nat) : Int) = p + 4 by omega, show p + ((5 : Nat) : Int) = p + 5 by omega]
    omega
theorem up_id {h : Mh} {o k v : Int} (e : v = h o k) : h = up h o k v := by
  funext a j
  unfold up
  by_cases z : a = o ∧ j = k
  · rw [if_pos z, z.1, z.2]; exact e.symm
  · rw [if_neg z]
theorem sp_scanWord {h : Mh} {B : Int → Int} {K : Mh → Prop} (hB : byt B (h 1) (h 49 5)) (hn : h 49 5 ≤ 800) (p0 : 0 ≤ h 49 6) (pn : h 49 6 < h 49 5) (k0 : 0 ≤ h 49 4) (k1 : h 49 4 < 800) (hd : isS (B (h 49 6)) = true) (hk : ∀ t v, tRel t v (tR B (h 49 5) (h 49 6)).1 (tR B (h 49 5) (h 49 6)).2 → K (addT h (tE B (h 49 5) (h 49 6)) t (h 49 6) v)) : wp_X10_scanWord h K := by
  have te : tE B (h 49 5) (h 49 6) = re isS B (h 49 5) (h 49 6) := by unfold tE; rw [hd, if_pos rfl]
  have tr : tR B (h 49 5) (h 49 6) = (if 0 ≤ widx B (h 49 6) (re isS B (h 49 5) (h 49 6)) wds 0 then (1, widx B (h 49 6) (re isS B (h 49 5) (h 49 6)) wds 0) else if re isS B (h 49 5) (h 49 6) - h 49 6 ≤ 6 then (2, pkR B (re isS B (h 49 5) (h 49 6)) 6 (h 49 6) 0) else (6, -1)) := by unfold tR; rw [hd, if_pos rfl]
  rw [te, tr] at hk
  obtain ⟨p, ep⟩ : ∃ p, p = h 49 6 := ⟨_, rfl⟩
  obtain ⟨n, en⟩ : ∃ n, n = h 49 5 := ⟨_, rfl⟩
  rw [← ep, ← en] at hk
  rw [← ep] at p0 pn hd
  rw [← en] at hB hn pn
  have rr := re_r (P := isS) (B := B) (n := n) (p := p) (by omega)
  have rs := re_step (P := isS) (B := B) (n := n) (p := p) pn hd
  have rr2 := re_r (P := isS) (B := B) (n := n) (p := p + 1) (by omega)
  have rin := re_in (P := isS) (B := B) (n := n) (n - p).toNat p (by omega)
  have ren := re_end (P := isS) (B := B) (n := n) (n - p).toNat p (by omega)
  obtain ⟨e, ee⟩ : ∃ e, e = re isS B n p := ⟨_, rfl⟩
  rw [← rs] at rr2
  rw [← ee] at hk rr rr2 rin ren
  clear rs te tr
  have lets : ∀ j, p ≤ j → j < e → 97 ≤ B j ∧ B j ≤ 122 := fun j a b => of_decide_eq_true (rin j a b)
  -- the last step
  have l109 : ∀ s0 v : Int, (e - p ≤ 6 → v = pv (fun i => cB B e (p + i)) ∧ ((s0 = 3 ∧ ∃ i, 0 ≤ i ∧ i < 22 ∧ wl i = v) ∨ (s0 = 2 ∧ ∀ j, 0 ≤ j → j < 22 → ¬ wl j = v))) → Lfp (F_X10_scanWord K) (109, [p, v, s0], up h 49 6 e) := by
    intro s0 v hv
    apply L_X10_scanWord_109
    unfold B_X10_scanWord_109
    rw [up_self, w32_eq (by omega) (by omega)]
    by_cases z : e - p ≤ 6
    · rw [if_pos z]
      refine sp_put k0 k1 ?_
      obtain ⟨ev, hs⟩ := hv z
      have hc : ∀ i, p ≤ i → i < p + 6 → 0 ≤ cB B e i ∧ cB B e i < 32 := by
        intro i a b
        unfold cB
        by_cases y : e ≤ i
        · rw [if_pos y]; omega
        · rw [if_neg y]; have := lets i a (by omega); omega
      have pk := pkR_val (B := B) (s := p) (e := e) hc
      refine hk s0 v ?_
      rcases widx_pv (B := B) (s := p) (e := e) z (by omega) lets with ⟨a, b⟩ | ⟨a, b, c⟩
      · rw [a, if_neg (by decide), if_pos z, pk, ← ev]
        rcases hs with ⟨_, i, i0, i1, i2⟩ | ⟨y, _⟩
        · exact absurd (i2.trans ev) (b i i0 i1)
        · refine Or.inr (Or.inl ⟨y, rfl, rfl, ?_⟩)
          rw [ev]
          unfold pv
          have c0 := hc (p + 0) (by omega) (by omega)
          have c1 := hc (p + 1) (by omega) (by omega)
          have c2 := hc (p + 2) (by omega) (by omega)
          have c3 := hc (p + 3) (by omega) (by omega)
          have c4 := hc (p + 4) (by omega) (by omega)
          have c5 := hc (p + 5) (by omega) (by omega)
          dsimp only
          clear hk lets rin ren b hv
          omega
      · rw [if_pos a]
        have ix1 := ix_r (widx B p e wds 0).toNat (by omega)
        rw [show (((widx B p e wds 0).toNat : Nat) : Int) = widx B p e wds 0 by omega] at ix1
        rcases hs with ⟨y, _⟩ | ⟨_, y⟩
        · exact Or.inr (Or.inr (Or.inl ⟨y, rfl, a, b, by rw [ev]; exact c⟩))
        · exact absurd (by rw [ev]; exact c.symm) (y _ ix1.1 ix1.2)
    · rw [if_neg z]
      refine sp_put k0 k1 ?_
      refine hk 5 v ?_
      rw [widx_long (by omega), if_neg (by decide), if_neg z]
      exact Or.inr (Or.inr (Or.inr (Or.inr (Or.inr ⟨rfl, Or.inl rfl⟩))))
  -- behind the letters: blanks
  have l81 : ∀ (m : Nat) (v x : Int), (6 - x).toNat = m → 1 ≤ x → x ≤ 800 → (e - p ≤ 6 → v * 32 ^ (6 - x).toNat = pv (fun i => cB B e (p + i)) ∧ 0 ≤ v ∧ (x < 6 → v < 33554432) ∧ v < 1073741824 ∧ (v < 32 ^ x.toNat)) → (6 < e - p → 6 ≤ x) → Lfp (F_X10_scanWord K) (81, [p, v, x], up h 49 6 e) := by
    intro m
    induction m with
    | zero =>
      intro v x hm x0 x8 hv hx
      apply L_X10_scanWord_81
      unfold B_X10_scanWord_81
      rw [if_pos (by omega)]
      refine sp_of ?_
      intro i hi
      have hv2 : e - p ≤ 6 → v = pv (fun i => cB B e (p + i)) := by
        intro z
        have := (hv z).1
        rw [hm] at this
        rw [← this]; omega
      rcases hi with ⟨a, b⟩ | ⟨a, b, c⟩
      · rw [if_neg (by omega)]
        exact l109 2 v (fun z => ⟨hv2 z, Or.inr ⟨rfl, b⟩⟩)
      · rw [if_pos a]
        exact l109 3 v (fun z => ⟨hv2 z, Or.inl ⟨rfl, i, a, b, c⟩⟩)
    | succ m ih =>
      intro v x hm x0 x8 hv hx
      apply L_X10_scanWord_81
      unfold B_X10_scanWord_81
      rw [if_neg (by omega)]
      intro x2 ex2 x3 ex3
      rw [w32_eq (by omega) (by omega)] at ex3
      subst ex3
      have z : e - p ≤ 6 := by omega
      obtain ⟨h1, h2, h3, h4, h5⟩ := hv z
      rw [j_shl5 h2 (h3 (by omega))] at ex2
      subst ex2
      refine ih (32 * v) (x + 1) (by omega) (by omega) (by omega) (fun _ => ?_) (by omega)
      have hc : x = 1 ∨ x = 2 ∨ x = 3 ∨ x = 4 ∨ x = 5 := by omega
      have e1 : 32 * v * 32 ^ (6 - (x + 1)).toNat = v * 32 ^ (6 - x).toNat := by
        rcases hc with rfl | rfl | rfl | rfl | rfl
        · show 32 * v * 32 ^ 4 = v * 32 ^ 5; omega
        · show 32 * v * 32 ^ 3 = v * 32 ^ 4; omega
        · show 32 * v * 32 ^ 2 = v * 32 ^ 3; omega
        · show 32 * v * 32 ^ 1 = v * 32 ^ 2; omega
        · show 32 * v * 32 ^ 0 = v * 32 ^ 1; omega
      refine ⟨by rw [e1]; exact h1, by omega, ?_, ?_, ?_⟩
      · intro y
        rcases hc with rfl | rfl | rfl | rfl | rfl
        · have h5 : v < 32 ^ 1 := h5; omega
        · have h5 : v < 32 ^ 2 := h5; omega
        · have h5 : v < 32 ^ 3 := h5; omega
        · have h5 : v < 32 ^ 4 := h5; omega
        · omega
      · have := h3 (by omega); omega
      · rcases hc with rfl | rfl | rfl | rfl | rfl
        · show 32 * v < 32 ^ 2; have h5 : v < 32 ^ 1 := h5; omega
        · show 32 * v < 32 ^ 3; have h5 : v < 32 ^ 2 := h5; omega
        · show 32 * v < 32 ^ 4; have h5 : v < 32 ^ 3 := h5; omega
        · show 32 * v < 32 ^ 5; have h5 : v < 32 ^ 4 := h5; omega
        · show 32 * v < 32 ^ 6; have h5 : v < 32 ^ 5 := h5; omega
  have lab : ∀ m : Nat, (m : Int) ≤ e - p → m ≤ 6 → 0 ≤ la B p m ∧ la B p m < 32 ^ m := by
    intro m
    induction m with
    | zero => intro _ _; exact ⟨Int.le_refl _, show (0 : Int) < 32 ^ 0 by decide⟩
    | succ m ih =>
      intro a b
      have z := ih (by omega) (by omega)
      have c := lets (p + m) (by omega) (by omega)
      have el : la B p (m + 1) = 32 * la B p m + (B (p + m) - 96) := by
        show (if m < 6 then 32 * la B p m + (B (p + m) - 96) else la B p m) = _
        rw [if_pos (by omega)]
      rw [el, Int.pow_succ]
      omega
  have l7 : ∀ (k m : Nat), p + m + k = e → Lfp (F_X10_scanWord K) (7, [p, la B p m], up h 49 6 (p + m)) := by
    intro k
    induction k with
    | zero =>
      intro m hm
      have ex : p + m = e := by omega
      have fin : ∀ x1 : Int, x1 = w32 (e - p) → Lfp (F_X10_scanWord K) (81, [p, la B p m, x1], up h 49 6 e) := by
        intro x1 ex1
        rw [w32_eq (by omega) (by omega)] at ex1
        refine l81 (6 - x1).toNat (la B p m) x1 rfl (by omega) (by omega) (fun z => ?_) (by omega)
        have lb := lab m (by omega) (by omega)
        have lp := la_pv (B := B) (p := p) (e := e) (by omega) z
        rw [show (e - p).toNat = m by omega, ← ex1] at lp
        have hc : m = 1 ∨ m = 2 ∨ m = 3 ∨ m = 4 ∨ m = 5 ∨ m = 6 := by omega
        refine ⟨lp, lb.1, ?_, ?_, by rw [show x1.toNat = m by omega]; exact lb.2⟩
        · intro y
          clear hk lp l81 l109 lab lets rin ren
          rcases hc with rfl | rfl | rfl | rfl | rfl | rfl <;> omega
        · clear hk lp l81 l109 lab lets rin ren
          rcases hc with rfl | rfl | rfl | rfl | rfl | rfl <;> omega
      apply L_X10_scanWord_7
      unfold B_X10_scanWord_7
      rw [up_slot (b := 49) (j := 5) (by decide), up_self, ← en, ex]
      by_cases z : n ≤ e
      · rw [if_pos z]; exact fin
      · rw [if_neg z, wi_byteAt (by omega) (by rw [up_slot (by decide), ← en]; exact hn), up_slot (b := 49) (j := 5) (by decide), ← en, if_pos (by omega), up_other (b := 1) (by decide), wi_isLetter, hB.s (by omega) (by omega)]
        rcases ren with y | y
        · omega
        · rw [y, show b01 false = 0 from rfl, if_pos rfl, up_self]
          exact fin
    | succ k ih =>
      intro m hm
      have c := lets (p + m) (by omega) (by omega)
      have dp := rin (p + m) (by omega) (by omega)
      have bx := hB (p + m) (by omega) (by omega)
      have hx1 : h 1 (p + m) = B (p + m) := by omega
      apply L_X10_scanWord_7
      unfold B_X10_scanWord_7
      rw [up_slot (b := 49) (j := 5) (by decide), up_self, ← en, if_neg (by omega)]
      rw [wi_byteAt (by omega) (by rw [up_slot (by decide), ← en]; exact hn), up_slot (b := 49) (j := 5) (by decide), ← en, if_pos (by omega), up_other (b := 1) (by decide), wi_isLetter, hB.s (by omega) (by omega), dp, show b01 true = 1 from rfl, if_neg (by decide)]
      rw [up_self, w32_eq (x := p + m - p) (by omega) (by omega)]
      have nx := ih (m + 1) (by omega)
      rw [show p + ((m + 1 : Nat) : Int) = p + m + 1 by omega] at nx
      by_cases z : m < 6
      · rw [if_neg (show ¬ (6 : Int) ≤ p + m - p by omega), wi_byteAt (by omega) (by rw [up_slot (by decide), ← en]; exact hn), up_slot (b := 49) (j := 5) (by decide), ← en, if_pos (show p + m < n by omega), up_other (b := 1) (by decide), hx1]
        rw [w32_eq (x := B (p + m) - 97) (by omega) (by omega), w32_eq (x := B (p + m) - 97 + 1) (by omega) (by omega)]
        have lb := lab m (by omega) (by omega)
        have lv : la B p m < 33554432 := by
          have hc : m = 0 ∨ m = 1 ∨ m = 2 ∨ m = 3 ∨ m = 4 ∨ m = 5 := by omega
          clear hk l81 l109 lab lets rin ren ih nx
          rcases hc with rfl | rfl | rfl | rfl | rfl | rfl <;> omega
        rw [j_pack lb.1 lv (by omega) (by omega)]
        intro x6 e6 h5 q5
        rw [up_self, w32_eq (by omega) (by omega), up_up] at q5
        have el : la B p (m + 1) = 32 * la B p m + (B (p + m) - 97 + 1) := by
          show (if m < 6 then 32 * la B p m + (B (p + m) - 96) else la B p m) = _
          rw [if_pos z]; omega
        rw [el] at nx
        rw [e6, q5]
        exact nx
      · rw [if_pos (show (6 : Int) ≤ p + m - p by omega)]
        intro h3 q3
        rw [w32_eq (by omega) (by omega), up_up] at q3
        have el : la B p (m + 1) = la B p m := by
          show (if m < 6 then 32 * la B p m + (B (p + m) - 96) else la B p m) = _
          rw [if_neg z]
        rw [el] at nx
        rw [q3]
        exact nx
  unfold wp_X10_scanWord
  intro x1 ex1
  rw [← ep] at ex1
  rw [ex1]
  have hh := up_id (h := h) (o := 49) (k := 6) (v := p) ep
  have := l7 (e - p).toNat 0 (by omega)
  rw [show p + ((0 : Nat) : Int) = p by omega, ← hh] at this
  exact this
