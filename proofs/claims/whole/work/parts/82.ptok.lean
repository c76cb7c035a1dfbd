/-! ===== both at the same token ===== -/
/-- the class stands at token a of m -/
def TokC (n : Int) (m a : Nat) (g : Mh) : Prop := g 49 7 = a ∧ a ≤ m ∧ (a < m → g 49 8 = g 50 a ∧ g 49 9 = g 51 a ∧ g 49 10 = g 52 a) ∧ (a = m → g 49 8 = 0 ∧ g 49 9 = n ∧ g 49 10 = 0)
/-- the reference stands at token a of m -/
def TokX (B : Int → Int) (n : Int) (m a : Nat) (r : Mh) : Prop := r 1 = B ∧ r 0 6 = n ∧ (∀ j, 0 ≤ j → j < n → 0 ≤ B j ∧ B j ≤ 255) ∧ (∀ j, 0 ≤ j → j < 108 → r 2 j = wrd j) ∧ r 0 10 = st B n a ∧ (a < m → r 0 7 = tE B n (st B n a) ∧ r 0 8 = (tR B n (st B n a)).1 ∧ r 0 9 = (tR B n (st B n a)).2) ∧ (a = m → r 0 7 = n ∧ r 0 8 = 0)
def PTok (B : Int → Int) (n : Int) (m a : Nat) (q r : Mh) : Prop := TokL B n m q ∧ TokC n m a q ∧ TokX B n m a r
def nxT (m a : Nat) : Nat := if a < m then a + 1 else m
/-- changes beside the tokens -/
theorem PTok.same {B : Int → Int} {n : Int} {m a : Nat} {q r q' r' : Mh} (h : PTok B n m a q r) (h1 : ∀ j, 4 ≤ j → j ≤ 10 → q' 49 j = q 49 j) (h2 : q' 50 = q 50) (h3 : q' 51 = q 51) (h4 : q' 52 = q 52) (h5 : r' 1 = r 1) (h6 : r' 2 = r 2) (h7 : ∀ j, 6 ≤ j → j ≤ 10 → r' 0 j = r 0 j) : PTok B n m a q' r' := by
  unfold PTok TokL TokC TokX at h ⊢
  rw [h1 4 (by decide) (by decide), h1 5 (by decide) (by decide), h1 7 (by decide) (by decide), h1 8 (by decide) (by decide), h1 9 (by decide) (by decide), h1 10 (by decide) (by decide), h2, h3, h4, h5, h6, h7 6 (by decide) (by decide), h7 7 (by decide) (by decide), h7 8 (by decide) (by decide), h7 9 (by decide) (by decide), h7 10 (by decide) (by decide)]
  exact h
theorem st_le {B : Int → Int} {n : Int} {m a : Nat} {g : Mh} (h : TokL B n m g) (ha : a ≤ m) : 0 ≤ st B n a ∧ st B n a ≤ n ∧ (a < m → st B n a < n) := by
  obtain ⟨_, n0, _, _, _, sm, hi⟩ := h
  by_cases z : a < m
  · have := hi a z; exact ⟨this.1, by omega, fun _ => this.2.1⟩
  · rw [show a = m by omega, sm]; exact ⟨n0, Int.le_refl _, fun y => absurd y (Nat.lt_irrefl _)⟩
theorem advC_o {h : Mh} {o : Int} (z : ¬ o = 49) : advC h o = h o := by
  unfold advC; rw [up_other z, up_other z, up_other z, up_other z]
theorem advC_j {h : Mh} {j : Int} (z : ¬ (7 ≤ j ∧ j ≤ 10)) : advC h 49 j = h 49 j := by
  unfold advC; rw [up_slot (by omega), up_slot (by omega), up_slot (by omega), up_slot (by omega)]
theorem advC_7 {h : Mh} : advC h 49 7 = nxA h := by
  unfold advC; rw [up_slot (by decide), up_slot (by decide), up_slot (by decide), up_self]
theorem advC_8 {h : Mh} : advC h 49 8 = (if nxA h < h 49 4 then h 50 (nxA h) else 0) := by
  unfold advC; rw [up_slot (by decide), up_slot (by decide), up_self]
theorem advC_9 {h : Mh} : advC h 49 9 = (if nxA h < h 49 4 then h 51 (nxA h) else h 49 5) := by
  unfold advC; rw [up_slot (by decide), up_self]
theorem advC_10 {h : Mh} : advC h 49 10 = (if nxA h < h 49 4 then h 52 (nxA h) else 0) := by
  unfold advC; rw [up_self]
theorem tokR_o {h : Mh} {o : Int} (z : ¬ o = 0) : tokR h o = h o := by
  funext j
  unfold tokR
  rw [if_neg (fun y => z y.1), if_neg (fun y => z y.1), if_neg (fun y => z y.1), if_neg (fun y => z y.1)]
theorem tokR_j {h : Mh} {j : Int} (z : ¬ (7 ≤ j ∧ j ≤ 10)) : tokR h 0 j = h 0 j := by
  unfold tokR
  rw [if_neg (by omega), if_neg (by omega), if_neg (by omega), if_neg (by omega)]
theorem tokR_10 {h : Mh} : tokR h 0 10 = re isB (h 1) (h 0 6) (h 0 7) := by unfold tokR; rw [if_pos ⟨rfl, rfl⟩]
theorem tokR_7 {h : Mh} : tokR h 0 7 = (if re isB (h 1) (h 0 6) (h 0 7) < h 0 6 then tE (h 1) (h 0 6) (re isB (h 1) (h 0 6) (h 0 7)) else h 0 6) := by unfold tokR; rw [if_neg (by decide), if_pos ⟨rfl, rfl⟩]
theorem tokR_8 {h : Mh} : tokR h 0 8 = (if re isB (h 1) (h 0 6) (h 0 7) < h 0 6 then (tR (h 1) (h 0 6) (re isB (h 1) (h 0 6) (h 0 7))).1 else 0) := by unfold tokR; rw [if_neg (by decide), if_neg (by decide), if_pos ⟨rfl, rfl⟩]
theorem tokR_9 {h : Mh} : tokR h 0 9 = (if re isB (h 1) (h 0 6) (h 0 7) < h 0 6 then (tR (h 1) (h 0 6) (re isB (h 1) (h 0 6) (h 0 7))).2 else h 0 9) := by unfold tokR; rw [if_neg (by decide), if_neg (by decide), if_neg (by decide), if_pos ⟨rfl, rfl⟩]
theorem TokL.adv {B : Int → Int} {n : Int} {m : Nat} {q : Mh} (h : TokL B n m q) : TokL B n m (advC q) := by
  unfold TokL at h ⊢
  rw [advC_j (by omega), advC_j (by omega), advC_o (by decide), advC_o (by decide), advC_o (by decide)]
  exact h
/-- the class goes on -/
theorem TokC.adv {B : Int → Int} {n : Int} {m : Nat} {q : Mh} {a : Int} (h : TokL B n m q) (ha : q 49 7 = a) (b : Nat) (hb : (b : Int) = if (m : Int) < a + 1 then (m : Int) else a + 1) : TokC n m b (advC q) := by
  obtain ⟨h5, n0, n1, h4, m1, sm, hi⟩ := h
  have e : nxA q = b := by unfold nxA; rw [h4, ha, hb]
  have bm : b ≤ m := by
    by_cases z : (m : Int) < a + 1
    · rw [if_pos z] at hb; omega
    · rw [if_neg z] at hb; omega
  unfold TokC
  rw [advC_7, advC_8, advC_9, advC_10, advC_o (by decide), advC_o (by decide), advC_o (by decide), e, h4]
  refine ⟨rfl, bm, fun z => ?_, fun z => ?_⟩
  · rw [if_pos (by omega), if_pos (by omega), if_pos (by omega)]; exact ⟨rfl, rfl, rfl⟩
  · rw [if_neg (by omega), if_neg (by omega), if_neg (by omega), h5]; exact ⟨rfl, rfl, rfl⟩
/-- the reference goes on: s is where it stands -/
theorem TokX.tok {B : Int → Int} {n : Int} {m b : Nat} {q r : Mh} (h : TokL B n m q) (hb : b ≤ m) (h1 : r 1 = B) (h6 : r 0 6 = n) (hB : ∀ j, 0 ≤ j → j < n → 0 ≤ B j ∧ B j ≤ 255) (hw : ∀ j, 0 ≤ j → j < 108 → r 2 j = wrd j) (hs : re isB B n (r 0 7) = st B n b) : TokX B n m b (tokR r) := by
  have sl := st_le h hb
  unfold TokX
  rw [tokR_o (by decide), tokR_j (by omega), tokR_o (by decide)]
  refine ⟨h1, h6, hB, hw, ?_, fun z => ?_, fun z => ?_⟩
  · rw [tokR_10, h1, h6]; exact hs
  · have := sl.2.2 z
    rw [tokR_7, tokR_8, tokR_9, h1, h6, hs, if_pos this, if_pos this, if_pos this]
    exact ⟨rfl, rfl, rfl⟩
  · have : ¬ st B n b < n := by rw [z, h.2.2.2.2.2.1]; omega
    rw [tokR_7, tokR_8, h1, h6, hs, if_neg this, if_neg this]
    exact ⟨rfl, rfl⟩
theorem PTok.adv {B : Int → Int} {n : Int} {m a : Nat} {q r : Mh} (h : PTok B n m a q r) : PTok B n m (nxT m a) (advC q) (tokR r) := by
  obtain ⟨hL, hC, hX⟩ := h
  obtain ⟨c7, am, _, _⟩ := hC
  refine ⟨hL.adv, TokC.adv hL c7 _ (by unfold nxT; split <;> split <;> omega), ?_⟩
  obtain ⟨h1, h6, hB, hw, h10, x1, x2⟩ := hX
  refine TokX.tok hL (by unfold nxT; split <;> omega) h1 h6 hB hw ?_
  unfold nxT
  by_cases z : a < m
  · rw [if_pos z, (x1 z).1]; rfl
  · rw [if_neg z, (x2 (by omega)).1, hL.2.2.2.2.2.1, re_stop (Or.inl (Int.le_refl _))]
theorem PTok.runC {B : Int → Int} {n : Int} {m a : Nat} {q r : Mh} (h : PTok B n m a q r) {K : Mh → Prop} (hk : K (advC q)) : wp_X10_advance q K := by
  obtain ⟨hL, hC, hX⟩ := h
  obtain ⟨c7, am, _, _⟩ := hC
  obtain ⟨h5, n0, n1, h4, m1, _⟩ := hL
  exact xp_advance (by omega) (by omega) (by omega) (by omega) hk
theorem PTok.runR {B : Int → Int} {n : Int} {m a : Nat} {q r : Mh} (h : PTok B n m a q r) {K : Mh → Prop} (hk : K (tokR r)) : wp_X14_token r K := by
  obtain ⟨hL, hC, hX⟩ := h
  obtain ⟨h1, h6, hB, hw, h10, x1, x2⟩ := hX
  have sl := st_le hL hC.2.1
  have n1 := hL.2.2.1
  have r7 : 0 ≤ r 0 7 ∧ r 0 7 ≤ n := by
    by_cases z : a < m
    · have t := tE_r (B := B) (sl.2.2 z)
      rw [(x1 z).1]; omega
    · rw [(x2 (by have := hC.2.1; omega)).1]; exact ⟨hL.2.1, Int.le_refl _⟩
  exact xp_token hw r7.1 (by omega) (by omega) (by rw [h1, h6]; exact hB) hk
/-- what both see -/
theorem PTok.see {B : Int → Int} {n : Int} {m a : Nat} {q r : Mh} (h : PTok B n m a q r) : q 49 9 = r 0 10 ∧ ((a = m ∧ q 49 8 = 0 ∧ r 0 8 = 0) ∨ (a < m ∧ tRel (q 49 8) (q 49 10) (r 0 8) (r 0 9))) := by
  obtain ⟨hL, hC, hX⟩ := h
  obtain ⟨h1, h6, hB, hw, h10, x1, x2⟩ := hX
  obtain ⟨c7, am, c1, c2⟩ := hC
  obtain ⟨h5, n0, n1, h4, m1, sm, hi⟩ := hL
  by_cases z : a < m
  · obtain ⟨i0, i1, i2, i3⟩ := hi a z
    obtain ⟨d1, d2, d3⟩ := c1 z
    obtain ⟨e1, e2, e3⟩ := x1 z
    refine ⟨by rw [d2, h10]; exact i2, Or.inr ⟨z, ?_⟩⟩
    rw [d1, d3, e2, e3]; exact i3
  · have am2 : a = m := by omega
    obtain ⟨d1, d2, d3⟩ := c2 am2
    obtain ⟨e1, e2⟩ := x2 am2
    exact ⟨by rw [d2, h10, am2, sm], Or.inl ⟨am2, d1, e2⟩⟩
/-- the questions that are put to a token -/
theorem PTok.num {B : Int → Int} {n : Int} {m a : Nat} {q r : Mh} (h : PTok B n m a q r) : (q 49 8 = 1 ↔ r 0 8 = 3) ∧ (q 49 8 = 1 → a < m ∧ 0 ≤ q 49 10 ∧ q 49 10 ≤ 1000000 ∧ 0 ≤ r 0 9 ∧ r 0 9 ≤ 1000000 ∧ (q 49 10 = r 0 9 ∨ (9999 < q 49 10 ∧ 9999 < r 0 9))) := by
  rcases h.see.2 with ⟨_, a1, a2⟩ | ⟨am, t⟩
  · exact ⟨by omega, fun z => by omega⟩
  · unfold tRel at t
    rcases t with t | t | t | t | t | t
    · exact ⟨by omega, fun _ => ⟨am, t.2.2⟩⟩
    all_goals exact ⟨by omega, fun z => by omega⟩
theorem PTok.name {B : Int → Int} {n : Int} {m a : Nat} {q r : Mh} (h : PTok B n m a q r) : (q 49 8 = 2 ↔ r 0 8 = 2) ∧ (q 49 8 = 2 → a < m ∧ q 49 10 = r 0 9 ∧ 0 ≤ r 0 9 ∧ r 0 9 < 1073741824) := by
  rcases h.see.2 with ⟨_, a1, a2⟩ | ⟨am, t⟩
  · exact ⟨by omega, fun z => by omega⟩
  · unfold tRel at t
    rcases t with t | t | t | t | t | t
    · exact ⟨by omega, fun z => by omega⟩
    · exact ⟨by omega, fun _ => ⟨am, t.2.2⟩⟩
    all_goals exact ⟨by omega, fun z => by omega⟩
theorem PTok.word {B : Int → Int} {n : Int} {m a : Nat} {q r : Mh} (h : PTok B n m a q r) : (q 49 8 = 3 ↔ r 0 8 = 1) ∧ (q 49 8 = 3 → a < m ∧ 0 ≤ r 0 9 ∧ r 0 9 < 22 ∧ q 49 10 = wl (ix (r 0 9))) := by
  rcases h.see.2 with ⟨_, a1, a2⟩ | ⟨am, t⟩
  · exact ⟨by omega, fun z => by omega⟩
  · unfold tRel at t
    rcases t with t | t | t | t | t | t
    · exact ⟨by omega, fun z => by omega⟩
    · exact ⟨by omega, fun z => by omega⟩
    · exact ⟨by omega, fun _ => ⟨am, t.2.2⟩⟩
    all_goals exact ⟨by omega, fun z => by omega⟩
