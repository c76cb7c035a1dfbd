/-- a byte of a number, by the two ways -/
theorem b8_mod (b : BitVec 8) : b.toInt % 256 = b.toNat := by
  rw [BitVec.toInt_eq_toNat_cond]
  have := b.isLt
  split <;> omega
theorem b32_small (b : BitVec 32) (h : b.toNat < 256) : b.toInt = b.toNat := by
  rw [BitVec.toInt_eq_toNat_cond, if_pos (by omega)]
theorem byte_key (x : BitVec 32) (n : Nat) (hn : n ≤ 24) : ((x >>> n).setWidth 8).toNat = (x.sshiftRight n &&& 255#32).toNat := by
  have e : (x.sshiftRight n &&& 255#32) = ((x >>> n).setWidth 8).setWidth 32 := by
    apply BitVec.eq_of_getLsbD_eq
    intro i hi
    have f : (255#32).getLsbD i = decide (i < 8) := by
      have : ∀ i : Nat, i < 32 → (255#32).getLsbD i = decide (i < 8) := by decide +kernel
      exact this i hi
    rw [BitVec.getLsbD_and, BitVec.getLsbD_sshiftRight, BitVec.getLsbD_setWidth, BitVec.getLsbD_setWidth, BitVec.getLsbD_ushiftRight, f]
    by_cases q : i < 8
    · simp [q, hi, show n + i < 32 by omega]
    · simp [q]
  generalize (x >>> n).setWidth 8 = y at e ⊢
  have l := y.isLt
  rw [e, BitVec.toNat_setWidth]
  exact (Nat.mod_eq_of_lt (by omega)).symm
theorem byte_eq (a : Int) (s : Int) (hs : s = 0 ∨ s = 8 ∨ s = 16 ∨ s = 24) : j_i2b (j_ushr a s) % 256 = j_and (j_shr a s) 255 := by
  have main : ∀ n : Nat, n = 0 ∨ n = 8 ∨ n = 16 ∨ n = 24 → j_i2b (j_ushr a n) % 256 = j_and (j_shr a n) 255 := by
    intro n hn
    have l1 : j_i2b (j_ushr a n) = (((BitVec.ofInt 32 a) >>> n).setWidth 8).toInt := by
      unfold j_i2b j_ushr
      rw [Int32.ofInt_toInt, Int8.toInt_toInt32]
      show (((Int32.ofInt a).toUInt32 >>> ((Int32.ofInt n).toUInt32 &&& Int32.toUInt32 31)).toInt32.toInt8).toBitVec.toInt = _
      congr 1
      have e : ((Int32.ofInt n).toUInt32 &&& Int32.toUInt32 31) = UInt32.ofNat n := by rcases hn with rfl | rfl | rfl | rfl <;> rfl
      rw [e, Int32.toBitVec_toInt8, BitVec.signExtend_eq_setWidth_of_le _ (by decide)]
      congr 1
      show ((Int32.ofInt a).toUInt32 >>> UInt32.ofNat n).toBitVec = _
      rw [UInt32.toBitVec_shiftRight]
      rcases hn with rfl | rfl | rfl | rfl <;> rfl
    have l2 : j_and (j_shr a n) 255 = ((BitVec.ofInt 32 a).sshiftRight n &&& 255#32).toInt := by
      unfold j_and j_shr
      rw [Int32.ofInt_toInt]
      show ((Int32.ofInt a >>> (Int32.ofInt n &&& 31)) &&& Int32.ofInt 255).toBitVec.toInt = _
      congr 1
      rw [Int32.toBitVec_and]
      congr 1
      rw [Int32.toBitVec_shiftRight]
      rcases hn with rfl | rfl | rfl | rfl <;> rfl
    have k := byte_key (BitVec.ofInt 32 a) n (by omega)
    have b := (((BitVec.ofInt 32 a) >>> n).setWidth 8).isLt
    rw [l1, l2, b8_mod, b32_small _ (by omega), k]
  rcases hs with rfl | rfl | rfl | rfl
  · exact main 0 (by omega)
  · exact main 8 (by omega)
  · exact main 16 (by omega)
  · exact main 24 (by omega)
theorem i2b_r (a : Int) : -128 ≤ j_i2b a ∧ j_i2b a < 128 := by
  unfold j_i2b
  rw [Int8.toInt_toInt32]
  exact ⟨Int8.le_toInt _, Int8.toInt_lt _⟩
theorem and255_r (a : Int) : 0 ≤ j_and a 255 ∧ j_and a 255 < 256 := by
  have : j_and a 255 = ((BitVec.ofInt 32 a) &&& 255#32).toInt := rfl
  have l : ((BitVec.ofInt 32 a) &&& 255#32).toNat < 256 := by
    rw [BitVec.toNat_and]
    exact Nat.lt_of_le_of_lt Nat.and_le_right (by decide)
  rw [this, b32_small _ l]
  omega
/-- what comes onto the tape of a number: the class's heap behind it -/
def tput (q : Mh) (n a : Int) : Mh := fun b j => if b = 0 ∧ j = 1 then n + 4 else if b = 1 ∧ n ≤ j ∧ j < n + 4 then j_i2b (j_ushr a (24 - 8 * (j - n))) else q b j
theorem sp_putBytes {a : Int} {q : Mh} {K : Mh → Prop} (h0 : 0 ≤ q 0 1) (h1 : q 0 1 ≤ 796) (hk : K (tput q (q 0 1) a)) : wp_X13_putBytes a q K := by
  unfold wp_X13_putBytes
  have step : ∀ (v : Int) (g : Mh), v = 0 ∨ v = 8 ∨ v = 16 ∨ v = 24 → 0 ≤ g 0 1 → g 0 1 < 800 → Lfp (F_X13_putBytes a K) (3, [v - 8], up (up g 1 (g 0 1) (j_i2b (j_ushr a v))) 0 1 (g 0 1 + 1)) → Lfp (F_X13_putBytes a K) (3, [v], g) := by
    intro v g hv g0 g1 hn
    apply L_X13_putBytes_3
    unfold B_X13_putBytes_3
    rw [if_neg (by omega), if_neg (by omega)]
    refine ⟨⟨g0, g1⟩, i2b_r _, ?_⟩
    intro g2 e2 g3 e3 x ex
    subst e2
    rw [up_other (b := 0) (by decide), w32_eq (by omega) (by omega)] at e3
    subst e3
    rw [w32_eq (by omega) (by omega)] at ex
    subst ex
    exact hn
  have e1 : ∀ (g : Mh) (x y z : Int), up (up g 1 x y) 0 1 z 0 1 = z := fun g x y z => up_self
  refine step 24 q (by omega) h0 (by omega) (step 16 _ (by omega) (by rw [e1]; omega) (by rw [e1]; omega) (step 8 _ (by omega) (by rw [e1, e1]; omega) (by rw [e1, e1]; omega) (step 0 _ (by omega) (by rw [e1, e1, e1]; omega) (by rw [e1, e1, e1]; omega) ?_)))
  apply L_X13_putBytes_3
  unfold B_X13_putBytes_3
  rw [if_pos (by omega)]
  rw [e1, e1, e1]
  refine cast (congrArg K ?_) hk
  funext b j
  simp only [tput, up]
  by_cases c0 : b = 0 ∧ j = 1
  · obtain ⟨rfl, rfl⟩ := c0
    simp
    omega
  · simp only [c0, if_false]
    by_cases c1 : b = 1
    · subst c1
      by_cases d0 : j = q 0 1
      · subst d0
        simp
        grind
      · by_cases d1 : j = q 0 1 + 1
        · subst d1
          simp
          grind
        · by_cases d2 : j = q 0 1 + 1 + 1
          · subst d2
            simp
            grind
          · by_cases d3 : j = q 0 1 + 1 + 1 + 1
            · subst d3
              simp
              grind
            · have : ¬ (q 0 1 ≤ j ∧ j < q 0 1 + 4) := by omega
              simp [d0, d1, d2, d3, this]
    · simp [c1]
/-- the word that has the k-th of twenty bytes -/
def wd5 (a b c d e k : Int) : Int := if k < 4 then a else if k < 8 then b else if k < 12 then c else if k < 16 then d else e
def tput5 (q : Mh) (n a b c d e : Int) : Mh := fun o j => if o = 0 ∧ j = 1 then n + 20 else if o = 1 ∧ n ≤ j ∧ j < n + 20 then j_i2b (j_ushr (wd5 a b c d e (j - n)) (24 - 8 * ((j - n) % 4))) else q o j
theorem tput5_eq (q : Mh) (n a b c d e : Int) : tput (tput (tput (tput (tput q n a) (n + 4) b) (n + 8) c) (n + 12) d) (n + 16) e = tput5 q n a b c d e := by
  funext o j
  simp only [tput, tput5, wd5]
  by_cases c0 : o = 0 ∧ j = 1
  · simp only [c0, and_self, if_true]
    omega
  · simp only [c0, if_false]
    by_cases c1 : o = 1
    · subst c1
      simp only [true_and]
      by_cases k : n ≤ j ∧ j < n + 20
      · obtain ⟨k0, k1⟩ := k
        have t : j < n + 4 ∨ (n + 4 ≤ j ∧ j < n + 8) ∨ (n + 8 ≤ j ∧ j < n + 12) ∨ (n + 12 ≤ j ∧ j < n + 16) ∨ n + 16 ≤ j := by omega
        rcases t with t | t | t | t | t
        · rw [if_neg (by omega), if_neg (by omega), if_neg (by omega), if_neg (by omega), if_pos (by omega), if_pos (by omega), if_pos (by omega), show (j - n) % 4 = j - n by omega]
        · rw [if_neg (by omega), if_neg (by omega), if_neg (by omega), if_pos (by omega), if_pos (by omega), if_neg (by omega), if_pos (by omega), show (j - n) % 4 = j - (n + 4) by omega]
        · rw [if_neg (by omega), if_neg (by omega), if_pos (by omega), if_pos (by omega), if_neg (by omega), if_neg (by omega), if_pos (by omega), show (j - n) % 4 = j - (n + 8) by omega]
        · rw [if_neg (by omega), if_pos (by omega), if_pos (by omega), if_neg (by omega), if_neg (by omega), if_neg (by omega), if_pos (by omega), show (j - n) % 4 = j - (n + 12) by omega]
        · rw [if_pos (by omega), if_pos (by omega), if_neg (by omega), if_neg (by omega), if_neg (by omega), if_neg (by omega), show (j - n) % 4 = j - (n + 16) by omega]
      · rw [if_neg (by omega), if_neg (by omega), if_neg (by omega), if_neg (by omega), if_neg (by omega), if_neg k]
    · simp [c1]
theorem j_rem4 {k : Int} (h0 : 0 ≤ k) (h1 : k < 20) : j_rem k 4 = k % 4 := by
  obtain ⟨n, rfl⟩ := Int.eq_ofNat_of_zero_le h0
  have : ∀ n : Nat, n < 20 → j_rem n 4 = (n : Int) % 4 := by decide +kernel
  exact this n (by omega)
def rput5 (r : Mh) (n a b c d e : Int) : Mh := fun o j => if o = 0 ∧ j = 1 then n + 20 else if o = 1 ∧ n ≤ j ∧ j < n + 20 then j_and (j_shr (wd5 a b c d e (j - n)) (24 - 8 * ((j - n) % 4))) 255 else r o j
theorem sp_rfeed {a b c d e : Int} {r : Mh} {K : Int → Mh → Prop} (h0 : 0 ≤ r 0 1) (h1 : r 0 1 ≤ 780) (hk : K (r 0 1 + 20) (rput5 r (r 0 1) a b c d e)) : Lfp (F_X14_feed a b c d e K) (23, [0], r) := by
  have main : ∀ (m : Nat) (k : Int) (g : Mh), 0 ≤ k → k + m = 20 → g = (fun o j => if o = 1 ∧ r 0 1 ≤ j ∧ j < r 0 1 + k then j_and (j_shr (wd5 a b c d e (j - r 0 1)) (24 - 8 * ((j - r 0 1) % 4))) 255 else r o j) → Lfp (F_X14_feed a b c d e K) (23, [k], g) := by
    intro m
    induction m with
    | zero =>
      intro k g k0 k1 eg
      apply L_X14_feed_23
      unfold B_X14_feed_23
      have g01 : g 0 1 = r 0 1 := by rw [eg]; simp
      rw [if_pos (by omega)]
      intro g2 e2
      rw [g01, w32_eq (by omega) (by omega)] at e2
      have ek : k = 20 := by omega
      subst ek
      have : g2 = rput5 r (r 0 1) a b c d e := by
        rw [e2, eg]
        funext o j
        simp only [up, rput5]
      rw [this]
      have e01 : rput5 r (r 0 1) a b c d e 0 1 = r 0 1 + 20 := by simp [rput5]
      rw [e01]
      exact hk
    | succ m ih =>
      intro k g k0 k1 eg
      have g01 : g 0 1 = r 0 1 := by rw [eg]; simp
      have next : Lfp (F_X14_feed a b c d e K) (76, [k, wd5 a b c d e k], g) := by
        apply L_X14_feed_76
        unfold B_X14_feed_76
        rw [g01, w32_eq (x := r 0 1 + k) (by omega) (by omega), j_rem4 k0 (by omega), w32_eq (x := 8 * (k % 4)) (by omega) (by omega), w32_eq (x := 24 - 8 * (k % 4)) (by omega) (by omega)]
        refine ⟨⟨by omega, by omega⟩, ?_⟩
        intro g2 e2 x ex
        rw [w32_eq (by omega) (by omega)] at ex
        subst ex
        refine ih (k + 1) g2 (by omega) (by omega) ?_
        rw [e2, eg]
        funext o j
        simp only [up]
        by_cases c1 : o = 1 ∧ j = r 0 1 + k
        · rw [if_pos c1, if_pos (by omega), c1.2, show r 0 1 + k - r 0 1 = k by omega]
        · rw [if_neg c1]
          by_cases c2 : o = 1 ∧ r 0 1 ≤ j ∧ j < r 0 1 + k
          · rw [if_pos c2, if_pos (by omega)]
          · rw [if_neg c2, if_neg (by omega)]
      apply L_X14_feed_23
      unfold B_X14_feed_23
      unfold wd5 at next
      rw [if_neg (by omega)]
      by_cases c4 : 4 ≤ k
      · rw [if_neg (by omega)] at next
        rw [if_pos c4]
        by_cases c8 : 8 ≤ k
        · rw [if_neg (by omega)] at next
          rw [if_pos c8]
          by_cases c12 : 12 ≤ k
          · rw [if_neg (by omega)] at next
            rw [if_pos c12]
            by_cases c16 : 16 ≤ k
            · rw [if_neg (by omega)] at next
              rw [if_pos c16]; exact next
            · rw [if_pos (by omega)] at next
              rw [if_neg c16]; exact next
          · rw [if_pos (by omega)] at next
            rw [if_neg c12]; exact next
        · rw [if_pos (by omega)] at next
          rw [if_neg c8]; exact next
      · rw [if_pos (by omega)] at next
        rw [if_neg c4]; exact next
  refine main 20 0 r (by omega) (by omega) ?_
  funext o j
  rw [if_neg (by omega)]
theorem op_feed {q r : Mh} (a b c d e : Int) (hT : RTape q r) : wp_X13_feed a b c d e q (fun x q' => wp_X14_feed a b c d e r (fun y r' => x = y ∧ RTape q' r' ∧ (∀ o j, ¬ (o = 1 ∨ (o = 0 ∧ j = 1)) → q' o j = q o j) ∧ (∀ o j, ¬ (o = 1 ∨ (o = 0 ∧ (j = 1 ∨ j = 2))) → r' o j = r o j))) := by
  obtain ⟨h1, h2, h3, h4⟩ := hT
  have e01 : up r 0 2 0 0 1 = r 0 1 := up_slot (by decide)
  unfold wp_X13_feed wp_X14_feed
  by_cases c0 : q 0 1 ≤ 780
  · rw [if_pos c0]
    have t : ∀ (g : Mh) (n x : Int), tput g n x 0 1 = n + 4 := fun g n x => by simp [tput]
    refine sp_putBytes (by omega) (by omega) ?_
    refine sp_putBytes (by rw [t]; omega) (by rw [t]; omega) ?_
    rw [t]
    refine sp_putBytes (by rw [t]; omega) (by rw [t]; omega) ?_
    rw [t]
    refine sp_putBytes (by rw [t]; omega) (by rw [t]; omega) ?_
    rw [t]
    refine sp_putBytes (by rw [t]; omega) (by rw [t]; omega) ?_
    simp only [t]
    rw [show q 0 1 + 4 + 4 = q 0 1 + 8 by omega, show q 0 1 + 8 + 4 = q 0 1 + 12 by omega, show q 0 1 + 12 + 4 = q 0 1 + 16 by omega, tput5_eq]
    intro r1 er
    subst er
    rw [e01, w32_eq (by omega) (by omega), if_pos (by omega)]
    refine sp_rfeed (by rw [e01]; exact h2) (by rw [e01]; omega) ?_
    rw [e01]
    have x1 : tput5 q (q 0 1) a b c d e 0 1 = q 0 1 + 20 := by simp [tput5]
    have y1 : rput5 (up r 0 2 0) (r 0 1) a b c d e 0 1 = r 0 1 + 20 := by simp [rput5]
    refine ⟨by omega, ?_, ?_, ?_⟩
    · refine ⟨by rw [x1, y1]; omega, by rw [y1]; omega, by rw [y1]; omega, ?_⟩
      intro j j0 j1
      rw [y1] at j1
      simp only [tput5, rput5, h1]
      by_cases k : r 0 1 ≤ j
      · simp only [show ¬ ((1 : Int) = 0 ∧ j = 1) by omega, if_false, true_and, if_pos (show r 0 1 ≤ j ∧ j < r 0 1 + 20 from ⟨k, j1⟩)]
        refine ⟨(byte_eq _ _ (by omega)).symm, i2b_r _⟩
      · simp only [show ¬ ((1 : Int) = 0 ∧ j = 1) by omega, if_false, true_and, if_neg (show ¬ (r 0 1 ≤ j ∧ j < r 0 1 + 20) by omega)]
        rw [up_other (by decide)]
        exact h4 j j0 (by omega)
    · intro o j ho
      simp only [tput5]
      rw [if_neg (fun z => ho (Or.inr z)), if_neg (fun z => ho (Or.inl z.1))]
    · intro o j ho
      simp only [rput5]
      rw [if_neg (fun z => ho (Or.inr ⟨z.1, Or.inl z.2⟩)), if_neg (fun z => ho (Or.inl z.1)), up_ne r (fun z => ho (Or.inr ⟨z.1, Or.inr z.2⟩))]
  · rw [if_neg c0]
    intro r1 er
    subst er
    rw [e01, w32_eq (by omega) (by omega), if_neg (by omega)]
    refine ⟨rfl, ⟨by rw [e01]; exact h1, by rw [e01]; exact h2, by rw [e01]; exact h3, ?_⟩, fun _ _ _ => rfl, fun o j ho => up_ne r (fun z => ho (Or.inr ⟨z.1, Or.inr z.2⟩))⟩
    intro j j0 j1
    rw [e01] at j1
    rw [up_other (by decide)]
    exact h4 j j0 j1
