/-! ===== what one drop gives ===== -/
def prt (wk n : Int) : Int := if 100 - wk ≤ 0 then 0 else (n * (100 - wk)).tdiv 100
def rsf (m : Int) (f : Int → Int) (n : Int) : Int := if n < 0 then 0 else if m ≤ n then 0 else f n
def via (D : Int → Int → Int × Int) (rs : Int → Int) (sent a c n h : Int) : Int := if (D a h).1 = 999 ∨ (D h c).1 = 999 then 0 else prt (D h c).2 ((prt (D a h).2 (rs (n - (D a h).1 - (D h c).1)) * sent).tdiv 100)
def vias (D : Int → Int → Int × Int) (rs : Int → Int) (sent a c n : Int) (S : Int → Int) : Nat → Int → Int
  | 0, _ => 0
  | m + 1, i => via D rs sent a c n (S i) + vias D rs sent a c n S m (i + 1)
def dir (D : Int → Int → Int × Int) (rs : Int → Int) (a c n : Int) : Int := if (D a c).1 = 999 then 0 else prt (D a c).2 (rs (n - (D a c).1))
def giv (D : Int → Int → Int × Int) (rs : Int → Int) (sent : Int) (S : Int → Int) (m : Nat) (a c n : Int) : Int := dir D rs a c n + vias D rs sent a c n S m 0
theorem tdiv_le {x M : Int} (m0 : 0 ≤ M) (h0 : -(M * 100) ≤ x) (h1 : x ≤ M * 100) : -M ≤ x.tdiv 100 ∧ x.tdiv 100 ≤ M := by
  have h : (x.tdiv 100).natAbs = x.natAbs / 100 := Int.natAbs_tdiv x 100
  omega
theorem mul_le {n L M : Int} (n0 : -M ≤ n) (n1 : n ≤ M) (l0 : 0 ≤ L) (l1 : L ≤ 100) : -(M * 100) ≤ n * L ∧ n * L ≤ M * 100 := by
  have m0 : 0 ≤ M := by omega
  have h1 : n * L ≤ M * L := Int.mul_le_mul_of_nonneg_right n1 l0
  have h2 : M * L ≤ M * 100 := Int.mul_le_mul_of_nonneg_left l1 m0
  have h3 : (-M) * L ≤ n * L := Int.mul_le_mul_of_nonneg_right n0 l0
  have h4 : (-M) * L = -(M * L) := Int.neg_mul M L
  omega
theorem prt_le {wk n M : Int} (w0 : 0 ≤ wk) (n0 : -M ≤ n) (n1 : n ≤ M) : -M ≤ prt wk n ∧ prt wk n ≤ M := by
  unfold prt
  split
  · omega
  · have := mul_le n0 n1 (L := 100 - wk) (by omega) (by omega)
    exact tdiv_le (by omega) this.1 this.2
theorem prt_neg {wk n : Int} : prt wk (-n) = - prt wk n := by
  unfold prt
  split
  · rfl
  · rw [Int.neg_mul, Int.neg_tdiv]
theorem rsf_le {m : Int} {f : Int → Int} (h : ∀ j, 0 ≤ j → j < m → -99 ≤ f j ∧ f j ≤ 99) (n : Int) : -99 ≤ rsf m f n ∧ rsf m f n ≤ 99 := by
  unfold rsf
  split
  · omega
  · split
    · omega
    · exact h n (by omega) (by omega)
theorem rsf_congr {m : Int} {f g : Int → Int} (h : ∀ j, 0 ≤ j → j < m → f j = g j) : rsf m f = rsf m g := by
  funext n
  unfold rsf
  split
  · rfl
  · split
    · rfl
    · exact h n (by omega) (by omega)
theorem sen_le {x sent : Int} (x0 : -99 ≤ x) (x1 : x ≤ 99) (s0 : 0 ≤ sent) (s1 : sent ≤ 99) : (-9900 ≤ x * sent ∧ x * sent ≤ 9900) ∧ -99 ≤ (x * sent).tdiv 100 ∧ (x * sent).tdiv 100 ≤ 99 := by
  have := mul_le (M := 99) x0 x1 s0 (by omega)
  exact ⟨⟨by omega, by omega⟩, tdiv_le (by omega) this.1 this.2⟩
theorem via_le {D : Int → Int → Int × Int} {rs : Int → Int} {sent a c n h : Int} (hD : ∀ a b, 0 ≤ (D a b).2) (hr : ∀ n, -99 ≤ rs n ∧ rs n ≤ 99) (s0 : 0 ≤ sent) (s1 : sent ≤ 99) : -99 ≤ via D rs sent a c n h ∧ via D rs sent a c n h ≤ 99 := by
  unfold via
  split
  · omega
  · have h1 := hr (n - (D a h).1 - (D h c).1)
    have h2 := prt_le (M := 99) (hD a h) h1.1 h1.2
    have h3 := sen_le h2.1 h2.2 s0 s1
    exact prt_le (hD h c) h3.2.1 h3.2.2
theorem vias_le {D : Int → Int → Int × Int} {rs : Int → Int} {sent a c n : Int} {S : Int → Int} (hD : ∀ a b, 0 ≤ (D a b).2) (hr : ∀ n, -99 ≤ rs n ∧ rs n ≤ 99) (s0 : 0 ≤ sent) (s1 : sent ≤ 99) : ∀ (m : Nat) (i : Int), -(99 * m) ≤ vias D rs sent a c n S m i ∧ vias D rs sent a c n S m i ≤ 99 * m := by
  intro m
  induction m with
  | zero => intro i; unfold vias; omega
  | succ m ih =>
    intro i
    unfold vias
    have := ih (i + 1)
    have := via_le (a := a) (c := c) (n := n) (h := S i) hD hr s0 s1
    omega
theorem dir_le {D : Int → Int → Int × Int} {rs : Int → Int} {a c n : Int} (hD : ∀ a b, 0 ≤ (D a b).2) (hr : ∀ n, -99 ≤ rs n ∧ rs n ≤ 99) : -99 ≤ dir D rs a c n ∧ dir D rs a c n ≤ 99 := by
  unfold dir
  split
  · omega
  · have h1 := hr (n - (D a c).1)
    exact prt_le (M := 99) (hD a c) h1.1 h1.2
theorem giv_le {D : Int → Int → Int × Int} {rs : Int → Int} {sent a c n : Int} {S : Int → Int} {m : Nat} (hD : ∀ a b, 0 ≤ (D a b).2) (hr : ∀ n, -99 ≤ rs n ∧ rs n ≤ 99) (s0 : 0 ≤ sent) (s1 : sent ≤ 99) (m3 : m ≤ 3) : -396 ≤ giv D rs sent S m a c n ∧ giv D rs sent S m a c n ≤ 396 := by
  unfold giv
  have h1 := dir_le (a := a) (c := c) (n := n) hD hr
  have h2 := vias_le (a := a) (c := c) (n := n) (S := S) hD hr s0 s1 m 0
  omega
theorem vias_congr {D : Int → Int → Int × Int} {rs : Int → Int} {sent a c n : Int} {S T : Int → Int} : ∀ (m : Nat) (i : Int), (∀ j, i ≤ j → j < i + m → S j = T j) → vias D rs sent a c n S m i = vias D rs sent a c n T m i := by
  intro m
  induction m with
  | zero => intro i _; rfl
  | succ m ih =>
    intro i h
    unfold vias
    rw [h i (by omega) (by omega), ih (i + 1) (fun j h1 h2 => h j (by omega) (by omega))]
theorem vias_congrD {D E : Int → Int → Int × Int} {rs : Int → Int} {sent a c n : Int} {S : Int → Int} (a0 : 0 ≤ a) (a1 : a < 48) (c0 : 0 ≤ c) (c1 : c < 48) (hD : ∀ a b, 0 ≤ a → a < 48 → 0 ≤ b → b < 48 → D a b = E a b) : ∀ (m : Nat) (i : Int), (∀ j, i ≤ j → j < i + m → 0 ≤ S j ∧ S j < 48) → vias D rs sent a c n S m i = vias E rs sent a c n S m i := by
  intro m
  induction m with
  | zero => intro i _; rfl
  | succ m ih =>
    intro i h
    unfold vias
    have hi := h i (by omega) (by omega)
    rw [ih (i + 1) (fun j h1 h2 => h j (by omega) (by omega))]
    unfold via
    rw [hD a (S i) a0 a1 hi.1 hi.2, hD (S i) c hi.1 hi.2 c0 c1]
theorem giv_congr {D E : Int → Int → Int × Int} {rs rs' : Int → Int} {sent a c n : Int} {S T : Int → Int} {m : Nat} (a0 : 0 ≤ a) (a1 : a < 48) (c0 : 0 ≤ c) (c1 : c < 48) (hD : ∀ a b, 0 ≤ a → a < 48 → 0 ≤ b → b < 48 → D a b = E a b) (hr : rs = rs') (hS : ∀ j : Int, 0 ≤ j → j < m → S j = T j) (hS2 : ∀ j : Int, 0 ≤ j → j < m → 0 ≤ S j ∧ S j < 48) : giv D rs sent S m a c n = giv E rs' sent T m a c n := by
  unfold giv dir
  rw [hD a c a0 a1 c0 c1, hr, vias_congrD a0 a1 c0 c1 hD m 0 (fun j h1 h2 => hS2 j h1 (by omega)), vias_congr m 0 (fun j h1 h2 => hS j h1 (by omega))]
def wayR (r : Mh) : Prop := ∀ a b, 0 ≤ a → a < 48 → 0 ≤ b → b < 48 → r 30 (48 * a + b) = (FA r a b).1 ∧ r 31 (48 * a + b) = (FA r a b).2
theorem FA_r {r : Mh} (hp : prm r) (a b : Int) : ((FA r a b).1 = 999 ∨ (0 ≤ (FA r a b).1 ∧ (FA r a b).1 ≤ 47)) ∧ 0 ≤ (FA r a b).2 ∧ (FA r a b).2 ≤ 7003 := by
  unfold FA
  split
  · refine ⟨DD_fst 47 b, ?_⟩
    have h := DD_le (w := r 0 12) (hh := r 0 13) (g := r 5) (a := a) hp.2.1.1 hp.2.2.1 47 b
    have h2 : ((47 : Nat) : Int) * (r 0 21 + r 0 22) ≤ 7003 := by have := hp.2.1.2; have := hp.2.2.2; omega
    omega
  · exact ⟨Or.inl rfl, by decide, by decide⟩
def kndR (r : Mh) (k : Int) : Prop := 0 ≤ r 10 k ∧ r 10 k ≤ 6 ∧ ∀ j, 0 ≤ j → j < r 10 k → -99 ≤ r 12 (6 * k + j) ∧ r 12 (6 * k + j) ≤ 99
theorem wi_riseAt {r : Mh} {k n : Int} (k0 : 0 ≤ k) (k1 : k < 8) (hk : kndR r k) (K : Int → Mh → Prop) : wp_X14_riseAt k n r K = K (rsf (r 10 k) (fun j => r 12 (6 * k + j)) n) r := by
  unfold wp_X14_riseAt rsf
  by_cases h0 : n < 0
  · rw [if_pos h0, if_pos h0]
  · rw [if_neg h0, if_neg h0]
    by_cases h1 : n < r 10 k
    · have := hk.2.1
      rw [if_pos h1, if_neg (by omega), w32_eq (x := 6 * k) (by omega) (by omega), w32_eq (by omega) (by omega)]
      exact propext ⟨fun z => z.2.2, fun z => ⟨⟨k0, k1⟩, ⟨by omega, by omega⟩, z⟩⟩
    · rw [if_neg h1, if_pos (by omega)]
      exact propext ⟨fun z => z.2, fun z => ⟨⟨k0, k1⟩, z⟩⟩
theorem wi_partOfR {r : Mh} {n a b : Int} (hp : prm r) (hw : wayR r) (a0 : 0 ≤ a) (a1 : a < 48) (b0 : 0 ≤ b) (b1 : b < 48) (n0 : -99 ≤ n) (n1 : n ≤ 99) (K : Int → Mh → Prop) : wp_X14_partOf n a b r K = K (prt (FA r a b).2 n) r := by
  unfold wp_X14_partOf prt
  have hf := (FA_r hp a b).2
  rw [w32_eq (x := 48 * a) (by omega) (by omega), w32_eq (x := 48 * a + b) (by omega) (by omega), (hw a b a0 a1 b0 b1).2, w32_eq (x := 100 - (FA r a b).2) (by omega) (by omega)]
  have e : ∀ P : Prop, (((0 : Int) ≤ 48 * a + b ∧ 48 * a + b < 2304) ∧ ∀ x1 : Int, x1 = 100 - (FA r a b).2 → if 0 < x1 then K (j_div (w32 (n * x1)) 100) r else K 0 r) = (if 0 < 100 - (FA r a b).2 then K (j_div (w32 (n * (100 - (FA r a b).2))) 100) r else K 0 r) := by
    intro _
    exact propext ⟨fun z => z.2 _ rfl, fun z => ⟨⟨by omega, by omega⟩, fun x ex => by rw [ex]; exact z⟩⟩
  rw [e True]
  by_cases h : 0 < 100 - (FA r a b).2
  · have hm := mul_le (M := 99) n0 n1 (L := 100 - (FA r a b).2) (by omega) (by omega)
    have ht := tdiv_le (M := 99) (by omega) hm.1 hm.2
    rw [if_pos h, if_neg (by omega), w32_eq (by omega) (by omega)]
    unfold j_div
    rw [w32_eq (by omega) (by omega)]
  · rw [if_neg h, if_pos (by omega)]
theorem j_div100 {x : Int} (h0 : -1000000 ≤ x) (h1 : x ≤ 1000000) : j_div x 100 = x.tdiv 100 := by
  unfold j_div
  have := tdiv_le (x := x) (M := 10000) (by omega) (by omega) (by omega)
  rw [w32_eq (by omega) (by omega)]
theorem sp_gives {r : Mh} {k a c n : Int} {K : Int → Mh → Prop} (hp : prm r) (hw : wayR r) (k0 : 0 ≤ k) (k1 : k < 8) (hk : kndR r k) (s0 : 0 ≤ r 0 23) (s1 : r 0 23 ≤ 99) (m0 : 0 ≤ r 0 77) (m1 : r 0 77 ≤ 3) (hS : ∀ j, 0 ≤ j → j < r 0 77 → 0 ≤ r 32 j ∧ r 32 j < 48)
    (a0 : 0 ≤ a) (a1 : a < 48) (c0 : 0 ≤ c) (c1 : c < 48) (n0 : -1000000 ≤ n) (n1 : n ≤ 1000000)
    (hK : K (giv (FA r) (rsf (r 10 k) (fun j => r 12 (6 * k + j))) (r 0 23) (r 32) (r 0 77).toNat a c n) r) : wp_X14_gives k a c n r K := by
  have hrs : ∀ n, -99 ≤ rsf (r 10 k) (fun j => r 12 (6 * k + j)) n ∧ rsf (r 10 k) (fun j => r 12 (6 * k + j)) n ≤ 99 := rsf_le hk.2.2
  have hD : ∀ a b, 0 ≤ (FA r a b).2 := fun a b => (FA_r hp a b).2.1
  have loop : ∀ (m : Nat) (i v : Int), 0 ≤ i → i + m = r 0 77 → -1000 ≤ v → v ≤ 1000 → v + vias (FA r) (rsf (r 10 k) (fun j => r 12 (6 * k + j))) (r 0 23) a c n (r 32) m i = giv (FA r) (rsf (r 10 k) (fun j => r 12 (6 * k + j))) (r 0 23) (r 32) (r 0 77).toNat a c n → Lfp (F_X14_gives k a c n K) (50, [v, i], r) := by
    intro m
    induction m with
    | zero =>
      intro i v i0 hi v0 v1 hv
      apply L_X14_gives_50
      unfold B_X14_gives_50
      rw [if_pos (by omega)]
      unfold vias at hv
      rw [show v = giv (FA r) (rsf (r 10 k) (fun j => r 12 (6 * k + j))) (r 0 23) (r 32) (r 0 77).toNat a c n by omega]
      exact hK
    | succ m ih =>
      intro i v i0 hi v0 v1 hv
      apply L_X14_gives_50
      unfold B_X14_gives_50
      rw [if_neg (by omega)]
      refine ⟨⟨i0, by omega⟩, ?_⟩
      intro h eh
      have hh := hS i i0 (by omega)
      rw [← eh] at hh
      unfold vias at hv
      have hvl := vias_le (a := a) (c := c) (n := n) (S := r 32) hD hrs s0 s1 m (i + 1)
      have hgl := giv_le (a := a) (c := c) (n := n) (S := r 32) (m := (r 0 77).toNat) hD hrs s0 s1 (by omega)
      rw [← eh] at hv
      unfold via at hv
      have f1 := FA_r hp a h
      have f2 := FA_r hp h c
      rw [w32_eq (x := 48 * a) (by omega) (by omega), w32_eq (x := 48 * a + h) (by omega) (by omega), w32_eq (x := 48 * h) (by omega) (by omega), w32_eq (x := 48 * h + c) (by omega) (by omega), (hw a h a0 a1 hh.1 hh.2).1, (hw h c hh.1 hh.2 c0 c1).1]
      refine ⟨⟨by omega, by omega⟩, ?_⟩
      by_cases d1 : (FA r a h).1 = 999
      · rw [if_pos d1]
        rw [if_pos (Or.inl d1)] at hv
        intro x ex
        rw [w32_eq (by omega) (by omega)] at ex
        subst ex
        exact ih (i + 1) v (by omega) (by omega) v0 v1 (by omega)
      · rw [if_neg d1]
        refine ⟨⟨by omega, by omega⟩, ?_⟩
        by_cases d2 : (FA r h c).1 = 999
        · rw [if_neg (fun z => z d2)]
          rw [if_pos (Or.inr d2)] at hv
          intro x ex
          rw [w32_eq (by omega) (by omega)] at ex
          subst ex
          exact ih (i + 1) v (by omega) (by omega) v0 v1 (by omega)
        · rw [if_pos d2]
          rw [if_neg (by omega)] at hv
          refine ⟨⟨by omega, by omega⟩, ⟨by omega, by omega⟩, ?_⟩
          rw [w32_eq (x := n - (FA r a h).1) (by omega) (by omega), w32_eq (x := n - (FA r a h).1 - (FA r h c).1) (by omega) (by omega), wi_riseAt k0 k1 hk]
          have g1 := hrs (n - (FA r a h).1 - (FA r h c).1)
          rw [wi_partOfR hp hw a0 a1 hh.1 hh.2 g1.1 g1.2]
          have g2 := prt_le (M := 99) (hD a h) g1.1 g1.2
          have g3 := sen_le g2.1 g2.2 s0 s1
          rw [w32_eq (x := prt (FA r a h).2 (rsf (r 10 k) (fun j => r 12 (6 * k + j)) (n - (FA r a h).1 - (FA r h c).1)) * r 0 23) (by omega) (by omega), j_div100 (by omega) (by omega), wi_partOfR hp hw hh.1 hh.2 c0 c1 g3.2.1 g3.2.2]
          have g4 := prt_le (M := 99) (hD h c) g3.2.1 g3.2.2
          intro x ex y ey
          rw [w32_eq (by omega) (by omega)] at ey
          rw [w32_eq (by omega) (by omega)] at ex
          subst ex; subst ey
          exact ih (i + 1) _ (by omega) (by omega) (by omega) (by omega) (by omega)
  have hgv : giv (FA r) (rsf (r 10 k) (fun j => r 12 (6 * k + j))) (r 0 23) (r 32) (r 0 77).toNat a c n = dir (FA r) (rsf (r 10 k) (fun j => r 12 (6 * k + j))) a c n + vias (FA r) (rsf (r 10 k) (fun j => r 12 (6 * k + j))) (r 0 23) a c n (r 32) (r 0 77).toNat 0 := rfl
  have f1 := FA_r hp a c
  unfold wp_X14_gives
  rw [w32_eq (x := 48 * a) (by omega) (by omega), w32_eq (x := 48 * a + c) (by omega) (by omega), (hw a c a0 a1 c0 c1).1]
  refine ⟨⟨by omega, by omega⟩, ?_⟩
  unfold dir at hgv
  by_cases d1 : (FA r a c).1 = 999
  · rw [if_pos (by omega)]
    rw [if_pos d1] at hgv
    exact loop (r 0 77).toNat 0 0 (by omega) (by omega) (by omega) (by omega) (by omega)
  · rw [if_neg (by omega)]
    rw [if_neg d1] at hgv
    refine ⟨⟨by omega, by omega⟩, ?_⟩
    rw [w32_eq (x := n - (FA r a c).1) (by omega) (by omega), wi_riseAt k0 k1 hk]
    have g1 := hrs (n - (FA r a c).1)
    rw [wi_partOfR hp hw a0 a1 c0 c1 g1.1 g1.2]
    have g2 := prt_le (M := 99) (hD a c) g1.1 g1.2
    exact loop (r 0 77).toNat 0 _ (by omega) (by omega) (by omega) (by omega) (by omega)
