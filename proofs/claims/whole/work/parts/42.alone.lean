/-! ===== the class: what one drop alone gives ===== -/
theorem FC_r {q : Mh} (hc : cprm q) (a b : Int) : ((FC q a b).1 = 999 ∨ (0 ≤ (FC q a b).1 ∧ (FC q a b).1 ≤ 47)) ∧ 0 ≤ (FC q a b).2 ∧ (FC q a b).2 ≤ 7003 := by
  unfold FC
  split
  · refine ⟨DD_fst 47 b, ?_⟩
    have h := DD_le (w := q (q 53 0) 0) (hh := q (q 53 0) 1) (g := cg q) (a := a) hc.2.1.1 hc.2.2.1 47 b
    have h2 : ((47 : Nat) : Int) * (q (q 53 0) 17 + q (q 53 0) 18) ≤ 7003 := by have := hc.2.1.2; have := hc.2.2.2; omega
    omega
  · exact ⟨Or.inl rfl, by decide, by decide⟩
theorem wi_orZero {sh : Int → Nat × Nat} {row i : Int} {q : Mh} (h : q row 1 ≤ (sh (row + 1)).2) (K : Int → Mh → Prop) : wp_X7_orZero sh row i q K = K (rsf (q row 1) (q (row + 1)) i) q := by
  unfold wp_X7_orZero rsf
  by_cases h0 : i < 0
  · rw [if_pos h0, if_pos h0]
  · rw [if_neg h0, if_neg h0]
    by_cases h1 : q row 1 ≤ i
    · rw [if_pos h1, if_pos h1]
    · rw [if_neg h1, if_neg h1, if_neg (by omega)]
      exact propext ⟨fun z => z.2, fun z => ⟨⟨by omega, by omega⟩, z⟩⟩
def cfar (q : Mh) (a b : Int) : Int := if (FC q a b).1 = 999 then -2 else (FC q a b).1
theorem wi_farOf {q : Mh} {a b : Int} (hc : cprm q) (hw : waysOK q) (a0 : 0 ≤ a) (a1 : a < q (q 53 0) 0 * q (q 53 0) 1) (b0 : 0 ≤ b) (b1 : b < q (q 53 0) 0 * q (q 53 0) 1) (K : Int → Mh → Prop) : wp_X6_farOf a b q K = K (cfar q a b) q := by
  have hm := szs_mul hc.1.2
  unfold wp_X6_farOf cfar
  rw [if_neg (by omega), if_neg (by omega), if_neg (by omega), if_neg (by omega), if_neg (by decide), w32_eq (x := a * 48) (by omega) (by omega), w32_eq (x := a * 48 + b) (by omega) (by omega), show a * 48 + b = 48 * a + b by omega, (hw.2 a a0 a1 b b0 b1).1]
  exact propext ⟨fun z => z.2, fun z => ⟨⟨by omega, by omega⟩, z⟩⟩
theorem wi_farOf' {q : Mh} {a b : Int} (h : a < 0 ∨ 48 ≤ a ∨ b < 0 ∨ 48 ≤ b) (K : Int → Mh → Prop) (hk : K (-2) q) : wp_X6_farOf a b q K := by
  have e : Lfp (F_X6_farOf a b K) (24, [], q) := by
    apply L_X6_farOf_24
    unfold B_X6_farOf_24
    rw [if_pos rfl]
    exact hk
  unfold wp_X6_farOf
  by_cases h1 : a < 0
  · rw [if_pos h1]; exact e
  · rw [if_neg h1]
    by_cases h2 : 48 ≤ a
    · rw [if_pos h2]; exact e
    · rw [if_neg h2]
      by_cases h3 : b < 0
      · rw [if_pos h3]; exact e
      · rw [if_neg h3, if_pos (by omega)]; exact e
theorem wi_weakOf {q : Mh} {a b : Int} (hc : cprm q) (hw : waysOK q) (a0 : 0 ≤ a) (a1 : a < q (q 53 0) 0 * q (q 53 0) 1) (b0 : 0 ≤ b) (b1 : b < q (q 53 0) 0 * q (q 53 0) 1) (K : Int → Mh → Prop) : wp_X6_weakOf a b q K = K (if (FC q a b).1 = 999 then -2 else (FC q a b).2) q := by
  have hm := szs_mul hc.1.2
  unfold wp_X6_weakOf
  rw [if_neg (by omega), if_neg (by omega), if_neg (by omega), if_neg (by omega), if_neg (by decide), w32_eq (x := a * 48) (by omega) (by omega), w32_eq (x := a * 48 + b) (by omega) (by omega), show a * 48 + b = 48 * a + b by omega, (hw.2 a a0 a1 b b0 b1).2]
  exact propext ⟨fun z => z.2, fun z => ⟨⟨by omega, by omega⟩, z⟩⟩
theorem wi_partOfC {q : Mh} {n a b : Int} (hc : cprm q) (hw : waysOK q) (a0 : 0 ≤ a) (a1 : a < q (q 53 0) 0 * q (q 53 0) 1) (b0 : 0 ≤ b) (b1 : b < q (q 53 0) 0 * q (q 53 0) 1) (hd : ¬ (FC q a b).1 = 999) (n0 : -99 ≤ n) (n1 : n ≤ 99) (K : Int → Mh → Prop) : wp_X6_partOf n a b q K = K (prt (FC q a b).2 n) q := by
  have hm0 := szs_mul hc.1.2
  unfold wp_X6_partOf prt
  have hf := (FC_r hc a b).2
  rw [if_neg (by omega), if_neg (by omega), if_neg (by omega), if_pos (by omega), w32_eq (x := a * 48) (by omega) (by omega), w32_eq (x := a * 48 + b) (by omega) (by omega), show a * 48 + b = 48 * a + b by omega, (hw.2 a a0 a1 b b0 b1).2, if_neg hd, w32_eq (x := 100 - (FC q a b).2) (by omega) (by omega)]
  have e : (((0 : Int) ≤ 48 * a + b ∧ 48 * a + b < 2304) ∧ ∀ x1 : Int, x1 = 100 - (FC q a b).2 → if x1 ≤ 0 then K 0 q else K (j_div (w32 (n * x1)) 100) q) = (if 100 - (FC q a b).2 ≤ 0 then K 0 q else K (j_div (w32 (n * (100 - (FC q a b).2))) 100) q) :=
    propext ⟨fun z => z.2 _ rfl, fun z => ⟨⟨by omega, by omega⟩, fun x ex => by rw [ex]; exact z⟩⟩
  rw [e]
  by_cases h : 100 - (FC q a b).2 ≤ 0
  · rw [if_pos h, if_pos h]
  · have hm := mul_le (M := 99) n0 n1 (L := 100 - (FC q a b).2) (by omega) (by omega)
    rw [if_neg h, if_neg h, w32_eq (by omega) (by omega), j_div100 (by omega) (by omega)]
abbrev csent (q : Mh) : Prop := 0 ≤ q (q 53 0) 19 ∧ q (q 53 0) 19 ≤ 99
theorem wi_sentOf {q : Mh} {n a h : Int} (hc : cprm q) (hw : waysOK q) (hs : csent q) (a0 : 0 ≤ a) (a1 : a < q (q 53 0) 0 * q (q 53 0) 1) (h0 : 0 ≤ h) (h1 : h < q (q 53 0) 0 * q (q 53 0) 1) (hd : ¬ (FC q a h).1 = 999) (n0 : -99 ≤ n) (n1 : n ≤ 99) (K : Int → Mh → Prop) : wp_X6_sentOf n a h q K = K ((prt (FC q a h).2 n * q (q 53 0) 19).tdiv 100) q := by
  unfold wp_X6_sentOf
  have g2 := prt_le (M := 99) (FC_r hc a h).2.1 n0 n1
  have g3 := sen_le g2.1 g2.2 hs.1 hs.2
  rw [wi_partOfC hc hw a0 a1 h0 h1 hd n0 n1, w32_eq (by omega) (by omega), j_div100 (by omega) (by omega)]
  exact propext ⟨fun z => z.2, fun z => ⟨isP_4 hc.1.1, z⟩⟩
theorem wi_farBy {q : Mh} {a h c : Int} (hc : cprm q) (hw : waysOK q) (a0 : 0 ≤ a) (a1 : a < q (q 53 0) 0 * q (q 53 0) 1) (h0 : 0 ≤ h) (h1 : h < q (q 53 0) 0 * q (q 53 0) 1) (c0 : 0 ≤ c) (c1 : c < q (q 53 0) 0 * q (q 53 0) 1) (K : Int → Mh → Prop) : wp_X6_farBy a h c q K = K (if (FC q a h).1 = 999 ∨ (FC q h c).1 = 999 then -2 else (FC q a h).1 + (FC q h c).1) q := by
  unfold wp_X6_farBy
  have f1 := FC_r hc a h
  have f2 := FC_r hc h c
  rw [wi_farOf hc hw a0 a1 h0 h1, wi_farOf hc hw h0 h1 c0 c1]
  unfold cfar
  by_cases d1 : (FC q a h).1 = 999
  · rw [if_pos d1, if_pos (by decide), if_pos (Or.inl d1)]
  · rw [if_neg d1, if_neg (by omega)]
    by_cases d2 : (FC q h c).1 = 999
    · rw [if_pos d2, if_neg (by decide), if_pos (Or.inr d2)]
    · rw [if_neg d2, if_pos (by omega), if_neg (by omega), w32_eq (by omega) (by omega)]
def kndC (q : Mh) (k : Int) : Prop := 0 ≤ q (q 53 0 + 15 + 2 * k) 1 ∧ q (q 53 0 + 15 + 2 * k) 1 ≤ 6 ∧ ∀ j, 0 ≤ j → j < q (q 53 0 + 15 + 2 * k) 1 → -99 ≤ q (q 53 0 + 16 + 2 * k) j ∧ q (q 53 0 + 16 + 2 * k) j ≤ 99
theorem isP_rise {p k : Int} (h : isP p) (k0 : 0 ≤ k) (k1 : k < 4) : (shC (p + 14)).2 = 4 ∧ (shC (p + 15 + 2 * k)).1 = 6 ∧ (shC (p + 16 + 2 * k)).2 = 6 := by
  have hk : k = 0 ∨ k = 1 ∨ k = 2 ∨ k = 3 := by omega
  rcases h with rfl | rfl <;> rcases hk with rfl | rfl | rfl | rfl <;> decide
/-- a row of shores -/
def rowS (q : Mh) (row : Int) : Prop := (shC row).1 = 6 ∧ (shC (row + 1)).2 = 3 ∧ 0 ≤ q row 1 ∧ q row 1 ≤ 3 ∧ ∀ j, 0 ≤ j → j < q row 1 → 0 ≤ q (row + 1) j ∧ q (row + 1) j < q (q 53 0) 0 * q (q 53 0) 1
def crs (q : Mh) (k : Int) : Int → Int := rsf (q (q 53 0 + 15 + 2 * k) 1) (q (q 53 0 + 16 + 2 * k))
def cgiv (q : Mh) (k row a c n : Int) : Int := giv (FC q) (crs q k) (q (q 53 0) 19) (q (row + 1)) (q row 1).toNat a c n
theorem sp_alone {q : Mh} {k a c n row : Int} {K : Int → Mh → Prop} (hc : cprm q) (hw : waysOK q) (hs : csent q) (k0 : 0 ≤ k) (k1 : k < 4) (hk : kndC q k) (hS : rowS q row)
    (a0 : 0 ≤ a) (a1 : a < q (q 53 0) 0 * q (q 53 0) 1) (c0 : 0 ≤ c) (c1 : c < q (q 53 0) 0 * q (q 53 0) 1) (n0 : -1000000 ≤ n) (n1 : n ≤ 1000000)
    (hK : K (cgiv q k row a c n) q) : wp_X6_alone k a c n row q K := by
  have hrs : ∀ n, -99 ≤ crs q k n ∧ crs q k n ≤ 99 := rsf_le hk.2.2
  have hD : ∀ a b, 0 ≤ (FC q a b).2 := fun a b => (FC_r hc a b).2.1
  have hm0 := szs_mul hc.1.2
  obtain ⟨r1, r2, r3⟩ := isP_rise hc.1.1 k0 k1
  have oz : ∀ i (K : Int → Mh → Prop), wp_X7_orZero shC (q 53 0 + 15 + 2 * k) i q K = K (crs q k i) q := by
    intro i K
    have := wi_orZero (sh := shC) (row := q 53 0 + 15 + 2 * k) (i := i) (q := q) (by rw [show q 53 0 + 15 + 2 * k + 1 = q 53 0 + 16 + 2 * k by omega, r3]; exact hk.2.1) K
    rw [show q 53 0 + 15 + 2 * k + 1 = q 53 0 + 16 + 2 * k by omega] at this
    exact this
  have loop : ∀ (m : Nat) (i v : Int), 0 ≤ i → i + m = q row 1 → -1000 ≤ v → v ≤ 1000 → v + vias (FC q) (crs q k) (q (q 53 0) 19) a c n (q (row + 1)) m i = cgiv q k row a c n → Lfp (F_X6_alone k a c n row K) (51, [q 53 0 + 15 + 2 * k, v, i], q) := by
    intro m
    induction m with
    | zero =>
      intro i v i0 hi v0 v1 hv
      apply L_X6_alone_51
      unfold B_X6_alone_51
      refine ⟨hS.1, ?_⟩
      rw [if_pos (by omega)]
      unfold vias at hv
      rw [show v = cgiv q k row a c n by omega]
      exact hK
    | succ m ih =>
      intro i v i0 hi v0 v1 hv
      apply L_X6_alone_51
      unfold B_X6_alone_51
      refine ⟨hS.1, ?_⟩
      have hS3 := hS.2.2.2.1
      rw [if_neg (by omega), wi_orZero (by rw [hS.2.1]; exact hS3)]
      have er : rsf (q row 1) (q (row + 1)) i = q (row + 1) i := by unfold rsf; rw [if_neg (by omega), if_neg (by omega)]
      rw [er]
      have hh := hS.2.2.2.2 i i0 (by omega)
      unfold vias at hv
      have hvl := vias_le (a := a) (c := c) (n := n) (S := q (row + 1)) hD hrs hs.1 hs.2 m (i + 1)
      have hgl := giv_le (a := a) (c := c) (n := n) (S := q (row + 1)) (m := (q row 1).toNat) hD hrs hs.1 hs.2 (by omega)
      have hgl2 : giv (FC q) (crs q k) (q (q 53 0) 19) (q (row + 1)) (q row 1).toNat a c n = cgiv q k row a c n := rfl
      rw [hgl2] at hgl
      unfold via at hv
      generalize eh : q (row + 1) i = h at *
      have f1 := FC_r hc a h
      have f2 := FC_r hc h c
      rw [wi_farBy hc hw a0 a1 hh.1 hh.2 c0 c1]
      by_cases d : (FC q a h).1 = 999 ∨ (FC q h c).1 = 999
      · rw [if_pos d, if_neg (by decide)]
        rw [if_pos d] at hv
        intro x ex y ey
        rw [w32_eq (by omega) (by omega)] at ex
        rw [w32_eq (by omega) (by omega)] at ey
        subst ex; subst ey
        exact ih (i + 1) _ (by omega) (by omega) (by omega) (by omega) (by omega)
      · rw [if_neg d, if_pos (by omega)]
        rw [if_neg d] at hv
        refine ⟨r2, ?_⟩
        rw [w32_eq (x := n - ((FC q a h).1 + (FC q h c).1)) (by omega) (by omega), show n - ((FC q a h).1 + (FC q h c).1) = n - (FC q a h).1 - (FC q h c).1 by omega, oz]
        have g1 := hrs (n - (FC q a h).1 - (FC q h c).1)
        rw [wi_sentOf hc hw hs a0 a1 hh.1 hh.2 (fun z => d (Or.inl z)) g1.1 g1.2]
        have g2 := prt_le (M := 99) (hD a h) g1.1 g1.2
        have g3 := sen_le g2.1 g2.2 hs.1 hs.2
        rw [wi_partOfC hc hw hh.1 hh.2 c0 c1 (fun z => d (Or.inr z)) g3.2.1 g3.2.2]
        have g4 := prt_le (M := 99) (hD h c) g3.2.1 g3.2.2
        intro x ex y ey
        rw [w32_eq (by omega) (by omega)] at ex
        rw [w32_eq (by omega) (by omega)] at ey
        subst ex; subst ey
        exact ih (i + 1) _ (by omega) (by omega) (by omega) (by omega) (by omega)
  have hgv : cgiv q k row a c n = dir (FC q) (crs q k) a c n + vias (FC q) (crs q k) (q (q 53 0) 19) a c n (q (row + 1)) (q row 1).toNat 0 := rfl
  have f1 := FC_r hc a c
  have hS3 := hS.2.2.1
  unfold wp_X6_alone
  refine ⟨isP_4 hc.1.1, ?_⟩
  unfold wp_X5_risesOf
  rw [if_neg (by omega), r1, if_neg (by omega)]
  refine ⟨⟨by omega, by omega⟩, ?_⟩
  dsimp only
  rw [wi_farOf hc hw a0 a1 c0 c1, show q 53 0 + 14 + 1 + 2 * k = q 53 0 + 15 + 2 * k by omega]
  unfold cfar
  unfold dir at hgv
  by_cases d1 : (FC q a c).1 = 999
  · rw [if_pos d1, if_neg (by decide)]
    rw [if_pos d1] at hgv
    exact loop (q row 1).toNat 0 0 (by omega) (by omega) (by omega) (by omega) (by omega)
  · rw [if_neg d1, if_pos (by omega)]
    rw [if_neg d1] at hgv
    refine ⟨r2, ?_⟩
    rw [w32_eq (x := n - (FC q a c).1) (by omega) (by omega), oz]
    have g1 := hrs (n - (FC q a c).1)
    rw [wi_partOfC hc hw a0 a1 c0 c1 d1 g1.1 g1.2]
    have g2 := prt_le (M := 99) (hD a c) g1.1 g1.2
    exact loop (q row 1).toNat 0 _ (by omega) (by omega) (by omega) (by omega) (by omega)
