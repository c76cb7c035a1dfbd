/-! ===== sums over drops ===== -/
def sumN (f : Int → Int) : Nat → Int → Int
  | 0, _ => 0
  | n + 1, i => f i + sumN f n (i + 1)
theorem sumN_congr {f g : Int → Int} : ∀ (n : Nat) (i : Int), (∀ j, i ≤ j → j < i + n → f j = g j) → sumN f n i = sumN g n i := by
  intro n
  induction n with
  | zero => intro i _; rfl
  | succ n ih =>
    intro i h
    unfold sumN
    rw [h i (by omega) (by omega), ih (i + 1) (fun j h1 h2 => h j (by omega) (by omega))]
theorem sumN_le {f : Int → Int} {M : Int} : ∀ (n : Nat) (i : Int), (∀ j, i ≤ j → j < i + n → -M ≤ f j ∧ f j ≤ M) → -(M * n) ≤ sumN f n i ∧ sumN f n i ≤ M * n := by
  intro n
  induction n with
  | zero => intro i _; unfold sumN; simp
  | succ n ih =>
    intro i h
    unfold sumN
    have h1 := h i (by omega) (by omega)
    have h2 := ih (i + 1) (fun j a b => h j (by omega) (by omega))
    have e : M * ((n + 1 : Nat) : Int) = M * n + M := by rw [Int.natCast_add, Int.mul_add]; simp
    omega
theorem sumN_snoc {f : Int → Int} : ∀ (n : Nat) (i : Int), sumN f (n + 1) i = sumN f n i + f (i + n) := by
  intro n
  induction n with
  | zero => intro i; simp [sumN]
  | succ n ih =>
    intro i
    have h := ih (i + 1)
    show f i + sumN f (n + 1) (i + 1) = (f i + sumN f n (i + 1)) + f (i + ((n + 1 : Nat) : Int))
    rw [h, show i + ((n + 1 : Nat) : Int) = i + 1 + n by omega]
    omega
/-! ===== one rise alone ===== -/
def rs1 (m v : Int) : Int → Int := fun n => if n = m then v else 0
theorem prt_zero {wk : Int} : prt wk 0 = 0 := by
  unfold prt
  split
  · rfl
  · simp
theorem prt_add {wk m x : Int} {f : Int → Int} (m0 : 0 ≤ m) (n : Int) : prt wk (rsf (m + 1) f n) = prt wk (rsf m f n) + prt wk (rs1 m (f m) n) := by
  unfold rs1
  by_cases h : n = m
  · have e1 : rsf (m + 1) f n = f m := by unfold rsf; rw [if_neg (by omega), if_neg (by omega), h]
    have e2 : rsf m f n = 0 := by unfold rsf; rw [if_neg (by omega), if_pos (by omega)]
    rw [e1, e2, if_pos h, prt_zero]; omega
  · have e1 : rsf (m + 1) f n = rsf m f n := by
      unfold rsf
      by_cases a : n < 0
      · rw [if_pos a, if_pos a]
      · rw [if_neg a, if_neg a]
        by_cases b : m ≤ n
        · rw [if_pos b, if_pos (by omega)]
        · rw [if_neg b, if_neg (by omega)]
    rw [e1, if_neg h, prt_zero]; omega
theorem via_add {D : Int → Int → Int × Int} {sent a c n h m : Int} {f : Int → Int} (m0 : 0 ≤ m) : via D (rsf (m + 1) f) sent a c n h = via D (rsf m f) sent a c n h + via D (rs1 m (f m)) sent a c n h := by
  unfold via
  split
  · rfl
  · generalize n - (D a h).1 - (D h c).1 = k
    by_cases e : k = m
    · have e1 : rsf (m + 1) f k = f m := by unfold rsf; rw [if_neg (by omega), if_neg (by omega), e]
      have e2 : rsf m f k = 0 := by unfold rsf; rw [if_neg (by omega), if_pos (by omega)]
      have e3 : rs1 m (f m) k = f m := by unfold rs1; rw [if_pos e]
      rw [e1, e2, e3, prt_zero]
      simp [prt_zero]
    · have e1 : rsf (m + 1) f k = rsf m f k := by
        unfold rsf
        by_cases a : k < 0
        · rw [if_pos a, if_pos a]
        · rw [if_neg a, if_neg a]
          by_cases b : m ≤ k
          · rw [if_pos b, if_pos (by omega)]
          · rw [if_neg b, if_neg (by omega)]
      have e3 : rs1 m (f m) k = 0 := by unfold rs1; rw [if_neg e]
      rw [e1, e3, prt_zero]
      simp [prt_zero]
theorem vias_add {D : Int → Int → Int × Int} {sent a c n m : Int} {f S : Int → Int} (m0 : 0 ≤ m) : ∀ (k : Nat) (i : Int), vias D (rsf (m + 1) f) sent a c n S k i = vias D (rsf m f) sent a c n S k i + vias D (rs1 m (f m)) sent a c n S k i := by
  intro k
  induction k with
  | zero => intro i; rfl
  | succ k ih =>
    intro i
    unfold vias
    rw [via_add m0, ih]
    omega
theorem giv_add {D : Int → Int → Int × Int} {sent a c n m : Int} {f S : Int → Int} {k : Nat} (m0 : 0 ≤ m) : giv D (rsf (m + 1) f) sent S k a c n = giv D (rsf m f) sent S k a c n + giv D (rs1 m (f m)) sent S k a c n := by
  unfold giv
  rw [vias_add m0]
  unfold dir
  split
  · omega
  · rw [prt_add (x := 0) m0]
    omega
theorem rsf_zero {f : Int → Int} : rsf 0 f = fun _ => 0 := by
  funext n
  unfold rsf
  by_cases a : n < 0
  · rw [if_pos a]
  · rw [if_neg a, if_pos (by omega)]
theorem vias_zero {D : Int → Int → Int × Int} {sent a c n : Int} {S : Int → Int} : ∀ (k : Nat) (i : Int), vias D (fun _ => 0) sent a c n S k i = 0 := by
  intro k
  induction k with
  | zero => intro i; rfl
  | succ k ih =>
    intro i
    unfold vias
    rw [ih]
    unfold via
    split
    · rfl
    · simp [prt_zero]
theorem giv_zero {D : Int → Int → Int × Int} {sent a c n : Int} {f S : Int → Int} {k : Nat} : giv D (rsf 0 f) sent S k a c n = 0 := by
  rw [rsf_zero]
  unfold giv dir
  rw [vias_zero]
  split
  · rfl
  · rw [prt_zero]; rfl
theorem via_neg {D : Int → Int → Int × Int} {sent a c n h m v : Int} : via D (rs1 m (-v)) sent a c n h = - via D (rs1 m v) sent a c n h := by
  unfold via
  split
  · rfl
  · generalize n - (D a h).1 - (D h c).1 = k
    have e : rs1 m (-v) k = - rs1 m v k := by unfold rs1; split <;> rfl
    rw [e, prt_neg, Int.neg_mul, Int.neg_tdiv, prt_neg]
theorem vias_neg {D : Int → Int → Int × Int} {sent a c n m v : Int} {S : Int → Int} : ∀ (k : Nat) (i : Int), vias D (rs1 m (-v)) sent a c n S k i = - vias D (rs1 m v) sent a c n S k i := by
  intro k
  induction k with
  | zero => intro i; rfl
  | succ k ih =>
    intro i
    unfold vias
    rw [ih, via_neg]
    omega
theorem giv_neg {D : Int → Int → Int × Int} {sent a c n m v : Int} {S : Int → Int} {k : Nat} : giv D (rs1 m (-v)) sent S k a c n = - giv D (rs1 m v) sent S k a c n := by
  unfold giv
  rw [vias_neg]
  unfold dir
  split
  · omega
  · have e : rs1 m (-v) (n - (D a c).1) = - rs1 m v (n - (D a c).1) := by unfold rs1; split <;> rfl
    rw [e, prt_neg]
    omega
/-! ===== the class's sums: pouring ===== -/
def fr120 (q g : Mh) : Prop := ∀ o, o ≠ 120 → g o = q o
theorem fr120.refl (q : Mh) : fr120 q q := fun _ _ => rfl
theorem fr120.trans {q g k : Mh} (h1 : fr120 q g) (h2 : fr120 g k) : fr120 q k := fun o h => (h2 o h).trans (h1 o h)
theorem isP_120 {p i : Int} (h : isP p) (i0 : 0 ≤ i) (i1 : i < 50) : p + i ≠ 120 := by rcases h with e | e <;> omega
theorem fr120.pond {q g : Mh} (h : fr120 q g) (hp : isP (q 53 0)) : g (q 53 0) = q (q 53 0) := by
  have := isP_120 hp (i := 0) (by decide) (by decide)
  exact h _ (by omega)
theorem fr120.fc {q g : Mh} (h : fr120 q g) (hp : isP (q 53 0)) : FC g = FC q := FC_congr (by rw [h 53 (by decide)]) (by rw [h 53 (by decide)]) (h.pond hp)
theorem fr120.ways {q g : Mh} (h : fr120 q g) (hp : isP (q 53 0)) (hw : waysOK q) : waysOK g := waysOK_congr (by rw [h 53 (by decide)]) (by rw [h 53 (by decide)]) (h.pond hp) (h 116 (by decide)) (h 117 (by decide)) (h 118 (by decide)) hw
theorem fr120.cp {q g : Mh} (h : fr120 q g) (hc : cprm q) : cprm g := by
  have e := h.pond hc.1.1
  unfold cprm csz at hc ⊢
  rw [h 53 (by decide), e]
  exact hc
theorem fr120.cs {q g : Mh} (h : fr120 q g) (hp : isP (q 53 0)) (hc : csent q) : csent g := by
  unfold csent at hc ⊢
  rw [h 53 (by decide), h.pond hp]
  exact hc
/-- what is added to the sums of a cell, in each step -/
def adds (q g : Mh) (c : Int) (f : Int → Int) : Prop := fr120 q g ∧ (∀ u, 0 ≤ u → u < 200 → g 120 (200 * c + u) = q 120 (200 * c + u) + f u) ∧ ∀ j, ¬ (200 * c ≤ j ∧ j < 200 * c + 200) → g 120 j = q 120 j
theorem adds.trans {q g k : Mh} {c : Int} {f f' : Int → Int} (h1 : adds q g c f) (h2 : adds g k c f') : adds q k c (fun u => f u + f' u) :=
  ⟨h1.1.trans h2.1, fun u u0 u1 => by rw [h2.2.1 u u0 u1, h1.2.1 u u0 u1]; dsimp only; omega, fun j hj => by rw [h2.2.2 j hj, h1.2.2 j hj]⟩
theorem adds.none {q : Mh} {c : Int} {f : Int → Int} (h : ∀ u, 0 ≤ u → u < 200 → f u = 0) : adds q q c f :=
  ⟨fr120.refl q, fun u u0 u1 => by rw [h u u0 u1]; omega, fun _ _ => rfl⟩
theorem adds.eq {q g : Mh} {c : Int} {f f' : Int → Int} (h : adds q g c f) (e : ∀ u, 0 ≤ u → u < 200 → f u = f' u) : adds q g c f' :=
  ⟨h.1, fun u u0 u1 => by rw [h.2.1 u u0 u1, e u u0 u1], h.2.2⟩
theorem sp_addSum {c t x : Int} {q : Mh} {K : Mh → Prop} (c0 : 0 ≤ c) (c1 : c < 48) (x0 : -99 ≤ x) (x1 : x ≤ 99) (hb : ∀ u, 0 ≤ u → u < 200 → -1000000 ≤ q 120 (200 * c + u) ∧ q 120 (200 * c + u) ≤ 1000000) (hk : ∀ g, adds q g c (fun u => if u = t then x else 0) → K g) : wp_X6_addSum c t x q K := by
  unfold wp_X6_addSum
  rw [if_neg (by omega), if_neg (by omega)]
  by_cases h0 : t < 0
  · rw [if_pos h0]
    exact hk q (adds.none (fun u u0 u1 => if_neg (by omega)))
  · rw [if_neg h0]
    by_cases h1 : 200 ≤ t
    · rw [if_pos h1]
      exact hk q (adds.none (fun u u0 u1 => if_neg (by omega)))
    · rw [if_neg h1, w32_eq (x := c * 200) (by omega) (by omega), w32_eq (x := c * 200 + t) (by omega) (by omega)]
      refine ⟨⟨by omega, by omega⟩, ⟨by omega, by omega⟩, ?_⟩
      intro g eg
      have hb1 := hb t (by omega) (by omega)
      rw [show c * 200 + t = 200 * c + t by omega, w32_eq (by omega) (by omega)] at eg
      refine hk g ⟨fun o ho => by rw [eg]; exact up_other ho, fun u u0 u1 => ?_, fun j hj => by rw [eg]; exact up_slot (by omega)⟩
      rw [eg]
      dsimp only
      by_cases e : u = t
      · rw [e, up_self, if_pos rfl]
      · rw [up_slot (by omega), if_neg e]; omega
theorem sp_addDirect {x a c t m : Int} {q : Mh} {K : Mh → Prop} (hc : cprm q) (hw : waysOK q) (a0 : 0 ≤ a) (a1 : a < 48) (c0 : 0 ≤ c) (c1 : c < 48) (x0 : -99 ≤ x) (x1 : x ≤ 99) (t0 : 0 ≤ t) (t1 : t ≤ 1000) (m0 : 0 ≤ m) (m1 : m ≤ 100)
    (hb : ∀ u, 0 ≤ u → u < 200 → -1000000 ≤ q 120 (200 * c + u) ∧ q 120 (200 * c + u) ≤ 1000000) (hk : ∀ g, adds q g c (fun u => dir (FC q) (rs1 m x) a c (u - t)) → K g) : wp_X6_addDirect x a c (t + m) q K := by
  unfold wp_X6_addDirect
  rw [wi_farOf hw a0 a1 c0 c1]
  unfold cfar
  have f1 := FC_r hc a c
  by_cases d : (FC q a c).1 = 999
  · rw [if_pos d, if_pos (by decide)]
    exact hk q (adds.none (fun u _ _ => by unfold dir; rw [if_pos d]))
  · rw [if_neg d, if_neg (by omega), wi_partOfC hc hw a0 a1 c0 c1 d x0 x1, w32_eq (by omega) (by omega)]
    have g2 := prt_le (M := 99) f1.2.1 x0 x1
    refine sp_addSum c0 c1 g2.1 g2.2 hb ?_
    intro g hg
    refine hk g (hg.eq (fun u u0 u1 => ?_))
    unfold dir rs1
    rw [if_neg d]
    by_cases e : u = t + m + (FC q a c).1
    · rw [if_pos e, if_pos (by omega)]
    · rw [if_neg e, if_neg (by omega), prt_zero]
theorem sp_addSentBack {x a c t m : Int} {q : Mh} {K : Mh → Prop} (hc : cprm q) (hw : waysOK q) (hs : csent q) (hS : rowS q (q 53 0 + 1)) (a0 : 0 ≤ a) (a1 : a < 48) (c0 : 0 ≤ c) (c1 : c < 48) (x0 : -99 ≤ x) (x1 : x ≤ 99) (t0 : 0 ≤ t) (t1 : t ≤ 1000) (m0 : 0 ≤ m) (m1 : m ≤ 100)
    (hb : ∀ u, 0 ≤ u → u < 200 → -500000 ≤ q 120 (200 * c + u) ∧ q 120 (200 * c + u) ≤ 500000) (hk : ∀ g, adds q g c (fun u => vias (FC q) (rs1 m x) (q (q 53 0) 19) a c (u - t) (q (q 53 0 + 2)) (q (q 53 0 + 1) 1).toNat 0) → K g) : wp_X6_addSentBack x a c (t + m) q K := by
  have loop : ∀ (n : Nat) (i : Int) (g : Mh), 0 ≤ i → i + n = q (q 53 0 + 1) 1 → fr120 q g → (∀ u, 0 ≤ u → u < 200 → -(500000 + 100 * i) ≤ g 120 (200 * c + u) ∧ g 120 (200 * c + u) ≤ 500000 + 100 * i) → (∀ k, adds g k c (fun u => vias (FC q) (rs1 m x) (q (q 53 0) 19) a c (u - t) (q (q 53 0 + 2)) n i) → K k) → Lfp (F_X6_addSentBack x a c (t + m) K) (15, [q 53 0 + 1, i], g) := by
    intro n
    induction n with
    | zero =>
      intro i g i0 hi hg _ hk
      apply L_X6_addSentBack_15
      unfold B_X6_addSentBack_15
      have e1 : g (q 53 0 + 1) = q (q 53 0 + 1) := hg _ (isP_120 hc.1.1 (by decide) (by decide))
      refine ⟨hS.1, ?_⟩
      rw [e1, if_pos (by omega)]
      exact hk g (adds.none (fun u _ _ => rfl))
    | succ n ih =>
      intro i g i0 hi hg hbg hk
      apply L_X6_addSentBack_15
      unfold B_X6_addSentBack_15
      have e1 : g (q 53 0 + 1) = q (q 53 0 + 1) := hg _ (isP_120 hc.1.1 (by decide) (by decide))
      have e2 : g (q 53 0 + 1 + 1) = q (q 53 0 + 2) := by rw [show q 53 0 + 1 + 1 = q 53 0 + 2 by omega]; exact hg _ (isP_120 hc.1.1 (by decide) (by decide))
      have hS3 := hS.2.2.2.1
      have hcg := hg.cp hc
      have hwg := hg.ways hc.1.1 hw
      have hsg := hg.cs hc.1.1 hs
      have eF := hg.fc hc.1.1
      have e19 : g (g 53 0) 19 = q (q 53 0) 19 := by rw [hg 53 (by decide), hg.pond hc.1.1]
      refine ⟨hS.1, ?_⟩
      rw [e1, if_neg (by omega), wi_orZero (by rw [e1, hS.2.1]; exact hS3), e1, e2]
      have er : rsf (q (q 53 0 + 1) 1) (q (q 53 0 + 2)) i = q (q 53 0 + 2) i := by unfold rsf; rw [if_neg (by omega), if_neg (by omega)]
      rw [er]
      have hh := hS.2.2.2.2 i i0 (by omega)
      rw [show q 53 0 + 1 + 1 = q 53 0 + 2 by omega] at hh
      generalize eh : q (q 53 0 + 2) i = h at *
      have f1 := FC_r hc a h
      have f2 := FC_r hc h c
      rw [wi_farBy hcg hwg a0 a1 hh.1 hh.2 c0 c1, eF]
      by_cases d : (FC q a h).1 = 999 ∨ (FC q h c).1 = 999
      · rw [if_pos d, if_pos (by decide)]
        intro y ey
        rw [w32_eq (by omega) (by omega)] at ey
        subst ey
        refine ih (i + 1) g (by omega) (by omega) hg (fun u u0 u1 => by have := hbg u u0 u1; omega) (fun k hk2 => hk k (hk2.eq (fun u _ _ => ?_)))
        have ev : via (FC q) (rs1 m x) (q (q 53 0) 19) a c (u - t) h = 0 := by unfold via; rw [if_pos d]
        show vias (FC q) (rs1 m x) (q (q 53 0) 19) a c (u - t) (q (q 53 0 + 2)) n (i + 1) = via (FC q) (rs1 m x) (q (q 53 0) 19) a c (u - t) (q (q 53 0 + 2) i) + vias (FC q) (rs1 m x) (q (q 53 0) 19) a c (u - t) (q (q 53 0 + 2)) n (i + 1)
        rw [eh, ev]; omega
      · rw [if_neg d, if_neg (by omega), wi_sentPart hcg hwg hsg a0 a1 hh.1 hh.2 c0 c1 (by rw [eF]; exact fun z => d (Or.inl z)) (by rw [eF]; exact fun z => d (Or.inr z)) x0 x1, eF, e19, w32_eq (x := t + m + ((FC q a h).1 + (FC q h c).1)) (by omega) (by omega)]
        have g2 := prt_le (M := 99) (FC_r hc a h).2.1 x0 x1
        have g3 := sen_le g2.1 g2.2 hs.1 hs.2
        have g4 := prt_le (M := 99) (FC_r hc h c).2.1 g3.2.1 g3.2.2
        refine sp_addSum c0 c1 g4.1 g4.2 (fun u u0 u1 => by have := hbg u u0 u1; omega) ?_
        intro g5 h5 y ey
        rw [w32_eq (by omega) (by omega)] at ey
        subst ey
        have hv : ∀ u, via (FC q) (rs1 m x) (q (q 53 0) 19) a c (u - t) h = if u = t + m + ((FC q a h).1 + (FC q h c).1) then prt (FC q h c).2 ((prt (FC q a h).2 x * q (q 53 0) 19).tdiv 100) else 0 := by
          intro u
          unfold via rs1
          rw [if_neg d]
          by_cases e : u = t + m + ((FC q a h).1 + (FC q h c).1)
          · rw [if_pos e, if_pos (by omega)]
          · rw [if_neg e, if_neg (by omega), prt_zero]
            simp [prt_zero]
        refine ih (i + 1) g5 (by omega) (by omega) (hg.trans h5.1) (fun u u0 u1 => ?_) (fun k hk2 => hk k ((h5.trans hk2).eq (fun u _ _ => ?_)))
        · have h6 := hbg u u0 u1
          rw [h5.2.1 u u0 u1]
          dsimp only
          split <;> omega
        · show _ + vias (FC q) (rs1 m x) (q (q 53 0) 19) a c (u - t) (q (q 53 0 + 2)) n (i + 1) = via (FC q) (rs1 m x) (q (q 53 0) 19) a c (u - t) (q (q 53 0 + 2) i) + vias (FC q) (rs1 m x) (q (q 53 0) 19) a c (u - t) (q (q 53 0 + 2)) n (i + 1)
          rw [eh, hv]
  unfold wp_X6_addSentBack
  refine ⟨isP_4 hc.1.1, ?_⟩
  have := hS.2.2.1
  exact loop (q (q 53 0 + 1) 1).toNat 0 q (by omega) (by omega) (fr120.refl q) (fun u u0 u1 => by have := hb u u0 u1; omega) hk
/-- pouring: what is added, once or taken off -/
def poured (q g : Mh) (k a t s : Int) : Prop := fr120 q g ∧ ∀ c u, 0 ≤ c → c < 48 → 0 ≤ u → u < 200 → g 120 (200 * c + u) = q 120 (200 * c + u) + (if c < q (q 53 0) 0 * q (q 53 0) 1 then s * cgiv q k (q 53 0 + 1) a c (u - t) else 0)
theorem sp_pour {k a t s : Int} {q : Mh} {K : Mh → Prop} (hc : cprm q) (hw : waysOK q) (hs : csent q) (hS : rowS q (q 53 0 + 1)) (k0 : 0 ≤ k) (k1 : k < 4) (hkn : kndC q k) (a0 : 0 ≤ a) (a1 : a < 48) (t0 : 0 ≤ t) (t1 : t ≤ 1000) (hs1 : s = 1 ∨ s = -1)
    (hb : ∀ c u, 0 ≤ c → c < q (q 53 0) 0 * q (q 53 0) 1 → 0 ≤ u → u < 200 → -100000 ≤ q 120 (200 * c + u) ∧ q 120 (200 * c + u) ≤ 100000) (hk : ∀ g, poured q g k a t s → K g) : wp_X6_pour k a t s q K := by
  have hm := szs_mul hc.1.2
  obtain ⟨r1, r2, r3⟩ := isP_rise hc.1.1 k0 k1
  have hrs : ∀ n, -99 ≤ crs q k n ∧ crs q k n ≤ 99 := rsf_le hkn.2.2
  have hD : ∀ a b, 0 ≤ (FC q a b).2 := fun a b => (FC_r hc a b).2.1
  -- part of the rises of cell c
  let gm : Int → Int → Int → Int := fun m c n => giv (FC q) (rsf m (q (q 53 0 + 16 + 2 * k))) (q (q 53 0) 19) (q (q 53 0 + 2)) (q (q 53 0 + 1) 1).toNat a c n
  have gm0 : ∀ c n, gm 0 c n = 0 := fun c n => giv_zero
  have gmN : ∀ c n, gm (q (q 53 0 + 15 + 2 * k) 1) c n = cgiv q k (q 53 0 + 1) a c n := fun c n => by
    show giv _ _ _ _ _ _ _ _ = giv _ _ _ _ _ _ _ _
    rw [show q 53 0 + 1 + 1 = q 53 0 + 2 by omega]
    rfl
  have gmB : ∀ m c n, 0 ≤ m → m ≤ q (q 53 0 + 15 + 2 * k) 1 → -396 ≤ gm m c n ∧ gm m c n ≤ 396 := fun m c n m0 m1 => by
    have h3 := hS.2.2.2.1
    exact giv_le hD (fun n => rsf_le (fun j j0 j1 => hkn.2.2 j j0 (by omega)) n) hs.1 hs.2 (by omega)
  let inv : Int → Int → Mh → Prop := fun c m g => fr120 q g ∧ ∀ x u, 0 ≤ x → x < 48 → 0 ≤ u → u < 200 → g 120 (200 * x + u) = q 120 (200 * x + u) + (if x < c then s * cgiv q k (q 53 0 + 1) a x (u - t) else if x = c then s * gm m c (u - t) else 0)
  have inner : ∀ (n : Nat) (c m : Int) (g : Mh), 0 ≤ c → c < q (q 53 0) 0 * q (q 53 0) 1 → 0 ≤ m → m + n = q (q 53 0 + 15 + 2 * k) 1 → inv c m g → (∀ g', inv (c + 1) 0 g' → Lfp (F_X6_pour k a t s K) (16, [q 53 0 + 15 + 2 * k, c + 1], g')) → Lfp (F_X6_pour k a t s K) (34, [q 53 0 + 15 + 2 * k, c, m], g) := by
    intro n
    induction n with
    | zero =>
      intro c m g c0 c1 m0 hn hi hz
      apply L_X6_pour_34
      unfold B_X6_pour_34
      have h6 := hkn.2.1
      have e1 : g (q 53 0 + 15 + 2 * k) = q (q 53 0 + 15 + 2 * k) := hi.1 _ (by have := isP_120 hc.1.1 (i := 15 + 2 * k) (by omega) (by omega); omega)
      refine ⟨r2, ?_⟩
      rw [e1, if_pos (by omega)]
      intro x ex
      rw [w32_eq (by omega) (by omega)] at ex
      subst ex
      refine hz g ⟨hi.1, fun x u x0 x1 u0 u1 => ?_⟩
      rw [hi.2 x u x0 x1 u0 u1]
      congr 1
      have em : m = q (q 53 0 + 15 + 2 * k) 1 := by omega
      by_cases h1 : x < c
      · rw [if_pos h1, if_pos (by omega)]
      · rw [if_neg h1]
        by_cases h2 : x = c
        · rw [if_pos h2, if_pos (by omega), em, gmN, h2]
        · rw [if_neg h2, if_neg (by omega)]
          by_cases h3 : x = c + 1
          · rw [if_pos h3, gm0]; simp
          · rw [if_neg h3]
    | succ n ih =>
      intro c m g c0 c1 m0 hn hi hz
      apply L_X6_pour_34
      unfold B_X6_pour_34
      have h6 := hkn.2.1
      have e1 : g (q 53 0 + 15 + 2 * k) = q (q 53 0 + 15 + 2 * k) := hi.1 _ (by have := isP_120 hc.1.1 (i := 15 + 2 * k) (by omega) (by omega); omega)
      have e2 : g (q 53 0 + 15 + 2 * k + 1) = q (q 53 0 + 16 + 2 * k) := by rw [show q 53 0 + 15 + 2 * k + 1 = q 53 0 + 16 + 2 * k by omega]; exact hi.1 _ (by have := isP_120 hc.1.1 (i := 16 + 2 * k) (by omega) (by omega); omega)
      have hcg := hi.1.cp hc
      have hwg := hi.1.ways hc.1.1 hw
      have hsg := hi.1.cs hc.1.1 hs
      have eF := hi.1.fc hc.1.1
      have e53 : g 53 0 = q 53 0 := by rw [hi.1 53 (by decide)]
      refine ⟨r2, ?_⟩
      rw [e1, if_neg (by omega), wi_orZero (by rw [e1, show q 53 0 + 15 + 2 * k + 1 = q 53 0 + 16 + 2 * k by omega, r3]; exact h6), e1, e2]
      have er : rsf (q (q 53 0 + 15 + 2 * k) 1) (q (q 53 0 + 16 + 2 * k)) m = q (q 53 0 + 16 + 2 * k) m := by unfold rsf; rw [if_neg (by omega), if_neg (by omega)]
      rw [er]
      have hv := hkn.2.2 m m0 (by omega)
      intro x ex
      have ex2 : x = s * q (q 53 0 + 16 + 2 * k) m := by
        rcases hs1 with z | z
        · rw [ex, z, w32_eq (by omega) (by omega)]; omega
        · rw [ex, z, w32_eq (by omega) (by omega)]; omega
      have x0 : -99 ≤ x ∧ x ≤ 99 := by rcases hs1 with z | z <;> rw [ex2, z] <;> omega
      have hbg : ∀ u, 0 ≤ u → u < 200 → -101000 ≤ g 120 (200 * c + u) ∧ g 120 (200 * c + u) ≤ 101000 := by
        intro u u0 u1
        have h1 := hb c u c0 c1 u0 u1
        rw [hi.2 c u c0 (by omega) u0 u1, if_neg (by omega), if_pos rfl]
        have h2 := gmB m c (u - t) m0 (by omega)
        rcases hs1 with z | z <;> rw [z] <;> omega
      rw [w32_eq (x := t + m) (by omega) (by omega)]
      refine sp_addDirect hcg hwg a0 a1 c0 (by omega) x0.1 x0.2 t0 t1 m0 (by omega) (fun u u0 u1 => by have := hbg u u0 u1; omega) ?_
      intro g1 h1
      have f1 := hi.1.trans h1.1
      have hdl : ∀ u, -99 ≤ dir (FC g) (rs1 m x) a c (u - t) ∧ dir (FC g) (rs1 m x) a c (u - t) ≤ 99 := fun u => by
        rw [eF]
        exact dir_le hD (fun n => by unfold rs1; split <;> omega)
      have hSg : rowS g1 (g1 53 0 + 1) := by
        rw [f1 53 (by decide)]
        unfold rowS
        rw [f1 (q 53 0 + 1) (isP_120 hc.1.1 (by decide) (by decide)), f1 (q 53 0 + 1 + 1) (by have := isP_120 hc.1.1 (i := 2) (by decide) (by decide); omega)]
        exact hS
      refine sp_addSentBack (f1.cp hc) (f1.ways hc.1.1 hw) (f1.cs hc.1.1 hs) hSg a0 a1 c0 (by omega) x0.1 x0.2 t0 t1 m0 (by omega) (fun u u0 u1 => by have := hbg u u0 u1; have := hdl u; rw [h1.2.1 u u0 u1]; dsimp only; omega) ?_
      intro g2 h2 y ey
      rw [w32_eq (by omega) (by omega)] at ey
      subst ey
      refine ih c (m + 1) g2 c0 c1 (by omega) (by omega) ⟨f1.trans h2.1, fun z u z0 z1 u0 u1 => ?_⟩ hz
      by_cases ez : z = c
      · rw [ez, h2.2.1 u u0 u1, h1.2.1 u u0 u1, hi.2 c u c0 (by omega) u0 u1, if_neg (by omega), if_pos rfl, if_neg (by omega), if_pos rfl]
        have ea : gm (m + 1) c (u - t) = gm m c (u - t) + giv (FC q) (rs1 m (q (q 53 0 + 16 + 2 * k) m)) (q (q 53 0) 19) (q (q 53 0 + 2)) (q (q 53 0 + 1) 1).toNat a c (u - t) := giv_add m0
        have eb : giv (FC q) (rs1 m x) (q (q 53 0) 19) (q (q 53 0 + 2)) (q (q 53 0 + 1) 1).toNat a c (u - t) = s * giv (FC q) (rs1 m (q (q 53 0 + 16 + 2 * k) m)) (q (q 53 0) 19) (q (q 53 0 + 2)) (q (q 53 0 + 1) 1).toNat a c (u - t) := by
          rcases hs1 with z | z
          · rw [ex2, z]; simp
          · rw [ex2, z, show (-1 : Int) * q (q 53 0 + 16 + 2 * k) m = -(q (q 53 0 + 16 + 2 * k) m) by omega, giv_neg]; omega
        unfold giv at eb
        have ec : dir (FC g) (rs1 m x) a c (u - t) = dir (FC q) (rs1 m x) a c (u - t) := by rw [eF]
        have ed : vias (FC g1) (rs1 m x) (g1 (g1 53 0) 19) a c (u - t) (g1 (g1 53 0 + 2)) (g1 (g1 53 0 + 1) 1).toNat 0 = vias (FC q) (rs1 m x) (q (q 53 0) 19) a c (u - t) (q (q 53 0 + 2)) (q (q 53 0 + 1) 1).toNat 0 := by
          rw [f1.fc hc.1.1, f1 53 (by decide), f1.pond hc.1.1, f1 (q 53 0 + 2) (isP_120 hc.1.1 (by decide) (by decide)), f1 (q 53 0 + 1) (isP_120 hc.1.1 (by decide) (by decide))]
        dsimp only
        rw [ec, ed, ea, Int.mul_add]
        unfold giv at *
        omega
      · have nz : ¬ (200 * c ≤ 200 * z + u ∧ 200 * z + u < 200 * c + 200) := by omega
        rw [h2.2.2 _ nz, h1.2.2 _ nz, hi.2 z u z0 z1 u0 u1, if_neg (c := z = c) ez, if_neg (c := z = c) ez]
  have outer : ∀ (n : Nat) (c : Int) (g : Mh), 0 ≤ c → c + n = q (q 53 0) 0 * q (q 53 0) 1 → inv c 0 g → Lfp (F_X6_pour k a t s K) (16, [q 53 0 + 15 + 2 * k, c], g) := by
    intro n
    induction n with
    | zero =>
      intro c g c0 hn hi
      apply L_X6_pour_16
      unfold B_X6_pour_16 wp_X5_cells
      rw [hi.1 53 (by decide), hi.1.pond hc.1.1]
      refine ⟨isP_4 hc.1.1, ?_⟩
      rw [w32_eq (by omega) (by omega)]
      dsimp only
      rw [if_pos (by omega)]
      refine hk g ⟨hi.1, fun x u x0 x1 u0 u1 => ?_⟩
      rw [hi.2 x u x0 x1 u0 u1]
      congr 1
      by_cases h1 : x < c
      · rw [if_pos h1, if_pos (by omega)]
      · rw [if_neg h1, if_neg (c := x < q (q 53 0) 0 * q (q 53 0) 1) (by omega)]
        split
        · rw [gm0]; simp
        · rfl
    | succ n ih =>
      intro c g c0 hn hi
      apply L_X6_pour_16
      unfold B_X6_pour_16 wp_X5_cells
      rw [hi.1 53 (by decide), hi.1.pond hc.1.1]
      refine ⟨isP_4 hc.1.1, ?_⟩
      rw [w32_eq (by omega) (by omega)]
      dsimp only
      rw [if_neg (by omega)]
      have h6 := hkn.1
      exact inner (q (q 53 0 + 15 + 2 * k) 1).toNat c 0 g c0 (by omega) (by omega) (by omega) hi (fun g' hg' => ih (c + 1) g' (by omega) (by omega) hg')
  unfold wp_X6_pour
  refine ⟨isP_4 hc.1.1, ?_⟩
  unfold wp_X5_risesOf
  rw [if_neg (by omega), r1, if_neg (by omega)]
  refine ⟨⟨by omega, by omega⟩, ?_⟩
  dsimp only
  rw [show q 53 0 + 14 + 1 + 2 * k = q 53 0 + 15 + 2 * k by omega]
  refine outer (q (q 53 0) 0 * q (q 53 0) 1).toNat 0 q (by omega) (by omega) ⟨fr120.refl q, fun x u x0 x1 u0 u1 => ?_⟩
  rw [if_neg (by omega)]
  split
  · rw [gm0]; simp
  · simp
