/-! ===== sums over drops ===== -/
def sumN (f : Int → Int) : Nat → Int → Int
  | 0, _ => 0
  | n + 1, i => f i + sumN f n (i + 1)
theorem sumN_congr {f g : Int → Int} : ∀ (n : Nat) (i : Int), (∀ j, i ≤ j → j < i + n → f j = g j) → sumN f n i = sumN g n i := by
  intro n
  induction n with
  | zero => intro i _; rfl
  | succ n ih =>
    intro i h
    unfold sumN
    rw [h i (by omega) (by omega), ih (i + 1) (fun j h1 h2 => h j (by omega) (by omega))]
theorem sumN_le {f : Int → Int} {M : Int} : ∀ (n : Nat) (i : Int), (∀ j, i ≤ j → j < i + n → -M ≤ f j ∧ f j ≤ M) → -(M * n) ≤ sumN f n i ∧ sumN f n i ≤ M * n := by
  intro n
  induction n with
  | zero => intro i _; unfold sumN; simp
  | succ n ih =>
    intro i h
    unfold sumN
    have h1 := h i (by omega) (by omega)
    have h2 := ih (i + 1) (fun j a b => h j (by omega) (by omega))
    have e : M * ((n + 1 : Nat) : Int) = M * n + M := by rw [Int.natCast_add, Int.mul_add]; simp
    omega
theorem sumN_snoc {f : Int → Int} : ∀ (n : Nat) (i : Int), sumN f (n + 1) i = sumN f n i + f (i + n) := by
  intro n
  induction n with
  | zero => intro i; simp [sumN]
  | succ n ih =>
    intro i
    have h := ih (i + 1)
    show f i + sumN f (n + 1) (i + 1) = (f i + sumN f n (i + 1)) + f (i + ((n + 1 : Nat) : Int))
    rw [h, show i + ((n + 1 : Nat) : Int) = i + 1 + n by omega]
    omega
/-! ===== one rise alone ===== -/
def rs1 (m v : Int) : Int → Int := fun n => if n = m then v else 0
theorem prt_zero {wk : Int} : prt wk 0 = 0 := by
  unfold prt
  split
  · rfl
  · simp
theorem prt_add {wk m x : Int} {f : Int → Int} (m0 : 0 ≤ m) (n : Int) : prt wk (rsf (m + 1) f n) = prt wk (rsf m f n) + prt wk (rs1 m (f m) n) := by
  unfold rs1
  by_cases h : n = m
  · have e1 : rsf (m + 1) f n = f m := by unfold rsf; rw [if_neg (by omega), if_neg (by omega), h]
    have e2 : rsf m f n = 0 := by unfold rsf; rw [if_neg (by omega), if_pos (by omega)]
    rw [e1, e2, if_pos h, prt_zero]; omega
  · have e1 : rsf (m + 1) f n = rsf m f n := by
      unfold rsf
      by_cases a : n < 0
      · rw [if_pos a, if_pos a]
      · rw [if_neg a, if_neg a]
        by_cases b : m ≤ n
        · rw [if_pos b, if_pos (by omega)]
        · rw [if_neg b, if_neg (by omega)]
    rw [e1, if_neg h, prt_zero]; omega
theorem rsf_neg {m : Int} {f f' : Int → Int} (h : ∀ j, 0 ≤ j → j < m → f' j = - f j) (n : Int) : rsf m f' n = - rsf m f n := by
  unfold rsf
  by_cases a : n < 0
  · rw [if_pos a, if_pos a]; rfl
  · rw [if_neg a, if_neg a]
    by_cases b : m ≤ n
    · rw [if_pos b, if_pos b]; rfl
    · rw [if_neg b, if_neg b]
      exact h n (by omega) (by omega)
theorem via_neg {D : Int → Int → Int × Int} {sent a c n h : Int} {rs rs' : Int → Int} (e : ∀ n, rs' n = - rs n) : via D rs' sent a c n h = - via D rs sent a c n h := by
  unfold via
  split
  · rfl
  · rw [e, prt_neg, Int.neg_mul, Int.neg_tdiv, prt_neg]
theorem vias_neg {D : Int → Int → Int × Int} {sent a c n : Int} {rs rs' S : Int → Int} (e : ∀ n, rs' n = - rs n) : ∀ (k : Nat) (i : Int), vias D rs' sent a c n S k i = - vias D rs sent a c n S k i := by
  intro k
  induction k with
  | zero => intro i; rfl
  | succ k ih =>
    intro i
    unfold vias
    rw [ih, via_neg e]
    omega
theorem giv_neg {D : Int → Int → Int × Int} {sent a c n : Int} {rs rs' S : Int → Int} {k : Nat} (e : ∀ n, rs' n = - rs n) : giv D rs' sent S k a c n = - giv D rs sent S k a c n := by
  unfold giv
  rw [vias_neg e]
  unfold dir
  split
  · omega
  · rw [e, prt_neg]
    omega
/-- what a shore sends back goes on from there as a drop does -/
theorem via_dir {D : Int → Int → Int × Int} {sent a c n h m : Int} {f f' : Int → Int} (d : ¬ (D a h).1 = 999) (hf : ∀ j, 0 ≤ j → j < m → f' j = (prt (D a h).2 (f j) * sent).tdiv 100) : dir D (rsf m f') h c (n - (D a h).1) = via D (rsf m f) sent a c n h := by
  unfold dir via
  by_cases d2 : (D h c).1 = 999
  · rw [if_pos d2, if_pos (Or.inr d2)]
  · rw [if_neg d2, if_neg (by omega)]
    congr 1
    generalize n - (D a h).1 - (D h c).1 = k
    unfold rsf
    by_cases x : k < 0
    · rw [if_pos x, if_pos x, prt_zero]; simp
    · rw [if_neg x, if_neg x]
      by_cases y : m ≤ k
      · rw [if_pos y, if_pos y, prt_zero]; simp
      · rw [if_neg y, if_neg y]
        exact hf k (by omega) (by omega)
/-! ===== the class's sums: pouring ===== -/
def fr120 (q g : Mh) : Prop := ∀ o, ¬ (120 ≤ o ∧ o ≤ 124) → g o = q o
theorem fr120.refl (q : Mh) : fr120 q q := fun _ _ => rfl
theorem fr120.trans {q g k : Mh} (h1 : fr120 q g) (h2 : fr120 g k) : fr120 q k := fun o h => (h2 o h).trans (h1 o h)
theorem isP_120 {p i : Int} (h : isP p) (i0 : 0 ≤ i) (i1 : i < 50) : ¬ (120 ≤ p + i ∧ p + i ≤ 124) := by rcases h with e | e <;> omega
theorem fr120.pond {q g : Mh} (h : fr120 q g) (hp : isP (q 53 0)) : g (q 53 0) = q (q 53 0) := by
  have := isP_120 hp (i := 0) (by decide) (by decide)
  exact h _ (by omega)
theorem fr120.fc {q g : Mh} (h : fr120 q g) (hp : isP (q 53 0)) : FC g = FC q := FC_congr (by rw [h 53 (by decide)]) (by rw [h 53 (by decide)]) (h.pond hp)
theorem fr120.ways {q g : Mh} (h : fr120 q g) (hp : isP (q 53 0)) (hw : waysOK q) : waysOK g := waysOK_congr (by rw [h 53 (by decide)]) (by rw [h 53 (by decide)]) (h.pond hp) (h 116 (by decide)) (h 117 (by decide)) (h 118 (by decide)) hw
theorem fr120.cp {q g : Mh} (h : fr120 q g) (hc : cprm q) : cprm g := by
  have e := h.pond hc.1.1
  unfold cprm csz at hc ⊢
  rw [h 53 (by decide), e]
  exact hc
theorem fr120.cs {q g : Mh} (h : fr120 q g) (hp : isP (q 53 0)) (hc : csent q) : csent g := by
  unfold csent at hc ⊢
  rw [h 53 (by decide), h.pond hp]
  exact hc
/-- of the sums alone -/
def fr1 (q g : Mh) : Prop := ∀ o, o ≠ 120 → g o = q o
theorem fr1.refl (q : Mh) : fr1 q q := fun _ _ => rfl
theorem fr1.trans {q g k : Mh} (h1 : fr1 q g) (h2 : fr1 g k) : fr1 q k := fun o h => (h2 o h).trans (h1 o h)
theorem fr1.f {q g : Mh} (h : fr1 q g) : fr120 q g := fun o ho => h o (by omega)
/-- what is added to the sums of a cell, in each step -/
def adds (q g : Mh) (c : Int) (f : Int → Int) : Prop := fr1 q g ∧ (∀ u, 0 ≤ u → u < 200 → g 120 (200 * c + u) = q 120 (200 * c + u) + f u) ∧ ∀ j, ¬ (200 * c ≤ j ∧ j < 200 * c + 200) → g 120 j = q 120 j
theorem adds.none {q : Mh} {c : Int} {f : Int → Int} (h : ∀ u, 0 ≤ u → u < 200 → f u = 0) : adds q q c f :=
  ⟨fr1.refl q, fun u u0 u1 => by rw [h u u0 u1]; omega, fun _ _ => rfl⟩
theorem sp_addSum {c t x : Int} {q : Mh} {K : Mh → Prop} (c0 : 0 ≤ c) (c1 : c < 48) (x0 : -99 ≤ x) (x1 : x ≤ 99) (hb : ∀ u, 0 ≤ u → u < 200 → -1000000 ≤ q 120 (200 * c + u) ∧ q 120 (200 * c + u) ≤ 1000000) (hk : ∀ g, adds q g c (fun u => if u = t then x else 0) → K g) : wp_X6_addSum c t x q K := by
  unfold wp_X6_addSum
  rw [if_neg (by omega), if_neg (by omega)]
  by_cases h0 : t < 0
  · rw [if_pos h0]
    exact hk q (adds.none (fun u u0 u1 => if_neg (by omega)))
  · rw [if_neg h0]
    by_cases h1 : 200 ≤ t
    · rw [if_pos h1]
      exact hk q (adds.none (fun u u0 u1 => if_neg (by omega)))
    · rw [if_neg h1, w32_eq (x := c * 200) (by omega) (by omega), w32_eq (x := c * 200 + t) (by omega) (by omega)]
      refine ⟨⟨by omega, by omega⟩, ⟨by omega, by omega⟩, ?_⟩
      intro g eg
      have hb1 := hb t (by omega) (by omega)
      rw [show c * 200 + t = 200 * c + t by omega, w32_eq (by omega) (by omega)] at eg
      refine hk g ⟨fun o ho => by rw [eg]; exact up_other ho, fun u u0 u1 => ?_, fun j hj => by rw [eg]; exact up_slot (by omega)⟩
      rw [eg]
      dsimp only
      by_cases e : u = t
      · rw [e, up_self, if_pos rfl]
      · rw [up_slot (by omega), if_neg e]; omega
/-- a row of rises: one of the two that are poured -/
def rowR (q : Mh) (ro : Int) : Prop := (ro = 121 ∨ ro = 123) ∧ 0 ≤ q ro 1 ∧ q ro 1 ≤ 6 ∧ ∀ j, 0 ≤ j → j < q ro 1 → -99 ≤ q (ro + 1) j ∧ q (ro + 1) j ≤ 99
theorem rowR.k {q : Mh} {ro : Int} (h : rowR q ro) : (shC ro).1 = 6 ∧ (shC (ro + 1)).2 = 6 := by
  rcases h.1 with e | e <;> rw [e] <;> decide
/-- what is added to all sums: to those of the pond's cells alone -/
def plus (q g : Mh) (F : Int → Int → Int) : Prop := ∀ c u, 0 ≤ c → c < 48 → 0 ≤ u → u < 200 → g 120 (200 * c + u) = q 120 (200 * c + u) + (if c < q (q 53 0) 0 * q (q 53 0) 1 then F c u else 0)
theorem sp_spreadRises {ro a t : Int} {q : Mh} {K : Mh → Prop} (hc : cprm q) (hw : waysOK q) (hr : rowR q ro) (a0 : 0 ≤ a) (a1 : a < q (q 53 0) 0 * q (q 53 0) 1) (t0 : 0 ≤ t) (t1 : t ≤ 2000)
    (hb : ∀ c u, 0 ≤ c → c < q (q 53 0) 0 * q (q 53 0) 1 → 0 ≤ u → u < 200 → -900000 ≤ q 120 (200 * c + u) ∧ q 120 (200 * c + u) ≤ 900000) (hk : ∀ g, fr1 q g → plus q g (fun c u => dir (FC q) (rsf (q ro 1) (q (ro + 1))) a c (u - t)) → K g) : wp_X6_spreadRises ro a t q K := by
  have hm := szs_mul hc.1.2
  obtain ⟨r1, r2⟩ := hr.k
  obtain ⟨hro, n0, n6, hv⟩ := hr
  have hne : ro ≠ 120 ∧ ro + 1 ≠ 120 := by omega
  have hD : ∀ a b, 0 ≤ (FC q a b).2 := fun a b => (FC_r hc a b).2.1
  have hdl : ∀ (m c n : Int), m ≤ q ro 1 → -99 ≤ dir (FC q) (rsf m (q (ro + 1))) a c n ∧ dir (FC q) (rsf m (q (ro + 1))) a c n ≤ 99 := fun m c n hm => dir_le hD (fun n => rsf_le (fun j j0 j1 => hv j j0 (by omega)) n)
  let inv : Int → Int → Mh → Prop := fun c m g => fr1 q g ∧ ∀ x u, 0 ≤ x → x < 48 → 0 ≤ u → u < 200 → g 120 (200 * x + u) = q 120 (200 * x + u) + (if x < c then dir (FC q) (rsf (q ro 1) (q (ro + 1))) a x (u - t) else if x = c then dir (FC q) (rsf m (q (ro + 1))) a c (u - t) else 0)
  have z0 : ∀ c n, dir (FC q) (rsf 0 (q (ro + 1))) a c n = 0 := by
    intro c n
    unfold dir
    split
    · rfl
    · have : rsf 0 (q (ro + 1)) (n - (FC q a c).1) = 0 := by
        unfold rsf
        by_cases z : n - (FC q a c).1 < 0
        · rw [if_pos z]
        · rw [if_neg z, if_pos (by omega)]
      rw [this, prt_zero]
  -- a cell is done with
  have turn : ∀ (c m : Int) (g : Mh), inv c m g → (m = q ro 1 ∨ (FC q a c).1 = 999) → inv (c + 1) 0 g := by
    intro c m g hi hd
    refine ⟨hi.1, fun x u x0 x1 u0 u1 => ?_⟩
    rw [hi.2 x u x0 x1 u0 u1]
    congr 1
    by_cases h1 : x < c
    · rw [if_pos h1, if_pos (by omega)]
    · rw [if_neg h1]
      by_cases h2 : x = c
      · rw [if_pos h2, if_pos (by omega), h2]
        rcases hd with e | e
        · rw [e]
        · unfold dir; rw [if_pos e, if_pos e]
      · rw [if_neg h2, if_neg (by omega)]
        by_cases h3 : x = c + 1
        · rw [if_pos h3, z0]
        · rw [if_neg h3]
  have inner : ∀ (n : Nat) (c m : Int) (g : Mh), 0 ≤ c → c < q (q 53 0) 0 * q (q 53 0) 1 → 0 ≤ m → m + n = q ro 1 → inv c m g → (∀ g', inv (c + 1) 0 g' → Lfp (F_X6_spreadRises ro a t K) (3, [c + 1], g')) → Lfp (F_X6_spreadRises ro a t K) (30, [c, cfar q a c, m], g) := by
    intro n
    induction n with
    | zero =>
      intro c m g c0 c1 m0 hn hi hz
      apply L_X6_spreadRises_30
      unfold B_X6_spreadRises_30
      rw [hi.1 ro hne.1]
      refine ⟨r1, ?_⟩
      rw [if_pos (by omega)]
      intro x ex
      rw [w32_eq (by omega) (by omega)] at ex
      subst ex
      exact hz g (turn c m g hi (Or.inl (by omega)))
    | succ n ih =>
      intro c m g c0 c1 m0 hn hi hz
      apply L_X6_spreadRises_30
      unfold B_X6_spreadRises_30
      rw [hi.1 ro hne.1]
      refine ⟨r1, ?_⟩
      have f1 := FC_r hc a c
      rw [if_neg (by omega)]
      by_cases d : (FC q a c).1 = 999
      · have : cfar q a c = -2 := by unfold cfar; rw [if_pos d]
        rw [if_pos (by omega)]
        intro x ex
        rw [w32_eq (by omega) (by omega)] at ex
        subst ex
        exact hz g (turn c m g hi (Or.inr d))
      · have ef : cfar q a c = (FC q a c).1 := by unfold cfar; rw [if_neg d]
        have hf := hi.1.f
        have hcg := hf.cp hc
        have hwg := hf.ways hc.1.1 hw
        have eF := hf.fc hc.1.1
        have e53 : g 53 0 = q 53 0 := by rw [hf 53 (by decide)]
        have ew : g (g 53 0) 0 * g (g 53 0) 1 = q (q 53 0) 0 * q (q 53 0) 1 := by rw [e53, hf.pond hc.1.1]
        rw [if_neg (by omega), wi_orZero (by rw [hi.1 ro hne.1, r2]; exact n6), hi.1 ro hne.1, hi.1 (ro + 1) hne.2]
        have er : rsf (q ro 1) (q (ro + 1)) m = q (ro + 1) m := by unfold rsf; rw [if_neg (by omega), if_neg (by omega)]
        have hvm := hv m m0 (by omega)
        rw [er, wi_partOfC hcg hwg a0 (by rw [ew]; exact a1) c0 (by rw [ew]; exact c1) (by rw [eF]; exact d) hvm.1 hvm.2, eF, ef, w32_eq (x := t + (FC q a c).1) (by omega) (by omega), w32_eq (x := t + (FC q a c).1 + m) (by omega) (by omega)]
        have g2 := prt_le (M := 99) f1.2.1 hvm.1 hvm.2
        refine sp_addSum c0 (by omega) g2.1 g2.2 ?_ ?_
        · intro u u0 u1
          have h1 := hb c u c0 c1 u0 u1
          rw [hi.2 c u c0 (by omega) u0 u1, if_neg (by omega), if_pos rfl]
          have h2 := hdl m c (u - t) (by omega)
          omega
        · intro g3 h3 y ey
          rw [w32_eq (by omega) (by omega)] at ey
          subst ey
          rw [← ef]
          refine ih c (m + 1) g3 c0 c1 (by omega) (by omega) ⟨hi.1.trans h3.1, fun z u z0 z1 u0 u1 => ?_⟩ hz
          by_cases ez : z = c
          · rw [ez, h3.2.1 u u0 u1, hi.2 c u c0 (by omega) u0 u1, if_neg (by omega), if_pos rfl, if_neg (by omega), if_pos rfl]
            have ea : dir (FC q) (rsf (m + 1) (q (ro + 1))) a c (u - t) = dir (FC q) (rsf m (q (ro + 1))) a c (u - t) + (if u = t + (FC q a c).1 + m then prt (FC q a c).2 (q (ro + 1) m) else 0) := by
              unfold dir
              rw [if_neg d, if_neg d, prt_add (x := 0) m0]
              unfold rs1
              by_cases e : u = t + (FC q a c).1 + m
              · rw [if_pos e, if_pos (by omega)]
              · rw [if_neg e, if_neg (by omega), prt_zero]
            rw [ea]
            dsimp only
            omega
          · have nz : ¬ (200 * c ≤ 200 * z + u ∧ 200 * z + u < 200 * c + 200) := by omega
            rw [h3.2.2 _ nz, hi.2 z u z0 z1 u0 u1, if_neg (c := z = c) ez, if_neg (c := z = c) ez]
  have outer : ∀ (n : Nat) (c : Int) (g : Mh), 0 ≤ c → c + n = q (q 53 0) 0 * q (q 53 0) 1 → inv c 0 g → Lfp (F_X6_spreadRises ro a t K) (3, [c], g) := by
    intro n
    induction n with
    | zero =>
      intro c g c0 hn hi
      apply L_X6_spreadRises_3
      unfold B_X6_spreadRises_3 wp_X5_cells
      rw [hi.1 53 (by decide), hi.1.f.pond hc.1.1]
      refine ⟨isP_4 hc.1.1, ?_⟩
      rw [w32_eq (x := q (q 53 0) 0 * q (q 53 0) 1) (by omega) (by omega)]
      dsimp only
      rw [if_pos (by omega)]
      refine hk g hi.1 (fun x u x0 x1 u0 u1 => ?_)
      rw [hi.2 x u x0 x1 u0 u1]
      congr 1
      by_cases h1 : x < c
      · rw [if_pos h1, if_pos (by omega)]
      · rw [if_neg h1, if_neg (c := x < q (q 53 0) 0 * q (q 53 0) 1) (by omega)]
        split
        · exact z0 _ _
        · rfl
    | succ n ih =>
      intro c g c0 hn hi
      apply L_X6_spreadRises_3
      unfold B_X6_spreadRises_3 wp_X5_cells
      have hf := hi.1.f
      have e53 : g 53 0 = q 53 0 := by rw [hf 53 (by decide)]
      have ew : g (g 53 0) 0 * g (g 53 0) 1 = q (q 53 0) 0 * q (q 53 0) 1 := by rw [e53, hf.pond hc.1.1]
      have ec : cfar g a c = cfar q a c := by unfold cfar; rw [hf.fc hc.1.1]
      rw [hi.1 53 (by decide), hf.pond hc.1.1]
      refine ⟨isP_4 hc.1.1, ?_⟩
      rw [w32_eq (x := q (q 53 0) 0 * q (q 53 0) 1) (by omega) (by omega)]
      dsimp only
      rw [if_neg (by omega), wi_farOf (hf.cp hc) (hf.ways hc.1.1 hw) a0 (by rw [ew]; exact a1) c0 (by rw [ew]; omega), ec]
      exact inner (q ro 1).toNat c 0 g c0 (by omega) (by omega) (by omega) hi (fun g' hg' => ih (c + 1) g' (by omega) (by omega) hg')
  unfold wp_X6_spreadRises
  refine outer (q (q 53 0) 0 * q (q 53 0) 1).toNat 0 q (by omega) (by omega) ⟨fr1.refl q, fun x u x0 x1 u0 u1 => ?_⟩
  rw [if_neg (by omega)]
  split
  · rw [z0]; simp
  · simp
/-- a value is laid behind a row of rises -/
theorem sp_addRise {ro x : Int} {q : Mh} {K : Mh → Prop} (hs : (shC (ro + 1)).2 = 6) (n0 : 0 ≤ q ro 1) (n5 : q ro 1 < 6) (hk : ∀ g, (∀ o, o ≠ ro → o ≠ ro + 1 → g o = q o) → g ro 1 = q ro 1 + 1 → g (ro + 1) (q ro 1) = x → (∀ j, j ≠ q ro 1 → g (ro + 1) j = q (ro + 1) j) → K g) : wp_X7_add shC ro x q K := by
  unfold wp_X7_add
  rw [hs, if_neg (by omega), if_neg (by omega)]
  refine ⟨⟨n0, by omega⟩, ?_⟩
  intro g1 e1 g2 e2
  have h1 : g1 ro 1 = q ro 1 := by rw [e1, up_other (by omega)]
  rw [h1, w32_eq (by omega) (by omega)] at e2
  refine hk g2 (fun o h2 h3 => ?_) ?_ ?_ (fun j hj => ?_)
  · rw [e2, up_other h2, e1, up_other h3]
  · rw [e2, up_self]
  · rw [e2, up_other (by omega), e1, up_self]
  · rw [e2, up_other (by omega), e1, up_slot hj]
/-- of the sums and of the row that a shore sends back -/
def fr3 (q g : Mh) : Prop := ∀ o, o ≠ 120 → o ≠ 123 → o ≠ 124 → g o = q o
theorem fr3.f {q g : Mh} (h : fr3 q g) : fr120 q g := fun o ho => h o (by omega) (by omega) (by omega)
theorem fr3.trans {q g k : Mh} (h1 : fr3 q g) (h2 : fr3 g k) : fr3 q k := fun o a b c => (h2 o a b c).trans (h1 o a b c)
theorem sp_pourBy {h a t : Int} {q : Mh} {K : Mh → Prop} (hc : cprm q) (hw : waysOK q) (hs : csent q) (hr : rowR q 121) (h0 : 0 ≤ h) (h1 : h < q (q 53 0) 0 * q (q 53 0) 1) (a0 : 0 ≤ a) (a1 : a < q (q 53 0) 0 * q (q 53 0) 1) (t0 : 0 ≤ t) (t1 : t ≤ 1000)
    (hb : ∀ c u, 0 ≤ c → c < q (q 53 0) 0 * q (q 53 0) 1 → 0 ≤ u → u < 200 → -900000 ≤ q 120 (200 * c + u) ∧ q 120 (200 * c + u) ≤ 900000) (hk : ∀ g, fr3 q g → plus q g (fun c u => via (FC q) (rsf (q 121 1) (q 122)) (q (q 53 0) 19) a c (u - t) h) → K g) : wp_X6_pourBy h a t q K := by
  have hm := szs_mul hc.1.2
  obtain ⟨_, n0, n6, hv⟩ := hr
  have f1 := FC_r hc a h
  unfold wp_X6_pourBy
  rw [wi_farOf hc hw a0 a1 h0 h1]
  unfold cfar
  by_cases d : (FC q a h).1 = 999
  · rw [if_pos d, if_neg (by decide)]
    refine hk q (fun _ _ _ _ => rfl) (fun c u _ _ _ _ => ?_)
    dsimp only
    have : via (FC q) (rsf (q 121 1) (q 122)) (q (q 53 0) 19) a c (u - t) h = 0 := by unfold via; rw [if_pos (Or.inl d)]
    rw [this]
    split <;> omega
  · rw [if_neg d, if_pos (by omega)]
    unfold wp_X7_clear
    intro g0 eg0
    have loop : ∀ (n : Nat) (i : Int) (g : Mh), 0 ≤ i → i + n = q 121 1 → (∀ o, o ≠ 123 → o ≠ 124 → g o = q o) → g 123 1 = i → (∀ j, 0 ≤ j → j < i → g 124 j = (prt (FC q a h).2 (q 122 j) * q (q 53 0) 19).tdiv 100) → Lfp (F_X6_pourBy h a t K) (24, [(FC q a h).1, i], g) := by
      intro n
      induction n with
      | zero =>
        intro i g i0 hn hg hi hgv
        apply L_X6_pourBy_24
        unfold B_X6_pourBy_24
        rw [hg 121 (by decide) (by decide), if_pos (by omega), w32_eq (x := t + (FC q a h).1) (by omega) (by omega)]
        have hf : fr120 q g := fun o ho => hg o (by omega) (by omega)
        have eF := hf.fc hc.1.1
        have e53 : g 53 0 = q 53 0 := by rw [hf 53 (by decide)]
        have ew : g (g 53 0) 0 * g (g 53 0) 1 = q (q 53 0) 0 * q (q 53 0) 1 := by rw [e53, hf.pond hc.1.1]
        have hi2 : i = q 121 1 := by omega
        refine sp_spreadRises (hf.cp hc) (hf.ways hc.1.1 hw) ⟨Or.inr rfl, by omega, by omega, fun j j0 j1 => ?_⟩ h0 (by rw [ew]; exact h1) (by omega) (by omega) ?_ ?_
        · show -99 ≤ g 124 j ∧ g 124 j ≤ 99
          rw [hgv j j0 (by omega)]
          have hvj := hv j j0 (by omega)
          have g2 := prt_le (M := 99) f1.2.1 hvj.1 hvj.2
          exact (sen_le g2.1 g2.2 hs.1 hs.2).2
        · intro c u c0 c1 u0 u1
          rw [ew] at c1
          rw [hg 120 (by decide) (by decide)]
          exact hb c u c0 c1 u0 u1
        · intro k hk1 hk2
          refine hk k (fun o o1 o2 o3 => (hk1 o o1).trans (hg o o2 o3)) (fun c u c0 c1 u0 u1 => ?_)
          have := hk2 c u c0 c1 u0 u1
          dsimp only at this ⊢
          rw [this, ew, eF, hg 120 (by decide) (by decide), hi, hi2, show u - (t + (FC q a h).1) = u - t - (FC q a h).1 by omega, show (123 : Int) + 1 = 124 from rfl, via_dir d (fun j j0 j1 => hgv j j0 (by omega))]
      | succ n ih =>
        intro i g i0 hn hg hi hgv
        apply L_X6_pourBy_24
        unfold B_X6_pourBy_24
        have hf : fr120 q g := fun o ho => hg o (by omega) (by omega)
        have eF := hf.fc hc.1.1
        have e53 : g 53 0 = q 53 0 := by rw [hf 53 (by decide)]
        have ew : g (g 53 0) 0 * g (g 53 0) 1 = q (q 53 0) 0 * q (q 53 0) 1 := by rw [e53, hf.pond hc.1.1]
        have e19 : g (g 53 0) 19 = q (q 53 0) 19 := by rw [e53, hf.pond hc.1.1]
        have e121 : g 121 = q 121 := hg 121 (by decide) (by decide)
        have e122 : g (121 + 1) = q 122 := hg 122 (by decide) (by decide)
        rw [e121, if_neg (by omega), wi_orZero (by rw [e121]; exact n6), e121, e122]
        have er : rsf (q 121 1) (q 122) i = q 122 i := by unfold rsf; rw [if_neg (by omega), if_neg (by omega)]
        have hvi := hv i i0 (by omega)
        rw [show (121 : Int) + 1 = 122 from rfl] at hvi
        rw [er, wi_sentOf (hf.cp hc) (hf.ways hc.1.1 hw) (hf.cs hc.1.1 hs) a0 (by rw [ew]; exact a1) h0 (by rw [ew]; exact h1) (by rw [eF]; exact d) hvi.1 hvi.2, eF, e19]
        refine sp_addRise rfl (by omega) (by omega) ?_
        intro k k1 k2 k3 k4 y ey
        rw [w32_eq (by omega) (by omega)] at ey
        subst ey
        rw [hi] at k2 k3 k4
        refine ih (i + 1) k (by omega) (by omega) (fun o o1 o2 => (k1 o o1 o2).trans (hg o o1 o2)) k2 (fun j j0 j1 => ?_)
        by_cases z : j = i
        · rw [z]; exact k3
        · exact (k4 j z).trans (hgv j j0 (by omega))
    refine loop (q 121 1).toNat 0 g0 (by omega) (by omega) (fun o o1 o2 => ?_) ?_ (fun j _ _ => by omega)
    · rw [eg0, up_other o1]
    · rw [eg0, up_self]
/-- pouring: what is added, once or taken off -/
def poured (q g : Mh) (k a t s : Int) : Prop := fr120 q g ∧ ∀ c u, 0 ≤ c → c < 48 → 0 ≤ u → u < 200 → g 120 (200 * c + u) = q 120 (200 * c + u) + (if c < q (q 53 0) 0 * q (q 53 0) 1 then s * cgiv q k (q 53 0 + 1) a c (u - t) else 0)
theorem sp_pour {k a t s : Int} {q : Mh} {K : Mh → Prop} (hc : cprm q) (hw : waysOK q) (hs : csent q) (hS : rowS q (q 53 0 + 1)) (k0 : 0 ≤ k) (k1 : k < 4) (hkn : kndC q k) (a0 : 0 ≤ a) (a1 : a < q (q 53 0) 0 * q (q 53 0) 1) (t0 : 0 ≤ t) (t1 : t ≤ 1000) (hs1 : s = 1 ∨ s = -1)
    (hb : ∀ c u, 0 ≤ c → c < q (q 53 0) 0 * q (q 53 0) 1 → 0 ≤ u → u < 200 → -100000 ≤ q 120 (200 * c + u) ∧ q 120 (200 * c + u) ≤ 100000) (hk : ∀ g, poured q g k a t s → K g) : wp_X6_pour k a t s q K := by
  have hm := szs_mul hc.1.2
  obtain ⟨r1, r2, r3⟩ := isP_rise hc.1.1 k0 k1
  have hD : ∀ a b, 0 ≤ (FC q a b).2 := fun a b => (FC_r hc a b).2.1
  have hS3 := hS.2.2.2.1
  obtain ⟨n0, n6, hv⟩ := hkn
  have pS : ∀ i, 0 ≤ i → i < 50 → ¬ (120 ≤ q 53 0 + i ∧ q 53 0 + i ≤ 124) := fun i i0 i1 => isP_120 hc.1.1 i0 i1
  -- shore by shore
  have shores : ∀ (n : Nat) (i : Int) (f : Int → Int) (g : Mh), 0 ≤ i → i + n = q (q 53 0 + 1) 1 → fr120 q g → g 121 1 = q (q 53 0 + 15 + 2 * k) 1 → (∀ j, 0 ≤ j → j < q (q 53 0 + 15 + 2 * k) 1 → -99 ≤ f j ∧ f j ≤ 99) → (∀ j, 0 ≤ j → j < q (q 53 0 + 15 + 2 * k) 1 → g 122 j = f j) →
      (∀ c u, 0 ≤ c → c < q (q 53 0) 0 * q (q 53 0) 1 → 0 ≤ u → u < 200 → -(200000 + 99 * i) ≤ g 120 (200 * c + u) ∧ g 120 (200 * c + u) ≤ 200000 + 99 * i) →
      (∀ g', fr120 q g' → (∀ c u, 0 ≤ c → c < 48 → 0 ≤ u → u < 200 → g' 120 (200 * c + u) = g 120 (200 * c + u) + (if c < q (q 53 0) 0 * q (q 53 0) 1 then vias (FC q) (rsf (q (q 53 0 + 15 + 2 * k) 1) f) (q (q 53 0) 19) a c (u - t) (q (q 53 0 + 2)) n i else 0)) → K g') → Lfp (F_X6_pour k a t s K) (81, [q 53 0 + 1, i], g) := by
    intro n
    induction n with
    | zero =>
      intro i f g i0 hn hf e121 hfb hfv hbg hk
      apply L_X6_pour_81
      unfold B_X6_pour_81
      refine ⟨hS.1, ?_⟩
      rw [hf _ (pS 1 (by decide) (by decide)), if_pos (by omega)]
      refine hk g hf (fun c u _ _ _ _ => ?_)
      unfold vias
      split <;> omega
    | succ n ih =>
      intro i f g i0 hn hf e121 hfb hfv hbg hk
      apply L_X6_pour_81
      unfold B_X6_pour_81
      refine ⟨hS.1, ?_⟩
      have eS : g (q 53 0 + 1) = q (q 53 0 + 1) := hf _ (pS 1 (by decide) (by decide))
      have eS2 : g (q 53 0 + 1 + 1) = q (q 53 0 + 2) := by rw [show q 53 0 + 1 + 1 = q 53 0 + 2 by omega]; exact hf _ (pS 2 (by decide) (by decide))
      have eF := hf.fc hc.1.1
      have e53 : g 53 0 = q 53 0 := by rw [hf 53 (by decide)]
      have ew : g (g 53 0) 0 * g (g 53 0) 1 = q (q 53 0) 0 * q (q 53 0) 1 := by rw [e53, hf.pond hc.1.1]
      have e19 : g (g 53 0) 19 = q (q 53 0) 19 := by rw [e53, hf.pond hc.1.1]
      rw [eS, if_neg (by omega), wi_orZero (by rw [eS, hS.2.1]; exact hS3), eS, eS2]
      have er : rsf (q (q 53 0 + 1) 1) (q (q 53 0 + 2)) i = q (q 53 0 + 2) i := by unfold rsf; rw [if_neg (by omega), if_neg (by omega)]
      rw [er]
      have hh := hS.2.2.2.2 i i0 (by omega)
      rw [show q 53 0 + 1 + 1 = q 53 0 + 2 by omega] at hh
      have hrow : rowR g 121 := ⟨Or.inl rfl, by omega, by omega, fun j j0 j1 => by
        rw [e121] at j1
        show -99 ≤ g 122 j ∧ g 122 j ≤ 99
        rw [hfv j j0 j1]
        exact hfb j j0 j1⟩
      have ersf : rsf (g 121 1) (g 122) = rsf (q (q 53 0 + 15 + 2 * k) 1) f := by rw [e121]; exact rsf_congr hfv
      refine sp_pourBy (hf.cp hc) (hf.ways hc.1.1 hw) (hf.cs hc.1.1 hs) hrow hh.1 (by rw [ew]; exact hh.2) a0 (by rw [ew]; exact a1) t0 t1 (fun c u c0 c1 u0 u1 => ?_) ?_
      · rw [ew] at c1
        have := hbg c u c0 c1 u0 u1
        omega
      intro g3 f3 p3 y ey
      rw [w32_eq (by omega) (by omega)] at ey
      subst ey
      have hvb : ∀ c u, -99 ≤ via (FC q) (rsf (q (q 53 0 + 15 + 2 * k) 1) f) (q (q 53 0) 19) a c (u - t) (q (q 53 0 + 2) i) ∧ via (FC q) (rsf (q (q 53 0 + 15 + 2 * k) 1) f) (q (q 53 0) 19) a c (u - t) (q (q 53 0 + 2) i) ≤ 99 := fun c u => via_le hD (fun n => rsf_le hfb n) hs.1 hs.2
      have p4 : ∀ c u, 0 ≤ c → c < 48 → 0 ≤ u → u < 200 → g3 120 (200 * c + u) = g 120 (200 * c + u) + (if c < q (q 53 0) 0 * q (q 53 0) 1 then via (FC q) (rsf (q (q 53 0 + 15 + 2 * k) 1) f) (q (q 53 0) 19) a c (u - t) (q (q 53 0 + 2) i) else 0) := by
        intro c u c0 c1 u0 u1
        have := p3 c u c0 c1 u0 u1
        dsimp only at this
        rw [ew, eF, ersf, e19] at this
        exact this
      refine ih (i + 1) f g3 (by omega) (by omega) (hf.trans f3.f) (by rw [f3 121 (by decide) (by decide) (by decide)]; exact e121) hfb (fun j j0 j1 => by rw [f3 122 (by decide) (by decide) (by decide)]; exact hfv j j0 j1) ?_ ?_
      · intro c u c0 c1 u0 u1
        rw [p4 c u c0 (by omega) u0 u1, if_pos c1]
        have h6 := hbg c u c0 c1 u0 u1
        have h7 := hvb c u
        omega
      · intro g4 f4 p5
        refine hk g4 f4 (fun c u c0 c1 u0 u1 => ?_)
        rw [p5 c u c0 c1 u0 u1, p4 c u c0 c1 u0 u1]
        by_cases e : c < q (q 53 0) 0 * q (q 53 0) 1
        · rw [if_pos e, if_pos e, if_pos e]
          show _ = _ + (via (FC q) (rsf (q (q 53 0 + 15 + 2 * k) 1) f) (q (q 53 0) 19) a c (u - t) (q (q 53 0 + 2) i) + vias (FC q) (rsf (q (q 53 0 + 15 + 2 * k) 1) f) (q (q 53 0) 19) a c (u - t) (q (q 53 0 + 2)) n (i + 1))
          omega
        · rw [if_neg e, if_neg e, if_neg e]; omega
  -- the rises, times
  have fill : ∀ (n : Nat) (i : Int) (g : Mh), 0 ≤ i → i + n = q (q 53 0 + 15 + 2 * k) 1 → (∀ o, o ≠ 121 → o ≠ 122 → g o = q o) → g 121 1 = i → (∀ j, 0 ≤ j → j < i → g 122 j = s * q (q 53 0 + 16 + 2 * k) j) → Lfp (F_X6_pour k a t s K) (35, [q 53 0 + 15 + 2 * k, q 53 0 + 1, i], g) := by
    intro n
    induction n with
    | zero =>
      intro i g i0 hn hg hi hgv
      apply L_X6_pour_35
      unfold B_X6_pour_35
      have hf : fr120 q g := fun o ho => hg o (by omega) (by omega)
      have e15 : g (q 53 0 + 15 + 2 * k) = q (q 53 0 + 15 + 2 * k) := hf _ (by have := pS (15 + 2 * k) (by omega) (by omega); omega)
      refine ⟨r2, ?_⟩
      rw [e15, if_pos (by omega)]
      have eF := hf.fc hc.1.1
      have e53 : g 53 0 = q 53 0 := by rw [hf 53 (by decide)]
      have ew : g (g 53 0) 0 * g (g 53 0) 1 = q (q 53 0) 0 * q (q 53 0) 1 := by rw [e53, hf.pond hc.1.1]
      have hi2 : i = q (q 53 0 + 15 + 2 * k) 1 := by omega
      rw [hi2] at hgv hi
      have hsv : ∀ j, 0 ≤ j → j < q (q 53 0 + 15 + 2 * k) 1 → -99 ≤ s * q (q 53 0 + 16 + 2 * k) j ∧ s * q (q 53 0 + 16 + 2 * k) j ≤ 99 := fun j j0 j1 => by
        have := hv j j0 j1
        rcases hs1 with z | z <;> rw [z] <;> omega
      have e120 : g 120 = q 120 := hg 120 (by decide) (by decide)
      have ersf : rsf (g 121 1) (g 122) = rsf (q (q 53 0 + 15 + 2 * k) 1) (fun j => s * q (q 53 0 + 16 + 2 * k) j) := by rw [hi]; exact rsf_congr hgv
      refine sp_spreadRises (hf.cp hc) (hf.ways hc.1.1 hw) ⟨Or.inl rfl, by omega, by omega, fun j j0 j1 => ?_⟩ a0 (by rw [ew]; exact a1) t0 (by omega) (fun c u c0 c1 u0 u1 => ?_) ?_
      · rw [hi] at j1
        show -99 ≤ g 122 j ∧ g 122 j ≤ 99
        rw [hgv j j0 j1]
        exact hsv j j0 j1
      · rw [ew] at c1
        rw [e120]
        have := hb c u c0 c1 u0 u1
        omega
      intro g3 f3 p3
      have hdb : ∀ c n, -99 ≤ dir (FC q) (rsf (q (q 53 0 + 15 + 2 * k) 1) (fun j => s * q (q 53 0 + 16 + 2 * k) j)) a c n ∧ dir (FC q) (rsf (q (q 53 0 + 15 + 2 * k) 1) (fun j => s * q (q 53 0 + 16 + 2 * k) j)) a c n ≤ 99 := fun c n => dir_le hD (fun n => rsf_le hsv n)
      have p4 : ∀ c u, 0 ≤ c → c < 48 → 0 ≤ u → u < 200 → g3 120 (200 * c + u) = q 120 (200 * c + u) + (if c < q (q 53 0) 0 * q (q 53 0) 1 then dir (FC q) (rsf (q (q 53 0 + 15 + 2 * k) 1) (fun j => s * q (q 53 0 + 16 + 2 * k) j)) a c (u - t) else 0) := by
        intro c u c0 c1 u0 u1
        have := p3 c u c0 c1 u0 u1
        dsimp only at this
        rw [ew, eF, show (121 : Int) + 1 = 122 from rfl, ersf, e120] at this
        exact this
      refine shores (q (q 53 0 + 1) 1).toNat 0 (fun j => s * q (q 53 0 + 16 + 2 * k) j) g3 (by omega) (by have := hS.2.2.1; omega) (hf.trans f3.f) (by rw [f3 121 (by decide)]; exact hi) hsv (fun j j0 j1 => by rw [f3 122 (by decide)]; exact hgv j j0 j1) ?_ ?_
      · intro c u c0 c1 u0 u1
        rw [p4 c u c0 (by omega) u0 u1, if_pos c1]
        have h6 := hb c u c0 c1 u0 u1
        have h7 := hdb c (u - t)
        omega
      · intro g4 f4 p5
        refine hk g4 ⟨f4, fun c u c0 c1 u0 u1 => ?_⟩
        rw [p5 c u c0 c1 u0 u1, p4 c u c0 c1 u0 u1]
        by_cases e : c < q (q 53 0) 0 * q (q 53 0) 1
        · rw [if_pos e, if_pos e, if_pos e]
          have eg : giv (FC q) (rsf (q (q 53 0 + 15 + 2 * k) 1) (fun j => s * q (q 53 0 + 16 + 2 * k) j)) (q (q 53 0) 19) (q (q 53 0 + 2)) (q (q 53 0 + 1) 1).toNat a c (u - t) = s * cgiv q k (q 53 0 + 1) a c (u - t) := by
            unfold cgiv crs
            rw [show q 53 0 + 1 + 1 = q 53 0 + 2 by omega]
            rcases hs1 with z | z
            · rw [z, show (fun j => 1 * q (q 53 0 + 16 + 2 * k) j) = q (q 53 0 + 16 + 2 * k) from funext fun j => Int.one_mul _]
              omega
            · rw [z, giv_neg (rs := rsf (q (q 53 0 + 15 + 2 * k) 1) (q (q 53 0 + 16 + 2 * k))) (rsf_neg (fun j _ _ => by omega))]
              omega
          rw [← eg]
          show _ = _ + (dir (FC q) (rsf (q (q 53 0 + 15 + 2 * k) 1) (fun j => s * q (q 53 0 + 16 + 2 * k) j)) a c (u - t) + vias (FC q) (rsf (q (q 53 0 + 15 + 2 * k) 1) (fun j => s * q (q 53 0 + 16 + 2 * k) j)) (q (q 53 0) 19) a c (u - t) (q (q 53 0 + 2)) (q (q 53 0 + 1) 1).toNat 0)
          omega
        · rw [if_neg e, if_neg e, if_neg e]; omega
    | succ n ih =>
      intro i g i0 hn hg hi hgv
      apply L_X6_pour_35
      unfold B_X6_pour_35
      have hf : fr120 q g := fun o ho => hg o (by omega) (by omega)
      have e15 : g (q 53 0 + 15 + 2 * k) = q (q 53 0 + 15 + 2 * k) := hf _ (by have := pS (15 + 2 * k) (by omega) (by omega); omega)
      have e16 : g (q 53 0 + 15 + 2 * k + 1) = q (q 53 0 + 16 + 2 * k) := by rw [show q 53 0 + 15 + 2 * k + 1 = q 53 0 + 16 + 2 * k by omega]; exact hf _ (by have := pS (16 + 2 * k) (by omega) (by omega); omega)
      refine ⟨r2, ?_⟩
      rw [e15, if_neg (by omega), wi_orZero (by rw [e15, show q 53 0 + 15 + 2 * k + 1 = q 53 0 + 16 + 2 * k by omega, r3]; exact n6), e15, e16]
      have er : rsf (q (q 53 0 + 15 + 2 * k) 1) (q (q 53 0 + 16 + 2 * k)) i = q (q 53 0 + 16 + 2 * k) i := by unfold rsf; rw [if_neg (by omega), if_neg (by omega)]
      have hvi := hv i i0 (by omega)
      have ex2 : w32 (q (q 53 0 + 16 + 2 * k) i * s) = s * q (q 53 0 + 16 + 2 * k) i := by
        rcases hs1 with z | z
        · rw [z, w32_eq (by omega) (by omega)]; omega
        · rw [z, w32_eq (by omega) (by omega)]; omega
      rw [er, ex2]
      refine sp_addRise rfl (by omega) (by omega) ?_
      intro g3 k1 k2 k3 k4 y ey
      rw [w32_eq (by omega) (by omega)] at ey
      subst ey
      rw [hi] at k2 k3 k4
      refine ih (i + 1) g3 (by omega) (by omega) (fun o o1 o2 => (k1 o o1 o2).trans (hg o o1 o2)) k2 (fun j j0 j1 => ?_)
      by_cases z : j = i
      · rw [z]; exact k3
      · exact (k4 j z).trans (hgv j j0 (by omega))
  unfold wp_X6_pour
  refine ⟨isP_4 hc.1.1, ?_⟩
  unfold wp_X5_risesOf
  rw [if_neg (by omega), r1, if_neg (by omega)]
  refine ⟨⟨by omega, by omega⟩, ?_⟩
  dsimp only
  refine ⟨isP_4 hc.1.1, ?_⟩
  rw [show q 53 0 + 14 + 1 + 2 * k = q 53 0 + 15 + 2 * k by omega]
  unfold wp_X7_clear
  intro g0 eg0
  refine fill (q (q 53 0 + 15 + 2 * k) 1).toNat 0 g0 (by omega) (by omega) (fun o o1 o2 => ?_) ?_ (fun j _ _ => by omega)
  · rw [eg0, up_other o1]
  · rw [eg0, up_self]
