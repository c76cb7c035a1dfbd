/-! ===== the sums of the class, the rises of the reference ===== -/
def rgiv (r : Mh) (k a c n : Int) : Int := giv (FA r) (rsf (r 10 k) (fun j => r 12 (6 * k + j))) (r 0 23) (r 32) (r 0 77).toNat a c n
def csum (q : Mh) (c t : Int) : Int := sumN (fun d => cgiv q (q 99 d) (q 53 0 + 1) (q 100 d) c (t - q 101 d)) (q 98 3).toNat 0
def rsum (r : Mh) (c t : Int) : Int := sumN (fun d => rgiv r (r 17 d) (r 18 d) c (t - r 19 d)) (r 0 76).toNat 0
def sumsOK (q : Mh) : Prop := ∀ c t, 0 ≤ c → c < q (q 53 0) 0 * q (q 53 0) 1 → 0 ≤ t → t < 200 → q 120 (200 * c + t) = csum q c t
def Rel (q r : Mh) : Prop := Core q r ∧ (q 53 8 = 0 → waysOK q) ∧ (q 53 9 = 0 → sumsOK q)
theorem RRow.rf {q r : Mh} {row cnt arr base : Int} (h : RRow q r row cnt arr base) : rsf (q row 1) (q (row + 1)) = rsf cnt (fun j => r arr (base + j)) := by
  rw [h.1]
  exact rsf_congr h.2.2
/-- of one drop alone, by any row of shores -/
theorem cgiv_eq {q r : Mh} (hd : RDim q r) (hg : RGr q r) (hK : RKnd q r) {k a c n row m : Int} {S : Int → Int} (k0 : 0 ≤ k) (k1 : k < r 0 14) (hm : q row 1 = m) (hS : ∀ j, 0 ≤ j → j < m → q (row + 1) j = S j) : cgiv q k row a c n = giv (FA r) (rsf (r 10 k) (fun j => r 12 (6 * k + j))) (r 0 23) S m.toNat a c n := by
  have e := (hK.2.2.2 k k0 k1).2.2.2.rf
  have e2 : q 53 0 + 15 + 2 * k + 1 = q 53 0 + 16 + 2 * k := by omega
  rw [e2] at e
  unfold cgiv crs
  rw [FC_FA hd hg, e, hm, hd.2.2.2.2.2.2.2.1]
  unfold giv
  congr 1
  exact vias_congr _ 0 (fun j j0 j1 => hS j j0 (by omega))
theorem cgiv_rgiv {q r : Mh} (hP : RPond q r) (hg : RGr q r) {k a c n : Int} (k0 : 0 ≤ k) (k1 : k < r 0 14) : cgiv q k (q 53 0 + 1) a c n = rgiv r k a c n := by
  have hS := hP.2.1
  unfold rgiv
  rw [cgiv_eq hP.1 hg hP.2.2.1 (m := r 0 18) (S := r 32) k0 k1 hS.1.1 (fun j j0 j1 => ?_), hS.2.2.2.2.1]
  have := hS.2.1
  rw [hS.1.2.2 j j0 j1, hS.2.2.2.2.2 j j0 (by omega)]
  simp
theorem csum_rsum {q r : Mh} (h : Core q r) (c t : Int) : csum q c t = rsum r c t := by
  obtain ⟨h1, h2, h3, h4, h5, h6⟩ := h
  unfold csum rsum
  rw [h5.1]
  refine sumN_congr _ 0 (fun d d0 d1 => ?_)
  obtain ⟨a, b, e, f⟩ := h5.2.2.2 d d0 (by omega)
  rw [a, b, e]
  exact cgiv_rgiv h3 h4 f.1 f.2.1
theorem RKnd.kc {q r : Mh} (h : RKnd q r) {k : Int} (k0 : 0 ≤ k) (k1 : k < r 0 14) : kndC q k := by
  obtain ⟨_, _, a, b⟩ := h.2.2.2 k k0 k1
  have e2 : q 53 0 + 15 + 2 * k + 1 = q 53 0 + 16 + 2 * k := by omega
  unfold RRow at b
  rw [e2] at b
  unfold kndC
  rw [b.1]
  exact ⟨a.1, a.2.1, fun j j0 j1 => by rw [b.2.2 j j0 j1]; exact a.2.2 j j0 j1⟩
theorem RDim.cl {q r : Mh} (hd : RDim q r) {c : Int} (h : c < r 0 12 * r 0 13) : c < q (q 53 0) 0 * q (q 53 0) 1 := by
  rw [hd.2.2.1, hd.2.2.2.1]
  exact h
theorem isP_shr {p : Int} (h : isP p) : (shC (p + 1)).1 = 6 ∧ (shC (p + 1 + 1)).2 = 3 := by rcases h with e | e <;> rw [e] <;> decide
theorem RShr.rs {q r : Mh} (h : RShr q r) (hd : RDim q r) : rowS q (q 53 0 + 1) := by
  have hm := szs_mul hd.2.2.2.2.1.1
  obtain ⟨a, b⟩ := isP_shr hd.1
  have e := h.1
  have e3 := h.2.1
  refine ⟨a, b, by rw [e.1]; exact e.2.1, by rw [e.1]; exact e3, fun j j0 j1 => ?_⟩
  rw [e.1] at j1
  rw [e.2.2 j j0 j1]
  have := h.2.2.1 j j0 j1
  simp only [Int.zero_add]
  rw [hd.2.2.1, hd.2.2.2.1]
  exact ⟨this.1, this.2.1⟩
theorem Core.cs {q r : Mh} (h : Core q r) : csent q := by
  have hd := h.2.2.1.1
  unfold csent
  rw [hd.2.2.2.2.2.2.2.1]
  exact hd.2.2.2.2.2.2.2.2
theorem frW.sc {q g : Mh} (h : frW q g) : sameC q g := fun o j a b c d => h o j (by omega) (by omega)
theorem fr120.sc {q g : Mh} (h : fr120 q g) : sameC q g := fun o j a b c d => by rw [h o (by omega)]
/-- the sums of a cell lie within -/
theorem csum_le {q r : Mh} (h : Core q r) (c t : Int) : -6336 ≤ csum q c t ∧ csum q c t ≤ 6336 := by
  have hc := h.2.2.1.1.cp
  have hs := h.cs
  have h5 := h.2.2.2.2.1
  have b := sumN_le (f := fun d => cgiv q (q 99 d) (q 53 0 + 1) (q 100 d) c (t - q 101 d)) (M := 396) (q 98 3).toNat 0 (fun d d0 d1 => by
    obtain ⟨a1, a2, a3, a4⟩ := h5.2.2.2 d d0 (by have := h5.1; omega)
    have hk := h.2.2.1.2.2.1.kc a4.1 a4.2.1
    have hS := h.2.2.1.2.1.rs h.2.2.1.1
    have h3 := hS.2.2.2.1
    rw [a1]
    exact giv_le (fun a b => (FC_r hc a b).2.1) (rsf_le hk.2.2) hs.1 hs.2 (by omega))
  have h6 := h5.1
  have h7 := h5.2.2.1
  unfold csum
  omega
theorem sp_freshenSums {q r : Mh} {K : Mh → Prop} (h : Rel q r) (hk : ∀ g, Core g r → g 53 8 = 0 → g 53 9 = 0 → waysOK g → sumsOK g → sameC q g → K g) : wp_X6_freshenSums q K := by
  obtain ⟨hC, hW, hS⟩ := h
  unfold wp_X6_freshenSums
  refine sp_freshenWays hC.2.2.1.1.cp hW ?_
  intro g f z w
  have hg : Core g r := hC.same f.sc (sameR.refl r)
  by_cases k : g 53 9 = 0
  · rw [if_neg (fun x => x k)]
    refine hk g hg z k w ?_ f.sc
    have e9 : q 53 9 = 0 := by rw [← f 53 9 (by decide) (by decide)]; exact k
    have h0 := hS e9
    intro c t c0 c1 t0 t1
    have ep := f.pond hC.2.2.1.1.1
    rw [f.at0, ep] at c1
    rw [f.row (o := 120) (by decide) (by decide), h0 c t c0 c1 t0 t1, csum_rsum hC, csum_rsum hg]
  · rw [if_pos k]
    intro g1 e1
    have f1 : sameC g g1 := fun o j a b c d => by rw [e1]; exact up_ne _ (by omega)
    have w1 : waysOK g1 := by
      have hp := hg.2.2.1.1.1
      have hne : g 53 0 ≠ 53 := by rcases hp with e | e <;> omega
      refine waysOK_congr ?_ ?_ ?_ ?_ ?_ ?_ w
      · rw [e1]; exact up_slot (by decide)
      · rw [e1]; exact up_slot (by decide)
      · rw [e1]; exact up_other hne
      · rw [e1]; exact up_other (by decide)
      · rw [e1]; exact up_other (by decide)
      · rw [e1]; exact up_other (by decide)
    have hg1 : Core g1 r := hg.same f1 (sameR.refl r)
    have z8 : g1 53 8 = 0 := by rw [e1, up_slot (by decide)]; exact z
    have z9 : g1 53 9 = 0 := by rw [e1, up_self]
    -- drop by drop
    have hd := hg1.2.2.1.1
    have hm := szs_mul hd.2.2.2.2.1.1
    have part : ∀ (n : Nat) (d : Int) (k : Mh), 0 ≤ d → d + n = g1 98 3 → fr120 g1 k → (∀ c u, 0 ≤ c → c < g1 (g1 53 0) 0 * g1 (g1 53 0) 1 → 0 ≤ u → u < 200 → k 120 (200 * c + u) = sumN (fun d => cgiv g1 (g1 99 d) (g1 53 0 + 1) (g1 100 d) c (u - g1 101 d)) d.toNat 0) → Lfp (F_X6_freshenSums K) (75, [d], k) := by
      intro n
      induction n with
      | zero =>
        intro d k d0 hn fk hv
        apply L_X6_freshenSums_75
        unfold B_X6_freshenSums_75
        have e98 : k 98 = g1 98 := fk 98 (by decide)
        rw [e98, if_pos (by omega)]
        have hk1 : Core k r := hg1.same fk.sc (sameR.refl r)
        refine hk k hk1 (by rw [fk 53 (by decide)]; exact z8) (by rw [fk 53 (by decide)]; exact z9) (fk.ways hd.1 w1) ?_ (f.sc.trans (f1.trans fk.sc))
        intro c t c0 c1 t0 t1
        rw [fk 53 (by decide), fk.pond hd.1] at c1
        have := hv c t c0 c1 t0 t1
        rw [this, csum_rsum hk1, ← csum_rsum hg1]
        unfold csum
        rw [show d = g1 98 3 by omega]
      | succ n ih =>
        intro d k d0 hn fk hv
        apply L_X6_freshenSums_75
        unfold B_X6_freshenSums_75
        have e98 : k 98 = g1 98 := fk 98 (by decide)
        have h5 := hg1.2.2.2.2.1
        have h16 := h5.2.2.1
        have h98 := h5.1
        obtain ⟨a1, a2, a3, a4⟩ := h5.2.2.2 d d0 (by omega)
        rw [e98, if_neg (by omega), fk 99 (by decide), fk 100 (by decide), fk 101 (by decide)]
        refine ⟨⟨d0, by omega⟩, ⟨d0, by omega⟩, ⟨d0, by omega⟩, ?_⟩
        have hk1 : Core k r := hg1.same fk.sc (sameR.refl r)
        have hdk := hk1.2.2.1.1
        have hcg := hd.cp
        have hsg := hg1.cs
        have hSg := hg1.2.2.1.2.1.rs hd
        have hS3 := hSg.2.2.2.1
        have hk4 := hg1.2.2.1.2.2.1.2.1
        have bnd : ∀ c u (n : Nat), n ≤ d → -6336 ≤ sumN (fun d => cgiv g1 (g1 99 d) (g1 53 0 + 1) (g1 100 d) c (u - g1 101 d)) n 0 ∧ sumN (fun d => cgiv g1 (g1 99 d) (g1 53 0 + 1) (g1 100 d) c (u - g1 101 d)) n 0 ≤ 6336 := by
          intro c u n hn
          have b := sumN_le (f := fun d => cgiv g1 (g1 99 d) (g1 53 0 + 1) (g1 100 d) c (u - g1 101 d)) (M := 396) n 0 (fun e e0 e1 => by
            obtain ⟨b1, b2, b3, b4⟩ := h5.2.2.2 e e0 (by omega)
            have hke := hg1.2.2.1.2.2.1.kc b4.1 b4.2.1
            rw [b1]
            exact giv_le (fun a b => (FC_r hcg a b).2.1) (rsf_le hke.2.2) hsg.1 hsg.2 (by omega))
          omega
        rw [a1, a2, a3]
        have hwk := fk.ways hd.1 w1
        refine sp_pour hdk.cp hwk hk1.cs (hk1.2.2.1.2.1.rs hdk) a4.1 (by have := a4.2.1; omega) (hk1.2.2.1.2.2.1.kc a4.1 a4.2.1) a4.2.2.1.1 (by rw [hdk.2.2.1, hdk.2.2.2.1]; exact a4.2.2.1.2.1) a4.2.2.2.1 (by have := a4.2.2.2.2; omega) (Or.inl rfl) ?_ ?_
        · intro c u c0 c1 u0 u1
          rw [fk 53 (by decide), fk.pond hd.1] at c1
          rw [hv c u c0 c1 u0 u1]
          have := bnd c u d.toNat (by omega)
          omega
        · intro k2 hp x ex
          rw [w32_eq (by omega) (by omega)] at ex
          subst ex
          refine ih (d + 1) k2 (by omega) (by omega) (fk.trans hp.1) ?_
          intro c u c0 c1 u0 u1
          have ek : k (k 53 0) 0 * k (k 53 0) 1 = g1 (g1 53 0) 0 * g1 (g1 53 0) 1 := by rw [fk 53 (by decide), fk.pond hd.1]
          have e1 := hd.2.2.1
          have e2 := hd.2.2.2.1
          have c48 : c < 48 := by rw [e1, e2] at c1; omega
          rw [hp.2 c u c0 c48 u0 u1, ek, if_pos c1, hv c u c0 c1 u0 u1, fk 53 (by decide), show (d + 1).toNat = d.toNat + 1 by omega, sumN_snoc]
          have e : cgiv k (r 17 d) (g1 53 0 + 1) (r 18 d) c (u - r 19 d) = cgiv g1 (g1 99 (0 + d.toNat)) (g1 53 0 + 1) (g1 100 (0 + d.toNat)) c (u - g1 101 (0 + d.toNat)) := by
            rw [show (0 : Int) + d.toNat = d by omega, a1, a2, a3]
            unfold cgiv crs
            rw [fk.fc hd.1, fk 53 (by decide), fk.pond hd.1, fk (g1 53 0 + 1) (isP_120 hd.1 (by decide) (by decide)), fk (g1 53 0 + 1 + 1) (by have := isP_120 hd.1 (i := 2) (by decide) (by decide); omega), fk (g1 53 0 + 15 + 2 * r 17 d) (by have := isP_120 hd.1 (i := 15 + 2 * r 17 d) (by have := a4.1; omega) (by have := a4.2.1; omega); omega), fk (g1 53 0 + 16 + 2 * r 17 d) (by have := isP_120 hd.1 (i := 16 + 2 * r 17 d) (by have := a4.1; omega) (by have := a4.2.1; omega); omega)]
          rw [e]
          omega
    have hmg : 1 ≤ g1 (g1 53 0) 0 * g1 (g1 53 0) 1 ∧ g1 (g1 53 0) 0 * g1 (g1 53 0) 1 ≤ 48 := by rw [hd.2.2.1, hd.2.2.2.1]; exact hm
    have zero : ∀ (n : Nat) (i : Int) (k : Mh), 0 ≤ i → i + n = g1 (g1 53 0) 0 * g1 (g1 53 0) 1 * 200 → fr120 g1 k → (∀ j, 0 ≤ j → j < i → k 120 j = 0) → Lfp (F_X6_freshenSums K) (25, [i], k) := by
      intro n
      induction n with
      | zero =>
        intro i k i0 hn fk hv
        apply L_X6_freshenSums_25
        unfold B_X6_freshenSums_25 wp_X5_cells
        rw [fk 53 (by decide), fk.pond hd.1, w32_eq (x := g1 (g1 53 0) 0 * g1 (g1 53 0) 1) (by omega) (by omega)]
        refine ⟨isP_4 hd.1, ?_⟩
        dsimp only
        rw [w32_eq (by omega) (by omega), if_pos (by omega)]
        have h5 := hg1.2.2.2.2.1
        have := h5.2.1
        refine part (g1 98 3).toNat 0 k (by omega) (by have := h5.1; omega) fk ?_
        intro c u c0 c1 u0 u1
        rw [hv _ (by omega) (by omega)]
        rfl
      | succ n ih =>
        intro i k i0 hn fk hv
        apply L_X6_freshenSums_25
        unfold B_X6_freshenSums_25 wp_X5_cells
        rw [fk 53 (by decide), fk.pond hd.1, w32_eq (x := g1 (g1 53 0) 0 * g1 (g1 53 0) 1) (by omega) (by omega)]
        refine ⟨isP_4 hd.1, ?_⟩
        dsimp only
        rw [w32_eq (x := g1 (g1 53 0) 0 * g1 (g1 53 0) 1 * 200) (by omega) (by omega), if_neg (by omega), if_neg (by omega)]
        refine ⟨⟨i0, by omega⟩, ?_⟩
        intro k1 ek x ex
        rw [w32_eq (by omega) (by omega)] at ex
        subst ex
        refine ih (i + 1) k1 (by omega) (by omega) (fun o ho => by rw [ek, up_other (by omega), fk o ho]) ?_
        intro j j0 j1
        rw [ek]
        by_cases e : j = i
        · rw [e, up_self]
        · rw [up_slot e]
          exact hv j j0 (by omega)
    exact zero (g1 (g1 53 0) 0 * g1 (g1 53 0) 1 * 200).toNat 0 g1 (by omega) (by omega) (fr120.refl g1) (fun j a b => by omega)
theorem wi_sumAt {q : Mh} {c t : Int} (c0 : 0 ≤ c) (c1 : c < 48) (t0 : 0 ≤ t) (t1 : t < 200) (K : Int → Mh → Prop) : wp_X6_sumAt c t q K = K (q 120 (200 * c + t)) q := by
  unfold wp_X6_sumAt
  rw [if_neg (by omega), if_neg (by omega), if_neg (by omega), if_neg (by omega), if_neg (by decide), w32_eq (x := c * 200) (by omega) (by omega), w32_eq (x := c * 200 + t) (by omega) (by omega), show c * 200 + t = 200 * c + t by omega]
  exact propext ⟨fun z => z.2, fun z => ⟨⟨by omega, by omega⟩, z⟩⟩
/-- the reference's rise, without a lie or with one -/
def lsum (r : Mh) (c t : Int) : Int := (if 0 ≤ r 0 79 then rgiv r (r 0 79) (r 0 80) c (t - r 0 81) else 0) + rsum r c t
/-- what the reference's rises look at -/
def riseOKR (r : Mh) : Prop := prm r ∧ wayR r ∧ (0 ≤ r 0 23 ∧ r 0 23 ≤ 99) ∧ (0 ≤ r 0 77 ∧ r 0 77 ≤ 3 ∧ ∀ j, 0 ≤ j → j < r 0 77 → 0 ≤ r 32 j ∧ r 32 j < 48) ∧ (r 0 14 ≤ 4 ∧ ∀ k, 0 ≤ k → k < r 0 14 → kndR r k) ∧ (0 ≤ r 0 76 ∧ r 0 76 ≤ 16 ∧ ∀ d, 0 ≤ d → d < r 0 76 → okD r (r 17 d) (r 18 d) (r 19 d)) ∧ (0 ≤ r 0 79 → okD r (r 0 79) (r 0 80) (r 0 81))
theorem Core.ro {q r : Mh} (h : Core q r) : riseOKR r := by
  obtain ⟨h1, h2, h3, h4, h5, h6, h7, h8, h9⟩ := h
  have hd := h3.1
  have hm := szs_mul hd.2.2.2.2.1.1
  have hS := h3.2.1
  have h33 := hS.2.1
  have h30 := hS.1.2.1
  refine ⟨hd.2.2.2.2.1, h9.2.1, hd.2.2.2.2.2.2.2.2, ⟨by rw [hS.2.2.2.2.1]; exact h30, by rw [hS.2.2.2.2.1]; exact h33, fun j j0 j1 => ?_⟩, ⟨h3.2.2.1.2.1, fun k k0 k1 => (h3.2.2.1.2.2.2 k k0 k1).2.2.1⟩, ⟨h5.2.1, h5.2.2.1, fun d d0 d1 => (h5.2.2.2 d d0 d1).2.2.2⟩, fun z => ?_⟩
  · rw [hS.2.2.2.2.1] at j1
    rw [hS.2.2.2.2.2 j j0 (by omega)]
    have := hS.2.2.1 j j0 j1
    exact ⟨this.1, by have := this.2.1; omega⟩
  · have := h9.1; omega
theorem rgiv_le {r : Mh} (h : riseOKR r) {k : Int} (k0 : 0 ≤ k) (k1 : k < r 0 14) (a c n : Int) : -396 ≤ rgiv r k a c n ∧ rgiv r k a c n ≤ 396 := by
  have hk := h.2.2.2.2.1.2 k k0 k1
  have h3 := h.2.2.2.1.2.1
  exact giv_le (fun a b => (FA_r h.1 a b).2.1) (rsf_le hk.2.2) h.2.2.1.1 h.2.2.1.2 (by omega)
theorem rgives {r : Mh} (h : riseOKR r) {k a c n : Int} {K : Int → Mh → Prop} (k0 : 0 ≤ k) (k1 : k < r 0 14) (a0 : 0 ≤ a) (a1 : a < 48) (c0 : 0 ≤ c) (c1 : c < 48) (n0 : -1000000 ≤ n) (n1 : n ≤ 1000000) (hK : K (rgiv r k a c n) r) : wp_X14_gives k a c n r K := by
  have h4 := h.2.2.2.2.1.1
  exact sp_gives h.1 h.2.1 k0 (by omega) (h.2.2.2.2.1.2 k k0 k1) h.2.2.1.1 h.2.2.1.2 h.2.2.2.1.1 h.2.2.2.1.2.1 h.2.2.2.1.2.2 a0 a1 c0 c1 n0 n1 hK
theorem sp_riseIn {r : Mh} {c t : Int} {K : Int → Mh → Prop} (h : riseOKR r) (c0 : 0 ≤ c) (c1 : c < 48) (t0 : 0 ≤ t) (t1 : t ≤ 1000) (hK : K (lsum r c t) r) : wp_X14_riseIn c t r K := by
  have hm := szs_mul h.1.1
  have hd := h.2.2.2.2.2.1
  have loop : ∀ (n : Nat) (d v : Int), 0 ≤ d → d + n = r 0 76 → -(396 * d + 396) ≤ v → v ≤ 396 * d + 396 → v + sumN (fun d => rgiv r (r 17 d) (r 18 d) c (t - r 19 d)) n d = lsum r c t → Lfp (F_X14_riseIn c t K) (34, [v, d], r) := by
    intro n
    induction n with
    | zero =>
      intro d v d0 hn v0 v1 hv
      apply L_X14_riseIn_34
      unfold B_X14_riseIn_34
      rw [if_pos (by omega)]
      unfold sumN at hv
      rw [show v = lsum r c t by omega]
      exact hK
    | succ n ih =>
      intro d v d0 hn v0 v1 hv
      apply L_X14_riseIn_34
      unfold B_X14_riseIn_34
      have o := hd.2.2 d d0 (by omega)
      have h16 := hd.2.1
      rw [if_neg (by omega)]
      refine ⟨⟨d0, by omega⟩, ⟨d0, by omega⟩, ⟨d0, by omega⟩, ?_⟩
      have o5 := o.2.2.2
      rw [w32_eq (x := t - r 19 d) (by omega) (by omega)]
      refine rgives h o.1 o.2.1 o.2.2.1.1 (by have := o.2.2.1.2.1; omega) c0 c1 (by omega) (by omega) ?_
      have b := rgiv_le h o.1 o.2.1 (r 18 d) c (t - r 19 d)
      intro x ex y ey
      rw [w32_eq (by omega) (by omega)] at ex ey
      subst ex; subst ey
      unfold sumN at hv
      exact ih (d + 1) _ (by omega) (by omega) (by omega) (by omega) (by omega)
  unfold wp_X14_riseIn
  by_cases k : 0 ≤ r 0 79
  · have o := h.2.2.2.2.2.2 k
    have o5 := o.2.2.2
    rw [if_pos k, w32_eq (x := t - r 0 81) (by omega) (by omega)]
    refine rgives h o.1 o.2.1 o.2.2.1.1 (by have := o.2.2.1.2.1; omega) c0 c1 (by omega) (by omega) ?_
    have b := rgiv_le h o.1 o.2.1 (r 0 80) c (t - r 0 81)
    refine loop (r 0 76).toNat 0 _ (by omega) (by have := hd.1; omega) (by omega) (by omega) ?_
    unfold lsum rsum
    rw [if_pos k]
  · rw [if_neg k]
    refine loop (r 0 76).toNat 0 _ (by omega) (by have := hd.1; omega) (by omega) (by omega) ?_
    unfold lsum rsum
    rw [if_neg k]
theorem Core.ls {q r : Mh} (h : Core q r) (c t : Int) : lsum r c t = csum q c t := by
  unfold lsum
  have := h.2.2.2.2.2.2.2.2.1
  rw [if_neg (by omega), csum_rsum h]
  omega
/-! ===== far, weak, rise, shows, most ===== -/
theorem Rel.fw {q r g : Mh} (h : Rel q r) (f : frW q g) (w : waysOK g) {s : Mh} (hr : sameR r s) : Rel g s := by
  have hg : Core g s := h.1.same f.sc hr
  have hg0 : Core g r := h.1.same f.sc (sameR.refl r)
  refine ⟨hg, fun _ => w, fun z => ?_⟩
  have h0 := h.2.2 (by rw [← f 53 9 (by decide) (by decide)]; exact z)
  intro c t c0 c1 t0 t1
  rw [f.at0, f.pond h.1.2.2.1.1.1] at c1
  rw [f.row (o := 120) (by decide) (by decide), h0 c t c0 c1 t0 t1, csum_rsum h.1, csum_rsum hg0]
theorem Rel.thrown {q r s : Mh} (h : Rel q r) (hr : sameR r s) : Rel q s := ⟨h.1.same (sameC.refl q) hr, h.2.1, h.2.2⟩
theorem op_far {q r : Mh} (a b : Int) (h : Rel q r) : wp_X13_far a b q (fun x q' => wp_X14_far a b r (fun y r' => x = y ∧ Rel q' r')) := by
  have hd := h.1.2.2.1.1
  have hg := h.1.2.2.2.1
  have hm := szs_mul hd.2.2.2.2.1.1
  have h0 : Rel q (up r 0 2 0) := h.thrown (sameR.thrown r)
  have hs : szs (up r 0 2 0 0 12) (up r 0 2 0 0 13) := by rw [up_slot (by decide), up_slot (by decide)]; exact hd.2.2.2.2.1.1
  have ew : ∀ c, wat (up r 0 2 0 0 12) (up r 0 2 0 0 13) (up r 0 2 0 5) c ↔ watR r c := by
    intro c
    rw [up_slot (by decide), up_slot (by decide), up_other (by decide)]
  have e30 : up r 0 2 0 30 = r 30 := up_other (by decide)
  have e31 : up r 0 2 0 31 = r 31 := up_other (by decide)
  unfold wp_X13_far
  refine ⟨isP_4 hd.1, ?_⟩
  rw [wi_wet hd hg]
  have no : ¬ (watR r a ∧ watR r b) → wp_X14_far a b r (fun y r' => -1 = y ∧ Rel q r') := by
    intro hn
    unfold wp_X14_far
    intro r1 e1
    subst e1
    rw [wi_isWater hs]
    by_cases ka : watR r a
    · rw [if_pos ((ew a).mpr ka), if_neg (by decide), wi_isWater hs, if_neg (fun z => hn ⟨ka, (ew b).mp z⟩), if_neg (fun z => z rfl)]
      exact ⟨rfl, h0⟩
    · rw [if_neg (fun z => ka ((ew a).mp z)), if_pos rfl]
      exact ⟨rfl, h0⟩
  by_cases ka : watR r a
  · rw [if_pos ka, if_neg (by decide)]
    refine ⟨isP_4 hd.1, ?_⟩
    rw [wi_wet hd hg]
    by_cases kb : watR r b
    · rw [if_pos kb, if_pos (by decide)]
      refine sp_freshenWays hd.cp h.2.1 ?_
      intro g f z w
      have a1 : a < 48 := by have := ka.2.1; omega
      have b1 : b < 48 := by have := kb.2.1; omega
      have hdg := (h.fw f w (sameR.refl r)).1.2.2.1.1
      rw [wi_farOf hdg.cp w ka.1 (by rw [hdg.2.2.1, hdg.2.2.2.1]; exact ka.2.1) kb.1 (by rw [hdg.2.2.1, hdg.2.2.2.1]; exact kb.2.1)]
      unfold wp_X14_far
      intro r1 e1
      subst e1
      have hR := h.fw f w (sameR.thrown r)
      rw [wi_isWater hs, if_pos ((ew a).mpr ka), if_neg (by decide), wi_isWater hs, if_pos ((ew b).mpr kb), if_pos (by decide)]
      have k0 := ka.1
      have k1 := kb.1
      rw [w32_eq (x := 48 * a) (by omega) (by omega), w32_eq (x := 48 * a + b) (by omega) (by omega), e30, (h.1.2.2.2.2.2.2.2.2.2.1 a b k0 a1 k1 b1).1]
      have eF : FC g = FA r := by rw [FC_congr f.at0 f.at1 (f.pond hd.1)]; exact FC_FA hd hg
      unfold cfar
      rw [eF]
      refine ⟨⟨by omega, by omega⟩, ?_⟩
      by_cases k9 : (FA r a b).1 = 999
      · rw [if_pos k9, if_neg (fun z => z k9)]
        exact ⟨rfl, hR⟩
      · rw [if_neg k9, if_pos k9]
        exact ⟨⟨by omega, by omega⟩, rfl, hR⟩
    · rw [if_neg kb, if_neg (fun z => z rfl)]
      exact no (fun z => kb z.2)
  · rw [if_neg ka, if_pos rfl]
    exact no (fun z => ka z.1)
theorem op_weak {q r : Mh} (a b : Int) (h : Rel q r) : wp_X13_weak a b q (fun x q' => wp_X14_weak a b r (fun y r' => x = y ∧ Rel q' r')) := by
  have hd := h.1.2.2.1.1
  have hg := h.1.2.2.2.1
  have hm := szs_mul hd.2.2.2.2.1.1
  have h0 : Rel q (up r 0 2 0) := h.thrown (sameR.thrown r)
  have hs : szs (up r 0 2 0 0 12) (up r 0 2 0 0 13) := by rw [up_slot (by decide), up_slot (by decide)]; exact hd.2.2.2.2.1.1
  have ew : ∀ c, wat (up r 0 2 0 0 12) (up r 0 2 0 0 13) (up r 0 2 0 5) c ↔ watR r c := by
    intro c
    rw [up_slot (by decide), up_slot (by decide), up_other (by decide)]
  have e30 : up r 0 2 0 30 = r 30 := up_other (by decide)
  have e31 : up r 0 2 0 31 = r 31 := up_other (by decide)
  unfold wp_X13_weak
  refine ⟨isP_4 hd.1, ?_⟩
  rw [wi_wet hd hg]
  have no : ¬ (watR r a ∧ watR r b) → wp_X14_weak a b r (fun y r' => -1 = y ∧ Rel q r') := by
    intro hn
    unfold wp_X14_weak
    intro r1 e1
    subst e1
    rw [wi_isWater hs]
    by_cases ka : watR r a
    · rw [if_pos ((ew a).mpr ka), if_neg (by decide), wi_isWater hs, if_neg (fun z => hn ⟨ka, (ew b).mp z⟩), if_neg (fun z => z rfl)]
      exact ⟨rfl, h0⟩
    · rw [if_neg (fun z => ka ((ew a).mp z)), if_pos rfl]
      exact ⟨rfl, h0⟩
  by_cases ka : watR r a
  · rw [if_pos ka, if_neg (by decide)]
    refine ⟨isP_4 hd.1, ?_⟩
    rw [wi_wet hd hg]
    by_cases kb : watR r b
    · rw [if_pos kb, if_pos (by decide)]
      refine sp_freshenWays hd.cp h.2.1 ?_
      intro g f z w
      have a1 : a < 48 := by have := ka.2.1; omega
      have b1 : b < 48 := by have := kb.2.1; omega
      have hdg := (h.fw f w (sameR.refl r)).1.2.2.1.1
      rw [wi_weakOf hdg.cp w ka.1 (by rw [hdg.2.2.1, hdg.2.2.2.1]; exact ka.2.1) kb.1 (by rw [hdg.2.2.1, hdg.2.2.2.1]; exact kb.2.1)]
      unfold wp_X14_weak
      intro r1 e1
      subst e1
      have hR := h.fw f w (sameR.thrown r)
      rw [wi_isWater hs, if_pos ((ew a).mpr ka), if_neg (by decide), wi_isWater hs, if_pos ((ew b).mpr kb), if_pos (by decide)]
      have k0 := ka.1
      have k1 := kb.1
      rw [w32_eq (x := 48 * a) (by omega) (by omega), w32_eq (x := 48 * a + b) (by omega) (by omega), e30, e31, (h.1.2.2.2.2.2.2.2.2.2.1 a b k0 a1 k1 b1).1, (h.1.2.2.2.2.2.2.2.2.2.1 a b k0 a1 k1 b1).2]
      have eF : FC g = FA r := by rw [FC_congr f.at0 f.at1 (f.pond hd.1)]; exact FC_FA hd hg
      rw [eF]
      refine ⟨⟨by omega, by omega⟩, ?_⟩
      by_cases k9 : (FA r a b).1 = 999
      · rw [if_pos k9, if_neg (fun z => z k9)]
        exact ⟨rfl, hR⟩
      · rw [if_neg k9, if_pos k9]
        exact ⟨⟨by omega, by omega⟩, rfl, hR⟩
    · rw [if_neg kb, if_neg (fun z => z rfl)]
      exact no (fun z => kb z.2)
  · rw [if_neg ka, if_pos rfl]
    exact no (fun z => ka z.1)
