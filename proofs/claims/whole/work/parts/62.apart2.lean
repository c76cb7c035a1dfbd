/-! ===== apart: both gather ===== -/
def okL (r : Mh) (L : Lf) : Prop := ∀ x ∈ L, (0 ≤ x.1 ∧ x.1 < r 0 14) ∧ 0 ≤ x.2 ∧ x.2 < r 0 12 * r 0 13
theorem okL.at {r : Mh} {L : Lf} (h : okL r L) {i : Nat} (hi : i < L.length) : (0 ≤ (L.getD i (0, 0)).1 ∧ (L.getD i (0, 0)).1 < r 0 14) ∧ 0 ≤ (L.getD i (0, 0)).2 ∧ (L.getD i (0, 0)).2 < r 0 12 * r 0 13 := by
  apply h
  rw [List.getD_eq_getElem?_getD, List.getElem?_eq_getElem hi]
  exact List.getElem_mem hi
theorem sp_gather {r g : Mh} {p n x : Int} {K : Int → Mh → Prop} (h : Core g r) (p0 : 0 ≤ p) (pm : p < ((2 ^ (r 0 14).toNat : Nat) : Int)) (n0 : 1 ≤ n) (n1 : n ≤ 6)
    (hk : ∀ g', frH g g' → (match gA r p x n.toNat 0 [] with | none => K 0 g' | some L => rowL (g' 138 3) (g' 139) (g' 140) L → K 1 g')) : wp_X2_gatherCompared p n x g K := by
  have hm := szs_mul h.2.2.1.1.2.2.2.2.1.1
  have h4 := h.2.2.1.2.2.1.2.1
  have h40 := h.2.2.1.2.2.1.1.2.1
  unfold wp_X2_gatherCompared wp_X1_clear
  intro g1 e1
  have inner : ∀ (m : Nat) (k i c sn : Int) (L : Lf) (u : Mh), 0 ≤ k → k + m = 4 → 0 ≤ i → i < 6 → L.length + m ≤ 24 → frH g u → rowL (u 138 3) (u 139) (u 140) L → (∀ u', frH g u' → rowL (u' 138 3) (u' 139) (u' 140) (gK p c m k L) → Lfp (F_X2_gatherCompared p n x K) (13, [sn, i + 1], u')) → Lfp (F_X2_gatherCompared p n x K) (74, [sn, i, c, k], u) := by
    intro m
    induction m with
    | zero =>
      intro k i c sn L u k0 hk i0 i1 hl hu hr hz
      apply L_X2_gatherCompared_74
      unfold B_X2_gatherCompared_74
      rw [if_pos (by omega)]
      intro y ey
      rw [w32_eq (by omega) (by omega)] at ey
      subst ey
      exact hz u hu hr
    | succ m ih =>
      intro k i c sn L u k0 hk i0 i1 hl hu hr hz
      apply L_X2_gatherCompared_74
      unfold B_X2_gatherCompared_74
      rw [if_neg (by omega)]
      unfold gK at hz
      by_cases b : kbt p k = true
      · have b' : ¬ j_and (j_ushr p k) 1 = 0 := of_decide_eq_true b
        rw [if_neg b']
        rw [if_pos b] at hz
        unfold wp_X1_add
        have s1 : (shC (138 + 1)).2 = 24 := rfl
        have s2 : (shC (138 + 2)).2 = 24 := rfl
        have s3 : (shC (138 + 3)).2 = 24 := rfl
        have hc := hr.1
        rw [if_neg (by omega), s1, if_neg (show ¬ ((24 : Nat) : Int) ≤ u 138 3 by omega)]
        refine ⟨⟨by omega, by omega⟩, ?_⟩
        intro u1 e1
        have m1 : u1 138 3 = u 138 3 := by rw [e1, up_other (by decide)]
        rw [m1, s2]
        refine ⟨⟨by omega, by omega⟩, ?_⟩
        intro u2 e2
        have m2 : u2 138 3 = u 138 3 := by rw [e2, up_other (by decide)]; exact m1
        rw [m2, s3]
        refine ⟨⟨by omega, by omega⟩, ?_⟩
        intro u3 e3
        have m3 : u3 138 3 = u 138 3 := by rw [e3, up_other (by decide)]; exact m2
        rw [m3, w32_eq (by omega) (by omega)]
        intro u4 e4 y ey
        rw [w32_eq (by omega) (by omega)] at ey
        subst ey
        refine ih (k + 1) i c sn (L ++ [(k, c)]) u4 (by omega) (by omega) i0 i1 (by rw [List.length_append]; simp only [List.length_cons, List.length_nil]; omega) (fun o ho => by rw [e4, up_other (by omega), e3, up_other (by omega), e2, up_other (by omega), e1, up_other (by omega), hu o ho]) ?_ hz
        refine hr.push (by rw [e4, up_self]) (fun j => ?_) (fun j => ?_)
        · rw [e4, up_other (by decide), e3, up_other (by decide), e2, up_other (by decide), e1]
          by_cases z : j = u 138 3
          · rw [if_pos z, z]; exact up_self
          · rw [if_neg z]; exact up_slot z
        · rw [e4, up_other (by decide), e3, up_other (by decide), e2]
          by_cases z : j = u 138 3
          · rw [if_pos z, z]; exact up_self
          · rw [if_neg z, show up u1 (138 + 2) (u 138 3) c 140 j = u1 140 j from up_slot z, e1, up_other (by decide)]
      · have b' : j_and (j_ushr p k) 1 = 0 := by
          by_cases z : j_and (j_ushr p k) 1 = 0
          · exact z
          · exact absurd (decide_eq_true z) b
        rw [if_pos b']
        rw [if_neg b] at hz
        intro y ey
        rw [w32_eq (by omega) (by omega)] at ey
        subst ey
        exact ih (k + 1) i c sn L u (by omega) (by omega) i0 i1 (by omega) hu hr hz
  have outer : ∀ (m : Nat) (i sn : Int) (L : Lf) (u : Mh), 0 ≤ i → i + m = n → L.length ≤ 4 * i → frH g u → rowL (u 138 3) (u 139) (u 140) L → (∀ c, 0 ≤ c → c < 48 → (bit sn c = true ↔ ∃ j, 0 ≤ j ∧ j < i ∧ cof x j = c)) → gA r p x m i L = gA r p x n.toNat 0 [] → Lfp (F_X2_gatherCompared p n x K) (13, [sn, i], u) := by
    intro m
    induction m with
    | zero =>
      intro i sn L u i0 hn hl hu hr hb hz
      apply L_X2_gatherCompared_13
      unfold B_X2_gatherCompared_13
      rw [if_pos (by omega)]
      have := hk u hu
      rw [← hz] at this
      exact this hr
    | succ m ih =>
      intro i sn L u i0 hn hl hu hr hb hz
      apply L_X2_gatherCompared_13
      unfold B_X2_gatherCompared_13
      rw [if_neg (by omega), w32_eq (x := 8 * i) (by omega) (by omega)]
      have hcu : Core u r := h.same hu.sc (sameR.refl r)
      intro c ec
      have ec2 : c = cof x i := ec
      refine ⟨isP_4 hcu.2.2.1.1.1, ?_⟩
      rw [wi_wet hcu.2.2.1.1 hcu.2.2.2.1]
      have hz2 : (if (wtb r (cof x i) && ndp x i) = true then gA r p x m (i + 1) (gK p (cof x i) 4 0 L) else none) = gA r p x n.toNat 0 [] := hz
      rw [← ec2] at hz2
      have fail : (wtb r c && ndp x i) = false → K 0 u := by
        intro hf
        rw [hf, if_neg (by decide)] at hz2
        have := hk u hu
        rw [← hz2] at this
        exact this
      by_cases hw : watR r c
      · rw [if_pos hw, if_neg (by decide)]
        have wt : wtb r c = true := decide_eq_true hw
        have c0 := hw.1
        have c1 : c < 48 := by have := hw.2.1; omega
        have bt := bit_test (x := sn) (k := c) c0 (by omega)
        have hnd : ndp x i = true ↔ bit sn c = false := by
          unfold ndp
          rw [allT_iff]
          constructor
          · intro hh
            cases z : bit sn c
            · rfl
            · obtain ⟨j, j0, j1, j2⟩ := (hb c c0 c1).mp z
              have := hh j j0 (by omega)
              have := of_decide_eq_true this
              rw [← ec2] at this
              exact absurd j2 this
          · intro hh j j0 j1
            refine decide_eq_true (fun e => ?_)
            have := (hb c c0 c1).mpr ⟨j, j0, by omega, by rw [e, ← ec2]⟩
            rw [hh] at this
            cases this
        by_cases bb : bit sn c = false
        · rw [if_pos (bt.mpr bb)]
          have nd : ndp x i = true := hnd.mpr bb
          rw [wt, nd, if_pos (by decide)] at hz2
          intro s2 es2
          have gl := gK_len (p := p) (c := c) 4 0 L
          refine inner 4 0 i c s2 L u (by omega) (by omega) i0 (by omega) (by omega) hu hr ?_
          intro u' hu' hr'
          refine ih (i + 1) s2 (gK p c 4 0 L) u' (by omega) (by omega) (by omega) hu' hr' (fun d d0 d1 => ?_) hz2
          rw [es2, bit_add c0 (by omega) d0 (by omega)]
          constructor
          · intro hh
            rw [Bool.or_eq_true] at hh
            rcases hh with z | z
            · obtain ⟨j, j0, j1, j2⟩ := (hb d d0 d1).mp z
              exact ⟨j, j0, by omega, j2⟩
            · exact ⟨i, i0, by omega, by rw [of_decide_eq_true z, ec2]⟩
          · rintro ⟨j, j0, j1, j2⟩
            rw [Bool.or_eq_true]
            by_cases z : j = i
            · right
              rw [z, ← ec2] at j2
              exact decide_eq_true j2.symm
            · left
              exact (hb d d0 d1).mpr ⟨j, j0, by omega, j2⟩
        · rw [if_neg (fun z => bb (bt.mp z))]
          refine fail ?_
          rw [wt]
          cases z : ndp x i
          · rfl
          · exact absurd (hnd.mp z) bb
      · rw [if_neg hw, if_pos rfl]
        refine fail ?_
        have : wtb r c = false := decide_eq_false hw
        rw [this]; rfl
  refine outer n.toNat 0 0 [] g1 (by omega) (by omega) (by simp) (fun o ho => by rw [e1, up_other (by omega)]) ⟨by rw [e1, up_self]; rfl, fun i hi => absurd hi (by simp)⟩ (fun c c0 c1 => ?_) rfl
  rw [bit_zero]
  constructor
  · intro z; cases z
  · rintro ⟨j, j0, j1, _⟩; omega
theorem gA_ok {r : Mh} {p x : Int} (hs : szs (r 0 12) (r 0 13)) (p0 : 0 ≤ p) (m0 : 0 ≤ r 0 14) (m4 : r 0 14 ≤ 4) (pm : p < ((2 ^ (r 0 14).toNat : Nat) : Int)) : ∀ (n : Nat) (i : Int) (L L' : Lf), okL r L → L.length ≤ 4 * i → gA r p x n i L = some L' → okL r L' ∧ (L'.length : Int) ≤ 4 * (i + n) := by
  intro n
  induction n with
  | zero =>
    intro i L L' h hl e
    have e2 : L = L' := Option.some.inj e
    rw [← e2]
    exact ⟨h, by omega⟩
  | succ n ih =>
    intro i L L' h hl e
    have e2 : (if (wtb r (cof x i) && ndp x i) = true then gA r p x n (i + 1) (gK p (cof x i) 4 0 L) else none) = some L' := e
    have hm := szs_mul hs
    split at e2
    · rename_i hh
      rw [Bool.and_eq_true] at hh
      have hw : watR r (cof x i) := of_decide_eq_true hh.1
      have gl := gK_len (p := p) (c := cof x i) 4 0 L
      have := ih (i + 1) _ L' ?_ (by omega) e2
      · exact ⟨this.1, by have := this.2; omega⟩
      · rw [gK_kinds p0 m0 m4 pm]
        exact gK_mem _ 0 L h (fun j a b => ⟨⟨a, by omega⟩, hw.1, hw.2.1⟩)
    · cases e2
/-- the reference lays the falls and what corks show of them -/
def shownOK (r : Mh) (u : Mh) (L : Lf) : Prop := ∀ i : Nat, i < L.length → ∀ k t, 0 ≤ k → k < r 0 15 → 0 ≤ t → t < 31 → u 36 (186 * i + 31 * k + t) = rgiv r (L.getD i (0, 0)).1 (L.getD i (0, 0)).2 (r 14 k) t
theorem shownOK.push {r u v : Mh} {L : Lf} {y : Int × Int} (h : shownOK r u L) (h1 : ∀ j, ¬ (186 * (L.length : Int) ≤ j ∧ j < 186 * L.length + 186) → v 36 j = u 36 j) (h2 : ∀ k t, 0 ≤ k → k < r 0 15 → 0 ≤ t → t < 31 → v 36 (186 * L.length + 31 * k + t) = rgiv r y.1 y.2 (r 14 k) t) (h6 : r 0 15 ≤ 6) : shownOK r v (L ++ [y]) := by
  intro i hi k t k0 k1 t0 t1
  rw [List.length_append] at hi
  simp only [List.length_cons, List.length_nil] at hi
  by_cases z : i < L.length
  · rw [List.getD_eq_getElem?_getD, List.getElem?_append_left z, ← List.getD_eq_getElem?_getD, h1 _ (by omega)]
    exact h i z k t k0 k1 t0 t1
  · have ei : i = L.length := by omega
    rw [ei, List.getD_eq_getElem?_getD, List.getElem?_append_right (Nat.le_refl _)]
    simp only [Nat.sub_self, List.getElem?_cons_zero, Option.getD_some]
    exact h2 k t k0 k1 t0 t1
theorem sp_layFalls {q r u : Mh} {p n x : Int} {K : Int → Mh → Prop} (h : Core q r) (hr : sameR r u) (p0 : 0 ≤ p) (pm : p < ((2 ^ (r 0 14).toNat : Nat) : Int)) (n0 : 1 ≤ n) (n1 : n ≤ 6)
    (hk : ∀ u', sameR r u' → (match gA r p x n.toNat 0 [] with | none => K 0 u' | some L => rowL (u' 0 94) (u' 37) (u' 38) L → shownOK r u' L → K 1 u')) : Lfp (F_X14_layFalls p n x K) (34, [0], up u 0 94 0) := by
  have hs := h.2.2.1.1.2.2.2.2.1.1
  have hm := szs_mul hs
  have h4 := h.2.2.1.2.2.1.2.1
  have h40 := h.2.2.1.2.2.1.1.2.1
  have h6 := h.2.2.1.2.2.2.1.2.1
  have p16 : p < 16 := by
    have : (2 ^ (r 0 14).toNat : Nat) ≤ 16 := Nat.le_trans (Nat.pow_le_pow_right (by decide) (show (r 0 14).toNat ≤ 4 by omega)) (by decide)
    omega
  let St : Lf → Mh → Prop := fun L u => sameR r u ∧ rowL (u 0 94) (u 37) (u 38) L ∧ shownOK r u L
  have inner : ∀ (m : Nat) (k i c : Int) (L : Lf) (s : Mh), 0 ≤ k → k + m = r 0 14 → 0 ≤ i → i < 6 → 0 ≤ c → c < 48 → L.length + m ≤ 24 → St L s → (∀ s', St (gK p c m k L) s' → Lfp (F_X14_layFalls p n x K) (34, [i + 1], s')) → Lfp (F_X14_layFalls p n x K) (103, [i, c, k], s) := by
    intro m
    induction m with
    | zero =>
      intro k i c L s k0 hk i0 i1 c0 c1 hl hS hz
      apply L_X14_layFalls_103
      unfold B_X14_layFalls_103
      rw [hS.1 0 14 (by decide) (by decide), if_pos (by omega)]
      intro y ey
      rw [w32_eq (by omega) (by omega)] at ey
      subst ey
      exact hz s hS
    | succ m ih =>
      intro k i c L s k0 hk i0 i1 c0 c1 hl hS hz
      apply L_X14_layFalls_103
      unfold B_X14_layFalls_103 wp_X14_isOf
      rw [hS.1 0 14 (by decide) (by decide), if_neg (by omega)]
      unfold gK at hz
      have kb := (kbt_all p.toNat (by omega) k.toNat (by omega)).1
      rw [show ((p.toNat : Nat) : Int) = p by omega, show ((k.toNat : Nat) : Int) = k by omega] at kb
      by_cases b : kbt p k = true
      · rw [if_neg (fun z => z (kb.mp b))]
        dsimp only
        rw [if_pos (by decide)]
        rw [if_pos b] at hz
        have hc := hS.2.1.1
        refine ⟨⟨by omega, by omega⟩, ?_⟩
        intro s1 e1
        have m1 : s1 0 94 = s 0 94 := by rw [e1, up_other (by decide)]
        rw [m1]
        refine ⟨⟨by omega, by omega⟩, ?_⟩
        intro s2 e2
        have m2 : s2 0 94 = s 0 94 := by rw [e2, up_other (by decide)]; exact m1
        rw [m2]
        have hr2 : sameR r s2 := fun o j a b => by rw [e2, up_ne _ (by omega), e1, up_ne _ (by omega), hS.1 o j a b]
        have v37 : s2 37 (s 0 94) = k := by rw [e2, up_other (by decide), e1, up_self]
        have v38 : s2 38 (s 0 94) = c := by rw [e2, up_self]
        refine sp_layShown h hr2 (by omega) (by omega) (by rw [v37]; exact k0) (by rw [v37]; omega) (by rw [v38]; exact c0) (by rw [v38]; exact c1) ?_
        intro s3 f3 w3 x3
        rw [v37, v38] at w3
        have m3 : s3 0 94 = s 0 94 := by rw [f3 0 (by decide)]; exact m2
        rw [m3, w32_eq (by omega) (by omega)]
        intro s4 e4 y ey
        rw [w32_eq (by omega) (by omega)] at ey
        subst ey
        refine ih (k + 1) i c (L ++ [(k, c)]) s4 (by omega) (by omega) i0 i1 c0 c1 (by rw [List.length_append]; simp only [List.length_cons, List.length_nil]; omega) ⟨fun o j a b => ?_, ?_, ?_⟩ hz
        · rw [e4, up_ne _ (by omega), f3 o (by omega), hr2 o j a b]
        · refine hS.2.1.push (by rw [e4, up_self]) (fun j => ?_) (fun j => ?_)
          · rw [e4, up_other (by decide), f3 37 (by decide), e2, up_other (by decide), e1]
            by_cases z : j = s 0 94
            · rw [if_pos z, z, up_self]
            · rw [if_neg z, up_slot z]
          · rw [e4, up_other (by decide), f3 38 (by decide), e2]
            by_cases z : j = s 0 94
            · rw [if_pos z, z, up_self]
            · rw [if_neg z, up_slot z, e1, up_other (by decide)]
        · rw [hc] at w3 x3
          refine hS.2.2.push (fun j hj => ?_) (fun k' t k0 k1 t0 t1 => ?_) h6
          · rw [e4, up_other (by decide), x3 j hj, e2, up_other (by decide), e1, up_other (by decide)]
          · rw [e4, up_other (by decide)]
            exact w3 k' t k0 k1 t0 t1
      · rw [if_pos (fun z => b (kb.mpr z))]
        dsimp only
        rw [if_neg (fun z => z rfl)]
        rw [if_neg b] at hz
        intro y ey
        rw [w32_eq (by omega) (by omega)] at ey
        subst ey
        exact ih (k + 1) i c L s (by omega) (by omega) i0 i1 c0 c1 (by omega) hS hz
  have dup : ∀ (m : Nat) (j i c : Int) (L : Lf) (s : Mh), 0 ≤ j → j + m = i → i < 6 → (allT (fun j => decide (¬ cof x j = c)) m j = false → K 0 s) → (allT (fun j => decide (¬ cof x j = c)) m j = true → Lfp (F_X14_layFalls p n x K) (103, [i, c, 0], s)) → Lfp (F_X14_layFalls p n x K) (68, [i, c, j], s) := by
    intro m
    induction m with
    | zero =>
      intro j i c L s j0 hj i1 _ hz
      apply L_X14_layFalls_68
      unfold B_X14_layFalls_68
      rw [if_pos (by omega)]
      exact hz rfl
    | succ m ih =>
      intro j i c L s j0 hj i1 hf hz
      apply L_X14_layFalls_68
      unfold B_X14_layFalls_68
      rw [if_neg (by omega), w32_eq (x := 8 * j) (by omega) (by omega), cof_eq j0 (by omega)]
      unfold allT at hf hz
      by_cases e : cof x j = c
      · rw [if_neg (fun z => z e)]
        refine hf ?_
        rw [decide_eq_false (fun z => z e)]; rfl
      · rw [if_pos e]
        rw [decide_eq_true e, Bool.true_and] at hf hz
        intro y ey
        rw [w32_eq (by omega) (by omega)] at ey
        subst ey
        exact ih (j + 1) i c L s (by omega) (by omega) i1 hf hz
  have outer : ∀ (m : Nat) (i : Int) (L : Lf) (s : Mh), 0 ≤ i → i + m = n → L.length ≤ 4 * i → St L s → gA r p x m i L = gA r p x n.toNat 0 [] → Lfp (F_X14_layFalls p n x K) (34, [i], s) := by
    intro m
    induction m with
    | zero =>
      intro i L s i0 hn hl hS hz
      apply L_X14_layFalls_34
      unfold B_X14_layFalls_34
      rw [if_pos (by omega)]
      have := hk s hS.1
      rw [← hz] at this
      exact this hS.2.1 hS.2.2
    | succ m ih =>
      intro i L s i0 hn hl hS hz
      apply L_X14_layFalls_34
      unfold B_X14_layFalls_34
      rw [if_neg (by omega), w32_eq (x := 8 * i) (by omega) (by omega), cof_eq i0 (by omega)]
      intro c ec
      have hss : szs (s 0 12) (s 0 13) := by rw [hS.1 0 12 (by decide) (by decide), hS.1 0 13 (by decide) (by decide)]; exact hs
      have hz2 : (if (wtb r (cof x i) && ndp x i) = true then gA r p x m (i + 1) (gK p (cof x i) 4 0 L) else none) = gA r p x n.toNat 0 [] := hz
      have fail : (wtb r (cof x i) && ndp x i) = false → K 0 s := by
        intro hf
        rw [hf, if_neg (by decide)] at hz2
        have := hk s hS.1
        rw [← hz2] at this
        exact this
      rw [wi_isWater hss, hS.1 0 12 (by decide) (by decide), hS.1 0 13 (by decide) (by decide), hS.1.row (o := 5) (by decide) (by decide)]
      by_cases hw : watR r c
      · rw [if_pos hw, if_pos (by decide)]
        have wt : wtb r (cof x i) = true := by rw [← ec]; exact decide_eq_true hw
        have nde : ndp x i = allT (fun j => decide (¬ cof x j = c)) i.toNat 0 := by unfold ndp; rw [← ec]
        have c1 : c < 48 := by have := hw.2.1; omega
        refine dup i.toNat 0 i c L s (by omega) (by omega) (by omega) (fun hf => fail (by rw [wt, nde, hf]; rfl)) (fun ht => ?_)
        rw [wt, nde, ht, if_pos (by decide), ← ec, gK_kinds p0 h40 h4 pm] at hz2
        have gl := gK_len (p := p) (c := c) (r 0 14).toNat 0 L
        refine inner (r 0 14).toNat 0 i c L s (by omega) (by omega) i0 (by omega) hw.1 c1 (by omega) hS ?_
        intro s' hS'
        exact ih (i + 1) _ s' (by omega) (by omega) (by omega) hS' hz2
      · rw [if_neg hw, if_neg (fun z => z rfl)]
        refine fail ?_
        have : wtb r (cof x i) = false := by rw [← ec]; exact decide_eq_false hw
        rw [this]; rfl
  refine outer n.toNat 0 [] (up u 0 94 0) (by omega) (by omega) (by simp) ⟨fun o j a b => by rw [up_ne _ (by omega), hr o j a b], ⟨by rw [up_self]; rfl, fun i hi => absurd hi (by simp)⟩, fun i hi => absurd hi (by simp)⟩ rfl
