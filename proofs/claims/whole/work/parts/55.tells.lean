/-! ===== whether a drop tells what the notes tell ===== -/
def allT (P : Int → Bool) : Nat → Int → Bool
  | 0, _ => true
  | n + 1, i => P i && allT P n (i + 1)
theorem allT_iff {P : Int → Bool} : ∀ (n : Nat) (i : Int), allT P n i = true ↔ ∀ j, i ≤ j → j < i + n → P j = true := by
  intro n
  induction n with
  | zero => intro i; exact ⟨fun _ j a b => by omega, fun _ => rfl⟩
  | succ n ih =>
    intro i
    unfold allT
    rw [Bool.and_eq_true, ih (i + 1)]
    constructor
    · rintro ⟨a, b⟩ j j0 j1
      by_cases z : j = i
      · rw [z]; exact a
      · exact b j (by omega) (by omega)
    · intro h
      exact ⟨h i (by omega) (by omega), fun j a b => h j (by omega) (by omega)⟩
def b01 (b : Bool) : Int := if b = true then 1 else 0
def okN (r : Mh) (k a s i : Int) : Bool := decide (rgiv r k a (r 14 (r 34 (3 * i))) (r 34 (3 * i + 1) - s) = r 34 (3 * i + 2))
def tl (r : Mh) (k a s : Int) : Bool := allT (fun i => !(kept r i) || okN r k a s i) (kby r).toNat 0
theorem rgiv_sameR {r s : Mh} (hr : sameR r s) : rgiv s = rgiv r := by
  funext k a c n
  unfold rgiv
  rw [FA_sameR hr, hr.row (o := 10) (by decide) (by decide), hr.row (o := 12) (by decide) (by decide), hr.row (o := 32) (by decide) (by decide), hr 0 23 (by decide) (by decide), hr 0 77 (by decide) (by decide)]
theorem kby_sameR {r s : Mh} (hr : sameR r s) : kby s = kby r := by
  unfold kby
  rw [hr 0 85 (by decide) (by decide), hr 0 84 (by decide) (by decide)]
/-- a note that tells: its cork, step, rise -/
theorem kept_note {q r : Mh} (h : Core q r) {i : Int} (i0 : 0 ≤ i) (i1 : i < kby r) (hk : kept r i = true) : r 34 (3 * i) = q 108 i ∧ 0 ≤ q 108 i ∧ q 108 i < r 0 15 ∧ r 34 (3 * i + 1) = q 109 i ∧ 0 ≤ q 109 i ∧ q 109 i < 200 ∧ r 34 (3 * i + 2) = q 110 i := by
  have hN := h.2.2.2.2.2.2.2.1
  have hb := kby_r hN
  have h34 : 0 ≤ r 34 (3 * i) := by
    unfold kept at hk
    rw [Bool.and_eq_true] at hk
    exact of_decide_eq_true hk.2
  rcases hN.2.2.2.2.2.2 i i0 (by omega) with ⟨_, b, c, d, e, f, g, k⟩ | ⟨a, b, c, d⟩
  · exact ⟨b, c, d, e, f, g, k⟩
  · omega
theorem sp_tells {q r s : Mh} {k a t : Int} {K : Int → Mh → Prop} (h : Core q r) (hr : sameR r s) (hc : ∀ i, 0 ≤ i → i < kby r → (s 35 i = 0 ↔ kept r i = false)) (k0 : 0 ≤ k) (k1 : k < r 0 14) (a0 : 0 ≤ a) (a1 : a < 48) (t0 : 0 ≤ t) (t1 : t ≤ 100) (hK : K (b01 (tl r k a t)) s) : wp_X14_tells k a t s K := by
  have hN := h.2.2.2.2.2.2.2.1
  have hb := kby_r hN
  have hm := szs_mul h.2.2.1.1.2.2.2.2.1.1
  have hC := h.2.2.1.2.2.2.1
  have h6 := hC.2.1
  have ro := h.ro.thrown hr
  have loop : ∀ (n : Nat) (i : Int), 0 ≤ i → i + n = kby r → K (b01 (allT (fun i => !(kept r i) || okN r k a t i) n i)) s → Lfp (F_X14_tells k a t K) (3, [i], s) := by
    intro n
    induction n with
    | zero =>
      intro i i0 hn hK
      apply L_X14_tells_3
      unfold B_X14_tells_3
      rw [wi_knownByR, kby_sameR hr, if_pos (by omega)]
      exact hK
    | succ n ih =>
      intro i i0 hn hK
      apply L_X14_tells_3
      unfold B_X14_tells_3
      rw [wi_knownByR, kby_sameR hr, if_neg (by omega)]
      refine ⟨⟨i0, by omega⟩, ?_⟩
      have hci := hc i i0 (by omega)
      unfold allT at hK
      by_cases z : s 35 i = 0
      · rw [if_pos z]
        intro x ex
        rw [w32_eq (by omega) (by omega)] at ex
        subst ex
        refine ih (i + 1) (by omega) (by omega) ?_
        rw [hci.mp z] at hK
        simpa using hK
      · rw [if_neg z]
        have hkt : kept r i = true := by
          cases y : kept r i
          · exact absurd (hci.mpr y) z
          · rfl
        obtain ⟨n1, n2, n3, n4, n5, n6, n7⟩ := kept_note h i0 (by omega) hkt
        have hw := hC.2.2.2 (q 108 i) n2 n3
        rw [w32_eq (x := 3 * i) (by omega) (by omega), w32_eq (x := 3 * i + 1) (by omega) (by omega), w32_eq (x := 3 * i + 2) (by omega) (by omega), hr.row (o := 34) (by decide) (by decide), hr.row (o := 14) (by decide) (by decide), n1, n4]
        refine ⟨⟨by omega, by omega⟩, ⟨n2, by omega⟩, ⟨by omega, by omega⟩, ?_⟩
        rw [w32_eq (x := q 109 i - t) (by omega) (by omega)]
        refine rgives ro k0 (by rw [hr 0 14 (by decide) (by decide)]; exact k1) a0 a1 hw.1 (by have := hw.2.1; omega) (by omega) (by omega) ?_
        rw [hr.row (o := 34) (by decide) (by decide), n7, rgiv_sameR hr]
        refine ⟨⟨by omega, by omega⟩, ?_⟩
        have eo : okN r k a t i = decide (rgiv r k a (r 14 (q 108 i)) (q 109 i - t) = q 110 i) := by unfold okN; rw [n1, n4, n7]
        rw [hkt, eo] at hK
        by_cases y : rgiv r k a (r 14 (q 108 i)) (q 109 i - t) = q 110 i
        · rw [if_pos y]
          rw [decide_eq_true y] at hK
          intro x ex
          rw [w32_eq (by omega) (by omega)] at ex
          subst ex
          exact ih (i + 1) (by omega) (by omega) (by simpa using hK)
        · rw [if_neg y]
          rw [decide_eq_false y] at hK
          simpa [b01] using hK
  unfold wp_X14_tells
  exact loop (kby r).toNat 0 (by omega) (by omega) hK
theorem isP_27 {p : Int} (h : isP p) : (shC (p + 27 + 1)).2 = 6 := by rcases h with e | e <;> rw [e] <;> decide
theorem sp_isTale {r g : Mh} {k a t : Int} {K : Int → Mh → Prop} (h : Core g r) (w : waysOK g) (hs : sightsOK r g) (k0 : 0 ≤ k) (k1 : k < r 0 14) (a0 : 0 ≤ a) (a1 : a < r 0 12 * r 0 13) (t0 : 0 ≤ t) (t1 : t ≤ 100) (hK : K (b01 (tl r k a t)) g) : wp_X2_isTale k a t 113 g K := by
  have hd := h.2.2.1.1
  have hN := h.2.2.2.2.2.2.2.1
  have hb := kby_r hN
  have hm := szs_mul hd.2.2.2.2.1.1
  have hC := h.2.2.1.2.2.2.1
  have hKn := h.2.2.1.2.2.1
  have h4 := hKn.2.1
  have h6 := hC.2.1
  obtain ⟨s0, s1, s2, s3⟩ := hs
  have eq : tl r k a t = allT (fun j => okN r k a t (g 114 j)) (g 113 1).toNat 0 := by
    rw [Bool.eq_iff_iff]
    unfold tl
    rw [allT_iff, allT_iff]
    constructor
    · intro hh j j0 j1
      obtain ⟨p1, p2, p3⟩ := s2 j j0 (by omega)
      have := hh (g 114 j) p1 (by omega)
      rw [p3] at this
      simpa using this
    · intro hh i i0 i1
      cases y : kept r i
      · rfl
      · obtain ⟨j, j0, j1, j2⟩ := s3 i i0 (by omega) y
        have := hh j j0 (by omega)
        rw [j2] at this
        simp [this]
  have loop : ∀ (n : Nat) (i : Int), 0 ≤ i → i + n = g 113 1 → K (b01 (allT (fun j => okN r k a t (g 114 j)) n i)) g → Lfp (F_X2_isTale k a t 113 K) (3, [i], g) := by
    intro n
    induction n with
    | zero =>
      intro i i0 hn hK
      apply L_X2_isTale_3
      unfold B_X2_isTale_3
      refine ⟨rfl, ?_⟩
      rw [if_pos (by omega)]
      exact hK
    | succ n ih =>
      intro i i0 hn hK
      apply L_X2_isTale_3
      unfold B_X2_isTale_3
      refine ⟨rfl, ?_⟩
      have e32 : (shC (113 + 1)).2 = 32 := rfl
      rw [if_neg (by omega), wi_orZero (by rw [e32]; exact s1)]
      have er : rsf (g 113 1) (g (113 + 1)) i = g 114 i := by unfold rsf; rw [if_neg (by omega), if_neg (by omega)]; rfl
      rw [er]
      obtain ⟨p1, p2, p3⟩ := s2 i i0 (by omega)
      obtain ⟨n1, n2, n3, n4, n5, n6, n7⟩ := kept_note h p1 p2 p3
      have hw := hC.2.2.2 _ n2 n3
      intro x ex
      rw [if_neg (by omega)] at ex
      subst ex
      refine ⟨isP_4 hd.1, ⟨p1, by omega⟩, ?_⟩
      rw [wi_orZero (by rw [hC.2.2.1.1, isP_27 hd.1]; exact h6), hC.2.2.1.rf]
      have er2 : rsf (r 0 15) (fun j => r 14 (0 + j)) (g 108 (g 114 i)) = r 14 (g 108 (g 114 i)) := by unfold rsf; rw [if_neg (by omega), if_neg (by omega)]; simp
      rw [er2]
      refine ⟨⟨p1, by omega⟩, ?_⟩
      intro y ey
      rw [w32_eq (by omega) (by omega)] at ey
      subst ey
      refine ⟨isP_4 hd.1, ?_⟩
      refine sp_alone hd.cp w h.cs k0 (by omega) (hKn.kc k0 k1) (h.2.2.1.2.1.rs hd) a0 (hd.cl a1) hw.1 (hd.cl hw.2.1) (by omega) (by omega) ?_
      rw [cgiv_rgiv h.2.2.1 h.2.2.2.1 k0 k1]
      refine ⟨⟨p1, by omega⟩, ?_⟩
      unfold allT at hK
      have eo : okN r k a t (g 114 i) = decide (rgiv r k a (r 14 (g 108 (g 114 i))) (g 109 (g 114 i) - t) = g 110 (g 114 i)) := by unfold okN; rw [n1, n4, n7]
      rw [eo] at hK
      by_cases y : rgiv r k a (r 14 (g 108 (g 114 i))) (g 109 (g 114 i) - t) = g 110 (g 114 i)
      · rw [if_pos y]
        rw [decide_eq_true y] at hK
        intro x ex
        rw [w32_eq (by omega) (by omega)] at ex
        subst ex
        exact ih (i + 1) (by omega) (by omega) (by simpa using hK)
      · rw [if_neg y]
        rw [decide_eq_false y] at hK
        simpa [b01] using hK
  unfold wp_X2_isTale
  refine loop (g 113 1).toNat 0 (by omega) (by omega) ?_
  rw [← eq]
  exact hK
/-! ===== all the tales ===== -/
abbrev T3 : Type := Int × Int × Int
/-- how many, the one asked for, the likeliest -/
def tstep (w : Int) (od : Int → Int) (k x : Int) (S : T3) : T3 := (S.1 + 1, if S.1 = w then x else S.2.1, if S.2.2 < 0 ∨ od (S.2.2 / 1008) < od k then x else S.2.2)
def t3 (w : Int) (od : Int → Int) (ok : Int → Bool) (k a : Int) : Nat → Int → T3 → T3
  | 0, _, S => S
  | n + 1, s, S => t3 w od ok k a n (s + 1) (if ok s = true then tstep w od k (1008 * k + 21 * a + s) S else S)
def t2 (w : Int) (od : Int → Int) (wt : Int → Bool) (ok : Int → Int → Bool) (k : Int) : Nat → Int → T3 → T3
  | 0, _, S => S
  | n + 1, a, S => t2 w od wt ok k n (a + 1) (if wt a = true then t3 w od (ok a) k a 21 0 S else S)
def t1 (w : Int) (od : Int → Int) (wt : Int → Bool) (ok : Int → Int → Int → Bool) (c : Nat) : Nat → Int → T3 → T3
  | 0, _, S => S
  | n + 1, k, S => t1 w od wt ok c n (k + 1) (t2 w od wt (ok k) k c 0 S)
/-- a tale told by a number -/
def isT (r : Mh) (x : Int) : Prop := 0 ≤ x ∧ x < 1008 * r 0 14
def wtr (r : Mh) (a : Int) : Bool := decide (¬ r 5 a = 2)
def frT (r s : Mh) : Prop := ∀ o j, ¬ (o = 0 ∧ 88 ≤ j ∧ j ≤ 90) → s o j = r o j
theorem frT.sc {r s : Mh} (h : frT r s) : sameR r s := fun o j a b => h o j (by omega)
theorem sp_layTales {q r s : Mh} {w : Int} {K : Mh → Prop} (h : Core q r) (hr : sameR r s) (hk : ∀ u S, S = t1 w (r 11) (wtr r) (tl r) (r 0 12 * r 0 13).toNat (r 0 14).toNat 0 (0, -1, -1) → sameR r u → u 0 88 = S.1 → u 0 89 = S.2.1 → u 0 90 = S.2.2 → K u) : wp_X14_layTales w s K := by
  have hN := h.2.2.2.2.2.2.2.1
  have hd := h.2.2.1.1
  have hm := szs_mul hd.2.2.2.2.1.1
  have hKn := h.2.2.1.2.2.1
  have h4 := hKn.2.1
  have h4' := hKn.1.2.1
  -- notes of s are those of r
  have hNs : RNotes q s := hN.same (fun _ _ _ => rfl) (hr.row (by decide) (by decide)) (hr 0 15 (by decide) (by decide)) (hr 0 84 (by decide) (by decide)) (hr 0 85 (by decide) (by decide))
  have kk : kby s = kby r := kby_sameR hr
  have kept_eq : ∀ i, kept s i = kept r i := by
    intro i
    unfold kept
    rw [hr.row (o := 34) (by decide) (by decide), kk]
  unfold wp_X14_layTales
  refine sp_layCounts hNs ?_
  intro u0 f0 c0 u1 e1 u2 e2 u3 e3
  have hr0 : sameR r u0 := hr.trans f0.sc
  have c0' : ∀ i, 0 ≤ i → i < kby r → (u0 35 i = 0 ↔ kept r i = false) := fun i a b => by rw [← kept_eq]; exact c0 i a (by rw [kk]; exact b)
  -- from u0 on only the three numbers change
  let St : T3 → Mh → Prop := fun S u => frT u0 u ∧ u 0 88 = S.1 ∧ u 0 89 = S.2.1 ∧ u 0 90 = S.2.2 ∧ 0 ≤ S.1 ∧ (S.2.2 < 0 ∨ isT r S.2.2)
  let fin : T3 → Prop := fun S => S = t1 w (r 11) (wtr r) (tl r) (r 0 12 * r 0 13).toNat (r 0 14).toNat 0 (0, -1, -1)
  have steps : ∀ (n : Nat) (k a t : Int) (S : T3) (u : Mh), 0 ≤ k → k < r 0 14 → 0 ≤ a → a < r 0 12 * r 0 13 → 0 ≤ t → t + n = 21 → ¬ r 5 a = 2 → S.1 + n ≤ 1000000 → St S u → (∀ S' u', S' = t3 w (r 11) (tl r k a) k a n t S → S'.1 ≤ S.1 + n → St S' u' → Lfp (F_X14_layTales w K) (31, [k, a + 1], u')) → Lfp (F_X14_layTales w K) (42, [k, a, t], u) := by
    intro n
    induction n with
    | zero =>
      intro k a t S u k0 k1 a0 a1 t0 hn hg hc hS hz
      apply L_X14_layTales_42
      unfold B_X14_layTales_42
      rw [if_pos (by omega)]
      intro x ex
      rw [w32_eq (by omega) (by omega)] at ex
      subst ex
      exact hz S u rfl (by omega) hS
    | succ n ih =>
      intro k a t S u k0 k1 a0 a1 t0 hn hg hc hS hz
      apply L_X14_layTales_42
      unfold B_X14_layTales_42
      obtain ⟨f, v1, v2, v3, v4, v5⟩ := id hS
      have e5 : u 5 a = r 5 a := by rw [f 5 a (by omega), hr0 5 a (by decide) (by omega)]
      rw [if_neg (by omega), e5]
      refine ⟨⟨a0, by omega⟩, ?_⟩
      rw [if_neg hg]
      have hru : sameR r u := hr0.trans f.sc
      refine sp_tells h hru (fun i i0 i1 => by rw [f 35 i (by omega)]; exact c0' i i0 i1) k0 k1 a0 (by omega) t0 (by omega) ?_
      unfold t3 at hz
      have nn : ((n + 1 : Nat) : Int) = n + 1 := by omega
      by_cases b : tl r k a t = true
      · rw [b]
        rw [if_pos (by decide)]
        intro x ex
        rw [w32_eq (x := 1008 * k) (by omega) (by omega), w32_eq (x := 21 * a) (by omega) (by omega), w32_eq (x := 1008 * k + 21 * a) (by omega) (by omega), w32_eq (by omega) (by omega)] at ex
        -- the numbers behind this tale
        have go : ∀ y, y = (if S.1 = w then x else S.2.1) → Lfp (F_X14_layTales w K) (106, [k, a, t, x, y], u) := by
          intro y ey
          apply L_X14_layTales_106
          unfold B_X14_layTales_106
          intro u4 e4
          have g90 : u4 0 90 = S.2.2 := by rw [e4, up_slot (by decide)]; exact v3
          have g88 : u4 0 88 = S.1 := by rw [e4, up_slot (by decide)]; exact v1
          have last : ∀ z, z = (if S.2.2 < 0 ∨ r 11 (S.2.2 / 1008) < r 11 k then x else S.2.2) → ∀ u5, u5 = up u4 0 90 z → ∀ u6, u6 = up u5 0 88 (w32 (u5 0 88 + 1)) → ∀ m : Int, m = w32 (t + 1) → Lfp (F_X14_layTales w K) (42, [k, a, m], u6) := by
            intro z ez u5 e5 u6 e6 m em
            rw [w32_eq (by omega) (by omega)] at em
            subst em
            have g5 : u5 0 88 = S.1 := by rw [e5, up_slot (by decide)]; exact g88
            rw [g5, w32_eq (by omega) (by omega)] at e6
            refine ih k a (t + 1) (tstep w (r 11) k (1008 * k + 21 * a + t) S) u6 k0 k1 a0 a1 (by omega) (by omega) hg (by show S.1 + 1 + n ≤ 1000000; omega) ⟨?_, ?_, ?_, ?_, ?_, ?_⟩ (fun S' u' h1 h2 h3 => hz S' u' (by rw [if_pos b]; exact h1) (by have h2' : S'.1 ≤ S.1 + 1 + n := h2; omega) h3)
            · intro o j ho
              rw [e6, up_ne _ (by omega), e5, up_ne _ (by omega), e4, up_ne _ (by omega), f o j ho]
            · rw [e6, up_self]; rfl
            · rw [e6, up_slot (by decide), e5, up_slot (by decide), e4, up_self, ey, ex]; rfl
            · rw [e6, up_slot (by decide), e5, up_self, ez, ex]; rfl
            · show 0 ≤ S.1 + 1; omega
            · unfold tstep
              dsimp only
              split
              · right; exact ⟨by omega, by omega⟩
              · exact v5
          rw [g90]
          by_cases n9 : S.2.2 < 0
          · rw [if_pos n9]
            exact last x (by rw [if_pos (Or.inl n9)])
          · rw [if_neg n9]
            have iT : isT r S.2.2 := by rcases v5 with z | z; exact absurd z n9; exact z
            have e11 : u4 11 = r 11 := by
              funext j
              rw [e4, up_other (by decide), f 11 j (by omega), hr0 11 j (by decide) (by omega)]
            have jd : j_div S.2.2 1008 = S.2.2 / 1008 := by
              unfold j_div
              have h1 := iT.1
              have h2 := iT.2
              rw [Int.tdiv_eq_ediv_of_nonneg h1, w32_eq (by omega) (by omega)]
            rw [jd, e11]
            have h1 := iT.1
            have h2 := iT.2
            refine ⟨⟨k0, by omega⟩, ⟨by omega, by omega⟩, ?_⟩
            by_cases z : r 11 k ≤ r 11 (S.2.2 / 1008)
            · rw [if_pos z]
              exact last S.2.2 (by rw [if_neg (by omega)])
            · rw [if_neg z]
              exact last x (by rw [if_pos (by omega)])
        have g88 : u 0 88 = S.1 := v1
        rw [g88]
        by_cases y : S.1 = w
        · rw [if_neg (fun z => z y)]
          exact go x (by rw [if_pos y])
        · rw [if_pos y, v2]
          exact go S.2.1 (by rw [if_neg y])
      · have bf : tl r k a t = false := by simpa using b
        rw [bf]
        rw [if_neg (by decide)]
        intro x ex
        rw [w32_eq (by omega) (by omega)] at ex
        subst ex
        refine ih k a (t + 1) S u k0 k1 a0 a1 (by omega) (by omega) hg (by omega) hS (fun S' u' h1 h2 h3 => hz S' u' (by rw [if_neg b]; exact h1) (by omega) h3)
  have land : ∀ (n : Nat) (k a t : Int) (S : T3) (u : Mh), 0 ≤ a → a < r 0 12 * r 0 13 → 0 ≤ t → t + n = 21 → r 5 a = 2 → St S u → Lfp (F_X14_layTales w K) (31, [k, a + 1], u) → Lfp (F_X14_layTales w K) (42, [k, a, t], u) := by
    intro n
    induction n with
    | zero =>
      intro k a t S u a0 a1 t0 hn hg hS hz
      apply L_X14_layTales_42
      unfold B_X14_layTales_42
      rw [if_pos (by omega)]
      intro x ex
      rw [w32_eq (by omega) (by omega)] at ex
      subst ex
      exact hz
    | succ n ih =>
      intro k a t S u a0 a1 t0 hn hg hS hz
      apply L_X14_layTales_42
      unfold B_X14_layTales_42
      have e5 : u 5 a = r 5 a := by rw [hS.1 5 a (by omega), hr0 5 a (by decide) (by omega)]
      rw [if_neg (by omega), e5]
      refine ⟨⟨a0, by omega⟩, ?_⟩
      rw [if_pos hg]
      intro x ex
      rw [w32_eq (by omega) (by omega)] at ex
      subst ex
      exact ih k a (t + 1) S u a0 a1 (by omega) (by omega) hg hS hz
  have cells : ∀ (n : Nat) (k a : Int) (S : T3) (u : Mh), 0 ≤ k → k < r 0 14 → 0 ≤ a → a + n = r 0 12 * r 0 13 → S.1 + 21 * n ≤ 900000 → St S u → (∀ S' u', S' = t2 w (r 11) (wtr r) (tl r k) k n a S → S'.1 ≤ S.1 + 21 * n → St S' u' → Lfp (F_X14_layTales w K) (21, [k + 1], u')) → Lfp (F_X14_layTales w K) (31, [k, a], u) := by
    intro n
    induction n with
    | zero =>
      intro k a S u k0 k1 a0 hn hc hS hz
      apply L_X14_layTales_31
      unfold B_X14_layTales_31 wp_X14_cells
      dsimp only
      have e12 : u 0 12 = r 0 12 := by rw [hS.1 0 12 (by omega), hr0 0 12 (by decide) (by decide)]
      have e13 : u 0 13 = r 0 13 := by rw [hS.1 0 13 (by omega), hr0 0 13 (by decide) (by decide)]
      rw [e12, e13, w32_eq (by omega) (by omega), if_pos (by omega)]
      intro x ex
      rw [w32_eq (by omega) (by omega)] at ex
      subst ex
      exact hz S u rfl (by omega) hS
    | succ n ih =>
      intro k a S u k0 k1 a0 hn hc hS hz
      apply L_X14_layTales_31
      unfold B_X14_layTales_31 wp_X14_cells
      dsimp only
      have e12 : u 0 12 = r 0 12 := by rw [hS.1 0 12 (by omega), hr0 0 12 (by decide) (by decide)]
      have e13 : u 0 13 = r 0 13 := by rw [hS.1 0 13 (by omega), hr0 0 13 (by decide) (by decide)]
      rw [e12, e13, w32_eq (by omega) (by omega), if_neg (by omega)]
      unfold t2 at hz
      by_cases hg : r 5 a = 2
      · have wf : wtr r a = false := by unfold wtr; simp [hg]
        refine land 21 k a 0 S u a0 (by omega) (by omega) (by omega) hg hS ?_
        refine ih k (a + 1) S u k0 k1 (by omega) (by omega) (by omega) hS (fun S' u' h1 h2 h3 => hz S' u' (by rw [wf, if_neg (by decide)]; exact h1) (by omega) h3)
      · have wt : wtr r a = true := by unfold wtr; simp [hg]
        refine steps 21 k a 0 S u k0 k1 a0 (by omega) (by omega) (by omega) hg (by omega) hS ?_
        intro S1 u1 h1 h2 h3
        refine ih k (a + 1) S1 u1 k0 k1 (by omega) (by omega) (by omega) h3 (fun S' u' h4 h5 h6 => hz S' u' (by rw [wt, if_pos rfl, ← h1]; exact h4) (by omega) h6)
  have kinds : ∀ (n : Nat) (k : Int) (S : T3) (u : Mh), 0 ≤ k → k + n = r 0 14 → S.1 + 1008 * n ≤ 800000 → St S u → fin (t1 w (r 11) (wtr r) (tl r) (r 0 12 * r 0 13).toNat n k S) → Lfp (F_X14_layTales w K) (21, [k], u) := by
    intro n
    induction n with
    | zero =>
      intro k S u k0 hn hc hS hz
      apply L_X14_layTales_21
      unfold B_X14_layTales_21
      have e14 : u 0 14 = r 0 14 := by rw [hS.1 0 14 (by omega), hr0 0 14 (by decide) (by decide)]
      rw [e14, if_pos (by omega)]
      obtain ⟨f, v1, v2, v3, v4, v5⟩ := id hS
      exact hk u S hz (hr0.trans f.sc) v1 v2 v3
    | succ n ih =>
      intro k S u k0 hn hc hS hz
      apply L_X14_layTales_21
      unfold B_X14_layTales_21
      have e14 : u 0 14 = r 0 14 := by rw [hS.1 0 14 (by omega), hr0 0 14 (by decide) (by decide)]
      rw [e14, if_neg (by omega)]
      refine cells (r 0 12 * r 0 13).toNat k 0 S u k0 (by omega) (by omega) (by omega) (by omega) hS ?_
      intro S1 u1 h1 h2 h3
      unfold t1 at hz
      exact ih (k + 1) S1 u1 (by omega) (by omega) (by omega) h3 (by rw [h1]; exact hz)
  refine kinds (r 0 14).toNat 0 (0, -1, -1) u3 (by omega) (by omega) (by show (0 : Int) + _ ≤ _; omega) ⟨?_, ?_, ?_, ?_, ?_, ?_⟩ rfl
  · intro o j ho
    rw [e3, up_ne _ (by omega), e2, up_ne _ (by omega), e1, up_ne _ (by omega)]
  · rw [e3, up_slot (by decide), e2, up_slot (by decide), e1, up_self]
  · rw [e3, up_slot (by decide), e2, up_self]
  · rw [e3, up_self]
  · show (0 : Int) ≤ 0; omega
  · left; show (-1 : Int) < 0; omega
