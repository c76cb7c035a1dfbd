/-! ===== fits ===== -/
theorem j_or_r (a b : Int) : r32 (j_or a b) := i32_r _
theorem j_shl_r (a b : Int) : r32 (j_shl a b) := i32_r _
theorem j_or_zero {v : Int} (h : r32 v) : j_or v 0 = v := by
  unfold j_or
  rw [show Int32.ofInt 0 = 0 from rfl, Int32.or_zero, i32_toInt h]
theorem j_lor_r (a b : Int) : r64 (j_lor a b) := i64_r _
theorem j_lor_zero {v : Int} (h : r64 v) : j_lor v 0 = v := by
  unfold j_lor
  rw [show Int64.ofInt 0 = 0 from rfl, Int64.or_zero, i64_toInt h]
def fb (f : Int → Bool) : Nat → Int → Int → Int
  | 0, _, v => v
  | n + 1, m, v => fb f n (m + 1) (if f m = true then j_or v (j_shl 1 m) else v)
def fitM (r : Mh) (m : Int) : Bool := fit r (fun j => r 22 (3 * m + j)) (r 21 m)
theorem sp_plainShores {r : Mh} {K : Mh → Prop} (hk : ∀ s, (∀ o j, ¬ (o = 0 ∧ j = 77) → ¬ (o = 32 ∧ 0 ≤ j ∧ j < 3) → s o j = r o j) → s 0 77 = r 0 18 → (∀ j, 0 ≤ j → j < 3 → s 32 j = r 8 j) → K s) : wp_X14_plainShores r K := by
  unfold wp_X14_plainShores
  intro r1 e1
  have loop : ∀ (n : Nat) (i : Int) (s : Mh), 0 ≤ i → i + n = 3 → (∀ o j, ¬ (o = 0 ∧ j = 77) → ¬ (o = 32 ∧ 0 ≤ j ∧ j < 3) → s o j = r o j) → s 0 77 = r 0 18 → (∀ j, 0 ≤ j → j < i → s 32 j = r 8 j) → Lfp (F_X14_plainShores K) (10, [i], s) := by
    intro n
    induction n with
    | zero =>
      intro i s i0 hn f h7 h3
      apply L_X14_plainShores_10
      unfold B_X14_plainShores_10
      rw [if_pos (by omega)]
      exact hk s f h7 (fun j j0 j1 => h3 j j0 (by omega))
    | succ n ih =>
      intro i s i0 hn f h7 h3
      apply L_X14_plainShores_10
      unfold B_X14_plainShores_10
      rw [if_neg (by omega)]
      refine ⟨⟨i0, by omega⟩, ⟨i0, by omega⟩, ?_⟩
      intro s1 e2 x ex
      rw [w32_eq (by omega) (by omega)] at ex
      subst ex
      rw [f 8 i (by omega) (by omega)] at e2
      refine ih (i + 1) s1 (by omega) (by omega) (fun o j a b => by rw [e2, up_ne _ (by omega), f o j a b]) (by rw [e2, up_other (by decide)]; exact h7) (fun j j0 j1 => ?_)
      rw [e2]
      by_cases z : j = i
      · rw [z, up_self]
      · rw [up_slot z]; exact h3 j j0 (by omega)
  exact loop 3 0 r1 (by omega) (by omega) (fun o j a _ => by rw [e1, up_ne _ a]) (by rw [e1, up_self]) (fun j a b => by omega)
theorem isP_may {p m : Int} (h : isP p) (m0 : 0 ≤ m) (m1 : m < 3) : (shC (p + 3)).2 = 3 ∧ (shC (p + 4 + 2 * m)).1 = 6 ∧ (shC (p + 4 + 2 * m + 1)).2 = 3 := by
  have hk : m = 0 ∨ m = 1 ∨ m = 2 := by omega
  rcases h with rfl | rfl <;> rcases hk with rfl | rfl | rfl <;> decide
theorem op_fits {q r : Mh} (h : Rel q r) : wp_X13_fits q (fun x q' => wp_X14_fits r (fun y r' => x = y ∧ Rel q' r')) := by
  unfold wp_X13_fits
  refine sp_freshenWays h.1.2.2.1.1.cp h.2.1 ?_
  intro g f z w
  have hR := h.fw f w (sameR.refl r)
  have hP := h.1.2.2.1
  have hd := hP.1
  have hm := szs_mul hd.2.2.2.2.1.1
  have hSh := hP.2.1
  have hMy := hP.2.2.2.2.2.1
  have my3 := hMy.2.1
  have my0 := hMy.1.2.1
  have sh3 := hSh.2.1
  have sh0 := hSh.1.2.1
  -- the answer
  let v0 : Int := if fit r (r 8) (r 0 18) = true then j_shl 1 (r 0 19) else 0
  have v0r : r32 v0 := by
    show r32 (if _ then _ else _)
    split
    · exact j_shl_r _ _
    · decide
  -- the reference
  have ref : ∀ g', Rel g' r → wp_X14_fits r (fun y r' => fb (fitM r) (r 0 19).toNat 0 v0 = y ∧ Rel g' r') := by
    intro g' hg'
    unfold wp_X14_fits
    intro r1 e1
    subst e1
    have hNs : RNotes q (up r 0 2 0) := h.1.2.2.2.2.2.2.2.1.thrown
    have kk : kby (up r 0 2 0) = kby r := kby_sameR (sameR.thrown r)
    have kept_eq : ∀ i, kept (up r 0 2 0) i = kept r i := by
      intro i
      unfold kept
      rw [up_other (by decide), kk]
    refine sp_layCounts hNs ?_
    intro u0 f0 c0
    have c0' : ∀ i, 0 ≤ i → i < kby r → (u0 35 i = 0 ↔ kept r i = false) := fun i a b => by rw [← kept_eq]; exact c0 i a (by rw [kk]; exact b)
    have F0 : frF r u0 := fun o j a b c => by rw [f0 o b, up_ne _ (by omega)]
    have e32 : u0 32 = r 32 := by rw [f0 32 (by decide), up_other (by decide)]
    have e77 : u0 0 77 = r 0 18 := by rw [f0 0 (by decide), up_slot (by decide)]; exact hSh.2.2.2.2.1
    have wat48 : ∀ c, watR r c → 0 ≤ c ∧ c < 48 := fun c hc => ⟨hc.1, by have := hc.2.1; omega⟩
    have s32 : ∀ j, 0 ≤ j → j < r 0 18 → r 32 j = r 8 j := fun j j0 j1 => hSh.2.2.2.2.2 j j0 (by omega)
    refine sp_isFit h.1 F0 c0' (by rw [e77]; exact sh0) (by rw [e77]; exact sh3) (fun j j0 j1 => ?_) ?_
    · rw [e77] at j1
      rw [e32, s32 j j0 j1]
      exact wat48 _ (hSh.2.2.1 j j0 j1)
    · rw [e32, e77, fit_congr s32]
      have outer : ∀ (n : Nat) (m v : Int) (u : Mh), 0 ≤ m → m + n = r 0 19 → r32 v → frF r u → (∀ j, 3 ≤ j ∨ j < 0 → u 32 j = r 32 j) → (∀ i, 0 ≤ i → i < kby r → (u 35 i = 0 ↔ kept r i = false)) → fb (fitM r) n m v = fb (fitM r) (r 0 19).toNat 0 v0 → Lfp (F_X14_fits (fun y r' => fb (fitM r) (r 0 19).toNat 0 v0 = y ∧ Rel g' r')) (29, [v, m], u) := by
        intro n
        induction n with
        | zero =>
          intro m v u m0 hn hv F hx hc hfb
          apply L_X14_fits_29
          unfold B_X14_fits_29
          rw [F 0 19 (by decide) (by decide) (by decide), if_pos (by omega)]
          refine sp_plainShores ?_
          intro s fs s7 s8
          refine ⟨by rw [← hfb]; rfl, hg'.thrown ?_⟩
          intro o j a b
          by_cases o32 : o = 32
          · subst o32
            by_cases j3 : 0 ≤ j ∧ j < 3
            · rw [s8 j j3.1 j3.2, F 8 j (by decide) (by decide) (by omega), hSh.2.2.2.2.2 j j3.1 j3.2]
            · rw [fs 32 j (by omega) (by omega)]
              exact hx j (by omega)
          · by_cases o0 : o = 0
            · subst o0
              by_cases j7 : j = 77
              · rw [j7, s7, F 0 18 (by decide) (by decide) (by decide)]
                exact hSh.2.2.2.2.1.symm
              · rw [fs 0 j (by omega) (by omega), F 0 j (by decide) (by decide) (by omega)]
            · rw [fs o j (by omega) (by omega), F o j o32 (by omega) (by omega)]
        | succ n ih =>
          intro m v u m0 hn hv F hx hc hfb
          apply L_X14_fits_29
          unfold B_X14_fits_29
          rw [F 0 19 (by decide) (by decide) (by decide), if_neg (by omega)]
          refine ⟨⟨m0, by omega⟩, ?_⟩
          intro u1 e1
          rw [F 21 m (by decide) (by decide) (by omega)] at e1
          obtain ⟨mr, m3, mw⟩ := hMy.2.2 m m0 (by omega)
          have F1 : frF r u1 := fun o j a b c => by rw [e1, up_ne _ (by omega), F o j a b c]
          have inner : ∀ (k : Nat) (i : Int) (s : Mh), 0 ≤ i → i + k = 3 → frF r s → s 0 77 = r 21 m → (∀ j, 3 ≤ j ∨ j < 0 → s 32 j = r 32 j) → (∀ j, 0 ≤ j → j < i → s 32 j = r 22 (3 * m + j)) → s 35 = u 35 → Lfp (F_X14_fits (fun y r' => fb (fitM r) (r 0 19).toNat 0 v0 = y ∧ Rel g' r')) (49, [v, m, i], s) := by
            intro k
            induction k with
            | zero =>
              intro i s i0 hi Fs s7 sx s3 s35
              apply L_X14_fits_49
              unfold B_X14_fits_49
              rw [if_pos (by omega)]
              refine sp_isFit h.1 Fs (by rw [s35]; exact hc) (by rw [s7]; exact mr.2.1) (by rw [s7]; exact m3) (fun j j0 j1 => ?_) ?_
              · rw [s7] at j1
                rw [s3 j j0 (by omega)]
                exact wat48 _ (mw j j0 j1)
              · have ef : fit r (s 32) (s 0 77) = fitM r m := by
                  rw [s7]
                  unfold fitM
                  exact fit_congr (fun j j0 j1 => s3 j j0 (by omega))
                rw [ef]
                have st : ∀ (x1 : Int), (x1 = if fitM r m = true then j_or v (j_shl 1 m) else v) → ∀ x2 : Int, x2 = w32 (m + 1) → Lfp (F_X14_fits (fun y r' => fb (fitM r) (r 0 19).toNat 0 v0 = y ∧ Rel g' r')) (29, [x1, x2], s) := by
                  intro x1 ex1 x2 ex2
                  rw [w32_eq (by omega) (by omega)] at ex2
                  subst ex2
                  refine ih (m + 1) x1 s (by omega) (by omega) ?_ Fs sx (by rw [s35]; exact hc) ?_
                  · rw [ex1]
                    split
                    · exact j_or_r _ _
                    · exact hv
                  · rw [ex1]; exact hfb
                by_cases b : fitM r m = true
                · rw [b, show b01 true = 1 from rfl, if_neg (by decide)]
                  intro x1 ex1
                  exact st x1 (by rw [if_pos b]; exact ex1)
                · have bf : fitM r m = false := by simpa using b
                  rw [bf, show b01 false = 0 from rfl, if_pos rfl]
                  intro x1 ex1
                  rw [j_or_zero hv] at ex1
                  exact st x1 (by rw [if_neg b]; exact ex1)
            | succ k ihk =>
              intro i s i0 hi Fs s7 sx s3 s35
              apply L_X14_fits_49
              unfold B_X14_fits_49
              rw [if_neg (by omega), w32_eq (x := 3 * m) (by omega) (by omega), w32_eq (x := 3 * m + i) (by omega) (by omega)]
              refine ⟨⟨by omega, by omega⟩, ⟨i0, by omega⟩, ?_⟩
              intro s1 e2 x ex
              rw [w32_eq (by omega) (by omega)] at ex
              subst ex
              rw [Fs 22 (3 * m + i) (by decide) (by decide) (by omega)] at e2
              refine ihk (i + 1) s1 (by omega) (by omega) (fun o j a b c => by rw [e2, up_ne _ (by omega), Fs o j a b c]) (by rw [e2, up_other (by decide)]; exact s7) (fun j hj => by rw [e2, up_slot (by omega)]; exact sx j hj) (fun j j0 j1 => ?_) (by rw [e2, up_other (by decide)]; exact s35)
              rw [e2]
              by_cases y : j = i
              · rw [y, up_self]
              · rw [up_slot y]; exact s3 j j0 (by omega)
          exact inner 3 0 u1 (by omega) (by omega) F1 (by rw [e1, up_self]) (fun j hj => by rw [e1, up_other (by decide)]; exact hx j hj) (fun j a b => by omega) (by rw [e1, up_other (by decide)])
      by_cases b : fit r (r 8) (r 0 18) = true
      · rw [b, show b01 true = 1 from rfl, if_neg (by decide), F0 0 19 (by decide) (by decide) (by decide)]
        intro x ex
        have ev : v0 = x := by show (if _ then _ else _) = _; rw [if_pos b, ex]
        rw [← ev]
        exact outer (r 0 19).toNat 0 v0 u0 (by omega) (by omega) v0r F0 (fun j _ => by rw [e32]) c0' rfl
      · have bf : fit r (r 8) (r 0 18) = false := by simpa using b
        rw [bf, show b01 false = 0 from rfl, if_pos rfl]
        have ev : v0 = 0 := by show (if _ then _ else _) = _; rw [if_neg b]
        have hh := outer (r 0 19).toNat 0 v0 u0 (by omega) (by omega) v0r F0 (fun j _ => by rw [e32]) c0' rfl
        have e2 : ((29, [v0, 0], u0) : Ms) = (29, [0, 0], u0) := by rw [ev]
        rw [e2] at hh
        exact hh
  -- the class
  unfold wp_X2_fittingShores
  refine sp_knownSights hR.1.2.2.2.2.2.2.2.1 ?_
  intro g1 f1 hs1
  have hC1 : Core g1 r := hR.1.same f1.sc (sameR.refl r)
  have hd1 := hC1.2.2.1.1
  have hSh1 := hC1.2.2.1.2.1
  have hMy1 := hC1.2.2.1.2.2.2.2.2.1
  have hw1 : waysOK g1 := by
    have ep : g1 (g 53 0) = g (g 53 0) := by rcases hR.1.2.2.1.1.1 with e | e <;> exact f1 _ (by omega)
    exact waysOK_congr (by rw [f1 53 (by decide)]) (by rw [f1 53 (by decide)]) ep (f1 116 (by decide)) (f1 117 (by decide)) (f1 118 (by decide)) w
  have hR1 : Rel g1 r := keepT hR (fun o a _ => f1 o a) (sameR.refl r)
  refine ⟨isP_4 hd1.1, ?_⟩
  intro x ex
  rw [hMy1.1.1] at ex
  subst ex
  refine sp_fitsBy hC1 hw1 hs1 (hSh1.rs hd1) hSh1.1.1 (S := r 8) (fun j j0 j1 => by rw [hSh1.1.2.2 j j0 j1]; simp) ?_
  have loop : ∀ (n : Nat) (m v : Int), 0 ≤ m → m + n = r 0 19 → fb (fitM r) n m v = fb (fitM r) (r 0 19).toNat 0 v0 → Lfp (F_X2_fittingShores (fun x q' => wp_X14_fits r (fun y r' => x = y ∧ Rel q' r'))) (51, [113, r 0 19, v, m], g1) := by
    intro n
    induction n with
    | zero =>
      intro m v m0 hn hfb
      apply L_X2_fittingShores_51
      unfold B_X2_fittingShores_51
      rw [if_pos (by omega)]
      have ev : v = fb (fitM r) (r 0 19).toNat 0 v0 := hfb
      rw [ev]
      exact ref g1 hR1
    | succ n ih =>
      intro m v m0 hn hfb
      apply L_X2_fittingShores_51
      unfold B_X2_fittingShores_51 wp_X5_shoresOf
      obtain ⟨t1, t2, t3⟩ := isP_may hd1.1 m0 (show m < 3 by omega)
      obtain ⟨mr, m3, mw⟩ := hMy1.2.2 m m0 (by omega)
      rw [if_neg (by omega)]
      refine ⟨isP_4 hd1.1, ?_⟩
      rw [if_neg (by omega), t1, if_neg (by omega)]
      refine ⟨⟨by omega, by omega⟩, ?_⟩
      dsimp only
      rw [show g1 53 0 + 3 + 1 + 2 * m = g1 53 0 + 4 + 2 * m by omega]
      have rS : rowS g1 (g1 53 0 + 4 + 2 * m) := by
        refine ⟨t2, t3, by rw [mr.1]; exact mr.2.1, by rw [mr.1]; exact m3, fun j j0 j1 => ?_⟩
        rw [mr.1] at j1
        rw [mr.2.2 j j0 j1]
        have := mw j j0 j1
        exact ⟨this.1, hd1.cl this.2.1⟩
      refine sp_fitsBy hC1 hw1 hs1 rS mr.1 (S := fun j => r 22 (3 * m + j)) (fun j j0 j1 => mr.2.2 j j0 j1) ?_
      have hfb2 : fb (fitM r) n (m + 1) (if fitM r m = true then j_or v (j_shl 1 m) else v) = fb (fitM r) (r 0 19).toNat 0 v0 := hfb
      have ef : fit r (fun j => r 22 (3 * m + j)) (r 21 m) = fitM r m := rfl
      rw [ef]
      by_cases b : fitM r m = true
      · rw [b, show b01 true = 1 from rfl, if_neg (by decide)]
        rw [if_pos b] at hfb2
        intro x1 ex1 x2 ex2
        rw [w32_eq (by omega) (by omega)] at ex2
        subst ex1; subst ex2
        exact ih (m + 1) _ (by omega) (by omega) hfb2
      · have bf : fitM r m = false := by simpa using b
        rw [bf, show b01 false = 0 from rfl, if_pos rfl]
        rw [if_neg b] at hfb2
        intro x2 ex2
        rw [w32_eq (by omega) (by omega)] at ex2
        subst ex2
        exact ih (m + 1) _ (by omega) (by omega) hfb2
  by_cases b : fit r (r 8) (r 0 18) = true
  · rw [b, show b01 true = 1 from rfl, if_neg (by decide)]
    intro x ex
    have ev : v0 = x := by show (if _ then _ else _) = _; rw [if_pos b, ex]
    rw [← ev]
    exact loop (r 0 19).toNat 0 v0 (by omega) (by omega) rfl
  · have bf : fit r (r 8) (r 0 18) = false := by simpa using b
    rw [bf, show b01 false = 0 from rfl, if_pos rfl]
    have ev : v0 = 0 := by show (if _ then _ else _) = _; rw [if_neg b]
    have hh := loop (r 0 19).toNat 0 v0 (by omega) (by omega) rfl
    have e2 : ((51, [113, r 0 19, v0, 0], g1) : Ms) = (51, [113, r 0 19, 0, 0], g1) := by rw [ev]
    rw [e2] at hh
    exact hh
/-! ===== still ===== -/
def stP (r : Mh) (k a k2 b c : Int) (t : Int) : Bool := decide (rgiv r k a c t + rgiv r k2 b c t = 0)
def stB (r : Mh) (k a k2 b : Int) (to : Nat) : Nat → Int → Int → Int
  | 0, _, v => v
  | n + 1, c, v => stB r k a k2 b to n (c + 1) (if wtr r c && allT (stP r k a k2 b c) to 0 then j_lor v (j_lshl 1 c) else v)
theorem op_still {q r : Mh} (k a k2 b to : Int) (h : Rel q r) : wp_X13_still k a k2 b to q (fun x q' => wp_X14_still k a k2 b to r (fun y r' => x = y ∧ Rel q' r')) := by
  have hP := h.1.2.2.1
  have hd := hP.1
  have hg := h.1.2.2.2.1
  have hs := hd.2.2.2.2.1.1
  have hm := szs_mul hs
  have hKn := hP.2.2.1
  have h4 := hKn.2.1
  have h0 : Rel q (up r 0 2 0) := h.thrown (sameR.thrown r)
  have e0 : ∀ j, j ≠ 2 → up r 0 2 0 0 j = r 0 j := fun j hj => up_slot hj
  have k01 : ∀ x : Int, (if x < 0 then (0 : Int) else if r 0 14 ≤ x then 0 else 1) = (if 0 ≤ x ∧ x < r 0 14 then 1 else 0) := by
    intro x
    by_cases z : x < 0
    · rw [if_pos z, if_neg (by omega)]
    · rw [if_neg z]
      by_cases y : r 0 14 ≤ x
      · rw [if_pos y, if_neg (by omega)]
      · rw [if_neg y, if_pos (by omega)]
  have t01 : ∀ x l : Int, (if x < 0 then (0 : Int) else if l < x then 0 else 1) = (if 0 ≤ x ∧ x ≤ l then 1 else 0) := by
    intro x l
    by_cases z : x < 0
    · rw [if_pos z, if_neg (by omega)]
    · rw [if_neg z]
      by_cases y : l < x
      · rw [if_pos y, if_neg (by omega)]
      · rw [if_neg y, if_pos (by omega)]
  have no : ¬ ((0 ≤ k ∧ k < r 0 14) ∧ (0 ≤ k2 ∧ k2 < r 0 14) ∧ watR r a ∧ watR r b ∧ (0 ≤ to ∧ to ≤ 60)) → wp_X14_still k a k2 b to r (fun y r' => -1 = y ∧ Rel q r') := by
    intro hn
    unfold wp_X14_still
    intro r1 e1
    subst e1
    rw [wi_isKind, e0 14 (by decide), k01]
    by_cases c1 : 0 ≤ k ∧ k < r 0 14
    · rw [if_pos c1, if_neg (by decide), wi_isKind, e0 14 (by decide), k01]
      by_cases c2 : 0 ≤ k2 ∧ k2 < r 0 14
      · rw [if_pos c2, if_neg (by decide), wi_waterT hs]
        by_cases c3 : watR r a
        · rw [if_pos c3, if_neg (by decide), wi_waterT hs]
          by_cases c4 : watR r b
          · rw [if_pos c4, if_neg (by decide), wi_isIn, t01]
            rw [if_neg (show ¬ (0 ≤ to ∧ to ≤ 60) from fun z => hn ⟨c1, c2, c3, c4, z⟩), if_neg (fun z => z rfl)]
            exact ⟨rfl, h0⟩
          · rw [if_neg c4, if_pos rfl]; exact ⟨rfl, h0⟩
        · rw [if_neg c3, if_pos rfl]; exact ⟨rfl, h0⟩
      · rw [if_neg c2, if_pos rfl]; exact ⟨rfl, h0⟩
    · rw [if_neg c1, if_pos rfl]; exact ⟨rfl, h0⟩
  have l56 : ¬ ((0 ≤ k ∧ k < r 0 14) ∧ (0 ≤ k2 ∧ k2 < r 0 14) ∧ watR r a ∧ watR r b) → Lfp (F_X13_still k a k2 b to (fun x q' => wp_X14_still k a k2 b to r (fun y r' => x = y ∧ Rel q' r'))) (56, [], q) := by
    intro hn
    apply L_X13_still_56
    unfold B_X13_still_56
    apply L_X13_still_57
    unfold B_X13_still_57
    rw [if_pos rfl]
    exact no (fun z => hn ⟨z.1, z.2.1, z.2.2.1, z.2.2.2.1⟩)
  unfold wp_X13_still
  refine ⟨isP_4 hd.1, ?_⟩
  rw [wi_has, hKn.1.1, k01]
  by_cases c1 : 0 ≤ k ∧ k < r 0 14
  · rw [if_pos c1, if_neg (by decide), wi_wet hd hg]
    by_cases c3 : watR r a
    · rw [if_pos c3, if_neg (by decide), wi_has, hKn.1.1, k01]
      by_cases c2 : 0 ≤ k2 ∧ k2 < r 0 14
      · rw [if_pos c2, if_neg (by decide), wi_wet hd hg]
        by_cases c4 : watR r b
        · rw [if_pos c4, if_neg (by decide)]
          apply L_X13_still_57
          unfold B_X13_still_57
          rw [if_neg (by decide), wi_stepC, t01]
          by_cases c5 : 0 ≤ to ∧ to ≤ 60
          · rw [if_pos c5, if_pos (by decide)]
            refine sp_freshenWays hd.cp h.2.1 ?_
            intro g f z w
            have hR := h.fw f w (sameR.refl r)
            have hdg := hR.1.2.2.1.1
            have hgg := hR.1.2.2.2.1
            have hKg := hR.1.2.2.1.2.2.1
            have a1 : a < 48 := by have := c3.2.1; omega
            have b1 : b < 48 := by have := c4.2.1; omega
            have ro := h.1.ro
            -- the reference
            have ref : wp_X14_still k a k2 b to r (fun y r' => stB r k a k2 b (to + 1).toNat (r 0 12 * r 0 13).toNat 0 0 = y ∧ Rel g r') := by
              unfold wp_X14_still
              intro r1 e1
              subst e1
              rw [wi_isKind, e0 14 (by decide), k01, if_pos c1, if_neg (by decide), wi_isKind, e0 14 (by decide), k01, if_pos c2, if_neg (by decide), wi_waterT hs, if_pos c3, if_neg (by decide), wi_waterT hs, if_pos c4, if_neg (by decide), wi_isIn, t01, if_pos c5, if_pos (by decide)]
              have hRt := hR.thrown (sameR.thrown r)
              have rot := ro.thrown (sameR.thrown r)
              have outer : ∀ (n : Nat) (c v : Int), 0 ≤ c → c + n = r 0 12 * r 0 13 → r64 v → stB r k a k2 b (to + 1).toNat n c v = stB r k a k2 b (to + 1).toNat (r 0 12 * r 0 13).toNat 0 0 → Lfp (F_X14_still k a k2 b to (fun y r' => stB r k a k2 b (to + 1).toNat (r 0 12 * r 0 13).toNat 0 0 = y ∧ Rel g r')) (59, [v, c], up r 0 2 0) := by
                intro n
                induction n with
                | zero =>
                  intro c v cc hn hv hb
                  apply L_X14_still_59
                  unfold B_X14_still_59 wp_X14_cells
                  dsimp only
                  rw [e0 12 (by decide), e0 13 (by decide), w32_eq (by omega) (by omega), if_pos (by omega)]
                  exact ⟨hb.symm, hRt⟩
                | succ n ih =>
                  intro c v cc hn hv hb
                  apply L_X14_still_59
                  unfold B_X14_still_59 wp_X14_cells
                  dsimp only
                  rw [e0 12 (by decide), e0 13 (by decide), w32_eq (by omega) (by omega), if_neg (by omega), up_other (o := 0) (b := 5) (by decide)]
                  refine ⟨⟨cc, by omega⟩, ?_⟩
                  have hb2 : stB r k a k2 b (to + 1).toNat n (c + 1) (if wtr r c && allT (stP r k a k2 b c) (to + 1).toNat 0 then j_lor v (j_lshl 1 c) else v) = stB r k a k2 b (to + 1).toNat (r 0 12 * r 0 13).toNat 0 0 := hb
                  have fin : ∀ bb : Bool, bb = (wtr r c && allT (stP r k a k2 b c) (to + 1).toNat 0) → if b01 bb = 0 then (∀ x1 : Int, x1 = j_lor v 0 → ∀ x2 : Int, x2 = w32 (c + 1) → Lfp (F_X14_still k a k2 b to (fun y r' => stB r k a k2 b (to + 1).toNat (r 0 12 * r 0 13).toNat 0 0 = y ∧ Rel g r')) (59, [x1, x2], up r 0 2 0)) else (∀ x3 : Int, x3 = j_lor v (j_lshl 1 c) → ∀ x4 : Int, x4 = w32 (c + 1) → Lfp (F_X14_still k a k2 b to (fun y r' => stB r k a k2 b (to + 1).toNat (r 0 12 * r 0 13).toNat 0 0 = y ∧ Rel g r')) (59, [x3, x4], up r 0 2 0)) := by
                    intro bb hbb
                    rw [← hbb] at hb2
                    cases bb
                    · rw [show b01 false = 0 from rfl, if_pos rfl, j_lor_zero hv]
                      intro x1 ex1 x2 ex2
                      rw [w32_eq (by omega) (by omega)] at ex2
                      subst ex1; subst ex2
                      exact ih (c + 1) x1 (by omega) (by omega) hv hb2
                    · rw [show b01 true = 1 from rfl, if_neg (by decide)]
                      intro x1 ex1 x2 ex2
                      rw [w32_eq (by omega) (by omega)] at ex2
                      subst ex2
                      refine ih (c + 1) x1 (by omega) (by omega) (by rw [ex1]; exact j_lor_r _ _) (by rw [ex1]; exact hb2)
                  have inner : ∀ (m : Nat) (t : Int) (bb : Bool), 0 ≤ t → t + m = to + 1 → (bb && allT (stP r k a k2 b c) m t) = (wtr r c && allT (stP r k a k2 b c) (to + 1).toNat 0) → Lfp (F_X14_still k a k2 b to (fun y r' => stB r k a k2 b (to + 1).toNat (r 0 12 * r 0 13).toNat 0 0 = y ∧ Rel g r')) (89, [v, c, b01 bb, t], up r 0 2 0) := by
                    intro m
                    induction m with
                    | zero =>
                      intro t bb t0 ht hbb
                      apply L_X14_still_89
                      unfold B_X14_still_89
                      rw [if_pos (by omega)]
                      refine fin bb ?_
                      rw [← hbb]; simp [allT]
                    | succ m ihm =>
                      intro t bb t0 ht hbb
                      apply L_X14_still_89
                      unfold B_X14_still_89
                      rw [if_neg (by omega)]
                      cases bb
                      · have := fin false (by rw [← hbb]; rfl)
                        rw [show b01 false = 0 from rfl, if_pos rfl] at this
                        rw [show b01 false = 0 from rfl, if_pos rfl, if_pos rfl]
                        exact this
                      · rw [show b01 true = 1 from rfl, if_neg (by decide)]
                        have gv : ∀ {k a : Int} {K : Int → Mh → Prop}, 0 ≤ k → k < r 0 14 → 0 ≤ a → a < 48 → K (rgiv r k a c t) (up r 0 2 0) → wp_X14_gives k a c t (up r 0 2 0) K := by
                          intro k a K k0 k1 a0 a1 hK
                          refine rgives rot k0 (by rw [e0 14 (by decide)]; exact k1) a0 a1 cc (by omega) (by omega) (by omega) ?_
                          rw [rgiv_sameR (sameR.thrown r)]
                          exact hK
                        refine gv c1.1 c1.2 c3.1 a1 ?_
                        refine gv c2.1 c2.2 c4.1 b1 ?_
                        have g1 := rgiv_le ro c1.1 c1.2 a c t
                        have g2 := rgiv_le ro c2.1 c2.2 b c t
                        rw [w32_eq (by omega) (by omega)]
                        have hb3 : allT (stP r k a k2 b c) (m + 1) t = (stP r k a k2 b c t && allT (stP r k a k2 b c) m (t + 1)) := rfl
                        rw [hb3] at hbb
                        by_cases y : rgiv r k a c t + rgiv r k2 b c t = 0
                        · rw [if_neg (fun z => z y)]
                          intro x ex
                          rw [w32_eq (by omega) (by omega)] at ex
                          subst ex
                          have sp : stP r k a k2 b c t = true := decide_eq_true y
                          rw [sp] at hbb
                          exact ihm (t + 1) true (by omega) (by omega) (by simpa using hbb)
                        · rw [if_pos y]
                          intro x ex
                          rw [w32_eq (by omega) (by omega)] at ex
                          subst ex
                          have sp : stP r k a k2 b c t = false := decide_eq_false y
                          rw [sp] at hbb
                          exact ihm (t + 1) false (by omega) (by omega) (by simpa using hbb)
                  by_cases y : r 5 c = 2
                  · rw [if_pos y]
                    exact inner (to + 1).toNat 0 false (by omega) (by omega) (by have : wtr r c = false := by unfold wtr; simp [y]
                                                                                 rw [this])
                  · rw [if_neg y]
                    exact inner (to + 1).toNat 0 true (by omega) (by omega) (by have : wtr r c = true := by unfold wtr; simp [y]
                                                                                rw [this])
              exact outer (r 0 12 * r 0 13).toNat 0 0 (by omega) (by omega) (by decide) rfl
            -- the class
            unfold wp_X2_stillCells
            refine ⟨isP_4 hdg.1, ?_⟩
            have outer : ∀ (n : Nat) (c v : Int), 0 ≤ c → c + n = r 0 12 * r 0 13 → stB r k a k2 b (to + 1).toNat n c v = stB r k a k2 b (to + 1).toNat (r 0 12 * r 0 13).toNat 0 0 → Lfp (F_X2_stillCells k a k2 b to (fun x q' => wp_X14_still k a k2 b to r (fun y r' => x = y ∧ Rel q' r'))) (18, [v, g 53 0 + 1, c], g) := by
              intro n
              induction n with
              | zero =>
                intro c v cc hn hb
                apply L_X2_stillCells_18
                unfold B_X2_stillCells_18 wp_X5_cells
                refine ⟨isP_4 hdg.1, ?_⟩
                dsimp only
                rw [hdg.2.2.1, hdg.2.2.2.1, w32_eq (by omega) (by omega), if_pos (by omega)]
                have ev : v = stB r k a k2 b (to + 1).toNat (r 0 12 * r 0 13).toNat 0 0 := hb
                rw [ev]
                exact ref
              | succ n ih =>
                intro c v cc hn hb
                apply L_X2_stillCells_18
                unfold B_X2_stillCells_18 wp_X5_cells
                refine ⟨isP_4 hdg.1, ?_⟩
                dsimp only
                rw [hdg.2.2.1, hdg.2.2.2.1, w32_eq (by omega) (by omega), if_neg (by omega)]
                refine ⟨isP_4 hdg.1, ?_⟩
                rw [wi_wet hdg hgg]
                have hb2 : stB r k a k2 b (to + 1).toNat n (c + 1) (if wtr r c && allT (stP r k a k2 b c) (to + 1).toNat 0 then j_lor v (j_lshl 1 c) else v) = stB r k a k2 b (to + 1).toNat (r 0 12 * r 0 13).toNat 0 0 := hb
                have fin : ∀ bb : Bool, bb = (wtr r c && allT (stP r k a k2 b c) (to + 1).toNat 0) → if b01 bb = 0 then (∀ x2 : Int, x2 = w32 (c + 1) → Lfp (F_X2_stillCells k a k2 b to (fun x q' => wp_X14_still k a k2 b to r (fun y r' => x = y ∧ Rel q' r'))) (18, [v, g 53 0 + 1, x2], g)) else (∀ x3 : Int, x3 = j_lor v (j_lshl 1 c) → ∀ x4 : Int, x4 = w32 (c + 1) → Lfp (F_X2_stillCells k a k2 b to (fun x q' => wp_X14_still k a k2 b to r (fun y r' => x = y ∧ Rel q' r'))) (18, [x3, g 53 0 + 1, x4], g)) := by
                  intro bb hbb
                  rw [← hbb] at hb2
                  cases bb
                  · rw [show b01 false = 0 from rfl, if_pos rfl]
                    intro x2 ex2
                    rw [w32_eq (by omega) (by omega)] at ex2
                    subst ex2
                    exact ih (c + 1) v (by omega) (by omega) hb2
                  · rw [show b01 true = 1 from rfl, if_neg (by decide)]
                    intro x1 ex1 x2 ex2
                    rw [w32_eq (by omega) (by omega)] at ex2
                    subst ex2
                    exact ih (c + 1) x1 (by omega) (by omega) (by rw [ex1]; exact hb2)
                have inner : ∀ (m : Nat) (t : Int) (bb : Bool), 0 ≤ t → t + m = to + 1 → (bb && allT (stP r k a k2 b c) m t) = (wtr r c && allT (stP r k a k2 b c) (to + 1).toNat 0) → Lfp (F_X2_stillCells k a k2 b to (fun x q' => wp_X14_still k a k2 b to r (fun y r' => x = y ∧ Rel q' r'))) (50, [v, g 53 0 + 1, c, b01 bb, t], g) := by
                  intro m
                  induction m with
                  | zero =>
                    intro t bb t0 ht hbb
                    apply L_X2_stillCells_50
                    unfold B_X2_stillCells_50
                    rw [if_pos (by omega)]
                    refine fin bb ?_
                    rw [← hbb]; simp [allT]
                  | succ m ihm =>
                    intro t bb t0 ht hbb
                    apply L_X2_stillCells_50
                    unfold B_X2_stillCells_50
                    rw [if_neg (by omega)]
                    cases bb
                    · have := fin false (by rw [← hbb]; rfl)
                      rw [show b01 false = 0 from rfl, if_pos rfl] at this
                      rw [show b01 false = 0 from rfl, if_pos rfl, if_pos rfl]
                      exact this
                    · rw [show b01 true = 1 from rfl, if_neg (by decide)]
                      have gv : ∀ {k a : Int} {K : Int → Mh → Prop}, 0 ≤ k → k < r 0 14 → 0 ≤ a → a < r 0 12 * r 0 13 → K (rgiv r k a c t) g → wp_X6_alone k a c t (g 53 0 + 1) g K := by
                        intro k a K k0 k1 a0 a1 hK
                        refine sp_alone hdg.cp w hR.1.cs k0 (by omega) (hKg.kc k0 k1) (hR.1.2.2.1.2.1.rs hdg) a0 (hdg.cl a1) cc (hdg.cl (by omega)) (by omega) (by omega) ?_
                        rw [cgiv_rgiv hR.1.2.2.1 hgg k0 k1]
                        exact hK
                      refine gv c1.1 c1.2 c3.1 c3.2.1 ?_
                      refine gv c2.1 c2.2 c4.1 c4.2.1 ?_
                      have g1 := rgiv_le ro c1.1 c1.2 a c t
                      have g2 := rgiv_le ro c2.1 c2.2 b c t
                      rw [w32_eq (by omega) (by omega)]
                      have hb3 : allT (stP r k a k2 b c) (m + 1) t = (stP r k a k2 b c t && allT (stP r k a k2 b c) m (t + 1)) := rfl
                      rw [hb3] at hbb
                      by_cases y : rgiv r k a c t + rgiv r k2 b c t = 0
                      · rw [if_neg (fun z => z y)]
                        intro x ex
                        rw [w32_eq (by omega) (by omega)] at ex
                        subst ex
                        have sp : stP r k a k2 b c t = true := decide_eq_true y
                        rw [sp] at hbb
                        exact ihm (t + 1) true (by omega) (by omega) (by simpa using hbb)
                      · rw [if_pos y]
                        intro x ex
                        rw [w32_eq (by omega) (by omega)] at ex
                        subst ex
                        have sp : stP r k a k2 b c t = false := decide_eq_false y
                        rw [sp] at hbb
                        exact ihm (t + 1) false (by omega) (by omega) (by simpa using hbb)
                by_cases y : r 5 c = 2
                · rw [if_neg (show ¬ watR r c from fun z => z.2.2 y)]
                  exact inner (to + 1).toNat 0 false (by omega) (by omega) (by have : wtr r c = false := by unfold wtr; simp [y]
                                                                               rw [this])
                · rw [if_pos (show watR r c from ⟨cc, by omega, y⟩)]
                  exact inner (to + 1).toNat 0 true (by omega) (by omega) (by have : wtr r c = true := by unfold wtr; simp [y]
                                                                              rw [this])
            exact outer (r 0 12 * r 0 13).toNat 0 0 (by omega) (by omega) rfl
          · rw [if_neg c5, if_neg (fun z => z rfl)]
            exact no (fun z => c5 z.2.2.2.2)
        · rw [if_neg c4, if_pos rfl]
          exact l56 (fun z => c4 z.2.2.2)
      · rw [if_neg c2, if_pos rfl]
        exact l56 (fun z => c2 z.2.1)
    · rw [if_neg c3, if_pos rfl]
      exact l56 (fun z => c3 z.2.2.1)
  · rw [if_neg c1, if_pos rfl]
    exact l56 (fun z => c1 z.1)
