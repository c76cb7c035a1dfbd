/-! ===== law, where, reaches, first ===== -/
theorem k01 (x m : Int) : (if x < 0 then (0 : Int) else if m ≤ x then 0 else 1) = (if 0 ≤ x ∧ x < m then 1 else 0) := by
  by_cases z : x < 0
  · rw [if_pos z, if_neg (by omega)]
  · rw [if_neg z]
    by_cases y : m ≤ x
    · rw [if_pos y, if_neg (by omega)]
    · rw [if_neg y, if_pos (by omega)]
theorem t01 (x l u : Int) : (if x < l then (0 : Int) else if u < x then 0 else 1) = (if l ≤ x ∧ x ≤ u then 1 else 0) := by
  by_cases z : x < l
  · rw [if_pos z, if_neg (by omega)]
  · rw [if_neg z]
    by_cases y : u < x
    · rw [if_pos y, if_neg (by omega)]
    · rw [if_neg y, if_pos (by omega)]
theorem skR_thrown {q r s : Mh} {F : Int → Int → Int} (h : skR q r F) (hr : sameR r s) : skR q s F := by
  have hR := hr.ref
  refine ⟨h.1.same ⟨rfl, fun _ _ _ => rfl⟩ hR, h.2.1.thrown hr, fun c t a b d e => by rw [lsum_sameR hr]; exact h.2.2 c t a b d e⟩
theorem op_law {q r : Mh} (a b : Int) (h : Rel q r) : wp_X13_law a b q (fun x q' => wp_X14_law a b r (fun y r' => x = y ∧ Rel q' r')) := by
  have hP := h.1.2.2.1
  have hd := hP.1
  have hs := hd.2.2.2.2.1.1
  have hm := szs_mul hs
  have hS := hP.2.2.2.2.1
  have hL := hP.2.2.2.2.2.2
  have h0 : Rel q (up r 0 2 0) := h.thrown (sameR.thrown r)
  have e0 : ∀ j, j ≠ 2 → up r 0 2 0 0 j = r 0 j := fun j hj => up_slot hj
  have s3 := hS.2.1
  have no : ∀ g, Rel g (up r 0 2 0) → ¬ (¬ r 0 24 = 0 ∧ (0 ≤ a ∧ a < r 0 16) ∧ (0 ≤ b ∧ b ≤ 4) ∧ 0 ≤ nxR r (r 16 a) b) → wp_X14_law a b r (fun y r' => -9223372036854775808 = y ∧ Rel g r') := by
    intro g hg hn
    unfold wp_X14_law
    intro r1 e1
    subst e1
    rw [e0 24 (by decide)]
    by_cases c0 : r 0 24 = 0
    · rw [if_pos c0]; exact ⟨rfl, hg⟩
    · rw [if_neg c0, wi_isSkater, e0 16 (by decide), k01]
      by_cases c1 : 0 ≤ a ∧ a < r 0 16
      · rw [if_pos c1, if_neg (by decide), wi_isIn, t01]
        by_cases c2 : 0 ≤ b ∧ b ≤ 4
        · rw [if_pos c2, if_neg (by decide)]
          refine ⟨⟨c1.1, by omega⟩, ?_⟩
          have hw := hS.2.2.2 a c1.1 c1.2
          rw [up_other (o := 0) (b := 16) (by decide)]
          refine sp_nextTo (szT hs) hw.1 (by have := hw.2.1; omega) ?_
          rw [e0 12 (by decide), e0 13 (by decide), up_other (o := 0) (b := 5) (by decide)]
          have nn : ¬ 0 ≤ nx (r 0 12) (r 0 13) (r 5) (r 16 a) b := fun z => hn ⟨c0, c1, c2, z⟩
          rw [if_neg nn]
          exact ⟨rfl, hg⟩
        · rw [if_neg c2, if_pos rfl]; exact ⟨rfl, hg⟩
      · rw [if_neg c1, if_pos rfl]; exact ⟨rfl, hg⟩
  unfold wp_X13_law
  refine ⟨isP_4 hd.1, ?_⟩
  rw [wi_has, hS.1.1, k01]
  by_cases c1 : 0 ≤ a ∧ a < r 0 16
  · rw [if_pos c1, if_neg (by decide)]
    by_cases c2 : b < 0
    · rw [if_pos c2]; exact no q h0 (fun z => by have := z.2.2.1; omega)
    rw [if_neg c2]
    by_cases c3 : 5 ≤ b
    · rw [if_pos c3]; exact no q h0 (fun z => by have := z.2.2.1; omega)
    rw [if_neg c3]
    refine ⟨isP_4 hd.1, ?_⟩
    unfold wp_X3_isEmpty
    rw [hL.1]
    by_cases c0 : r 0 20 = 0
    · rw [if_neg (fun z => z c0)]
      dsimp only
      rw [if_neg (by decide)]
      exact no q h0 (fun z => z.1 (hL.2.2.2.1.mpr c0))
    · rw [if_pos c0]
      dsimp only
      rw [if_pos rfl]
      refine sp_freshenSums h ?_
      intro g hC z8 z9 w hsu hsame
      have hR : Rel g r := ⟨hC, fun _ => w, fun _ => hsu⟩
      refine ⟨isP_4 hC.2.2.1.1.1, ?_⟩
      refine sp_skaterAt hC c1.1 c1.2 ?_
      have hw := hS.2.2.2 a c1.1 c1.2
      refine sp_drive (Rel.skC (q := q) hC w hsu) hw (by omega) (by omega) (by decide) (by decide) ?_ ?_
      · intro hn
        exact no g (hR.thrown (sameR.thrown r)) (fun z => by have := z.2.2.2; omega)
      · intro hx g' fg
        have hRg := fun s hr => relN hR fg.n (s := s) hr
        have ref : ∀ x, (match drv r (lsum r) (r 16 a) b 0 with | none => x = -9223372036854775808 | some v => x = v) → wp_X14_law a b r (fun y r' => x = y ∧ Rel g' r') := by
          intro x hxv
          unfold wp_X14_law
          intro r1 e1
          subst e1
          rw [e0 24 (by decide), if_neg (fun z => c0 (hL.2.2.2.1.mp z)), wi_isSkater, e0 16 (by decide), k01, if_pos c1, if_neg (by decide), wi_isIn, t01, if_pos (show 0 ≤ b ∧ b ≤ 4 by omega), if_neg (by decide)]
          refine ⟨⟨c1.1, by omega⟩, ?_⟩
          rw [up_other (o := 0) (b := 16) (by decide)]
          refine sp_nextTo (szT hs) hw.1 (by have := hw.2.1; omega) ?_
          rw [e0 12 (by decide), e0 13 (by decide), up_other (o := 0) (b := 5) (by decide), if_pos (show 0 ≤ nx (r 0 12) (r 0 13) (r 5) (r 16 a) b from hx)]
          refine ⟨⟨c1.1, by omega⟩, ?_⟩
          rw [up_other (o := 0) (b := 16) (by decide)]
          refine sp_lawOf h.1.skR (sameR.thrown r) hw.1 (by have := hw.2.1; omega) (by omega) (by omega) (by decide) (by decide) hx ?_
          intro s' hs'
          cases e : drv r (lsum r) (r 16 a) b 0 with
          | none =>
            rw [e] at hxv
            dsimp only at hxv ⊢
            intro z
            rw [if_neg z]
            exact ⟨hxv, hRg s' hs'⟩
          | some v =>
            rw [e] at hxv
            dsimp only at hxv ⊢
            intro z
            rw [if_pos z]
            exact ⟨hxv, hRg s' hs'⟩
        refine ref _ ?_
        cases drv r (lsum r) (r 16 a) b 0 <;> rfl
  · rw [if_neg c1, if_pos rfl]
    exact no q h0 (fun z => c1 z.2.1)
theorem op_where {q r : Mh} (a b : Int) (h : Rel q r) : wp_X13_where a b q (fun x q' => wp_X14_where a b r (fun y r' => x = y ∧ Rel q' r')) := by
  have hP := h.1.2.2.1
  have hd := hP.1
  have hs := hd.2.2.2.2.1.1
  have hS := hP.2.2.2.2.1
  have h0 : Rel q (up r 0 2 0) := h.thrown (sameR.thrown r)
  have e0 : ∀ j, j ≠ 2 → up r 0 2 0 0 j = r 0 j := fun j hj => up_slot hj
  have s3 := hS.2.1
  have no : ¬ ((0 ≤ a ∧ a < r 0 16) ∧ (0 ≤ b ∧ b ≤ 100)) → wp_X14_where a b r (fun y r' => -1 = y ∧ Rel q r') := by
    intro hn
    unfold wp_X14_where
    intro r1 e1
    subst e1
    rw [wi_isSkater, e0 16 (by decide), k01]
    by_cases c1 : 0 ≤ a ∧ a < r 0 16
    · rw [if_pos c1, if_neg (by decide), wi_isIn, t01, if_neg (show ¬ (0 ≤ b ∧ b ≤ 100) from fun z => hn ⟨c1, z⟩), if_neg (fun z => z rfl)]
      exact ⟨rfl, h0⟩
    · rw [if_neg c1, if_pos rfl]; exact ⟨rfl, h0⟩
  unfold wp_X13_where
  refine ⟨isP_4 hd.1, ?_⟩
  rw [wi_has, hS.1.1, k01]
  by_cases c1 : 0 ≤ a ∧ a < r 0 16
  · rw [if_pos c1, if_neg (by decide), wi_stepC, t01]
    by_cases c2 : 0 ≤ b ∧ b ≤ 100
    · rw [if_pos c2, if_pos (by decide)]
      refine sp_freshenSums h ?_
      intro g hC z8 z9 w hsu hsame
      have hR : Rel g r := ⟨hC, fun _ => w, fun _ => hsu⟩
      have hw := hS.2.2.2 a c1.1 c1.2
      unfold wp_X8_cellAhead
      refine sp_follow (Rel.skC (q := q) hC w hsu) c1.1 c1.2 c2.1 c2.2 ?_
      intro g' fg hv
      have hb := hv b.toNat (by omega)
      rw [show ((b.toNat : Nat) : Int) = b by omega] at hb
      rw [if_neg (by omega), if_neg (by omega), hb]
      refine ⟨⟨c2.1, by omega⟩, ?_⟩
      unfold wp_X14_where
      intro r1 e1
      subst e1
      rw [wi_isSkater, e0 16 (by decide), k01, if_pos c1, if_neg (by decide), wi_isIn, t01, if_pos c2, if_pos (by decide)]
      refine ⟨⟨c1.1, by omega⟩, ?_⟩
      intro x ex
      rw [up_other (o := 0) (b := 16) (by decide)] at ex
      have loop : ∀ (k : Nat) (n : Int) (u : Mh), 0 ≤ n → n + k = b → sameR r u → Lfp (F_X14_where a b (fun y r' => pth r (lsum r) (r 16 a) b.toNat = y ∧ Rel g' r')) (35, [pthZ r (lsum r) (r 16 a) n, n], u) := by
        intro k
        induction k with
        | zero =>
          intro n u n0 hn hu
          apply L_X14_where_35
          unfold B_X14_where_35
          rw [if_pos (by omega)]
          refine ⟨?_, relN hR fg hu⟩
          unfold pthZ
          rw [show n = b by omega]
        | succ k ih =>
          intro n u n0 hn hu
          apply L_X14_where_35
          unfold B_X14_where_35
          rw [if_neg (by omega)]
          refine sp_goesFrom h.1.skR hu (pth_wat hs hw _) n0 (by omega) ?_
          intro u' hu' y ey
          rw [w32_eq (by omega) (by omega)] at ey
          subst ey
          rw [← pthZ_succ n0]
          exact ih (n + 1) u' (by omega) (by omega) hu'
      rw [ex]
      exact loop b.toNat 0 _ (by omega) (by omega) (sameR.thrown r)
    · rw [if_neg c2, if_neg (fun z => z rfl)]
      exact no (fun z => c2 z.2)
  · rw [if_neg c1, if_pos rfl]
    exact no (fun z => c1 z.1)
theorem op_reaches {q r : Mh} (a b : Int) (h : Rel q r) : wp_X13_reaches a b q (fun x q' => wp_X14_reaches a b r (fun y r' => x = y ∧ Rel q' r')) := by
  have hP := h.1.2.2.1
  have hd := hP.1
  have hs := hd.2.2.2.2.1.1
  have hS := hP.2.2.2.2.1
  have h0 : Rel q (up r 0 2 0) := h.thrown (sameR.thrown r)
  have e0 : ∀ j, j ≠ 2 → up r 0 2 0 0 j = r 0 j := fun j hj => up_slot hj
  have s3 := hS.2.1
  have no : ¬ ((0 ≤ a ∧ a < r 0 16) ∧ (0 ≤ b ∧ b < r 0 12 * r 0 13)) → wp_X14_reaches a b r (fun y r' => -1 = y ∧ Rel q r') := by
    intro hn
    unfold wp_X14_reaches
    intro r1 e1
    subst e1
    rw [wi_isSkater, e0 16 (by decide), k01]
    by_cases c1 : 0 ≤ a ∧ a < r 0 16
    · rw [if_pos c1, if_neg (by decide), wi_cellT hs, if_neg (show ¬ (0 ≤ b ∧ b < r 0 12 * r 0 13) from fun z => hn ⟨c1, z⟩), if_neg (fun z => z rfl)]
      exact ⟨rfl, h0⟩
    · rw [if_neg c1, if_pos rfl]; exact ⟨rfl, h0⟩
  unfold wp_X13_reaches
  refine ⟨isP_4 hd.1, ?_⟩
  rw [wi_has, hS.1.1, k01]
  by_cases c1 : 0 ≤ a ∧ a < r 0 16
  · rw [if_pos c1, if_neg (by decide)]
    refine ⟨isP_4 hd.1, ?_⟩
    rw [wi_cellC hd]
    by_cases c2 : 0 ≤ b ∧ b < r 0 12 * r 0 13
    · rw [if_pos c2, if_pos (by decide)]
      refine sp_freshenSums h ?_
      intro g hC z8 z9 w hsu hsame
      have hR : Rel g r := ⟨hC, fun _ => w, fun _ => hsu⟩
      have hw := hS.2.2.2 a c1.1 c1.2
      unfold wp_X8_arrival
      refine sp_follow (Rel.skC (q := q) hC w hsu) c1.1 c1.2 (by decide) (by decide) ?_
      intro g' fg hv
      refine sp_arrival (P := pthZ r (lsum r) (r 16 a)) (by decide) (by decide) (fun n n0 n1 => ?_) ?_
      · have := hv n.toNat (by omega)
        rw [show ((n.toNat : Nat) : Int) = n by omega] at this
        exact this
      · unfold wp_X14_reaches
        intro r1 e1
        subst e1
        rw [wi_isSkater, e0 16 (by decide), k01, if_pos c1, if_neg (by decide), wi_cellT hs, if_pos c2, if_pos (by decide)]
        refine sp_comesTo h.1.skR (sameR.thrown r) c1.1 c1.2 s3 hw (by decide) (by decide) ?_ (by decide)
        intro s' hs'
        by_cases y : 0 ≤ fst1 (pthZ r (lsum r) (r 16 a)) b (100 + 1 : Int).toNat 0
        · rw [if_pos y, if_neg (by omega)]
          exact ⟨rfl, relN hR fg hs'⟩
        · rw [if_neg y, if_pos (by omega)]
          exact ⟨rfl, relN hR fg hs'⟩
    · rw [if_neg c2, if_neg (fun z => z rfl)]
      exact no (fun z => c2 z.2)
  · rw [if_neg c1, if_pos rfl]
    exact no (fun z => c1 z.1)
theorem fst1_cut {f : Int → Int} {v : Int} : ∀ (n k : Nat) (i : Int), fst1 f v n i = if fst1 f v (n + k) i < i + n then fst1 f v (n + k) i else -1 := by
  intro n
  induction n with
  | zero =>
    intro k i
    have := fst1_r (f := f) (v := v) (0 + k) i
    show (-1 : Int) = _
    by_cases z : fst1 f v (0 + k) i < i + (0 : Nat)
    · rw [if_pos z]
      rcases this with ⟨a, _⟩ | ⟨a, _, _⟩
      · exact a.symm
      · omega
    · rw [if_neg z]
  | succ n ih =>
    intro k i
    rw [show n + 1 + k = (n + k) + 1 by omega]
    unfold fst1
    by_cases e : f i = v
    · rw [if_pos e, if_pos e, if_pos (by omega)]
    · rw [if_neg e, if_neg e, ih k (i + 1), show i + 1 + (n : Int) = i + ((n + 1 : Nat) : Int) by omega]
theorem op_first {q r : Mh} (b : Int) (h : Rel q r) : wp_X13_first b q (fun x q' => wp_X14_first b r (fun y r' => x = y ∧ Rel q' r')) := by
  have hP := h.1.2.2.1
  have hd := hP.1
  have hs := hd.2.2.2.2.1.1
  have hS := hP.2.2.2.2.1
  have h0 : Rel q (up r 0 2 0) := h.thrown (sameR.thrown r)
  have e0 : ∀ j, j ≠ 2 → up r 0 2 0 0 j = r 0 j := fun j hj => up_slot hj
  have s3 := hS.2.1
  have s30 := hS.1.2.1
  unfold wp_X13_first
  refine ⟨isP_4 hd.1, ?_⟩
  rw [wi_cellC hd]
  by_cases c2 : 0 ≤ b ∧ b < r 0 12 * r 0 13
  · rw [if_pos c2, if_pos (by decide)]
    refine sp_freshenSums h ?_
    intro g hC z8 z9 w hsu hsame
    have hR : Rel g r := ⟨hC, fun _ => w, fun _ => hsu⟩
    have sk := Rel.skC (q := q) hC w hsu
    -- arrival of a skater
    let A : Int → Int := fun i => fst1 (pthZ r (lsum r) (r 16 i)) b 101 0
    have Ar : ∀ i, A i = -1 ∨ (0 ≤ A i ∧ A i < 101) := by
      intro i
      rcases fst1_r (f := pthZ r (lsum r) (r 16 i)) (v := b) 101 0 with ⟨a, _⟩ | ⟨a, c, _⟩
      · exact Or.inl a
      · exact Or.inr ⟨a, show fst1 (pthZ r (lsum r) (r 16 i)) b 101 0 < 101 from by have : fst1 (pthZ r (lsum r) (r 16 i)) b 101 0 < 0 + ((101 : Nat) : Int) := c; omega⟩
    -- who is first
    let fs : Nat → Int → Int × Int → Int × Int := fun n => Nat.rec (fun _ S => S) (fun _ ih i S => ih (i + 1) (if 0 ≤ A i ∧ A i < S.2 then (i, A i) else S)) n
    have fs_succ : ∀ n i S, fs (n + 1) i S = fs n (i + 1) (if 0 ≤ A i ∧ A i < S.2 then (i, A i) else S) := fun _ _ _ => rfl
    have ref : ∀ g', Rel g' r → wp_X14_first b r (fun y r' => (fs (r 0 16).toNat 0 (-2, 101)).1 = y ∧ Rel g' r') := by
      intro g' hg'
      unfold wp_X14_first
      intro r1 e1
      subst e1
      rw [wi_cellT hs, if_pos c2, if_pos (by decide)]
      have loop : ∀ (k : Nat) (i : Int) (S : Int × Int) (u : Mh), 0 ≤ i → i + k = r 0 16 → 0 ≤ S.2 → S.2 ≤ 101 → sameR r u → fs k i S = fs (r 0 16).toNat 0 (-2, 101) → Lfp (F_X14_first b (fun y r' => (fs (r 0 16).toNat 0 (-2, 101)).1 = y ∧ Rel g' r')) (24, [S.1, S.2, i], u) := by
        intro k
        induction k with
        | zero =>
          intro i S u i0 hi S0 S1 hu hz
          apply L_X14_first_24
          unfold B_X14_first_24
          rw [hu 0 16 (by decide) (by decide), if_pos (by omega)]
          have e : S = fs (r 0 16).toNat 0 (-2, 101) := hz
          exact ⟨by rw [← e], hg'.thrown hu⟩
        | succ k ih =>
          intro i S u i0 hi S0 S1 hu hz
          apply L_X14_first_24
          unfold B_X14_first_24
          rw [hu 0 16 (by decide) (by decide), if_neg (by omega), w32_eq (x := S.2 - 1) (by omega) (by omega)]
          have hw := hS.2.2.2 i i0 (by omega)
          rw [fs_succ] at hz
          have cut := fst1_cut (f := pthZ r (lsum r) (r 16 i)) (v := b) S.2.toNat (101 - S.2.toNat) 0
          rw [show S.2.toNat + (101 - S.2.toNat) = 101 by omega, show (0 : Int) + (S.2.toNat : Int) = S.2 by omega] at cut
          have cut2 : fst1 (pthZ r (lsum r) (r 16 i)) b S.2.toNat 0 = if A i < S.2 then A i else -1 := cut
          have go : ∀ S' u', sameR r u' → (S' = if 0 ≤ A i ∧ A i < S.2 then (i, A i) else S) → ∀ y : Int, y = w32 (i + 1) → Lfp (F_X14_first b (fun y r' => (fs (r 0 16).toNat 0 (-2, 101)).1 = y ∧ Rel g' r')) (24, [S'.1, S'.2, y], u') := by
            intro S' u' hu' eS y ey
            rw [w32_eq (by omega) (by omega)] at ey
            subst ey
            refine ih (i + 1) S' u' (by omega) (by omega) ?_ ?_ hu' (by rw [eS]; exact hz)
            · rw [eS]; split
              · rename_i hh; exact hh.1
              · exact S0
            · rw [eS]; split
              · rename_i hh; have := hh.2; show A i ≤ 101; omega
              · exact S1
          by_cases S00 : S.2 = 0
          · -- nobody comes sooner than at once
            have : ∀ s', sameR r s' → wp_X14_comesTo i b (S.2 - 1) s' (fun x1 h1 => if x1 < 0 then (∀ x2 : Int, x2 = w32 (i + 1) → Lfp (F_X14_first b (fun y r' => (fs (r 0 16).toNat 0 (-2, 101)).1 = y ∧ Rel g' r')) (24, [S.1, S.2, x2], h1)) else (if x1 < S.2 then (∀ x3 : Int, x3 = w32 (i + 1) → Lfp (F_X14_first b (fun y r' => (fs (r 0 16).toNat 0 (-2, 101)).1 = y ∧ Rel g' r')) (24, [i, x1, x3], h1)) else (∀ x4 : Int, x4 = w32 (i + 1) → Lfp (F_X14_first b (fun y r' => (fs (r 0 16).toNat 0 (-2, 101)).1 = y ∧ Rel g' r')) (24, [S.1, S.2, x4], h1)))) := by
              intro s' hs'
              have skip := go S s' hs' (by rw [if_neg (by omega)])
              unfold wp_X14_comesTo
              refine ⟨⟨i0, by omega⟩, ?_⟩
              intro x ex
              apply L_X14_comesTo_11
              unfold B_X14_comesTo_11
              by_cases e : x = b
              · rw [if_pos e, if_neg (fun z => z e)]
                dsimp only
                rw [if_neg (by decide), if_neg (by omega)]
                exact skip
              · rw [if_neg e, if_pos (by omega), if_pos e]
                dsimp only
                rw [if_pos (by decide)]
                exact skip
            exact this u hu
          · refine sp_comesTo h.1.skR hu i0 (by omega) s3 hw (by omega) (by omega) ?_ (by omega)
            intro s' hs'
            rw [show (S.2 - 1 + 1).toNat = S.2.toNat by omega, cut2]
            have ar := Ar i
            by_cases y : A i < S.2
            · rw [if_pos y]
              by_cases y2 : A i < 0
              · rw [if_pos y2]
                exact go S s' hs' (by rw [if_neg (by omega)])
              · rw [if_neg y2, if_pos y]
                exact go (i, A i) s' hs' (by rw [if_pos ⟨by omega, y⟩])
            · rw [if_neg y, if_pos (by decide)]
              exact go S s' hs' (by rw [if_neg (by omega)])
      exact loop (r 0 16).toNat 0 (-2, 101) _ (by omega) (by omega) (by show (0 : Int) ≤ 101; decide) (by show (101 : Int) ≤ 101; decide) (sameR.thrown r) rfl
    have loop : ∀ (k : Nat) (i : Int) (S : Int × Int) (u : Mh), 0 ≤ i → i + k = r 0 16 → frN g u → fs k i S = fs (r 0 16).toNat 0 (-2, 101) → Lfp (F_X8_firstSkater b (fun x q' => wp_X14_first b r (fun y r' => x = y ∧ Rel q' r'))) (9, [S.1, S.2, i], u) := by
      intro k
      induction k with
      | zero =>
        intro i S u i0 hi fu hz
        apply L_X8_firstSkater_9
        unfold B_X8_firstSkater_9
        have hcu : Core u r := hC.same fu.sc (sameR.refl r)
        refine ⟨isP_4 hcu.2.2.1.1.1, ?_⟩
        rw [hcu.2.2.1.2.2.2.2.1.1.1, if_pos (by omega)]
        have e : S = fs (r 0 16).toNat 0 (-2, 101) := hz
        show wp_X14_first b r (fun y r' => S.1 = y ∧ Rel u r')
        rw [e]
        exact ref u (relN hR fu (sameR.refl r))
      | succ k ih =>
        intro i S u i0 hi fu hz
        apply L_X8_firstSkater_9
        unfold B_X8_firstSkater_9
        have hcu : Core u r := hC.same fu.sc (sameR.refl r)
        refine ⟨isP_4 hcu.2.2.1.1.1, ?_⟩
        rw [hcu.2.2.1.2.2.2.2.1.1.1, if_neg (by omega)]
        rw [fs_succ] at hz
        refine sp_follow (sk.fr fu) i0 (by omega) (by decide) (by decide) ?_
        intro u' fu' hv
        refine sp_arrival (P := pthZ r (lsum r) (r 16 i)) (by decide) (by decide) (fun n n0 n1 => ?_) ?_
        · have := hv n.toNat (by omega)
          rw [show ((n.toNat : Nat) : Int) = n by omega] at this
          exact this
        · have fgu := fu.trans fu'
          have ar := Ar i
          show if (if A i < 0 then (-2 : Int) else A i) < 0 then _ else _
          by_cases y : A i < 0
          · rw [if_pos (show (if A i < 0 then (-2 : Int) else A i) < 0 by rw [if_pos y]; decide)]
            rw [if_neg (by omega)] at hz
            intro x ex
            rw [w32_eq (by omega) (by omega)] at ex
            subst ex
            exact ih (i + 1) S u' (by omega) (by omega) fgu hz
          · have ea : (if A i < 0 then (-2 : Int) else A i) = A i := if_neg y
            show if (if A i < 0 then (-2 : Int) else A i) < 0 then _ else (if S.2 ≤ (if A i < 0 then (-2 : Int) else A i) then _ else ∀ x4 : Int, x4 = w32 (i + 1) → Lfp _ (9, [i, (if A i < 0 then (-2 : Int) else A i), x4], u'))
            rw [ea, if_neg y]
            by_cases y2 : S.2 ≤ A i
            · rw [if_pos y2]
              rw [if_neg (by omega)] at hz
              intro x ex
              rw [w32_eq (by omega) (by omega)] at ex
              subst ex
              exact ih (i + 1) S u' (by omega) (by omega) fgu hz
            · rw [if_neg y2]
              rw [if_pos (by omega)] at hz
              intro x ex
              rw [w32_eq (by omega) (by omega)] at ex
              subst ex
              exact ih (i + 1) (i, A i) u' (by omega) (by omega) fgu hz
    unfold wp_X8_firstSkater
    exact loop (r 0 16).toNat 0 (-2, 101) g (by omega) (by omega) (frN.refl g) rfl
  · rw [if_neg c2, if_neg (fun z => z rfl)]
    unfold wp_X14_first
    intro r1 e1
    subst e1
    rw [wi_cellT hs, if_neg c2, if_neg (fun z => z rfl)]
    exact ⟨rfl, h0⟩
