/-! ===== what corks show of drops alone ===== -/
def frH (q g : Mh) : Prop := ∀ o, ¬ (127 ≤ o ∧ o ≤ 141) → g o = q o
theorem frH.trans {q g k : Mh} (h1 : frH q g) (h2 : frH g k) : frH q k := fun o h => (h2 o h).trans (h1 o h)
theorem frH.sc {q g : Mh} (h : frH q g) : sameC q g := fun o j a b c d => by rw [h o (by omega)]
theorem frH.ways {q g : Mh} (h : frH q g) (hp : isP (q 53 0)) (hw : waysOK q) : waysOK g := by
  have ep : g (q 53 0) = q (q 53 0) := by rcases hp with e | e <;> exact h _ (by omega)
  exact waysOK_congr (by rw [h 53 (by decide)]) (by rw [h 53 (by decide)]) ep (h 116 (by decide)) (h 117 (by decide)) (h 118 (by decide)) hw
theorem frH.rel {q g r s : Mh} (h : Rel q r) (f : frH q g) (hr : sameR r s) : Rel g s := h.keep f.sc (f 53 (by decide)) (f 116 (by decide)) (f 117 (by decide)) (f 118 (by decide)) (f 120 (by decide)) hr
theorem sp_showRow {r g : Mh} {i k a c : Int} {K : Mh → Prop} (h : Core g r) (w : waysOK g) (i0 : 0 ≤ i) (i1 : i < 24) (k0 : 0 ≤ k) (k1 : k < r 0 14) (a0 : 0 ≤ a) (a1 : a < r 0 12 * r 0 13) (c0 : 0 ≤ c) (c1 : c < r 0 12 * r 0 13)
    (hk : ∀ g', (∀ o, o ≠ 136 → g' o = g o) → (∀ t, 0 ≤ t → t < 31 → g' 136 (31 * i + t) = rgiv r k a c t) → (∀ j, ¬ (31 * i ≤ j ∧ j < 31 * i + 31) → g' 136 j = g 136 j) → K g') : wp_X2_showRow i k a c g K := by
  have h4 := h.2.2.1.2.2.1.2.1
  have loop : ∀ (n : Nat) (t : Int) (g' : Mh), 0 ≤ t → t + n = 31 → (∀ o, o ≠ 136 → g' o = g o) → (∀ u, 0 ≤ u → u < t → g' 136 (31 * i + u) = rgiv r k a c u) → (∀ j, ¬ (31 * i ≤ j ∧ j < 31 * i + t) → g' 136 j = g 136 j) → Lfp (F_X2_showRow i k a c K) (3, [t], g') := by
    intro n
    induction n with
    | zero =>
      intro t g' t0 hn f h1 h2
      apply L_X2_showRow_3
      unfold B_X2_showRow_3
      rw [if_pos (by omega)]
      exact hk g' f (fun u u0 u1 => h1 u u0 (by omega)) (fun j hj => h2 j (by omega))
    | succ n ih =>
      intro t g' t0 hn f h1 h2
      apply L_X2_showRow_3
      unfold B_X2_showRow_3
      rw [if_neg (by omega), w32_eq (x := i * 31) (by omega) (by omega), w32_eq (x := i * 31 + t) (by omega) (by omega)]
      intro x ex
      have fH : frH g g' := fun o ho => f o (by omega)
      have hg' : Core g' r := h.same fH.sc (sameR.refl r)
      have hd := hg'.2.2.1.1
      rw [if_neg (by omega), if_neg (by omega)]
      refine ⟨isP_4 hd.1, ?_⟩
      refine sp_alone hd.cp (fH.ways h.2.2.1.1.1 w) hg'.cs k0 (by omega) (hg'.2.2.1.2.2.1.kc k0 k1) (hg'.2.2.1.2.1.rs hd) a0 (hd.cl a1) c0 (hd.cl c1) (by omega) (by omega) ?_
      rw [cgiv_rgiv hg'.2.2.1 hg'.2.2.2.1 k0 k1]
      refine ⟨⟨by omega, by omega⟩, ?_⟩
      intro g2 e2 y ey
      rw [w32_eq (by omega) (by omega)] at ey
      subst ey
      rw [show x = 31 * i + t by omega] at e2
      refine ih (t + 1) g2 (by omega) (by omega) (fun o ho => by rw [e2, up_other ho, f o ho]) (fun u u0 u1 => ?_) (fun j hj => ?_)
      · rw [e2]
        by_cases z : u = t
        · rw [z, up_self]
        · rw [up_slot (by omega)]; exact h1 u u0 (by omega)
      · rw [e2, up_slot (by omega)]; exact h2 j (by omega)
  unfold wp_X2_showRow
  exact loop 31 0 g (by omega) (by omega) (fun _ _ => rfl) (fun u a b => by omega) (fun _ _ => rfl)
theorem sp_layShown {q r u : Mh} {i : Int} {K : Mh → Prop} (h : Core q r) (hr : sameR r u) (i0 : 0 ≤ i) (i1 : i < 24) (k0 : 0 ≤ u 37 i) (k1 : u 37 i < r 0 14) (a0 : 0 ≤ u 38 i) (a1 : u 38 i < 48)
    (hk : ∀ u', (∀ o, o ≠ 36 → u' o = u o) → (∀ k t, 0 ≤ k → k < r 0 15 → 0 ≤ t → t < 31 → u' 36 (186 * i + 31 * k + t) = rgiv r (u 37 i) (u 38 i) (r 14 k) t) → (∀ j, ¬ (186 * i ≤ j ∧ j < 186 * i + 186) → u' 36 j = u 36 j) → K u') : wp_X14_layShown i u K := by
  have hC := h.2.2.1.2.2.2.1
  have h6 := hC.2.1
  have h60 := hC.1.2.1
  have hm := szs_mul h.2.2.1.1.2.2.2.2.1.1
  have inner : ∀ (n : Nat) (k t : Int) (s : Mh), 0 ≤ k → k < r 0 15 → 0 ≤ t → t + n = 31 → (∀ o, o ≠ 36 → s o = u o) → (∀ l v, 0 ≤ l → 0 ≤ v → v < 31 → (l < k ∨ (l = k ∧ v < t)) → s 36 (186 * i + 31 * l + v) = rgiv r (u 37 i) (u 38 i) (r 14 l) v) → (∀ j, ¬ (186 * i ≤ j ∧ j < 186 * i + 186) → s 36 j = u 36 j) → (∀ s', (∀ o, o ≠ 36 → s' o = u o) → (∀ l v, 0 ≤ l → l < k + 1 → 0 ≤ v → v < 31 → s' 36 (186 * i + 31 * l + v) = rgiv r (u 37 i) (u 38 i) (r 14 l) v) → (∀ j, ¬ (186 * i ≤ j ∧ j < 186 * i + 186) → s' 36 j = u 36 j) → Lfp (F_X14_layShown i K) (2, [k + 1], s')) → Lfp (F_X14_layShown i K) (12, [k, t], s) := by
    intro n
    induction n with
    | zero =>
      intro k t s k0' k1' t0 hn f h1 h2 hz
      apply L_X14_layShown_12
      unfold B_X14_layShown_12
      rw [if_pos (by omega)]
      intro x ex
      rw [w32_eq (by omega) (by omega)] at ex
      subst ex
      exact hz s f (fun l v l0 l1 v0 v1 => h1 l v l0 v0 v1 (by omega)) h2
    | succ n ih =>
      intro k t s k0' k1' t0 hn f h1 h2 hz
      apply L_X14_layShown_12
      unfold B_X14_layShown_12
      have hrs : sameR r s := fun o j a b => by rw [f o (by omega), hr o j a b]
      have hw := hC.2.2.2 k k0' k1'
      rw [if_neg (by omega)]
      refine ⟨⟨i0, i1⟩, ⟨i0, i1⟩, ⟨k0', by omega⟩, ?_⟩
      rw [f 37 (by decide), f 38 (by decide), hrs.row (o := 14) (by decide) (by decide)]
      refine rgives (h.ro.thrown hrs) k0 (by rw [hrs 0 14 (by decide) (by decide)]; exact k1) a0 a1 hw.1 (by have := hw.2.1; omega) (by omega) (by omega) ?_
      rw [rgiv_sameR hrs, w32_eq (x := 6 * i) (by omega) (by omega), w32_eq (x := 6 * i + k) (by omega) (by omega), w32_eq (x := (6 * i + k) * 31) (by omega) (by omega), w32_eq (x := (6 * i + k) * 31 + t) (by omega) (by omega)]
      refine ⟨⟨by omega, by omega⟩, ?_⟩
      intro s1 e1 x ex
      rw [w32_eq (by omega) (by omega)] at ex
      subst ex
      rw [show (6 * i + k) * 31 + t = 186 * i + 31 * k + t by omega] at e1
      refine ih k (t + 1) s1 k0' k1' (by omega) (by omega) (fun o ho => by rw [e1, up_other ho, f o ho]) (fun l v l0 v0 v1 hl => ?_) (fun j hj => by rw [e1, up_slot (by omega)]; exact h2 j hj) hz
      rw [e1]
      by_cases z : l = k ∧ v = t
      · rw [z.1, z.2, up_self]
      · rw [up_slot (by omega)]
        exact h1 l v l0 v0 v1 (by omega)
  have outer : ∀ (n : Nat) (k : Int) (s : Mh), 0 ≤ k → k + n = r 0 15 → (∀ o, o ≠ 36 → s o = u o) → (∀ l v, 0 ≤ l → l < k → 0 ≤ v → v < 31 → s 36 (186 * i + 31 * l + v) = rgiv r (u 37 i) (u 38 i) (r 14 l) v) → (∀ j, ¬ (186 * i ≤ j ∧ j < 186 * i + 186) → s 36 j = u 36 j) → Lfp (F_X14_layShown i K) (2, [k], s) := by
    intro n
    induction n with
    | zero =>
      intro k s k0' hn f h1 h2
      apply L_X14_layShown_2
      unfold B_X14_layShown_2
      rw [f 0 (by decide), hr 0 15 (by decide) (by decide), if_pos (by omega)]
      exact hk s f (fun l t l0 l1 t0 t1 => h1 l t l0 (by omega) t0 t1) h2
    | succ n ih =>
      intro k s k0' hn f h1 h2
      apply L_X14_layShown_2
      unfold B_X14_layShown_2
      rw [f 0 (by decide), hr 0 15 (by decide) (by decide), if_neg (by omega)]
      refine inner 31 k 0 s k0' (by omega) (by omega) (by omega) f (fun l v l0 v0 v1 hl => h1 l v l0 (by omega) v0 v1) h2 (fun s' f' h1' h2' => ih (k + 1) s' (by omega) (by omega) f' h1' h2')
  unfold wp_X14_layShown
  exact outer (r 0 15).toNat 0 u (by omega) (by omega) (fun _ _ => rfl) (fun l v a b => by omega) (fun _ _ => rfl)
/-! ===== looks ===== -/
def iabs (x : Int) : Int := if x < 0 then -x else x
/-- how much the shown differ at a place: cork by cork, step by step -/
def dfA (r : Mh) (k a l c : Int) (i : Int) : Int := iabs (rgiv r l c (r 14 (i / 31)) (i % 31) - rgiv r k a (r 14 (i / 31)) (i % 31))
def dfS (r : Mh) (k l c a : Int) : Int := sumN (dfA r k a l c) (31 * r 0 15).toNat 0
theorem dfA_le {q r : Mh} (h : Core q r) {k l : Int} (k0 : 0 ≤ k) (k1 : k < r 0 14) (l0 : 0 ≤ l) (l1 : l < r 0 14) (a c i : Int) : 0 ≤ dfA r k a l c i ∧ dfA r k a l c i ≤ 792 := by
  have h1 := rgiv_le h.ro k0 k1 a (r 14 (i / 31)) (i % 31)
  have h2 := rgiv_le h.ro l0 l1 c (r 14 (i / 31)) (i % 31)
  unfold dfA iabs
  split <;> omega
theorem sp_corkAt {r u : Mh} {i : Int} {K : Int → Mh → Prop} (h : Core u r) (i0 : 0 ≤ i) (i1 : i < r 0 15) (hK : K (r 14 i) u) : wp_X7_orZero shC (u 53 0 + 27) i u K := by
  have hC := h.2.2.1.2.2.2.1
  rw [wi_orZero (by rw [hC.2.2.1.1, isP_27 h.2.2.1.1.1]; exact hC.2.1), hC.2.2.1.rf]
  have er2 : rsf (r 0 15) (fun j => r 14 (0 + j)) i = r 14 i := by unfold rsf; rw [if_neg (by omega), if_neg (by omega)]; simp
  rw [er2]
  exact hK
theorem sp_differenceFrom {r u : Mh} {k a l c : Int} {K : Int → Mh → Prop} (h : Core u r) (w : waysOK u) (k0 : 0 ≤ k) (k1 : k < r 0 14) (l0 : 0 ≤ l) (l1 : l < r 0 14) (a0 : 0 ≤ a) (a1 : a < r 0 12 * r 0 13)
    (hs : ∀ k t, 0 ≤ k → k < r 0 15 → 0 ≤ t → t < 31 → u 136 (31 * k + t) = rgiv r l c (r 14 k) t) (hK : K (dfS r k l c a) u) : wp_X2_differenceFrom k a u K := by
  have hd := h.2.2.1.1
  have hm := szs_mul hd.2.2.2.2.1.1
  have hC := h.2.2.1.2.2.2.1
  have h6 := hC.2.1
  have h60 := hC.1.2.1
  have h4 := h.2.2.1.2.2.1.2.1
  have inner : ∀ (n : Nat) (m : Nat) (v ck st : Int), 0 ≤ ck → ck < r 0 15 → 0 ≤ st → st + n = 31 → 31 * ck + st + n + m = 31 * r 0 15 → 0 ≤ v → v ≤ 792 * (31 * ck + st) → v + sumN (dfA r k a l c) (n + m) (31 * ck + st) = dfS r k l c a → (∀ v', 0 ≤ v' → v' ≤ 792 * (31 * (ck + 1)) → v' + sumN (dfA r k a l c) m (31 * (ck + 1)) = dfS r k l c a → Lfp (F_X2_differenceFrom k a K) (5, [v', ck + 1], u)) → Lfp (F_X2_differenceFrom k a K) (43, [v, ck, r 14 ck, st], u) := by
    intro n
    induction n with
    | zero =>
      intro m v ck st ck0 ck1 st0 hn hm' v0 v1 hv hz
      apply L_X2_differenceFrom_43
      unfold B_X2_differenceFrom_43
      rw [if_pos (by omega)]
      intro x ex
      rw [w32_eq (by omega) (by omega)] at ex
      subst ex
      rw [show 31 * ck + st = 31 * (ck + 1) by omega, show 0 + m = m by omega] at hv
      exact hz v v0 (by omega) hv
    | succ n ih =>
      intro m v ck st ck0 ck1 st0 hn hm' v0 v1 hv hz
      apply L_X2_differenceFrom_43
      unfold B_X2_differenceFrom_43
      have hw := hC.2.2.2 ck ck0 ck1
      rw [if_neg (by omega)]
      refine ⟨isP_4 hd.1, ?_⟩
      refine sp_alone hd.cp w h.cs k0 (by omega) (h.2.2.1.2.2.1.kc k0 k1) (h.2.2.1.2.1.rs hd) a0 (hd.cl a1) hw.1 (hd.cl hw.2.1) (by omega) (by omega) ?_
      rw [cgiv_rgiv h.2.2.1 h.2.2.2.1 k0 k1, w32_eq (x := ck * 31) (by omega) (by omega), w32_eq (x := ck * 31 + st) (by omega) (by omega), show ck * 31 + st = 31 * ck + st by omega, hs ck st ck0 ck1 st0 (by omega)]
      refine ⟨⟨by omega, by omega⟩, ?_⟩
      have b1 := rgiv_le h.ro l0 l1 c (r 14 ck) st
      have b2 := rgiv_le h.ro k0 k1 a (r 14 ck) st
      have ed : dfA r k a l c (31 * ck + st) = iabs (rgiv r l c (r 14 ck) st - rgiv r k a (r 14 ck) st) := by
        unfold dfA
        rw [show (31 * ck + st) / 31 = ck by omega, show (31 * ck + st) % 31 = st by omega]
      have ea : (if 0 ≤ w32 (rgiv r k a (r 14 ck) st - rgiv r l c (r 14 ck) st) then w32 (rgiv r k a (r 14 ck) st - rgiv r l c (r 14 ck) st) else w32 (0 - w32 (rgiv r k a (r 14 ck) st - rgiv r l c (r 14 ck) st))) = dfA r k a l c (31 * ck + st) := by
        rw [ed, w32_eq (x := rgiv r k a (r 14 ck) st - rgiv r l c (r 14 ck) st) (by omega) (by omega), w32_eq (by omega) (by omega)]
        unfold iabs
        split <;> split <;> omega
      have bb := dfA_le h k0 k1 l0 l1 a c (31 * ck + st)
      rw [ea]
      intro x ex y ey
      rw [w32_eq (by omega) (by omega)] at ex
      rw [w32_eq (by omega) (by omega)] at ey
      subst ex; subst ey
      rw [show n + 1 + m = (n + m) + 1 by omega] at hv
      have hv2 : v + (dfA r k a l c (31 * ck + st) + sumN (dfA r k a l c) (n + m) (31 * ck + st + 1)) = dfS r k l c a := hv
      refine ih m _ ck (st + 1) ck0 ck1 (by omega) (by omega) (by omega) (by omega) (by omega) ?_ hz
      rw [show 31 * ck + (st + 1) = 31 * ck + st + 1 by omega]
      omega
  have outer : ∀ (n : Nat) (v ck : Int), 0 ≤ ck → ck + n = r 0 15 → 0 ≤ v → v ≤ 792 * (31 * ck) → v + sumN (dfA r k a l c) (31 * n) (31 * ck) = dfS r k l c a → Lfp (F_X2_differenceFrom k a K) (5, [v, ck], u) := by
    intro n
    induction n with
    | zero =>
      intro v ck ck0 hn v0 v1 hv
      apply L_X2_differenceFrom_5
      unfold B_X2_differenceFrom_5
      refine ⟨isP_4 hd.1, ?_⟩
      rw [hC.1.1, if_pos (by omega)]
      rw [show 31 * 0 = 0 from rfl] at hv
      unfold sumN at hv
      rw [show v = dfS r k l c a by omega]
      exact hK
    | succ n ih =>
      intro v ck ck0 hn v0 v1 hv
      apply L_X2_differenceFrom_5
      unfold B_X2_differenceFrom_5
      refine ⟨isP_4 hd.1, ?_⟩
      rw [hC.1.1, if_neg (by omega)]
      refine sp_corkAt h ck0 (by omega) ?_
      refine inner 31 (31 * n) v ck 0 ck0 (by omega) (by omega) (by omega) (by omega) v0 (by omega) ?_ (fun v' a1 a2 a3 => ih v' (ck + 1) (by omega) (by omega) a1 a2 a3)
      rw [show 31 + 31 * n = 31 * (n + 1) by omega, Int.add_zero]
      exact hv
  unfold wp_X2_differenceFrom
  refine outer (r 0 15).toNat 0 0 (by omega) (by omega) (by omega) (by omega) ?_
  unfold dfS
  rw [show 31 * (r 0 15).toNat = (31 * r 0 15).toNat by omega, show (31 * 0 : Int) = 0 from rfl]
  omega
def nr (D : Int → Int) (wt : Int → Bool) : Nat → Int → Int × Int → Int × Int
  | 0, _, S => S
  | n + 1, a, S => nr D wt n (a + 1) (if wt a = true ∧ (S.1 < 0 ∨ D a < S.2) then (a, D a) else S)
theorem nr_any (D : Int → Int) (wt : Int → Bool) : ∀ (n : Nat) (a c x y : Int), a ≤ c → c < a + n → wt c = true → nr D wt n a (-1, x) = nr D wt n a (-1, y) := by
  intro n
  induction n with
  | zero => intro a c x y h1 h2 _; omega
  | succ n ih =>
    intro a c x y h1 h2 hc
    unfold nr
    by_cases z : wt a = true
    · rw [if_pos ⟨z, Or.inl (by show (-1 : Int) < 0; decide)⟩, if_pos ⟨z, Or.inl (by show (-1 : Int) < 0; decide)⟩]
    · rw [if_neg (fun y => z y.1), if_neg (fun y => z y.1)]
      have : c ≠ a := fun e => z (by rw [← e]; exact hc)
      exact ih (a + 1) c x y (by omega) (by omega) hc
theorem op_looks {q r : Mh} (k l c wh : Int) (h : Rel q r) : wp_X13_looks k l c wh q (fun x q' => wp_X14_looks k l c wh r (fun y r' => x = y ∧ Rel q' r')) := by
  have hP := h.1.2.2.1
  have hd := hP.1
  have hg := h.1.2.2.2.1
  have hs := hd.2.2.2.2.1.1
  have hm := szs_mul hs
  have hKn := hP.2.2.1
  have h4 := hKn.2.1
  have hC := hP.2.2.2.1
  have h6 := hC.2.1
  have h60 := hC.1.2.1
  have h0 : Rel q (up r 0 2 0) := h.thrown (sameR.thrown r)
  have e0 : ∀ j, j ≠ 2 → up r 0 2 0 0 j = r 0 j := fun j hj => up_slot hj
  have k01 : ∀ x m : Int, (if x < 0 then (0 : Int) else if m ≤ x then 0 else 1) = (if 0 ≤ x ∧ x < m then 1 else 0) := by
    intro x m
    by_cases z : x < 0
    · rw [if_pos z, if_neg (by omega)]
    · rw [if_neg z]
      by_cases y : m ≤ x
      · rw [if_pos y, if_neg (by omega)]
      · rw [if_neg y, if_pos (by omega)]
  have t01 : ∀ x l u : Int, (if x < l then (0 : Int) else if u < x then 0 else 1) = (if l ≤ x ∧ x ≤ u then 1 else 0) := by
    intro x l u
    by_cases z : x < l
    · rw [if_pos z, if_neg (by omega)]
    · rw [if_neg z]
      by_cases y : u < x
      · rw [if_pos y, if_neg (by omega)]
      · rw [if_neg y, if_pos (by omega)]
  have no : ¬ ((0 ≤ k ∧ k < r 0 14) ∧ (0 ≤ l ∧ l < r 0 14) ∧ watR r c ∧ (0 ≤ wh ∧ wh ≤ 1)) → wp_X14_looks k l c wh r (fun y r' => -1 = y ∧ Rel q r') := by
    intro hn
    unfold wp_X14_looks
    intro r1 e1
    subst e1
    rw [wi_isKind, e0 14 (by decide), k01]
    by_cases c1 : 0 ≤ k ∧ k < r 0 14
    · rw [if_pos c1, if_neg (by decide), wi_isKind, e0 14 (by decide), k01]
      by_cases c2 : 0 ≤ l ∧ l < r 0 14
      · rw [if_pos c2, if_neg (by decide), wi_waterT hs]
        by_cases c3 : watR r c
        · rw [if_pos c3, if_neg (by decide), wi_isIn, t01]
          rw [if_neg (show ¬ (0 ≤ wh ∧ wh ≤ 1) from fun z => hn ⟨c1, c2, c3, z⟩), if_neg (fun z => z rfl)]
          exact ⟨rfl, h0⟩
        · rw [if_neg c3, if_pos rfl]; exact ⟨rfl, h0⟩
      · rw [if_neg c2, if_pos rfl]; exact ⟨rfl, h0⟩
    · rw [if_neg c1, if_pos rfl]; exact ⟨rfl, h0⟩
  have l46 : ¬ ((0 ≤ k ∧ k < r 0 14) ∧ (0 ≤ l ∧ l < r 0 14) ∧ watR r c) → Lfp (F_X13_looks k l c wh (fun x q' => wp_X14_looks k l c wh r (fun y r' => x = y ∧ Rel q' r'))) (46, [], q) := by
    intro hn
    apply L_X13_looks_46
    unfold B_X13_looks_46
    apply L_X13_looks_47
    unfold B_X13_looks_47
    rw [if_pos rfl]
    exact no (fun z => hn ⟨z.1, z.2.1, z.2.2.1⟩)
  unfold wp_X13_looks
  refine ⟨isP_4 hd.1, ?_⟩
  rw [wi_has, hKn.1.1, k01]
  by_cases c1 : 0 ≤ k ∧ k < r 0 14
  · rw [if_pos c1, if_neg (by decide), wi_has, hKn.1.1, k01]
    by_cases c2 : 0 ≤ l ∧ l < r 0 14
    · rw [if_pos c2, if_neg (by decide), wi_wet hd hg]
      by_cases c3 : watR r c
      · rw [if_pos c3, if_neg (by decide)]
        apply L_X13_looks_47
        unfold B_X13_looks_47
        rw [if_neg (by decide)]
        by_cases c4 : wh < 0
        · rw [if_pos c4]; exact no (fun z => by have := z.2.2.2.1; omega)
        rw [if_neg c4]
        by_cases c5 : wh ≤ 1
        · rw [if_pos c5]
          refine sp_freshenWays hd.cp h.2.1 ?_
          intro g f z w
          have hR := h.fw f w (sameR.refl r)
          have cc1 : c < 48 := by have := c3.2.1; omega
          let D : Int → Int := dfS r k l c
          let cs : Nat := (r 0 12 * r 0 13).toNat
          have wtc : wtr r c = true := by unfold wtr; simp [c3.2.2]
          have db : ∀ (n : Nat) (i : Int) (a : Int), 0 ≤ sumN (dfA r k a l c) n i ∧ sumN (dfA r k a l c) n i ≤ 792 * n := by
            intro n
            induction n with
            | zero => intro i a; unfold sumN; omega
            | succ n ih =>
              intro i a
              have h1 := dfA_le h.1 c1.1 c1.2 c2.1 c2.2 a c i
              have h2 := ih (i + 1) a
              unfold sumN
              omega
          -- the reference
          have ref : ∀ g', Rel g' r → ∀ x, (x = if wh = 0 then (nr D (wtr r) cs 0 (-1, 0)).1 else (nr D (wtr r) cs 0 (-1, 0)).2) → wp_X14_looks k l c wh r (fun y r' => x = y ∧ Rel g' r') := by
            intro g' hg' x ex
            unfold wp_X14_looks
            intro r1 e1
            subst e1
            rw [wi_isKind, e0 14 (by decide), k01, if_pos c1, if_neg (by decide), wi_isKind, e0 14 (by decide), k01, if_pos c2, if_neg (by decide), wi_waterT hs, if_pos c3, if_neg (by decide), wi_isIn, t01, if_pos (show 0 ≤ wh ∧ wh ≤ 1 by omega), if_pos (by decide)]
            intro u1 e1 u2 e2
            have s2 : sameR r u2 := fun o j a b => by rw [e2, up_ne _ (by omega), e1, up_ne _ (by omega), up_ne _ (by omega)]
            have v37 : u2 37 0 = l := by rw [e2, up_other (by decide), e1, up_self]
            have v38 : u2 38 0 = c := by rw [e2, up_self]
            refine sp_layShown h.1 s2 (by decide) (by decide) (by rw [v37]; exact c2.1) (by rw [v37]; exact c2.2) (by rw [v38]; exact c3.1) (by rw [v38]; exact cc1) ?_
            intro u3 f3 w3 _
            rw [v37, v38] at w3
            let H : Mh → Prop := fun u => sameR r u ∧ ∀ k t, 0 ≤ k → k < r 0 15 → 0 ≤ t → t < 31 → u 36 (31 * k + t) = rgiv r l c (r 14 k) t
            have outer : ∀ (n : Nat) (a : Int) (S : Int × Int) (u : Mh), 0 ≤ a → a + n = r 0 12 * r 0 13 → H u → nr D (wtr r) n a S = nr D (wtr r) cs 0 (-1, 0) → Lfp (F_X14_looks k l c wh (fun y r' => x = y ∧ Rel g' r')) (69, [S.1, S.2, a], u) := by
              intro n
              induction n with
              | zero =>
                intro a S u a0 hn hu hz
                apply L_X14_looks_69
                unfold B_X14_looks_69 wp_X14_cells
                dsimp only
                rw [hu.1 0 12 (by decide) (by decide), hu.1 0 13 (by decide) (by decide), w32_eq (by omega) (by omega), if_pos (by omega)]
                have eS : S = nr D (wtr r) cs 0 (-1, 0) := hz
                rw [← eS] at ex
                by_cases w0 : wh = 0
                · rw [if_neg (fun z => z w0)]
                  rw [if_pos w0] at ex
                  exact ⟨ex, hg'.thrown hu.1⟩
                · rw [if_pos w0]
                  rw [if_neg w0] at ex
                  exact ⟨ex, hg'.thrown hu.1⟩
              | succ n ih =>
                intro a S u a0 hn hu hz
                apply L_X14_looks_69
                unfold B_X14_looks_69 wp_X14_cells
                dsimp only
                rw [hu.1 0 12 (by decide) (by decide), hu.1 0 13 (by decide) (by decide), w32_eq (by omega) (by omega), if_neg (by omega), hu.1.row (o := 5) (by decide) (by decide)]
                refine ⟨⟨a0, by omega⟩, ?_⟩
                have hz2 : nr D (wtr r) n (a + 1) (if wtr r a = true ∧ (S.1 < 0 ∨ D a < S.2) then (a, D a) else S) = nr D (wtr r) cs 0 (-1, 0) := hz
                by_cases hl : r 5 a = 2
                · rw [if_neg (fun z => z hl)]
                  have wf : ¬ (wtr r a = true ∧ (S.1 < 0 ∨ D a < S.2)) := by unfold wtr; simp [hl]
                  rw [if_neg wf] at hz2
                  intro y ey
                  rw [w32_eq (by omega) (by omega)] at ey
                  subst ey
                  exact ih (a + 1) S u (by omega) (by omega) hu hz2
                · rw [if_pos hl]
                  have wt : wtr r a = true := by unfold wtr; simp [hl]
                  intro u4 e4 u5 e5
                  have s5 : sameR r u5 := fun o j x y => by rw [e5, up_ne _ (by omega), e4, up_ne _ (by omega), hu.1 o j x y]
                  have v37 : u5 37 1 = k := by rw [e5, up_other (by decide), e4, up_self]
                  have v38 : u5 38 1 = a := by rw [e5, up_self]
                  refine sp_layShown h.1 s5 (by decide) (by decide) (by rw [v37]; exact c1.1) (by rw [v37]; exact c1.2) (by rw [v38]; exact a0) (by rw [v38]; omega) ?_
                  intro u6 f6 w6 x6
                  rw [v37, v38] at w6
                  have s6 : sameR r u6 := fun o j x y => by rw [f6 o (by omega), s5 o j x y]
                  have l6 : ∀ k t, 0 ≤ k → k < r 0 15 → 0 ≤ t → t < 31 → u6 36 (31 * k + t) = rgiv r l c (r 14 k) t := by
                    intro k t k0 k1 t0 t1
                    rw [x6 _ (by omega), e5, up_other (by decide), e4, up_other (by decide)]
                    exact hu.2 k t k0 k1 t0 t1
                  -- the sum
                  have sm : ∀ (m : Nat) (i v : Int), 0 ≤ i → i + m = 31 * r 0 15 → 0 ≤ v → v ≤ 792 * i → v + sumN (dfA r k a l c) m i = D a → Lfp (F_X14_looks k l c wh (fun y r' => x = y ∧ Rel g' r')) (118, [S.1, S.2, a, v, i], u6) := by
                    intro m
                    induction m with
                    | zero =>
                      intro i v i0 hi v0 v1 hv
                      apply L_X14_looks_118
                      unfold B_X14_looks_118
                      rw [s6 0 15 (by decide) (by decide), w32_eq (by omega) (by omega), if_pos (by omega)]
                      unfold sumN at hv
                      have ev : v = D a := by omega
                      by_cases y1 : S.1 < 0
                      · rw [if_pos y1]
                        rw [if_pos ⟨wt, Or.inl y1⟩] at hz2
                        intro y ey
                        rw [w32_eq (by omega) (by omega)] at ey
                        subst ey
                        rw [ev]
                        exact ih (a + 1) (a, D a) u6 (by omega) (by omega) ⟨s6, l6⟩ hz2
                      · rw [if_neg y1]
                        by_cases y2 : v < S.2
                        · rw [if_pos y2]
                          rw [if_pos ⟨wt, Or.inr (by omega)⟩] at hz2
                          intro y ey
                          rw [w32_eq (by omega) (by omega)] at ey
                          subst ey
                          rw [ev]
                          exact ih (a + 1) (a, D a) u6 (by omega) (by omega) ⟨s6, l6⟩ hz2
                        · rw [if_neg y2]
                          rw [if_neg (by omega)] at hz2
                          intro y ey
                          rw [w32_eq (by omega) (by omega)] at ey
                          subst ey
                          exact ih (a + 1) S u6 (by omega) (by omega) ⟨s6, l6⟩ hz2
                    | succ m ihm =>
                      intro i v i0 hi v0 v1 hv
                      apply L_X14_looks_118
                      unfold B_X14_looks_118
                      rw [s6 0 15 (by decide) (by decide), w32_eq (x := 31 * r 0 15) (by omega) (by omega), if_neg (by omega), w32_eq (x := 186 + i) (by omega) (by omega)]
                      refine ⟨⟨i0, by omega⟩, ⟨by omega, by omega⟩, ?_⟩
                      have p1 : u6 36 i = rgiv r l c (r 14 (i / 31)) (i % 31) := by
                        have := l6 (i / 31) (i % 31) (by omega) (by omega) (by omega) (by omega)
                        rw [show 31 * (i / 31) + i % 31 = i by omega] at this
                        exact this
                      have p2 : u6 36 (186 + i) = rgiv r k a (r 14 (i / 31)) (i % 31) := by
                        have := w6 (i / 31) (i % 31) (by omega) (by omega) (by omega) (by omega)
                        rw [show 186 * 1 + 31 * (i / 31) + i % 31 = 186 + i by omega] at this
                        exact this
                      rw [p1, p2]
                      have b1 := rgiv_le h.1.ro c2.1 c2.2 c (r 14 (i / 31)) (i % 31)
                      have b2 := rgiv_le h.1.ro c1.1 c1.2 a (r 14 (i / 31)) (i % 31)
                      have bb := dfA_le h.1 c1.1 c1.2 c2.1 c2.2 a c i
                      rw [w32_eq (x := rgiv r l c (r 14 (i / 31)) (i % 31) - rgiv r k a (r 14 (i / 31)) (i % 31)) (by omega) (by omega)]
                      unfold sumN at hv
                      have ed : dfA r k a l c i = iabs (rgiv r l c (r 14 (i / 31)) (i % 31) - rgiv r k a (r 14 (i / 31)) (i % 31)) := rfl
                      unfold iabs at ed
                      intro x4 ex4
                      rw [← ex4] at ed
                      by_cases y : 0 ≤ x4
                      · rw [if_pos y]
                        rw [if_neg (by omega)] at ed
                        intro x5 ex5 x6 ex6
                        rw [w32_eq (by omega) (by omega)] at ex5 ex6
                        subst ex5; subst ex6
                        exact ihm (i + 1) _ (by omega) (by omega) (by omega) (by omega) (by omega)
                      · rw [if_neg y, w32_eq (x := -x4) (by omega) (by omega)]
                        rw [if_pos (by omega)] at ed
                        intro x5 ex5 x6 ex6
                        rw [w32_eq (by omega) (by omega)] at ex5 ex6
                        subst ex5; subst ex6
                        exact ihm (i + 1) _ (by omega) (by omega) (by omega) (by omega) (by omega)
                  refine sm (31 * r 0 15).toNat 0 0 (by omega) (by omega) (by omega) (by omega) ?_
                  show 0 + sumN (dfA r k a l c) (31 * r 0 15).toNat 0 = dfS r k l c a
                  unfold dfS
                  omega
            refine outer cs 0 (-1, 0) u3 (by omega) (by show (0 : Int) + ((r 0 12 * r 0 13).toNat : Int) = _; omega) ⟨fun o j a b => by rw [f3 o (by omega), s2 o j a b], fun k t k0 k1 t0 t1 => ?_⟩ rfl
            have := w3 k t k0 k1 t0 t1
            rw [show 186 * 0 + 31 * k + t = 31 * k + t by omega] at this
            exact this
          -- the class
          have hdg := hR.1.2.2.1.1
          have hCg := hR.1.2.2.1.2.2.2.1
          unfold wp_X2_seekNearest
          refine ⟨isP_4 hdg.1, ?_⟩
          intro x1 ex1
          rw [hCg.1.1] at ex1
          subst ex1
          let H : Mh → Prop := fun u => frH g u ∧ ∀ k t, 0 ≤ k → k < r 0 15 → 0 ≤ t → t < 31 → u 136 (31 * k + t) = rgiv r l c (r 14 k) t
          have cell : ∀ {u : Mh}, frH g u → Core u r ∧ waysOK u := fun hu => ⟨hR.1.same hu.sc (sameR.refl r), hu.ways hdg.1 w⟩
          have outer : ∀ (n : Nat) (a : Int) (S : Int × Int) (u : Mh), 0 ≤ a → a + n = r 0 12 * r 0 13 → H u → u 127 8 = S.1 → u 127 9 = S.2 → nr D (wtr r) n a S = nr D (wtr r) cs 0 (-1, 0) → Lfp (F_X2_seekNearest k l c (fun h2 => if ¬ wh = 0 then (fun x q' => wp_X14_looks k l c wh r (fun y r' => x = y ∧ Rel q' r')) (h2 127 9) h2 else (fun x q' => wp_X14_looks k l c wh r (fun y r' => x = y ∧ Rel q' r')) (h2 127 8) h2)) (67, [a], u) := by
            intro n
            induction n with
            | zero =>
              intro a S u a0 hn hu v8 v9 hz
              apply L_X2_seekNearest_67
              unfold B_X2_seekNearest_67 wp_X5_cells
              obtain ⟨hcu, hwu⟩ := cell hu.1
              have hdu := hcu.2.2.1.1
              refine ⟨isP_4 hdu.1, ?_⟩
              dsimp only
              rw [hdu.2.2.1, hdu.2.2.2.1, w32_eq (by omega) (by omega), if_pos (by omega)]
              have eS : S = nr D (wtr r) cs 0 (-1, 0) := hz
              have hRu : Rel u r := hu.1.rel hR (sameR.refl r)
              by_cases w0 : wh = 0
              · rw [if_neg (fun z => z w0), v8]
                exact ref u hRu _ (by rw [if_pos w0, eS])
              · rw [if_pos w0, v9]
                exact ref u hRu _ (by rw [if_neg w0, eS])
            | succ n ih =>
              intro a S u a0 hn hu v8 v9 hz
              apply L_X2_seekNearest_67
              unfold B_X2_seekNearest_67 wp_X5_cells
              obtain ⟨hcu, hwu⟩ := cell hu.1
              have hdu := hcu.2.2.1.1
              refine ⟨isP_4 hdu.1, ?_⟩
              dsimp only
              rw [hdu.2.2.1, hdu.2.2.2.1, w32_eq (by omega) (by omega), if_neg (by omega)]
              refine ⟨isP_4 hdu.1, ?_⟩
              rw [wi_wet hdu hcu.2.2.2.1]
              have hz2 : nr D (wtr r) n (a + 1) (if wtr r a = true ∧ (S.1 < 0 ∨ D a < S.2) then (a, D a) else S) = nr D (wtr r) cs 0 (-1, 0) := hz
              by_cases hl : r 5 a = 2
              · rw [if_neg (show ¬ watR r a from fun z => z.2.2 hl), if_pos rfl]
                have wf : ¬ (wtr r a = true ∧ (S.1 < 0 ∨ D a < S.2)) := by unfold wtr; simp [hl]
                rw [if_neg wf] at hz2
                intro y ey
                rw [w32_eq (by omega) (by omega)] at ey
                subst ey
                exact ih (a + 1) S u (by omega) (by omega) hu v8 v9 hz2
              · rw [if_pos (show watR r a from ⟨a0, by omega, hl⟩), if_neg (by decide)]
                have wt : wtr r a = true := by unfold wtr; simp [hl]
                have Db : 0 ≤ D a ∧ D a ≤ 792 * 186 := by
                  have := db (31 * r 0 15).toNat 0 a
                  show 0 ≤ dfS r k l c a ∧ dfS r k l c a ≤ _
                  unfold dfS
                  omega
                -- behind the sum
                have aft : ∀ (s0 : Int) (S' : Int × Int), (s0 = 0 ∧ S' = S ∨ s0 = 1 ∧ S' = (a, D a)) → nr D (wtr r) n (a + 1) S' = nr D (wtr r) cs 0 (-1, 0) → Lfp (F_X2_seekNearest k l c (fun h2 => if ¬ wh = 0 then (fun x q' => wp_X14_looks k l c wh r (fun y r' => x = y ∧ Rel q' r')) (h2 127 9) h2 else (fun x q' => wp_X14_looks k l c wh r (fun y r' => x = y ∧ Rel q' r')) (h2 127 8) h2)) (127, [a, D a, s0], u) := by
                  intro s0 S' hS' hz'
                  apply L_X2_seekNearest_127
                  unfold B_X2_seekNearest_127
                  have go : ∀ u1 u2, u1 = up u 127 8 S'.1 → u2 = up u1 127 9 S'.2 → ∀ y : Int, y = w32 (a + 1) → Lfp (F_X2_seekNearest k l c (fun h2 => if ¬ wh = 0 then (fun x q' => wp_X14_looks k l c wh r (fun y r' => x = y ∧ Rel q' r')) (h2 127 9) h2 else (fun x q' => wp_X14_looks k l c wh r (fun y r' => x = y ∧ Rel q' r')) (h2 127 8) h2)) (67, [y], u2) := by
                    intro u1 u2 e1 e2 y ey
                    rw [w32_eq (by omega) (by omega)] at ey
                    subst ey
                    refine ih (a + 1) S' u2 (by omega) (by omega) ⟨fun o ho => by rw [e2, up_other (by omega), e1, up_other (by omega), hu.1 o ho], fun k t k0 k1 t0 t1 => by rw [e2, up_other (by decide), e1, up_other (by decide)]; exact hu.2 k t k0 k1 t0 t1⟩ (by rw [e2, up_slot (by decide), e1, up_self]) (by rw [e2, up_self]) hz'
                  rcases hS' with ⟨x0, x1⟩ | ⟨x0, x1⟩
                  · rw [if_pos x0]
                    intro u1 e1
                    rw [if_pos x0]
                    intro u2 e2
                    have q9 : u1 127 9 = S.2 := by rw [e1, up_slot (by decide)]; exact v9
                    rw [q9] at e2
                    rw [v8] at e1
                    rw [x1] at go
                    exact go u1 u2 e1 e2
                  · rw [if_neg (by omega)]
                    intro u1 e1
                    rw [if_neg (by omega)]
                    intro u2 e2
                    rw [x1] at go
                    exact go u1 u2 e1 e2
                refine sp_differenceFrom hcu hwu c1.1 c1.2 c2.1 c2.2 a0 (by omega) hu.2 ?_
                rw [v8, v9]
                have l122 : nr D (wtr r) n (a + 1) (a, D a) = nr D (wtr r) cs 0 (-1, 0) → Lfp (F_X2_seekNearest k l c (fun h2 => if ¬ wh = 0 then (fun x q' => wp_X14_looks k l c wh r (fun y r' => x = y ∧ Rel q' r')) (h2 127 9) h2 else (fun x q' => wp_X14_looks k l c wh r (fun y r' => x = y ∧ Rel q' r')) (h2 127 8) h2)) (122, [a, D a], u) := by
                  intro hh
                  apply L_X2_seekNearest_122
                  unfold B_X2_seekNearest_122
                  exact aft 1 (a, D a) (Or.inr ⟨rfl, rfl⟩) hh
                by_cases y1 : S.1 < 0
                · rw [if_pos y1]
                  rw [if_pos ⟨wt, Or.inl y1⟩] at hz2
                  exact l122 hz2
                · rw [if_neg y1]
                  by_cases y2 : S.2 ≤ dfS r k l c a
                  · rw [if_pos y2]
                    have y3 : ¬ (wtr r a = true ∧ (S.1 < 0 ∨ D a < S.2)) := by
                      have : S.2 ≤ D a := y2
                      omega
                    rw [if_neg y3] at hz2
                    exact aft 0 S (Or.inl ⟨rfl, rfl⟩) hz2
                  · rw [if_neg y2]
                    have y3 : D a < S.2 := by
                      have : ¬ S.2 ≤ D a := y2
                      omega
                    rw [if_pos ⟨wt, Or.inr y3⟩] at hz2
                    exact l122 hz2
          have rows : ∀ (n : Nat) (i : Int) (u : Mh), 0 ≤ i → i + n = r 0 15 → frH g u → (∀ k t, 0 ≤ k → k < i → 0 ≤ t → t < 31 → u 136 (31 * k + t) = rgiv r l c (r 14 k) t) → Lfp (F_X2_seekNearest k l c (fun h2 => if ¬ wh = 0 then (fun x q' => wp_X14_looks k l c wh r (fun y r' => x = y ∧ Rel q' r')) (h2 127 9) h2 else (fun x q' => wp_X14_looks k l c wh r (fun y r' => x = y ∧ Rel q' r')) (h2 127 8) h2)) (18, [r 0 15, i], u) := by
            intro n
            induction n with
            | zero =>
              intro i u i0 hn hu hv
              apply L_X2_seekNearest_18
              unfold B_X2_seekNearest_18
              rw [if_pos (by omega)]
              intro u1 e1 u2 e2
              refine outer cs 0 (-1, -1) u2 (by omega) (by show (0 : Int) + ((r 0 12 * r 0 13).toNat : Int) = _; omega) ⟨fun o ho => by rw [e2, up_other (by omega), e1, up_other (by omega), hu o ho], fun k t k0 k1 t0 t1 => by rw [e2, up_other (by decide), e1, up_other (by decide)]; exact hv k t k0 (by omega) t0 t1⟩ (by rw [e2, up_slot (by decide), e1, up_self]) (by rw [e2, up_self]) ?_
              exact nr_any D (wtr r) cs 0 c (-1) 0 c3.1 (by have := c3.2.1; show c < 0 + ((r 0 12 * r 0 13).toNat : Int); omega) wtc
            | succ n ih =>
              intro i u i0 hn hu hv
              apply L_X2_seekNearest_18
              unfold B_X2_seekNearest_18
              obtain ⟨hcu, hwu⟩ := cell hu
              rw [if_neg (by omega)]
              refine ⟨isP_4 hcu.2.2.1.1.1, ?_⟩
              refine sp_corkAt hcu i0 (by omega) ?_
              have hw := hC.2.2.2 i i0 (by omega)
              refine sp_showRow hcu hwu i0 (by omega) c2.1 c2.2 c3.1 c3.2.1 hw.1 hw.2.1 ?_
              intro u1 f1 v1 x1 y ey
              rw [w32_eq (by omega) (by omega)] at ey
              subst ey
              refine ih (i + 1) u1 (by omega) (by omega) (hu.trans (fun o ho => f1 o (by omega))) (fun k t k0 k1 t0 t1 => ?_)
              by_cases z : k = i
              · rw [z]; exact v1 t t0 t1
              · rw [x1 _ (by omega)]; exact hv k t k0 (by omega) t0 t1
          exact rows (r 0 15).toNat 0 g (by omega) (by omega) (fun _ _ => rfl) (fun k t a b => by omega)
        · rw [if_neg c5]
          exact no (fun z => c5 z.2.2.2.2)
      · rw [if_neg c3, if_pos rfl]
        exact l46 (fun z => c3 z.2.2)
    · rw [if_neg c2, if_pos rfl]
      exact l46 (fun z => c2 z.2.1)
  · rw [if_neg c1, if_pos rfl]
    exact l46 (fun z => c1 z.1)
