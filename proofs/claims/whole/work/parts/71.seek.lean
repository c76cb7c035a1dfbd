/-! ===== a lie: the class ===== -/
/-- whether a skater on the path sees a drop's ripple in a step -/
def seeB (r : Mh) (P : Int → Int) (a t j : Int) : Bool := decide (¬ (FA r a (P j)).1 = 999 ∧ t + (FA r a (P j)).1 - 1 ≤ j)
def snF (r : Mh) (P : Int → Int) (a t e : Int) : Int := fst1 (fun j => b01 (seeB r P a t j)) 1 (e - t).toNat t
theorem sp_firstSeen {g r : Mh} {a t e : Int} {P : Int → Int} {K : Int → Mh → Prop} (h : Core g r) (w : waysOK g) (a0 : 0 ≤ a) (a1 : a < r 0 12 * r 0 13) (t0 : 0 ≤ t) (te : t ≤ e) (e1 : e ≤ 100) (hP : ∀ j, 0 ≤ j → j < e → g 126 j = P j ∧ 0 ≤ P j ∧ P j < r 0 12 * r 0 13) (hk : K (snF r P a t e) g) : wp_X8_firstSeen a t e g K := by
  have eF := FC_FA h.2.2.1.1 h.2.2.2.1
  have hd := h.2.2.1.1
  have hm := szs_mul hd.2.2.2.2.1.1
  have loop : ∀ (n : Nat) (j : Int), t ≤ j → j + n = e → K (fst1 (fun j => b01 (seeB r P a t j)) 1 n j) g → Lfp (F_X8_firstSeen a t e K) (3, [j], g) := by
    intro n
    induction n with
    | zero =>
      intro j j0 hj hk
      apply L_X8_firstSeen_3
      unfold B_X8_firstSeen_3
      rw [if_pos (by omega)]
      exact hk
    | succ n ih =>
      intro j j0 hj hk
      apply L_X8_firstSeen_3
      unfold B_X8_firstSeen_3
      obtain ⟨p1, p2, p3⟩ := hP j (by omega) (by omega)
      rw [if_neg (by omega), if_neg (by omega), if_pos (by omega), p1]
      refine ⟨⟨by omega, by omega⟩, ?_⟩
      rw [wi_farOf hd.cp w a0 (hd.cl a1) p2 (hd.cl p3)]
      unfold cfar
      rw [eF]
      have fr := (FA_r h.ro.1 a (P j)).1
      have hk2 : K (if b01 (seeB r P a t j) = 1 then j else fst1 (fun j => b01 (seeB r P a t j)) 1 n (j + 1)) g := hk
      have sb : seeB r P a t j = decide (¬ (FA r a (P j)).1 = 999 ∧ t + (FA r a (P j)).1 - 1 ≤ j) := rfl
      have skip : seeB r P a t j = false → ∀ x : Int, x = w32 (j + 1) → Lfp (F_X8_firstSeen a t e K) (3, [x], g) := by
        intro hf x ex
        rw [w32_eq (by omega) (by omega)] at ex
        subst ex
        rw [hf, if_neg (by decide)] at hk2
        exact ih (j + 1) (by omega) (by omega) hk2
      by_cases d : (FA r a (P j)).1 = 999
      · rw [if_pos d, if_pos (by decide)]
        exact skip (by rw [sb]; exact decide_eq_false (fun z => z.1 d))
      · rw [if_neg d, if_neg (by omega), w32_eq (x := t + (FA r a (P j)).1) (by omega) (by omega), w32_eq (by omega) (by omega)]
        by_cases y : j < t + (FA r a (P j)).1 - 1
        · rw [if_pos y]
          exact skip (by rw [sb]; exact decide_eq_false (fun z => by omega))
        · rw [if_neg y]
          rw [sb, decide_eq_true (show ¬ (FA r a (P j)).1 = 999 ∧ t + (FA r a (P j)).1 - 1 ≤ j from ⟨d, by omega⟩), if_pos (by decide)] at hk2
          exact hk2
  unfold wp_X8_firstSeen
  exact loop (e - t).toNat t (by omega) (by omega) hk
/-- as long as nothing is seen the path stays -/
theorem pth_unseen {r : Mh} (hp : prm r) {k a t c0 : Int} (hw : watR r c0) : ∀ (n : Nat), (∀ j : Nat, j < n → (j : Int) < t ∨ seeB r (pthZ r (lsum r) c0) a t j = false) → pth r (Fl r k a t) c0 n = pth r (lsum r) c0 n := by
  intro n
  induction n with
  | zero => intro _; rfl
  | succ n ih =>
    intro h
    have i0 := ih (fun j hj => h j (by omega))
    show nxt r (Fl r k a t) (pth r (Fl r k a t) c0 n) n = nxt r (lsum r) (pth r (lsum r) c0 n) n
    rw [i0]
    have hc := pth_wat (F := lsum r) hp.1 hw n
    have ez : pthZ r (lsum r) c0 (n : Int) = pth r (lsum r) c0 n := rfl
    rcases h n (by omega) with z | z
    · -- the drop hasn't fallen
      have zero : ∀ d, Fl r k a t d n = lsum r d n := by
        intro d
        unfold Fl
        have fr := (FA_r hp a d).1
        rw [rgiv_early hp (by omega)]
        omega
      exact nxt_congr (zero _) (fun v _ _ _ => zero _) (zero _)
    · refine nxt_unseen hp hc ?_
      have : ¬ (¬ (FA r a (pthZ r (lsum r) c0 n)).1 = 999 ∧ t + (FA r a (pthZ r (lsum r) c0 n)).1 - 1 ≤ n) := of_decide_eq_false z
      rw [ez] at this
      omega
theorem fst1_of {f : Int → Int} {v : Int} : ∀ (n : Nat) (i m : Int), i ≤ m → m < i + n → f m = v → (∀ j, i ≤ j → j < m → f j ≠ v) → fst1 f v n i = m := by
  intro n
  induction n with
  | zero => intro i m h1 h2 _ _; omega
  | succ n ih =>
    intro i m h1 h2 h3 h4
    unfold fst1
    by_cases e : f i = v
    · rw [if_pos e]
      by_cases z : m = i
      · exact z.symm
      · exact absurd e (h4 i (by omega) (by omega))
    · rw [if_neg e]
      have : m ≠ i := fun z => e (by rw [← z]; exact h3)
      exact ih (i + 1) m (by omega) (by omega) h3 (fun j a b => h4 j (by omega) b)
theorem fst1_min {f : Int → Int} {v : Int} : ∀ (n : Nat) (i : Int), 0 ≤ i → ∀ j, i ≤ j → j < fst1 f v n i → f j ≠ v := by
  intro n
  induction n with
  | zero =>
    intro i i0 j h1 h2
    have : fst1 f v 0 i = -1 := rfl
    omega
  | succ n ih =>
    intro i i0 j h1 h2
    unfold fst1 at h2
    by_cases e : f i = v
    · rw [if_pos e] at h2; omega
    · rw [if_neg e] at h2
      by_cases z : j = i
      · rw [z]; exact e
      · exact ih (i + 1) (by omega) j (by omega) h2
theorem fst1_skip {f : Int → Int} {v : Int} : ∀ (m k : Nat) (i : Int), (∀ j, i ≤ j → j < i + m → f j ≠ v) → fst1 f v (m + k) i = fst1 f v k (i + m) := by
  intro m
  induction m with
  | zero => intro k i _; simp
  | succ m ih =>
    intro k i h
    rw [show m + 1 + k = (m + k) + 1 by omega]
    show (if f i = v then i else fst1 f v (m + k) (i + 1)) = _
    rw [if_neg (h i (by omega) (by omega)), ih k (i + 1) (fun j a b => h j (by omega) (by omega)), show i + 1 + (m : Int) = i + ((m + 1 : Nat) : Int) by omega]
theorem fst1_same {f g : Int → Int} {v m : Int} {n : Nat} (m0 : 0 ≤ m) (h1 : ∀ j, 0 ≤ j → j ≤ m → f j = g j) (h2 : fst1 g v n 0 = m) : fst1 f v n 0 = m := by
  rcases fst1_r (f := g) (v := v) n 0 with ⟨a, _⟩ | ⟨a, b, c⟩
  · omega
  · rw [h2] at b c
    refine fst1_of n 0 m m0 b (by rw [h1 m m0 (Int.le_refl m)]; exact c) (fun j j0 j1 => ?_)
    rw [h1 j j0 (by omega)]
    exact fst1_min n 0 (by omega) j j0 (by rw [h2]; exact j1)
def frB (q g : Mh) : Prop := ∀ o, ¬ (o = 42 ∨ o = 43 ∨ o = 94 ∨ o = 95 ∨ (120 ≤ o ∧ o ≤ 124) ∨ o = 125 ∨ o = 126) → g o = q o
theorem frB.trans {q g k : Mh} (h1 : frB q g) (h2 : frB g k) : frB q k := fun o h => (h2 o h).trans (h1 o h)
theorem frB.sc {q g : Mh} (h : frB q g) : sameC q g := fun o j a b c d => by rw [h o (by omega)]
theorem frL.b {q g : Mh} (h : frL q g) : frB q g := fun o ho => h o (by omega)
theorem frN.b {q g : Mh} (h : frN q g) : frB q g := fun o ho => h o (by omega)
theorem fr120.b {q g : Mh} (h : fr120 q g) : frB q g := fun o ho => h o (by omega)
theorem Fl_ok {q r : Mh} (h : Core q r) {k a t : Int} (k0 : 0 ≤ k) (k1 : k < r 0 14) (c u : Int) : -7128 ≤ Fl r k a t c u ∧ Fl r k a t c u ≤ 7128 := by
  have h1 := lsum_le h.ro c u
  have h2 := rgiv_le h.ro k0 k1 a c (u - t)
  unfold Fl
  omega
/-- pouring a lie, and out again -/
theorem sp_pourLie {g r : Mh} {k a t : Int} {K : Mh → Prop} (h : skC g r (lsum r)) (k0 : 0 ≤ k) (k1 : k < r 0 14) (a0 : 0 ≤ a) (a1 : a < r 0 12 * r 0 13) (t0 : 0 ≤ t) (t1 : t ≤ 99) (hk : ∀ g', fr120 g g' → skC g' r (Fl r k a t) → K g') : wp_X6_pour k a t 1 g K := by
  have hd := h.1.2.2.1.1
  have h4 := h.1.2.2.1.2.2.1.2.1
  have hm := szs_mul hd.2.2.2.2.1.1
  refine sp_pour hd.cp h.2.1 h.1.cs (h.1.2.2.1.2.1.rs hd) k0 (by omega) (h.1.2.2.1.2.2.1.kc k0 k1) a0 (hd.cl a1) t0 (by omega) (Or.inl rfl) (fun c u c0 c1 u0 u1 => ?_) ?_
  · rw [hd.2.2.1, hd.2.2.2.1] at c1
    rw [h.2.2.2 c u c0 c1 u0 u1]
    have := lsum_le h.1.ro c u
    omega
  · intro g' hp
    refine hk g' hp.1 ⟨h.1.same hp.1.sc (sameR.refl r), hp.1.ways hd.1 h.2.1, fun c u _ _ _ _ => ?_, fun c u c0 c1 u0 u1 => ?_⟩
    · have := Fl_ok h.1 (a := a) (t := t) k0 k1 c u
      unfold okV; omega
    · rw [hp.2 c u c0 (by omega) u0 u1, h.2.2.2 c u c0 c1 u0 u1, hd.2.2.1, hd.2.2.2.1, if_pos c1, cgiv_rgiv h.1.2.2.1 h.1.2.2.2.1 k0 k1]
      unfold Fl
      omega
theorem sp_unpour {g r : Mh} {k a t : Int} {K : Mh → Prop} (h : skC g r (Fl r k a t)) (k0 : 0 ≤ k) (k1 : k < r 0 14) (a0 : 0 ≤ a) (a1 : a < r 0 12 * r 0 13) (t0 : 0 ≤ t) (t1 : t ≤ 99) (hk : ∀ g', fr120 g g' → skC g' r (lsum r) → K g') : wp_X6_pour k a t (-1) g K := by
  have hd := h.1.2.2.1.1
  have h4 := h.1.2.2.1.2.2.1.2.1
  have hm := szs_mul hd.2.2.2.2.1.1
  refine sp_pour hd.cp h.2.1 h.1.cs (h.1.2.2.1.2.1.rs hd) k0 (by omega) (h.1.2.2.1.2.2.1.kc k0 k1) a0 (hd.cl a1) t0 (by omega) (Or.inr rfl) (fun c u c0 c1 u0 u1 => ?_) ?_
  · rw [hd.2.2.1, hd.2.2.2.1] at c1
    rw [h.2.2.2 c u c0 c1 u0 u1]
    have := Fl_ok h.1 (a := a) (t := t) k0 k1 c u
    omega
  · intro g' hp
    refine hk g' hp.1 ⟨h.1.same hp.1.sc (sameR.refl r), hp.1.ways hd.1 h.2.1, fun c u _ _ _ _ => ?_, fun c u c0 c1 u0 u1 => ?_⟩
    · have := lsum_le h.1.ro c u
      unfold okV; omega
    · rw [hp.2 c u c0 (by omega) u0 u1, h.2.2.2 c u c0 c1 u0 u1, hd.2.2.1, hd.2.2.2.1, if_pos c1, cgiv_rgiv h.1.2.2.1 h.1.2.2.2.1 k0 k1]
      unfold Fl
      omega
theorem sp_isLie {g r : Mh} {k a t S cell n c0 : Int} {K : Int → Mh → Prop} (h : skC g r (lsum r)) (hw : watR r c0) (k0 : 0 ≤ k) (k1 : k < r 0 14) (a0 : 0 ≤ a) (a1 : a < r 0 12 * r 0 13) (t0 : 0 ≤ t) (t1 : t ≤ 99) (n1 : n ≤ 60) (S0 : 0 ≤ S) (Sn : S < n) (hS : g 126 S = pthZ r (Fl r k a t) c0 S) (hnc : ∀ j, 0 ≤ j → j < S → pthZ r (Fl r k a t) c0 j ≠ cell)
    (hk : ∀ g', frB g g' → g' 126 = g 126 → skC g' r (lsum r) → K (b01 (decide (fst1 (pthZ r (Fl r k a t) c0) cell (n + 1).toNat 0 < 0))) g') : wp_X8_isLie k a t S cell n g K := by
  have hs := h.1.2.2.1.1.2.2.2.2.1.1
  unfold wp_X8_isLie
  refine sp_pourLie h k0 k1 a0 a1 t0 t1 ?_
  intro g1 f1 h1
  have sk : fst1 (pthZ r (Fl r k a t) c0) cell (n + 1).toNat 0 = fst1 (pthZ r (Fl r k a t) c0) cell (n + 1 - S).toNat S := by
    have := fst1_skip (f := pthZ r (Fl r k a t) c0) (v := cell) S.toNat (n + 1 - S).toNat 0 (fun j a b => hnc j a (by omega))
    rw [show S.toNat + (n + 1 - S).toNat = (n + 1).toNat by omega, show (0 : Int) + (S.toNat : Int) = S by omega] at this
    exact this
  have fin : ∀ (u : Mh) (x : Int), frB g u → u 126 = g 126 → skC u r (Fl r k a t) → (x = b01 (decide (fst1 (pthZ r (Fl r k a t) c0) cell (n + 1).toNat 0 < 0))) → wp_X6_pour k a t (-1) u (fun u' => K x u') := by
    intro u x fu e122 hu ex
    refine sp_unpour hu k0 k1 a0 a1 t0 t1 ?_
    intro u' f' h'
    rw [ex]
    exact hk u' (fu.trans f'.b) (by rw [f' 126 (by decide)]; exact e122) h'
  have loop : ∀ (m : Nat) (j : Int) (u : Mh), S ≤ j → j + m = n → frB g u → u 126 = g 126 → skC u r (Fl r k a t) → fst1 (pthZ r (Fl r k a t) c0) cell (m + 1) j = fst1 (pthZ r (Fl r k a t) c0) cell (n + 1).toNat 0 → Lfp (F_X8_isLie k a t S cell n K) (44, [pthZ r (Fl r k a t) c0 j, j], u) := by
    intro m
    induction m with
    | zero =>
      intro j u j0 hj fu e122 hu hz
      apply L_X8_isLie_44
      unfold B_X8_isLie_44
      rw [if_pos (by omega)]
      have hz2 : (if pthZ r (Fl r k a t) c0 j = cell then j else -1) = fst1 (pthZ r (Fl r k a t) c0) cell (n + 1).toNat 0 := hz
      by_cases e : pthZ r (Fl r k a t) c0 j = cell
      · rw [if_pos e] at hz2
        have := fin u 0 fu e122 hu (by rw [← hz2, decide_eq_false (by omega)]; rfl)
        simp only [if_pos e]
        exact this
      · rw [if_neg e] at hz2
        have := fin u 1 fu e122 hu (by rw [← hz2]; rfl)
        simp only [if_neg e]
        exact this
    | succ m ih =>
      intro j u j0 hj fu e122 hu hz
      apply L_X8_isLie_44
      unfold B_X8_isLie_44
      rw [if_neg (by omega)]
      have hz2 : (if pthZ r (Fl r k a t) c0 j = cell then j else fst1 (pthZ r (Fl r k a t) c0) cell (m + 1) (j + 1)) = fst1 (pthZ r (Fl r k a t) c0) cell (n + 1).toNat 0 := hz
      by_cases e : pthZ r (Fl r k a t) c0 j = cell
      · rw [if_pos e] at hz2
        have := fin u 0 fu e122 hu (by rw [← hz2, decide_eq_false (by omega)]; rfl)
        rw [if_pos e]
        simp only [if_pos e]
        exact this
      · rw [if_neg e] at hz2 ⊢
        refine sp_next hu (pth_wat hs hw _) (by omega) (by omega) ?_
        intro u' fu' y ey
        rw [w32_eq (by omega) (by omega)] at ey
        subst ey
        rw [← pthZ_succ (by omega)]
        exact ih (j + 1) u' (by omega) (by omega) (fu.trans fu'.b) (by rw [fu' 126 (by decide)]; exact e122) (hu.fr fu'.n) hz2
  rw [if_neg (by omega), if_neg (by omega)]
  refine ⟨⟨S0, by omega⟩, ?_⟩
  intro x ex
  rw [f1 126 (by decide), hS] at ex
  rw [ex]
  refine loop (n - S).toNat S g1 (Int.le_refl S) (by omega) f1.b (f1 126 (by decide)) h1 ?_
  rw [show (n - S).toNat + 1 = (n + 1 - S).toNat by omega, sk]
theorem op_lie {q r : Mh} (i cell k n wh : Int) (h : Rel q r) : wp_X13_lie i cell k n wh q (fun x q' => wp_X14_lie i cell k n wh r (fun y r' => x = y ∧ Rel q' r')) := by
  have hP := h.1.2.2.1
  have hd := hP.1
  have hs := hd.2.2.2.2.1.1
  have hm := szs_mul hs
  have hS := hP.2.2.2.2.1
  have hKn := hP.2.2.1
  have s3 := hS.2.1
  have h0 : Rel q (up r 0 2 0) := h.thrown (sameR.thrown r)
  have e0 : ∀ j, j ≠ 2 → up r 0 2 0 0 j = r 0 j := fun j hj => up_slot hj
  have no : ¬ ((0 ≤ i ∧ i < r 0 16) ∧ (0 ≤ cell ∧ cell < r 0 12 * r 0 13) ∧ (0 ≤ k ∧ k < r 0 14) ∧ (0 ≤ n ∧ n ≤ 60) ∧ (0 ≤ wh ∧ wh ≤ 1)) → wp_X14_lie i cell k n wh r (fun y r' => -1 = y ∧ Rel q r') := by
    intro hn
    unfold wp_X14_lie
    intro r1 e1
    subst e1
    rw [wi_isSkater, e0 16 (by decide), k01]
    by_cases c1 : 0 ≤ i ∧ i < r 0 16
    · rw [if_pos c1, if_neg (by decide), wi_cellT hs]
      by_cases c2 : 0 ≤ cell ∧ cell < r 0 12 * r 0 13
      · rw [if_pos c2, if_neg (by decide), wi_isKind, e0 14 (by decide), k01]
        by_cases c3 : 0 ≤ k ∧ k < r 0 14
        · rw [if_pos c3, if_neg (by decide), wi_isIn, t01]
          by_cases c4 : 0 ≤ n ∧ n ≤ 60
          · rw [if_pos c4, if_neg (by decide), wi_isIn, t01, if_neg (show ¬ (0 ≤ wh ∧ wh ≤ 1) from fun z => hn ⟨c1, c2, c3, c4, z⟩), if_neg (fun z => z rfl)]
            exact ⟨rfl, h0⟩
          · rw [if_neg c4, if_pos rfl]; exact ⟨rfl, h0⟩
        · rw [if_neg c3, if_pos rfl]; exact ⟨rfl, h0⟩
      · rw [if_neg c2, if_pos rfl]; exact ⟨rfl, h0⟩
    · rw [if_neg c1, if_pos rfl]; exact ⟨rfl, h0⟩
  have l46 : ¬ ((0 ≤ i ∧ i < r 0 16) ∧ (0 ≤ cell ∧ cell < r 0 12 * r 0 13) ∧ (0 ≤ k ∧ k < r 0 14)) → Lfp (F_X13_lie i cell k n wh (fun x q' => wp_X14_lie i cell k n wh r (fun y r' => x = y ∧ Rel q' r'))) (46, [], q) := by
    intro hn
    apply L_X13_lie_46
    unfold B_X13_lie_46
    apply L_X13_lie_47
    unfold B_X13_lie_47
    rw [if_pos rfl]
    exact no (fun z => hn ⟨z.1, z.2.1, z.2.2.1⟩)
  unfold wp_X13_lie
  refine ⟨isP_4 hd.1, ?_⟩
  rw [wi_has, hS.1.1, k01]
  by_cases c1 : 0 ≤ i ∧ i < r 0 16
  · rw [if_pos c1, if_neg (by decide), wi_cellC hd]
    by_cases c2 : 0 ≤ cell ∧ cell < r 0 12 * r 0 13
    · rw [if_pos c2, if_neg (by decide), wi_has, hKn.1.1, k01]
      by_cases c3 : 0 ≤ k ∧ k < r 0 14
      · rw [if_pos c3, if_neg (by decide)]
        apply L_X13_lie_47
        unfold B_X13_lie_47
        rw [if_neg (by decide), wi_stepC, t01]
        by_cases c4 : 0 ≤ n ∧ n ≤ 60
        · rw [if_pos c4, if_neg (by decide)]
          by_cases c5 : wh < 0
          · rw [if_pos c5]; exact no (fun z => by have := z.2.2.2.2.1; omega)
          rw [if_neg c5]
          by_cases c6 : wh ≤ 1
          · rw [if_pos c6]
            refine sp_freshenSums h ?_
            intro g hC z8 z9 w hsu hsame
            have sk0 := Rel.skC (q := q) hC w hsu
            have hw := hS.2.2.2 i c1.1 c1.2
            have hp := hd.2.2.2.2.1
            -- names
            let c0 : Int := r 16 i
            let P : Int → Int := pthZ r (lsum r) c0
            let V : Int → Int → Bool := liK r k c0 cell n
            have Pw : ∀ j, watR r (P j) := fun j => pth_wat hs hw _
            have ref : ∀ g' x, skC g' r (lsum r) → g' 53 8 = 0 → g' 53 9 = 0 → (x = if fst1 P cell (n + 1).toNat 0 < 0 then -3 else if laT r V 16 0 < 0 then -2 else if wh = 0 then laT r V 16 0 / 48 else laT r V 16 0 % 48) → wp_X14_lie i cell k n wh r (fun y r' => x = y ∧ Rel g' r') := by
              intro g' x hg' e8 e9 ex
              refine sp_lieR h.1 c1.1 c1.2 c2 c3.1 c3.2 c4.1 c4.2 (by omega) c6 ?_
              intro s qs s79
              refine ⟨ex, hg'.1.sameQ qs s79, fun _ => hg'.2.1, fun _ => ?_⟩
              intro c t c0' c1' t0 t1
              have hdg := hg'.1.2.2.1.1
              rw [hdg.2.2.1, hdg.2.2.2.1] at c1'
              rw [hg'.2.2.2 c t c0' c1' t0 t1, hg'.1.ls]
            unfold wp_X8_seekLie
            refine sp_follow sk0 c1.1 c1.2 c4.1 (by omega) ?_
            intro g1 f1 v1
            have v1' : ∀ j, 0 ≤ j → j ≤ n → g1 126 j = P j := by
              intro j j0 j1
              have := v1 j.toNat (by omega)
              rw [show ((j.toNat : Nat) : Int) = j by omega] at this
              exact this
            have sk1 := sk0.fr f1
            refine sp_arrival (P := P) c4.1 (by omega) v1' ?_
            have z81 : g1 53 8 = 0 := by rw [f1 53 (by decide)]; exact z8
            have z91 : g1 53 9 = 0 := by rw [f1 53 (by decide)]; exact z9
            rcases fst1_r (f := P) (v := cell) (n + 1).toNat 0 with ⟨ra, _⟩ | ⟨ra, rb, rc⟩
            · have e2 : (if fst1 P cell (n + 1).toNat 0 < 0 then (-2 : Int) else fst1 P cell (n + 1).toNat 0) = -2 := if_pos (by omega)
              rw [e2, if_neg (by decide)]
              show if (0 : Int) ≤ -3 then _ else _
              rw [if_neg (by decide)]
              exact ref g1 (-3) sk1 z81 z91 (by rw [if_pos (by omega)])
            · obtain ⟨R, eR⟩ : ∃ R, R = fst1 P cell (n + 1).toNat 0 := ⟨_, rfl⟩
              rw [← eR] at ra rb rc
              have e2 : (if fst1 P cell (n + 1).toNat 0 < 0 then (-2 : Int) else fst1 P cell (n + 1).toNat 0) = R := by rw [← eR, if_neg (by omega)]
              rw [e2, if_pos ra]
              have ref2 : ∀ g' x, skC g' r (lsum r) → g' 53 8 = 0 → g' 53 9 = 0 → (x = if laT r V 16 0 < 0 then -2 else if wh = 0 then laT r V 16 0 / 48 else laT r V 16 0 % 48) → wp_X14_lie i cell k n wh r (fun y r' => x = y ∧ Rel g' r') := by
                intro g' x a b c d
                refine ref g' x a b c ?_
                rw [← eR, if_neg (by omega)]
                exact d
              have Rmin : ∀ j, 0 ≤ j → j < R → P j ≠ cell := fun j j0 j1 => fst1_min (n + 1).toNat 0 (by omega) j j0 (by rw [← eR]; exact j1)
              -- a drop that falls too late, or isn't seen, keeps nobody away
              have V0 : ∀ t a, 0 ≤ t → (∀ j : Nat, (j : Int) < R → (j : Int) < t ∨ seeB r P a t j = false) → V t a = false := by
                intro t a t0 hun
                have eq : ∀ j, 0 ≤ j → j ≤ R → pthZ r (Fl r k a t) c0 j = P j := by
                  intro j j0 j1
                  exact pth_unseen hp hw j.toNat (fun m hm => hun m (by omega))
                have := fst1_same (f := pthZ r (Fl r k a t) c0) (g := P) (v := cell) (n := (n + 1).toNat) ra eq eR.symm
                show decide (fst1 (pthZ r (Fl r k a t) c0) cell (n + 1).toNat 0 < 0) = false
                rw [this]
                exact decide_eq_false (by omega)
              have late : ∀ (m : Nat) (t : Int), R ≤ t → 0 ≤ t → laT r V m t = -1 := by
                intro m
                induction m with
                | zero => intro t _ _; rfl
                | succ m ih =>
                  intro t ht t0
                  unfold laT
                  have : laA r V t = -1 := by
                    unfold laA
                    rcases fst1_r (f := fun a => b01 (wtr r a && V t a)) (v := 1) (r 0 12 * r 0 13).toNat 0 with ⟨x, _⟩ | ⟨x, y, z⟩
                    · exact x
                    · exfalso
                      have := V0 t (fst1 (fun a => b01 (wtr r a && V t a)) 1 (r 0 12 * r 0 13).toNat 0) t0 (fun j hj => Or.inl (by omega))
                      rw [this, Bool.and_false] at z
                      exact absurd z (by decide)
                  rw [this, if_pos (by decide)]
                  exact ih (t + 1) (by omega) (by omega)
              let LK : Mh → Prop := fun u => frB g1 u ∧ u 126 = g1 126 ∧ skC u r (lsum r)
              let CK : Int → Mh → Prop := fun x2 h3 => if 0 ≤ x2 then (if ¬ wh = 0 then (fun x q' => wp_X14_lie i cell k n wh r (fun y r' => x = y ∧ Rel q' r')) (h3 125 4) h3 else (fun x q' => wp_X14_lie i cell k n wh r (fun y r' => x = y ∧ Rel q' r')) (h3 125 3) h3) else (fun x q' => wp_X14_lie i cell k n wh r (fun y r' => x = y ∧ Rel q' r')) x2 h3
              have f8 : ∀ {u}, frB g1 u → u 53 8 = 0 ∧ u 53 9 = 0 := fun hu => ⟨by rw [hu 53 (by decide)]; exact z81, by rw [hu 53 (by decide)]; exact z91⟩
              have none_ : ∀ u, LK u → laT r V 16 0 = -1 → CK (-2) u := by
                intro u hu hl
                show if (0 : Int) ≤ -2 then _ else _
                rw [if_neg (by decide)]
                exact ref2 u (-2) hu.2.2 (f8 hu.1).1 (f8 hu.1).2 (by rw [hl, if_pos (by decide)])
              have steps : ∀ (m : Nat) (t : Int) (u : Mh), 0 ≤ t → t + m = 16 → LK u → laT r V m t = laT r V 16 0 → Lfp (F_X8_seekLie i cell k n CK) (27, [R, t], u) := by
                intro m
                induction m with
                | zero =>
                  intro t u t0 ht hu hz
                  apply L_X8_seekLie_27
                  unfold B_X8_seekLie_27
                  rw [if_pos (by omega)]
                  exact none_ u hu hz.symm
                | succ m ih =>
                  intro t u t0 ht hu hz
                  apply L_X8_seekLie_27
                  unfold B_X8_seekLie_27
                  rw [if_neg (by omega)]
                  by_cases tR : R ≤ t
                  · rw [if_pos tR]
                    refine none_ u hu ?_
                    rw [← hz]
                    exact late (m + 1) t tR t0
                  · rw [if_neg tR]
                    have hz2 : (if laA r V t < 0 then laT r V m (t + 1) else 48 * t + laA r V t) = laT r V 16 0 := hz
                    have cells : ∀ (c : Nat) (a : Int) (u : Mh), 0 ≤ a → a + c = r 0 12 * r 0 13 → LK u → laA r V t = fst1 (fun a => b01 (wtr r a && V t a)) 1 c a → Lfp (F_X8_seekLie i cell k n CK) (44, [R, t, a], u) := by
                      intro c
                      induction c with
                      | zero =>
                        intro a u a0 ha hu hl
                        apply L_X8_seekLie_44
                        unfold B_X8_seekLie_44 wp_X5_cells
                        have hdu := hu.2.2.1.2.2.1.1
                        refine ⟨isP_4 hdu.1, ?_⟩
                        dsimp only
                        rw [hdu.2.2.1, hdu.2.2.2.1, w32_eq (by omega) (by omega), if_pos (by omega)]
                        intro y ey
                        rw [w32_eq (by omega) (by omega)] at ey
                        subst ey
                        have : laA r V t = -1 := hl
                        rw [if_pos (by omega)] at hz2
                        exact ih (t + 1) u (by omega) (by omega) hu hz2
                      | succ c ihc =>
                        intro a u a0 ha hu hl
                        have hl2 : laA r V t = if b01 (wtr r a && V t a) = 1 then a else fst1 (fun a => b01 (wtr r a && V t a)) 1 c (a + 1) := hl
                        apply L_X8_seekLie_44
                        unfold B_X8_seekLie_44 wp_X5_cells
                        have hdu := hu.2.2.1.2.2.1.1
                        refine ⟨isP_4 hdu.1, ?_⟩
                        dsimp only
                        rw [hdu.2.2.1, hdu.2.2.2.1, w32_eq (by omega) (by omega), if_neg (by omega)]
                        have u122 : ∀ j, 0 ≤ j → j < R → u 126 j = P j ∧ 0 ≤ P j ∧ P j < r 0 12 * r 0 13 := by
                          intro j j0 j1
                          have pw := Pw j
                          rw [hu.2.1]
                          exact ⟨v1' j j0 (by omega), pw.1, pw.2.1⟩
                        have nope : (wtr r a && V t a) = false → ∀ u', LK u' → ∀ y : Int, y = w32 (a + 1) → Lfp (F_X8_seekLie i cell k n CK) (44, [R, t, y], u') := by
                          intro hf u' hu' y ey
                          rw [w32_eq (by omega) (by omega)] at ey
                          subst ey
                          rw [hf, if_neg (by decide)] at hl2
                          exact ihc (a + 1) u' (by omega) (by omega) hu' hl2
                        refine sp_firstSeen hu.2.2.1 hu.2.2.2.1 a0 (by omega) t0 (by omega) (by omega) u122 ?_
                        rcases fst1_r (f := fun j => b01 (seeB r P a t j)) (v := 1) (R - t).toNat t with ⟨x1, x2⟩ | ⟨x1, x2, x3⟩
                        · have eS : snF r P a t R = -1 := x1
                          rw [eS, if_pos (by decide)]
                          refine nope ?_ u hu
                          rw [V0 t a t0 (fun j hj => ?_), Bool.and_false]
                          by_cases jt : (j : Int) < t
                          · exact Or.inl jt
                          · right
                            have := x2 j (by omega) (by omega)
                            cases y : seeB r P a t j
                            · rfl
                            · rw [y] at this
                              exact absurd rfl this
                        · obtain ⟨S, eS⟩ : ∃ S, S = snF r P a t R := ⟨_, rfl⟩
                          have eS' : fst1 (fun j => b01 (seeB r P a t j)) 1 (R - t).toNat t = S := eS.symm
                          rw [eS'] at x1 x2 x3
                          rw [← eS, if_neg (by omega)]
                          -- seen: a lies in the water
                          have see : seeB r P a t S = true := by
                            cases y : seeB r P a t S
                            · rw [y] at x3; exact absurd x3 (by decide)
                            · rfl
                          have aw : wtr r a = true := by
                            have hh : ¬ (FA r a (P S)).1 = 999 ∧ t + (FA r a (P S)).1 - 1 ≤ S := of_decide_eq_true see
                            unfold wtr
                            refine decide_eq_true (fun z => hh.1 ?_)
                            unfold FA
                            rw [if_neg (fun y => y.2.2 z)]
                          have eqP : ∀ j, 0 ≤ j → j ≤ S → pthZ r (Fl r k a t) c0 j = P j := by
                            intro j j0 j1
                            refine pth_unseen hp hw j.toNat (fun m hm => ?_)
                            by_cases jt : (m : Int) < t
                            · exact Or.inl jt
                            · right
                              have := fst1_min (f := fun j => b01 (seeB r P a t j)) (v := 1) (R - t).toNat t t0 m (by omega) (by rw [eS']; omega)
                              cases y : seeB r (pthZ r (lsum r) c0) a t m
                              · rfl
                              · exfalso
                                apply this
                                show b01 (seeB r (pthZ r (lsum r) c0) a t m) = 1
                                rw [y]; rfl
                          refine sp_isLie (c0 := c0) hu.2.2 hw c3.1 c3.2 a0 (by omega) t0 (by omega) c4.2 (by omega) (by omega) ?_ (fun j j0 j1 => ?_) ?_
                          · rw [hu.2.1, v1' S (by omega) (by omega), eqP S (by omega) (Int.le_refl S)]
                          · rw [eqP j j0 (by omega)]
                            exact Rmin j j0 (by omega)
                          · intro u' fu' e122 hu'
                            have LK' : LK u' := ⟨hu.1.trans fu', by rw [e122]; exact hu.2.1, hu'⟩
                            have dV : V t a = decide (fst1 (pthZ r (Fl r k a t) c0) cell (n + 1).toNat 0 < 0) := rfl
                            rw [← dV]
                            by_cases b : V t a = true
                            · rw [b, show b01 true = 1 from rfl, if_neg (by decide)]
                              rw [b, aw, if_pos (by decide)] at hl2
                              rw [hl2, if_neg (by omega)] at hz2
                              intro u2 e2 u3 e3
                              have hsk : skC u3 r (lsum r) := hu'.fr (fun o ho => by rw [e3, up_other (by omega), e2, up_other (by omega)])
                              have b53 : u3 53 = u' 53 := by rw [e3, up_other (by decide), e2, up_other (by decide)]
                              have f88 := f8 LK'.1
                              have v3 : u3 125 3 = t := by rw [e3, up_slot (by decide), e2, up_self]
                              have v4 : u3 125 4 = a := by rw [e3, up_self]
                              show if (0 : Int) ≤ 0 then _ else _
                              rw [if_pos (by decide), v3, v4]
                              by_cases w0 : wh = 0
                              · rw [if_neg (fun z => z w0)]
                                exact ref2 u3 t hsk (by rw [b53]; exact f88.1) (by rw [b53]; exact f88.2) (by rw [← hz2, if_neg (by omega), if_pos w0]; omega)
                              · rw [if_pos w0]
                                exact ref2 u3 a hsk (by rw [b53]; exact f88.1) (by rw [b53]; exact f88.2) (by rw [← hz2, if_neg (by omega), if_neg w0]; omega)
                            · have bf : V t a = false := by simpa using b
                              rw [bf, show b01 false = 0 from rfl, if_pos rfl]
                              exact nope (by rw [bf, Bool.and_false]) u' LK'
                    exact cells (r 0 12 * r 0 13).toNat 0 u (by omega) (by omega) hu rfl
              exact steps 16 0 g1 (by omega) (by omega) ⟨fun _ _ => rfl, rfl, sk1⟩ rfl
          · rw [if_neg c6]
            exact no (fun z => c6 z.2.2.2.2.2)
        · rw [if_neg c4, if_pos rfl]
          exact no (fun z => c4 z.2.2.2.1)
      · rw [if_neg c3, if_pos rfl]
        exact l46 (fun z => c3 z.2.2)
    · rw [if_neg c2, if_pos rfl]
      exact l46 (fun z => c2 z.2.1)
  · rw [if_neg c1, if_pos rfl]
    exact l46 (fun z => c1 z.1)
