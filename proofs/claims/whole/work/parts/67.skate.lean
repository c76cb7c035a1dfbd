/-! ===== where skaters go ===== -/
theorem evs_ok {q r : Mh} {nm : Int → Int} (hL : RLaw q r) (hno : ∀ j, okV (nm j)) : ∀ (i : Nat) (f : Int → Int), (i : Int) ≤ r 0 20 → evs r nm i = some f → ∀ x, okV (f x) := by
  obtain ⟨l1, l2, l3, l4, sk, s0, sK, sE⟩ := hL
  have hin := sk_in s0 sK
  intro i
  induction i with
  | zero =>
    intro f _ h x
    have : (fun _ => (0 : Int)) = f := Option.some.inj h
    rw [← this]
    show okV 0
    unfold okV; omega
  | succ i ih =>
    intro f hi h x
    have h2 : (match evs r nm i with | none => none | some f => (match kv nm (r 23 i) (r 24 i) (f (r 24 i)) (f (r 25 i)) with | none => none | some v => some (fun j => if j = (i : Int) then v else f j))) = some f := h
    cases e : evs r nm i with
    | none => rw [e] at h2; cases h2
    | some f0 =>
      rw [e] at h2
      have i0 := ih f0 (by omega) e
      cases hc : kv nm (r 23 i) (r 24 i) (f0 (r 24 i)) (f0 (r 25 i)) with
      | none =>
        have h3 : (match kv nm (r 23 i) (r 24 i) (f0 (r 24 i)) (f0 (r 25 i)) with | none => none | some v => some (fun j => if j = (i : Int) then v else f0 j)) = some f := h2
        rw [hc] at h3; cases h3
      | some v =>
        have h3 : (match kv nm (r 23 i) (r 24 i) (f0 (r 24 i)) (f0 (r 25 i)) with | none => none | some v => some (fun j => if j = (i : Int) then v else f0 j)) = some f := h2
        rw [hc] at h3
        have h4 : (fun j => if j = (i : Int) then v else f0 j) = f := Option.some.inj h3
        rw [← h4]
        have hi2 := hin i (by omega)
        have vok : okV v := by
          rcases (sK i (by omega)).2 with ⟨a, b, c, d, e⟩ | ⟨a, b, c, e⟩ | ⟨a, u, e1, e⟩ | ⟨a, b, u, e1, e⟩
          · rw [a] at hc
            have : (r 24 i) = v := Option.some.inj hc
            unfold okV; omega
          · rw [a] at hc
            have : nm (r 24 i) = v := Option.some.inj hc
            rw [← this]; exact hno _
          · have := hi2 (r 24 i) (by rw [e1]; simp)
            exact kv_ok (hno _) (by unfold okV; omega) (i0 _) hc
          · have := hi2 (r 24 i) (by rw [e1]; simp)
            exact kv_ok (hno _) (by unfold okV; omega) (i0 _) hc
        show okV (if x = (i : Int) then v else f0 x)
        by_cases z : x = (i : Int)
        · rw [if_pos z]; exact vok
        · rw [if_neg z]; exact i0 x
theorem wth_ok {q r : Mh} {nm : Int → Int} {v : Int} (hL : RLaw q r) (hno : ∀ j, okV (nm j)) (h : wth r nm = some v) : okV v := by
  unfold wth at h
  cases e : evs r nm (r 0 20).toNat with
  | none => rw [e] at h; cases h
  | some f =>
    rw [e] at h
    rw [← Option.some.inj h]
    have := hL.2.1
    exact evs_ok hL hno _ f (by omega) e _
abbrev nxR (r : Mh) (c v : Int) : Int := nx (r 0 12) (r 0 13) (r 5) c v
def wv (r : Mh) (F : Int → Int → Int) (c v t : Int) : Int := (drv r F c v t).getD 0
def nw (N W : Int → Int) : Nat → Int → Int × Int → Int × Int
  | 0, _, S => S
  | n + 1, v, S => nw N W n (v + 1) (if 0 ≤ N v ∧ S.2 < W v then (N v, W v) else S)
/-- the cell that a skater goes to -/
def nxt (r : Mh) (F : Int → Int → Int) (c t : Int) : Int := (nw (nxR r c) (fun v => wv r F c v t) 4 1 (c, wv r F c 0 t)).1
def pth (r : Mh) (F : Int → Int → Int) (c : Int) : Nat → Int
  | 0 => c
  | n + 1 => nxt r F (pth r F c n) n
theorem nx_0 {r : Mh} {c : Int} (hs : szs (r 0 12) (r 0 13)) (h : watR r c) : nxR r c 0 = c := by
  have co := co_of hs h.1 h.2.1
  have gx0 : gx (r 0 12) c 0 = c % r 0 12 := by unfold gx; simp
  have gy0 : gy (r 0 12) c 0 = c / r 0 12 := by unfold gy; simp
  have e := nx_of (w := r 0 12) (hh := r 0 13) (g := r 5) (c := c) (way := 0) (by rw [gx0]; exact co.1) (by rw [gx0]; exact co.2.1) (by rw [gy0]; exact co.2.2.1) (by rw [gy0]; exact co.2.2.2.1) (by rw [gx0, gy0, co.2.2.2.2]; exact h.2.2)
  show nx (r 0 12) (r 0 13) (r 5) c 0 = c
  rw [e, gx0, gy0, co.2.2.2.2]
theorem nw_wat {r : Mh} {c : Int} {W : Int → Int} (hs : szs (r 0 12) (r 0 13)) : ∀ (n : Nat) (v : Int) (S : Int × Int), watR r S.1 → watR r (nw (nxR r c) W n v S).1 := by
  intro n
  induction n with
  | zero => intro v S h; exact h
  | succ n ih =>
    intro v S h
    unfold nw
    refine ih (v + 1) _ ?_
    split
    · rename_i hh
      have := nx_r (g := r 5) (c := c) (way := v) hs
      rcases this with z | z
      · have h1 : 0 ≤ nx (r 0 12) (r 0 13) (r 5) c v := hh.1
        omega
      · exact z
    · exact h
theorem nxt_wat {r : Mh} {F : Int → Int → Int} {c t : Int} (hs : szs (r 0 12) (r 0 13)) (h : watR r c) : watR r (nxt r F c t) := nw_wat hs 4 1 _ h
theorem pth_wat {r : Mh} {F : Int → Int → Int} {c : Int} (hs : szs (r 0 12) (r 0 13)) (h : watR r c) : ∀ n, watR r (pth r F c n) := by
  intro n
  induction n with
  | zero => exact h
  | succ n ih => exact nxt_wat hs ih
/-- the class's heap while skaters go -/
def skC (g r : Mh) (F : Int → Int → Int) : Prop := Core g r ∧ waysOK g ∧ (∀ c t, 0 ≤ c → c < 48 → 0 ≤ t → t ≤ 199 → okV (F c t)) ∧ ∀ c t, 0 ≤ c → c < r 0 12 * r 0 13 → 0 ≤ t → t < 200 → g 120 (200 * c + t) = F c t
def frN (q g : Mh) : Prop := ∀ o, ¬ (o = 42 ∨ o = 43 ∨ o = 94 ∨ o = 95 ∨ o = 125 ∨ o = 126) → g o = q o
theorem frN.refl (q : Mh) : frN q q := fun _ _ => rfl
theorem frN.trans {q g k : Mh} (h1 : frN q g) (h2 : frN g k) : frN q k := fun o h => (h2 o h).trans (h1 o h)
theorem frN.sc {q g : Mh} (h : frN q g) : sameC q g := fun o j a b c d => by rw [h o (by omega)]
theorem frN.ways {q g : Mh} (h : frN q g) (hp : isP (q 53 0)) (hw : waysOK q) : waysOK g := by
  have ep : g (q 53 0) = q (q 53 0) := by rcases hp with e | e <;> exact h _ (by omega)
  exact waysOK_congr (by rw [h 53 (by decide)]) (by rw [h 53 (by decide)]) ep (h 116 (by decide)) (h 117 (by decide)) (h 118 (by decide)) hw
theorem skC.fr {q r g : Mh} {F : Int → Int → Int} (h : skC q r F) (f : frN q g) : skC g r F :=
  ⟨h.1.same f.sc (sameR.refl r), f.ways h.1.2.2.1.1.1 h.2.1, h.2.2.1, fun c t a b d e => by rw [f 120 (by decide)]; exact h.2.2.2 c t a b d e⟩
theorem nmo_ok {r : Mh} {F : Int → Int → Int} (hF : ∀ c t, 0 ≤ c → c < 48 → 0 ≤ t → t ≤ 199 → okV (F c t)) {c x rd way t : Int} (c0 : 0 ≤ c) (c1 : c < 48) (x0 : 0 ≤ x) (x1 : x < 48) (hr : rd = 0 ∨ rd = 1) (w0 : 0 ≤ way) (w1 : way ≤ 4) (t0 : 0 ≤ t) (t1 : t ≤ 199) : ∀ j, okV (nmo (F x t) (F c t) rd way t j) := by
  intro j
  have k1 := hF x t x0 x1 t0 t1
  have k2 := hF c t c0 c1 t0 t1
  unfold nmo
  split; assumption
  split; assumption
  split; unfold okV; omega
  split; unfold okV; omega
  unfold okV; omega
theorem drv_ok {g r : Mh} {F : Int → Int → Int} (h : skC g r F) {c way t v : Int} (hc : watR r c) (w0 : 0 ≤ way) (w1 : way ≤ 4) (t0 : 0 ≤ t) (t1 : t ≤ 199) (hx : 0 ≤ nxR r c way) (e : drv r F c way t = some v) : okV v := by
  have hs := h.1.2.2.1.1.2.2.2.2.1.1
  have hm := szs_mul hs
  have x1 : nxR r c way < 48 := by
    have := nx_r (g := r 5) (c := c) (way := way) hs
    have hx' : 0 ≤ nx (r 0 12) (r 0 13) (r 5) c way := hx
    show nx (r 0 12) (r 0 13) (r 5) c way < 48
    rcases this with z | z <;> omega
  have c1 : c < 48 := by have := hc.2.1; omega
  unfold drv at e
  by_cases l : r 0 20 = 0
  · rw [if_pos l] at e
    rw [← Option.some.inj e]
    exact h.2.2.1 _ t hx x1 t0 t1
  · rw [if_neg l] at e
    exact wth_ok h.1.2.2.1.2.2.2.2.2.2 (nmo_ok (r := r) h.2.2.1 hc.1 c1 hx x1 (by split <;> omega) w0 w1 t0 t1) e
theorem near_eq {g r : Mh} {F : Int → Int → Int} (h : skC g r F) {c v : Int} (c0 : 0 ≤ c) (c1 : c < r 0 12 * r 0 13) (v0 : 0 ≤ v) (v1 : v < 5) : g 116 (5 * c + v) = nxR r c v := by
  have hd := h.1.2.2.1.1
  have hm := szs_mul hd.2.2.2.2.1.1
  rw [h.2.1.1 c v c0 (by rw [hd.2.2.1, hd.2.2.2.1]; exact c1) v0 v1, hd.2.2.1, hd.2.2.2.1]
  exact nx_congr hd.2.2.2.2.1.1 (fun d d0 d1 => (h.1.2.2.2.1.1 d d0 (by omega)).symm) c v
def frL (q g : Mh) : Prop := ∀ o, ¬ (o = 42 ∨ o = 43 ∨ o = 94 ∨ o = 95) → g o = q o
theorem frL.refl (q : Mh) : frL q q := fun _ _ => rfl
theorem frL.trans {q g k : Mh} (h1 : frL q g) (h2 : frL g k) : frL q k := fun o h => (h2 o h).trans (h1 o h)
theorem frL.n {q g : Mh} (h : frL q g) : frN q g := fun o ho => h o (by omega)
theorem sp_drive {g r : Mh} {F : Int → Int → Int} {c way t : Int} {K : Int → Mh → Prop} (h : skC g r F) (hc : watR r c) (w0 : 0 ≤ way) (w1 : way ≤ 4) (t0 : 0 ≤ t) (t1 : t ≤ 199)
    (hn : nxR r c way < 0 → K (-9223372036854775808) g) (hk : 0 ≤ nxR r c way → ∀ g', frL g g' → K (match drv r F c way t with | none => -9223372036854775808 | some v => v) g') : wp_X8_drive c way t g K := by
  have hd := h.1.2.2.1.1
  have hs := hd.2.2.2.2.1.1
  have hm := szs_mul hs
  have hg := h.1.2.2.2.1
  have hL := h.1.2.2.1.2.2.2.2.2.2
  have c1 : c < 48 := by have := hc.2.1; omega
  unfold wp_X8_drive
  refine sp_nearOf hd.cp.1 hc.1 (by rw [hd.2.2.1, hd.2.2.2.1]; exact hc.2.1) w0 (by omega) ?_
  rw [near_eq h hc.1 hc.2.1 w0 (by omega)]
  have nr := nx_r (g := r 5) (c := c) (way := way) hs
  by_cases x0 : 0 ≤ nxR r c way
  · rw [if_pos x0]
    have xw : watR r (nxR r c way) := by
      have x0' : 0 ≤ nx (r 0 12) (r 0 13) (r 5) c way := x0
      rcases nr with z | z
      · omega
      · exact z
    have x1 : nxR r c way < 48 := by have := xw.2.1; omega
    have hk2 := hk x0
    rw [wi_sumAt x0 x1 t0 (by omega), h.2.2.2 _ t x0 xw.2.1 t0 (by omega)]
    refine ⟨isP_4 hd.1, ?_⟩
    unfold wp_X3_isEmpty
    rw [hL.1]
    unfold drv at hk2
    by_cases l : r 0 20 = 0
    · rw [if_neg (fun z => z l)]
      dsimp only
      rw [if_neg (by decide)]
      have := hk2 g (frL.refl g)
      rw [if_pos l] at this
      exact this
    · rw [if_pos l]
      dsimp only
      rw [if_pos rfl, wi_hasReeds x0 (by omega)]
      have er : r 5 (nxR r c way) = cg g (nxR r c way) := hg.1 _ x0 x1
      have n2 : ¬ cg g (nxR r c way) = 2 := by rw [← er]; exact xw.2.2
      have c1' := cg_1 n2
      have fin : ∀ rd : Int, (rd = if r 5 (nxR r c way) = 1 then 1 else 0) → Lfp (F_X8_drive c way t K) (69, [F (nxR r c way) t, rd], g) := by
        intro rd erd
        have rd01 : rd = 0 ∨ rd = 1 := by rw [erd]; split <;> omega
        apply L_X8_drive_69
        unfold B_X8_drive_69
        refine ⟨isP_4 hd.1, ?_⟩
        rw [wi_sumAt hc.1 c1 t0 (by omega), h.2.2.2 c t hc.1 hc.2.1 t0 (by omega)]
        refine sp_worth hL hd.1 (by have := hL.2.1; omega) (nmo_ok (r := r) h.2.2.1 hc.1 c1 x0 x1 rd01 w0 w1 t0 t1) ?_
        intro g' fg
        have := hk2 g' (fun o ho => fg o (by rcases hd.1 with e | e <;> omega) (by rcases hd.1 with e | e <;> omega))
        rw [if_neg l] at this
        rw [erd]
        exact this
      by_cases b : bit (g 53 1) (nxR r c way) = true
      · rw [if_pos b, if_neg (by decide)]
        exact fin 1 (by rw [er, if_pos (c1'.mpr b)])
      · rw [if_neg b, if_pos rfl]
        exact fin 0 (by rw [er, if_neg (fun z => b (c1'.mp z))])
  · rw [if_neg x0]
    exact hn (by omega)
theorem sp_next {g r : Mh} {F : Int → Int → Int} {c t : Int} {K : Int → Mh → Prop} (h : skC g r F) (hc : watR r c) (t0 : 0 ≤ t) (t1 : t ≤ 199) (hk : ∀ g', frL g g' → K (nxt r F c t) g') : wp_X8_next c t g K := by
  have hd := h.1.2.2.1.1
  have hs := hd.2.2.2.2.1.1
  have hm := szs_mul hs
  have n0 := nx_0 hs hc
  have nerr : ∀ v, okV v → ¬ v = -9223372036854775808 := by intro v hv; unfold okV at hv; omega
  -- the ways one by one
  have stepW : ∀ (v : Int) (S : Int × Int) (u : Mh), frL g u → 0 ≤ v → v < 5 → (∀ S' u', frL g u' → (S' = if v = 0 then (nxR r c 0, wv r F c 0 t) else if 0 ≤ nxR r c v ∧ S.2 < wv r F c v t then (nxR r c v, wv r F c v t) else S) → Lfp (F_X8_next c t K) (8, [S'.1, S'.2, v + 1], u')) → Lfp (F_X8_next c t K) (8, [S.1, S.2, v], u) := by
    intro v S u fu v0 v1 hz
    have hu := h.fr fu.n
    have hdu := hu.1.2.2.1.1
    apply L_X8_next_8
    unfold B_X8_next_8
    rw [if_neg (by omega)]
    refine sp_nearOf hdu.cp.1 hc.1 (by rw [hdu.2.2.1, hdu.2.2.2.1]; exact hc.2.1) v0 v1 ?_
    rw [near_eq hu hc.1 hc.2.1 v0 v1]
    by_cases x0 : nxR r c v < 0
    · rw [if_pos x0]
      intro y ey
      rw [w32_eq (by omega) (by omega)] at ey
      subst ey
      refine hz S u fu ?_
      have : ¬ v = 0 := fun e => by rw [e, n0] at x0; have := hc.1; omega
      rw [if_neg this, if_neg (by omega)]
    · rw [if_neg x0]
      refine sp_drive hu hc v0 (by omega) t0 t1 (fun z => absurd z x0) ?_
      intro _ u' fu'
      have fgu := fu.trans fu'
      have res : ∀ x : Int, x = wv r F c v t → (if v = 0 then (∀ x4 : Int, x4 = w32 (v + 1) → Lfp (F_X8_next c t K) (8, [nxR r c v, x, x4], u')) else (if j_cmp x S.2 ≤ 0 then (∀ x5 : Int, x5 = w32 (v + 1) → Lfp (F_X8_next c t K) (8, [S.1, S.2, x5], u')) else (∀ x6 : Int, x6 = w32 (v + 1) → Lfp (F_X8_next c t K) (8, [nxR r c v, x, x6], u')))) := by
        intro x ex
        simp only [j_cmp_le]
        by_cases v00 : v = 0
        · rw [if_pos v00]
          intro y ey
          rw [w32_eq (by omega) (by omega)] at ey
          subst ey
          have := hz (nxR r c 0, wv r F c 0 t) u' fgu (by rw [if_pos v00])
          rw [ex, v00]
          rw [v00] at this
          exact this
        · rw [if_neg v00]
          by_cases le : x ≤ S.2
          · rw [if_pos le]
            intro y ey
            rw [w32_eq (by omega) (by omega)] at ey
            subst ey
            exact hz S u' fgu (by rw [if_neg v00, if_neg (by omega)])
          · rw [if_neg le]
            intro y ey
            rw [w32_eq (by omega) (by omega)] at ey
            subst ey
            have := hz (nxR r c v, wv r F c v t) u' fgu (by rw [if_neg v00, if_pos (by omega)])
            rw [ex]
            exact this
      cases e : drv r F c v t with
      | none =>
        have ew : wv r F c v t = 0 := by unfold wv; rw [e]; rfl
        dsimp only
        simp only [j_cmp_eq]
        rw [if_neg (fun z => z trivial)]
        have := res 0 ew.symm
        exact this
      | some x =>
        have ew : wv r F c v t = x := by unfold wv; rw [e]; rfl
        have ok := drv_ok hu hc v0 (by omega) t0 t1 (by omega) e
        dsimp only
        have nn : ¬ j_cmp x (-9223372036854775808) = 0 := by rw [j_cmp_eq]; exact nerr x ok
        rw [if_pos nn]
        exact res x ew.symm
  have rest : ∀ (n : Nat) (v : Int) (S : Int × Int) (u : Mh), frL g u → 1 ≤ v → v + n = 5 → (nw (nxR r c) (fun v => wv r F c v t) n v S).1 = nxt r F c t → Lfp (F_X8_next c t K) (8, [S.1, S.2, v], u) := by
    intro n
    induction n with
    | zero =>
      intro v S u fu v1 hv hz
      apply L_X8_next_8
      unfold B_X8_next_8
      rw [if_pos (by omega)]
      have e : S.1 = nxt r F c t := hz
      rw [e]
      exact hk u fu
    | succ n ih =>
      intro v S u fu v1 hv hz
      refine stepW v S u fu (by omega) (by omega) ?_
      intro S' u' fu' eS
      rw [if_neg (by omega)] at eS
      refine ih (v + 1) S' u' fu' (by omega) (by omega) ?_
      rw [eS]
      exact hz
  unfold wp_X8_next
  refine stepW 0 (c, 0) g (frL.refl g) (by omega) (by omega) ?_
  intro S' u' fu' eS
  rw [if_pos rfl, n0] at eS
  refine rest 4 1 S' u' fu' (by omega) (by omega) ?_
  rw [eS]
  rfl
theorem sp_goesFrom {q r s : Mh} {F : Int → Int → Int} {c t : Int} {K : Int → Mh → Prop} (h : skR q r F) (hr : sameR r s) (hc : watR r c) (t0 : 0 ≤ t) (t1 : t ≤ 199) (hk : ∀ s', sameR r s' → K (nxt r F c t) s') : wp_X14_goesFrom c t s K := by
  have hs := h.2.1.1.1
  have hm := szs_mul hs
  have c1 : c < 48 := by have := hc.2.1; omega
  have n0 := nx_0 hs hc
  have stepW : ∀ (v : Int) (S : Int × Int) (u : Mh), sameR r u → 0 ≤ v → v < 5 → (v = 0 ∨ 0 ≤ S.1) → (v = 0 → S.1 < 0) → (∀ S' u', sameR r u' → (S' = if v = 0 then (nxR r c 0, wv r F c 0 t) else if 0 ≤ nxR r c v ∧ S.2 < wv r F c v t then (nxR r c v, wv r F c v t) else S) → Lfp (F_X14_goesFrom c t K) (8, [S'.1, S'.2, v + 1], u')) → Lfp (F_X14_goesFrom c t K) (8, [S.1, S.2, v], u) := by
    intro v S u fu v0 v1 hS hS0 hz
    apply L_X14_goesFrom_8
    unfold B_X14_goesFrom_8
    rw [if_neg (by omega)]
    refine sp_nextTo (by rw [fu 0 12 (by decide) (by decide), fu 0 13 (by decide) (by decide)]; exact hs) hc.1 c1 ?_
    rw [fu 0 12 (by decide) (by decide), fu 0 13 (by decide) (by decide), fu.row (o := 5) (by decide) (by decide)]
    show if 0 ≤ nxR r c v then _ else _
    by_cases x0 : 0 ≤ nxR r c v
    · rw [if_pos x0]
      refine sp_lawOf h fu hc.1 c1 v0 (by omega) t0 t1 x0 ?_
      intro s' hs'
      have res : ∀ x : Int, x = wv r F c v t → (if S.1 < 0 then (∀ x3 : Int, x3 = w32 (v + 1) → Lfp (F_X14_goesFrom c t K) (8, [nxR r c v, x, x3], s')) else (if 0 < j_cmp x S.2 then (∀ x4 : Int, x4 = w32 (v + 1) → Lfp (F_X14_goesFrom c t K) (8, [nxR r c v, x, x4], s')) else (∀ x5 : Int, x5 = w32 (v + 1) → Lfp (F_X14_goesFrom c t K) (8, [S.1, S.2, x5], s')))) := by
        intro x ex
        simp only [j_cmp_gt]
        by_cases v00 : v = 0
        · rw [if_pos (hS0 v00)]
          intro y ey
          rw [w32_eq (by omega) (by omega)] at ey
          subst ey
          have := hz (nxR r c 0, wv r F c 0 t) s' hs' (by rw [if_pos v00])
          rw [ex, v00]
          rw [v00] at this
          exact this
        · rw [if_neg (by omega)]
          by_cases lt : S.2 < x
          · rw [if_pos lt]
            intro y ey
            rw [w32_eq (by omega) (by omega)] at ey
            subst ey
            have := hz (nxR r c v, wv r F c v t) s' hs' (by rw [if_neg v00, if_pos (by omega)])
            rw [ex]
            exact this
          · rw [if_neg lt]
            intro y ey
            rw [w32_eq (by omega) (by omega)] at ey
            subst ey
            exact hz S s' hs' (by rw [if_neg v00, if_neg (by omega)])
      cases e : drv r F c v t with
      | none =>
        have ew : wv r F c v t = 0 := by unfold wv; rw [e]; rfl
        dsimp only
        intro _
        exact res 0 ew.symm
      | some x =>
        have ew : wv r F c v t = x := by unfold wv; rw [e]; rfl
        dsimp only
        intro _
        exact res x ew.symm
    · rw [if_neg x0]
      intro y ey
      rw [w32_eq (by omega) (by omega)] at ey
      subst ey
      refine hz S u fu ?_
      have : ¬ v = 0 := fun e => by rw [e, n0] at x0; exact x0 hc.1
      rw [if_neg this, if_neg (fun z => x0 z.1)]
  have rest : ∀ (n : Nat) (v : Int) (S : Int × Int) (u : Mh), sameR r u → 1 ≤ v → v + n = 5 → 0 ≤ S.1 → (nw (nxR r c) (fun v => wv r F c v t) n v S).1 = nxt r F c t → Lfp (F_X14_goesFrom c t K) (8, [S.1, S.2, v], u) := by
    intro n
    induction n with
    | zero =>
      intro v S u fu v1 hv hS hz
      apply L_X14_goesFrom_8
      unfold B_X14_goesFrom_8
      rw [if_pos (by omega)]
      have e : S.1 = nxt r F c t := hz
      rw [e]
      exact hk u fu
    | succ n ih =>
      intro v S u fu v1 hv hS hz
      refine stepW v S u fu (by omega) (by omega) (Or.inr hS) (fun z => by omega) ?_
      intro S' u' fu' eS
      rw [if_neg (by omega)] at eS
      refine ih (v + 1) S' u' fu' (by omega) (by omega) ?_ (by rw [eS]; exact hz)
      rw [eS]
      split
      · rename_i hh; exact hh.1
      · exact hS
  unfold wp_X14_goesFrom
  refine stepW 0 (-1, 0) s hr (by omega) (by omega) (Or.inl rfl) (fun _ => by show (-1 : Int) < 0; decide) ?_
  intro S' u' fu' eS
  rw [if_pos rfl, n0] at eS
  refine rest 4 1 S' u' fu' (by omega) (by omega) (by rw [eS]; exact hc.1) ?_
  rw [eS]
  rfl
/-! ===== law, where, reaches, first ===== -/
theorem Rel.skC {q r g : Mh} (hC : Core g r) (w : waysOK g) (hs : sumsOK g) : skC g r (lsum r) := by
  have hd := hC.2.2.1.1
  refine ⟨hC, w, fun c t _ _ _ _ => ?_, fun c t c0 c1 t0 t1 => ?_⟩
  · have := lsum_le hC.ro c t
    unfold okV; omega
  · rw [hs c t c0 (by rw [hd.2.2.1, hd.2.2.2.1]; exact c1) t0 t1, hC.ls]
theorem Core.skR {q r : Mh} (hC : Core q r) : skR q r (lsum r) := ⟨hC.2.2.1.2.2.2.2.2.2, hC.ro, fun _ _ _ _ _ _ => rfl⟩
theorem relN {q r g s : Mh} (h : Rel q r) (f : frN q g) (hr : sameR r s) : Rel g s := h.keep f.sc (f 53 (by decide)) (f 116 (by decide)) (f 117 (by decide)) (f 118 (by decide)) (f 120 (by decide)) hr
theorem sp_skaterAt {r u : Mh} {i : Int} {K : Int → Mh → Prop} (h : Core u r) (i0 : 0 ≤ i) (i1 : i < r 0 16) (hK : K (r 16 i) u) : wp_X7_orZero shC (u 53 0 + 31) i u K := by
  have hS := h.2.2.1.2.2.2.2.1
  have hd := h.2.2.1.1
  have s3 : (shC (u 53 0 + 31 + 1)).2 = 3 := by rcases hd.1 with e | e <;> rw [e] <;> decide
  rw [wi_orZero (by rw [hS.2.2.1.1, s3]; exact hS.2.1), hS.2.2.1.rf]
  have er2 : rsf (r 0 16) (fun j => r 16 (0 + j)) i = r 16 i := by unfold rsf; rw [if_neg (by omega), if_neg (by omega)]; simp
  rw [er2]
  exact hK
/-- the path in the class's row -/
theorem sp_follow {g r : Mh} {F : Int → Int → Int} {i l : Int} {K : Mh → Prop} (h : skC g r F) (i0 : 0 ≤ i) (i1 : i < r 0 16) (l0 : 0 ≤ l) (l1 : l ≤ 100) (hk : ∀ g', frN g g' → (∀ n : Nat, (n : Int) ≤ l → g' 126 n = pth r F (r 16 i) n) → K g') : wp_X8_follow i l g K := by
  have hd := h.1.2.2.1.1
  have hs := hd.2.2.2.2.1.1
  have hw := h.1.2.2.1.2.2.2.2.1.2.2.2 i i0 i1
  have loop : ∀ (k : Nat) (n : Nat) (u : Mh), (n : Int) + k = l → frN g u → (∀ m : Nat, m ≤ n → u 126 m = pth r F (r 16 i) m) → Lfp (F_X8_follow i l K) (25, [pth r F (r 16 i) n, n], u) := by
    intro k
    induction k with
    | zero =>
      intro n u hn fu hv
      apply L_X8_follow_25
      unfold B_X8_follow_25
      rw [if_pos (by omega)]
      exact hk u fu (fun m hm => hv m (by omega))
    | succ k ih =>
      intro n u hn fu hv
      apply L_X8_follow_25
      unfold B_X8_follow_25
      rw [if_neg (by omega), w32_eq (x := (n : Int) + 1) (by omega) (by omega), if_neg (by omega)]
      refine sp_next (h.fr fu) (pth_wat hs hw n) (by omega) (by omega) ?_
      intro u' fu'
      refine ⟨⟨by omega, by omega⟩, ?_⟩
      intro u2 e2 x ex
      have f2 : frN g u2 := fun o ho => by rw [e2, up_other (by omega), fu' o (by omega), fu o ho]
      have e1 : ((n : Int) + 1) = ((n + 1 : Nat) : Int) := by omega
      rw [e1] at e2 ex
      subst ex
      refine ih (n + 1) u2 (by omega) f2 (fun m hm => ?_)
      rw [e2]
      by_cases z : m = n + 1
      · rw [z, up_self]; rfl
      · rw [up_slot (by omega), fu' 126 (by decide)]
        exact hv m (by omega)
  unfold wp_X8_follow
  refine ⟨isP_4 hd.1, ?_⟩
  refine sp_skaterAt h.1 i0 i1 ?_
  intro u1 e1
  refine loop l.toNat 0 u1 (by omega) (fun o ho => by rw [e1, up_other (by omega)]) (fun m hm => ?_)
  have : m = 0 := by omega
  rw [this, e1]
  exact up_self
theorem sp_arrival {g : Mh} {c l : Int} {P : Int → Int} {K : Int → Mh → Prop} (l0 : 0 ≤ l) (l1 : l ≤ 100) (hv : ∀ n, 0 ≤ n → n ≤ l → g 126 n = P n) (hk : K (if fst1 P c (l + 1).toNat 0 < 0 then -2 else fst1 P c (l + 1).toNat 0) g) : wp_X8_arrivalOnPath c l g K := by
  have loop : ∀ (k : Nat) (n : Int), 0 ≤ n → n + k = l + 1 → K (if fst1 P c k n < 0 then -2 else fst1 P c k n) g → Lfp (F_X8_arrivalOnPath c l K) (2, [n], g) := by
    intro k
    induction k with
    | zero =>
      intro n n0 hn hk
      apply L_X8_arrivalOnPath_2
      unfold B_X8_arrivalOnPath_2
      rw [if_pos (by omega)]
      exact hk
    | succ k ih =>
      intro n n0 hn hk
      apply L_X8_arrivalOnPath_2
      unfold B_X8_arrivalOnPath_2
      rw [if_neg (by omega), if_neg (by omega), hv n n0 (by omega)]
      refine ⟨⟨n0, by omega⟩, ?_⟩
      unfold fst1 at hk
      by_cases e : P n = c
      · rw [if_neg (fun z => z e)]
        rw [if_pos e, if_neg (by omega)] at hk
        exact hk
      · rw [if_pos e]
        rw [if_neg e] at hk
        intro y ey
        rw [w32_eq (by omega) (by omega)] at ey
        subst ey
        exact ih (n + 1) (by omega) (by omega) hk
  unfold wp_X8_arrivalOnPath
  exact loop (l + 1).toNat 0 (by omega) (by omega) hk
def pthZ (r : Mh) (F : Int → Int → Int) (c n : Int) : Int := pth r F c n.toNat
theorem pthZ_succ {r : Mh} {F : Int → Int → Int} {c n : Int} (n0 : 0 ≤ n) : pthZ r F c (n + 1) = nxt r F (pthZ r F c n) n := by
  unfold pthZ
  rw [show (n + 1).toNat = n.toNat + 1 by omega]
  show nxt r F (pth r F c n.toNat) (n.toNat : Int) = _
  rw [show ((n.toNat : Nat) : Int) = n by omega]
theorem sp_comesTo {q r s : Mh} {F : Int → Int → Int} {i c l : Int} {K : Int → Mh → Prop} (h : skR q r F) (hr : sameR r s) (i0 : 0 ≤ i) (i1 : i < r 0 16) (i3 : r 0 16 ≤ 3) (hw : watR r (r 16 i)) (l0 : -1 ≤ l) (l1 : l ≤ 100) (hk : ∀ s', sameR r s' → K (fst1 (pthZ r F (r 16 i)) c (l + 1).toNat 0) s') (hl0 : 0 ≤ l) : wp_X14_comesTo i c l s K := by
  have hs := h.2.1.1.1
  have loop : ∀ (k : Nat) (n : Int) (u : Mh), 0 ≤ n → n + k = l → sameR r u → fst1 (pthZ r F (r 16 i)) c (k + 1) n = fst1 (pthZ r F (r 16 i)) c (l + 1).toNat 0 → Lfp (F_X14_comesTo i c l K) (11, [pthZ r F (r 16 i) n, n], u) := by
    intro k
    induction k with
    | zero =>
      intro n u n0 hn hu hz
      apply L_X14_comesTo_11
      unfold B_X14_comesTo_11
      have hku := hk u hu
      rw [← hz] at hku
      unfold fst1 at hku
      by_cases e : pthZ r F (r 16 i) n = c
      · rw [if_pos e, if_neg (fun z => z e)]
        rw [if_pos e] at hku
        exact hku
      · rw [if_neg e, if_pos (by omega), if_pos e]
        rw [if_neg e] at hku
        exact hku
    | succ k ih =>
      intro n u n0 hn hu hz
      apply L_X14_comesTo_11
      unfold B_X14_comesTo_11
      have hz2 : (if pthZ r F (r 16 i) n = c then n else fst1 (pthZ r F (r 16 i)) c (k + 1) (n + 1)) = fst1 (pthZ r F (r 16 i)) c (l + 1).toNat 0 := hz
      by_cases e : pthZ r F (r 16 i) n = c
      · rw [if_pos e, if_neg (fun z => z e)]
        rw [if_pos e] at hz2
        have hku := hk u hu
        rw [← hz2] at hku
        exact hku
      · rw [if_neg e, if_neg (by omega)]
        rw [if_neg e] at hz2
        refine sp_goesFrom h hu (pth_wat hs hw _) n0 (by omega) ?_
        intro u' hu' y ey
        rw [w32_eq (by omega) (by omega)] at ey
        subst ey
        rw [← pthZ_succ n0]
        exact ih (n + 1) u' (by omega) (by omega) hu' hz2
  unfold wp_X14_comesTo
  refine ⟨⟨i0, by omega⟩, ?_⟩
  intro x ex
  rw [hr.row (o := 16) (by decide) (by decide)] at ex
  have ini := loop l.toNat 0 s (by omega) (by omega) hr (by rw [show l.toNat + 1 = (l + 1).toNat by omega])
  rw [ex]
  exact ini
