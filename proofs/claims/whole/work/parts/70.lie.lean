/-! ===== a lie: the reference ===== -/
/-- all but scratch and the lie's three numbers -/
def sameQ (r s : Mh) : Prop := ∀ o j, ¬ (o = 28 ∨ o = 29 ∨ (35 ≤ o ∧ o ≤ 38)) → ¬ (o = 0 ∧ (j = 2 ∨ j = 73 ∨ (79 ≤ j ∧ j ≤ 81) ∨ (88 ≤ j ∧ j ≤ 90) ∨ j = 94 ∨ j = 95)) → s o j = r o j
theorem sameR.q {r s : Mh} (h : sameR r s) : sameQ r s := fun o j a b => h o j a (by omega)
theorem sameQ.trans {r s u : Mh} (h1 : sameQ r s) (h2 : sameQ s u) : sameQ r u := fun o j a b => (h2 o j a b).trans (h1 o j a b)
theorem sameQ.row {r s : Mh} (h : sameQ r s) {o : Int} (a : ¬ (o = 28 ∨ o = 29 ∨ (35 ≤ o ∧ o ≤ 38))) (b : o ≠ 0) : s o = r o := by
  funext j
  exact h o j a (fun z => b z.1)
theorem sameQ.ref {r s : Mh} (h : sameQ r s) : refEq r s :=
  ⟨fun j h1 h2 => h 0 j (by decide) (by omega), h 0 77 (by decide) (by decide), fun o h1 h2 h3 => h.row (by omega) (by omega), h.row (by decide) (by decide), h.row (by decide) (by decide), fun c _ _ => by rw [h.row (o := 5) (by decide) (by decide)]⟩
theorem Core.sameQ {q r s : Mh} (h : Core q r) (hr : sameQ r s) (e79 : s 0 79 = -1) : Core q s := by
  obtain ⟨h1, h2, h3, h4, h5, h6, h7, h8, h9, h10, h11⟩ := h
  have hP : pondEq q q := ⟨rfl, fun _ _ _ => rfl⟩
  have hR := hr.ref
  have p5 : s 5 = r 5 := hr.row (by decide) (by decide)
  refine ⟨h1.same rfl rfl (hr 0 1 (by decide) (by decide)) (hr.row (by decide) (by decide)), h2.same rfl (hr 0 4 (by decide) (by decide)) (hr 0 5 (by decide) (by decide)), h3.same hP rfl hR, h4.same hP rfl hR (fun c _ _ => by rw [p5]), ?_, ?_, ?_, ?_, ?_⟩
  · exact h5.same h3.1.2.2.2.2.1 (fun o a b => rfl) hR (hr 0 76 (by decide) (by decide)) (fun o a b => hr.row (by omega) (by omega))
  · exact h6.same h3.1.2.2.2.2.1 hP hR rfl rfl (fun o a b => rfl) (hr 0 96 (by decide) (by decide)) (hr 0 97 (by decide) (by decide)) (hr.row (by decide) (by decide)) (hr.row (by decide) (by decide))
  · exact h7.same h3.1.2.2.2.2.1 hR rfl rfl (hr 0 82 (by decide) (by decide)) (hr.row (by decide) (by decide)) (hr 0 76 (by decide) (by decide))
  · exact h8.same (fun b h1 h2 => rfl) (hr.row (by decide) (by decide)) (hr 0 15 (by decide) (by decide)) (hr 0 84 (by decide) (by decide)) (hr 0 85 (by decide) (by decide))
  · refine ⟨e79, wayR_congr (fun j a b => hr 0 j (by decide) (by omega)) p5 (hr.row (by decide) (by decide)) (hr.row (by decide) (by decide)) h10, ?_⟩
    rw [hr.row (o := 2) (by decide) (by decide)]; exact h11
theorem evs_sameQ {r s : Mh} (hr : sameQ r s) (nm : Int → Int) : ∀ n : Nat, evs s nm n = evs r nm n := by
  intro n
  induction n with
  | zero => rfl
  | succ n ih =>
    unfold evs
    rw [ih, hr.row (o := 23) (by decide) (by decide), hr.row (o := 24) (by decide) (by decide), hr.row (o := 25) (by decide) (by decide)]
theorem drv_sameQ {r s : Mh} (hr : sameQ r s) (F : Int → Int → Int) (c v t : Int) : drv s F c v t = drv r F c v t := by
  unfold drv wth
  rw [hr 0 20 (by decide) (by decide), hr 0 12 (by decide) (by decide), hr 0 13 (by decide) (by decide), hr.row (o := 5) (by decide) (by decide), evs_sameQ hr]
theorem pth_sameQ {r s : Mh} (hr : sameQ r s) (F : Int → Int → Int) (c : Int) : ∀ n : Nat, pth s F c n = pth r F c n := by
  have e : ∀ c t, nxt s F c t = nxt r F c t := by
    intro c t
    unfold nxt
    have e1 : (fun v => wv s F c v t) = (fun v => wv r F c v t) := by funext v; unfold wv; rw [drv_sameQ hr]
    have e2 : nxR s c = nxR r c := by funext v; show nx _ _ _ _ _ = nx _ _ _ _ _; rw [hr 0 12 (by decide) (by decide), hr 0 13 (by decide) (by decide), hr.row (o := 5) (by decide) (by decide)]
    have e3 : wv s F c 0 t = wv r F c 0 t := by unfold wv; rw [drv_sameQ hr]
    rw [e1, e2, e3]
  intro n
  induction n with
  | zero => rfl
  | succ n ih => unfold pth; rw [ih, e]
theorem FA_sameQ {r s : Mh} (hr : sameQ r s) : FA s = FA r := by
  funext a b
  unfold FA
  rw [hr 0 12 (by decide) (by decide), hr 0 13 (by decide) (by decide), hr 0 21 (by decide) (by decide), hr 0 22 (by decide) (by decide), hr.row (o := 5) (by decide) (by decide)]
theorem rgiv_sameQ {r s : Mh} (hr : sameQ r s) : rgiv s = rgiv r := by
  funext k a c n
  unfold rgiv
  rw [FA_sameQ hr, hr.row (o := 10) (by decide) (by decide), hr.row (o := 12) (by decide) (by decide), hr.row (o := 32) (by decide) (by decide), hr 0 23 (by decide) (by decide), hr 0 77 (by decide) (by decide)]
/-- a heap with a lie in it: skaters go by the sums with the lie -/
theorem skR_lie {q r s : Mh} (h : Core q r) (hr : sameQ r s) {k a t : Int} (e1 : s 0 79 = k) (e2 : s 0 80 = a) (e3 : s 0 81 = t) (ok : okD r k a t) : skR q s (Fl r k a t) := by
  have hR := hr.ref
  have ro := h.ro
  have hp := ro.1
  obtain ⟨b1, b2, b3, b4, b5, b6, b7⟩ := ro
  have e0 : ∀ j, ¬ (j = 2 ∨ j = 73 ∨ (79 ≤ j ∧ j ≤ 81) ∨ (88 ≤ j ∧ j ≤ 90) ∨ j = 94 ∨ j = 95) → s 0 j = r 0 j := fun j hj => hr 0 j (by decide) (fun z => hj z.2)
  have er : ∀ o, ¬ (o = 28 ∨ o = 29 ∨ (35 ≤ o ∧ o ≤ 38)) → o ≠ 0 → s o = r o := fun o h1 h2 => hr.row h1 h2
  refine ⟨h.2.2.1.2.2.2.2.2.2.same ⟨rfl, fun _ _ _ => rfl⟩ hR, ⟨hR.pr b1, wayR_congr (fun j h1 h2 => e0 j (by omega)) (er 5 (by decide) (by decide)) (er 30 (by decide) (by decide)) (er 31 (by decide) (by decide)) b2, ?_, ?_, ?_, ?_, ?_⟩, fun c t' c0 c1 t0 t1 => ?_⟩
  · rw [e0 23 (by decide)]; exact b3
  · rw [e0 77 (by decide), er 32 (by decide) (by decide)]; exact b4
  · rw [e0 14 (by decide)]
    refine ⟨b5.1, fun k k0 k1 => ?_⟩
    have := b5.2 k k0 k1
    unfold kndR at this ⊢
    rw [er 10 (by decide) (by decide), er 12 (by decide) (by decide)]
    exact this
  · rw [e0 76 (by decide), er 17 (by decide) (by decide), er 18 (by decide) (by decide), er 19 (by decide) (by decide)]
    exact ⟨b6.1, b6.2.1, fun d d0 d1 => (b6.2.2 d d0 d1).same hp hR⟩
  · rw [e1, e2, e3]
    exact fun _ => ok.same hp hR
  · unfold Fl lsum rsum
    have n79 := h.2.2.2.2.2.2.2.2.1
    have k0 := ok.1
    rw [e1, if_pos k0, e2, e3, rgiv_sameQ hr, e0 76 (by decide), er 17 (by decide) (by decide), er 18 (by decide) (by decide), er 19 (by decide) (by decide), if_neg (show ¬ 0 ≤ r 0 79 by omega)]
    omega
/-- the first lie in the order that is asked for -/
def laA (r : Mh) (P : Int → Int → Bool) (t : Int) : Int := fst1 (fun a => b01 (wtr r a && P t a)) 1 (r 0 12 * r 0 13).toNat 0
def laT (r : Mh) (P : Int → Int → Bool) : Nat → Int → Int
  | 0, _ => -1
  | n + 1, t => if laA r P t < 0 then laT r P n (t + 1) else 48 * t + laA r P t
/-- whether a drop keeps a skater away -/
def liK (r : Mh) (k c0 cell n : Int) (t a : Int) : Bool := decide (fst1 (pthZ r (Fl r k a t) c0) cell (n + 1).toNat 0 < 0)
theorem sp_lieR {q r : Mh} {i cell k n wh : Int} {K : Int → Mh → Prop} (h : Core q r) (i0 : 0 ≤ i) (i1 : i < r 0 16) (cl : 0 ≤ cell ∧ cell < r 0 12 * r 0 13) (k0 : 0 ≤ k) (k1 : k < r 0 14) (n0 : 0 ≤ n) (n1 : n ≤ 60) (w0 : 0 ≤ wh) (w1 : wh ≤ 1)
    (hk : ∀ s, sameQ r s → s 0 79 = -1 → K (if fst1 (pthZ r (lsum r) (r 16 i)) cell (n + 1).toNat 0 < 0 then -3 else if laT r (liK r k (r 16 i) cell n) 16 0 < 0 then -2 else if wh = 0 then laT r (liK r k (r 16 i) cell n) 16 0 / 48 else laT r (liK r k (r 16 i) cell n) 16 0 % 48) s) : wp_X14_lie i cell k n wh r K := by
  have hd := h.2.2.1.1
  have hs := hd.2.2.2.2.1.1
  have hm := szs_mul hs
  have hS := h.2.2.1.2.2.2.2.1
  have s3 := hS.2.1
  have hw := hS.2.2.2 i i0 i1
  have e79 := h.2.2.2.2.2.2.2.2.1
  have e0 : ∀ j, j ≠ 2 → up r 0 2 0 0 j = r 0 j := fun j hj => up_slot hj
  unfold wp_X14_lie
  intro r1 er1
  subst er1
  rw [wi_isSkater, e0 16 (by decide), k01, if_pos (show 0 ≤ i ∧ i < r 0 16 from ⟨i0, i1⟩), if_neg (by decide), wi_cellT hs, if_pos cl, if_neg (by decide), wi_isKind, e0 14 (by decide), k01, if_pos (show 0 ≤ k ∧ k < r 0 14 from ⟨k0, k1⟩), if_neg (by decide), wi_isIn, t01, if_pos (show 0 ≤ n ∧ n ≤ 60 from ⟨n0, n1⟩), if_neg (by decide), wi_isIn, t01, if_pos (show 0 ≤ wh ∧ wh ≤ 1 from ⟨w0, w1⟩), if_pos (by decide)]
  refine sp_comesTo h.skR (sameR.thrown r) i0 i1 s3 hw (by omega) (by omega) ?_ n0
  intro u0 hu0
  by_cases re : 0 ≤ fst1 (pthZ r (lsum r) (r 16 i)) cell (n + 1).toNat 0
  · rw [if_pos re]
    have hk2 : ∀ s, sameQ r s → s 0 79 = -1 → K (if laT r (liK r k (r 16 i) cell n) 16 0 < 0 then -2 else if wh = 0 then laT r (liK r k (r 16 i) cell n) 16 0 / 48 else laT r (liK r k (r 16 i) cell n) 16 0 % 48) s := by
      intro s a b
      have := hk s a b
      rw [if_neg (by omega)] at this
      exact this
    -- the end
    have fin : ∀ (v : Int) (u : Mh), sameQ r u → v = laT r (liK r k (r 16 i) cell n) 16 0 → (0 ≤ v → v < 768) → ∀ s, s = up u 0 79 (-1) → if 0 ≤ v then (if ¬ wh = 0 then K (j_rem v 48) s else K (j_div v 48) s) else K (-2) s := by
      intro v u hu ev vr s es
      have q1 : sameQ r s := fun o j a b => by rw [es, up_ne _ (by omega), hu o j a b]
      have q2 : s 0 79 = -1 := by rw [es, up_self]
      have hh := hk2 s q1 q2
      rw [← ev] at hh
      by_cases z : 0 ≤ v
      · have vv := vr z
        rw [if_pos z]
        rw [if_neg (by omega)] at hh
        have d1 : j_div v 48 = v / 48 := by unfold j_div; rw [Int.tdiv_eq_ediv_of_nonneg z, w32_eq (by omega) (by omega)]
        rw [j_rem_pos z (by omega) (by decide) (by decide), d1]
        by_cases y : wh = 0
        · rw [if_neg (fun z => z y)]
          rw [if_pos y] at hh
          exact hh
        · rw [if_pos y]
          rw [if_neg y] at hh
          exact hh
      · rw [if_neg z]
        rw [if_pos (by omega)] at hh
        exact hh
    have steps : ∀ (m : Nat) (t : Int) (u : Mh), 0 ≤ t → t + m = 16 → sameQ r u → laT r (liK r k (r 16 i) cell n) m t = laT r (liK r k (r 16 i) cell n) 16 0 → Lfp (F_X14_lie i cell k n wh K) (72, [-1, t], u) := by
      intro m
      induction m with
      | zero =>
        intro t u t0 ht hu hz
        apply L_X14_lie_72
        unfold B_X14_lie_72
        rw [if_pos (by omega)]
        intro s es
        exact fin (-1) u hu hz (fun z => by omega) s es
      | succ m ih =>
        intro t u t0 ht hu hz
        have hz2 : (if laA r (liK r k (r 16 i) cell n) t < 0 then laT r (liK r k (r 16 i) cell n) m (t + 1) else 48 * t + laA r (liK r k (r 16 i) cell n) t) = laT r (liK r k (r 16 i) cell n) 16 0 := hz
        apply L_X14_lie_72
        unfold B_X14_lie_72
        rw [if_neg (by omega), if_neg (by decide)]
        have cells : ∀ (c : Nat) (a : Int) (u : Mh), 0 ≤ a → a + c = r 0 12 * r 0 13 → sameQ r u → laA r (liK r k (r 16 i) cell n) t = fst1 (fun a => b01 (wtr r a && liK r k (r 16 i) cell n t a)) 1 c a → Lfp (F_X14_lie i cell k n wh K) (87, [-1, t, a], u) := by
          intro c
          induction c with
          | zero =>
            intro a u a0 ha hu hl
            apply L_X14_lie_87
            unfold B_X14_lie_87 wp_X14_cells
            dsimp only
            rw [hu 0 12 (by decide) (by decide), hu 0 13 (by decide) (by decide), w32_eq (by omega) (by omega), if_pos (by omega)]
            intro y ey
            rw [w32_eq (by omega) (by omega)] at ey
            subst ey
            have : laA r (liK r k (r 16 i) cell n) t = -1 := hl
            rw [if_pos (by omega)] at hz2
            exact ih (t + 1) u (by omega) (by omega) hu hz2
          | succ c ihc =>
            intro a u a0 ha hu hl
            have hl2 : laA r (liK r k (r 16 i) cell n) t = if b01 (wtr r a && liK r k (r 16 i) cell n t a) = 1 then a else fst1 (fun a => b01 (wtr r a && liK r k (r 16 i) cell n t a)) 1 c (a + 1) := hl
            apply L_X14_lie_87
            unfold B_X14_lie_87 wp_X14_cells
            dsimp only
            rw [hu 0 12 (by decide) (by decide), hu 0 13 (by decide) (by decide), w32_eq (x := r 0 12 * r 0 13) (by omega) (by omega), if_neg (by omega), if_neg (by decide), hu.row (o := 5) (by decide) (by decide)]
            refine ⟨⟨a0, by omega⟩, ?_⟩
            by_cases land : r 5 a = 2
            · rw [if_neg (fun z => z land)]
              have wf : wtr r a = false := by unfold wtr; simp [land]
              rw [wf, Bool.false_and, if_neg (by decide)] at hl2
              intro y ey
              rw [w32_eq (by omega) (by omega)] at ey
              subst ey
              exact ihc (a + 1) u (by omega) (by omega) hu hl2
            · rw [if_pos land]
              have wt : wtr r a = true := by unfold wtr; simp [land]
              intro u1 e1 u2 e2 u3 e3
              have q3 : sameQ r u3 := fun o j x y => by rw [e3, up_ne _ (by omega), e2, up_ne _ (by omega), e1, up_ne _ (by omega), hu o j x y]
              have f79 : u3 0 79 = k := by rw [e3, up_slot (by decide), e2, up_slot (by decide), e1, up_self]
              have f80 : u3 0 80 = a := by rw [e3, up_slot (by decide), e2, up_self]
              have f81 : u3 0 81 = t := by rw [e3, up_self]
              have sk := skR_lie h q3 f79 f80 f81 ⟨k0, k1, ⟨a0, by omega, land⟩, t0, by omega⟩
              have e16 : u3 16 = r 16 := q3.row (by decide) (by decide)
              have w3 : watR u3 (u3 16 i) := by rw [e16]; exact (q3.ref.wr hd.2.2.2.2.1).mpr hw
              refine sp_comesTo sk (sameR.refl u3) i0 (by rw [q3 0 16 (by decide) (by decide)]; exact i1) (by rw [q3 0 16 (by decide) (by decide)]; exact s3) w3 (by omega) (by omega) ?_ n0
              intro u4 hu4
              have q4 : sameQ r u4 := q3.trans hu4.q
              have ep : pthZ u3 (Fl r k a t) (u3 16 i) = pthZ r (Fl r k a t) (r 16 i) := by funext m; unfold pthZ; rw [e16, pth_sameQ q3]
              rw [ep]
              have dl : liK r k (r 16 i) cell n t a = decide (fst1 (pthZ r (Fl r k a t) (r 16 i)) cell (n + 1).toNat 0 < 0) := rfl
              by_cases y : 0 ≤ fst1 (pthZ r (Fl r k a t) (r 16 i)) cell (n + 1).toNat 0
              · rw [if_pos y]
                rw [decide_eq_false (by omega)] at dl
                rw [dl, Bool.and_false, if_neg (by decide)] at hl2
                intro z ez
                rw [w32_eq (by omega) (by omega)] at ez
                subst ez
                exact ihc (a + 1) u4 (by omega) (by omega) q4 hl2
              · rw [if_neg y]
                rw [decide_eq_true (by omega)] at dl
                rw [dl, wt, if_pos (by decide)] at hl2
                intro x ex z ez
                rw [w32_eq (x := 48 * t) (by omega) (by omega), w32_eq (by omega) (by omega)] at ex
                rw [w32_eq (by omega) (by omega)] at ez
                subst ez
                rw [hl2, if_neg (by omega), ← ex] at hz2
                -- both loops end
                apply L_X14_lie_87
                unfold B_X14_lie_87 wp_X14_cells
                dsimp only
                have l72 : ∀ y : Int, y = w32 (t + 1) → Lfp (F_X14_lie i cell k n wh K) (72, [x, y], u4) := by
                  intro y ey
                  rw [w32_eq (by omega) (by omega)] at ey
                  subst ey
                  apply L_X14_lie_72
                  unfold B_X14_lie_72
                  by_cases z : 16 ≤ t + 1
                  · rw [if_pos z]
                    intro s es
                    exact fin x u4 q4 hz2 (fun _ => by omega) s es
                  · rw [if_neg z, if_pos (by omega)]
                    intro s es
                    exact fin x u4 q4 hz2 (fun _ => by omega) s es
                rw [q4 0 12 (by decide) (by decide), q4 0 13 (by decide) (by decide), w32_eq (x := r 0 12 * r 0 13) (by omega) (by omega)]
                by_cases z : r 0 12 * r 0 13 ≤ a + 1
                · rw [if_pos z]; exact l72
                · rw [if_neg z, if_pos (by omega)]; exact l72
        exact cells (r 0 12 * r 0 13).toNat 0 u (by omega) (by omega) hu rfl
    exact steps 16 0 u0 (by omega) (by omega) hu0.q rfl
  · rw [if_neg re]
    have := hk u0 hu0.q (by rw [hu0 0 79 (by decide) (by decide)]; exact e79)
    rw [if_pos (by omega)] at this
    exact this
