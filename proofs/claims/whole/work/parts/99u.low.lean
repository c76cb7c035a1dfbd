/-! ===== the kept halves alone ===== -/
def lowEq (R R' : Mh) : Prop := (∀ j, 12 ≤ j → j ≤ 24 → ¬ j = 17 → R' 0 j = R 0 j) ∧ R' 0 77 = R 0 77 ∧ R' 0 76 = R 0 76 ∧ (∀ o j, 5 ≤ o → o ≤ 25 → ¬ o = 7 → 0 ≤ j → j < off o → R' o j = R o j) ∧ ∀ j, 0 ≤ j → j < 3 → R' 32 j = R 32 j
theorem lowEq.at {R R' : Mh} (h : lowEq R R') {o j : Int} {u : Int} (a : 5 ≤ o) (b : o ≤ 25) (c : ¬ o = 7) (d : 0 ≤ j) (e : j < u) (f : off o = u) : R' o j = R o j := h.2.2.2.1 o j a b c d (by rw [f]; exact e)
theorem RRow.low {Q R Q' R' : Mh} {row cnt arr base : Int} (h : RRow Q R row cnt arr base) (h1 : Q' row = Q row) (h2 : Q' (row + 1) = Q (row + 1)) (h3 : ∀ j, 0 ≤ j → j < cnt → R' arr (base + j) = R arr (base + j)) : RRow Q' R' row cnt arr base := by
  unfold RRow at h ⊢
  rw [h1, h2]
  exact ⟨h.1, h.2.1, fun j a b => by rw [h3 j a b]; exact h.2.2 j a b⟩
theorem lowEq.pr {R R' : Mh} (h : lowEq R R') (hp : prm R) : prm R' := by
  unfold prm at hp ⊢
  rw [h.1 12 (by decide) (by decide) (by decide), h.1 13 (by decide) (by decide) (by decide), h.1 21 (by decide) (by decide) (by decide), h.1 22 (by decide) (by decide) (by decide)]
  exact hp
theorem lowEq.wr {R R' : Mh} (h : lowEq R R') (hp : prm R) {c : Int} (hw : watR R c) : watR R' c := by
  have hm := szs_mul hp.1
  unfold watR wat at hw ⊢
  rw [h.1 12 (by decide) (by decide) (by decide), h.1 13 (by decide) (by decide) (by decide), h.at (u := 48) (by decide) (by decide) (by decide) hw.1 (by omega) rfl]
  exact hw
theorem RDim.low {Q R Q' R' : Mh} (h : RDim Q R) (hq : pondEq Q Q') (h2 : Q' 0 2 = Q 0 2) (hr : lowEq R R') : RDim Q' R' := by
  have hp := hr.pr h.2.2.2.2.1
  unfold RDim at h ⊢
  rw [hq.1, h2, hq.2 (Q 53 0) (by omega) (by omega), hr.1 12 (by decide) (by decide) (by decide), hr.1 13 (by decide) (by decide) (by decide), hr.1 21 (by decide) (by decide) (by decide), hr.1 22 (by decide) (by decide) (by decide), hr.1 23 (by decide) (by decide) (by decide)]
  exact ⟨h.1, h.2.1, h.2.2.1, h.2.2.2.1, hp, h.2.2.2.2.2⟩
theorem RShr.low {Q R Q' R' : Mh} (h : RShr Q R) (hp : prm R) (hq : pondEq Q Q') (hr : lowEq R R') : RShr Q' R' := by
  unfold RShr at h ⊢
  rw [hq.1, hr.1 18 (by decide) (by decide) (by decide), hr.2.1]
  obtain ⟨a, b, c, d, e, f⟩ := h
  have e8 : ∀ j, 0 ≤ j → j < 3 → R' 8 j = R 8 j := fun j x y => hr.at (u := 3) (by decide) (by decide) (by decide) x y rfl
  refine ⟨a.low (hq.2 _ (by omega) (by omega)) (hq.2 _ (by omega) (by omega)) (fun j x y => e8 _ (by omega) (by omega)), b, fun j x y => ?_, fun x x0 x1 => ?_, e, fun j x y => ?_⟩
  · rw [e8 j x (by omega)]; exact hr.wr hp (c j x y)
  · rw [hr.at (u := 48) (by decide) (by decide) (by decide) x0 x1 rfl, d x x0 x1]
    exact ⟨fun z j y w => by rw [e8 j y (by omega)]; exact z j y w, fun z j y w => by rw [← e8 j y (by omega)]; exact z j y w⟩
  · rw [hr.2.2.2.2 j x y, e8 j x y]; exact f j x y
theorem RKnd.low {Q R Q' R' : Mh} (h : RKnd Q R) (hq : pondEq Q Q') (hr : lowEq R R') : RKnd Q' R' := by
  unfold RKnd at h ⊢
  rw [hq.1, hr.1 14 (by decide) (by decide) (by decide)]
  obtain ⟨a, b, c, d⟩ := h
  refine ⟨a.low (hq.2 _ (by omega) (by omega)) (hq.2 _ (by omega) (by omega)) (fun j x y => hr.at (u := 4) (by decide) (by decide) (by decide) (by omega) (by omega) rfl), b, c.low (hq.2 _ (by omega) (by omega)) (hq.2 _ (by omega) (by omega)) (fun j x y => hr.at (u := 4) (by decide) (by decide) (by decide) (by omega) (by omega) rfl), fun k k0 k1 => ?_⟩
  obtain ⟨x1, x2, x3, x4⟩ := d k k0 k1
  have e10 : R' 10 k = R 10 k := hr.at (u := 4) (by decide) (by decide) (by decide) k0 (by omega) rfl
  have e11 : R' 11 k = R 11 k := hr.at (u := 4) (by decide) (by decide) (by decide) k0 (by omega) rfl
  unfold kndR at x3 ⊢
  have e12 : ∀ j, 0 ≤ j → j < R 10 k → R' 12 (6 * k + j) = R 12 (6 * k + j) := fun j x y => hr.at (u := 24) (by decide) (by decide) (by decide) (by omega) (by omega) rfl
  rw [e10, e11]
  refine ⟨x1, x2, ⟨x3.1, x3.2.1, fun j x y => ?_⟩, x4.low (hq.2 _ (by omega) (by omega)) (hq.2 _ (by omega) (by omega)) e12⟩
  rw [e12 j x y]; exact x3.2.2 j x y
theorem RCrk.low {Q R Q' R' : Mh} (h : RCrk Q R) (hp : prm R) (hq : pondEq Q Q') (hr : lowEq R R') : RCrk Q' R' := by
  unfold RCrk at h ⊢
  rw [hq.1, hr.1 15 (by decide) (by decide) (by decide)]
  obtain ⟨a, b, c, d⟩ := h
  refine ⟨a.low (hq.2 _ (by omega) (by omega)) (hq.2 _ (by omega) (by omega)) (fun j x y => hr.at (u := 6) (by decide) (by decide) (by decide) (by omega) (by omega) rfl), b, c.low (hq.2 _ (by omega) (by omega)) (hq.2 _ (by omega) (by omega)) (fun j x y => hr.at (u := 6) (by decide) (by decide) (by decide) (by omega) (by omega) rfl), fun k x y => ?_⟩
  rw [hr.at (o := 14) (u := 6) (by decide) (by decide) (by decide) x (by omega) rfl]
  exact hr.wr hp (d k x y)
theorem RSkt.low {Q R Q' R' : Mh} (h : RSkt Q R) (hp : prm R) (hq : pondEq Q Q') (hr : lowEq R R') : RSkt Q' R' := by
  unfold RSkt at h ⊢
  rw [hq.1, hr.1 16 (by decide) (by decide) (by decide)]
  obtain ⟨a, b, c, d⟩ := h
  refine ⟨a.low (hq.2 _ (by omega) (by omega)) (hq.2 _ (by omega) (by omega)) (fun j x y => hr.at (u := 3) (by decide) (by decide) (by decide) (by omega) (by omega) rfl), b, c.low (hq.2 _ (by omega) (by omega)) (hq.2 _ (by omega) (by omega)) (fun j x y => hr.at (u := 3) (by decide) (by decide) (by decide) (by omega) (by omega) rfl), fun k x y => ?_⟩
  rw [hr.at (o := 16) (u := 3) (by decide) (by decide) (by decide) x (by omega) rfl]
  exact hr.wr hp (d k x y)
theorem RMay.low {Q R Q' R' : Mh} (h : RMay Q R) (hp : prm R) (hq : pondEq Q Q') (hr : lowEq R R') : RMay Q' R' := by
  unfold RMay at h ⊢
  rw [hq.1, hr.1 19 (by decide) (by decide) (by decide)]
  obtain ⟨a, b, d⟩ := h
  refine ⟨a.low (hq.2 _ (by omega) (by omega)) (hq.2 _ (by omega) (by omega)) (fun j x y => hr.at (u := 3) (by decide) (by decide) (by decide) (by omega) (by omega) rfl), b, fun k k0 k1 => ?_⟩
  obtain ⟨x1, x2, x3⟩ := d k k0 k1
  have e21 : R' 21 k = R 21 k := hr.at (u := 3) (by decide) (by decide) (by decide) k0 (by omega) rfl
  have e22 : ∀ j, 0 ≤ j → j < R 21 k → R' 22 (3 * k + j) = R 22 (3 * k + j) := fun j x y => hr.at (u := 9) (by decide) (by decide) (by decide) (by omega) (by omega) rfl
  rw [e21]
  exact ⟨x1.low (hq.2 _ (by omega) (by omega)) (hq.2 _ (by omega) (by omega)) e22, x2, fun j x y => by rw [e22 j x y]; exact hr.wr hp (x3 j x y)⟩
theorem RLaw.low {Q R Q' R' : Mh} (h : RLaw Q R) (hq : pondEq Q Q') (hr : lowEq R R') : RLaw Q' R' := by
  unfold RLaw at h ⊢
  rw [hq.1, hq.2 (Q 53 0 + 37) (by omega) (by omega), hr.1 20 (by decide) (by decide) (by decide), hr.1 24 (by decide) (by decide) (by decide)]
  obtain ⟨a, b, c, d, sk, e, f, g⟩ := h
  refine ⟨a, b, c, d, sk, e, fun i hi => ?_, g⟩
  have fi := f i hi
  unfold knotOK at fi ⊢
  rw [hq.1, hq.2 (Q 53 0 + 38) (by omega) (by omega), hq.2 (Q 53 0 + 39) (by omega) (by omega), hr.at (o := 23) (u := 64) (by decide) (by decide) (by decide) (show (0 : Int) ≤ i by omega) (by omega) rfl, hr.at (o := 24) (u := 64) (by decide) (by decide) (by decide) (show (0 : Int) ≤ i by omega) (by omega) rfl, hr.at (o := 25) (u := 64) (by decide) (by decide) (by decide) (show (0 : Int) ≤ i by omega) (by omega) rfl]
  exact fi
theorem RPond.low {Q R Q' R' : Mh} (h : RPond Q R) (hq : pondEq Q Q') (h2 : Q' 0 2 = Q 0 2) (hr : lowEq R R') : RPond Q' R' :=
  have hp := h.1.2.2.2.2.1
  ⟨h.1.low hq h2 hr, h.2.1.low hp hq hr, h.2.2.1.low hq hr, h.2.2.2.1.low hp hq hr, h.2.2.2.2.1.low hp hq hr, h.2.2.2.2.2.1.low hp hq hr, h.2.2.2.2.2.2.low hq hr⟩
theorem RGr.low {Q R Q' R' : Mh} (h : RGr Q R) (hq : pondEq Q Q') (h1 : Q' 53 1 = Q 53 1) (hr : lowEq R R') : RGr Q' R' := by
  unfold RGr at h ⊢
  rw [cg_congr hq.1 h1 (hq.2 _ (by omega) (by omega)), hq.1, h1, hq.2 (Q 53 0) (by omega) (by omega), hr.1 12 (by decide) (by decide) (by decide), hr.1 13 (by decide) (by decide) (by decide)]
  exact ⟨fun c c0 c1 => by rw [hr.at (u := 48) (by decide) (by decide) (by decide) c0 c1 rfl]; exact h.1 c c0 c1, h.2⟩
theorem okD.low {R R' : Mh} {k c t : Int} (h : okD R k c t) (hp : prm R) (hr : lowEq R R') : okD R' k c t := by
  unfold okD at h ⊢
  rw [hr.1 14 (by decide) (by decide) (by decide)]
  exact ⟨h.1, h.2.1, hr.wr hp h.2.2.1, h.2.2.2⟩
theorem RDrp.low {Q R Q' R' : Mh} (h : RDrp Q R) (hp : prm R) (h98 : Q' 98 3 = Q 98 3) (hq : ∀ o d, 99 ≤ o → o ≤ 101 → 0 ≤ d → d < R 0 76 → Q' o d = Q o d) (hr : lowEq R R') : RDrp Q' R' := by
  unfold RDrp at h ⊢
  rw [h98, hr.2.2.1]
  obtain ⟨a, b, c, e⟩ := h
  refine ⟨a, b, c, fun d d0 d1 => ?_⟩
  rw [hq 99 d (by decide) (by decide) d0 d1, hq 100 d (by decide) (by decide) d0 d1, hq 101 d (by decide) (by decide) d0 d1, hr.at (o := 17) (u := 16) (by decide) (by decide) (by decide) d0 (by omega) rfl, hr.at (o := 18) (u := 16) (by decide) (by decide) (by decide) d0 (by omega) rfl, hr.at (o := 19) (u := 16) (by decide) (by decide) (by decide) d0 (by omega) rfl]
  obtain ⟨x1, x2, x3, x4⟩ := e d d0 d1
  exact ⟨x1, x2, x3, x4.low hp hr⟩
/-- the ways, where the kept halves stand -/
theorem wayR.low {Q R Q' R' : Mh} (h : wayR R) (hd : RDim Q R) (hg : RGr Q R) (hd' : RDim Q' R') (hg' : RGr Q' R') (hf : FC Q' = FC Q) (h30 : R' 30 = R 30) (h31 : R' 31 = R 31) : wayR R' := by
  have e : FA R' = FA R := by rw [← FC_FA hd hg, ← FC_FA hd' hg', hf]
  unfold wayR at h ⊢
  rw [e, h30, h31]
  exact h
