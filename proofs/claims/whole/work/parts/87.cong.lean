/-! ===== a group of the pond stays, whatever else changes ===== -/
def wImp (R R' : Mh) : Prop := ∀ c, watR R c → watR R' c
theorem RShr.cg {Q R Q' R' : Mh} (h : RShr Q R) (hp : Q' 53 0 = Q 53 0) (h1 : ∀ o, Q 53 0 + 1 ≤ o → o ≤ Q 53 0 + 2 → Q' o = Q o) (h2 : R' 0 18 = R 0 18) (h3 : R' 8 = R 8) (h4 : R' 6 = R 6) (h5 : R' 0 77 = R 0 77) (h6 : R' 32 = R 32) (hw : wImp R R' ∨ R 0 18 = 0) : RShr Q' R' := by
  unfold RShr at h ⊢
  rw [hp, h2, h3, h4, h5, h6]
  exact ⟨h.1.same (h1 _ (by omega) (by omega)) (h1 _ (by omega) (by omega)) h3, h.2.1, fun j a b => hw.elim (fun w => w _ (h.2.2.1 j a b)) (fun z => by omega), h.2.2.2⟩
theorem RKnd.cg {Q R Q' R' : Mh} (h : RKnd Q R) (hp : Q' 53 0 = Q 53 0) (h1 : ∀ o, Q 53 0 + 12 ≤ o → o ≤ Q 53 0 + 24 → Q' o = Q o) (h2 : R' 0 14 = R 0 14) (h3 : R' 9 = R 9) (h4 : R' 10 = R 10) (h5 : R' 11 = R 11) (h6 : R' 12 = R 12) : RKnd Q' R' := by
  unfold RKnd kndR at h ⊢
  rw [hp, h2, h4, h5, h6]
  refine ⟨h.1.same (h1 _ (by omega) (by omega)) (h1 _ (by omega) (by omega)) h3, h.2.1, h.2.2.1.same (h1 _ (by omega) (by omega)) (h1 _ (by omega) (by omega)) h5, ?_⟩
  intro k k0 k1
  obtain ⟨a, b, c, d⟩ := h.2.2.2 k k0 k1
  have := h.2.1
  exact ⟨a, b, c, d.same (h1 _ (by omega) (by omega)) (h1 _ (by omega) (by omega)) h6⟩
theorem RCrk.cg {Q R Q' R' : Mh} (h : RCrk Q R) (hp : Q' 53 0 = Q 53 0) (h1 : ∀ o, Q 53 0 + 25 ≤ o → o ≤ Q 53 0 + 28 → Q' o = Q o) (h2 : R' 0 15 = R 0 15) (h3 : R' 13 = R 13) (h4 : R' 14 = R 14) (hw : wImp R R' ∨ R 0 15 = 0) : RCrk Q' R' := by
  unfold RCrk at h ⊢
  rw [hp, h2, h4]
  exact ⟨h.1.same (h1 _ (by omega) (by omega)) (h1 _ (by omega) (by omega)) h3, h.2.1, h.2.2.1.same (h1 _ (by omega) (by omega)) (h1 _ (by omega) (by omega)) h4, fun k a b => hw.elim (fun w => w _ (h.2.2.2 k a b)) (fun z => by omega)⟩
theorem RSkt.cg {Q R Q' R' : Mh} (h : RSkt Q R) (hp : Q' 53 0 = Q 53 0) (h1 : ∀ o, Q 53 0 + 29 ≤ o → o ≤ Q 53 0 + 32 → Q' o = Q o) (h2 : R' 0 16 = R 0 16) (h3 : R' 15 = R 15) (h4 : R' 16 = R 16) (hw : wImp R R' ∨ R 0 16 = 0) : RSkt Q' R' := by
  unfold RSkt at h ⊢
  rw [hp, h2, h4]
  exact ⟨h.1.same (h1 _ (by omega) (by omega)) (h1 _ (by omega) (by omega)) h3, h.2.1, h.2.2.1.same (h1 _ (by omega) (by omega)) (h1 _ (by omega) (by omega)) h4, fun k a b => hw.elim (fun w => w _ (h.2.2.2 k a b)) (fun z => by omega)⟩
theorem RMay.cg {Q R Q' R' : Mh} (h : RMay Q R) (hp : Q' 53 0 = Q 53 0) (h1 : ∀ o, Q 53 0 + 4 ≤ o → o ≤ Q 53 0 + 11 → Q' o = Q o) (h2 : R' 0 19 = R 0 19) (h3 : R' 20 = R 20) (h4 : R' 21 = R 21) (h5 : R' 22 = R 22) (hw : wImp R R' ∨ R 0 19 = 0) : RMay Q' R' := by
  unfold RMay at h ⊢
  rw [hp, h2, h4, h5]
  refine ⟨h.1.same (h1 _ (by omega) (by omega)) (h1 _ (by omega) (by omega)) h3, h.2.1, ?_⟩
  intro k k0 k1
  obtain ⟨a, b, c⟩ := h.2.2 k k0 k1
  have := h.2.1
  exact ⟨a.same (h1 _ (by omega) (by omega)) (h1 _ (by omega) (by omega)) h5, b, fun j x y => hw.elim (fun w => w _ (c j x y)) (fun z => by omega)⟩
theorem RLaw.cg {Q R Q' R' : Mh} (h : RLaw Q R) (hp : Q' 53 0 = Q 53 0) (h1 : ∀ o, Q 53 0 + 37 ≤ o → o ≤ Q 53 0 + 39 → Q' o = Q o) (h2 : R' 0 20 = R 0 20) (h3 : R' 0 24 = R 0 24) (h4 : R' 23 = R 23) (h5 : R' 24 = R 24) (h6 : R' 25 = R 25) : RLaw Q' R' := by
  unfold RLaw knotOK at h ⊢
  rw [hp, h1 (Q 53 0 + 37) (by omega) (by omega), h1 (Q 53 0 + 38) (by omega) (by omega), h1 (Q 53 0 + 39) (by omega) (by omega), h2, h3, h4, h5, h6]
  exact h
theorem RGr.cn {Q R Q' R' : Mh} (h : RGr Q R) (hp : Q' 53 0 = Q 53 0) (h1 : Q' 53 1 = Q 53 1) (h2 : Q' (Q 53 0) 2 = Q (Q 53 0) 2) (h3 : R' 5 = R 5) (h4 : R' 0 12 = R 0 12) (h5 : R' 0 13 = R 0 13) : RGr Q' R' := by
  unfold RGr cg at h ⊢
  rw [hp, h1, h2, h3, h4, h5]
  exact h
theorem RDrp.cg {Q R Q' R' : Mh} (h : RDrp Q R) (h1 : ∀ o, 98 ≤ o → o ≤ 101 → Q' o = Q o) (h2 : R' 0 76 = R 0 76) (h3 : R' 17 = R 17) (h4 : R' 18 = R 18) (h5 : R' 19 = R 19) (h6 : R 0 14 ≤ R' 0 14) (hw : wImp R R' ∨ R 0 76 = 0) : RDrp Q' R' := by
  unfold RDrp at h ⊢
  rw [h1 98 (by decide) (by decide), h1 99 (by decide) (by decide), h1 100 (by decide) (by decide), h1 101 (by decide) (by decide), h2, h3, h4, h5]
  refine ⟨h.1, h.2.1, h.2.2.1, ?_⟩
  intro d d0 d1
  obtain ⟨a, b, c, e⟩ := h.2.2.2 d d0 d1
  refine ⟨a, b, c, ?_⟩
  unfold okD at e ⊢
  exact ⟨e.1, by omega, hw.elim (fun w => w _ e.2.2.1) (fun z => by omega), e.2.2.2⟩
theorem free.cg {R R' : Mh} (h2 : R' 0 15 = R 0 15) (h3 : R' 14 = R 14) (h4 : R' 0 16 = R 0 16) (h5 : R' 16 = R 16) (h6 : R' 0 76 = R 0 76) (h7 : R' 18 = R 18) (h8 : R' 0 19 = R 0 19) (h9 : R' 21 = R 21) (h10 : R' 22 = R 22) (c : Int) : free R' c ↔ free R c := by
  unfold free
  rw [h2, h3, h4, h5, h6, h7, h8, h9, h10]
theorem PEmp.cg {Q R Q' R' : Mh} (h : PEmp Q R) (hp : Q' 53 0 = Q 53 0) (h1 : Q' 53 1 = Q 53 1) (h2 : Q' (Q 53 0) 2 = Q (Q 53 0) 2) (h3 : ∀ j, 15 ≤ j → j ≤ 19 → R' 0 j = R 0 j) (h4 : R' 0 76 = R 0 76) : PEmp Q' R' := by
  unfold PEmp at h ⊢
  rw [hp, h1, h2, h3 18 (by decide) (by decide), h3 15 (by decide) (by decide), h3 16 (by decide) (by decide), h3 19 (by decide) (by decide), h4]
  exact h
/-- sizes and weakness change: nothing else -/
theorem PP.dim {Q R Q' R' : Mh} (h : PP Q R) (hd : RDim Q' R') (hp : Q' 53 0 = Q 53 0) (h53 : Q' 53 1 = Q 53 1) (h2 : Q' (Q 53 0) 2 = Q (Q 53 0) 2) (h1 : ∀ o, (Q 53 0 + 1 ≤ o ∧ o ≤ Q 53 0 + 39) ∨ (98 ≤ o ∧ o ≤ 101) → Q' o = Q o) (hr : ∀ o, ¬ o = 0 → R' o = R o) (h0 : ∀ j, ¬ (j = 12 ∨ j = 13) → ¬ (21 ≤ j ∧ j ≤ 23) → R' 0 j = R 0 j) (hw : wImp R R' ∨ PEmp Q R) (hg : RGr Q' R') : PP Q' R' := by
  obtain ⟨⟨_, a1, a2, a3, a4, a5, a6⟩, b, c, d, e, f, g, i, j⟩ := h
  have r := fun j x => h0 j x
  refine ⟨⟨hd, ?_, ?_, ?_, ?_, ?_, ?_⟩, hg, ?_, ?_, ?_, ?_, ?_, ?_, ?_⟩
  · exact a1.cg hp (fun o x y => h1 o (by omega)) (h0 18 (by omega) (by omega)) (hr 8 (by decide)) (hr 6 (by decide)) (h0 77 (by omega) (by omega)) (hr 32 (by decide)) (hw.imp id (fun z => z.1))
  · exact a2.cg hp (fun o x y => h1 o (by omega)) (h0 14 (by omega) (by omega)) (hr 9 (by decide)) (hr 10 (by decide)) (hr 11 (by decide)) (hr 12 (by decide))
  · exact a3.cg hp (fun o x y => h1 o (by omega)) (h0 15 (by omega) (by omega)) (hr 13 (by decide)) (hr 14 (by decide)) (hw.imp id (fun z => z.2.1))
  · exact a4.cg hp (fun o x y => h1 o (by omega)) (h0 16 (by omega) (by omega)) (hr 15 (by decide)) (hr 16 (by decide)) (hw.imp id (fun z => z.2.2.1))
  · exact a5.cg hp (fun o x y => h1 o (by omega)) (h0 19 (by omega) (by omega)) (hr 20 (by decide)) (hr 21 (by decide)) (hr 22 (by decide)) (hw.imp id (fun z => z.2.2.2.1))
  · exact a6.cg hp (fun o x y => h1 o (by omega)) (h0 20 (by omega) (by omega)) (h0 24 (by omega) (by omega)) (hr 23 (by decide)) (hr 24 (by decide)) (hr 25 (by decide))
  · exact c.cg (fun o x y => h1 o (by omega)) (h0 76 (by omega) (by omega)) (hr 17 (by decide)) (hr 18 (by decide)) (hr 19 (by decide)) (by rw [h0 14 (by omega) (by omega)]; omega) (hw.imp id (fun z => z.2.2.2.2.1))
  · rw [h0 76 (by omega) (by omega)]; exact d
  · rw [hp, h2, h0 34 (by omega) (by omega)]; exact e
  · rw [h53, h0 35 (by omega) (by omega)]; exact f
  · intro c c0 c1
    rw [hr 7 (by decide), free.cg (h0 15 (by omega) (by omega)) (hr 14 (by decide)) (h0 16 (by omega) (by omega)) (hr 16 (by decide)) (h0 76 (by omega) (by omega)) (hr 18 (by decide)) (h0 19 (by omega) (by omega)) (hr 21 (by decide)) (hr 22 (by decide)) c]
    exact g c c0 c1
  · rw [hp, h0 14 (by omega) (by omega)]
    intro k k0 k1
    have := a2.1.2.1
    rw [h1 _ (by omega)]
    exact i k k0 k1
  · rw [hp, h0 19 (by omega) (by omega)]
    intro k k0 k1
    have := a5.1.2.1
    rw [h1 _ (by omega)]
    exact j k k0 k1
