/-! ===== one cell of land or of reeds more; what land may not take ===== -/
theorem bit_set48 {x c y : Int} (c0 : 0 ≤ c) (c1 : c < 48) (y0 : 0 ≤ y) (y1 : y < 64) : bit (j_lor x (j_lshl 1 c)) y = true ↔ bit x y = true ∨ y = c := by
  rw [bit_set c0 (by omega) y0 y1]
  cases bit x y
  · rw [Bool.false_or, decide_eq_true_eq]
    exact ⟨Or.inr, fun z => z.elim (fun w => by cases w) id⟩
  · rw [Bool.true_or]
    exact ⟨fun _ => Or.inl rfl, fun _ => rfl⟩
theorem RGr.zero {Q R : Mh} (h : RGr Q R) {c : Int} (c0 : 0 ≤ c) (c1 : c < 48) : R 5 c = 0 ↔ bit (Q (Q 53 0) 2) c = false ∧ bit (Q 53 1) c = false := by
  rw [h.1 c c0 c1]
  unfold cg
  by_cases a : bit (Q (Q 53 0) 2) c = true
  · rw [if_pos a, a]
    exact ⟨fun z => absurd z (by decide), fun z => by cases z.1⟩
  · rw [if_neg a]
    by_cases b : bit (Q 53 1) c = true
    · rw [if_pos b, b]
      exact ⟨fun z => absurd z (by decide), fun z => by cases z.2⟩
    · rw [if_neg b]
      exact ⟨fun _ => ⟨Bool.eq_false_iff.mpr a, Bool.eq_false_iff.mpr b⟩, fun _ => rfl⟩
theorem RGr.two {Q R : Mh} (h : RGr Q R) {c : Int} (c0 : 0 ≤ c) (c1 : c < 48) : R 5 c = 2 ↔ bit (Q (Q 53 0) 2) c = true := by
  rw [h.1 c c0 c1]
  unfold cg
  by_cases a : bit (Q (Q 53 0) 2) c = true
  · rw [if_pos a]; exact ⟨fun _ => a, fun _ => rfl⟩
  · rw [if_neg a]
    refine ⟨fun z => ?_, fun z => absurd z a⟩
    split at z <;> omega
theorem PP.reed {Q R Q' R' : Mh} {c : Int} (h : PP Q R) (c0 : 0 ≤ c) (c1 : c < R 0 12 * R 0 13) (c2 : c < 48) (h5 : R 5 c = 0) (h35 : R 0 35 < 20) (qo : ∀ o, ¬ o = Q 53 0 → ¬ o = 53 → Q' o = Q o) (qP : ∀ j, ¬ j = 3 → Q' (Q 53 0) j = Q (Q 53 0) j) (q0 : Q' 53 0 = Q 53 0) (q1 : Q' 53 1 = j_lor (Q 53 1) (j_lshl 1 c)) (ro : ∀ o, ¬ o = 0 → ¬ o = 5 → R' o = R o) (rj : ∀ j, ¬ j = 35 → R' 0 j = R 0 j) (r35 : R' 0 35 = R 0 35 + 1) (r5 : ∀ j, R' 5 j = if j = c then 1 else R 5 j) : PP Q' R' := by
  have hp := h.1.1.1
  unfold isP at hp
  obtain ⟨P, eP⟩ : ∃ P, P = Q 53 0 := ⟨_, rfl⟩
  rw [← eP] at hp qo qP q0
  have hw : wImp R R' := by
    intro x hx
    unfold watR wat at hx ⊢
    rw [rj 12 (by decide), rj 13 (by decide), r5]
    refine ⟨hx.1, hx.2.1, ?_⟩
    by_cases z : x = c
    · rw [if_pos z]; decide
    · rw [if_neg z]; exact hx.2.2
  obtain ⟨⟨hd, a1, a2, a3, a4, a5, a6⟩, b, d, e, f, g, i, j, l⟩ := h
  have z0 := (b.zero c0 c2).mp h5
  rw [← eP] at f j l z0
  have pe : Q' 53 0 = Q 53 0 := by rw [q0, eP]
  refine ⟨⟨?_, ?_, ?_, ?_, ?_, ?_, ?_⟩, ?_, ?_, ?_, ?_, ?_, ?_, ?_, ?_⟩
  · unfold RDim prm at hd ⊢
    rw [q0, qP 0 (by decide), qP 1 (by decide), qP 17 (by decide), qP 18 (by decide), qP 19 (by decide), qo 0 (by omega) (by omega), rj 12 (by decide), rj 13 (by decide), rj 21 (by decide), rj 22 (by decide), rj 23 (by decide), eP]
    exact hd
  · exact a1.cg pe (fun o x y => qo o (by omega) (by omega)) (rj 18 (by decide)) (ro 8 (by decide) (by decide)) (ro 6 (by decide) (by decide)) (rj 77 (by decide)) (ro 32 (by decide) (by decide)) (Or.inl hw)
  · exact a2.cg pe (fun o x y => qo o (by omega) (by omega)) (rj 14 (by decide)) (ro 9 (by decide) (by decide)) (ro 10 (by decide) (by decide)) (ro 11 (by decide) (by decide)) (ro 12 (by decide) (by decide))
  · exact a3.cg pe (fun o x y => qo o (by omega) (by omega)) (rj 15 (by decide)) (ro 13 (by decide) (by decide)) (ro 14 (by decide) (by decide)) (Or.inl hw)
  · exact a4.cg pe (fun o x y => qo o (by omega) (by omega)) (rj 16 (by decide)) (ro 15 (by decide) (by decide)) (ro 16 (by decide) (by decide)) (Or.inl hw)
  · exact a5.cg pe (fun o x y => qo o (by omega) (by omega)) (rj 19 (by decide)) (ro 20 (by decide) (by decide)) (ro 21 (by decide) (by decide)) (ro 22 (by decide) (by decide)) (Or.inl hw)
  · exact a6.cg pe (fun o x y => qo o (by omega) (by omega)) (rj 20 (by decide)) (rj 24 (by decide)) (ro 23 (by decide) (by decide)) (ro 24 (by decide) (by decide)) (ro 25 (by decide) (by decide))
  · obtain ⟨b1, b2, b3⟩ := b
    rw [← eP] at b2 b3
    unfold RGr
    rw [q0, qP 2 (by decide), q1, rj 12 (by decide), rj 13 (by decide)]
    refine ⟨?_, b2, ?_⟩
    · intro x x0 x1
      have bx := b1 x x0 x1
      unfold cg at bx ⊢
      rw [q0, qP 2 (by decide), q1, r5]
      rw [← eP] at bx
      by_cases z : x = c
      · rw [if_pos z, z, if_neg (by rw [z0.1]; decide), if_pos ((bit_set48 c0 c2 c0 (by omega)).mpr (Or.inr rfl))]
      · rw [if_neg z, bx]
        by_cases w : bit (Q P 2) x = true
        · rw [if_pos w, if_pos w]
        · rw [if_neg w, if_neg w]
          by_cases v : bit (Q 53 1) x = true
          · rw [if_pos v, if_pos ((bit_set48 c0 c2 x0 (by omega)).mpr (Or.inl v))]
          · rw [if_neg v, if_neg (fun u => ((bit_set48 c0 c2 x0 (by omega)).mp u).elim v z)]
    · intro x x0 x1 hx
      rcases (bit_set48 c0 c2 x0 x1).mp hx with w | w
      · exact b3 x x0 x1 w
      · rw [w]; exact ⟨c1, z0.1⟩
  · exact d.cg (fun o x y => qo o (by omega) (by omega)) (rj 76 (by decide)) (ro 17 (by decide) (by decide)) (ro 18 (by decide) (by decide)) (ro 19 (by decide) (by decide)) (by rw [rj 14 (by decide)]; omega) (Or.inl hw)
  · rw [rj 76 (by decide)]; exact e
  · rw [q0, qP 2 (by decide), rj 34 (by decide)]; exact f
  · rw [r35, q1, pop_set c0 (by omega) z0.2 48 0 (by decide) (by decide) c0 (by omega), ← g.1]
    exact ⟨rfl, by omega⟩
  · intro x x0 x1
    rw [ro 7 (by decide) (by decide), free.cg (rj 15 (by decide)) (ro 14 (by decide) (by decide)) (rj 16 (by decide)) (ro 16 (by decide) (by decide)) (rj 76 (by decide)) (ro 18 (by decide) (by decide)) (rj 19 (by decide)) (ro 21 (by decide) (by decide)) (ro 22 (by decide) (by decide)) x]
    exact i x x0 x1
  · rw [q0, rj 14 (by decide)]
    intro u t0 t1
    have := a2.1.2.1
    rw [qo _ (by omega) (by omega)]
    exact j u t0 t1
  · rw [q0, rj 19 (by decide)]
    intro u t0 t1
    have := a5.1.2.1
    rw [qo _ (by omega) (by omega)]
    exact l u t0 t1
theorem PP.land {Q R Q' R' : Mh} {c : Int} (h : PP Q R) (c0 : 0 ≤ c) (c1 : c < R 0 12 * R 0 13) (c2 : c < 48) (h5 : R 5 c = 0) (h6 : R 6 c = 0) (h7 : R 7 c = 0) (h34 : R 0 34 < 20) (qo : ∀ o, ¬ o = Q 53 0 → Q' o = Q o) (qP : ∀ j, ¬ j = 2 → Q' (Q 53 0) j = Q (Q 53 0) j) (q2 : Q' (Q 53 0) 2 = j_lor (Q (Q 53 0) 2) (j_lshl 1 c)) (ro : ∀ o, ¬ o = 0 → ¬ o = 5 → R' o = R o) (rj : ∀ j, ¬ j = 34 → R' 0 j = R 0 j) (r34 : R' 0 34 = R 0 34 + 1) (r5 : ∀ j, R' 5 j = if j = c then 2 else R 5 j) : PP Q' R' := by
  have hp := h.1.1.1
  unfold isP at hp
  obtain ⟨P, eP⟩ : ∃ P, P = Q 53 0 := ⟨_, rfl⟩
  rw [← eP] at hp qo qP q2
  have hw : ∀ x, watR R x → ¬ x = c → watR R' x := by
    intro x hx z
    unfold watR wat at hx ⊢
    rw [rj 12 (by decide), rj 13 (by decide), r5, if_neg z]
    exact hx
  obtain ⟨⟨hd, a1, a2, a3, a4, a5, a6⟩, b, d, e, f, g, i, j, l⟩ := h
  have z0 := (b.zero c0 c2).mp h5
  have fr := (i c c0 c2).mp h7
  have sh := (a1.2.2.2.1 c c0 c2).mp h6
  rw [← eP] at f j l z0
  have p53 : Q' 53 = Q 53 := qo 53 (by omega)
  have q0 : Q' 53 0 = P := by rw [p53]; exact eP.symm
  refine ⟨⟨?_, ?_, ?_, ?_, ?_, ?_, ?_⟩, ?_, ?_, ?_, ?_, ?_, ?_, ?_, ?_⟩
  · unfold RDim prm at hd ⊢
    rw [q0, qP 0 (by decide), qP 1 (by decide), qP 17 (by decide), qP 18 (by decide), qP 19 (by decide), qo 0 (by omega), rj 12 (by decide), rj 13 (by decide), rj 21 (by decide), rj 22 (by decide), rj 23 (by decide), eP]
    exact hd
  · unfold RShr at a1 ⊢
    rw [← eP] at a1
    rw [q0, rj 18 (by decide), ro 8 (by decide) (by decide), ro 6 (by decide) (by decide), rj 77 (by decide), ro 32 (by decide) (by decide)]
    exact ⟨a1.1.same (qo _ (by omega)) (qo _ (by omega)) (ro 8 (by decide) (by decide)), a1.2.1, fun y y0 y1 => hw _ (a1.2.2.1 y y0 y1) (sh y y0 y1), a1.2.2.2⟩
  · exact a2.cg (by rw [p53]) (fun o x y => qo o (by omega)) (rj 14 (by decide)) (ro 9 (by decide) (by decide)) (ro 10 (by decide) (by decide)) (ro 11 (by decide) (by decide)) (ro 12 (by decide) (by decide))
  · unfold RCrk at a3 ⊢
    rw [← eP] at a3
    rw [q0, rj 15 (by decide), ro 14 (by decide) (by decide)]
    exact ⟨a3.1.same (qo _ (by omega)) (qo _ (by omega)) (ro 13 (by decide) (by decide)), a3.2.1, a3.2.2.1.same (qo _ (by omega)) (qo _ (by omega)) (ro 14 (by decide) (by decide)), fun y y0 y1 => hw _ (a3.2.2.2 y y0 y1) (fr.1 y y0 y1)⟩
  · unfold RSkt at a4 ⊢
    rw [← eP] at a4
    rw [q0, rj 16 (by decide), ro 16 (by decide) (by decide)]
    exact ⟨a4.1.same (qo _ (by omega)) (qo _ (by omega)) (ro 15 (by decide) (by decide)), a4.2.1, a4.2.2.1.same (qo _ (by omega)) (qo _ (by omega)) (ro 16 (by decide) (by decide)), fun y y0 y1 => hw _ (a4.2.2.2 y y0 y1) (fr.2.1 y y0 y1)⟩
  · unfold RMay at a5 ⊢
    rw [← eP] at a5
    rw [q0, rj 19 (by decide), ro 21 (by decide) (by decide), ro 22 (by decide) (by decide)]
    refine ⟨a5.1.same (qo _ (by omega)) (qo _ (by omega)) (ro 20 (by decide) (by decide)), a5.2.1, ?_⟩
    intro k k0 k1
    obtain ⟨x1, x2, x3⟩ := a5.2.2 k k0 k1
    exact ⟨x1.same (qo _ (by omega)) (qo _ (by omega)) (ro 22 (by decide) (by decide)), x2, fun y y0 y1 => hw _ (x3 y y0 y1) (fr.2.2.2 k k0 k1 y y0 y1)⟩
  · exact a6.cg (by rw [p53]) (fun o x y => qo o (by omega)) (rj 20 (by decide)) (rj 24 (by decide)) (ro 23 (by decide) (by decide)) (ro 24 (by decide) (by decide)) (ro 25 (by decide) (by decide))
  · obtain ⟨b1, b2, b3⟩ := b
    rw [← eP] at b2 b3
    unfold RGr
    rw [q0, q2, p53, rj 12 (by decide), rj 13 (by decide)]
    refine ⟨?_, ?_, ?_⟩
    · intro x x0 x1
      have bx := b1 x x0 x1
      unfold cg at bx ⊢
      rw [q0, q2, p53, r5]
      rw [← eP] at bx
      by_cases z : x = c
      · rw [if_pos z, z, if_pos ((bit_set48 c0 c2 c0 (by omega)).mpr (Or.inr rfl))]
      · rw [if_neg z, bx]
        by_cases w : bit (Q P 2) x = true
        · rw [if_pos w, if_pos ((bit_set48 c0 c2 x0 (by omega)).mpr (Or.inl w))]
        · rw [if_neg w, if_neg (fun u => ((bit_set48 c0 c2 x0 (by omega)).mp u).elim w z)]
    · intro x x0 x1 hx
      rcases (bit_set48 c0 c2 x0 x1).mp hx with w | w
      · exact b2 x x0 x1 w
      · rw [w]; exact c1
    · intro x x0 x1 hx
      obtain ⟨y1, y2⟩ := b3 x x0 x1 hx
      refine ⟨y1, ?_⟩
      cases hb : bit (j_lor (Q P 2) (j_lshl 1 c)) x
      · rfl
      · rcases (bit_set48 c0 c2 x0 x1).mp hb with w | w
        · rw [y2] at w; cases w
        · rw [w, z0.2] at hx; cases hx
  · unfold RDrp at d ⊢
    rw [qo 98 (by omega), qo 99 (by omega), qo 100 (by omega), qo 101 (by omega), rj 76 (by decide), ro 17 (by decide) (by decide), ro 18 (by decide) (by decide), ro 19 (by decide) (by decide)]
    refine ⟨d.1, d.2.1, d.2.2.1, ?_⟩
    intro k k0 k1
    obtain ⟨x1, x2, x3, x4⟩ := d.2.2.2 k k0 k1
    refine ⟨x1, x2, x3, ?_⟩
    unfold okD at x4 ⊢
    rw [rj 14 (by decide)]
    exact ⟨x4.1, x4.2.1, hw _ x4.2.2.1 (fr.2.2.1 k k0 k1), x4.2.2.2⟩
  · rw [rj 76 (by decide)]; exact e
  · rw [r34, q0, q2, pop_set c0 (by omega) z0.1 48 0 (by decide) (by decide) c0 (by omega), ← f.1]
    exact ⟨rfl, by omega⟩
  · rw [p53, rj 35 (by decide)]; exact g
  · intro x x0 x1
    rw [ro 7 (by decide) (by decide), free.cg (rj 15 (by decide)) (ro 14 (by decide) (by decide)) (rj 16 (by decide)) (ro 16 (by decide) (by decide)) (rj 76 (by decide)) (ro 18 (by decide) (by decide)) (rj 19 (by decide)) (ro 21 (by decide) (by decide)) (ro 22 (by decide) (by decide)) x]
    exact i x x0 x1
  · rw [q0, rj 14 (by decide)]
    intro u t0 t1
    have := a2.1.2.1
    rw [qo _ (by omega)]
    exact j u t0 t1
  · rw [q0, rj 19 (by decide)]
    intro u t0 t1
    have := a5.1.2.1
    rw [qo _ (by omega)]
    exact l u t0 t1
/-- the bits of a row of cells -/
theorem bit_rowB {Q : Mh} {r c : Int} (c0 : 0 ≤ c) (c1 : c < 48) (h0 : 0 ≤ Q r 1) (h : ∀ j, 0 ≤ j → j < Q r 1 → 0 ≤ Q (r + 1) j ∧ Q (r + 1) j < 64) : bit (rowB Q r) c = true ↔ ∃ j, 0 ≤ j ∧ j < Q r 1 ∧ Q (r + 1) j = c := by
  unfold rowB
  rw [bit_cbs c0 (by omega) (Q r 1).toNat 0 0 (fun j x y => h j x (by omega))]
  constructor
  · intro z
    rcases z with z | ⟨j, x, y, w⟩
    · rw [bit_zero] at z; cases z
    · exact ⟨j, x, by omega, w⟩
  · intro ⟨j, x, y, w⟩
    exact Or.inr ⟨j, x, by omega, w⟩
theorem watR_r {Q R : Mh} (h : PP Q R) {x : Int} (hx : watR R x) : 0 ≤ x ∧ x < 64 := by
  have := szs_mul h.1.1.2.2.2.2.1.1
  unfold watR wat at hx
  omega
/-- shores as bits -/
theorem PP.shoreB {Q R : Mh} (h : PP Q R) {c : Int} (c0 : 0 ≤ c) (c1 : c < 48) : bit (rowB Q (Q 53 0 + 1)) c = false ↔ R 6 c = 0 := by
  have a1 := h.1.2.1
  unfold RShr at a1
  obtain ⟨⟨x1, x2, x3⟩, x4, x5, x6, _⟩ := a1
  have e : ∀ j, 0 ≤ j → j < R 0 18 → Q (Q 53 0 + 1 + 1) j = R 8 j := fun j y z => by rw [x3 j y z, show (0 : Int) + j = j by omega]
  have := bit_rowB (Q := Q) (r := Q 53 0 + 1) c0 c1 (by omega) (fun j y z => by rw [e j y (by omega)]; exact watR_r h (x5 j y (by omega)))
  rw [x6 c c0 c1, ← Bool.not_eq_true, this]
  constructor
  · intro z j y w u
    exact z ⟨j, y, by omega, by rw [e j y w]; exact u⟩
  · intro z ⟨j, y, w, u⟩
    rw [e j y (by omega)] at u
    exact z j y (by omega) u
/-- what land may not take, as bits -/
theorem PP.used {Q R : Mh} (h : PP Q R) (e1 : Q (Q 53 0) 3 = Q 53 1) (e33 : Q (Q 53 0 + 33) = Q 98) (e35 : Q (Q 53 0 + 33 + 2) = Q 100) {c : Int} (c0 : 0 ≤ c) (c1 : c < 48) : bit (j_lor (Q (Q 53 0) 2) (usedB Q (Q 53 0))) c = false ↔ R 5 c = 0 ∧ R 6 c = 0 ∧ R 7 c = 0 := by
  have hs := h.shoreB c0 c1
  have hw := fun x (hx : watR R x) => watR_r h hx
  obtain ⟨⟨hd, a1, a2, a3, a4, a5, a6⟩, b, d, e, f, g, i, j, l⟩ := h
  obtain ⟨P, eP⟩ : ∃ P, P = Q 53 0 := ⟨_, rfl⟩
  rw [b.zero c0 c1, i c c0 c1]
  rw [← eP] at hs e1 e33 e35 l ⊢
  unfold usedB
  rw [bit_or, bit_or, bit_or, bit_or, bit_or, bit_or, bit_or, bit_or, e1]
  have hc : bit (rowB Q (P + 27)) c = true ↔ ∃ j, 0 ≤ j ∧ j < R 0 15 ∧ R 14 j = c := by
    unfold RCrk at a3
    rw [← eP] at a3
    obtain ⟨_, _, ⟨x1, x2, x3⟩, x4⟩ := a3
    have e : ∀ j, 0 ≤ j → j < R 0 15 → Q (P + 27 + 1) j = R 14 j := fun j y z => by rw [x3 j y z, show (0 : Int) + j = j by omega]
    rw [bit_rowB (Q := Q) (r := P + 27) c0 c1 (by omega) (fun j y z => by rw [e j y (by omega)]; exact hw _ (x4 j y (by omega))), x1]
    exact ⟨fun ⟨j, y, z, w⟩ => ⟨j, y, z, by rw [← e j y z]; exact w⟩, fun ⟨j, y, z, w⟩ => ⟨j, y, z, by rw [e j y z]; exact w⟩⟩
  have hk : bit (rowB Q (P + 31)) c = true ↔ ∃ j, 0 ≤ j ∧ j < R 0 16 ∧ R 16 j = c := by
    unfold RSkt at a4
    rw [← eP] at a4
    obtain ⟨_, _, ⟨x1, x2, x3⟩, x4⟩ := a4
    have e : ∀ j, 0 ≤ j → j < R 0 16 → Q (P + 31 + 1) j = R 16 j := fun j y z => by rw [x3 j y z, show (0 : Int) + j = j by omega]
    rw [bit_rowB (Q := Q) (r := P + 31) c0 c1 (by omega) (fun j y z => by rw [e j y (by omega)]; exact hw _ (x4 j y (by omega))), x1]
    exact ⟨fun ⟨j, y, z, w⟩ => ⟨j, y, z, by rw [← e j y z]; exact w⟩, fun ⟨j, y, z, w⟩ => ⟨j, y, z, by rw [e j y z]; exact w⟩⟩
  have hdr : bit (cbs (Q (P + 33 + 2)) (Q (P + 33) 3).toNat 0 0) c = true ↔ ∃ j, 0 ≤ j ∧ j < R 0 76 ∧ R 18 j = c := by
    unfold RDrp at d
    obtain ⟨x1, x2, x3, x4⟩ := d
    rw [e33, e35, x1, bit_cbs c0 (by omega) (R 0 76).toNat 0 0 (fun j x y => by rw [(x4 j x (by omega)).2.1]; exact hw _ (x4 j x (by omega)).2.2.2.2.2.1)]
    constructor
    · intro z
      rcases z with z | ⟨j, x, y, w⟩
      · rw [bit_zero] at z; cases z
      · exact ⟨j, x, by omega, by rw [← (x4 j x (by omega)).2.1]; exact w⟩
    · intro ⟨j, x, y, w⟩
      exact Or.inr ⟨j, x, by omega, by rw [(x4 j x (by omega)).2.1]; exact w⟩
  have hm : ∀ k, 0 ≤ k → k < 3 → (bit (rowB Q (P + 3 + 1 + 2 * k)) c = true ↔ k < R 0 19 ∧ ∃ j, 0 ≤ j ∧ j < R 21 k ∧ R 22 (3 * k + j) = c) := by
    intro k k0 k1
    by_cases z : k < R 0 19
    · unfold RMay at a5
      rw [← eP] at a5
      obtain ⟨⟨x1, x2, x3⟩, x4, x5⟩ := a5.2.2 k k0 z
      rw [show P + 4 + 2 * k = P + 3 + 1 + 2 * k by omega] at x1 x3
      rw [bit_rowB (Q := Q) (r := P + 3 + 1 + 2 * k) c0 c1 (by omega) (fun j y z => by rw [x3 j y (by omega)]; exact hw _ (x5 j y (by omega))), x1]
      exact ⟨fun ⟨j, y, z2, w⟩ => ⟨z, j, y, z2, by rw [← x3 j y z2]; exact w⟩, fun ⟨_, j, y, z2, w⟩ => ⟨j, y, z2, by rw [x3 j y z2]; exact w⟩⟩
    · have ll := l k (by omega) k1
      rw [show P + 4 + 2 * k = P + 3 + 1 + 2 * k by omega] at ll
      rw [bit_rowB (Q := Q) (r := P + 3 + 1 + 2 * k) c0 c1 (by omega) (fun j y z => by omega), ll]
      exact ⟨fun ⟨j, y, z2, w⟩ => absurd z2 (by omega), fun ⟨z2, _⟩ => absurd z2 z⟩
  have m0 := hm 0 (by decide) (by decide)
  have m1 := hm 1 (by decide) (by decide)
  have m2 := hm 2 (by decide) (by decide)
  have m3 : R 0 19 ≤ 3 := a5.2.1
  unfold free
  clear hm hw hd a1 a2 a3 a4 a5 a6 b d f g i j l
  constructor
  · intro z
    rw [Bool.or_eq_false_iff, Bool.or_eq_false_iff, Bool.or_eq_false_iff, Bool.or_eq_false_iff, Bool.or_eq_false_iff, Bool.or_eq_false_iff, Bool.or_eq_false_iff, Bool.or_eq_false_iff] at z
    obtain ⟨z1, ⟨⟨⟨⟨⟨⟨z2, z3⟩, z4⟩, z5⟩, z6⟩, z7⟩, z8⟩, z9⟩ := z
    refine ⟨⟨z1, z2⟩, hs.mp z3, fun j y w u => ?_, fun j y w u => ?_, fun j y w u => ?_, fun k k0 k1 j y w u => ?_⟩
    · rw [hc.mpr ⟨j, y, w, u⟩] at z4; cases z4
    · rw [hk.mpr ⟨j, y, w, u⟩] at z5; cases z5
    · rw [hdr.mpr ⟨j, y, w, u⟩] at z6; cases z6
    · have kk : k = 0 ∨ k = 1 ∨ k = 2 := by omega
      rcases kk with rfl | rfl | rfl
      · rw [m0.mpr ⟨k1, j, y, w, u⟩] at z7; cases z7
      · rw [m1.mpr ⟨k1, j, y, w, u⟩] at z8; cases z8
      · rw [m2.mpr ⟨k1, j, y, w, u⟩] at z9; cases z9
  · intro ⟨⟨z1, z2⟩, z3, y1, y2, y3, y4⟩
    rw [Bool.or_eq_false_iff, Bool.or_eq_false_iff, Bool.or_eq_false_iff, Bool.or_eq_false_iff, Bool.or_eq_false_iff, Bool.or_eq_false_iff, Bool.or_eq_false_iff, Bool.or_eq_false_iff]
    refine ⟨z1, ⟨⟨⟨⟨⟨⟨z2, hs.mpr z3⟩, ?_⟩, ?_⟩, ?_⟩, ?_⟩, ?_⟩, ?_⟩
    · rw [← Bool.not_eq_true, hc]; exact fun ⟨j, y, w, u⟩ => y1 j y w u
    · rw [← Bool.not_eq_true, hk]; exact fun ⟨j, y, w, u⟩ => y2 j y w u
    · rw [← Bool.not_eq_true, hdr]; exact fun ⟨j, y, w, u⟩ => y3 j y w u
    · rw [← Bool.not_eq_true, m0]; exact fun ⟨k1, j, y, w, u⟩ => y4 0 (by decide) k1 j y w u
    · rw [← Bool.not_eq_true, m1]; exact fun ⟨k1, j, y, w, u⟩ => y4 1 (by decide) k1 j y w u
    · rw [← Bool.not_eq_true, m2]; exact fun ⟨k1, j, y, w, u⟩ => y4 2 (by decide) k1 j y w u
theorem pop_nn (x : Int) : ∀ (n : Nat) (i : Int), 0 ≤ pop x n i := by
  intro n
  induction n with
  | zero => intro i; exact Int.le_refl _
  | succ n ih =>
    intro i
    show 0 ≤ (if bit x i = true then 1 else 0) + pop x n (i + 1)
    have := ih (i + 1)
    split <;> omega
