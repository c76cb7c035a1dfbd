/-! ===== one step of the walk ===== -/
section BF2
variable {w hh : Int} {gr : Int → Int} {loss thick a : Int} {q : Mh}
theorem Pd_next {i v k u : Int} (v0 : 1 ≤ v) (v1 : v < 5) (i0 : 0 ≤ i) : Pd i (v + 1) k u ↔ (Pd i v k u ∨ (k = i ∧ u = v)) := by
  unfold Pd
  omega
theorem Pd_le {i v k u : Int} (h : Pd i v k u) : 1 ≤ u ∧ u < 5 ∧ 0 ≤ k ∧ k ≤ i := by
  unfold Pd at h
  omega
theorem BI.keep {lev : Int → Nat} {i v e : Int} {g : Mh} (h : BI w hh gr loss thick a q lev i v e g) (v0 : 1 ≤ v) (v1 : v < 5) (hi : i < e)
    (hin : nx w hh gr (g 119 i) v < 0 ∨ ∃ k, 0 ≤ k ∧ k < e ∧ g 119 k = nx w hh gr (g 119 i) v)
    (hle : ∀ k, 0 ≤ k → k < e → nx w hh gr (g 119 i) v = g 119 k → lev i + 1 = lev k → g 118 (48 * a + g 119 k) ≤ (DD w hh gr loss thick a (lev i) (g 119 i)).2 + loss + (if gr (g 119 k) = 1 then thick else 0)) :
    BI w hh gr loss thick a q lev i (v + 1) e g := by
  obtain ⟨hf, hr, ha, hq, hd, hso, hl1, hm, hn, wa, hW⟩ := h
  refine ⟨hf, hr, ha, hq, hd, hso, hl1, ?_, hn, wa, ?_⟩
  · intro b hb
    rw [hm b hb]
    constructor
    · rintro (z | ⟨k, u, z1, z2, z3⟩)
      · exact Or.inl z
      · exact Or.inr ⟨k, u, (Pd_next v0 v1 hr.1).mpr (Or.inl z1), z2, z3⟩
    · rintro (z | ⟨k, u, z1, z2, z3⟩)
      · exact Or.inl z
      · rcases (Pd_next v0 v1 hr.1).mp z1 with y | ⟨y1, y2⟩
        · exact Or.inr ⟨k, u, y, z2, z3⟩
        · rw [y1, y2] at z3
          rcases hin with x | ⟨l, l0, l1, l2⟩
          · exact absurd hb.1 (by omega)
          · exact (hm b hb).mp ⟨l, l0, l1, by rw [l2, z3]⟩
  · intro k k0 k1
    obtain ⟨⟨l, u, x1, x2, x3⟩, y⟩ := hW k k0 k1
    refine ⟨⟨l, u, (Pd_next v0 v1 hr.1).mpr (Or.inl x1), x2, x3⟩, ?_⟩
    intro l u z1 z2 z3 z4
    rcases (Pd_next v0 v1 hr.1).mp z1 with y1 | ⟨y1, y2⟩
    · exact y l u y1 z2 z3 z4
    · rw [y1] at z3 z4 ⊢
      rw [y2] at z3
      exact hle k (by omega) k1 z3 z4
theorem BI.better {lev : Int → Nat} {i v e : Int} {g g' : Mh} {k0 : Int} (h : BI w hh gr loss thick a q lev i v e g) (v0 : 1 ≤ v) (v1 : v < 5) (hi : i < e) (kk0 : 0 ≤ k0) (kk1 : k0 < e)
    (ek : nx w hh gr (g 119 i) v = g 119 k0) (el : lev i + 1 = lev k0) (b1 : g 119 k0 < 48)
    (hle : (DD w hh gr loss thick a (lev i) (g 119 i)).2 + loss + (if gr (g 119 k0) = 1 then thick else 0) < g 118 (48 * a + g 119 k0))
    (hg : g' 118 (48 * a + g 119 k0) = (DD w hh gr loss thick a (lev i) (g 119 i)).2 + loss + (if gr (g 119 k0) = 1 then thick else 0))
    (hgo : ∀ o j, ¬ (o = 118 ∧ j = 48 * a + g 119 k0) → g' o j = g o j) :
    BI w hh gr loss thick a q lev i (v + 1) e g' := by
  obtain ⟨hf, hr, ha, hq, hd, hso, hl1, hm, hn, wa, hW⟩ := h
  have e9 : g' 119 = g 119 := by funext j; exact hgo 119 j (by omega)
  have e7 : g' 117 = g 117 := by funext j; exact hgo 117 j (by omega)
  have hw0 := (hq k0 kk0 kk1).1
  have kne : k0 ≠ 0 := fun z => by rw [z, ha.2] at el; omega
  refine ⟨?_, hr, by rw [e9]; exact ha, by rw [e9, e7]; exact hq, by rw [e9]; exact hd, hso, hl1, ?_, ?_, ?_, ?_⟩
  · intro o j h1 h2
    rw [hgo o j (fun z => h2 ⟨Or.inr z.1, by omega, by omega⟩)]
    exact hf o j h1 h2
  · intro b hb
    rw [e9, hm b hb]
    constructor
    · rintro (z | ⟨k, u, z1, z2, z3⟩)
      · exact Or.inl z
      · exact Or.inr ⟨k, u, (Pd_next v0 v1 hr.1).mpr (Or.inl z1), z2, z3⟩
    · rintro (z | ⟨k, u, z1, z2, z3⟩)
      · exact Or.inl z
      · rcases (Pd_next v0 v1 hr.1).mp z1 with y | ⟨y1, y2⟩
        · exact Or.inr ⟨k, u, y, z2, z3⟩
        · rw [y1, y2] at z3
          exact (hm b hb).mp ⟨k0, kk0, kk1, by rw [← ek, z3]⟩
  · intro b b0 b1 hb
    rw [e9] at hb
    rw [e7, hgo 118 (48 * a + b) (fun z => hb ⟨k0, kk0, kk1, by omega⟩)]
    exact hn b b0 b1 hb
  · rw [hgo 118 (48 * a + a) (fun z => kne (hd k0 0 kk0 kk1 (by omega) (by omega) (by rw [ha.1]; omega)))]
    exact wa
  · intro k k2 k3
    rw [e9]
    by_cases z : k = k0
    · rw [z, hg]
      refine ⟨⟨i, v, (Pd_next v0 v1 hr.1).mpr (Or.inr ⟨rfl, rfl⟩), hi, ek, el, rfl⟩, ?_⟩
      intro l u z1 z2 z3 z4
      rcases (Pd_next v0 v1 hr.1).mp z1 with y1 | ⟨y1, y2⟩
      · have := (hW k0 (by omega) kk1).2 l u y1 z2 z3 z4
        omega
      · rw [y1]
        exact Int.le_refl _
    · have hne : g 119 k ≠ g 119 k0 := fun x => z (hd k k0 (by omega) k3 kk0 kk1 x)
      rw [hgo 118 (48 * a + g 119 k) (fun x => hne (by omega))]
      obtain ⟨⟨l, u, x1, x2, x3⟩, y⟩ := hW k k2 k3
      refine ⟨⟨l, u, (Pd_next v0 v1 hr.1).mpr (Or.inl x1), x2, x3⟩, ?_⟩
      intro l u z1 z2 z3 z4
      rcases (Pd_next v0 v1 hr.1).mp z1 with y1 | ⟨y1, y2⟩
      · exact y l u y1 z2 z3 z4
      · rw [y1, y2, ek] at z3
        exact absurd z3.symm hne
theorem BI.fresh (hs : szs w hh) (l0 : 0 ≤ loss) (t0 : 0 ≤ thick) {lev : Int → Nat} {i v e : Int} {g g' : Mh} (h : BI w hh gr loss thick a q lev i v e g) (v0 : 1 ≤ v) (v1 : v < 5) (hi : i < e)
    (hb0 : 0 ≤ nx w hh gr (g 119 i) v) (hnot : ¬ ∃ k, 0 ≤ k ∧ k < e ∧ g 119 k = nx w hh gr (g 119 i) v)
    (h7 : g' 117 (48 * a + nx w hh gr (g 119 i) v) = lev i + 1)
    (h8 : g' 118 (48 * a + nx w hh gr (g 119 i) v) = (DD w hh gr loss thick a (lev i) (g 119 i)).2 + loss + (if gr (nx w hh gr (g 119 i) v) = 1 then thick else 0))
    (h9 : g' 119 e = nx w hh gr (g 119 i) v)
    (hgo : ∀ o j, ¬ ((o = 117 ∨ o = 118) ∧ j = 48 * a + nx w hh gr (g 119 i) v) → ¬ (o = 119 ∧ j = e) → g' o j = g o j) :
    e < 48 ∧ BI w hh gr loss thick a q (fun k => if k = e then lev i + 1 else lev k) i (v + 1) (e + 1) g' := by
  have near := h.near hs l0 t0 hi
  obtain ⟨hf, hr, ha, hq, hd, hso, hl1, hm, hn, wa, hW⟩ := h
  have hwc := hq i hr.1 hi
  have hwb : wat w hh gr (nx w hh gr (g 119 i) v) := by
    rcases nx_r (g := gr) (c := g 119 i) (way := v) hs with z | z
    · omega
    · exact z
  have sy := nx_sym hs hwc.1.1 hwc.1.2.1 hwc.1.2.2 v0 v1 hb0
  generalize eb : nx w hh gr (g 119 i) v = b at *
  have hlb : Lv w hh gr loss thick a (lev i + 1) b := by
    have : (lev i : Int) ≤ 48 := by omega
    rw [Lv_succ l0 t0 (by omega)]
    refine ⟨hwb.1, hwb.2.1, hwb.2.2, ?_, opp v, opp_r.1, opp_r.2, ?_, ?_⟩
    · by_cases z : (DD w hh gr loss thick a (lev i) b).1 = 999
      · exact z
      · obtain ⟨m, m0, m1⟩ := DD_lv (lev i) b (by omega) z
        exact absurd (near m m0 b hwb m1) hnot
    · rw [sy]; exact hwc.1.1
    · rw [sy]; exact hwc.2.1
  have hmul := szs_mul hs
  have old : ∀ k, 0 ≤ k → k < e → g' 119 k = g 119 k := fun k k0 k1 => hgo 119 k (by omega) (by omega)
  have old7 : ∀ k, 0 ≤ k → k < e → g' 117 (48 * a + g 119 k) = g 117 (48 * a + g 119 k) := fun k k0 k1 => hgo _ _ (fun z => hnot ⟨k, k0, k1, by omega⟩) (by omega)
  have old8 : ∀ k, 0 ≤ k → k < e → g' 118 (48 * a + g 119 k) = g 118 (48 * a + g 119 k) := fun k k0 k1 => hgo _ _ (fun z => hnot ⟨k, k0, k1, by omega⟩) (by omega)
  have e48 : e < 48 := by
    have hfew := few (f := g' 119) 48 (e.toNat + 1) (fun k k0 k1 => by
      by_cases z : k = e
      · rw [z, h9]; omega
      · rw [old k k0 (by omega)]
        have := (hq k k0 (by omega)).1
        omega) (fun k l k0 k1 l0 l1 x => by
      by_cases z1 : k = e
      · by_cases z2 : l = e
        · omega
        · rw [z1, h9, old l l0 (by omega)] at x
          exact absurd ⟨l, l0, by omega, x.symm⟩ hnot
      · by_cases z2 : l = e
        · rw [z2, h9, old k k0 (by omega)] at x
          exact absurd ⟨k, k0, by omega, x⟩ hnot
        · rw [old k k0 (by omega), old l l0 (by omega)] at x
          exact hd k l k0 (by omega) l0 (by omega) x)
    omega
  refine ⟨e48, ?_, ⟨hr.1, by omega, by omega, by omega⟩, ?_, ?_, ?_, ?_, ?_, ?_, ?_, ?_, ?_⟩
  · intro o j h1 h2
    rw [hgo o j (fun z => h2 ⟨z.1, by omega, by omega⟩) (fun z => h1 z.1)]
    exact hf o j h1 h2
  · dsimp only
    rw [old 0 (by omega) (by omega), if_neg (by omega)]
    exact ha
  · intro k k0 k1
    dsimp only
    by_cases z : k = e
    · rw [z, h9, if_pos rfl]
      refine ⟨hwb, hlb, ?_, ?_⟩
      · rw [h7]; omega
      · have := hwc.2.2.2; omega
    · rw [if_neg z, old k k0 (by omega), old7 k k0 (by omega)]
      exact hq k k0 (by omega)
  · intro k l k0 k1 l0 l1 x
    by_cases z1 : k = e
    · by_cases z2 : l = e
      · omega
      · rw [z1, h9, old l l0 (by omega)] at x
        exact absurd ⟨l, l0, by omega, x.symm⟩ hnot
    · by_cases z2 : l = e
      · rw [z2, h9, old k k0 (by omega)] at x
        exact absurd ⟨k, k0, by omega, x⟩ hnot
      · rw [old k k0 (by omega), old l l0 (by omega)] at x
        exact hd k l k0 (by omega) l0 (by omega) x
  · intro k l k0 k1 l1
    dsimp only
    by_cases z2 : l = e
    · rw [if_pos z2]
      by_cases z1 : k = e
      · rw [if_pos z1]; omega
      · rw [if_neg z1]
        exact hl1 k k0 (by omega) hi
    · rw [if_neg z2, if_neg (by omega)]
      exact hso k l k0 k1 (by omega)
  · intro l l0 l1 _
    dsimp only
    rw [if_neg (show ¬ i = e by omega)]
    by_cases z : l = e
    · rw [if_pos z]; omega
    · rw [if_neg z]
      exact hl1 l l0 (by omega) hi
  · intro c hc
    constructor
    · rintro ⟨k, k0, k1, ek⟩
      by_cases z : k = e
      · rw [z, h9] at ek
        exact Or.inr ⟨i, v, (Pd_next v0 v1 hr.1).mpr (Or.inr ⟨rfl, rfl⟩), by omega, by rw [old i hr.1 hi, eb, ek]⟩
      · rw [old k k0 (by omega)] at ek
        rcases (hm c hc).mp ⟨k, k0, by omega, ek⟩ with y | ⟨l, u, y1, y2, y3⟩
        · exact Or.inl y
        · exact Or.inr ⟨l, u, (Pd_next v0 v1 hr.1).mpr (Or.inl y1), by omega, by rw [old l (Pd_le y1).2.2.1 y2]; exact y3⟩
    · rintro (y | ⟨l, u, y1, y2, y3⟩)
      · exact ⟨0, by omega, by omega, by rw [old 0 (by omega) (by omega), ha.1, y]⟩
      · rcases (Pd_next v0 v1 hr.1).mp y1 with z | ⟨z1, z2⟩
        · have zl := Pd_le z
          rw [old l zl.2.2.1 (by omega)] at y3
          obtain ⟨k, k0, k1, ek⟩ := (hm c hc).mpr (Or.inr ⟨l, u, z, by omega, y3⟩)
          exact ⟨k, k0, by omega, by rw [old k k0 k1]; exact ek⟩
        · rw [z1, z2, old i hr.1 hi, eb] at y3
          exact ⟨e, by omega, by omega, by rw [h9]; exact y3⟩
  · intro c c0 c1 hc
    have hcb : c ≠ b := fun z => hc ⟨e, by omega, by omega, by rw [h9, z]⟩
    rw [hgo 117 _ (by omega) (by omega), hgo 118 _ (by omega) (by omega)]
    exact hn c c0 c1 (fun ⟨k, k0, k1, ek⟩ => hc ⟨k, k0, by omega, by rw [old k k0 k1]; exact ek⟩)
  · have := old8 0 (by omega) (by omega)
    rw [ha.1] at this
    rw [this]
    exact wa
  · intro k k2 k3
    dsimp only
    by_cases z : k = e
    · rw [z, h9, h8, if_pos rfl]
      refine ⟨⟨i, v, (Pd_next v0 v1 hr.1).mpr (Or.inr ⟨rfl, rfl⟩), by omega, ?_, ?_, ?_⟩, ?_⟩
      · rw [old i hr.1 hi]; exact eb
      · rw [if_neg (show ¬ i = e by omega)]
      · rw [if_neg (show ¬ i = e by omega), old i hr.1 hi]
      · intro l u z1 z2 z3 z4
        rcases (Pd_next v0 v1 hr.1).mp z1 with y1 | ⟨y1, y2⟩
        · have zl := Pd_le y1
          rw [old l zl.2.2.1 (by omega)] at z3
          exact absurd ((hm b hwb).mpr (Or.inr ⟨l, u, y1, by omega, z3⟩)) hnot
        · rw [y1, if_neg (show ¬ i = e by omega), old i hr.1 hi]
          exact Int.le_refl _
    · rw [if_neg z, old k (by omega) (by omega), old8 k (by omega) (by omega)]
      obtain ⟨⟨l, u, x1, x2, x3, x4, x5⟩, y⟩ := hW k k2 (by omega)
      have xl := Pd_le x1
      refine ⟨⟨l, u, (Pd_next v0 v1 hr.1).mpr (Or.inl x1), by omega, ?_, ?_, ?_⟩, ?_⟩
      · rw [old l xl.2.2.1 x2]; exact x3
      · rw [if_neg (show ¬ l = e by omega)]; exact x4
      · rw [if_neg (show ¬ l = e by omega), old l xl.2.2.1 x2]; exact x5
      intro l u z1 z2 z3 z4
      rcases (Pd_next v0 v1 hr.1).mp z1 with y1 | ⟨y1, y2⟩
      · have zl := Pd_le y1
        rw [old l zl.2.2.1 (by omega)] at z3 ⊢
        rw [if_neg (show ¬ l = e by omega)] at z4 ⊢
        exact y l u y1 (by omega) z3 z4
      · rw [y1, y2, old i hr.1 hi, eb] at z3
        exact absurd ⟨k, by omega, by omega, z3.symm⟩ hnot
theorem BI.turn {lev : Int → Nat} {i e : Int} {g : Mh} (h : BI w hh gr loss thick a q lev i 5 e g) (hi : i < e) : BI w hh gr loss thick a q lev (i + 1) 1 e g := by
  have hP : ∀ k u, Pd (i + 1) 1 k u ↔ Pd i 5 k u := by intro k u; unfold Pd; omega
  obtain ⟨hf, hr, ha, hq, hd, hso, hl1, hm, hn, wa, hW⟩ := h
  refine ⟨hf, by omega, ha, hq, hd, hso, ?_, ?_, hn, wa, ?_⟩
  · intro l l0 l1 _
    have h1 := hl1 l l0 l1 hi
    have h2 := hso i (i + 1) hr.1 (by omega) (by omega)
    omega
  · intro b hb
    rw [hm b hb]
    constructor
    · rintro (z | ⟨k, u, z1, z2⟩)
      · exact Or.inl z
      · exact Or.inr ⟨k, u, (hP k u).mpr z1, z2⟩
    · rintro (z | ⟨k, u, z1, z2⟩)
      · exact Or.inl z
      · exact Or.inr ⟨k, u, (hP k u).mp z1, z2⟩
  · intro k k0 k1
    obtain ⟨⟨l, u, x1, x2⟩, y⟩ := hW k k0 k1
    exact ⟨⟨l, u, (hP l u).mpr x1, x2⟩, fun l u z1 => y l u ((hP l u).mp z1)⟩
/-- at the end of the queue each cell that is come to is in it, with its weakness -/
theorem BI.done (hs : szs w hh) (l0 : 0 ≤ loss) (t0 : 0 ≤ thick) {lev : Int → Nat} {v e : Int} {g : Mh} (h : BI w hh gr loss thick a q lev e v e g) (v1 : v = 1) {b : Int} (b0 : 0 ≤ b) (b1 : b < w * hh) (b2 : ¬ gr b = 2) :
    g 117 (48 * a + b) = (if (DD w hh gr loss thick a 47 b).1 = 999 then -2 else (DD w hh gr loss thick a 47 b).1) ∧ g 118 (48 * a + b) = (if (DD w hh gr loss thick a 47 b).1 = 999 then -2 else (DD w hh gr loss thick a 47 b).2) := by
  obtain ⟨hf, hr, ha, hq, hd, hso, hl1, hm, hn, wa, hW⟩ := h
  have hmul := szs_mul hs
  have all : ∀ (n : Nat), n < 900 → ∀ b, wat w hh gr b → Lv w hh gr loss thick a n b → ∃ k, 0 ≤ k ∧ k < e ∧ g 119 k = b := by
    intro n
    induction n with
    | zero =>
      intro _ b _ hb
      rw [Lv_zero] at hb
      exact ⟨0, by omega, by omega, by rw [ha.1]; exact hb⟩
    | succ n ih =>
      intro hn b hw hb
      obtain ⟨b0, b1, b2, _, u, u0, u1, u2, u3⟩ := (Lv_succ l0 t0 (by omega)).mp hb
      have hc : wat w hh gr (nx w hh gr b u) := by
        rcases nx_r (g := gr) (c := b) (way := u) hs with z | z
        · omega
        · exact z
      obtain ⟨k, k0, k1, ek⟩ := ih (by omega) _ hc u3
      refine (hm b hw).mpr (Or.inr ⟨k, opp u, ⟨opp_r.1, opp_r.2, k0, Or.inl k1⟩, k1, ?_⟩)
      rw [ek]
      exact nx_sym hs b0 b1 b2 u0 u1 u2
  have wk : ∀ i, 0 ≤ i → i < e → g 118 (48 * a + g 119 i) = (DD w hh gr loss thick a (lev i) (g 119 i)).2 := by
    intro i i0 hi
    by_cases z : i = 0
    · rw [z, ha.1, wa, ha.2, DD_zero, if_pos rfl]
    · obtain ⟨⟨l, u, hp, hl, en, el, ew⟩, hmin⟩ := hW i (by omega) hi
      have li := (hq i i0 hi).2.2.2
      have hLi := (hq i i0 hi).2.1
      have hwi := (hq i i0 hi).1
      have hql := hq l hp.2.2.1 hl
      rw [← el] at hLi
      obtain ⟨⟨x, x0, x1, x2, x3, x4⟩, y⟩ := Lv_weak l0 t0 (by omega) hLi
      rw [← el, ew]
      refine Int.le_antisymm ?_ ?_
      · rw [x4]
        have hc : wat w hh gr (nx w hh gr (g 119 i) x) := by
          rcases nx_r (g := gr) (c := g 119 i) (way := x) hs with z | z
          · omega
          · exact z
        obtain ⟨k, k0, k1, ek⟩ := all (lev l) (by omega) _ hc x3
        have elk : lev k = lev l := Lv.uniq (by rw [← ek] at x3; exact (hq k k0 k1).2.1) (by rw [ek]; exact x3)
        have m := hmin k (opp x) ⟨opp_r.1, opp_r.2, k0, Or.inl k1⟩ k1 (by rw [ek]; exact nx_sym hs hwi.1 hwi.2.1 hwi.2.2 x0 x1 x2) (by omega)
        rw [ew, elk, ek] at m
        exact m
      · have hb : 0 ≤ nx w hh gr (g 119 l) u := by rw [en]; exact hwi.1
        have s := nx_sym hs hql.1.1 hql.1.2.1 hql.1.2.2 hp.1 hp.2.1 hb
        rw [en] at s
        have := y (opp u) opp_r.1 opp_r.2 (by rw [s]; exact hql.1.1) (by rw [s]; exact hql.2.1)
        rw [s] at this
        exact this
  by_cases k : (DD w hh gr loss thick a 47 b).1 = 999
  · rw [if_pos k, if_pos k]
    refine hn b b0 b1 ?_
    rintro ⟨i, i0, i1, ei⟩
    obtain ⟨x1, x2, x3, x4⟩ := hq i i0 i1
    rw [ei] at x2
    have := x2.later (m := 47) (by omega)
    rw [this] at k
    unfold Lv at x2
    omega
  · rw [if_neg k, if_neg k]
    obtain ⟨m, m0, m1⟩ := DD_lv 47 b (by omega) k
    obtain ⟨i, i0, i1, ei⟩ := all m (by omega) b ⟨b0, b1, b2⟩ m1
    have hqi := hq i i0 i1
    have hwk := wk i i0 i1
    rw [ei] at hqi hwk
    have elk : lev i = m := Lv.uniq hqi.2.1 m1
    rw [m1.later m0, hqi.2.2.1, hwk, elk]
    refine ⟨?_, rfl⟩
    unfold Lv at m1
    omega
end BF2
