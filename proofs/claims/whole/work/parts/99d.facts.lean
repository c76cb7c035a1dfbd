/-! ===== views by facts ===== -/
theorem up_get {h : Mh} {o k v j : Int} : up h o k v o j = if j = k then v else h o j := by
  by_cases z : j = k
  · rw [if_pos z, z, up_self]
  · rw [if_neg z, up_slot z]
theorem qv_keep {q g : Mh} {P o : Int} (hp : isP P) (e : q 46 1 = P) (e' : g 46 1 = P) (h1 : P ≤ o → o ≤ P + 39 → g o = q o) (h2 : 98 ≤ o → o ≤ 101 → g (P + 33 + (o - 98)) = q (P + 33 + (o - 98))) (h3 : o = 53 → g P 3 = q P 3) : qv g o = qv q o := by
  unfold isP at hp
  funext j
  unfold qv
  rw [e, e']
  by_cases a : o = 53
  · rw [if_pos a, if_pos a, h3 a]
  rw [if_neg a, if_neg a]
  by_cases b : o = 0
  · rw [if_pos b, if_pos b]
  rw [if_neg b, if_neg b]
  by_cases c : P ≤ o ∧ o ≤ P + 39
  · rw [if_pos c, if_pos c, h1 c.1 c.2]
  rw [if_neg c, if_neg c]
  by_cases d : 98 ≤ o ∧ o ≤ 101
  · rw [if_pos d, if_pos d, h2 d.1 d.2]
  · rw [if_neg d, if_neg d]
theorem qv_98 {g : Mh} {P o : Int} (hp : isP P) (e : g 46 1 = P) (a : 98 ≤ o) (b : o ≤ 101) : qv g o = g (P + 33 + (o - 98)) := by
  unfold isP at hp
  funext j
  unfold qv
  rw [e, if_neg (by omega), if_neg (by omega), if_neg (by omega), if_pos ⟨a, b⟩]
theorem qv_1 {g : Mh} {P : Int} (e : g 46 1 = P) : qv g 53 1 = g P 3 := by
  unfold qv
  rw [e, if_pos rfl, if_neg (by decide)]
theorem rv_keep {r s : Mh} {o : Int} (h0 : ¬ o = 0) (h1 : 5 ≤ o → o ≤ 25 → s o = r o) (h2 : o = 32 → s 8 = r 8) : rv s o = rv r o := by
  funext j
  unfold rv
  rw [if_neg h0, if_neg h0]
  by_cases c : 5 ≤ o ∧ o ≤ 25
  · rw [if_pos c, if_pos c, h1 c.1 c.2]
  · rw [if_neg c, if_neg c]
    by_cases d : o = 32
    · rw [if_pos d, if_pos d, h2 d]
    · rw [if_neg d, if_neg d]
theorem rv_keep0 {r s : Mh} {t j : Int} (h3 : s 3 = r 3) (h0 : ∀ k, 25 ≤ k → k ≤ 38 → ¬ k = 36 → ¬ k = 37 → ¬ k = t → s 0 k = r 0 k) (t1 : 12 ≤ j → j ≤ 20 → ¬ j + 13 = t) (t2 : j = 76 → ¬ t = 30) (t3 : j = 77 → ¬ t = 31) (t4 : j = 24 → ¬ t = 38) (t5 : j = 34 ∨ j = 35 → ¬ j = t) : rv s 0 j = rv r 0 j := by
  unfold rv
  rw [if_pos rfl, if_pos rfl, h3]
  by_cases a1 : j = 21
  · rw [if_pos a1, if_pos a1]
  rw [if_neg a1, if_neg a1]
  by_cases a2 : j = 22
  · rw [if_pos a2, if_pos a2]
  rw [if_neg a2, if_neg a2]
  by_cases a3 : j = 23
  · rw [if_pos a3, if_pos a3]
  rw [if_neg a3, if_neg a3]
  by_cases a4 : j = 24
  · rw [if_pos a4, if_pos a4, h0 38 (by decide) (by decide) (by decide) (by decide) (fun z => t4 a4 z.symm)]
  rw [if_neg a4, if_neg a4]
  by_cases a5 : j = 76
  · rw [if_pos a5, if_pos a5, h0 30 (by decide) (by decide) (by decide) (by decide) (fun z => t2 a5 z.symm)]
  rw [if_neg a5, if_neg a5]
  by_cases a6 : j = 77
  · rw [if_pos a6, if_pos a6, h0 31 (by decide) (by decide) (by decide) (by decide) (fun z => t3 a6 z.symm)]
  rw [if_neg a6, if_neg a6]
  by_cases c : 12 ≤ j ∧ j ≤ 20
  · rw [if_pos c, if_pos c, h0 (j + 13) (by omega) (by omega) (by omega) (by omega) (t1 c.1 c.2)]
  · rw [if_neg c, if_neg c]
    by_cases d : j = 34 ∨ j = 35
    · rw [if_pos d, if_pos d, h0 j (by omega) (by omega) (by omega) (by omega) (t5 d)]
    · rw [if_neg d, if_neg d]
/-- a line that tells of cells is done -/
theorem PR.next {B : Int → Int} {n : Int} {m a a' : Nat} {q0 r0 q r q' r' : Mh} (h : PR B n m a q0 r0 q r) (hT : PTok B n m a' q' r') (k1 : ∀ j, 1 ≤ j → j ≤ 8 → q' 46 j = q 46 j) (k9 : q' 46 9 = 1) (rj : ∀ j, j = 4 ∨ j = 5 ∨ j = 36 ∨ j = 38 ∨ j = 68 → r' 0 j = r 0 j) (r4 : r' 4 = r 4) (r37 : r' 0 37 = 1) (pp : PP (qv q') (rv r')) (fc : fxC q0 q') (fr : fxR r0 r') : PR B n m a' q0 r0 q' r' := by
  obtain ⟨_, hF, _, _, _, _⟩ := h
  refine ⟨hT, ?_, pp, fun y => by rw [r37] at y; exact absurd y (by decide), fc, fr⟩
  obtain ⟨b1, b2, b3, b4, b5, b6, b7, b8, b9, b10, b11⟩ := hF
  unfold PFlag
  rw [k9, k1 1 (by decide) (by decide), k1 2 (by decide) (by decide), k1 3 (by decide) (by decide), k1 5 (by decide) (by decide), k1 6 (by decide) (by decide), k1 7 (by decide) (by decide), k1 8 (by decide) (by decide), rj 4 (by decide), rj 5 (by decide), rj 36 (by decide), rj 38 (by decide), rj 68 (by decide), r4, r37]
  exact ⟨b1, b2, b3, b4, b5, b6, b7, b8, b9, rfl, b11⟩
/-- the class's land against the reference's ground -/
theorem PR.land {B : Int → Int} {n : Int} {m a : Nat} {q0 r0 q r : Mh} (h : PR B n m a q0 r0 q r) : ∀ c, 0 ≤ c → c < 48 → (bit (q (q0 46 1) 2) c = true ↔ r 5 (48 + c) = 2) := by
  have hp0 := h.p0
  obtain ⟨hT, hF, hPP, hE, hc, hr⟩ := h
  have hP : q 46 1 = q0 46 1 := hc.1
  have hgr := hPP.2.1
  intro c c0 c1
  have := hgr.1 c c0 c1
  unfold cg at this
  rw [qv_0, hP, qv_get (by rw [hP]; exact hp0) (by omega) (by omega)] at this
  have e5 : rv r 5 c = r 5 (48 + c) := rfl
  rw [← e5, this]
  by_cases z : bit (q (q0 46 1) 2) c = true
  · rw [if_pos z]; exact ⟨fun _ => rfl, fun _ => z⟩
  · rw [if_neg z]
    refine ⟨fun y => absurd y z, fun y => ?_⟩
    split at y <;> omega
/-- sizes -/
theorem PR.dims {B : Int → Int} {n : Int} {m a : Nat} {q0 r0 q r : Mh} (h : PR B n m a q0 r0 q r) : q (q0 46 1) 0 = r 0 25 ∧ q (q0 46 1) 1 = r 0 26 ∧ szs (r 0 25) (r 0 26) := by
  have hp0 := h.p0
  obtain ⟨hT, hF, hPP, hE, hc, hr⟩ := h
  have hP : q 46 1 = q0 46 1 := hc.1
  have hd := hPP.1.1
  unfold RDim at hd
  rw [qv_0, hP, qv_get (o := q0 46 1) (by rw [hP]; exact hp0) (by omega) (by omega)] at hd
  obtain ⟨_, _, dw, dh, dprm, _⟩ := hd
  exact ⟨dw, dh, dprm.1⟩
theorem run_add1 {q : Mh} {row k c t cnt : Int} {K : Mh → Prop} (h1 : q row 3 = cnt) (c0 : 0 ≤ cnt) (c1 : cnt < ((shC (row + 1)).2 : Int)) (c2 : cnt < ((shC (row + 2)).2 : Int)) (c3 : cnt < ((shC (row + 3)).2 : Int)) (c4 : cnt < 1000) (hk : K (up (up (up (up q (row + 1) cnt k) (row + 2) cnt c) (row + 3) cnt t) row 3 (cnt + 1))) : wp_X1_add shC row k c t q K := by
  unfold wp_X1_add
  rw [h1, if_neg (by omega), if_neg (by omega)]
  refine ⟨⟨c0, c1⟩, ?_⟩
  intro g1 q1
  have e1 : g1 row 3 = cnt := by rw [q1, up_other (by omega)]; exact h1
  rw [e1]
  refine ⟨⟨c0, c2⟩, ?_⟩
  intro g2 q2
  have e2 : g2 row 3 = cnt := by rw [q2, up_other (by omega)]; exact e1
  rw [e2]
  refine ⟨⟨c0, c3⟩, ?_⟩
  intro g3 q3
  have e3 : g3 row 3 = cnt := by rw [q3, up_other (by omega)]; exact e2
  rw [e3, w32_eq (by omega) (by omega)]
  intro g4 q4
  rw [q4, q3, q2, q1]; exact hk
