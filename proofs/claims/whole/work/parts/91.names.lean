/-! ===== names and water, read by both ===== -/
theorem run_add {q : Mh} {row v cnt : Int} {K : Mh → Prop} (h1 : q row 1 = cnt) (c0 : 0 ≤ cnt) (c1 : cnt < ((shC (row + 1)).2 : Int)) (c2 : cnt < 1000) (hk : K (up (up q (row + 1) cnt v) row 1 (cnt + 1))) : wp_X7_add shC row v q K := by
  unfold wp_X7_add
  rw [h1, if_neg (by omega), if_neg (by omega)]
  refine ⟨⟨c0, c1⟩, ?_⟩
  intro g1 q1
  have e : g1 row 1 = cnt := by rw [q1, up_other (by omega)]; exact h1
  rw [e, w32_eq (by omega) (by omega)]
  intro g2 q2
  rw [q2, q1]; exact hk
theorem tw_name {B : Int → Int} {n : Int} {m a : Nat} {q r : Mh} {row arr base cnt : Int} (h : PTok B n m a q r) (hs : (shC row).1 = 6) (hrow : ¬ (48 ≤ row ∧ row ≤ 52)) (c0 : 0 ≤ cnt) (c1 : cnt < ((shC (row + 1)).2 : Int)) (c2 : cnt < 1000) (h1 : q row 1 = cnt) (h2 : ∀ j, 0 ≤ j → j < cnt → q (row + 1) j = r arr (base + j)) (ha : (shR arr).1 = 14) (ha0 : ¬ (0 ≤ arr ∧ arr ≤ 2)) (b0 : 0 ≤ base) (b1 : base + cnt < ((shR arr).2 : Int)) (b2 : (shR arr).2 ≤ 10000) :
    (∃ v, a < m ∧ PTok B n m (a + 1) (advC (up (up q (row + 1) cnt v) row 1 (cnt + 1))) (tokR (up r arr (base + cnt) v)) ∧ (∀ K : Int → Mh → Prop, K 1 (advC (up (up q (row + 1) cnt v) row 1 (cnt + 1))) → wp_X9_readNewName row q K) ∧ (∀ K : Int → Mh → Prop, K 1 (tokR (up r arr (base + cnt) v)) → wp_X14_newName arr base cnt r K)) ∨
    (∃ e : Int, ¬ e = 0 ∧ (∀ K : Int → Mh → Prop, K 0 (rfC e q) → wp_X9_readNewName row q K) ∧ (∀ K : Int → Mh → Prop, K 0 (wgR e r) → wp_X14_newName arr base cnt r K)) := by
  obtain ⟨n1, n2⟩ := h.name
  by_cases z : q 49 8 = 2
  · obtain ⟨am, ev, v0, v1⟩ := n2 z
    have z2 := n1.mp z
    have ef : fst1 (q (row + 1)) (q 49 10) (q row 1).toNat 0 = fst1 (fun j => r arr (base + j)) (r 0 9) cnt.toNat 0 := by
      rw [ev, h1]
      exact fst1_congr cnt.toNat 0 (fun j x y => h2 j x (by omega))
    obtain ⟨x, ex⟩ : ∃ x, x = fst1 (fun j => r arr (base + j)) (r 0 9) cnt.toNat 0 := ⟨_, rfl⟩
    rw [← ex] at ef
    by_cases y : x < 0
    · left
      have hT : PTok B n m a (up (up q (row + 1) cnt (r 0 9)) row 1 (cnt + 1)) (up r arr (base + cnt) (r 0 9)) := ((h.upC (by omega)).upC (by omega)).upR ha0
      refine ⟨r 0 9, am, hT.step am, ?_, ?_⟩
      · intro K hk
        unfold wp_X9_readNewName
        rw [if_pos z]
        refine ⟨hs, sp_indexOf (by omega) (by omega) (by omega) ?_⟩
        rw [ef, if_pos y, ev]
        exact run_add h1 c0 c1 c2 (hT.runC hk)
      · intro K hk
        unfold wp_X14_newName
        rw [if_pos z2]
        refine sp_find ha b0 c0 (by omega) b2 ?_
        rw [← ex, if_pos y, w32_eq (by omega) (by omega)]
        refine ⟨ha, ⟨by omega, b1⟩, ?_⟩
        intro g e
        rw [e]
        exact hT.runR hk
    · right
      refine ⟨3, by decide, ?_, ?_⟩
      · intro K hk
        unfold wp_X9_readNewName
        rw [if_pos z]
        refine ⟨hs, sp_indexOf (by omega) (by omega) (by omega) ?_⟩
        rw [ef, if_neg y]
        exact run_refuse hk
      · intro K hk
        unfold wp_X14_newName
        rw [if_pos z2]
        refine sp_find ha b0 c0 (by omega) b2 ?_
        rw [← ex, if_neg y]
        exact run_wrong hk
  · right
    refine ⟨1, by decide, ?_, ?_⟩
    · intro K hk
      unfold wp_X9_readNewName
      rw [if_neg z]; exact run_refuse hk
    · intro K hk
      unfold wp_X14_newName
      rw [if_neg (fun y => z (n1.mpr y))]; exact run_wrong hk
/-- a cell of water: the class forbids the land's bits, the reference looks at its ground -/
theorem tw_water {B : Int → Int} {n : Int} {m a : Nat} {q0 r0 q r : Mh} {fb w hh : Int} (h : PTok B n m a q r) (hc : fxC q0 q) (hr : fxR r0 r) (hp : isP (q0 46 1)) (hw : q (q0 46 1) 0 = w) (hw2 : r 0 25 = w) (hh1 : q (q0 46 1) 1 = hh) (hh2 : r 0 26 = hh) (hz : szs w hh) (hg : ∀ c, 0 ≤ c → c < 48 → (bit fb c = true ↔ r 5 (48 + c) = 2)) :
    (∃ q' r', PBad q0 r0 q' r' ∧ (∀ j, 25 ≤ j → j ≤ 36 → r' 0 j = r 0 j) ∧ (∀ K : Int → Mh → Prop, K (-1) q' → wp_X9_readCell fb q K) ∧ (∀ K : Int → Mh → Prop, K 0 r' → wp_X14_waterRead r K)) ∨
    (∃ c r', 0 ≤ c ∧ c < w * hh ∧ ¬ r 5 (48 + c) = 2 ∧ a + 2 ≤ m ∧ PTok B n m (a + 2) (advC (advC q)) (up r' 7 c 1) ∧ silR r r' ∧ r' 0 11 = c ∧ r' 0 37 = 1 ∧ (∀ K : Int → Mh → Prop, K c (advC (advC q)) → wp_X9_readCell fb q K) ∧ (∀ K : Int → Mh → Prop, K 1 (up r' 7 c 1) → wp_X14_waterRead r K)) := by
  have mz := szs_mul hz
  rcases tw_cell (fb := fb) h hc hr hp hw hw2 hh1 hh2 hz with ⟨q', r', pb, pj, cc, rc⟩ | ⟨c, pl, r', c0, c1, am, hT, sil, r11, r37, r62, ok, bad, rc⟩
  · left
    refine ⟨q', r', pb, pj, cc, fun K hk => ?_⟩
    unfold wp_X14_waterRead
    refine rc _ ?_
    rw [if_neg (by decide)]; exact hk
  · have e5 : r' 5 = r 5 := sil.1 5 (by decide)
    by_cases z : r 5 (48 + c) = 2
    · left
      refine ⟨_, _, PBad.cell (fxC_adv (fxC_adv hc hp) hp) (sil.fx hr) hp r62, fun j j0 j1 => by unfold wcR wgR; rw [up_slot (by omega), up_slot (by omega), up_slot (by omega), sil.2 j (by omega) (by omega) (by omega)], bad ((hg c c0 (by omega)).mpr z), fun K hk => ?_⟩
      unfold wp_X14_waterRead
      refine rc _ ?_
      rw [if_pos (by decide), r11, w32_eq (by omega) (by omega), e5]
      refine ⟨⟨by omega, by omega⟩, ?_⟩
      rw [if_neg (fun y => y z)]
      exact run_wrongCell hk
    · right
      have nb : bit fb c = false := by
        cases hb : bit fb c
        · rfl
        · exact absurd ((hg c c0 (by omega)).mp hb) z
      refine ⟨c, r', c0, c1, z, am, hT.upR (by decide), sil, r11, r37, ok nb, fun K hk => ?_⟩
      unfold wp_X14_waterRead
      refine rc _ ?_
      rw [if_pos (by decide), r11, w32_eq (by omega) (by omega), e5]
      refine ⟨⟨by omega, by omega⟩, ?_⟩
      rw [if_pos z]
      refine ⟨⟨c0, by omega⟩, ?_⟩
      intro h2 q2
      rw [q2]; exact hk
