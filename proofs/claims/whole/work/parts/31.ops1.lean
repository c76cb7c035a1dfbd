/-! ===== what belongs together in the two heaps ===== -/
def isP (p : Int) : Prop := p = 2 ∨ p = 54
def RRow (q r : Mh) (row cnt arr base : Int) : Prop := q row 1 = cnt ∧ 0 ≤ cnt ∧ ∀ j, 0 ≤ j → j < cnt → q (row + 1) j = r arr (base + j)
def RTape (q r : Mh) : Prop := q 0 1 = r 0 1 ∧ 0 ≤ r 0 1 ∧ r 0 1 ≤ 800 ∧ ∀ j, 0 ≤ j → j < r 0 1 → r 1 j = (q 1 j) % 256 ∧ -128 ≤ q 1 j ∧ q 1 j < 128
def RFault (q r : Mh) : Prop := q 46 2 = r 0 4 ∧ q 46 3 = r 0 5
/-- a note is a sight or a strike -/
def RNote (q r : Mh) (i : Int) : Prop := (q 111 i = -1 ∧ r 34 (3 * i) = q 108 i ∧ 0 ≤ q 108 i ∧ q 108 i < r 0 15 ∧ r 34 (3 * i + 1) = q 109 i ∧ 0 ≤ q 109 i ∧ q 109 i < 200 ∧ r 34 (3 * i + 2) = q 110 i) ∨ (0 ≤ q 111 i ∧ q 111 i < i ∧ r 34 (3 * i) = -1 ∧ r 34 (3 * i + 2) = q 111 i)
def RNotes (q r : Mh) : Prop := q 107 6 = r 0 84 ∧ 0 ≤ r 0 84 ∧ r 0 84 ≤ 32 ∧ q 107 7 = r 0 85 ∧ -1 ≤ r 0 85 ∧ r 0 85 ≤ r 0 84 ∧ ∀ i, 0 ≤ i → i < r 0 84 → RNote q r i
/-- the reference's heap with another thrown alone -/
theorem op_fault {q r : Mh} (a : Int) (hF : RFault q r) : wp_X13_fault a q (fun x q' => wp_X14_fault a r (fun y r' => x = y ∧ q' = q ∧ r' = up r 0 2 0)) := by
  obtain ⟨h1, h2⟩ := hF
  unfold wp_X13_fault wp_X14_fault
  have e4 : up r 0 2 0 0 4 = r 0 4 := up_slot (by decide)
  have e5 : up r 0 2 0 0 5 = r 0 5 := up_slot (by decide)
  by_cases c0 : a = 0
  · rw [if_neg (fun z => z c0)]
    intro h1' eh
    rw [if_neg (fun z => z c0), eh, e4]
    exact ⟨h1, rfl, rfl⟩
  · rw [if_pos c0]
    by_cases c1 : a = 1
    · rw [if_neg (fun z => z c1)]
      intro h1' eh
      rw [if_pos c0, if_neg (fun z => z c1), eh, e5]
      exact ⟨h2, rfl, rfl⟩
    · rw [if_pos c1]
      intro h1' eh
      rw [if_pos c0, if_pos c1, eh]
      exact ⟨rfl, rfl, rfl⟩
theorem op_known {q r : Mh} (a : Int) (hN : RNotes q r) : wp_X13_known a q (fun x q' => wp_X14_known a r (fun y r' => x = y ∧ RNotes q' r' ∧ (∀ b j, ¬ (b = 107 ∧ j = 7) → q' b j = q b j) ∧ (∀ b j, ¬ (b = 0 ∧ (j = 2 ∨ j = 85)) → r' b j = r b j))) := by
  obtain ⟨h1, h2, h3, h4, h5, h6, h7⟩ := hN
  unfold wp_X13_known wp_X4_limitTo wp_X14_known wp_X14_isIn
  simp only [RNote] at h7
  by_cases c0 : a < -1
  · simp [c0, RNotes, RNote, up]
    grind
  · by_cases c1 : a ≤ q 107 6
    · simp [c0, c1, RNotes, RNote, up]
      grind
    · simp [c0, c1, RNotes, RNote, up]
      grind
theorem RNotes.push {q r q' r' : Mh} (hN : RNotes q r) (hlt : r 0 84 < 32) (hq : ∀ b i, 0 ≤ i → i < r 0 84 → 108 ≤ b → b ≤ 111 → q' b i = q b i) (hr : ∀ i, i < 3 * r 0 84 → r' 34 i = r 34 i) (h15 : r' 0 15 = r 0 15) (h85 : r' 0 85 = r 0 85)
    (hn : r' 0 84 = r 0 84 + 1) (hqn : q' 107 6 = r 0 84 + 1) (hq7 : q' 107 7 = q 107 7) (hnew : RNote q' r' (r 0 84)) : RNotes q' r' := by
  obtain ⟨h1, h2, h3, h4, h5, h6, h7⟩ := hN
  refine ⟨by omega, by omega, by omega, by omega, by omega, by omega, fun i i0 i1 => ?_⟩
  by_cases e : i = r 0 84
  · rw [e]; exact hnew
  · have h := h7 i i0 (by omega)
    unfold RNote at h ⊢
    rw [hq 111 i i0 (by omega) (by decide) (by decide), hq 108 i i0 (by omega) (by decide) (by decide), hq 109 i i0 (by omega) (by decide) (by decide), hq 110 i i0 (by omega) (by decide) (by decide), hr (3 * i) (by omega), hr (3 * i + 1) (by omega), hr (3 * i + 2) (by omega), h15]
    exact h
theorem RNotes.same {q r q' r' : Mh} (hN : RNotes q r) (hq : ∀ b, 107 ≤ b → b ≤ 111 → q' b = q b) (hr : r' 34 = r 34) (h15 : r' 0 15 = r 0 15) (h84 : r' 0 84 = r 0 84) (h85 : r' 0 85 = r 0 85) : RNotes q' r' := by
  unfold RNotes RNote at hN ⊢
  rw [hq 107 (by decide) (by decide), hq 108 (by decide) (by decide), hq 109 (by decide) (by decide), hq 110 (by decide) (by decide), hq 111 (by decide) (by decide), hr, h15, h84, h85]
  exact hN
theorem up2_0 (r : Mh) : ∀ b j, ¬ (b = 0 ∧ j = 2) → up r 0 2 0 b j = r b j := fun _ _ h => up_ne r h
theorem RNotes.thrown {q r : Mh} (hN : RNotes q r) : RNotes q (up r 0 2 0) := hN.same (fun _ _ _ => rfl) (up_other (by decide)) (up_slot (by decide)) (up_slot (by decide)) (up_slot (by decide))
def FN (q q' r r' : Mh) : Prop := (∀ b j, ¬ ((108 ≤ b ∧ b ≤ 111) ∨ (b = 107 ∧ j = 6)) → q' b j = q b j) ∧ (∀ b j, ¬ (b = 34 ∨ (b = 0 ∧ (j = 2 ∨ j = 84))) → r' b j = r b j)
theorem FN.thrown {q r : Mh} : FN q q r (up r 0 2 0) := ⟨fun _ _ _ => rfl, fun b j h => up_ne r (fun z => h (Or.inr ⟨z.1, Or.inl z.2⟩))⟩
theorem sp_noted {a b c : Int} {r : Mh} {K : Int → Mh → Prop} (h0 : 0 ≤ r 0 84) (h1 : r 0 84 < 32) (hk : K (r 0 84) (up (up (up (up r 34 (3 * r 0 84) a) 34 (3 * r 0 84 + 1) b) 34 (3 * r 0 84 + 2) c) 0 84 (r 0 84 + 1))) : wp_X14_noted a b c r K := by
  have w1 : w32 (3 * r 0 84) = 3 * r 0 84 := w32_eq (by omega) (by omega)
  have w2 : w32 (3 * r 0 84 + 1) = 3 * r 0 84 + 1 := w32_eq (by omega) (by omega)
  have w3 : w32 (3 * r 0 84 + 2) = 3 * r 0 84 + 2 := w32_eq (by omega) (by omega)
  have w4 : w32 (r 0 84 + 1) = r 0 84 + 1 := w32_eq (by omega) (by omega)
  have w5 : w32 (r 0 84 + 1 - 1) = r 0 84 := by rw [w32_eq (by omega) (by omega)]; omega
  have e1 : ∀ x, up r 34 x a 0 84 = r 0 84 := fun x => by rw [up_other (by decide)]
  have e2 : ∀ x y, up (up r 34 x a) 34 y b 0 84 = r 0 84 := fun x y => by rw [up_other (by decide), e1]
  have e3 : ∀ x y z, up (up (up r 34 x a) 34 y b) 34 z c 0 84 = r 0 84 := fun x y z => by rw [up_other (by decide), e2]
  unfold wp_X14_noted
  rw [w1]
  refine ⟨⟨by omega, by omega⟩, ?_⟩
  intro g1 q1
  subst q1
  rw [e1, w1, w2]
  refine ⟨⟨by omega, by omega⟩, ?_⟩
  intro g2 q2
  subst q2
  rw [e2, w1, w3]
  refine ⟨⟨by omega, by omega⟩, ?_⟩
  intro g3 q3 g4 q4
  subst q3
  rw [e3, w4] at q4
  subst q4
  rw [up_self, w5]
  exact hk
theorem op_strike {q r : Mh} (a : Int) (hN : RNotes q r) : wp_X13_strike a q (fun x q' => wp_X14_strike a r (fun y r' => x = y ∧ RNotes q' r' ∧ FN q q' r r')) := by
  have hN0 := hN.thrown
  obtain ⟨h1, h2, h3, h4, h5, h6, h7⟩ := id hN
  unfold wp_X13_strike wp_X4_addStrike wp_X14_strike
  have e84 : up r 0 2 0 0 84 = r 0 84 := up_slot (by decide)
  by_cases c0 : a < 0
  · rw [if_pos c0]
    intro r1 e1
    subst e1
    rw [e84, if_pos c0]
    split <;> exact ⟨rfl, hN0, FN.thrown⟩
  · rw [if_neg c0]
    by_cases c1 : q 107 6 ≤ a
    · rw [if_pos c1]
      intro r1 e1
      subst e1
      rw [e84, if_neg c0, if_neg (show ¬ a < r 0 84 by omega)]
      split <;> exact ⟨rfl, hN0, FN.thrown⟩
    · rw [if_neg c1]
      by_cases c2 : q 107 6 < 32
      · rw [if_pos c2]
        refine ⟨⟨by omega, by omega⟩, ?_⟩
        intro q1 e1 q2 e2 r1 e3
        subst e3
        rw [e84, if_neg (by omega), if_neg c0, if_pos (by omega)]
        refine sp_noted (by rw [e84]; exact h2) (by rw [e84]; omega) ?_
        subst e1
        rw [up_other (b := 107) (by decide), h1, w32_eq (by omega) (by omega)] at e2
        subst e2
        rw [up_self, e84]
        refine ⟨by rw [w32_eq (by omega) (by omega)]; omega, ?_, ?_, ?_⟩
        · refine hN.push (by omega) (fun b i i0 i1 b0 b1 => ?_) (fun i hi => ?_) ?_ ?_ ?_ ?_ ?_ ?_
          · rw [up_other (by omega), up_ne _ (by omega)]
          · rw [up_other (by decide), up_slot (by omega), up_slot (by omega), up_slot (by omega), up_other (by decide)]
          · simp [up]
          · simp [up]
          · simp [up]
          · simp [up]
          · simp [up]
          · right
            simp [up]
            omega
        · intro b j hb
          rw [up_ne _ (fun z => hb (Or.inr z)), up_ne _ (fun z => hb (Or.inl (by omega)))]
        · intro b j hb
          rw [up_ne _ (fun z => hb (Or.inr ⟨z.1, Or.inr z.2⟩)), up_ne _ (fun z => hb (Or.inl z.1)), up_ne _ (fun z => hb (Or.inl z.1)), up_ne _ (fun z => hb (Or.inl z.1)), up_ne _ (fun z => hb (Or.inr ⟨z.1, Or.inl z.2⟩))]
      · rw [if_neg c2]
        intro r1 e1
        subst e1
        rw [e84, if_pos (by omega)]
        exact ⟨rfl, hN0, FN.thrown⟩
theorem wi_isIn (a l u : Int) (h : Mh) (K : Int → Mh → Prop) : wp_X14_isIn a l u h K = K (if a < l then 0 else if u < a then 0 else 1) h := by
  unfold wp_X14_isIn; split
  · rfl
  · split <;> rfl
theorem wi_isStep (a : Int) (h : Mh) (K : Int → Mh → Prop) : wp_X14_isStep a h K = K (if a < 0 then 0 else if 199 < a then 0 else 1) h := by
  unfold wp_X14_isStep; rw [wi_isIn]
theorem wi_isCork (a : Int) (h : Mh) (K : Int → Mh → Prop) : wp_X14_isCork a h K = K (if a < 0 then 0 else if h 0 15 ≤ a then 0 else 1) h := by
  unfold wp_X14_isCork; split
  · rfl
  · split <;> rfl
theorem op_note {q r : Mh} (a b c : Int) (hN : RNotes q r) (hp : isP (q 53 0)) (hc : q (q 53 0 + 25) 1 = r 0 15) : wp_X13_note a b c q (fun x q' => wp_X14_note a b c r (fun y r' => x = y ∧ RNotes q' r' ∧ FN q q' r r')) := by
  have hN0 := hN.thrown
  obtain ⟨h1, h2, h3, h4, h5, h6, h7⟩ := id hN
  have e84 : up r 0 2 0 0 84 = r 0 84 := up_slot (by decide)
  have e15 : up r 0 2 0 0 15 = r 0 15 := up_slot (by decide)
  have k4 : (shC (q 53 0)).1 = 4 := by rcases hp with e | e <;> rw [e] <;> rfl
  -- the reference refuses
  have no : (a < 0 ∨ r 0 15 ≤ a ∨ b < 0 ∨ 199 < b ∨ c < -9999 ∨ 9999 < c ∨ r 0 84 = 32) → wp_X14_note a b c r (fun y r' => -1 = y ∧ RNotes q r' ∧ FN q q r r') := by
    intro hno
    unfold wp_X14_note
    simp only [forall_eq, wi_isCork, wi_isStep, wi_isIn, e84, e15]
    have f1 := hN0
    have f2 : FN q q r (up r 0 2 0) := FN.thrown
    clear h7 hN hN0 h1 h4 h5 h6 e84 e15 hc
    grind
  unfold wp_X13_note wp_X7_has
  refine ⟨k4, ?_⟩
  rw [hc]
  have l31 : (a < 0 ∨ r 0 15 ≤ a ∨ b < 0 ∨ 199 < b) → Lfp (F_X13_note a b c (fun x q' => wp_X14_note a b c r (fun y r' => x = y ∧ RNotes q' r' ∧ FN q q' r r'))) (31, [], q) := by
    intro hh
    apply L_X13_note_31
    unfold B_X13_note_31
    apply L_X13_note_32
    unfold B_X13_note_32
    rw [if_pos rfl]
    exact no (by omega)
  dsimp only
  by_cases d1 : a < 0
  · simp only [d1, if_true]
    exact l31 (by omega)
  · by_cases d2 : r 0 15 ≤ a
    · simp only [d1, d2, if_true, if_false]
      exact l31 (by omega)
    · simp only [d1, d2, if_false, wp_X13_isStep, if_neg (show ¬ (1 : Int) = 0 by decide)]
      by_cases d3 : b < 0
      · simp only [d3, if_true]
        exact l31 (by omega)
      · by_cases d4 : ¬ 199 < b
        · simp only [d3, d4, if_true, if_false, if_neg (show ¬ (1 : Int) = 0 by decide)]
          apply L_X13_note_32
          unfold B_X13_note_32
          rw [if_neg (by decide)]
          by_cases d5 : c < -9999
          · rw [if_pos d5]; exact no (by omega)
          · rw [if_neg d5]
            by_cases d6 : c ≤ 9999
            · rw [if_pos d6]
              unfold wp_X4_addSight
              rw [if_neg (by omega)]
              by_cases d7 : q 107 6 < 32
              · rw [if_pos d7]
                refine ⟨⟨by omega, by omega⟩, ?_⟩
                intro q1 e1
                have f1 : q1 107 6 = r 0 84 := by rw [e1, up_other (by decide)]; exact h1
                rw [f1]
                refine ⟨⟨by omega, by omega⟩, ?_⟩
                intro q2 e2
                have f2 : q2 107 6 = r 0 84 := by rw [e2, up_other (by decide)]; exact f1
                rw [f2]
                refine ⟨⟨by omega, by omega⟩, ?_⟩
                intro q3 e3
                have f3 : q3 107 6 = r 0 84 := by rw [e3, up_other (by decide)]; exact f2
                rw [f3]
                refine ⟨⟨by omega, by omega⟩, ?_⟩
                intro q4 e4 q5 e5
                have f4 : q4 107 6 = r 0 84 := by rw [e4, up_other (by decide)]; exact f3
                rw [f4, w32_eq (by omega) (by omega)] at e5
                rw [h1] at e1
                unfold wp_X14_note wp_X14_isCork wp_X14_isStep wp_X14_isIn
                intro r1 er1
                subst er1
                rw [e84, e15, if_neg (by omega)]
                simp only [d1, d2, d3, d5, if_false, if_neg (show ¬ 199 < b by omega), if_neg (show ¬ 9999 < c by omega), if_neg (show ¬ (1 : Int) = 0 by decide), if_pos (show ¬ (1 : Int) = 0 by decide)]
                refine sp_noted (by rw [e84]; exact h2) (by rw [e84]; omega) ?_
                rw [e84]
                have f5 : q5 107 6 = r 0 84 + 1 := by rw [e5, up_self]
                refine ⟨by rw [f5, w32_eq (by omega) (by omega)]; omega, ?_, ?_, ?_⟩
                · subst e1; subst e2; subst e3; subst e4; subst e5
                  refine hN.push (by omega) (fun b i i0 i1 b0 b1 => ?_) (fun i hi => ?_) ?_ ?_ ?_ ?_ ?_ ?_
                  · rw [up_other (by omega), up_slot (by omega), up_slot (by omega), up_slot (by omega), up_slot (by omega)]
                  · rw [up_other (by decide), up_slot (by omega), up_slot (by omega), up_slot (by omega), up_other (by decide)]
                  · simp [up]
                  · simp [up]
                  · simp [up]
                  · simp [up]
                  · simp [up]
                  · left
                    simp [up]
                    omega
                · intro b j hb
                  rw [e5, e4, e3, e2, e1, up_ne _ (fun z => hb (Or.inr z)), up_ne _ (fun z => hb (Or.inl (by omega))), up_ne _ (fun z => hb (Or.inl (by omega))), up_ne _ (fun z => hb (Or.inl (by omega))), up_ne _ (fun z => hb (Or.inl (by omega)))]
                · intro b j hb
                  rw [up_ne _ (fun z => hb (Or.inr ⟨z.1, Or.inr z.2⟩)), up_ne _ (fun z => hb (Or.inl z.1)), up_ne _ (fun z => hb (Or.inl z.1)), up_ne _ (fun z => hb (Or.inl z.1)), up_ne _ (fun z => hb (Or.inr ⟨z.1, Or.inl z.2⟩))]
              · rw [if_neg d7]; exact no (by omega)
            · rw [if_neg d6]; exact no (by omega)
        · simp only [d3, show 199 < b from by omega, if_true, if_false]
          exact l31 (by omega)
theorem named1 {q r : Mh} {b row cnt arr lim : Int} (hR : RRow q r row cnt arr 0) (h1 : cnt ≤ lim) (h2 : lim ≤ 1000) (hs : lim ≤ (shC (row + 1)).2) (ha : (shR arr).1 = 14) (hs2 : lim ≤ (shR arr).2) (hs3 : (shR arr).2 ≤ 10000) (ha0 : arr ≠ 0) :
    wp_X7_indexOf shC row b q (fun x q' => wp_X14_find arr 0 cnt b (up r 0 2 0) (fun y r' => x = y ∧ q' = q ∧ r' = up r 0 2 0)) := by
  obtain ⟨e1, e2, e3⟩ := hR
  refine sp_indexOf (by omega) (by omega) (by omega) ?_
  refine sp_find ha (by omega) e2 (by omega) hs3 ?_
  refine ⟨?_, rfl, rfl⟩
  rw [e1]
  refine fst1_congr _ _ (fun j j0 j1 => ?_)
  rw [e3 j j0 (by omega), up_other ha0]
theorem op_named {q r : Mh} (a b : Int) (hp : isP (q 53 0)) (hk : RRow q r (q 53 0 + 12) (r 0 14) 9 0) (hk4 : r 0 14 ≤ 4) (hc : RRow q r (q 53 0 + 25) (r 0 15) 13 0) (hc6 : r 0 15 ≤ 6) (hs : RRow q r (q 53 0 + 29) (r 0 16) 15 0) (hs3 : r 0 16 ≤ 3) (hm : RRow q r (q 53 0 + 10) (r 0 19) 20 0) (hm3 : r 0 19 ≤ 3) :
    wp_X13_named a b q (fun x q' => wp_X14_named a b r (fun y r' => x = y ∧ q' = q ∧ r' = up r 0 2 0)) := by
  have k4 : (shC (q 53 0)).1 = 4 := by rcases hp with e | e <;> rw [e] <;> rfl
  have s1 : (shC (q 53 0 + 12 + 1)).2 = 4 := by rcases hp with e | e <;> rw [e] <;> rfl
  have s2 : (shC (q 53 0 + 25 + 1)).2 = 6 := by rcases hp with e | e <;> rw [e] <;> rfl
  have s3 : (shC (q 53 0 + 29 + 1)).2 = 3 := by rcases hp with e | e <;> rw [e] <;> rfl
  have s4 : (shC (q 53 0 + 10 + 1)).2 = 3 := by rcases hp with e | e <;> rw [e] <;> rfl
  have z : ∀ j : Int, j ≠ 2 → up r 0 2 0 0 j = r 0 j := fun j hj => up_slot hj
  unfold wp_X13_named wp_X14_named
  by_cases c0 : a = 0
  · simp only [c0, if_true, forall_eq]
    rw [z 14 (by decide)]
    exact ⟨k4, named1 (lim := 4) hk hk4 (by decide) (by rw [s1]; decide) rfl (by decide) (by decide) (by decide)⟩
  · by_cases c1 : a = 1
    · simp only [c1, if_true, forall_eq, if_neg (show ¬ (1 : Int) = 0 by decide)]
      rw [z 15 (by decide)]
      exact ⟨k4, named1 (lim := 6) hc hc6 (by decide) (by rw [s2]; decide) rfl (by decide) (by decide) (by decide)⟩
    · by_cases c2 : a = 2
      · simp only [c2, if_true, forall_eq, if_neg (show ¬ (2 : Int) = 0 by decide), if_neg (show ¬ (2 : Int) = 1 by decide)]
        rw [z 16 (by decide)]
        exact ⟨k4, named1 (lim := 3) hs hs3 (by decide) (by rw [s3]; decide) rfl (by decide) (by decide) (by decide)⟩
      · by_cases c3 : a = 3
        · simp only [c3, if_true, forall_eq, if_neg (show ¬ (3 : Int) = 0 by decide), if_neg (show ¬ (3 : Int) = 1 by decide), if_neg (show ¬ (3 : Int) = 2 by decide)]
          rw [z 19 (by decide)]
          exact ⟨k4, named1 (lim := 3) hm hm3 (by decide) (by rw [s4]; decide) rfl (by decide) (by decide) (by decide)⟩
        · simp only [c0, c1, c2, c3, if_false, forall_eq, and_self]
theorem op_drop {q r : Mh} (a b : Int) (h0 : q 98 3 = r 0 76) (h1 : 0 ≤ r 0 76) (h2 : r 0 76 ≤ 16) (hd : ∀ d, 0 ≤ d → d < r 0 76 → q 99 d = r 17 d ∧ q 100 d = r 18 d ∧ q 101 d = r 19 d) : wp_X13_drop a b q (fun x q' => wp_X14_drop a b r (fun y r' => x = y ∧ q' = q ∧ r' = up r 0 2 0)) := by
  unfold wp_X13_drop wp_X1_part wp_X14_drop
  have e76 : up r 0 2 0 0 76 = r 0 76 := up_slot (by decide)
  have e17 : up r 0 2 0 17 = r 17 := up_other (by decide)
  have e18 : up r 0 2 0 18 = r 18 := up_other (by decide)
  have e19 : up r 0 2 0 19 = r 19 := up_other (by decide)
  simp only [forall_eq, e76, e17, e18, e19, h0]
  by_cases c0 : a < 0
  · simp only [c0, if_true, and_self]
  · by_cases c1 : a < r 0 76
    · obtain ⟨d1, d2, d3⟩ := hd a (by omega) c1
      have b0 : 0 ≤ a := by omega
      have b1 : a < 16 := by omega
      have b2 : a < 32 := by omega
      by_cases k0 : b = 0
      · simp [c0, c1, k0, skC_99, d1, b0, b1, b2]
      · by_cases k1 : b = 1
        · simp [c0, c1, k1, skC_100, d2, b0, b1, b2]
        · by_cases k2 : b = 2
          · simp [c0, c1, k2, skC_101, d3, b0, b1, b2]
          · simp [c0, c1, k0, k1, k2]
    · simp only [c0, c1, if_false, and_self]
