/-! ===== the class's next token ===== -/
def nxA (h : Mh) : Int := if h 49 4 < h 49 7 + 1 then h 49 4 else h 49 7 + 1
def advC (h : Mh) : Mh := up (up (up (up h 49 7 (nxA h)) 49 8 (if nxA h < h 49 4 then h 50 (nxA h) else 0)) 49 9 (if nxA h < h 49 4 then h 51 (nxA h) else h 49 5)) 49 10 (if nxA h < h 49 4 then h 52 (nxA h) else 0)
theorem xp_advance {h : Mh} {K : Mh → Prop} (a0 : -1 ≤ h 49 7) (m0 : 0 ≤ h 49 4) (a1 : h 49 7 ≤ h 49 4) (m1 : h 49 4 ≤ 800) (hk : K (advC h)) : wp_X10_advance h K := by
  unfold advC at hk
  have na : 0 ≤ nxA h ∧ nxA h ≤ h 49 4 := by unfold nxA; split <;> omega
  have es : h 49 4 ≤ h 49 7 → nxA h = h 49 7 := by intro y; unfold nxA; split <;> omega
  have en : ¬ h 49 4 ≤ h 49 7 → w32 (h 49 7 + 1) = nxA h := by
    intro y
    rw [w32_eq (by omega) (by omega)]; unfold nxA; split <;> omega
  obtain ⟨a, ea⟩ : ∃ a, a = nxA h := ⟨_, rfl⟩
  rw [← ea] at hk na en es
  have core : ∀ h1 : Mh, h1 = up h 49 7 a → Lfp (F_X10_advance K) (21, [], h1) := by
    intro h1 q1
    have e7 : h1 49 7 = a := by rw [q1, up_self]
    have e4 : h1 49 4 = h 49 4 := by rw [q1, up_slot (by decide)]
    have e5 : h1 49 5 = h 49 5 := by rw [q1, up_slot (by decide)]
    have o1 : ∀ o, ¬ o = 49 → h1 o = h o := fun o z => by rw [q1, up_other z]
    have no : ¬ a < h 49 4 → Lfp (F_X10_advance K) (55, [], h1) := by
      intro z
      rw [if_neg z, if_neg z, if_neg z] at hk
      apply L_X10_advance_55
      unfold B_X10_advance_55
      apply L_X10_advance_56
      unfold B_X10_advance_56
      rw [if_pos rfl]
      apply L_X10_advance_75
      unfold B_X10_advance_75
      intro h2 q2
      rw [if_pos rfl]
      intro h3 q3
      rw [if_pos rfl]
      intro h4 q4
      rw [q4, q3, show h2 49 5 = h 49 5 by rw [q2, up_slot (by decide)]; exact e5, q2, q1]
      exact hk
    apply L_X10_advance_21
    unfold B_X10_advance_21
    rw [e7, e4, if_neg (by omega)]
    by_cases z : a < h 49 4
    · rw [if_neg (by omega), if_neg (by omega)]
      rw [if_pos z, if_pos z, if_pos z] at hk
      apply L_X10_advance_56
      unfold B_X10_advance_56
      rw [if_neg (by decide), e7]
      refine ⟨⟨na.1, by omega⟩, ?_⟩
      apply L_X10_advance_75
      unfold B_X10_advance_75
      intro h2 q2
      have g7 : h2 49 7 = a := by rw [q2, up_slot (by decide)]; exact e7
      rw [if_neg (by decide), g7]
      refine ⟨⟨na.1, by omega⟩, ?_⟩
      intro h3 q3
      have f7 : h3 49 7 = a := by rw [q3, up_slot (by decide)]; exact g7
      rw [if_neg (by decide), f7]
      refine ⟨⟨na.1, by omega⟩, ?_⟩
      intro h4 q4
      rw [q4, show h3 52 a = h 52 a by rw [q3, up_other (by decide), q2, up_other (by decide), o1 52 (by decide)], q3, show h2 51 a = h 51 a by rw [q2, up_other (by decide), o1 51 (by decide)], q2, o1 50 (by decide), q1]
      exact hk
    · rw [if_pos (by omega)]; exact no z
  unfold wp_X10_advance
  by_cases y : h 49 4 ≤ h 49 7
  · rw [if_pos y]; exact core h (up_id (es y))
  · rw [if_neg y]
    intro h1 q1
    exact core h1 (by rw [q1, en y])
/-- where the tokens begin -/
def st (B : Int → Int) (n : Int) : Nat → Int
  | 0 => re isB B n 0
  | k + 1 => re isB B n (tE B n (st B n k))
/-- the class holds the m tokens of the tape -/
def TokL (B : Int → Int) (n : Int) (m : Nat) (g : Mh) : Prop := g 49 5 = n ∧ 0 ≤ n ∧ n ≤ 800 ∧ g 49 4 = m ∧ m ≤ 800 ∧ st B n m = n ∧ ∀ i : Nat, i < m → 0 ≤ st B n i ∧ st B n i < n ∧ g 51 i = st B n i ∧ tRel (g 50 i) (g 52 i) (tR B n (st B n i)).1 (tR B n (st B n i)).2
/-- what a scan may write -/
def frX (h g : Mh) : Prop := ∀ o j, ¬ (o = 49 ∧ 4 ≤ j ∧ j ≤ 10) → ¬ (50 ≤ o ∧ o ≤ 52) → g o j = h o j
theorem frX_up {h g : Mh} {i v : Int} (f : frX h g) (a : 4 ≤ i) (b : i ≤ 10) : frX h (up g 49 i v) := fun o j c d => by rw [up_ne _ (by omega), f o j c d]
theorem frX_row {h g : Mh} {o i v : Int} (f : frX h g) (a : 50 ≤ o) (b : o ≤ 52) : frX h (up g o i v) := fun x j c d => by rw [up_ne _ (by omega), f x j c d]
theorem addT_frX {h g : Mh} {e t p v : Int} (f : frX h g) : frX h (addT g e t p v) := by
  unfold addT
  exact frX_up (frX_row (frX_row (frX_row (frX_up f (by decide) (by decide)) (by decide) (by decide)) (by decide) (by decide)) (by decide) (by decide)) (by decide) (by decide)
theorem addT_4 {g : Mh} {e t p v : Int} : addT g e t p v 49 4 = g 49 4 + 1 := by unfold addT; rw [up_self]
theorem addT_6 {g : Mh} {e t p v : Int} : addT g e t p v 49 6 = e := by
  unfold addT; rw [up_slot (by decide), up_other (by decide), up_other (by decide), up_other (by decide), up_self]
theorem addT_n {g : Mh} {e t p v j : Int} (a : ¬ j = 4) (b : ¬ j = 6) : addT g e t p v 49 j = g 49 j := by
  unfold addT; rw [up_slot a, up_other (by decide), up_other (by decide), up_other (by decide), up_slot b]
theorem addT_50 {g : Mh} {e t p v j : Int} : addT g e t p v 50 j = if j = g 49 4 then t else g 50 j := by
  unfold addT
  rw [up_other (by decide), up_other (by decide), up_other (by decide)]
  by_cases z : j = g 49 4
  · rw [if_pos z, z, up_self]
  · rw [if_neg z, up_slot z, up_other (by decide)]
theorem addT_51 {g : Mh} {e t p v j : Int} : addT g e t p v 51 j = if j = g 49 4 then p else g 51 j := by
  unfold addT
  rw [up_other (by decide), up_other (by decide)]
  by_cases z : j = g 49 4
  · rw [if_pos z, z, up_self]
  · rw [if_neg z, up_slot z, up_other (by decide), up_other (by decide)]
theorem addT_52 {g : Mh} {e t p v j : Int} : addT g e t p v 52 j = if j = g 49 4 then v else g 52 j := by
  unfold addT
  rw [up_other (by decide)]
  by_cases z : j = g 49 4
  · rw [if_pos z, z, up_self]
  · rw [if_neg z, up_slot z, up_other (by decide), up_other (by decide), up_other (by decide)]
theorem sp_scan {n : Int} {h : Mh} {B : Int → Int} {K : Mh → Prop} (n0 : 0 ≤ n) (n1 : n ≤ 800) (hB : byt B (h 1) n) (hk : ∀ g m, frX h g → TokL B n m g → g 49 7 = -1 → K (advC g)) : wp_X10_scan n h K := by
  have loop : ∀ (d : Nat) (v : Int) (k : Nat) (g : Mh), frX h g → g 49 5 = n → g 49 7 = -1 → 0 ≤ g 49 6 → g 49 6 ≤ n → g 49 4 = k → (k : Int) ≤ g 49 6 → n - g 49 6 ≤ v → v ≤ 800 → (n - g 49 6).toNat = d → re isB B n (g 49 6) = st B n k → (∀ i : Nat, i < k → 0 ≤ st B n i ∧ st B n i < n ∧ g 51 i = st B n i ∧ tRel (g 50 i) (g 52 i) (tR B n (st B n i)).1 (tR B n (st B n i)).2) → Lfp (F_X10_scan n K) (37, [v], g) := by
    intro d
    induction d using Nat.strongRecOn with
    | ind d ih =>
      intro v k g f g5 g7 p0 pn g4 kp vn v8 hd hs hr
      have hg1 : g 1 = h 1 := funext fun j => f 1 j (by omega) (by omega)
      apply L_X10_scan_37
      unfold B_X10_scan_37
      by_cases z : g 49 6 < n
      · rw [if_neg (by omega), if_neg (by omega), wi_byteAt p0 (by omega), g5, if_pos z, wi_isLetter]
        rw [hg1]
        have nx : ∀ t w : Int, isB (B (g 49 6)) = false → tRel t w (tR B n (g 49 6)).1 (tR B n (g 49 6)).2 → ∀ x : Int, x = w32 (v + -1) → Lfp (F_X10_scan n K) (37, [x], addT g (tE B n (g 49 6)) t (g 49 6) w) := by
          intro t w nb tr x ex
          rw [w32_eq (by omega) (by omega)] at ex
          have te := tE_r (B := B) (n := n) (s := g 49 6) z
          have sk : st B n k = g 49 6 := by rw [← hs, re_stop (Or.inr nb)]
          refine ih (n - tE B n (g 49 6)).toNat (by omega) x (k + 1) _ (addT_frX f) (by rw [addT_n (by decide) (by decide)]; exact g5) (by rw [addT_n (by decide) (by decide)]; exact g7) (by rw [addT_6]; omega) (by rw [addT_6]; omega) (by rw [addT_4, g4]; omega) (by rw [addT_6]; omega) (by rw [addT_6]; omega) (by omega) (by rw [addT_6]) ?_ ?_
          · rw [addT_6]
            show _ = re isB B n (tE B n (st B n k))
            rw [sk]
          · intro i hi
            rw [addT_50, addT_51, addT_52, g4]
            by_cases y : i = k
            · rw [if_pos (by omega), if_pos (by omega), if_pos (by omega), y, sk]
              exact ⟨p0, z, rfl, tr⟩
            · rw [if_neg (by omega), if_neg (by omega), if_neg (by omega)]
              exact hr i (by omega)
        have bl : isB (B (g 49 6)) = true → ∀ x : Int, x = w32 (v + -1) → Lfp (F_X10_scan n K) (37, [x], up g 49 6 (g 49 6 + 1)) := by
          intro b x ex
          rw [w32_eq (by omega) (by omega)] at ex
          refine ih (n - (g 49 6 + 1)).toNat (by omega) x k _ (frX_up f (by decide) (by decide)) (by rw [up_slot (by decide)]; exact g5) (by rw [up_slot (by decide)]; exact g7) (by rw [up_self]; omega) (by rw [up_self]; omega) (by rw [up_slot (by decide)]; exact g4) (by rw [up_self]; omega) (by rw [up_self]; omega) (by omega) (by rw [up_self]) (by rw [up_self, ← hs, re_step z b]) ?_
          intro i hi
          rw [up_other (by decide), up_other (by decide), up_other (by decide)]
          exact hr i hi
        rw [hB.s p0 z]
        have hBg : byt B (g 1) (g 49 5) := by rw [hg1, g5]; exact hB
        cases eS : isS (B (g 49 6))
        · rw [show b01 false = 0 from rfl, if_pos rfl, wi_isDigitC, hB.d p0 z]
          cases eD : isD (B (g 49 6))
          · rw [show b01 false = 0 from rfl, if_pos rfl]
            rw [← hg1]
            refine sp_scanSign hBg (by omega) p0 (by omega) (by omega) (by omega) eS eD bl ?_
            rw [g5]
            exact fun nb t w tr => nx t w nb tr
          · rw [show b01 true = 1 from rfl, if_neg (by decide)]
            refine sp_scanNumber hBg (by omega) p0 (by omega) (by omega) (by omega) eS eD ?_
            rw [g5]
            refine fun t w tr => nx t w ?_ tr
            have y := of_decide_eq_true eD
            exact decide_eq_false (by omega)
        · rw [show b01 true = 1 from rfl, if_neg (by decide)]
          refine sp_scanWord hBg (by omega) p0 (by omega) (by omega) (by omega) eS ?_
          rw [g5]
          refine fun t w tr => nx t w ?_ tr
          have y := of_decide_eq_true eS
          exact decide_eq_false (by omega)
      · have fin : wp_X10_advance g (fun h1 => K h1) := by
          refine xp_advance (by omega) (by omega) (by omega) (by omega) ?_
          refine hk g k f ⟨g5, n0, n1, g4, by omega, ?_, hr⟩ g7
          rw [← hs, re_stop (Or.inl (by omega))]; omega
        by_cases y : v ≤ 0
        · rw [if_pos y]; exact fin
        · rw [if_neg y, if_pos (by omega)]; exact fin
  unfold wp_X10_scan
  have en : (if (0 : Int) < (if 800 < n then 800 else n) then (if 800 < n then 800 else n) else 0) = n := by
    rw [if_neg (show ¬ 800 < n by omega)]
    split <;> omega
  rw [en]
  intro h1 q1 h2 q2 h3 q3 h4 q4 x1 ex1
  have f4 : frX h h4 := by
    rw [q4, q3, q2, q1]
    exact frX_up (frX_up (frX_up (frX_up (fun _ _ _ _ => rfl) (by decide) (by decide)) (by decide) (by decide)) (by decide) (by decide)) (by decide) (by decide)
  have e5 : h4 49 5 = n := by rw [q4, up_slot (by decide), q3, up_slot (by decide), q2, up_slot (by decide), q1, up_self]
  have e6 : h4 49 6 = 0 := by rw [q4, up_slot (by decide), q3, up_slot (by decide), q2, up_self]
  have e4 : h4 49 4 = 0 := by rw [q4, up_slot (by decide), q3, up_self]
  have e7 : h4 49 7 = -1 := by rw [q4, up_self]
  exact loop (n - h4 49 6).toNat x1 0 h4 f4 e5 e7 (by omega) (by omega) (by omega) (by omega) (by omega) (by omega) rfl (by rw [e6]; rfl) (fun i hi => absurd hi (Nat.not_lt_zero i))
