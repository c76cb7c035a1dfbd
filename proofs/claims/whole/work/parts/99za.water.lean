def wpB (sh : Int → Nat × Nat) (p1 : Int) (h : Mh) (K : Mh → Prop) : Prop := ∀ h1 : Mh, h1 = up h 53 0 p1 → ((sh p1).1 = 4) ∧ ∀ h2 : Mh, h2 = up h1 53 1 (h1 p1 3) → wp_X1_copyOf sh 98 (p1 + 33) h2 (fun h3 => ∀ h4 : Mh, h4 = up h3 53 5 0 → ∀ h5 : Mh, h5 = up h4 53 7 0 → ∀ h6 : Mh, h6 = up h5 53 8 1 → ∀ h7 : Mh, h7 = up h6 53 9 1 → K h7)
theorem sim_beginP {X : Mx} (hWR : mWir X) (kd53 : (mxS X 53).1 = 10) (kd98 : (mxS X 98).1 = 0) (ww2 : mxW X 53 2 = 98) {l : Launch} {p1 : Int} {h : Mh} {K : Mh → Prop} (hw : wpB (mxS X) p1 h K) : mCal X l yX11_begin cX11_begin 2 none 2 45 [(2, 53), (2, p1)] h (mKv K) := by
  refine m_entry RX11 rfl (by decide) rfl (fun p e s m args below meth c C hr => ?_)
  show mG _ p l e _ s m args below meth c _ _ 0 [(0, (2, 53)), (1, (2, p1))] [] h
  unfold wpB at hw
  refine g_aload_n C dX11_begin_0 rfl (by decide) rfl ?_
  refine g_aload_n C dX11_begin_1 rfl (by decide) rfl ?_
  refine gp_X11_31 C dX11_begin_2 kd53 (fun _ => trivial) ?_
  refine g_heap (fun h1 eh1 => ?_)
  replace hw := hw h1 eh1
  refine g_aload_n C dX11_begin_5 rfl (by decide) rfl ?_
  refine g_aload_n C dX11_begin_6 rfl (by decide) rfl ?_
  obtain ⟨q1, hw⟩ := hw
  refine gf_X11_35 C dX11_begin_7 q1 (fun z7 => ?_)
  refine gp_X11_41 C dX11_begin_10 kd53 (fun z => z) ?_
  refine g_heap (fun h2 eh2 => ?_)
  replace hw := hw h2 eh2
  refine g_aload_n C dX11_begin_13 rfl (by decide) rfl ?_
  refine gw_X11_14 C dX11_begin_14 kd53 ww2 ?_
  refine g_aload_n C dX11_begin_17 rfl (by decide) rfl ?_
  refine gw_X11_42 C dX11_begin_18 q1 (wir_4_14 hWR q1) ?_
  refine g_callVv C [(2, (p1 + 33))] (sim_X1_copyOf hWR kd98 hw) k_485 k_486 k_487 k_138 k_488 hdV_X1_copyOf rfl rfl (by decide) rfl kd98 rfl rfl rfl dX11_begin_21 ?_
  intro h3 hw
  refine g_aload_n C dX11_begin_24 rfl (by decide) rfl ?_
  refine g_iconst C ⟨by decide, by decide⟩ dX11_begin_25 ?_
  refine gp_X11_47 C dX11_begin_26 kd53 (fun _ => (Or.inl rfl)) ?_
  refine g_heap (fun h4 eh4 => ?_)
  replace hw := hw h4 eh4
  refine g_aload_n C dX11_begin_29 rfl (by decide) rfl ?_
  refine g_iconst C ⟨by decide, by decide⟩ dX11_begin_30 ?_
  refine gp_X11_51 C dX11_begin_31 kd53 (fun z => z) ?_
  refine g_heap (fun h5 eh5 => ?_)
  replace hw := hw h5 eh5
  refine g_aload_n C dX11_begin_34 rfl (by decide) rfl ?_
  refine g_iconst C ⟨by decide, by decide⟩ dX11_begin_35 ?_
  refine gp_X11_55 C dX11_begin_36 kd53 (fun _ => (Or.inr rfl)) ?_
  refine g_heap (fun h6 eh6 => ?_)
  replace hw := hw h6 eh6
  refine g_aload_n C dX11_begin_39 rfl (by decide) rfl ?_
  refine g_iconst C ⟨by decide, by decide⟩ dX11_begin_40 ?_
  refine gp_X11_58 C dX11_begin_41 kd53 (fun _ => (Or.inr rfl)) ?_
  refine g_heap (fun h7 eh7 => ?_)
  replace hw := hw h7 eh7
  exact g_vret C hr dX11_begin_44 ⟨rfl, hw⟩
set_option maxRecDepth 20000 in
set_option maxHeartbeats 4000000 in
theorem look_none : ∀ (L : List (Int × Int × Int)) (h : Mh) (o j : Int), (L.all fun q => decide (¬ (o = q.1 ∧ j = q.2.1))) = true → ups L h o j = h o j := by
  intro L
  induction L with
  | nil => intro h o j _; rfl
  | cons q t ih =>
    intro h o j hq
    rw [List.all_cons, Bool.and_eq_true] at hq
    show ups t (up h q.1 q.2.1 q.2.2) o j = h o j
    rw [ih _ o j hq.2, up_ne _ (of_decide_eq_true hq.1)]
/-- begun with the pond 54, which tells no drop -/
def begF (h f : Mh) : Prop := (∀ o : Int, ¬ o = 53 → ¬ o = 98 → f o = h o) ∧ (∀ j : Int, ¬ (j = 0 ∨ j = 1 ∨ j = 5 ∨ j = 7 ∨ j = 8 ∨ j = 9) → f 53 j = h 53 j) ∧ (∀ j : Int, ¬ j = 3 → f 98 j = h 98 j) ∧ f 53 0 = 54 ∧ f 53 1 = h 54 3 ∧ f 53 5 = 0 ∧ f 53 7 = 0 ∧ f 53 8 = 1 ∧ f 53 9 = 1 ∧ f 98 3 = 0
theorem sp_begF {sh : Int → Nat × Nat} {h : Mh} {K : Mh → Prop} (h4 : (sh 54).1 = 4) (h0 : (sh 87).1 = 0) (h87 : h 87 3 = 0) (hk : ∀ f, begF h f → K f) : wpB sh 54 h K := by
  unfold wpB
  intro g1 e1
  refine ⟨h4, ?_⟩
  intro g2 e2
  have g87 : g2 (54 + 33) 3 = 0 := by rw [e2, up_other (by decide), e1, up_other (by decide)]; exact h87
  refine sp_copyOf h0 (Or.inl (by decide)) (by rw [g87]; decide) (by rw [g87]; decide) (by rw [g87]; exact Int.natCast_nonneg _) (by rw [g87]; exact Int.natCast_nonneg _) (by rw [g87]; exact Int.natCast_nonneg _) (by rw [g87]; exact Int.natCast_nonneg _) (by rw [g87]; exact Int.natCast_nonneg _) (by rw [g87]; exact Int.natCast_nonneg _) ?_
  have ed : dcopy g2 98 (54 + 33) = up g2 98 3 0 := by
    funext b j
    unfold dcopy up
    rw [g87]
    by_cases z : b = 98 ∧ j = 3
    · rw [if_pos z, if_pos z]
    · rw [if_neg z, if_neg z, if_neg (by omega), if_neg (by omega), if_neg (by omega)]
  rw [ed]
  intro g4 e4 g5 e5 g6 e6 g7 e7
  refine hk g7 ?_
  rw [e7, e6, e5, e4, e2, e1]
  refine ⟨fun o a b => ?_, fun j a => ?_, fun j a => ?_, ?_, ?_, ?_, ?_, ?_, ?_, ?_⟩
  · rw [up_other a, up_other a, up_other a, up_other a, up_other b, up_other a, up_other a]
  · rw [up_slot (by omega), up_slot (by omega), up_slot (by omega), up_slot (by omega), up_other (by decide), up_slot (by omega), up_slot (by omega)]
  · rw [up_other (by decide), up_other (by decide), up_other (by decide), up_other (by decide), up_slot a, up_other (by decide), up_other (by decide)]
  all_goals simp [up]
def KWa (h h' : Mh) : Prop := (∀ o : Int, ¬ o = 53 → ¬ (98 ≤ o ∧ o < 107) → h' o = h o) ∧ (∀ i : Nat, i = 53 ∨ (98 ≤ i ∧ i < 107) → ∀ j : Nat, j < alen (shC i) → mfin (shC i).1 j = true → h' i j = wrC i j) ∧ h' 53 0 = 54 ∧ h' 53 1 = h 54 3 ∧ h' 53 5 = 0 ∧ h' 53 7 = 0 ∧ h' 53 8 = 1 ∧ h' 53 9 = 1 ∧ h' 98 3 = 0
set_option maxRecDepth 20000 in
theorem wirP_107 {z : Mz} {W0 : Int → Int → Int} : mWir (XW shC z 107 (Wt W0)) := ⟨(fun r q => by
    have q' : (if r < ((107 : Nat) : Int) then shC r else (99, 0)).1 = 0 := q
    by_cases t : r < ((107 : Nat) : Int)
    · rw [if_pos t] at q'
      obtain ⟨i, rfl, hi⟩ := shC_in (o := r) (by rw [q']; decide)
      have hi2 : i < 107 := by omega
      have hh : ∀ i : Nat, i < 107 → (shC i).1 = 0 → wrC i 0 = i + 1 ∧ i + 1 < 107 ∧ (shC (i + 1)).1 = 14 := by decide +kernel
      obtain ⟨a, b, c⟩ := hh i hi2 q'
      refine ⟨?_, ?_⟩
      · show Wt W0 i 0 = i + 1
        unfold Wt
        rw [if_neg (by rw [q']; decide)]; exact a
      · show (if (i : Int) + 1 < ((107 : Nat) : Int) then shC ((i : Int) + 1) else (99, 0)).1 = 14
        rw [if_pos (by omega)]; exact c
    · rw [if_neg t] at q'
      exact absurd q' (by decide)), (fun r q => by
    have q' : (if r < ((107 : Nat) : Int) then shC r else (99, 0)).1 = 0 := q
    by_cases t : r < ((107 : Nat) : Int)
    · rw [if_pos t] at q'
      obtain ⟨i, rfl, hi⟩ := shC_in (o := r) (by rw [q']; decide)
      have hi2 : i < 107 := by omega
      have hh : ∀ i : Nat, i < 107 → (shC i).1 = 0 → wrC i 1 = i + 2 ∧ i + 2 < 107 ∧ (shC (i + 2)).1 = 14 := by decide +kernel
      obtain ⟨a, b, c⟩ := hh i hi2 q'
      refine ⟨?_, ?_⟩
      · show Wt W0 i 1 = i + 2
        unfold Wt
        rw [if_neg (by rw [q']; decide)]; exact a
      · show (if (i : Int) + 2 < ((107 : Nat) : Int) then shC ((i : Int) + 2) else (99, 0)).1 = 14
        rw [if_pos (by omega)]; exact c
    · rw [if_neg t] at q'
      exact absurd q' (by decide)), (fun r q => by
    have q' : (if r < ((107 : Nat) : Int) then shC r else (99, 0)).1 = 0 := q
    by_cases t : r < ((107 : Nat) : Int)
    · rw [if_pos t] at q'
      obtain ⟨i, rfl, hi⟩ := shC_in (o := r) (by rw [q']; decide)
      have hi2 : i < 107 := by omega
      have hh : ∀ i : Nat, i < 107 → (shC i).1 = 0 → wrC i 2 = i + 3 ∧ i + 3 < 107 ∧ (shC (i + 3)).1 = 14 := by decide +kernel
      obtain ⟨a, b, c⟩ := hh i hi2 q'
      refine ⟨?_, ?_⟩
      · show Wt W0 i 2 = i + 3
        unfold Wt
        rw [if_neg (by rw [q']; decide)]; exact a
      · show (if (i : Int) + 3 < ((107 : Nat) : Int) then shC ((i : Int) + 3) else (99, 0)).1 = 14
        rw [if_pos (by omega)]; exact c
    · rw [if_neg t] at q'
      exact absurd q' (by decide)), (fun r q => by
    have q' : (if r < ((107 : Nat) : Int) then shC r else (99, 0)).1 = 2 := q
    by_cases t : r < ((107 : Nat) : Int)
    · rw [if_pos t] at q'
      obtain ⟨i, rfl, hi⟩ := shC_in (o := r) (by rw [q']; decide)
      have hi2 : i < 107 := by omega
      have hh : ∀ i : Nat, i < 107 → (shC i).1 = 2 → wrC i 0 = i + 1 ∧ i + 1 < 107 ∧ (shC (i + 1)).1 = 14 := by decide +kernel
      obtain ⟨a, b, c⟩ := hh i hi2 q'
      refine ⟨?_, ?_⟩
      · show Wt W0 i 0 = i + 1
        unfold Wt
        rw [if_neg (by rw [q']; decide)]; exact a
      · show (if (i : Int) + 1 < ((107 : Nat) : Int) then shC ((i : Int) + 1) else (99, 0)).1 = 14
        rw [if_pos (by omega)]; exact c
    · rw [if_neg t] at q'
      exact absurd q' (by decide)), (fun r q => by
    have q' : (if r < ((107 : Nat) : Int) then shC r else (99, 0)).1 = 2 := q
    by_cases t : r < ((107 : Nat) : Int)
    · rw [if_pos t] at q'
      obtain ⟨i, rfl, hi⟩ := shC_in (o := r) (by rw [q']; decide)
      have hi2 : i < 107 := by omega
      have hh : ∀ i : Nat, i < 107 → (shC i).1 = 2 → wrC i 1 = i + 2 ∧ i + 2 < 107 ∧ (shC (i + 2)).1 = 14 := by decide +kernel
      obtain ⟨a, b, c⟩ := hh i hi2 q'
      refine ⟨?_, ?_⟩
      · show Wt W0 i 1 = i + 2
        unfold Wt
        rw [if_neg (by rw [q']; decide)]; exact a
      · show (if (i : Int) + 2 < ((107 : Nat) : Int) then shC ((i : Int) + 2) else (99, 0)).1 = 14
        rw [if_pos (by omega)]; exact c
    · rw [if_neg t] at q'
      exact absurd q' (by decide)), (fun r q => by
    have q' : (if r < ((107 : Nat) : Int) then shC r else (99, 0)).1 = 2 := q
    by_cases t : r < ((107 : Nat) : Int)
    · rw [if_pos t] at q'
      obtain ⟨i, rfl, hi⟩ := shC_in (o := r) (by rw [q']; decide)
      have hi2 : i < 107 := by omega
      have hh : ∀ i : Nat, i < 107 → (shC i).1 = 2 → wrC i 2 = i + 3 ∧ i + 3 < 107 ∧ (shC (i + 3)).1 = 15 := by decide +kernel
      obtain ⟨a, b, c⟩ := hh i hi2 q'
      refine ⟨?_, ?_⟩
      · show Wt W0 i 2 = i + 3
        unfold Wt
        rw [if_neg (by rw [q']; decide)]; exact a
      · show (if (i : Int) + 3 < ((107 : Nat) : Int) then shC ((i : Int) + 3) else (99, 0)).1 = 15
        rw [if_pos (by omega)]; exact c
    · rw [if_neg t] at q'
      exact absurd q' (by decide)), (fun r q => by
    have q' : (if r < ((107 : Nat) : Int) then shC r else (99, 0)).1 = 2 := q
    by_cases t : r < ((107 : Nat) : Int)
    · rw [if_pos t] at q'
      obtain ⟨i, rfl, hi⟩ := shC_in (o := r) (by rw [q']; decide)
      have hi2 : i < 107 := by omega
      have hh : ∀ i : Nat, i < 107 → (shC i).1 = 2 → wrC i 3 = i + 4 ∧ i + 4 < 107 ∧ (shC (i + 4)).1 = 15 := by decide +kernel
      obtain ⟨a, b, c⟩ := hh i hi2 q'
      refine ⟨?_, ?_⟩
      · show Wt W0 i 3 = i + 4
        unfold Wt
        rw [if_neg (by rw [q']; decide)]; exact a
      · show (if (i : Int) + 4 < ((107 : Nat) : Int) then shC ((i : Int) + 4) else (99, 0)).1 = 15
        rw [if_pos (by omega)]; exact c
    · rw [if_neg t] at q'
      exact absurd q' (by decide)), (fun r q => by
    have q' : (if r < ((107 : Nat) : Int) then shC r else (99, 0)).1 = 4 := q
    by_cases t : r < ((107 : Nat) : Int)
    · rw [if_pos t] at q'
      obtain ⟨i, rfl, hi⟩ := shC_in (o := r) (by rw [q']; decide)
      have hi2 : i < 107 := by omega
      have hh : ∀ i : Nat, i < 107 → (shC i).1 = 4 → wrC i 4 = i + 1 ∧ i + 1 < 107 ∧ (shC (i + 1)).1 = 6 := by decide +kernel
      obtain ⟨a, b, c⟩ := hh i hi2 q'
      refine ⟨?_, ?_⟩
      · show Wt W0 i 4 = i + 1
        unfold Wt
        rw [if_neg (by rw [q']; decide)]; exact a
      · show (if (i : Int) + 1 < ((107 : Nat) : Int) then shC ((i : Int) + 1) else (99, 0)).1 = 6
        rw [if_pos (by omega)]; exact c
    · rw [if_neg t] at q'
      exact absurd q' (by decide)), (fun r q => by
    have q' : (if r < ((107 : Nat) : Int) then shC r else (99, 0)).1 = 4 := q
    by_cases t : r < ((107 : Nat) : Int)
    · rw [if_pos t] at q'
      obtain ⟨i, rfl, hi⟩ := shC_in (o := r) (by rw [q']; decide)
      have hi2 : i < 107 := by omega
      have hh : ∀ i : Nat, i < 107 → (shC i).1 = 4 → wrC i 5 = i + 3 ∧ i + 3 < 107 ∧ (shC (i + 3)).1 = 17 := by decide +kernel
      obtain ⟨a, b, c⟩ := hh i hi2 q'
      refine ⟨?_, ?_⟩
      · show Wt W0 i 5 = i + 3
        unfold Wt
        rw [if_neg (by rw [q']; decide)]; exact a
      · show (if (i : Int) + 3 < ((107 : Nat) : Int) then shC ((i : Int) + 3) else (99, 0)).1 = 17
        rw [if_pos (by omega)]; exact c
    · rw [if_neg t] at q'
      exact absurd q' (by decide)), (fun r q => by
    have q' : (if r < ((107 : Nat) : Int) then shC r else (99, 0)).1 = 4 := q
    by_cases t : r < ((107 : Nat) : Int)
    · rw [if_pos t] at q'
      obtain ⟨i, rfl, hi⟩ := shC_in (o := r) (by rw [q']; decide)
      have hi2 : i < 107 := by omega
      have hh : ∀ i : Nat, i < 107 → (shC i).1 = 4 → wrC i 6 = i + 10 ∧ i + 10 < 107 ∧ (shC (i + 10)).1 = 6 := by decide +kernel
      obtain ⟨a, b, c⟩ := hh i hi2 q'
      refine ⟨?_, ?_⟩
      · show Wt W0 i 6 = i + 10
        unfold Wt
        rw [if_neg (by rw [q']; decide)]; exact a
      · show (if (i : Int) + 10 < ((107 : Nat) : Int) then shC ((i : Int) + 10) else (99, 0)).1 = 6
        rw [if_pos (by omega)]; exact c
    · rw [if_neg t] at q'
      exact absurd q' (by decide)), (fun r q => by
    have q' : (if r < ((107 : Nat) : Int) then shC r else (99, 0)).1 = 4 := q
    by_cases t : r < ((107 : Nat) : Int)
    · rw [if_pos t] at q'
      obtain ⟨i, rfl, hi⟩ := shC_in (o := r) (by rw [q']; decide)
      have hi2 : i < 107 := by omega
      have hh : ∀ i : Nat, i < 107 → (shC i).1 = 4 → wrC i 7 = i + 12 ∧ i + 12 < 107 ∧ (shC (i + 12)).1 = 6 := by decide +kernel
      obtain ⟨a, b, c⟩ := hh i hi2 q'
      refine ⟨?_, ?_⟩
      · show Wt W0 i 7 = i + 12
        unfold Wt
        rw [if_neg (by rw [q']; decide)]; exact a
      · show (if (i : Int) + 12 < ((107 : Nat) : Int) then shC ((i : Int) + 12) else (99, 0)).1 = 6
        rw [if_pos (by omega)]; exact c
    · rw [if_neg t] at q'
      exact absurd q' (by decide)), (fun r q => by
    have q' : (if r < ((107 : Nat) : Int) then shC r else (99, 0)).1 = 4 := q
    by_cases t : r < ((107 : Nat) : Int)
    · rw [if_pos t] at q'
      obtain ⟨i, rfl, hi⟩ := shC_in (o := r) (by rw [q']; decide)
      have hi2 : i < 107 := by omega
      have hh : ∀ i : Nat, i < 107 → (shC i).1 = 4 → wrC i 8 = i + 14 ∧ i + 14 < 107 ∧ (shC (i + 14)).1 = 17 := by decide +kernel
      obtain ⟨a, b, c⟩ := hh i hi2 q'
      refine ⟨?_, ?_⟩
      · show Wt W0 i 8 = i + 14
        unfold Wt
        rw [if_neg (by rw [q']; decide)]; exact a
      · show (if (i : Int) + 14 < ((107 : Nat) : Int) then shC ((i : Int) + 14) else (99, 0)).1 = 17
        rw [if_pos (by omega)]; exact c
    · rw [if_neg t] at q'
      exact absurd q' (by decide)), (fun r q => by
    have q' : (if r < ((107 : Nat) : Int) then shC r else (99, 0)).1 = 4 := q
    by_cases t : r < ((107 : Nat) : Int)
    · rw [if_pos t] at q'
      obtain ⟨i, rfl, hi⟩ := shC_in (o := r) (by rw [q']; decide)
      have hi2 : i < 107 := by omega
      have hh : ∀ i : Nat, i < 107 → (shC i).1 = 4 → wrC i 9 = i + 23 ∧ i + 23 < 107 ∧ (shC (i + 23)).1 = 6 := by decide +kernel
      obtain ⟨a, b, c⟩ := hh i hi2 q'
      refine ⟨?_, ?_⟩
      · show Wt W0 i 9 = i + 23
        unfold Wt
        rw [if_neg (by rw [q']; decide)]; exact a
      · show (if (i : Int) + 23 < ((107 : Nat) : Int) then shC ((i : Int) + 23) else (99, 0)).1 = 6
        rw [if_pos (by omega)]; exact c
    · rw [if_neg t] at q'
      exact absurd q' (by decide)), (fun r q => by
    have q' : (if r < ((107 : Nat) : Int) then shC r else (99, 0)).1 = 4 := q
    by_cases t : r < ((107 : Nat) : Int)
    · rw [if_pos t] at q'
      obtain ⟨i, rfl, hi⟩ := shC_in (o := r) (by rw [q']; decide)
      have hi2 : i < 107 := by omega
      have hh : ∀ i : Nat, i < 107 → (shC i).1 = 4 → wrC i 10 = i + 25 ∧ i + 25 < 107 ∧ (shC (i + 25)).1 = 6 := by decide +kernel
      obtain ⟨a, b, c⟩ := hh i hi2 q'
      refine ⟨?_, ?_⟩
      · show Wt W0 i 10 = i + 25
        unfold Wt
        rw [if_neg (by rw [q']; decide)]; exact a
      · show (if (i : Int) + 25 < ((107 : Nat) : Int) then shC ((i : Int) + 25) else (99, 0)).1 = 6
        rw [if_pos (by omega)]; exact c
    · rw [if_neg t] at q'
      exact absurd q' (by decide)), (fun r q => by
    have q' : (if r < ((107 : Nat) : Int) then shC r else (99, 0)).1 = 4 := q
    by_cases t : r < ((107 : Nat) : Int)
    · rw [if_pos t] at q'
      obtain ⟨i, rfl, hi⟩ := shC_in (o := r) (by rw [q']; decide)
      have hi2 : i < 107 := by omega
      have hh : ∀ i : Nat, i < 107 → (shC i).1 = 4 → wrC i 11 = i + 27 ∧ i + 27 < 107 ∧ (shC (i + 27)).1 = 6 := by decide +kernel
      obtain ⟨a, b, c⟩ := hh i hi2 q'
      refine ⟨?_, ?_⟩
      · show Wt W0 i 11 = i + 27
        unfold Wt
        rw [if_neg (by rw [q']; decide)]; exact a
      · show (if (i : Int) + 27 < ((107 : Nat) : Int) then shC ((i : Int) + 27) else (99, 0)).1 = 6
        rw [if_pos (by omega)]; exact c
    · rw [if_neg t] at q'
      exact absurd q' (by decide)), (fun r q => by
    have q' : (if r < ((107 : Nat) : Int) then shC r else (99, 0)).1 = 4 := q
    by_cases t : r < ((107 : Nat) : Int)
    · rw [if_pos t] at q'
      obtain ⟨i, rfl, hi⟩ := shC_in (o := r) (by rw [q']; decide)
      have hi2 : i < 107 := by omega
      have hh : ∀ i : Nat, i < 107 → (shC i).1 = 4 → wrC i 12 = i + 29 ∧ i + 29 < 107 ∧ (shC (i + 29)).1 = 6 := by decide +kernel
      obtain ⟨a, b, c⟩ := hh i hi2 q'
      refine ⟨?_, ?_⟩
      · show Wt W0 i 12 = i + 29
        unfold Wt
        rw [if_neg (by rw [q']; decide)]; exact a
      · show (if (i : Int) + 29 < ((107 : Nat) : Int) then shC ((i : Int) + 29) else (99, 0)).1 = 6
        rw [if_pos (by omega)]; exact c
    · rw [if_neg t] at q'
      exact absurd q' (by decide)), (fun r q => by
    have q' : (if r < ((107 : Nat) : Int) then shC r else (99, 0)).1 = 4 := q
    by_cases t : r < ((107 : Nat) : Int)
    · rw [if_pos t] at q'
      obtain ⟨i, rfl, hi⟩ := shC_in (o := r) (by rw [q']; decide)
      have hi2 : i < 107 := by omega
      have hh : ∀ i : Nat, i < 107 → (shC i).1 = 4 → wrC i 13 = i + 31 ∧ i + 31 < 107 ∧ (shC (i + 31)).1 = 6 := by decide +kernel
      obtain ⟨a, b, c⟩ := hh i hi2 q'
      refine ⟨?_, ?_⟩
      · show Wt W0 i 13 = i + 31
        unfold Wt
        rw [if_neg (by rw [q']; decide)]; exact a
      · show (if (i : Int) + 31 < ((107 : Nat) : Int) then shC ((i : Int) + 31) else (99, 0)).1 = 6
        rw [if_pos (by omega)]; exact c
    · rw [if_neg t] at q'
      exact absurd q' (by decide)), (fun r q => by
    have q' : (if r < ((107 : Nat) : Int) then shC r else (99, 0)).1 = 4 := q
    by_cases t : r < ((107 : Nat) : Int)
    · rw [if_pos t] at q'
      obtain ⟨i, rfl, hi⟩ := shC_in (o := r) (by rw [q']; decide)
      have hi2 : i < 107 := by omega
      have hh : ∀ i : Nat, i < 107 → (shC i).1 = 4 → wrC i 14 = i + 33 ∧ i + 33 < 107 ∧ (shC (i + 33)).1 = 0 := by decide +kernel
      obtain ⟨a, b, c⟩ := hh i hi2 q'
      refine ⟨?_, ?_⟩
      · show Wt W0 i 14 = i + 33
        unfold Wt
        rw [if_neg (by rw [q']; decide)]; exact a
      · show (if (i : Int) + 33 < ((107 : Nat) : Int) then shC ((i : Int) + 33) else (99, 0)).1 = 0
        rw [if_pos (by omega)]; exact c
    · rw [if_neg t] at q'
      exact absurd q' (by decide)), (fun r q => by
    have q' : (if r < ((107 : Nat) : Int) then shC r else (99, 0)).1 = 4 := q
    by_cases t : r < ((107 : Nat) : Int)
    · rw [if_pos t] at q'
      obtain ⟨i, rfl, hi⟩ := shC_in (o := r) (by rw [q']; decide)
      have hi2 : i < 107 := by omega
      have hh : ∀ i : Nat, i < 107 → (shC i).1 = 4 → wrC i 15 = i + 37 ∧ i + 37 < 107 ∧ (shC (i + 37)).1 = 2 := by decide +kernel
      obtain ⟨a, b, c⟩ := hh i hi2 q'
      refine ⟨?_, ?_⟩
      · show Wt W0 i 15 = i + 37
        unfold Wt
        rw [if_neg (by rw [q']; decide)]; exact a
      · show (if (i : Int) + 37 < ((107 : Nat) : Int) then shC ((i : Int) + 37) else (99, 0)).1 = 2
        rw [if_pos (by omega)]; exact c
    · rw [if_neg t] at q'
      exact absurd q' (by decide)), (fun r q => by
    have q' : (if r < ((107 : Nat) : Int) then shC r else (99, 0)).1 = 4 := q
    by_cases t : r < ((107 : Nat) : Int)
    · rw [if_pos t] at q'
      obtain ⟨i, rfl, hi⟩ := shC_in (o := r) (by rw [q']; decide)
      have hi2 : i < 107 := by omega
      have hh : ∀ i : Nat, i < 107 → (shC i).1 = 4 → wrC i 16 = i + 42 ∧ i + 42 < 107 ∧ (shC (i + 42)).1 = 6 := by decide +kernel
      obtain ⟨a, b, c⟩ := hh i hi2 q'
      refine ⟨?_, ?_⟩
      · show Wt W0 i 16 = i + 42
        unfold Wt
        rw [if_neg (by rw [q']; decide)]; exact a
      · show (if (i : Int) + 42 < ((107 : Nat) : Int) then shC ((i : Int) + 42) else (99, 0)).1 = 6
        rw [if_pos (by omega)]; exact c
    · rw [if_neg t] at q'
      exact absurd q' (by decide)), (fun r q => by
    have q' : (if r < ((107 : Nat) : Int) then shC r else (99, 0)).1 = 6 := q
    by_cases t : r < ((107 : Nat) : Int)
    · rw [if_pos t] at q'
      obtain ⟨i, rfl, hi⟩ := shC_in (o := r) (by rw [q']; decide)
      have hi2 : i < 107 := by omega
      have hh : ∀ i : Nat, i < 107 → (shC i).1 = 6 → wrC i 0 = i + 1 ∧ i + 1 < 107 ∧ (shC (i + 1)).1 = 14 := by decide +kernel
      obtain ⟨a, b, c⟩ := hh i hi2 q'
      refine ⟨?_, ?_⟩
      · show Wt W0 i 0 = i + 1
        unfold Wt
        rw [if_neg (by rw [q']; decide)]; exact a
      · show (if (i : Int) + 1 < ((107 : Nat) : Int) then shC ((i : Int) + 1) else (99, 0)).1 = 14
        rw [if_pos (by omega)]; exact c
    · rw [if_neg t] at q'
      exact absurd q' (by decide)), (fun a i q h0 h1 => by
    have q' : (if a < ((107 : Nat) : Int) then shC a else (99, 0)).1 = 17 := q
    have h1' : i < ((if a < ((107 : Nat) : Int) then shC a else (99, 0)).2 : Int) := h1
    by_cases t : a < ((107 : Nat) : Int)
    · rw [if_pos t] at q' h1'
      obtain ⟨j, rfl, hj⟩ := shC_in (o := a) (by rw [q']; decide)
      have hj2 : j < 107 := by omega
      obtain ⟨k, rfl⟩ := Int.eq_ofNat_of_zero_le h0
      have h1 : k < (shC j).2 := by omega
      have hh : ∀ j : Nat, j < 107 → (shC j).1 = 17 → ∀ k : Nat, k < (shC j).2 → wrC j k = j + 1 + 2 * k ∧ j + 1 + 2 * k < 107 ∧ (shC (j + 1 + 2 * k)).1 = 6 := by decide +kernel
      obtain ⟨a1, b1, c1⟩ := hh j hj2 q' k h1
      refine ⟨?_, ?_⟩
      · show Wt W0 j k = j + 1 + 2 * k
        unfold Wt
        rw [if_neg (by rw [q']; decide)]; exact a1
      · show (if (j : Int) + 1 + 2 * k < ((107 : Nat) : Int) then shC ((j : Int) + 1 + 2 * k) else (99, 0)).1 = 6
        rw [if_pos (by omega)]; exact c1
    · rw [if_neg t] at q'
      exact absurd q' (by decide))⟩
set_option maxRecDepth 20000 in
theorem ct_Water {l : Launch} {z : Mz} {h : Mh} (F : Fr shC 98 h) (HW : aWdX 98 h) (h87 : h 87 3 = 0) : aCal shC l yX11_init cX11_init 2 3 66 9 124 z 98 107 [(2, ((53 : Nat) : Int)), (2, ((54 : Nat) : Int))] h (KWa h) := by
  obtain ⟨L, eL⟩ : ∃ L : List (Int × Int × Int), L = [(((98 : Nat) : Int), ((0 : Nat) : Int), ((99 : Nat) : Int)), (((98 : Nat) : Int), ((1 : Nat) : Int), ((100 : Nat) : Int)), (((98 : Nat) : Int), ((2 : Nat) : Int), ((101 : Nat) : Int)), (((53 : Nat) : Int), ((2 : Nat) : Int), ((98 : Nat) : Int)), (((102 : Nat) : Int), ((0 : Nat) : Int), ((103 : Nat) : Int)), (((102 : Nat) : Int), ((1 : Nat) : Int), ((104 : Nat) : Int)), (((102 : Nat) : Int), ((2 : Nat) : Int), ((105 : Nat) : Int)), (((53 : Nat) : Int), ((3 : Nat) : Int), ((102 : Nat) : Int)), (((53 : Nat) : Int), ((6 : Nat) : Int), ((106 : Nat) : Int))] := ⟨_, rfl⟩
  have wL : ∀ i : Nat, i < 107 → (i = 53 ∨ 98 ≤ i) → ∀ j : Nat, j < alen (shC i) → mfin (shC i).1 j = true → look L i j none = some (wrC i j) := by rw [eL]; decide +kernel
  have oL : (L.all fun q => decide (q.1 = 53 ∨ (98 ≤ q.1 ∧ q.1 < 107))) = true := by rw [eL]; decide +kernel
  have rI : ∀ i : Nat, i < 107 → 98 ≤ i → ∀ j : Nat, j < alen (shC i) → mtag (aty (shC i) j) = 2 → mfin (shC i).1 j = true ∧ wrC i j < ((107 : Nat) : Int) := by decide +kernel
  have nk : ∀ i : Nat, i < 107 → 98 ≤ i → (shC i).1 ≠ 11 ∧ (shC i).1 ≠ 10 ∧ (shC i).1 ≠ 17 := by decide +kernel
  have r53 : ∀ j : Nat, j < alen (shC 53) → mtag (aty (shC 53) j) = 2 → j = 0 ∨ (mfin (shC 53).1 j = true ∧ (j = 2 ∨ j = 3 ∨ j = 6)) := by decide +kernel
  refine a_entry RX11 rfl rfl (by decide) rfl (fun p e s m args below meth c C hr => ?_)
  have Z := zle.refl z 98
  have HF : ∀ i : Nat, 98 ≤ i → i < 98 → s.heap.size ≤ z.2.2.1 i := fun i a b => by omega
  show aG shC z 98 p l e _ s m args below meth c _ _ 0 0 0 [(0, (2, ((53 : Nat) : Int))), (1, (2, ((54 : Nat) : Int)))] [] h
  refine a_aload_n C dX11_init_0 rfl (by decide) rfl ?_
  refine a_objInit C (by decide) k_478 k_164 k_165 rfl rfl rfl dX11_init_1 ?_
  refine a_aload_n C dX11_init_4 rfl (by decide) rfl ?_
  refine a_new C 0 rfl (by decide) rfl iX1 tyX1 tyX1_ok rfl (by decide) k_479 k_197 k_138 rfl F.at rfl rfl dX11_init_5 (fun z1 hz hf C => ?_)
  replace HF := hf_trans HF hz hf
  replace Z := Z.trans hz (by decide)
  replace F := F.le (n' := 99) (by decide)
  refine a_dup C (show ¬ (2 : Nat) = 1 by decide) dX11_init_8 ?_
  refine a_bipush C ⟨by decide, by decide⟩ (by decide) dX11_init_9 ?_
  refine a_callI C (av := [(0, 16)]) (np := 1) (ct_Drops (by decide) rfl rfl rfl rfl (by decide) F) k_480 k_199 k_138 k_200 rfl hdI_X1_init rfl rfl rfl rfl rfl dX11_init_11 rfl rfl (by decide) (fun z2 h1 hz hf C e1 => ?_)
  replace HF := hf_trans HF hz hf
  replace Z := Z.trans hz (by decide)
  replace F : Fr shC 102 h1 := by rw [e1]; exact Fr.ups (F.le (by decide)) (by decide)
  refine a_putE C 10 2 rfl (by decide) rfl iX11 (by decide) k_501 tyX11 tyX11_ok nmX11 rfl rfl (Or.inr (Or.inr (Or.inr (Or.inl ⟨_, rfl⟩)))) rfl dX11_init_14 (by decide) rfl trivial (fun h2 e2 => ?_)
  replace F : Fr shC 102 h2 := by rw [e2]; exact F.up (by decide)
  refine a_aload_n C dX11_init_17 rfl (by decide) rfl ?_
  refine a_new C 0 rfl (by decide) rfl iX1 tyX1 tyX1_ok rfl (by decide) k_479 k_197 k_138 rfl F.at rfl rfl dX11_init_18 (fun z3 hz hf C => ?_)
  replace HF := hf_trans HF hz hf
  replace Z := Z.trans hz (by decide)
  replace F := F.le (n' := 103) (by decide)
  refine a_dup C (show ¬ (2 : Nat) = 1 by decide) dX11_init_21 ?_
  refine a_bipush C ⟨by decide, by decide⟩ (by decide) dX11_init_22 ?_
  refine a_callI C (av := [(0, 16)]) (np := 1) (ct_Drops (by decide) rfl rfl rfl rfl (by decide) F) k_480 k_199 k_138 k_200 rfl hdI_X1_init rfl rfl rfl rfl rfl dX11_init_24 rfl rfl (by decide) (fun z4 h3 hz hf C e3 => ?_)
  replace HF := hf_trans HF hz hf
  replace Z := Z.trans hz (by decide)
  replace F : Fr shC 106 h3 := by rw [e3]; exact Fr.ups (F.le (by decide)) (by decide)
  refine a_putE C 10 3 rfl (by decide) rfl iX11 (by decide) k_505 tyX11 tyX11_ok nmX11 rfl rfl (Or.inr (Or.inr (Or.inr (Or.inl ⟨_, rfl⟩)))) rfl dX11_init_27 (by decide) rfl trivial (fun h4 e4 => ?_)
  replace F : Fr shC 106 h4 := by rw [e4]; exact F.up (by decide)
  refine a_aload_n C dX11_init_30 rfl (by decide) rfl ?_
  refine a_bipush C ⟨by decide, by decide⟩ (by decide) dX11_init_31 ?_
  refine a_newi C 14 1 (atype := .int) (N' := 20) k_194 rfl rfl (by decide) rfl (by decide) rfl rfl (by decide) (by decide) F.at rfl rfl dX11_init_33 (fun z5 hz hf C => ?_)
  replace HF := hf_trans HF hz hf
  replace Z := Z.trans hz (by decide)
  replace F := F.le (n' := 107) (by decide)
  refine a_putE C 10 6 rfl (by decide) rfl iX11 (by decide) k_508 tyX11 tyX11_ok nmX11 rfl rfl (Or.inr (Or.inr (Or.inr (Or.inr ⟨_, rfl⟩)))) rfl dX11_init_35 (by decide) rfl trivial (fun h5 e5 => ?_)
  replace F : Fr shC 107 h5 := by rw [e5]; exact F.up (by decide)
  refine a_aload_n C dX11_init_38 rfl (by decide) rfl ?_
  refine a_aload_n C dX11_init_39 rfl (by decide) rfl ?_
  have eH : h5 = ups L h := by rw [e5, e4, e3, e2, e1, eL]; rfl
  have eo : ∀ o : Int, ¬ o = 53 → ¬ (98 ≤ o ∧ o < 107) → h5 o = h o := fun o a b => by
    rw [eH]
    refine ups_other L h o (fun q hq y => ?_)
    have := of_decide_eq_true (List.all_eq_true.mp oL q hq)
    omega
  have hwd : aWd shC 107 (Wt h5) h5 := by
    intro i hi j hj hf
    unfold Wt
    by_cases r : (shC i).1 = 11 ∨ (shC i).1 = 10
    · rw [if_pos r]
    · rw [if_neg r]
      by_cases t : i < 98
      · have t53 : ¬ i = 53 := fun y => r (Or.inr (by rw [y]; rfl))
        rw [eo i (by omega) (by omega)]
        exact HW i t (fun y => r (Or.inl y)) (fun y => r (Or.inr y)) j hj hf
      · rw [eH]; exact ups_look L h i j none _ (fun v y => by cases y) (wL i hi (by omega) j hj hf)
  have w53 : ∀ j : Nat, j < alen (shC 53) → mfin (shC 53).1 j = true → h5 53 j = wrC 53 j := fun j hj hf => by rw [eH]; exact ups_look L h 53 j none _ (fun v y => by cases y) (wL 53 (by decide) (Or.inl rfl) j hj hf)
  have h87b : h5 87 3 = 0 := by rw [eo 87 (by decide) (by decide)]; exact h87
  refine a_callV C (Wt h5) (o := 53) (av := [(2, ((54 : Nat) : Int))]) (np := 1) (K := begF h5) (sim_beginP wirP_107 rfl rfl (show Wt h5 53 2 = 98 from by unfold Wt; rw [if_pos (show (shC 53).1 = 11 ∨ (shC 53).1 = 10 from Or.inr rfl)]; exact w53 2 (by decide) (by decide)) (sp_begF rfl rfl h87b (fun f a => a))) hwd k_481 k_482 k_483 k_142 k_484 hdV_X11_begin rfl rfl (by decide) rfl (by decide) rfl rfl rfl rfl dX11_init_40 rfl rfl ?_ (fun g hK hm => ?_)
  · intro hao g hK hm i hi
    have hS : ∀ zz : Mz, mxS (XW shC zz 107 (Wt h5)) (i : Int) = shC i := fun zz => if_pos (by omega)
    by_cases t53 : i = 53
    · subst t53
      refine ⟨fun j hj => ?_, fun h17 j => absurd h17 (by decide)⟩
      have hmm := hm 53 hi j (by rw [hS]; exact hj)
      rw [hS] at hmm
      refine ⟨hmm.1, fun q => ?_⟩
      rcases r53 j hj q with y | ⟨y1, y2⟩
      · subst y; rw [show g ((53 : Nat) : Int) ((0 : Nat) : Int) = 54 from hK.2.2.2.1]; decide
      · rw [show g ((53 : Nat) : Int) (j : Int) = h5 53 j from hK.2.1 j (by omega)]
        exact ((hao 53 hi).1 j hj).2 q
    · by_cases t98 : 98 ≤ i
      · refine ⟨fun j hj => ?_, fun h17 j => absurd h17 (nk i hi t98).2.2⟩
        have hmm := hm i hi j (by rw [hS]; exact hj)
        rw [hS] at hmm
        refine ⟨hmm.1, fun q => ?_⟩
        obtain ⟨q1, q2⟩ := rI i hi t98 j hj q
        rw [hmm.2 q1]
        show Wt h5 i j < _
        unfold Wt
        rw [if_neg (fun y => y.elim (nk i hi t98).1 (nk i hi t98).2.1)]; exact q2
      · have e0 : g i = h5 i := hK.1 i (by omega) (by omega)
        rw [e0]; exact hao i hi
  refine a_ret C Z (by decide) HF hr dX11_init_43 ⟨fun o a b => ?_, fun i a j hj hf => ?_, hK.2.2.2.1, ?_, hK.2.2.2.2.2.1, hK.2.2.2.2.2.2.1, hK.2.2.2.2.2.2.2.1, hK.2.2.2.2.2.2.2.2.1, hK.2.2.2.2.2.2.2.2.2⟩
  · rw [hK.1 o a (by omega), eo o a b]
  · have hi : i < 107 := by omega
    have hS : ∀ zz : Mz, mxS (XW shC zz 107 (Wt h5)) (i : Int) = shC i := fun zz => if_pos (by omega)
    have hmm := hm i hi j (by rw [hS]; exact hj)
    rw [hS] at hmm
    rw [hmm.2 hf]
    show Wt h5 i j = _
    unfold Wt
    by_cases t53 : i = 53
    · subst t53; rw [if_pos (show (shC ((53 : Nat) : Int)).1 = 11 ∨ (shC ((53 : Nat) : Int)).1 = 10 from Or.inr rfl)]; exact w53 j hj hf
    · rw [if_neg (fun y => y.elim (nk i hi (by omega)).1 (nk i hi (by omega)).2.1)]
  · rw [hK.2.2.2.2.1, eo 54 (by decide) (by decide)]
