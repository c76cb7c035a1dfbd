/-! ===== the reference's token, whole ===== -/
theorem frK.f1 {h g : Mh} (f : frK h g) : g 1 = h 1 := funext fun j => f 1 j (by omega)
theorem frK.f2 {h g : Mh} (f : frK h g) (j : Int) : g 2 j = h 2 j := f 2 j (by omega)
theorem frK.f6 {h g : Mh} (f : frK h g) : g 0 6 = h 0 6 := f 0 6 (by omega)
theorem widx_neg_gen {B : Int → Int} {s e : Int} : ∀ (L : List (Int × Int)) (k : Int), 0 ≤ k → widx B s e L k < 0 → widx B s e L k = -1 := by
  intro L
  induction L with
  | nil => intro k _ _; rfl
  | cons x t ih =>
    intro k k0 h
    obtain ⟨f, l⟩ := x
    have e1 : widx B s e ((f, l) :: t) k = (if mtch B s e f l = true then k else widx B s e t (k + 1)) := rfl
    rw [e1] at h ⊢
    by_cases z : mtch B s e f l = true
    · rw [if_pos z] at h; omega
    · rw [if_neg z] at h ⊢; exact ih (k + 1) (by omega) h
theorem widx_neg {B : Int → Int} {s e : Int} (h : widx B s e wds 0 < 0) : widx B s e wds 0 = -1 := widx_neg_gen wds 0 (by decide) h
theorem sp_token {h : Mh} {K : Mh → Prop} (hw : ∀ j, 0 ≤ j → j < 108 → h 2 j = wrd j) (p0 : 0 ≤ h 0 7) (pn : h 0 7 ≤ h 0 6) (hn : h 0 6 ≤ 800) (hB : ∀ j, 0 ≤ j → j < h 0 6 → 0 ≤ h 1 j ∧ h 1 j ≤ 255) (hk : ∀ g, frK h g → g 0 10 = re isB (h 1) (h 0 6) (h 0 7) → (re isB (h 1) (h 0 6) (h 0 7) = h 0 6 → g 0 7 = h 0 6 ∧ g 0 8 = 0 ∧ g 0 9 = h 0 9) → (re isB (h 1) (h 0 6) (h 0 7) < h 0 6 → g 0 7 = tE (h 1) (h 0 6) (re isB (h 1) (h 0 6) (h 0 7)) ∧ g 0 8 = (tR (h 1) (h 0 6) (re isB (h 1) (h 0 6) (h 0 7))).1 ∧ g 0 9 = (tR (h 1) (h 0 6) (re isB (h 1) (h 0 6) (h 0 7))).2) → K g) : wp_X14_token h K := by
  have sr := re_r (P := isB) (B := h 1) pn
  have se := re_end (P := isB) (B := h 1) (n := h 0 6) (h 0 6 - h 0 7).toNat (h 0 7) (by omega)
  obtain ⟨s, es⟩ : ∃ s, s = re isB (h 1) (h 0 6) (h 0 7) := ⟨_, rfl⟩
  rw [← es] at hk sr se
  obtain ⟨n, en⟩ : ∃ n, n = h 0 6 := ⟨_, rfl⟩
  rw [← en] at hk sr se pn hn hB es
  -- a number
  have l213 : ∀ (m : Nat) (v : Int) (g : Mh), isD (h 1 s) = true → isS (h 1 s) = false → frK h g → s ≤ g 0 7 → g 0 7 + m = re isD (h 1) n s → s < n → g 0 8 = 3 → g 0 10 = s → g 0 9 = v → nuR (h 1) m (g 0 7) v = nuR (h 1) (re isD (h 1) n s - s).toNat s 0 → 0 ≤ v → v ≤ 99999 → Lfp (F_X14_token K) (213, [], g) := by
    intro m
    induction m with
    | zero =>
      intro v g d nS f g7 gm sn g8 g10 g9 gv v0 v1
      have re2 := re_r (P := isD) (B := h 1) (n := n) (p := s) (by omega)
      apply L_X14_token_213
      unfold B_X14_token_213
      rw [wi_isDigitR (by omega) (by rw [f.f6, ← en]; exact hn), f.f6, f.f1, ← en]
      rw [if_neg (show ¬ (g 0 7 < n ∧ isD (h 1 (g 0 7)) = true) from ?_), if_pos rfl]
      · refine hk g f g10 (fun z => by omega) (fun _ => ?_)
        unfold tE tR
        rw [nS, d, if_neg (by decide), if_pos rfl, if_neg (by decide), if_pos rfl]
        refine ⟨by omega, g8, ?_⟩
        rw [g9]; exact gv
      · rintro ⟨a, b⟩
        have e7 : g 0 7 = re isD (h 1) n s := by omega
        rcases re_end (P := isD) (B := h 1) (n := n) (n - s).toNat s (by omega) with z | z
        · omega
        · rw [e7, z] at b; cases b
    | succ m ih =>
      intro v g d nS f g7 gm sn g8 g10 g9 gv v0 v1
      have re2 := re_r (P := isD) (B := h 1) (n := n) (p := s) (by omega)
      have dp := re_in (P := isD) (B := h 1) (n := n) (n - s).toNat s (by omega) (g 0 7) g7 (by omega)
      have dq : 48 ≤ h 1 (g 0 7) ∧ h 1 (g 0 7) ≤ 57 := of_decide_eq_true dp
      apply L_X14_token_213
      unfold B_X14_token_213
      rw [wi_isDigitR (by omega) (by rw [f.f6, ← en]; exact hn), f.f6, f.f1, ← en]
      rw [if_pos (show (g 0 7 < n ∧ isD (h 1 (g 0 7)) = true) from ⟨by omega, dp⟩), if_neg (by decide), g9]
      have gv : nuR (h 1) m (g 0 7 + 1) (if v ≤ 9999 then 10 * v + h 1 (g 0 7) - 48 else v) = nuR (h 1) (re isD (h 1) n s - s).toNat s 0 := gv
      have nx : ∀ w : Int, w = (if v ≤ 9999 then 10 * v + h 1 (g 0 7) - 48 else v) → ∀ h2 : Mh, h2 = up g 0 9 w → ∀ h3 : Mh, h3 = up h2 0 7 (w32 ((h2 0 7) + 1)) → Lfp (F_X14_token K) (213, [], h3) := by
        intro w ew h2 q2 h3 q3
        rw [← ew] at gv
        have a7 : h2 0 7 = g 0 7 := by rw [q2, up_slot (by decide)]
        rw [a7, w32_eq (by omega) (by omega)] at q3
        have b7 : h3 0 7 = g 0 7 + 1 := by rw [q3, up_self]
        have w0 : 0 ≤ w ∧ w ≤ 99999 := by
          rw [ew]
          split <;> omega
        clear ew
        refine ih w h3 d nS (by rw [q3, q2]; exact frK_up (frK_up f (by decide) (by decide)) (by decide) (by decide)) (by omega) (by omega) sn (by rw [q3, up_slot (by decide), q2, up_slot (by decide)]; exact g8) (by rw [q3, up_slot (by decide), q2, up_slot (by decide)]; exact g10) (by rw [q3, up_slot (by decide), q2, up_self]) (by rw [b7]; exact gv) w0.1 w0.2
      by_cases z : v ≤ 9999
      · rw [if_pos z]
        rw [w32_eq (x := 10 * v) (by omega) (by omega), w32_eq (x := 10 * v + h 1 (g 0 7)) (by omega) (by omega), w32_eq (x := 10 * v + h 1 (g 0 7) - 48) (by omega) (by omega)]
        exact ⟨⟨by omega, by omega⟩, nx _ (by rw [if_pos z])⟩
      · rw [if_neg z]
        exact nx v (by rw [if_neg z])
  -- letters
  have l90 : ∀ (m : Nat) (g : Mh), isS (h 1 s) = true → frK h g → s ≤ g 0 7 → g 0 7 + m = re isS (h 1) n s → s < n → g 0 10 = s → Lfp (F_X14_token K) (90, [], g) := by
    intro m
    induction m with
    | zero =>
      intro g d f g7 gm sn g10
      have re2 := re_r (P := isS) (B := h 1) (n := n) (p := s) (by omega)
      have e7 : g 0 7 = re isS (h 1) n s := by omega
      have tee : tE (h 1) n s = re isS (h 1) n s := by unfold tE; rw [d, if_pos rfl]
      have tre : tR (h 1) n s = (if 0 ≤ widx (h 1) s (re isS (h 1) n s) wds 0 then (1, widx (h 1) s (re isS (h 1) n s) wds 0) else if re isS (h 1) n s - s ≤ 6 then (2, pkR (h 1) (re isS (h 1) n s) 6 s 0) else (6, -1)) := by unfold tR; rw [d, if_pos rfl]
      apply L_X14_token_90
      unfold B_X14_token_90
      rw [wi_isSmall (by omega) (by rw [f.f6, ← en]; exact hn), f.f6, f.f1, ← en]
      rw [if_neg (show ¬ (g 0 7 < n ∧ isS (h 1 (g 0 7)) = true) from ?_), if_pos rfl]
      · refine sp_wordAt (fun j a b => by rw [f.f2]; exact hw j a b) (by omega) (by omega) (by omega) ?_
        rw [f.f1, g10, e7]
        intro h3 q3
        have c9 : h3 0 9 = widx (h 1) s (re isS (h 1) n s) wds 0 := by rw [q3, up_self]
        have c7 : h3 0 7 = re isS (h 1) n s := by rw [q3, up_slot (by decide)]; exact e7
        have c10 : h3 0 10 = s := by rw [q3, up_slot (by decide)]; exact g10
        have f3 : frK h h3 := by rw [q3]; exact frK_up f (by decide) (by decide)
        rw [c9, c7, c10, w32_eq (by omega) (by omega)]
        have l162 : ∀ kd : Int, kd = (tR (h 1) n s).1 → (¬ kd = 2 → widx (h 1) s (re isS (h 1) n s) wds 0 = (tR (h 1) n s).2) → (kd = 2 → pkR (h 1) (re isS (h 1) n s) 6 s 0 = (tR (h 1) n s).2) → Lfp (F_X14_token K) (162, [kd], h3) := by
          intro kd ek hv hv2
          apply L_X14_token_162
          unfold B_X14_token_162
          intro h4 q4
          have d8 : h4 0 8 = kd := by rw [q4, up_self]
          have d9 : h4 0 9 = widx (h 1) s (re isS (h 1) n s) wds 0 := by rw [q4, up_slot (by decide)]; exact c9
          have d7 : h4 0 7 = re isS (h 1) n s := by rw [q4, up_slot (by decide)]; exact c7
          have d10 : h4 0 10 = s := by rw [q4, up_slot (by decide)]; exact c10
          have f4 : frK h h4 := by rw [q4]; exact frK_up f3 (by decide) (by decide)
          rw [d8]
          by_cases k2 : kd = 2
          · rw [if_neg (fun y => y k2), d10, d7]
            refine sp_packed (by omega) (by omega) (fun j a b => by rw [f4.f1]; exact hB j a (by omega)) (by omega) ?_
            intro h5 q5
            rw [f4.f1] at q5
            have f5 : frK h h5 := by rw [q5]; exact frK_up f4 (by decide) (by decide)
            refine hk h5 f5 (by rw [q5, up_slot (by decide)]; exact d10) (fun y => by omega) (fun _ => ⟨by rw [q5, up_slot (by decide), d7, tee], by rw [q5, up_slot (by decide), d8]; exact ek, by rw [q5, up_self]; exact hv2 k2⟩)
          · rw [if_pos k2]
            refine hk h4 f4 d10 (fun y => by omega) (fun _ => ⟨by rw [d7, tee], by rw [d8]; exact ek, by rw [d9]; exact hv k2⟩)
        by_cases z : widx (h 1) s (re isS (h 1) n s) wds 0 < 0
        · rw [if_pos z]
          rw [if_neg (by omega)] at tre
          by_cases y : re isS (h 1) n s - s ≤ 6
          · rw [if_pos y]
            rw [if_pos y] at tre
            exact l162 2 (by rw [tre]) (fun x => absurd rfl x) (fun _ => by rw [tre])
          · rw [if_neg y]
            rw [if_neg y] at tre
            exact l162 6 (by rw [tre]) (fun _ => by rw [tre]; exact widx_neg z) (fun x => absurd x (by decide))
        · rw [if_neg z]
          rw [if_pos (by omega)] at tre
          exact l162 1 (by rw [tre]) (fun _ => by rw [tre]) (fun x => absurd x (by decide))
      · rintro ⟨a, b⟩
        rcases re_end (P := isS) (B := h 1) (n := n) (n - s).toNat s (by omega) with z | z
        · omega
        · rw [e7, z] at b; cases b
    | succ m ih =>
      intro g d f g7 gm sn g10
      have re2 := re_r (P := isS) (B := h 1) (n := n) (p := s) (by omega)
      have dp := re_in (P := isS) (B := h 1) (n := n) (n - s).toNat s (by omega) (g 0 7) g7 (by omega)
      apply L_X14_token_90
      unfold B_X14_token_90
      rw [wi_isSmall (by omega) (by rw [f.f6, ← en]; exact hn), f.f6, f.f1, ← en]
      rw [if_pos (show (g 0 7 < n ∧ isS (h 1 (g 0 7)) = true) from ⟨by omega, dp⟩), if_neg (by decide)]
      rw [w32_eq (by omega) (by omega)]
      intro h4 q4
      have b7 : h4 0 7 = g 0 7 + 1 := by rw [q4, up_self]
      exact ih h4 d (by rw [q4]; exact frK_up f (by decide) (by decide)) (by omega) (by omega) sn (by rw [q4, up_slot (by decide)]; exact g10)
  -- what isn't blank
  have l52 : ∀ g, frK h g → g 0 9 = h 0 9 → g 0 7 = s → Lfp (F_X14_token K) (52, [], g) := by
    intro g f g9 g7
    apply L_X14_token_52
    unfold B_X14_token_52
    intro h1 q1
    have c7 : h1 0 7 = s := by rw [q1, up_slot (by decide)]; exact g7
    have c10 : h1 0 10 = s := by rw [q1, up_self]; exact g7
    have f1 : frK h h1 := by rw [q1]; exact frK_up f (by decide) (by decide)
    have c6 : h1 0 6 = n := by rw [f1.f6]; exact en.symm
    rw [c6, c7]
    by_cases z : s = n
    · rw [if_neg (fun y => y z)]
      intro h2 q2
      refine hk h2 (by rw [q2]; exact frK_up f1 (by decide) (by decide)) (by rw [q2, up_slot (by decide)]; exact c10) (fun _ => ⟨by rw [q2, up_slot (by decide), c7]; exact z, by rw [q2, up_self], by rw [q2, up_slot (by decide), q1, up_slot (by decide)]; exact g9⟩) (fun y => by omega)
    · rw [if_pos z]
      have sn : s < n := by omega
      rw [wi_isSmall (by omega) (by omega), c6, f1.f1]
      cases eS : isS (h 1 s)
      · rw [if_neg (show ¬ (s < n ∧ false = true) from fun y => Bool.noConfusion y.2), if_pos rfl]
        rw [c7, wi_isDigitR (by omega) (by omega), c6, f1.f1]
        cases eD : isD (h 1 s)
        · rw [if_neg (show ¬ (s < n ∧ false = true) from fun y => Bool.noConfusion y.2), if_pos rfl]
          refine sp_signToken (by omega) (by omega) (by omega) (by rw [f1.f1, c7]; exact eS) (by rw [f1.f1, c7]; exact eD) ?_
          intro g2 f2 d10 d7 d8 d9
          rw [f1.f1, c7, c6] at d7 d8 d9
          refine hk g2 (fun o j a => by rw [f2 o j a, f1 o j a]) (by rw [d10]; exact c10) (fun y => absurd y z) (fun _ => ⟨d7, d8, d9⟩)
        · rw [if_pos (show s < n ∧ true = true from ⟨sn, rfl⟩), if_neg (by decide)]
          intro h5 q5 h6 q6
          have b7 : h6 0 7 = s := by rw [q6, up_slot (by decide), q5, up_slot (by decide)]; exact c7
          have rr := re_r (P := isD) (B := h 1) (n := n) (p := s) (by omega)
          exact l213 (re isD (h 1) n s - s).toNat 0 h6 eD eS (by rw [q6, q5]; exact frK_up (frK_up f1 (by decide) (by decide)) (by decide) (by decide)) (by omega) (by omega) sn (by rw [q6, up_slot (by decide), q5, up_self]) (by rw [q6, up_slot (by decide), q5, up_slot (by decide)]; exact c10) (by rw [q6, up_self]) (by rw [b7]) (by omega) (by omega)
      · rw [if_pos (show s < n ∧ true = true from ⟨sn, rfl⟩), if_neg (by decide)]
        have rr := re_r (P := isS) (B := h 1) (n := n) (p := s) (by omega)
        exact l90 (re isS (h 1) n s - s).toNat h1 eS f1 (by omega) (by omega) sn c10
  -- blanks
  have l0 : ∀ (m : Nat) (g : Mh), frK h g → g 0 9 = h 0 9 → 0 ≤ g 0 7 → g 0 7 + m = n → re isB (h 1) n (g 0 7) = s → B_X14_token_0 K (Lfp (F_X14_token K)) g := by
    intro m
    induction m with
    | zero =>
      intro g f g9 g0 gm gs
      unfold B_X14_token_0
      rw [f.f6, ← en, if_pos (by omega)]
      rw [re_stop (Or.inl (by omega))] at gs
      exact l52 g f g9 gs
    | succ m ih =>
      intro g f g9 g0 gm gs
      unfold B_X14_token_0
      rw [f.f6, ← en, if_neg (by omega), f.f1]
      refine ⟨⟨g0, by omega⟩, ?_⟩
      have nx : isB (h 1 (g 0 7)) = true → ∀ h1 : Mh, h1 = up g 0 7 (w32 ((g 0 7) + 1)) → Lfp (F_X14_token K) (0, [], h1) := by
        intro hb h1 q1
        rw [w32_eq (by omega) (by omega)] at q1
        have b7 : h1 0 7 = g 0 7 + 1 := by rw [q1, up_self]
        rw [re_step (by omega) hb] at gs
        exact L_X14_token_0 (ih h1 (by rw [q1]; exact frK_up f (by decide) (by decide)) (by rw [q1, up_slot (by decide)]; exact g9) (by omega) (by omega) (by rw [b7]; exact gs))
      by_cases z : h 1 (g 0 7) = 10
      · rw [if_pos z]; exact nx (decide_eq_true (Or.inl z))
      · rw [if_neg z]
        refine ⟨⟨g0, by omega⟩, ?_⟩
        by_cases y : h 1 (g 0 7) = 32
        · rw [if_neg (fun x => x y)]; exact nx (decide_eq_true (Or.inr y))
        · rw [if_pos y]
          rw [re_stop (Or.inr (decide_eq_false (fun x => x.elim z y)))] at gs
          exact l52 g f g9 gs
  exact l0 (n - h 0 7).toNat h (fun _ _ _ => rfl) rfl p0 (by omega) es.symm
