/-! ===== tokens, explicit ===== -/
theorem tE_r {B : Int → Int} {n s : Int} (hs : s < n) : s + 1 ≤ tE B n s ∧ tE B n s ≤ n := by
  unfold tE
  by_cases a : isS (B s) = true
  · rw [if_pos a, re_step hs a]
    have := re_r (P := isS) (B := B) (n := n) (p := s + 1) (by omega)
    omega
  · rw [if_neg a]
    by_cases b : isD (B s) = true
    · rw [if_pos b, re_step hs b]
      have := re_r (P := isD) (B := B) (n := n) (p := s + 1) (by omega)
      omega
    · rw [if_neg b]
      split
      · rename_i z
        rcases z with z | z
        · omega
        · omega
      · omega
/-- the reference's state behind a token -/
def tokR (h : Mh) : Mh := fun o j =>
  if o = 0 ∧ j = 10 then re isB (h 1) (h 0 6) (h 0 7)
  else if o = 0 ∧ j = 7 then (if re isB (h 1) (h 0 6) (h 0 7) < h 0 6 then tE (h 1) (h 0 6) (re isB (h 1) (h 0 6) (h 0 7)) else h 0 6)
  else if o = 0 ∧ j = 8 then (if re isB (h 1) (h 0 6) (h 0 7) < h 0 6 then (tR (h 1) (h 0 6) (re isB (h 1) (h 0 6) (h 0 7))).1 else 0)
  else if o = 0 ∧ j = 9 then (if re isB (h 1) (h 0 6) (h 0 7) < h 0 6 then (tR (h 1) (h 0 6) (re isB (h 1) (h 0 6) (h 0 7))).2 else h 0 9)
  else h o j
theorem xp_token {h : Mh} {K : Mh → Prop} (hw : ∀ j, 0 ≤ j → j < 108 → h 2 j = wrd j) (p0 : 0 ≤ h 0 7) (pn : h 0 7 ≤ h 0 6) (hn : h 0 6 ≤ 800) (hB : ∀ j, 0 ≤ j → j < h 0 6 → 0 ≤ h 1 j ∧ h 1 j ≤ 255) (hk : K (tokR h)) : wp_X14_token h K := by
  refine sp_token hw p0 pn hn hB ?_
  intro g f g10 g0 g1
  have sr := re_r (P := isB) (B := h 1) pn
  have e : g = tokR h := by
    funext o j
    unfold tokR
    by_cases a : o = 0 ∧ j = 10
    · rw [if_pos a, a.1, a.2]; exact g10
    rw [if_neg a]
    by_cases b : o = 0 ∧ j = 7
    · rw [if_pos b, b.1, b.2]
      by_cases z : re isB (h 1) (h 0 6) (h 0 7) < h 0 6
      · rw [if_pos z]; exact (g1 z).1
      · rw [if_neg z]; exact (g0 (by omega)).1
    rw [if_neg b]
    by_cases c : o = 0 ∧ j = 8
    · rw [if_pos c, c.1, c.2]
      by_cases z : re isB (h 1) (h 0 6) (h 0 7) < h 0 6
      · rw [if_pos z]; exact (g1 z).2.1
      · rw [if_neg z]; exact (g0 (by omega)).2.1
    rw [if_neg c]
    by_cases d : o = 0 ∧ j = 9
    · rw [if_pos d, d.1, d.2]
      by_cases z : re isB (h 1) (h 0 6) (h 0 7) < h 0 6
      · rw [if_pos z]; exact (g1 z).2.2
      · rw [if_neg z]; exact (g0 (by omega)).2.2
    rw [if_neg d]
    exact f o j (by omega)
  rw [e]; exact hk
