/-! ===== ways are those of the ground's cells alone ===== -/
theorem nx_congr {w hh : Int} {g k : Int → Int} (hs : szs w hh) (h : ∀ c, 0 ≤ c → c < w * hh → g c = k c) (c way : Int) : nx w hh g c way = nx w hh k c way := by
  unfold nx
  by_cases x0 : gx w c way < 0
  · rw [if_pos x0, if_pos x0]
  · rw [if_neg x0, if_neg x0]
    by_cases x1 : w ≤ gx w c way
    · rw [if_pos x1, if_pos x1]
    · rw [if_neg x1, if_neg x1]
      by_cases y0 : gy w c way < 0
      · rw [if_pos y0, if_pos y0]
      · rw [if_neg y0, if_neg y0]
        by_cases y1 : hh ≤ gy w c way
        · rw [if_pos y1, if_pos y1]
        · rw [if_neg y1, if_neg y1]
          have := wy_r hs (x := gx w c way) (y := gy w c way) (by omega) (by omega) (by omega) (by omega)
          rw [h _ (by omega) (by omega)]
theorem bst_gr {w hh : Int} {g k : Int → Int} {loss thick : Int} {D : Int → Int × Int} {n b : Int} (hs : szs w hh) (h : ∀ c, 0 ≤ c → c < w * hh → g c = k c) (b0 : 0 ≤ b) (b1 : b < w * hh) : ∀ (m : Nat) (way best : Int), bst w hh g loss thick D n b m way best = bst w hh k loss thick D n b m way best := by
  intro m
  induction m with
  | zero => intro _ _; rfl
  | succ m ih =>
    intro way best
    unfold bst
    rw [nx_congr hs h, h b b0 b1]
    exact ih _ _
theorem DD_gr {w hh : Int} {g k : Int → Int} {loss thick a : Int} (hs : szs w hh) (h : ∀ c, 0 ≤ c → c < w * hh → g c = k c) : ∀ (n : Nat) (b : Int), DD w hh g loss thick a n b = DD w hh k loss thick a n b := by
  intro n
  induction n with
  | zero => intro b; rfl
  | succ n ih =>
    intro b
    have e : DD w hh g loss thick a n = DD w hh k loss thick a n := funext ih
    unfold DD
    rw [e]
    by_cases hb : 0 ≤ b ∧ b < w * hh
    · rw [if_pos hb, if_pos hb]
      unfold stp
      rw [h b hb.1 hb.2, bst_gr hs h hb.1 hb.2]
    · rw [if_neg hb, if_neg hb]
theorem FC_FA {q r : Mh} (hd : RDim q r) (hg : RGr q r) : FC q = FA r := by
  have hs := hd.2.2.2.2.1.1
  have hm := szs_mul hs
  have h : ∀ c, 0 ≤ c → c < r 0 12 * r 0 13 → cg q c = r 5 c := fun c c0 c1 => (hg.1 c c0 (by omega)).symm
  funext a b
  unfold FC FA
  rw [hd.2.2.1, hd.2.2.2.1, hd.2.2.2.2.2.1, hd.2.2.2.2.2.2.1, DD_gr hs h]
  by_cases k : wat (r 0 12) (r 0 13) (r 5) a
  · rw [if_pos k, if_pos ⟨k.1, k.2.1, fun z => k.2.2 (by rw [← h a k.1 k.2.1]; exact z)⟩]
  · rw [if_neg k, if_neg (fun z => k ⟨z.1, z.2.1, fun y => z.2.2 (by rw [h a z.1 z.2.1]; exact y)⟩)]
theorem RDim.cp {q r : Mh} (hd : RDim q r) : cprm q := by
  obtain ⟨a, b, c, d, e, f, g, h⟩ := hd
  unfold cprm csz
  rw [c, d, f, g]
  exact ⟨⟨a, e.1⟩, e.2.1, e.2.2⟩
theorem wat_CR {q r : Mh} (hd : RDim q r) (hg : RGr q r) (c : Int) : wat (q (q 53 0) 0) (q (q 53 0) 1) (cg q) c ↔ watR r c := by
  have hm := szs_mul hd.2.2.2.2.1.1
  rw [hd.2.2.1, hd.2.2.2.1]
  constructor
  · rintro ⟨a, b, k⟩
    exact ⟨a, b, fun z => k (by rw [← hg.1 c a (by omega)]; exact z)⟩
  · rintro ⟨a, b, k⟩
    exact ⟨a, b, fun z => k (by rw [hg.1 c a (by omega)]; exact z)⟩
/-- the class asks for water as the reference does -/
theorem wi_wet {q r : Mh} (hd : RDim q r) (hg : RGr q r) (c : Int) (K : Int → Mh → Prop) : wp_X5_isWet (q 53 0) c q K = K (if watR r c then 1 else 0) q := by
  rw [wi_isWet hd.cp.1.2]
  by_cases h : watR r c
  · rw [if_pos h, if_pos ((wat_CR hd hg c).mpr h)]
  · rw [if_neg h, if_neg (fun z => h ((wat_CR hd hg c).mp z))]
theorem wi_cellC {q r : Mh} (hd : RDim q r) (c : Int) (K : Int → Mh → Prop) : wp_X5_isCell (q 53 0) c q K = K (if 0 ≤ c ∧ c < r 0 12 * r 0 13 then 1 else 0) q := by
  have hm := szs_mul hd.2.2.2.2.1.1
  unfold wp_X5_isCell
  rw [hd.2.2.1, hd.2.2.2.1, w32_eq (by omega) (by omega)]
  by_cases c0 : c < 0
  · rw [if_pos c0, if_neg (by omega)]
  · rw [if_neg c0]
    by_cases c1 : r 0 12 * r 0 13 ≤ c
    · rw [if_pos c1, if_neg (by omega)]
    · rw [if_neg c1, if_pos (by omega)]
theorem wi_has {q : Mh} {row c : Int} (K : Int → Mh → Prop) : wp_X7_has row c q K = K (if c < 0 then 0 else if q row 1 ≤ c then 0 else 1) q := by
  unfold wp_X7_has
  split
  · rfl
  · split <;> rfl
theorem wi_stepC {q : Mh} {t l : Int} (K : Int → Mh → Prop) : wp_X13_isStep t l q K = K (if t < 0 then 0 else if l < t then 0 else 1) q := by
  unfold wp_X13_isStep
  split
  · rfl
  · split <;> rfl
theorem wi_isKind (a : Int) (h : Mh) (K : Int → Mh → Prop) : wp_X14_isKind a h K = K (if a < 0 then 0 else if h 0 14 ≤ a then 0 else 1) h := by
  unfold wp_X14_isKind; split
  · rfl
  · split <;> rfl
theorem wi_isSkater (a : Int) (h : Mh) (K : Int → Mh → Prop) : wp_X14_isSkater a h K = K (if a < 0 then 0 else if h 0 16 ≤ a then 0 else 1) h := by
  unfold wp_X14_isSkater; split
  · rfl
  · split <;> rfl
