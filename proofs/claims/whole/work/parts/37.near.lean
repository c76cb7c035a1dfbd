/-! ===== the class's ground and its table of neighbours ===== -/
/-- 0 water, 1 reeds, 2 land, as the class has it -/
def cg (q : Mh) : Int → Int := fun c => if bit (q (q 53 0) 2) c = true then 2 else if bit (q 53 1) c = true then 1 else 0
theorem cg_2 {q : Mh} {c : Int} : cg q c = 2 ↔ bit (q (q 53 0) 2) c = true := by
  unfold cg
  split
  · simp_all
  · split <;> simp_all
theorem cg_1 {q : Mh} {c : Int} (h : ¬ cg q c = 2) : cg q c = 1 ↔ bit (q 53 1) c = true := by
  rw [cg_2] at h
  unfold cg
  rw [if_neg h]
  split <;> simp_all
/-- the class's sizes, at a pond -/
abbrev csz (q : Mh) : Prop := isP (q 53 0) ∧ szs (q (q 53 0) 0) (q (q 53 0) 1)
theorem isP_4 {p : Int} (h : isP p) : (shC p).1 = 4 := by rcases h with e | e <;> rw [e] <;> rfl
theorem wi_isWet {q : Mh} (hs : szs (q (q 53 0) 0) (q (q 53 0) 1)) (c : Int) (K : Int → Mh → Prop) : wp_X5_isWet (q 53 0) c q K = K (if wat (q (q 53 0) 0) (q (q 53 0) 1) (cg q) c then 1 else 0) q := by
  have hm := szs_mul hs
  unfold wp_X5_isWet
  rw [w32_eq (x := q (q 53 0) 0 * q (q 53 0) 1) (by omega) (by omega)]
  by_cases c0 : c < 0
  · rw [if_pos c0, if_neg (by omega)]
  · rw [if_neg c0]
    by_cases c1 : q (q 53 0) 0 * q (q 53 0) 1 ≤ c
    · rw [if_pos c1, if_neg (by omega)]
    · rw [if_neg c1]
      have hb := bit_test (x := q (q 53 0) 2) (k := c) (by omega) (by omega)
      by_cases c2 : bit (q (q 53 0) 2) c = true
      · rw [if_pos (fun z => by rw [hb, c2] at z; cases z), if_neg (fun z => z.2.2 (cg_2.mpr c2))]
      · rw [if_neg (fun z => z (hb.mpr (by simpa using c2))), if_pos ⟨by omega, by omega, fun z => c2 (cg_2.mp z)⟩]
theorem wi_hasReeds {q : Mh} {c : Int} (c0 : 0 ≤ c) (c1 : c < 64) (K : Int → Mh → Prop) : wp_X11_hasReeds c q K = K (if bit (q 53 1) c = true then 1 else 0) q := by
  unfold wp_X11_hasReeds
  have hb := bit_test (x := q 53 1) (k := c) c0 c1
  by_cases c2 : bit (q 53 1) c = true
  · rw [if_neg (fun z => by rw [hb, c2] at z; cases z), if_pos c2]
  · rw [if_pos (hb.mpr (by simpa using c2)), if_neg c2]
theorem sp_setNear {c v t f : Int} {q : Mh} {K : Mh → Prop} (hc : csz q) (c0 : 0 ≤ c) (c1 : c < 48) (v0 : 0 ≤ v) (v1 : v < 5) (hf : f = 0 ∨ f = 1) (hk : K (up q 116 (5 * c + v) (if f = 1 ∧ wat (q (q 53 0) 0) (q (q 53 0) 1) (cg q) t then t else -1))) : wp_X6_setNear c v t f q K := by
  unfold wp_X6_setNear
  intro x ex
  rw [w32_eq (x := c * 5) (by omega) (by omega), w32_eq (by omega) (by omega), show c * 5 + v = 5 * c + v by omega] at ex
  subst ex
  rw [if_neg (by omega), if_neg (by omega)]
  rcases hf with rfl | rfl
  · rw [if_pos rfl]
    refine ⟨⟨by omega, by omega⟩, ?_⟩
    intro q1 e1
    subst e1
    rw [if_neg (fun z => absurd z.1 (by decide))] at hk
    exact hk
  · rw [if_neg (by decide)]
    refine ⟨isP_4 hc.1, ?_⟩
    rw [wi_isWet hc.2]
    by_cases k : wat (q (q 53 0) 0) (q (q 53 0) 1) (cg q) t
    · rw [if_pos k, if_neg (by decide)]
      refine ⟨⟨by omega, by omega⟩, ?_⟩
      intro q1 e1
      subst e1
      rw [if_pos ⟨rfl, k⟩] at hk
      exact hk
    · rw [if_neg k, if_pos rfl]
      refine ⟨⟨by omega, by omega⟩, ?_⟩
      intro q1 e1
      subst e1
      rw [if_neg (fun z => k z.2)] at hk
      exact hk
/-- the table with the neighbours of the first m places -/
def nearK (q : Mh) (m : Int) : Mh := fun o j => if o = 116 ∧ 0 ≤ j ∧ j < m then nx (q (q 53 0) 0) (q (q 53 0) 1) (cg q) (j / 5) (j % 5) else q o j
theorem isP_116 {p : Int} (h : isP p) : p ≠ 116 := by rcases h with e | e <;> rw [e] <;> decide
theorem nearK_eq {q : Mh} (hp : isP (q 53 0)) (m : Int) : nearK q m 53 = q 53 ∧ nearK q m (q 53 0) = q (q 53 0) ∧ cg (nearK q m) = cg q := by
  have e1 : nearK q m 53 = q 53 := by funext j; unfold nearK; rw [if_neg (by omega)]
  have e2 : nearK q m (q 53 0) = q (q 53 0) := by
    funext j; unfold nearK
    rw [if_neg (fun z => isP_116 hp z.1)]
  refine ⟨e1, e2, ?_⟩
  unfold cg
  rw [e1, e2]
theorem nearK_up {q : Mh} {m : Int} (m0 : 0 ≤ m) {x : Int} (hx : x = nx (q (q 53 0) 0) (q (q 53 0) 1) (cg q) (m / 5) (m % 5)) : up (nearK q m) 116 m x = nearK q (m + 1) := by
  funext o j
  unfold up nearK
  by_cases k : o = 116 ∧ j = m
  · rw [if_pos k, if_pos (by omega), hx, k.2]
  · rw [if_neg k]
    by_cases c1 : o = 116 ∧ 0 ≤ j ∧ j < m
    · rw [if_pos c1, if_pos (by omega)]
    · rw [if_neg c1, if_neg (by omega)]
theorem sp_near1 {q : Mh} {K : Mh → Prop} {c v t f : Int} (hc : csz q) (c0 : 0 ≤ c) (c1 : c < 48) (v0 : 0 ≤ v) (v1 : v < 5) (hf : f = 0 ∨ f = 1) (hx : (if f = 1 ∧ wat (q (q 53 0) 0) (q (q 53 0) 1) (cg q) t then t else -1) = nx (q (q 53 0) 0) (q (q 53 0) 1) (cg q) c v) (hk : K (nearK q (5 * c + v + 1))) : wp_X6_setNear c v t f (nearK q (5 * c + v)) K := by
  obtain ⟨e1, e2, e3⟩ := nearK_eq hc.1 (5 * c + v)
  have e4 : nearK q (5 * c + v) 53 0 = q 53 0 := by rw [e1]
  refine sp_setNear ⟨by rw [e4]; exact hc.1, by rw [e4, e2]; exact hc.2⟩ c0 c1 v0 v1 hf ?_
  rw [e4, e2, e3, nearK_up (by omega) (by rw [hx, show (5 * c + v) / 5 = c by omega, show (5 * c + v) % 5 = v by omega])]
  exact hk
theorem nx_at {w hh : Int} {g : Int → Int} (hs : szs w hh) {x y : Int} (x0 : 0 ≤ x) (x1 : x < w) (y0 : 0 ≤ y) (y1 : y < hh) {v t dx dy : Int} (f : Int) (hdx : (if v = 2 then 1 else if v = 4 then -1 else 0) = dx) (hdy : (if v = 1 then -1 else if v = 3 then 1 else 0) = dy) (ht : t = w * (y + dy) + (x + dx)) (hf : f = 1 ↔ (0 ≤ x + dx ∧ x + dx < w ∧ 0 ≤ y + dy ∧ y + dy < hh)) : (if f = 1 ∧ wat w hh g t then t else -1) = nx w hh g (w * y + x) v := by
  have ex : gx w (w * y + x) v = x + dx := by unfold gx; rw [co_mod x0 x1, hdx]
  have ey : gy w (w * y + x) v = y + dy := by unfold gy; rw [co_div x0 x1, hdy]
  by_cases k : f = 1
  · obtain ⟨a1, a2, a3, a4⟩ := hf.mp k
    obtain ⟨b1, b2, b3⟩ := wy_r hs a1 a2 a3 a4
    by_cases c5 : g t = 2
    · rw [if_neg (fun z => z.2.2.2 c5)]
      unfold nx
      rw [ex, ey, if_neg (by omega), if_neg (by omega), if_neg (by omega), if_neg (by omega), if_pos (by rw [← ht]; exact c5)]
    · rw [if_pos ⟨k, by omega, by omega, c5⟩, nx_of (by rw [ex]; exact a1) (by rw [ex]; exact a2) (by rw [ey]; exact a3) (by rw [ey]; exact a4) (by rw [ex, ey, ← ht]; exact c5), ex, ey, ht]
  · rw [if_neg (fun z => k z.1)]
    have hn : ¬ (0 ≤ x + dx ∧ x + dx < w ∧ 0 ≤ y + dy ∧ y + dy < hh) := fun z => k (hf.mpr z)
    unfold nx
    rw [ex, ey]
    by_cases k1 : x + dx < 0
    · rw [if_pos k1]
    · rw [if_neg k1]
      by_cases k2 : w ≤ x + dx
      · rw [if_pos k2]
      · rw [if_neg k2]
        by_cases k3 : y + dy < 0
        · rw [if_pos k3]
        · rw [if_neg k3]
          by_cases k4 : hh ≤ y + dy
          · rw [if_pos k4]
          · exact absurd ⟨by omega, by omega, by omega, by omega⟩ hn
theorem sp_layNeighbours {q : Mh} {K : Mh → Prop} (hc : csz q) (hk : K (nearK q (5 * (q (q 53 0) 0 * q (q 53 0) 1)))) : wp_X6_layNeighbours q K := by
  have hs := hc.2
  have hm := szs_mul hs
  unfold wp_X6_layNeighbours
  refine ⟨isP_4 hc.1, ?_⟩
  intro w ew hh eh
  rw [← ew, ← eh] at hs hm hk
  have w0 := hs.1.1
  have w1 := hs.1.2
  have h0 := hs.2.1
  have h1 := hs.2.2
  -- one cell
  have cell : ∀ (x y : Int), 0 ≤ x → x < w → 0 ≤ y → y < hh → Lfp (F_X6_layNeighbours K) (32, [w, hh, y, x + 1], nearK q (5 * (w * y + x + 1))) → Lfp (F_X6_layNeighbours K) (32, [w, hh, y, x], nearK q (5 * (w * y + x))) := by
    intro x y x0 x1 y0 y1 hn
    obtain ⟨b1, b2, b3⟩ := wy_r hs x0 x1 y0 y1
    apply L_X6_layNeighbours_32
    unfold B_X6_layNeighbours_32
    rw [if_neg (by omega)]
    intro c ec
    rw [Int.mul_comm y w, w32_eq (x := w * y) (by omega) (by omega), w32_eq (by omega) (by omega)] at ec
    have my : w * (y + -1) = w * y - w := by rw [Int.mul_add]; omega
    have py : w * (y + 1) = w * y + w := by rw [Int.mul_add, Int.mul_one]
    have nxe : ∀ {v t dx dy : Int} (f : Int), (if v = 2 then 1 else if v = 4 then -1 else 0) = dx → (if v = 1 then -1 else if v = 3 then 1 else 0) = dy → t = w * (y + dy) + (x + dx) → (f = 1 ↔ (0 ≤ x + dx ∧ x + dx < w ∧ 0 ≤ y + dy ∧ y + dy < hh)) → (if f = 1 ∧ wat (q (q 53 0) 0) (q (q 53 0) 1) (cg q) t then t else -1) = nx (q (q 53 0) 0) (q (q 53 0) 1) (cg q) c v := by
      intro v t dx dy f a1 a2 a3 a4
      rw [← ew, ← eh, ec]
      exact nx_at hs x0 x1 y0 y1 f a1 a2 a3 a4
    have c0 : 0 ≤ c := by omega
    have c1 : c < 48 := by omega
    -- the last two
    have s120 : ∀ f, (f = 0 ∨ f = 1) → (f = 1 ↔ y + 1 < hh) → Lfp (F_X6_layNeighbours K) (120, [w, hh, y, x, c, c, 3, w32 (c + w), f], nearK q (5 * c + 3)) := by
      intro f hf hf2
      apply L_X6_layNeighbours_120
      unfold B_X6_layNeighbours_120
      rw [w32_eq (x := c + w) (by omega) (by omega), w32_eq (x := c - 1) (by omega) (by omega)]
      refine sp_near1 hc c0 c1 (by omega) (by omega) hf (nxe (dx := 0) (dy := 1) f (by simp) (by simp) (by rw [py]; omega) ⟨fun z => ⟨by omega, by omega, by omega, by have := hf2.mp z; omega⟩, fun z => hf2.mpr z.2.2.2⟩) ?_
      have endd : ∀ q4 : Mh, q4 = nearK q (5 * (w * y + x + 1)) → ∀ z, z = w32 (x + 1) → Lfp (F_X6_layNeighbours K) (32, [w, hh, y, z], q4) := by
        intro q4 e4 z ez
        rw [w32_eq (by omega) (by omega)] at ez
        subst ez; subst e4
        exact hn
      have e5 : 5 * c + 4 + 1 = 5 * (w * y + x + 1) := by rw [ec]; omega
      rw [show 5 * c + 3 + 1 = 5 * c + 4 by omega]
      by_cases k : x ≤ 0
      · rw [if_pos k]
        refine sp_near1 (t := c - 1) (v := 4) hc c0 c1 (by omega) (by omega) (Or.inl rfl) (nxe (dx := -1) (dy := 0) 0 (by simp) (by simp) (by rw [Int.add_zero]; omega) ⟨fun z => absurd z (by decide), fun z => absurd z.1 (by omega)⟩) ?_
        rw [e5]
        exact endd _ rfl
      · rw [if_neg k]
        refine sp_near1 (t := c - 1) (v := 4) hc c0 c1 (by omega) (by omega) (Or.inr rfl) (nxe (dx := -1) (dy := 0) 1 (by simp) (by simp) (by rw [Int.add_zero]; omega) ⟨fun _ => ⟨by omega, by omega, by omega, by omega⟩, fun _ => rfl⟩) ?_
        rw [e5]
        exact endd _ rfl
    have s97 : ∀ f, (f = 0 ∨ f = 1) → (f = 1 ↔ x + 1 < w) → Lfp (F_X6_layNeighbours K) (97, [w, hh, y, x, c, c, 2, w32 (c + 1), f], nearK q (5 * c + 2)) := by
      intro f hf hf2
      apply L_X6_layNeighbours_97
      unfold B_X6_layNeighbours_97
      rw [w32_eq (x := c + 1) (by omega) (by omega), w32_eq (x := y + 1) (by omega) (by omega)]
      refine sp_near1 hc c0 c1 (by omega) (by omega) hf (nxe (dx := 1) (dy := 0) f (by simp) (by simp) (by rw [Int.add_zero]; omega) ⟨fun z => ⟨by omega, by have := hf2.mp z; omega, by omega, by omega⟩, fun z => hf2.mpr z.2.1⟩) ?_
      rw [show 5 * c + 2 + 1 = 5 * c + 3 by omega]
      by_cases k : hh ≤ y + 1
      · rw [if_pos k]; exact s120 0 (Or.inl rfl) ⟨fun z => absurd z (by decide), fun z => by omega⟩
      · rw [if_neg k]; exact s120 1 (Or.inr rfl) ⟨fun _ => by omega, fun _ => rfl⟩
    have s73 : ∀ f, (f = 0 ∨ f = 1) → (f = 1 ↔ 0 < y) → Lfp (F_X6_layNeighbours K) (73, [w, hh, y, x, c, c, 1, w32 (c - w), f], nearK q (5 * c + 1)) := by
      intro f hf hf2
      apply L_X6_layNeighbours_73
      unfold B_X6_layNeighbours_73
      rw [w32_eq (x := c - w) (by omega) (by omega), w32_eq (x := x + 1) (by omega) (by omega)]
      refine sp_near1 hc c0 c1 (by omega) (by omega) hf (nxe (dx := 0) (dy := -1) f (by simp) (by simp) (by rw [my]; omega) ⟨fun z => ⟨by omega, by omega, by have := hf2.mp z; omega, by omega⟩, fun z => hf2.mpr (by omega)⟩) ?_
      rw [show 5 * c + 1 + 1 = 5 * c + 2 by omega]
      by_cases k : w ≤ x + 1
      · rw [if_pos k]; exact s97 0 (Or.inl rfl) ⟨fun z => absurd z (by decide), fun z => by omega⟩
      · rw [if_neg k]; exact s97 1 (Or.inr rfl) ⟨fun _ => by omega, fun _ => rfl⟩
    have st : nearK q (5 * (w * y + x)) = nearK q (5 * c + 0) := by rw [ec, Int.add_zero]
    rw [st]
    refine sp_near1 hc c0 c1 (by omega) (by omega) (Or.inr rfl) (nxe (dx := 0) (dy := 0) 1 (by simp) (by simp) (by rw [Int.add_zero, Int.add_zero, ec]) ⟨fun _ => ⟨by omega, by omega, by omega, by omega⟩, fun _ => rfl⟩) ?_
    rw [show 5 * c + 0 + 1 = 5 * c + 1 by omega]
    by_cases k : y ≤ 0
    · rw [if_pos k]; exact s73 0 (Or.inl rfl) ⟨fun z => absurd z (by decide), fun z => by omega⟩
    · rw [if_neg k]; exact s73 1 (Or.inr rfl) ⟨fun _ => by omega, fun _ => rfl⟩
  have rows : ∀ (m : Nat) (y : Int), 0 ≤ y → y + m = hh → Lfp (F_X6_layNeighbours K) (24, [w, hh, y], nearK q (5 * (w * y))) := by
    intro m
    induction m with
    | zero =>
      intro y y0 hy
      apply L_X6_layNeighbours_24
      unfold B_X6_layNeighbours_24
      rw [if_pos (by omega), show y = hh by omega]
      exact hk
    | succ m ih =>
      intro y y0 hy
      apply L_X6_layNeighbours_24
      unfold B_X6_layNeighbours_24
      rw [if_neg (by omega)]
      have cols : ∀ (k : Nat) (x : Int), 0 ≤ x → x + k = w → Lfp (F_X6_layNeighbours K) (32, [w, hh, y, x], nearK q (5 * (w * y + x))) := by
        intro k
        induction k with
        | zero =>
          intro x x0 hx
          apply L_X6_layNeighbours_32
          unfold B_X6_layNeighbours_32
          rw [if_pos (by omega)]
          intro z ez
          rw [w32_eq (by omega) (by omega)] at ez
          subst ez
          have := ih (y + 1) (by omega) (by omega)
          rw [show w * (y + 1) = w * y + x by rw [Int.mul_add, Int.mul_one]; omega] at this
          exact this
        | succ k ih2 =>
          intro x x0 hx
          refine cell x y x0 (by omega) y0 (by omega) ?_
          have := ih2 (x + 1) (by omega) (by omega)
          rw [show w * y + (x + 1) = w * y + x + 1 by omega] at this
          exact this
      have := cols w.toNat 0 (by omega) (by omega)
      rw [Int.add_zero] at this
      exact this
  have := rows hh.toNat 0 (by omega) (by omega)
  have e : nearK q (5 * (w * 0)) = q := by
    funext o j
    unfold nearK
    rw [if_neg (by omega)]
  rw [e] at this
  exact this
