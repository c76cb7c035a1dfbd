/-! ===== apart: who is told apart by which corks ===== -/
def lk (L : Lf) (i : Int) : Int × Int := L.getD i.toNat (0, 0)
/-- a cork that shows two falls otherwise -/
def dif (r : Mh) (L : Lf) (i j k : Int) : Bool := !(allT (fun t => decide (rgiv r (lk L i).1 (lk L i).2 (r 14 k) t = rgiv r (lk L j).1 (lk L j).2 (r 14 k) t)) 31 0)
def unl (r : Mh) (L : Lf) (i j : Int) : Int := fb (dif r L i j) (r 0 15).toNat 0 0
def tap (r : Mh) (L : Lf) (set i j : Int) : Bool := decide (¬ j_and (unl r L i j) set = 0)
def tall (r : Mh) (L : Lf) (set : Int) : Bool := allT (fun i => allT (tap r L set i) i.toNat 0) L.length 0
def sch (r : Mh) (L : Lf) : Nat → Int → Int
  | 0, _ => -2
  | n + 1, m => if fst1 (fun b => b01 (decide (pcb b = m) && tall r L b)) 1 (2 ^ (r 0 15).toNat) 0 < 0 then sch r L n (m + 1) else fst1 (fun b => b01 (decide (pcb b = m) && tall r L b)) 1 (2 ^ (r 0 15).toNat) 0
/-! the reference -/
theorem sp_unlike {q r u : Mh} {L : Lf} {i j : Int} {K : Int → Mh → Prop} (h : Core q r) (hr : sameR r u) (hs : shownOK r u L) (hl : L.length ≤ 24) (i0 : 0 ≤ i) (i1 : i < L.length) (j0 : 0 ≤ j) (j1 : j < L.length) (hK : K (unl r L i j) u) : wp_X14_unlike i j u K := by
  have hC := h.2.2.1.2.2.2.1
  have h6 := hC.2.1
  have h60 := hC.1.2.1
  have at_ : ∀ {a : Int}, 0 ≤ a → a < L.length → ∀ k t, 0 ≤ k → k < r 0 15 → 0 ≤ t → t < 31 → u 36 (186 * a + 31 * k + t) = rgiv r (lk L a).1 (lk L a).2 (r 14 k) t := by
    intro a a0 a1 k t k0 k1 t0 t1
    have := hs a.toNat (by omega) k t k0 k1 t0 t1
    rw [show ((a.toNat : Nat) : Int) = a by omega] at this
    exact this
  have inner : ∀ (n : Nat) (k t v v0 : Int) (any : Bool), 0 ≤ k → k < r 0 15 → 0 ≤ t → t + n = 31 → r32 v0 → (v = if any = true then j_or v0 (j_shl 1 k) else v0) → (∀ v', (v' = if (any || !(allT (fun t => decide (rgiv r (lk L i).1 (lk L i).2 (r 14 k) t = rgiv r (lk L j).1 (lk L j).2 (r 14 k) t)) n t)) = true then j_or v0 (j_shl 1 k) else v0) → Lfp (F_X14_unlike i j K) (5, [v', k + 1], u)) → Lfp (F_X14_unlike i j K) (17, [v, k, t], u) := by
    intro n
    induction n with
    | zero =>
      intro k t v v0 any k0 k1 t0 hn hv0 hv hz
      apply L_X14_unlike_17
      unfold B_X14_unlike_17
      rw [if_pos (by omega)]
      intro y ey
      rw [w32_eq (by omega) (by omega)] at ey
      subst ey
      refine hz v ?_
      simpa [allT] using hv
    | succ n ih =>
      intro k t v v0 any k0 k1 t0 hn hv0 hv hz
      apply L_X14_unlike_17
      unfold B_X14_unlike_17
      rw [if_neg (by omega), w32_eq (x := 6 * i) (by omega) (by omega), w32_eq (x := 6 * i + k) (by omega) (by omega), w32_eq (x := (6 * i + k) * 31) (by omega) (by omega), w32_eq (x := (6 * i + k) * 31 + t) (by omega) (by omega), w32_eq (x := 6 * j) (by omega) (by omega), w32_eq (x := 6 * j + k) (by omega) (by omega), w32_eq (x := (6 * j + k) * 31) (by omega) (by omega), w32_eq (x := (6 * j + k) * 31 + t) (by omega) (by omega)]
      refine ⟨⟨by omega, by omega⟩, ⟨by omega, by omega⟩, ?_⟩
      rw [show (6 * i + k) * 31 + t = 186 * i + 31 * k + t by omega, show (6 * j + k) * 31 + t = 186 * j + 31 * k + t by omega, at_ i0 i1 k t k0 k1 t0 (by omega), at_ j0 j1 k t k0 k1 t0 (by omega)]
      have rv : r32 v := by
        rw [hv]
        split
        · exact j_or_r _ _
        · exact hv0
      unfold allT at hz
      by_cases e : rgiv r (lk L i).1 (lk L i).2 (r 14 k) t = rgiv r (lk L j).1 (lk L j).2 (r 14 k) t
      · rw [if_pos e, j_or_zero rv]
        rw [decide_eq_true e] at hz
        intro x ex y ey
        rw [w32_eq (by omega) (by omega)] at ey
        subst ex; subst ey
        exact ih k (t + 1) _ v0 any k0 k1 (by omega) (by omega) hv0 hv (by simpa using hz)
      · rw [if_neg e]
        rw [decide_eq_false e] at hz
        intro x ex y ey
        rw [w32_eq (by omega) (by omega)] at ey
        subst ey
        refine ih k (t + 1) x v0 true k0 k1 (by omega) (by omega) hv0 ?_ (by simpa using hz)
        rw [ex, hv, if_pos rfl]
        split
        · exact j_or_idem _ _
        · rfl
  have outer : ∀ (n : Nat) (k v : Int), 0 ≤ k → k + n = r 0 15 → r32 v → fb (dif r L i j) n k v = unl r L i j → Lfp (F_X14_unlike i j K) (5, [v, k], u) := by
    intro n
    induction n with
    | zero =>
      intro k v k0 hn hv hz
      apply L_X14_unlike_5
      unfold B_X14_unlike_5
      rw [hr 0 15 (by decide) (by decide), if_pos (by omega)]
      have ev : v = unl r L i j := hz
      rw [ev]
      exact hK
    | succ n ih =>
      intro k v k0 hn hv hz
      apply L_X14_unlike_5
      unfold B_X14_unlike_5
      rw [hr 0 15 (by decide) (by decide), if_neg (by omega)]
      have hz2 : fb (dif r L i j) n (k + 1) (if dif r L i j k = true then j_or v (j_shl 1 k) else v) = unl r L i j := hz
      refine inner 31 k 0 v v false k0 (by omega) (by omega) (by omega) hv (by simp) ?_
      intro v' ev
      have ev2 : v' = if dif r L i j k = true then j_or v (j_shl 1 k) else v := by rw [ev]; rfl
      refine ih (k + 1) v' (by omega) (by omega) ?_ (by rw [ev2]; exact hz2)
      rw [ev2]
      split
      · exact j_or_r _ _
      · exact hv
  unfold wp_X14_unlike
  exact outer (r 0 15).toNat 0 0 (by omega) (by omega) (by decide) rfl
theorem sp_tellsAll {q r u : Mh} {L : Lf} {set : Int} {K : Int → Mh → Prop} (h : Core q r) (hr : sameR r u) (hs : shownOK r u L) (hl : L.length ≤ 24) (h94 : u 0 94 = L.length) (hK : K (b01 (tall r L set)) u) : wp_X14_tellsAll set u K := by
  have inner : ∀ (n : Nat) (i j : Int), 0 ≤ j → j + n = i → i < L.length → (allT (tap r L set i) n j = false → K 0 u) → (allT (tap r L set i) n j = true → Lfp (F_X14_tellsAll set K) (2, [i + 1], u)) → Lfp (F_X14_tellsAll set K) (12, [i, j], u) := by
    intro n
    induction n with
    | zero =>
      intro i j j0 hn i1 _ hz
      apply L_X14_tellsAll_12
      unfold B_X14_tellsAll_12
      rw [if_pos (by omega)]
      intro y ey
      rw [w32_eq (by omega) (by omega)] at ey
      subst ey
      exact hz rfl
    | succ n ih =>
      intro i j j0 hn i1 hf hz
      apply L_X14_tellsAll_12
      unfold B_X14_tellsAll_12
      rw [if_neg (by omega)]
      refine sp_unlike h hr hs hl (by omega) i1 j0 (by omega) ?_
      unfold allT at hf hz
      by_cases e : j_and (unl r L i j) set = 0
      · rw [if_neg (fun z => z e)]
        refine hf ?_
        have : tap r L set i j = false := decide_eq_false (fun z => z e)
        rw [this]; rfl
      · rw [if_pos e]
        have : tap r L set i j = true := decide_eq_true e
        rw [this, Bool.true_and] at hf hz
        intro y ey
        rw [w32_eq (by omega) (by omega)] at ey
        subst ey
        exact ih i (j + 1) (by omega) (by omega) i1 hf hz
  have outer : ∀ (n : Nat) (i : Int), 0 ≤ i → i + n = L.length → allT (fun i => allT (tap r L set i) i.toNat 0) n i = tall r L set ∨ allT (fun i => allT (tap r L set i) i.toNat 0) n i = tall r L set → Lfp (F_X14_tellsAll set K) (2, [i], u) := by
    intro n
    induction n with
    | zero =>
      intro i i0 hn hz
      apply L_X14_tellsAll_2
      unfold B_X14_tellsAll_2
      rw [h94, if_pos (by omega)]
      have e : tall r L set = true := by rcases hz with z | z <;> exact z.symm
      rw [e] at hK
      exact hK
    | succ n ih =>
      intro i i0 hn hz
      have hz' : allT (fun i => allT (tap r L set i) i.toNat 0) (n + 1) i = tall r L set := by rcases hz with z | z <;> exact z
      have hz2 : (allT (tap r L set i) i.toNat 0 && allT (fun i => allT (tap r L set i) i.toNat 0) n (i + 1)) = tall r L set := hz'
      apply L_X14_tellsAll_2
      unfold B_X14_tellsAll_2
      rw [h94, if_neg (by omega)]
      refine inner i.toNat i 0 (by omega) (by omega) (by omega) (fun hf => ?_) (fun ht => ?_)
      · rw [hf, Bool.false_and] at hz2
        rw [← hz2] at hK
        exact hK
      · rw [ht, Bool.true_and] at hz2
        exact ih (i + 1) (by omega) (by omega) (Or.inl hz2)
  unfold wp_X14_tellsAll
  exact outer L.length 0 (by omega) (by omega) (Or.inl rfl)
/-! the class -/
/-- the tellers behind m corks -/
def tellOK (r g : Mh) (L : Lf) (m : Nat) : Prop := ∀ i j : Int, 0 ≤ j → j < i → i < L.length → g 137 (24 * i + j) = fb (dif r L i j) m 0 0
theorem sp_showCompared {r g : Mh} {L : Lf} {c : Int} {K : Mh → Prop} (h : Core g r) (w : waysOK g) (hL : rowL (g 138 3) (g 139) (g 140) L) (ok : okL r L) (hl : L.length ≤ 24) (c0 : 0 ≤ c) (c1 : c < r 0 12 * r 0 13)
    (hk : ∀ g', (∀ o, o ≠ 136 → g' o = g o) → (∀ i t : Int, 0 ≤ i → i < L.length → 0 ≤ t → t < 31 → g' 136 (31 * i + t) = rgiv r (lk L i).1 (lk L i).2 c t) → K g') : wp_X2_showCompared c g K := by
  have loop : ∀ (n : Nat) (i : Int) (u : Mh), 0 ≤ i → i + n = L.length → (∀ o, o ≠ 136 → u o = g o) → (∀ a t, 0 ≤ a → a < i → 0 ≤ t → t < 31 → u 136 (31 * a + t) = rgiv r (lk L a).1 (lk L a).2 c t) → Lfp (F_X2_showCompared c K) (2, [i], u) := by
    intro n
    induction n with
    | zero =>
      intro i u i0 hn f hv
      apply L_X2_showCompared_2
      unfold B_X2_showCompared_2
      have e3 := hL.1
      rw [f 138 (by decide), if_pos (by omega)]
      exact hk u f (fun a t a0 a1 t0 t1 => hv a t a0 (by omega) t0 t1)
    | succ n ih =>
      intro i u i0 hn f hv
      apply L_X2_showCompared_2
      unfold B_X2_showCompared_2
      have e3 := hL.1
      rw [f 138 (by decide), f 139 (by decide), f 140 (by decide), if_neg (by omega)]
      refine ⟨⟨i0, by omega⟩, ⟨i0, by omega⟩, ?_⟩
      have hi := hL.2 i.toNat (by omega)
      rw [show ((i.toNat : Nat) : Int) = i by omega] at hi
      have hok := ok.at (i := i.toNat) (by omega)
      have fH : frH g u := fun o ho => f o (by omega)
      rw [hi.1, hi.2]
      refine sp_showRow (h.same fH.sc (sameR.refl r)) (fH.ways h.2.2.1.1.1 w) i0 (by omega) hok.1.1 hok.1.2 hok.2.1 hok.2.2 c0 c1 ?_
      intro u1 f1 v1 x1 y ey
      rw [w32_eq (by omega) (by omega)] at ey
      subst ey
      refine ih (i + 1) u1 (by omega) (by omega) (fun o ho => by rw [f1 o ho, f o ho]) (fun a t a0 a1 t0 t1 => ?_)
      by_cases z : a = i
      · rw [z]; exact v1 t t0 t1
      · rw [x1 _ (by omega)]; exact hv a t a0 (by omega) t0 t1
  unfold wp_X2_showCompared
  exact loop L.length 0 g (by omega) (by omega) (fun _ _ => rfl) (fun a t x y => by omega)
theorem sp_rowsDiffer {r g : Mh} {L : Lf} {k i j : Int} {K : Int → Mh → Prop} (hl : L.length ≤ 24) (hv : ∀ i t : Int, 0 ≤ i → i < L.length → 0 ≤ t → t < 31 → g 136 (31 * i + t) = rgiv r (lk L i).1 (lk L i).2 (r 14 k) t) (i0 : 0 ≤ i) (i1 : i < L.length) (j0 : 0 ≤ j) (j1 : j < L.length) (hK : K (b01 (dif r L i j k)) g) : wp_X2_rowsDiffer i j g K := by
  have loop : ∀ (n : Nat) (t : Int), 0 ≤ t → t + n = 31 → dif r L i j k = !(allT (fun t => decide (rgiv r (lk L i).1 (lk L i).2 (r 14 k) t = rgiv r (lk L j).1 (lk L j).2 (r 14 k) t)) n t) → Lfp (F_X2_rowsDiffer i j K) (2, [t], g) := by
    intro n
    induction n with
    | zero =>
      intro t t0 hn hd
      apply L_X2_rowsDiffer_2
      unfold B_X2_rowsDiffer_2
      rw [if_pos (by omega)]
      rw [hd] at hK
      exact hK
    | succ n ih =>
      intro t t0 hn hd
      apply L_X2_rowsDiffer_2
      unfold B_X2_rowsDiffer_2
      rw [if_neg (by omega), w32_eq (x := i * 31) (by omega) (by omega), w32_eq (x := i * 31 + t) (by omega) (by omega), w32_eq (x := j * 31) (by omega) (by omega), w32_eq (x := j * 31 + t) (by omega) (by omega)]
      refine ⟨⟨by omega, by omega⟩, ⟨by omega, by omega⟩, ?_⟩
      rw [show i * 31 + t = 31 * i + t by omega, show j * 31 + t = 31 * j + t by omega, hv i t i0 i1 t0 (by omega), hv j t j0 j1 t0 (by omega)]
      unfold allT at hd
      by_cases e : rgiv r (lk L i).1 (lk L i).2 (r 14 k) t = rgiv r (lk L j).1 (lk L j).2 (r 14 k) t
      · rw [if_pos e]
        rw [decide_eq_true e, Bool.true_and] at hd
        intro y ey
        rw [w32_eq (by omega) (by omega)] at ey
        subst ey
        exact ih (t + 1) (by omega) (by omega) hd
      · rw [if_neg e]
        rw [decide_eq_false e, Bool.false_and] at hd
        rw [hd] at hK
        exact hK
  unfold wp_X2_rowsDiffer
  exact loop 31 0 (by omega) (by omega) rfl
theorem sp_markTeller {r g : Mh} {L : Lf} {m : Nat} {K : Mh → Prop} (h134 : g 138 3 = L.length) (hl : L.length ≤ 24) (hv : ∀ i t : Int, 0 ≤ i → i < L.length → 0 ≤ t → t < 31 → g 136 (31 * i + t) = rgiv r (lk L i).1 (lk L i).2 (r 14 m) t) (ht : tellOK r g L m)
    (hk : ∀ g', (∀ o, o ≠ 137 → g' o = g o) → tellOK r g' L (m + 1) → K g') : wp_X2_markTeller (j_shl 1 m) g K := by
  -- behind rows ahead of i, and places ahead of j in row i
  let Inv : Int → Int → Mh → Prop := fun i j u => (∀ o, o ≠ 137 → u o = g o) ∧ ∀ a b : Int, 0 ≤ b → b < a → a < L.length → u 137 (24 * a + b) = fb (dif r L a b) (if a < i ∨ (a = i ∧ b < j) then m + 1 else m) 0 0
  have inner : ∀ (n : Nat) (i j : Int) (u : Mh), 0 ≤ j → j + n = i → i < L.length → Inv i j u → (∀ u', Inv (i + 1) 0 u' → Lfp (F_X2_markTeller (j_shl 1 m) K) (2, [i + 1], u')) → Lfp (F_X2_markTeller (j_shl 1 m) K) (15, [i, j], u) := by
    intro n
    induction n with
    | zero =>
      intro i j u j0 hn i1 hI hz
      apply L_X2_markTeller_15
      unfold B_X2_markTeller_15
      rw [if_pos (by omega)]
      intro y ey
      rw [w32_eq (by omega) (by omega)] at ey
      subst ey
      refine hz u ⟨hI.1, fun a b b0 b1 a1 => ?_⟩
      rw [hI.2 a b b0 b1 a1]
      congr 1
      by_cases z : a < i ∨ (a = i ∧ b < j)
      · rw [if_pos z, if_pos (by omega)]
      · rw [if_neg z, if_neg (by omega)]
    | succ n ih =>
      intro i j u j0 hn i1 hI hz
      apply L_X2_markTeller_15
      unfold B_X2_markTeller_15
      rw [if_neg (by omega)]
      refine sp_rowsDiffer (r := r) (L := L) (k := m) hl (fun a t a0 a1 t0 t1 => by rw [hI.1 136 (by decide)]; exact hv a t a0 a1 t0 t1) (by omega) i1 j0 (by omega) ?_
      have cur := hI.2 i j j0 (by omega) i1
      rw [if_neg (by omega)] at cur
      have sn := fb_snoc (dif r L i j) m 0 0
      rw [show (0 : Int) + (m : Int) = m by omega] at sn
      by_cases d : dif r L i j m = true
      · rw [d, show b01 true = 1 from rfl, if_neg (by decide), w32_eq (x := i * 24) (by omega) (by omega), w32_eq (x := i * 24 + j) (by omega) (by omega)]
        refine ⟨⟨by omega, by omega⟩, ⟨by omega, by omega⟩, ?_⟩
        rw [show i * 24 + j = 24 * i + j by omega, cur]
        rw [if_pos d] at sn
        intro u1 e1 y ey
        rw [w32_eq (by omega) (by omega)] at ey
        subst ey
        rw [← sn] at e1
        refine ih i (j + 1) u1 (by omega) (by omega) i1 ⟨fun o ho => by rw [e1, up_other ho, hI.1 o ho], fun a b b0 b1 a1 => ?_⟩ hz
        rw [e1]
        by_cases z : a = i ∧ b = j
        · rw [z.1, z.2, up_self, if_pos (by omega)]
        · rw [up_slot (by omega), hI.2 a b b0 b1 a1]
          congr 1
          by_cases y : a < i ∨ (a = i ∧ b < j)
          · rw [if_pos y, if_pos (by omega)]
          · rw [if_neg y, if_neg (by omega)]
      · have df : dif r L i j m = false := by simpa using d
        rw [df, show b01 false = 0 from rfl, if_pos rfl]
        rw [if_neg d] at sn
        intro y ey
        rw [w32_eq (by omega) (by omega)] at ey
        subst ey
        refine ih i (j + 1) u (by omega) (by omega) i1 ⟨hI.1, fun a b b0 b1 a1 => ?_⟩ hz
        by_cases z : a = i ∧ b = j
        · rw [z.1, z.2, cur, if_pos (by omega), sn]
        · rw [hI.2 a b b0 b1 a1]
          congr 1
          by_cases y : a < i ∨ (a = i ∧ b < j)
          · rw [if_pos y, if_pos (by omega)]
          · rw [if_neg y, if_neg (by omega)]
  have outer : ∀ (n : Nat) (i : Int) (u : Mh), 0 ≤ i → i + n = L.length → Inv i 0 u → Lfp (F_X2_markTeller (j_shl 1 m) K) (2, [i], u) := by
    intro n
    induction n with
    | zero =>
      intro i u i0 hn hI
      apply L_X2_markTeller_2
      unfold B_X2_markTeller_2
      rw [hI.1 138 (by decide), h134, if_pos (by omega)]
      refine hk u hI.1 (fun a b b0 b1 a1 => ?_)
      rw [hI.2 a b b0 b1 a1, if_pos (by omega)]
    | succ n ih =>
      intro i u i0 hn hI
      apply L_X2_markTeller_2
      unfold B_X2_markTeller_2
      rw [hI.1 138 (by decide), h134, if_neg (by omega)]
      exact inner i.toNat i 0 u (by omega) (by omega) (by omega) hI (fun u' hu' => ih (i + 1) u' (by omega) (by omega) hu')
  unfold wp_X2_markTeller
  refine outer L.length 0 g (by omega) (by omega) ⟨fun _ _ => rfl, fun a b b0 b1 a1 => ?_⟩
  rw [if_neg (by omega)]
  exact ht a b b0 b1 a1
theorem sp_tellsApart {r g : Mh} {L : Lf} {set : Int} {K : Int → Mh → Prop} (h134 : g 138 3 = L.length) (hl : L.length ≤ 24) (ht : tellOK r g L (r 0 15).toNat) (hK : K (b01 (tall r L set)) g) : wp_X2_tellsApart set g K := by
  have inner : ∀ (n : Nat) (i j : Int), 0 ≤ j → j + n = i → i < L.length → (allT (tap r L set i) n j = false → K 0 g) → (allT (tap r L set i) n j = true → Lfp (F_X2_tellsApart set K) (2, [i + 1], g)) → Lfp (F_X2_tellsApart set K) (15, [i, j], g) := by
    intro n
    induction n with
    | zero =>
      intro i j j0 hn i1 _ hz
      apply L_X2_tellsApart_15
      unfold B_X2_tellsApart_15
      rw [if_pos (by omega)]
      intro y ey
      rw [w32_eq (by omega) (by omega)] at ey
      subst ey
      exact hz rfl
    | succ n ih =>
      intro i j j0 hn i1 hf hz
      apply L_X2_tellsApart_15
      unfold B_X2_tellsApart_15
      rw [if_neg (by omega), w32_eq (x := i * 24) (by omega) (by omega), w32_eq (x := i * 24 + j) (by omega) (by omega), show i * 24 + j = 24 * i + j by omega, ht i j j0 (by omega) i1]
      refine ⟨⟨by omega, by omega⟩, ?_⟩
      unfold allT at hf hz
      show if ¬ j_and (unl r L i j) set = 0 then _ else _
      by_cases e : j_and (unl r L i j) set = 0
      · rw [if_neg (fun z => z e)]
        refine hf ?_
        have : tap r L set i j = false := decide_eq_false (fun z => z e)
        rw [this]; rfl
      · rw [if_pos e]
        have : tap r L set i j = true := decide_eq_true e
        rw [this, Bool.true_and] at hf hz
        intro y ey
        rw [w32_eq (by omega) (by omega)] at ey
        subst ey
        exact ih i (j + 1) (by omega) (by omega) i1 hf hz
  have outer : ∀ (n : Nat) (i : Int), 0 ≤ i → i + n = L.length → allT (fun i => allT (tap r L set i) i.toNat 0) n i = tall r L set → Lfp (F_X2_tellsApart set K) (2, [i], g) := by
    intro n
    induction n with
    | zero =>
      intro i i0 hn hz
      apply L_X2_tellsApart_2
      unfold B_X2_tellsApart_2
      rw [h134, if_pos (by omega)]
      have e : tall r L set = true := hz.symm
      rw [e] at hK
      exact hK
    | succ n ih =>
      intro i i0 hn hz
      have hz2 : (allT (tap r L set i) i.toNat 0 && allT (fun i => allT (tap r L set i) i.toNat 0) n (i + 1)) = tall r L set := hz
      apply L_X2_tellsApart_2
      unfold B_X2_tellsApart_2
      rw [h134, if_neg (by omega)]
      refine inner i.toNat i 0 (by omega) (by omega) (by omega) (fun hf => ?_) (fun ht => ?_)
      · rw [hf, Bool.false_and] at hz2
        rw [← hz2] at hK
        exact hK
      · rw [ht, Bool.true_and] at hz2
        exact ih (i + 1) (by omega) (by omega) hz2
  unfold wp_X2_tellsApart
  exact outer L.length 0 (by omega) (by omega) rfl
theorem op_apart {q r : Mh} (p n x : Int) (hp : r32 p) (h : Rel q r) : wp_X13_apart p n x q (fun v q' => wp_X14_apart p n x r (fun y r' => v = y ∧ Rel q' r')) := by
  have hP := h.1.2.2.1
  have hd := hP.1
  have hs := hd.2.2.2.2.1.1
  have hm := szs_mul hs
  have hKn := hP.2.2.1
  have h4 := hKn.2.1
  have h40 := hKn.1.2.1
  have hC := hP.2.2.2.1
  have h6 := hC.2.1
  have h60 := hC.1.2.1
  have e0 : ∀ j, j ≠ 2 → up r 0 2 0 0 j = r 0 j := fun j hj => up_slot hj
  have shl : j_shl 1 (r 0 14) = ((2 ^ (r 0 14).toNat : Nat) : Int) := by
    have := j_shl1 (r 0 14).toNat (by omega)
    rw [show (((r 0 14).toNat : Nat) : Int) = r 0 14 by omega] at this
    exact this
  have shr : j_shr p (r 0 14) = p / ((2 ^ (r 0 14).toNat : Nat) : Int) := by
    have := j_shr_pos hp (r 0 14).toNat (by omega)
    rw [show (((r 0 14).toNat : Nat) : Int) = r 0 14 by omega] at this
    exact this
  have pw : 0 < ((2 ^ (r 0 14).toNat : Nat) : Int) := by have := Nat.two_pow_pos (r 0 14).toNat; omega
  have lt_iff : 1 ≤ p → (p < ((2 ^ (r 0 14).toNat : Nat) : Int) ↔ p / ((2 ^ (r 0 14).toNat : Nat) : Int) = 0) := by
    intro p1
    constructor
    · intro hh
      exact Int.ediv_eq_zero_of_lt (by omega) hh
    · intro hh
      have e := Int.emod_lt_of_pos p pw
      have e2 := Int.mul_ediv_add_emod p ((2 ^ (r 0 14).toNat : Nat) : Int)
      rw [hh, Int.mul_zero] at e2
      omega
  have two : ((2 ^ (r 0 15).toNat : Nat) : Int) ≤ 64 ∧ j_shl 1 (r 0 15) = ((2 ^ (r 0 15).toNat : Nat) : Int) := by
    have a1 : (2 ^ (r 0 15).toNat : Nat) ≤ 64 := Nat.le_trans (Nat.pow_le_pow_right (by decide) (show (r 0 15).toNat ≤ 6 by omega)) (by decide)
    have := j_shl1 (r 0 15).toNat (by omega)
    rw [show (((r 0 15).toNat : Nat) : Int) = r 0 15 by omega] at this
    exact ⟨by omega, this⟩
  unfold wp_X13_apart
  refine sp_freshenWays hd.cp h.2.1 ?_
  intro g f z w
  have hR := h.fw f w (sameR.refl r)
  have hR0 := hR.thrown (sameR.thrown r)
  -- the reference refuses
  have no : ∀ g', Rel g' r → ¬ (1 ≤ p ∧ p < ((2 ^ (r 0 14).toNat : Nat) : Int) ∧ 1 ≤ n ∧ n ≤ 6) → wp_X14_apart p n x r (fun y r' => -1 = y ∧ Rel g' r') := by
    intro g' hg' hn
    have hg0 := hg'.thrown (sameR.thrown r)
    unfold wp_X14_apart
    intro r1 e1
    subst e1
    unfold wp_X14_layFalls
    by_cases p1 : p < 1
    · rw [if_pos p1]
      dsimp only
      rw [if_neg (fun z => z rfl)]
      exact ⟨rfl, hg0⟩
    · rw [if_neg p1, e0 14 (by decide), shr]
      by_cases p2 : p / ((2 ^ (r 0 14).toNat : Nat) : Int) = 0
      · rw [if_neg (fun z => z p2), wi_isIn]
        have p3 := (lt_iff (by omega)).mpr p2
        have : (if n < 1 then (0 : Int) else if 6 < n then 0 else 1) = 0 := by
          by_cases k : n < 1
          · rw [if_pos k]
          · rw [if_neg k, if_pos (by omega)]
        rw [this, if_neg (fun z => z rfl)]
        dsimp only
        rw [if_neg (fun z => z rfl)]
        exact ⟨rfl, hg0⟩
      · rw [if_pos p2]
        dsimp only
        rw [if_neg (fun z => z rfl)]
        exact ⟨rfl, hg0⟩
  have hdg := hR.1.2.2.1.1
  have hKg := hR.1.2.2.1.2.2.1
  unfold wp_X2_fewestCorks
  by_cases p1 : p ≤ 0
  · rw [if_pos p1]; exact no g hR (by omega)
  rw [if_neg p1]
  refine ⟨isP_4 hdg.1, ?_⟩
  rw [hKg.1.1, shl]
  by_cases p2 : ((2 ^ (r 0 14).toNat : Nat) : Int) ≤ p
  · rw [if_pos p2]; exact no g hR (by omega)
  rw [if_neg p2]
  by_cases n1 : n < 1
  · rw [if_pos n1]; exact no g hR (by omega)
  rw [if_neg n1]
  by_cases n2 : n ≤ 6
  · rw [if_pos n2]
    have pm : p < ((2 ^ (r 0 14).toNat : Nat) : Int) := by omega
    have pz : p / ((2 ^ (r 0 14).toNat : Nat) : Int) = 0 := (lt_iff (by omega)).mp pm
    -- the reference goes as far as the falls
    have refA : ∀ {K : Int → Mh → Prop}, (∀ u', sameR r u' → (match gA r p x n.toNat 0 [] with | none => K (-1) u' | some L => rowL (u' 0 94) (u' 37) (u' 38) L → shownOK r u' L → Lfp (F_X14_apart p n x K) (20, [0], u'))) → wp_X14_apart p n x r K := by
      intro K hK
      unfold wp_X14_apart
      intro r1 e1
      subst e1
      unfold wp_X14_layFalls
      rw [if_neg (by omega), e0 14 (by decide), shr, if_neg (fun z => z pz), wi_isIn, if_neg (show ¬ n < 1 from n1), if_neg (show ¬ 6 < n by omega), if_pos (by decide)]
      intro u2 e2
      subst e2
      refine sp_layFalls h.1 (sameR.thrown r) (by omega) pm (by omega) n2 ?_
      intro u' hu'
      have := hK u' hu'
      cases hA : gA r p x n.toNat 0 [] with
      | none =>
        rw [hA] at this
        show if ¬ (0 : Int) = 0 then _ else _
        rw [if_neg (fun z => z rfl)]
        exact this
      | some L =>
        rw [hA] at this
        intro a b
        show if ¬ (1 : Int) = 0 then _ else _
        rw [if_pos (by decide)]
        exact this a b
    refine sp_gather hR.1 (by omega) pm (by omega) n2 ?_
    intro g1 f1
    cases hA : gA r p x n.toNat 0 [] with
    | none =>
      show if ¬ (0 : Int) = 0 then _ else _
      rw [if_neg (fun z => z rfl)]
      refine refA (fun u' hu' => ?_)
      rw [hA]
      exact ⟨rfl, f1.rel hR hu'⟩
    | some L =>
      intro hL
      show if ¬ (1 : Int) = 0 then _ else _
      rw [if_pos (by decide)]
      have ok := gA_ok hs (by omega) h40 h4 pm n.toNat 0 [] L (fun y hy => absurd hy (by simp)) (by simp) hA
      have hl : L.length ≤ 24 := by have := ok.2; omega
      have hc1 : Core g1 r := hR.1.same f1.sc (sameR.refl r)
      have hC1 := hc1.2.2.1.2.2.2.1
      refine ⟨isP_4 hc1.2.2.1.1.1, ?_⟩
      intro y ey
      rw [hC1.1.1] at ey
      subst ey
      -- the reference's search
      have refB : ∀ g', Rel g' r → wp_X14_apart p n x r (fun y r' => sch r L (r 0 15 + 1).toNat 0 = y ∧ Rel g' r') := by
        intro g' hg'
        refine refA (fun u' hu' => ?_)
        rw [hA]
        intro rl so
        have h94 := rl.1
        have bits : ∀ (k : Nat) (b m : Int), 0 ≤ b → b + k = ((2 ^ (r 0 15).toNat : Nat) : Int) → 0 ≤ m → m ≤ r 0 15 → (∀ v, v = fst1 (fun b => b01 (decide (pcb b = m) && tall r L b)) 1 k b → if v < 0 then Lfp (F_X14_apart p n x (fun y r' => sch r L (r 0 15 + 1).toNat 0 = y ∧ Rel g' r')) (20, [m + 1], u') else (sch r L (r 0 15 + 1).toNat 0 = v)) → Lfp (F_X14_apart p n x (fun y r' => sch r L (r 0 15 + 1).toNat 0 = y ∧ Rel g' r')) (32, [m, b], u') := by
          intro k
          induction k with
          | zero =>
            intro b m b0 hb m0 m1 hz
            apply L_X14_apart_32
            unfold B_X14_apart_32
            rw [hu' 0 15 (by decide) (by decide), two.2, if_pos (by omega)]
            have := hz (-1) rfl
            rw [if_pos (by decide)] at this
            intro y ey
            rw [w32_eq (by omega) (by omega)] at ey
            subst ey
            exact this
          | succ k ih =>
            intro b m b0 hb m0 m1 hz
            apply L_X14_apart_32
            unfold B_X14_apart_32
            rw [hu' 0 15 (by decide) (by decide), two.2, if_neg (by omega)]
            refine sp_manyOf b0 (by have := two.1; omega) ?_
            have skip : (decide (pcb b = m) && tall r L b) = false → ∀ y : Int, y = w32 (b + 1) → Lfp (F_X14_apart p n x (fun y r' => sch r L (r 0 15 + 1).toNat 0 = y ∧ Rel g' r')) (32, [m, y], u') := by
              intro hf y ey
              have := two.1
              rw [w32_eq (by omega) (by omega)] at ey
              subst ey
              refine ih (b + 1) m (by omega) (by omega) m0 m1 (fun v ev => hz v ?_)
              rw [ev]
              show _ = if b01 (decide (pcb b = m) && tall r L b) = 1 then _ else _
              rw [hf, if_neg (by decide)]
            by_cases y1 : pcb b = m
            · rw [if_neg (fun z => z y1)]
              refine sp_tellsAll h.1 hu' so hl h94 ?_
              by_cases y2 : tall r L b = true
              · rw [y2, show b01 true = 1 from rfl, if_neg (by decide)]
                have := hz b (by show b = if b01 (decide (pcb b = m) && tall r L b) = 1 then _ else _; rw [y2, decide_eq_true y1, if_pos (by decide)])
                rw [if_neg (by omega)] at this
                exact ⟨this, hg'.thrown hu'⟩
              · have y3 : tall r L b = false := by simpa using y2
                rw [y3, show b01 false = 0 from rfl, if_pos rfl]
                exact skip (by rw [y3]; simp)
            · rw [if_pos y1]
              exact skip (by rw [decide_eq_false y1]; rfl)
        have sizes : ∀ (k : Nat) (m : Int), 0 ≤ m → m + k = r 0 15 + 1 → sch r L k m = sch r L (r 0 15 + 1).toNat 0 → Lfp (F_X14_apart p n x (fun y r' => sch r L (r 0 15 + 1).toNat 0 = y ∧ Rel g' r')) (20, [m], u') := by
          intro k
          induction k with
          | zero =>
            intro m m0 hm' hz
            apply L_X14_apart_20
            unfold B_X14_apart_20
            rw [hu' 0 15 (by decide) (by decide), if_pos (by omega)]
            exact ⟨hz.symm, hg'.thrown hu'⟩
          | succ k ih =>
            intro m m0 hm' hz
            apply L_X14_apart_20
            unfold B_X14_apart_20
            rw [hu' 0 15 (by decide) (by decide), if_neg (by omega)]
            have hz2 : (if fst1 (fun b => b01 (decide (pcb b = m) && tall r L b)) 1 (2 ^ (r 0 15).toNat) 0 < 0 then sch r L k (m + 1) else fst1 (fun b => b01 (decide (pcb b = m) && tall r L b)) 1 (2 ^ (r 0 15).toNat) 0) = sch r L (r 0 15 + 1).toNat 0 := hz
            refine bits (2 ^ (r 0 15).toNat) 0 m (by omega) (by omega) m0 (by omega) (fun v ev => ?_)
            rw [← ev] at hz2
            by_cases y : v < 0
            · rw [if_pos y] at hz2 ⊢
              exact ih (m + 1) (by omega) (by omega) hz2
            · rw [if_neg y] at hz2 ⊢
              exact hz2.symm
        exact sizes (r 0 15 + 1).toNat 0 (by omega) (by omega) rfl
      -- the class
      let CK : Int → Mh → Prop := fun x1 h2 => (fun v q' => wp_X14_apart p n x r (fun y r' => v = y ∧ Rel q' r')) x1 h2
      have search : ∀ u, frH g u → u 138 3 = L.length → tellOK r u L (r 0 15).toNat → Lfp (F_X2_fewestCorks p n x CK) (136, [r 0 15, 0], u) := by
        intro u hu h134 tk
        have bits : ∀ (k : Nat) (b m : Int), 0 ≤ b → b + k = ((2 ^ (r 0 15).toNat : Nat) : Int) → 0 ≤ m → m ≤ r 0 15 → (∀ v, v = fst1 (fun b => b01 (decide (pcb b = m) && tall r L b)) 1 k b → if v < 0 then Lfp (F_X2_fewestCorks p n x CK) (136, [r 0 15, m + 1], u) else (sch r L (r 0 15 + 1).toNat 0 = v)) → Lfp (F_X2_fewestCorks p n x CK) (146, [r 0 15, m, b], u) := by
          intro k
          induction k with
          | zero =>
            intro b m b0 hb m0 m1 hz
            apply L_X2_fewestCorks_146
            unfold B_X2_fewestCorks_146
            rw [two.2, if_pos (by omega)]
            have := hz (-1) rfl
            rw [if_pos (by decide)] at this
            intro y ey
            rw [w32_eq (by omega) (by omega)] at ey
            subst ey
            exact this
          | succ k ih =>
            intro b m b0 hb m0 m1 hz
            apply L_X2_fewestCorks_146
            unfold B_X2_fewestCorks_146
            rw [two.2, if_neg (by omega)]
            refine sp_bitCount32 b0 (by have := two.1; omega) ?_
            have skip : (decide (pcb b = m) && tall r L b) = false → ∀ y : Int, y = w32 (b + 1) → Lfp (F_X2_fewestCorks p n x CK) (146, [r 0 15, m, y], u) := by
              intro hf y ey
              have := two.1
              rw [w32_eq (by omega) (by omega)] at ey
              subst ey
              refine ih (b + 1) m (by omega) (by omega) m0 m1 (fun v ev => hz v ?_)
              rw [ev]
              show _ = if b01 (decide (pcb b = m) && tall r L b) = 1 then _ else _
              rw [hf, if_neg (by decide)]
            by_cases y1 : pcb b = m
            · rw [if_neg (fun z => z y1)]
              refine sp_tellsApart h134 hl tk ?_
              by_cases y2 : tall r L b = true
              · rw [y2, show b01 true = 1 from rfl, if_neg (by decide)]
                have := hz b (by show b = if b01 (decide (pcb b = m) && tall r L b) = 1 then _ else _; rw [y2, decide_eq_true y1, if_pos (by decide)])
                rw [if_neg (by omega)] at this
                show wp_X14_apart p n x r (fun y r' => b = y ∧ Rel u r')
                rw [← this]
                exact refB u (hu.rel hR (sameR.refl r))
              · have y3 : tall r L b = false := by simpa using y2
                rw [y3, show b01 false = 0 from rfl, if_pos rfl]
                exact skip (by rw [y3]; simp)
            · rw [if_pos y1]
              exact skip (by rw [decide_eq_false y1]; rfl)
        have sizes : ∀ (k : Nat) (m : Int), 0 ≤ m → m + k = r 0 15 + 1 → sch r L k m = sch r L (r 0 15 + 1).toNat 0 → Lfp (F_X2_fewestCorks p n x CK) (136, [r 0 15, m], u) := by
          intro k
          induction k with
          | zero =>
            intro m m0 hm' hz
            apply L_X2_fewestCorks_136
            unfold B_X2_fewestCorks_136
            rw [if_pos (by omega)]
            have e : (-2 : Int) = sch r L (r 0 15 + 1).toNat 0 := hz
            show wp_X14_apart p n x r (fun y r' => -2 = y ∧ Rel u r')
            rw [e]
            exact refB u (hu.rel hR (sameR.refl r))
          | succ k ih =>
            intro m m0 hm' hz
            apply L_X2_fewestCorks_136
            unfold B_X2_fewestCorks_136
            rw [if_neg (by omega)]
            have hz2 : (if fst1 (fun b => b01 (decide (pcb b = m) && tall r L b)) 1 (2 ^ (r 0 15).toNat) 0 < 0 then sch r L k (m + 1) else fst1 (fun b => b01 (decide (pcb b = m) && tall r L b)) 1 (2 ^ (r 0 15).toNat) 0) = sch r L (r 0 15 + 1).toNat 0 := hz
            refine bits (2 ^ (r 0 15).toNat) 0 m (by omega) (by omega) m0 (by omega) (fun v ev => ?_)
            rw [← ev] at hz2
            by_cases y : v < 0
            · rw [if_pos y] at hz2 ⊢
              exact ih (m + 1) (by omega) (by omega) hz2
            · rw [if_neg y] at hz2 ⊢
              exact hz2.symm
        exact sizes (r 0 15 + 1).toNat 0 (by omega) (by omega) rfl
      have corks : ∀ (k : Nat) (m : Nat) (u : Mh), m + k = (r 0 15).toNat → frH g u → rowL (u 138 3) (u 139) (u 140) L → tellOK r u L m → Lfp (F_X2_fewestCorks p n x CK) (93, [r 0 15, m], u) := by
        intro k
        induction k with
        | zero =>
          intro m u hm' hu hr ht
          apply L_X2_fewestCorks_93
          unfold B_X2_fewestCorks_93
          rw [if_pos (by omega)]
          have em : m = (r 0 15).toNat := by omega
          rw [em] at ht
          exact search u hu hr.1 ht
        | succ k ih =>
          intro m u hm' hu hr ht
          apply L_X2_fewestCorks_93
          unfold B_X2_fewestCorks_93
          rw [if_neg (by omega)]
          have hcu : Core u r := hR.1.same hu.sc (sameR.refl r)
          refine ⟨isP_4 hcu.2.2.1.1.1, ?_⟩
          refine sp_corkAt hcu (by omega) (by omega) ?_
          have hw := hC.2.2.2 m (by omega) (by omega)
          refine sp_showCompared hcu (hu.ways hdg.1 w) hr ok.1 hl hw.1 hw.2.1 ?_
          intro u1 f1 v1
          refine sp_markTeller (r := r) (L := L) (m := m) (by rw [f1 138 (by decide)]; exact hr.1) hl v1 (fun i j j0 j1 i1 => by rw [f1 137 (by decide)]; exact ht i j j0 j1 i1) ?_
          intro u2 f2 t2 y ey
          rw [w32_eq (by omega) (by omega)] at ey
          have ey2 : y = ((m + 1 : Nat) : Int) := by omega
          subst ey2
          refine ih (m + 1) u2 (by omega) (fun o ho => by rw [f2 o (by omega), f1 o (by omega), hu o ho]) ?_ t2
          rw [f2 138 (by decide), f2 139 (by decide), f2 140 (by decide), f1 138 (by decide), f1 139 (by decide), f1 140 (by decide)]
          exact hr
      have zero : ∀ (k : Nat) (i : Int) (u : Mh), 0 ≤ i → i + k = 576 → (∀ o, o ≠ 137 → u o = g1 o) → (∀ j, 0 ≤ j → j < i → u 137 j = 0) → Lfp (F_X2_fewestCorks p n x CK) (66, [r 0 15, i], u) := by
        intro k
        induction k with
        | zero =>
          intro i u i0 hi hu hv
          apply L_X2_fewestCorks_66
          unfold B_X2_fewestCorks_66
          rw [if_pos (by omega)]
          refine corks (r 0 15).toNat 0 u (by omega) (fun o ho => by rw [hu o (by omega), f1 o ho]) ?_ (fun a b b0 b1 a1 => ?_)
          · rw [hu 138 (by decide), hu 139 (by decide), hu 140 (by decide)]
            exact hL
          · rw [hv _ (by omega) (by omega)]; rfl
        | succ k ih =>
          intro i u i0 hi hu hv
          apply L_X2_fewestCorks_66
          unfold B_X2_fewestCorks_66
          rw [if_neg (by omega)]
          refine ⟨⟨i0, by omega⟩, ?_⟩
          intro u1 e1 y ey
          rw [w32_eq (by omega) (by omega)] at ey
          subst ey
          refine ih (i + 1) u1 (by omega) (by omega) (fun o ho => by rw [e1, up_other ho, hu o ho]) (fun j j0 j1 => ?_)
          rw [e1]
          by_cases z : j = i
          · rw [z, up_self]
          · rw [up_slot z]; exact hv j j0 (by omega)
      exact zero 576 0 g1 (by omega) (by omega) (fun _ _ => rfl) (fun j a b => by omega)
  · rw [if_neg n2]
    exact no g hR (by omega)
