/-! ===== the law's worth in the reference ===== -/
def eqB (s s' : Mh) : Prop := ∀ a j, ¬ (a = 0 ∧ j = 73) → s' a j = s a j
/-- an answer with or without an error -/
def ansK (s s' : Mh) (o : Option Int) (x : Int) : Prop := eqB s s' ∧ r64 x ∧ (¬ s 0 73 = 0 → ¬ s' 0 73 = 0) ∧ (s 0 73 = 0 → match o with | none => ¬ s' 0 73 = 0 | some v => s' 0 73 = 0 ∧ x = v)
theorem ansK.plain {s : Mh} {v : Int} (hv : r64 v) : ansK s s (some v) v := ⟨fun _ _ _ => rfl, hv, fun z => z, fun z => ⟨z, rfl⟩⟩
theorem ansK.err {s : Mh} {o : Option Int} (h : s 0 73 = 0 → o = none) : ansK s (up s 0 73 1) o 0 := by
  refine ⟨fun a j hj => up_ne _ hj, by decide, fun _ => by rw [up_self]; decide, fun z => ?_⟩
  rw [h z]
  show ¬ up s 0 73 1 0 73 = 0
  rw [up_self]; decide
theorem ansK.fine {s : Mh} {v : Int} (hv : r64 v) (h0 : s 0 73 = 0) : ansK s (up s 0 73 0) (some v) v :=
  ⟨fun a j hj => up_ne _ hj, hv, fun z => absurd h0 z, fun _ => ⟨by rw [up_self], rfl⟩⟩
theorem okV.r {v : Int} (h : okV v) : r64 v := by unfold okV at h; unfold r64; omega
theorem sp_bounded {s : Mh} {n : Int} {K : Int → Mh → Prop} (hn : s 0 73 = 0 → r64 n) (hK : ∀ x s', ansK s s' (if -1000000000000 ≤ n ∧ n ≤ 1000000000000 then some n else none) x → K x s') : wp_X14_bounded n s K := by
  unfold wp_X14_bounded
  simp only [j_cmp_gt, j_cmp_ge]
  by_cases e : s 0 73 = 0
  · rw [if_neg (fun z => z e)]
    by_cases y1 : 1000000000000 < n
    · rw [if_pos y1]
      intro s1 e1
      subst e1
      rw [up_self, if_neg (by decide)]
      exact hK 0 _ (ansK.err (fun _ => by rw [if_neg (by omega)]))
    · rw [if_neg y1]
      by_cases y2 : -1000000000000 ≤ n
      · rw [if_pos y2]
        intro s1 e1
        subst e1
        rw [up_self, if_pos rfl]
        refine hK n _ ?_
        rw [if_pos (by omega)]
        exact ansK.fine (hn e) e
      · rw [if_neg y2]
        intro s1 e1
        subst e1
        rw [up_self, if_neg (by decide)]
        exact hK 0 _ (ansK.err (fun _ => by rw [if_neg (by omega)]))
  · rw [if_pos e]
    intro s1 e1
    subst e1
    rw [up_self, if_neg (by decide)]
    exact hK 0 _ (ansK.err (fun z => absurd z e))
theorem sp_times {s : Mh} {a b : Int} {K : Int → Mh → Prop} (ha : r64 a) (hb : r64 b) (hv : s 0 73 = 0 → okV a ∧ okV b) (hK : ∀ x s', ansK s s' (if -1000000000000 ≤ a * b ∧ a * b ≤ 1000000000000 then some (a * b) else none) x → K x s') : wp_X14_times a b s K := by
  have l49 : ∀ m : Int, (s 0 73 = 0 → (m = 0 ↔ (-1000000000000 ≤ a * b ∧ a * b ≤ 1000000000000))) → Lfp (F_X14_times a b K) (49, [m], s) := by
    intro m hm
    apply L_X14_times_49
    unfold B_X14_times_49
    by_cases e : s 0 73 = 0
    · rw [if_neg (fun z => z e)]
      by_cases y : m = 0
      · rw [if_pos y]
        have h2 := (hm e).mp y
        intro s1 e1
        subst e1
        rw [up_self, if_pos rfl, w64_eq (by omega) (by omega)]
        refine hK _ _ ?_
        rw [if_pos h2]
        exact ansK.fine (by unfold r64; omega) e
      · rw [if_neg y]
        intro s1 e1
        subst e1
        rw [up_self, if_neg (by decide)]
        exact hK 0 _ (ansK.err (fun _ => by rw [if_neg (fun z => y ((hm e).mpr z))]))
    · rw [if_pos e]
      intro s1 e1
      subst e1
      rw [up_self, if_neg (by decide)]
      exact hK 0 _ (ansK.err (fun z => absurd z e))
  have l48 : (s 0 73 = 0 → (-1000000000000 ≤ a * b ∧ a * b ≤ 1000000000000)) → Lfp (F_X14_times a b K) (48, [], s) := by
    intro h
    apply L_X14_times_48
    unfold B_X14_times_48
    exact l49 0 (fun e => ⟨fun _ => h e, fun _ => rfl⟩)
  unfold wp_X14_times
  simp only [j_cmp_eq, j_cmp_ge]
  by_cases a0 : a = 0
  · rw [if_pos a0]
    exact l48 (fun _ => by rw [a0, Int.zero_mul]; decide)
  · rw [if_neg a0]
    by_cases b0 : b = 0
    · rw [if_pos b0]
      exact l48 (fun _ => by rw [b0, Int.mul_zero]; decide)
    · rw [if_neg b0]
      have wa : ∀ x : Int, x ≠ 0 → r64 x → ¬ w64 (-x) = 0 := by
        intro x x0 hx
        unfold r64 at hx
        unfold w64
        omega
      have l39 : ∀ x y : Int, (s 0 73 = 0 → x = (if 0 < b then b else -b)) → ¬ y = 0 → (s 0 73 = 0 → y = (if 0 < a then a else -a)) → Lfp (F_X14_times a b K) (39, [x, 1000000000000, y], s) := by
        intro x y hx y0 hy
        apply L_X14_times_39
        unfold B_X14_times_39
        refine ⟨y0, ?_⟩
        simp only [j_cmp_le]
        have key : s 0 73 = 0 → (x ≤ j_ldiv 1000000000000 y ↔ (-1000000000000 ≤ a * b ∧ a * b ≤ 1000000000000)) := by
          intro e
          obtain ⟨va, vb⟩ := hv e
          have mb := mul_bound vb va a0
          rw [Int.mul_comm b a] at mb
          have ap : 0 < (if 0 < a then a else -a) ∧ (if 0 < a then a else -a) ≤ 1000000000000 := by
            unfold okV at va
            split <;> omega
          rw [hx e, hy e, j_ldiv_pos ap.1 ap.2]
          exact mb
        by_cases q : x ≤ j_ldiv 1000000000000 y
        · rw [if_pos q]
          exact l48 (fun e => (key e).mp q)
        · rw [if_neg q]
          exact l49 1 (fun e => ⟨fun z => absurd z (by decide), fun z => absurd ((key e).mpr z) q⟩)
      have l24 : ∀ x : Int, (s 0 73 = 0 → x = (if 0 < b then b else -b)) → Lfp (F_X14_times a b K) (24, [x], s) := by
        intro x hx
        apply L_X14_times_24
        unfold B_X14_times_24
        simp only [j_cmp_ge]
        by_cases q : 0 ≤ a
        · rw [if_pos q]
          exact l39 x a hx a0 (fun _ => by rw [if_pos (by omega)])
        · rw [if_neg q]
          refine l39 x _ hx (wa a a0 ha) (fun e => ?_)
          have := (hv e).1
          unfold okV at this
          rw [if_neg (by omega), w64_eq (by omega) (by omega)]
      by_cases q : 0 ≤ b
      · rw [if_pos q]
        exact l24 b (fun _ => by rw [if_pos (by omega)])
      · rw [if_neg q]
        refine l24 _ (fun e => ?_)
        have := (hv e).2
        unfold okV at this
        rw [if_neg (by omega), w64_eq (by omega) (by omega)]
theorem sp_valueOf {s : Mh} {nm : Int → Int} {i k p o : Int} {K : Int → Mh → Prop} (ek : s 23 i = k) (e4 : s 24 i = p) (e5 : s 25 i = o) (i0 : 0 ≤ i) (i1 : i < 64) (hkk : (k = 0 ∧ 0 ≤ p ∧ p ≤ 9999) ∨ (k = 1 ∧ 0 ≤ p ∧ p ≤ 4) ∨ (k = 2 ∧ 0 ≤ p ∧ p < 64 ∧ r64 (s 29 p)) ∨ (3 ≤ k ∧ k ≤ 14 ∧ (0 ≤ p ∧ p < 64 ∧ r64 (s 29 p)) ∧ 0 ≤ o ∧ o < 64 ∧ r64 (s 29 o)))
    (hn : ∀ j, 0 ≤ j → j ≤ 4 → s 28 j = nm j) (hno : ∀ j, okV (nm j)) (hv : s 0 73 = 0 → 3 ≤ k → okV (s 29 p) ∧ okV (s 29 o)) (hK : ∀ x s', ansK s s' (kv nm k p (s 29 p) (s 29 o)) x → K x s') : wp_X14_valueOf i s K := by
  have b128 : (0 : Int) ≤ i ∧ i < 128 := ⟨i0, by omega⟩
  have z1 : r64 1 := by decide
  have z0 : r64 0 := by decide
  have ite01 : ∀ {c : Prop} [Decidable c], r64 (if c then 1 else 0) := by intro c _; split <;> assumption
  unfold wp_X14_valueOf
  rw [ek, e4, e5]
  refine ⟨b128, ?_⟩
  rcases hkk with ⟨k0, p0, p1⟩ | ⟨k0, p0, p1⟩ | ⟨k0, p0, p1, p2⟩ | ⟨k3, k14, ⟨p0, p1, p2⟩, o0, o1, o2⟩
  · rw [if_neg (fun z => z k0)]
    refine ⟨b128, hK p s ?_⟩
    unfold kv
    rw [if_pos k0]
    exact ansK.plain (by unfold r64; omega)
  · rw [if_pos (by omega)]
    refine ⟨b128, ?_⟩
    rw [if_neg (fun z => z k0), hn p p0 p1]
    refine ⟨b128, ⟨p0, by omega⟩, hK _ s ?_⟩
    unfold kv
    rw [if_neg (by omega), if_pos k0]
    exact ansK.plain (hno p).r
  · rw [if_pos (by omega)]
    refine ⟨b128, ?_⟩
    rw [if_pos (by omega)]
    refine ⟨b128, ⟨p0, p1⟩, ?_⟩
    intro a ea
    refine ⟨b128, ?_⟩
    rw [if_neg (fun z => z k0)]
    simp only [j_cmp_eq]
    rw [← ea] at hK
    have hkv : kv nm k p a (s 29 o) = some (if a = 0 then 1 else 0) := by unfold kv; rw [if_neg (by omega), if_neg (by omega), if_pos k0]
    rw [hkv] at hK
    by_cases y : a = 0
    · rw [if_neg (fun z => z y)]
      refine hK 1 s ?_
      rw [if_pos y]; exact ansK.plain z1
    · rw [if_pos y]
      refine hK 0 s ?_
      rw [if_neg y]; exact ansK.plain z0
  · rw [if_pos (by omega)]
    refine ⟨b128, ?_⟩
    rw [if_pos (by omega)]
    refine ⟨b128, ⟨p0, p1⟩, ?_⟩
    intro a ea
    refine ⟨b128, ?_⟩
    rw [if_pos (by omega)]
    refine ⟨b128, ⟨o0, o1⟩, ?_⟩
    intro b eb
    refine ⟨b128, ?_⟩
    have hv3 := fun e => hv e k3
    rw [← ea, ← eb] at hK hv3
    clear hv
    rw [← ea] at p2
    rw [← eb] at o2
    have cmpK : ∀ (v : Int), kv nm k p a b = some v → (∀ h K', K' (if v = 0 then 0 else 1) h → wp_X14_compares k a b h K') → (v = 0 ∨ v = 1) → Lfp (F_X14_valueOf i K) (259, [a, b], s) := by
      intro v hkv hc h01
      apply L_X14_valueOf_259
      unfold B_X14_valueOf_259
      refine ⟨b128, ?_⟩
      rw [ek]
      refine hc s _ ?_
      rw [hkv] at hK
      rcases h01 with e | e
      · rw [if_pos e, if_pos rfl]
        exact hK 0 s (by rw [e]; exact ansK.plain z0)
      · rw [if_neg (by omega)]
        exact hK 1 s (by rw [e]; exact ansK.plain z1)
    have hk : k = 3 ∨ k = 4 ∨ k = 5 ∨ k = 6 ∨ k = 7 ∨ k = 8 ∨ k = 9 ∨ k = 10 ∨ k = 11 ∨ k = 12 ∨ k = 13 ∨ k = 14 := by omega
    rcases hk with rfl | rfl | rfl | rfl | rfl | rfl | rfl | rfl | rfl | rfl | rfl | rfl <;> simp only [Int.reduceEq, if_true, if_false]
    · simp only [j_cmp_eq]
      unfold kv at hK
      simp only [Int.reduceEq, if_true, if_false] at hK
      by_cases x : a = 0
      · rw [if_pos x]; exact hK 0 s (by rw [if_pos x]; exact ansK.plain z0)
      · rw [if_neg x]
        by_cases y : b = 0
        · rw [if_pos y]; exact hK 0 s (by rw [if_neg x, if_pos y]; exact ansK.plain z0)
        · rw [if_neg y]; exact hK 1 s (by rw [if_neg x, if_neg y]; exact ansK.plain z1)
    · simp only [j_cmp_eq]
      unfold kv at hK
      simp only [Int.reduceEq, if_true, if_false] at hK
      by_cases x : a = 0
      · rw [if_neg (fun z => z x)]
        by_cases y : b = 0
        · rw [if_pos y]; exact hK 0 s (by rw [if_pos x, if_pos y]; exact ansK.plain z0)
        · rw [if_neg y]; exact hK 1 s (by rw [if_pos x, if_neg y]; exact ansK.plain z1)
      · rw [if_pos x]; exact hK 1 s (by rw [if_neg x]; exact ansK.plain z1)
    · refine cmpK (if a < b then 1 else 0) (by unfold kv; simp only [Int.reduceEq, if_true, if_false]) (fun h K' hh => ?_) (by split <;> omega)
      unfold wp_X14_compares
      simp only [Int.reduceEq, if_true, if_false, j_cmp_ge]
      by_cases x : a < b
      · rw [if_neg (by omega)]; rw [if_pos x] at hh; exact hh
      · rw [if_pos (by omega)]; rw [if_neg x] at hh; exact hh
    · refine cmpK (if a ≤ b then 1 else 0) (by unfold kv; simp only [Int.reduceEq, if_true, if_false]) (fun h K' hh => ?_) (by split <;> omega)
      unfold wp_X14_compares
      simp only [Int.reduceEq, if_true, if_false, j_cmp_gt]
      by_cases x : a ≤ b
      · rw [if_neg (by omega)]; rw [if_pos x] at hh; exact hh
      · rw [if_pos (by omega)]; rw [if_neg x] at hh; exact hh
    · refine cmpK (if a = b then 1 else 0) (by unfold kv; simp only [Int.reduceEq, if_true, if_false]) (fun h K' hh => ?_) (by split <;> omega)
      unfold wp_X14_compares
      simp only [Int.reduceEq, if_true, if_false, j_cmp_eq]
      by_cases x : a = b
      · rw [if_neg (fun z => z x)]; rw [if_pos x] at hh; exact hh
      · rw [if_pos x]; rw [if_neg x] at hh; exact hh
    · refine cmpK (if a = b then 0 else 1) (by unfold kv; simp only [Int.reduceEq, if_true, if_false]) (fun h K' hh => ?_) (by split <;> omega)
      unfold wp_X14_compares
      simp only [Int.reduceEq, if_true, if_false, j_cmp_eq]
      by_cases x : a = b
      · rw [if_pos x]; rw [if_pos x] at hh; exact hh
      · rw [if_neg x]; rw [if_neg x] at hh; exact hh
    · refine cmpK (if b ≤ a then 1 else 0) (by unfold kv; simp only [Int.reduceEq, if_true, if_false]) (fun h K' hh => ?_) (by split <;> omega)
      unfold wp_X14_compares
      simp only [Int.reduceEq, if_true, if_false, j_cmp_lt]
      by_cases x : b ≤ a
      · rw [if_neg (by omega)]; rw [if_pos x] at hh; exact hh
      · rw [if_pos (by omega)]; rw [if_neg x] at hh; exact hh
    · refine cmpK (if b < a then 1 else 0) (by unfold kv; simp only [Int.reduceEq, if_true, if_false]) (fun h K' hh => ?_) (by split <;> omega)
      unfold wp_X14_compares
      simp only [Int.reduceEq, if_true, if_false, j_cmp_le]
      by_cases x : b < a
      · rw [if_neg (by omega)]; rw [if_pos x] at hh; exact hh
      · rw [if_pos (by omega)]; rw [if_neg x] at hh; exact hh
    · have hkv : kv nm 11 p a b = (if -1000000000000 ≤ a + b ∧ a + b ≤ 1000000000000 then some (a + b) else none) := by unfold kv; simp only [Int.reduceEq, if_true, if_false]
      by_cases e : s 0 73 = 0
      · have := hv3 e
        unfold okV at this
        refine sp_bounded (fun _ => w64_r _) (fun x s' hx => hK x s' ?_)
        rw [w64_eq (by omega) (by omega)] at hx
        rw [hkv]; exact hx
      · refine sp_bounded (fun _ => w64_r _) (fun x s' hx => hK x s' ⟨hx.1, hx.2.1, hx.2.2.1, fun z => absurd z e⟩)
    · have hkv : kv nm 12 p a b = (if -1000000000000 ≤ a - b ∧ a - b ≤ 1000000000000 then some (a - b) else none) := by unfold kv; simp only [Int.reduceEq, if_true, if_false]
      by_cases e : s 0 73 = 0
      · have := hv3 e
        unfold okV at this
        refine sp_bounded (fun _ => w64_r _) (fun x s' hx => hK x s' ?_)
        rw [w64_eq (by omega) (by omega)] at hx
        rw [hkv]; exact hx
      · refine sp_bounded (fun _ => w64_r _) (fun x s' hx => hK x s' ⟨hx.1, hx.2.1, hx.2.2.1, fun z => absurd z e⟩)
    · have hkv : kv nm 13 p a b = (if -1000000000000 ≤ a * b ∧ a * b ≤ 1000000000000 then some (a * b) else none) := by unfold kv; simp only [Int.reduceEq, if_true, if_false]
      refine sp_times p2 o2 hv3 (fun x s' hx => hK x s' ?_)
      rw [hkv]; exact hx
    · have hkv : kv nm 14 p a b = (if b = 0 then none else some (a.tdiv b)) := by unfold kv; simp only [Int.reduceEq, if_true, if_false]
      simp only [j_cmp_eq]
      by_cases e : s 0 73 = 0
      · rw [if_neg (fun z => z e)]
        have h2 := hv3 e
        by_cases y : b = 0
        · rw [if_neg (fun z => z y)]
          intro s1 e1
          subst e1
          rw [up_self, if_neg (by decide)]
          exact hK 0 _ (ansK.err (fun _ => by rw [hkv, if_pos y]))
        · rw [if_pos y]
          intro s1 e1
          subst e1
          rw [up_self, if_pos rfl]
          refine ⟨y, ?_⟩
          rw [j_ldiv_ok h2.1]
          refine hK _ _ ?_
          rw [hkv, if_neg y]
          exact ansK.fine (tdiv_ok h2.1).r e
      · rw [if_pos e]
        intro s1 e1
        subst e1
        rw [up_self, if_neg (by decide)]
        exact hK 0 _ (ansK.err (fun z => absurd z e))
/-- the reference's worth -/
theorem sk_in {q r : Mh} {sk : Nat → List Int} (s0 : sk 0 = []) (sK : ∀ i : Nat, (i : Int) < r 0 20 → knotOK q r i (sk i) (sk (i + 1))) : ∀ i : Nat, (i : Int) ≤ r 0 20 → ∀ x ∈ sk i, 0 ≤ x ∧ x < i := by
  intro i
  induction i with
  | zero => intro _ x hx; rw [s0] at hx; cases hx
  | succ i ih =>
    intro hi x hx
    have h0 := ih (by omega)
    rcases (sK i (by omega)).2 with ⟨_, _, _, _, e⟩ | ⟨_, _, _, e⟩ | ⟨_, v, e1, e⟩ | ⟨_, _, v, e1, e⟩
    · rw [e] at hx
      rcases List.mem_cons.mp hx with z | z
      · omega
      · have := h0 x z; omega
    · rw [e] at hx
      rcases List.mem_cons.mp hx with z | z
      · omega
      · have := h0 x z; omega
    · rw [e] at hx
      rcases List.mem_cons.mp hx with z | z
      · omega
      · have := h0 x (by rw [e1]; simp [z]); omega
    · rw [e] at hx
      rcases List.mem_cons.mp hx with z | z
      · omega
      · have := h0 x (by rw [e1]; simp [z]); omega
theorem sp_knots {q r s : Mh} {nm : Int → Int} {c way t : Int} {K : Int → Mh → Prop} (hL : RLaw q r) (h0 : 0 < r 0 20) (hr : sameR r s) (e73 : s 0 73 = 0) (hn : ∀ j, 0 ≤ j → j ≤ 4 → s 28 j = nm j) (hno : ∀ j, okV (nm j))
    (hk : ∀ s', sameR r s' → (match wth r nm with | none => ¬ s' 0 73 = 0 → K 0 s' | some v => s' 0 73 = 0 → K v s')) : Lfp (F_X14_lawOf c way t K) (97, [0], s) := by
  obtain ⟨l1, l2, l3, l4, sk, s0, sK, sE⟩ := hL
  have hin := sk_in s0 sK
  have loop : ∀ (n : Nat) (i : Nat) (u : Mh), (i : Int) + n = r 0 20 → sameR r u → (∀ j, 0 ≤ j → j ≤ 4 → u 28 j = nm j) → (∀ j : Int, 0 ≤ j → j < i → r64 (u 29 j)) → ((∃ f, evs r nm i = some f ∧ (∀ x, okV (f x)) ∧ u 0 73 = 0 ∧ ∀ j : Int, 0 ≤ j → j < i → u 29 j = f j) ∨ (evs r nm i = none ∧ ¬ u 0 73 = 0)) → Lfp (F_X14_lawOf c way t K) (97, [(i : Int)], u) := by
    intro n
    induction n with
    | zero =>
      intro i u hi hu hnu h64 hst
      apply L_X14_lawOf_97
      unfold B_X14_lawOf_97
      have ei : i = (r 0 20).toNat := by omega
      have hku := hk u hu
      unfold wth at hku
      rw [hu 0 20 (by decide) (by decide), if_pos (by omega)]
      rcases hst with ⟨f, e1, e2, e3, e4⟩ | ⟨e1, e2⟩
      · rw [if_pos e3, w32_eq (by omega) (by omega), e4 _ (by omega) (by omega)]
        rw [← ei, e1] at hku
        exact ⟨⟨by omega, by omega⟩, hku e3⟩
      · rw [if_neg e2]
        rw [← ei, e1] at hku
        exact hku e2
    | succ n ih =>
      intro i u hi hu hnu h64 hst
      apply L_X14_lawOf_97
      unfold B_X14_lawOf_97
      rw [hu 0 20 (by decide) (by decide), if_neg (by omega)]
      have e23 : u 23 i = r 23 i := hu 23 i (by omega) (by omega)
      have e24 : u 24 i = r 24 i := hu 24 i (by omega) (by omega)
      have e25 : u 25 i = r 25 i := hu 25 i (by omega) (by omega)
      have hi2 := hin i (by omega)
      have ops : (r 23 i = 0 ∧ 0 ≤ r 24 i ∧ r 24 i ≤ 9999) ∨ (r 23 i = 1 ∧ 0 ≤ r 24 i ∧ r 24 i ≤ 4) ∨ (r 23 i = 2 ∧ 0 ≤ r 24 i ∧ r 24 i < i) ∨ (3 ≤ r 23 i ∧ r 23 i ≤ 14 ∧ (0 ≤ r 24 i ∧ r 24 i < i) ∧ 0 ≤ r 25 i ∧ r 25 i < i) := by
        rcases (sK i (by omega)).2 with ⟨a, b, c, d, e⟩ | ⟨a, b, c, e⟩ | ⟨a, v, e1, e⟩ | ⟨a, b, v, e1, e⟩
        · exact Or.inl ⟨a, c, d⟩
        · exact Or.inr (Or.inl ⟨a, b, c⟩)
        · have := hi2 (r 24 i) (by rw [e1]; simp)
          exact Or.inr (Or.inr (Or.inl ⟨a, this.1, this.2⟩))
        · have h1 := hi2 (r 24 i) (by rw [e1]; simp)
          have h2 := hi2 (r 25 i) (by rw [e1]; simp)
          exact Or.inr (Or.inr (Or.inr ⟨a, b, h1, h2⟩))
      have ops2 : (r 23 i = 0 ∧ 0 ≤ r 24 i ∧ r 24 i ≤ 9999) ∨ (r 23 i = 1 ∧ 0 ≤ r 24 i ∧ r 24 i ≤ 4) ∨ (r 23 i = 2 ∧ 0 ≤ r 24 i ∧ r 24 i < 64 ∧ r64 (u 29 (r 24 i))) ∨ (3 ≤ r 23 i ∧ r 23 i ≤ 14 ∧ (0 ≤ r 24 i ∧ r 24 i < 64 ∧ r64 (u 29 (r 24 i))) ∧ 0 ≤ r 25 i ∧ r 25 i < 64 ∧ r64 (u 29 (r 25 i))) := by
        rcases ops with h | h | ⟨a, b, c⟩ | ⟨a, b, ⟨c, d⟩, e, f⟩
        · exact Or.inl h
        · exact Or.inr (Or.inl h)
        · exact Or.inr (Or.inr (Or.inl ⟨a, b, by omega, h64 _ b c⟩))
        · exact Or.inr (Or.inr (Or.inr ⟨a, b, ⟨c, by omega, h64 _ c d⟩, e, by omega, h64 _ e f⟩))
      -- the walk over this knot, whatever its sides are worth
      have go : ∀ (g : Mh) (A : Int → Mh → Prop), g = u → (∀ x s', ansK u s' (kv nm (r 23 i) (r 24 i) (u 29 (r 24 i)) (u 29 (r 25 i))) x → A x s') → (u 0 73 = 0 → 3 ≤ r 23 i → okV (u 29 (r 24 i)) ∧ okV (u 29 (r 25 i))) → wp_X14_valueOf i u A := by
        intro g A _ hA hv
        exact sp_valueOf e23 e24 e25 (by omega) (by omega) ops2 hnu hno hv hA
      have after : ∀ x s', ansK u s' (kv nm (r 23 i) (r 24 i) (u 29 (r 24 i)) (u 29 (r 25 i))) x → ((∃ f, evs r nm (i + 1) = some f ∧ (∀ x, okV (f x)) ∧ s' 0 73 = 0 ∧ f i = x ∧ ∀ j : Int, 0 ≤ j → j < i → u 29 j = f j) ∨ (evs r nm (i + 1) = none ∧ ¬ s' 0 73 = 0)) → ((0 : Int) ≤ i ∧ (i : Int) < 64) ∧ ∀ h2 : Mh, h2 = up s' 29 i x → ∀ x2 : Int, x2 = w32 ((i : Int) + 1) → Lfp (F_X14_lawOf c way t K) (97, [x2], h2) := by
        intro x s' hx hst'
        refine ⟨⟨by omega, by omega⟩, ?_⟩
        intro u2 e2 x2 ex2
        rw [w32_eq (by omega) (by omega)] at ex2
        have ex3 : x2 = ((i + 1 : Nat) : Int) := by omega
        rw [ex3]
        refine ih (i + 1) u2 (by omega) ?_ ?_ ?_ ?_
        · intro o j a b
          rw [e2, up_ne _ (by omega), hx.1 o j (by omega), hu o j a b]
        · intro j j0 j1
          rw [e2, up_other (by decide), hx.1 28 j (by omega), hnu j j0 j1]
        · intro j j0 j1
          rw [e2]
          by_cases z : j = i
          · rw [z, up_self]; exact hx.2.1
          · rw [up_slot z, hx.1 29 j (by omega)]; exact h64 j j0 (by omega)
        · have q73 : u2 0 73 = s' 0 73 := by rw [e2, up_other (by decide)]
          rcases hst' with ⟨f, f1, f2, f3, f4, f5⟩ | ⟨f1, f2⟩
          · left
            refine ⟨f, f1, f2, by rw [q73]; exact f3, fun j j0 j1 => ?_⟩
            rw [e2]
            by_cases z : j = i
            · rw [z, up_self, f4]
            · rw [up_slot z, hx.1 29 j (by omega)]; exact f5 j j0 (by omega)
          · right
            exact ⟨f1, by rw [q73]; exact f2⟩
      rcases hst with ⟨f, e1, e2, e3, e4⟩ | ⟨e1, e2⟩
      · -- no error so far: the sides' worths are f's, where they are looked at
        have hev : evs r nm (i + 1) = (match kv nm (r 23 i) (r 24 i) (f (r 24 i)) (f (r 25 i)) with | none => none | some v => some (fun j => if j = (i : Int) then v else f j)) := by
          show (match evs r nm i with | none => none | some f => (match kv nm (r 23 i) (r 24 i) (f (r 24 i)) (f (r 25 i)) with | none => none | some v => some (fun j => if j = (i : Int) then v else f j))) = _
          rw [e1]
        -- kv looks at the sides that the knot has
        have hkv : kv nm (r 23 i) (r 24 i) (u 29 (r 24 i)) (u 29 (r 25 i)) = kv nm (r 23 i) (r 24 i) (f (r 24 i)) (f (r 25 i)) := by
          rcases ops with h | h | ⟨a, b, c⟩ | ⟨a, b, ⟨c, d⟩, e, f'⟩
          · rw [h.1]; rfl
          · rw [h.1]; rfl
          · rw [e4 _ b c, a]; rfl
          · rw [e4 _ c d, e4 _ e f']
        have hvo : 3 ≤ r 23 i → okV (u 29 (r 24 i)) ∧ okV (u 29 (r 25 i)) := by
          intro k3
          rcases ops with h | h | ⟨a, b, c⟩ | ⟨a, b, ⟨c, d⟩, e, f'⟩
          · omega
          · omega
          · omega
          · rw [e4 _ c d, e4 _ e f']; exact ⟨e2 _, e2 _⟩
        refine go u _ rfl (fun x s' hx => after x s' hx ?_) (fun _ => hvo)
        have h4 := hx.2.2.2 e3
        rw [hkv] at h4
        cases hc : kv nm (r 23 i) (r 24 i) (f (r 24 i)) (f (r 25 i)) with
        | none =>
          rw [hc] at h4 hev
          exact Or.inr ⟨hev, h4⟩
        | some v =>
          rw [hc] at h4 hev
          have vok : okV v := by
            rcases ops with h | h | ⟨a, b, c⟩ | ⟨a, b, ⟨c, d⟩, e, f'⟩
            · rw [h.1] at hc
              have : (r 24 i) = v := Option.some.inj hc
              unfold okV; omega
            · rw [h.1] at hc
              have : nm (r 24 i) = v := Option.some.inj hc
              rw [← this]; exact hno _
            · exact kv_ok (hno _) (by unfold okV; omega) (e2 _) hc
            · exact kv_ok (hno _) (by unfold okV; omega) (e2 _) hc
          refine Or.inl ⟨_, hev, fun y => ?_, h4.1, ?_, fun j j0 j1 => ?_⟩
          · by_cases z : y = (i : Int)
            · rw [if_pos z]; exact vok
            · rw [if_neg z]; exact e2 y
          · rw [if_pos rfl]; exact h4.2.symm
          · rw [if_neg (by omega)]; exact e4 j j0 j1
      · have hev : evs r nm (i + 1) = none := by
          show (match evs r nm i with | none => none | some f => (match kv nm (r 23 i) (r 24 i) (f (r 24 i)) (f (r 25 i)) with | none => none | some v => some (fun j => if j = (i : Int) then v else f j))) = _
          rw [e1]
        refine go u _ rfl (fun x s' hx => after x s' hx (Or.inr ⟨hev, hx.2.2.1 e2⟩)) (fun z => absurd z e2)
  exact loop (r 0 20).toNat 0 s (by omega) hr hn (fun j a b => by omega) (Or.inl ⟨fun _ => 0, rfl, fun x => by show okV 0; unfold okV; omega, e73, fun j a b => by omega⟩)
/-- lawOf: the rise without a law, the law's worth with one -/
def drv (r : Mh) (F : Int → Int → Int) (c way t : Int) : Option Int := if r 0 20 = 0 then some (F (nx (r 0 12) (r 0 13) (r 5) c way) t) else wth r (nmo (F (nx (r 0 12) (r 0 13) (r 5) c way) t) (F c t) (if r 5 (nx (r 0 12) (r 0 13) (r 5) c way) = 1 then 1 else 0) way t)
/-- what a heap of the reference looks at while skaters go -/
def skR (q r : Mh) (F : Int → Int → Int) : Prop := RLaw q r ∧ riseOKR r ∧ ∀ c t, 0 ≤ c → c < 48 → 0 ≤ t → t ≤ 199 → lsum r c t = F c t
theorem lsum_le {r : Mh} (h : riseOKR r) (c t : Int) : -6732 ≤ lsum r c t ∧ lsum r c t ≤ 6732 := by
  have hd := h.2.2.2.2.2.1
  have b := sumN_le (f := fun d => rgiv r (r 17 d) (r 18 d) c (t - r 19 d)) (M := 396) (r 0 76).toNat 0 (fun d d0 d1 => by
    have o := hd.2.2 d d0 (by omega)
    exact rgiv_le h o.1 o.2.1 _ _ _)
  unfold lsum rsum
  have := hd.2.1
  by_cases z : 0 ≤ r 0 79
  · rw [if_pos z]
    have o := h.2.2.2.2.2.2 z
    have := rgiv_le h o.1 o.2.1 (r 0 80) c (t - r 0 81)
    omega
  · rw [if_neg z]; omega
theorem sp_lawOf {q r s : Mh} {F : Int → Int → Int} {c way t : Int} {K : Int → Mh → Prop} (h : skR q r F) (hr : sameR r s) (c0 : 0 ≤ c) (c1 : c < 48) (w0 : 0 ≤ way) (w1 : way ≤ 4) (t0 : 0 ≤ t) (t1 : t ≤ 199) (hx : 0 ≤ nx (r 0 12) (r 0 13) (r 5) c way)
    (hk : ∀ s', sameR r s' → (match drv r F c way t with | none => ¬ s' 0 73 = 0 → K 0 s' | some v => s' 0 73 = 0 → K v s')) : wp_X14_lawOf c way t s K := by
  obtain ⟨hL, ro, hF⟩ := h
  have hm := szs_mul ro.1.1
  have nr := nx_r (g := r 5) (c := c) (way := way) ro.1.1
  have x1 : nx (r 0 12) (r 0 13) (r 5) c way < 48 := by rcases nr with z | z <;> omega
  unfold wp_X14_lawOf
  refine sp_nextTo (by rw [hr 0 12 (by decide) (by decide), hr 0 13 (by decide) (by decide)]; exact ro.1.1) c0 c1 ?_
  rw [hr 0 12 (by decide) (by decide), hr 0 13 (by decide) (by decide), hr.row (o := 5) (by decide) (by decide)]
  intro s1 e1
  have hr1 : sameR r s1 := fun o j a b => by rw [e1, up_ne _ (by omega), hr o j a b]
  have z1 : s1 0 73 = 0 := by rw [e1, up_self]
  have rise : ∀ {u : Mh} {d : Int} {A : Int → Mh → Prop}, sameR r u → 0 ≤ d → d < 48 → A (F d t) u → wp_X14_riseIn d t u A := by
    intro u d A hu d0 d1 hA
    refine sp_riseIn (ro.thrown hu) d0 d1 t0 (by omega) ?_
    rw [lsum_sameR hu, hF d t d0 d1 t0 t1]
    exact hA
  rw [hr1 0 24 (by decide) (by decide)]
  by_cases l : r 0 24 = 0
  · rw [if_neg (fun z => z l)]
    refine rise hr1 hx x1 ?_
    have := hk s1 hr1
    unfold drv at this
    rw [if_pos (hL.2.2.2.1.mp l)] at this
    exact this z1
  · rw [if_pos l]
    have l20 : ¬ r 0 20 = 0 := fun z => l (hL.2.2.2.1.mpr z)
    refine rise hr1 hx x1 ?_
    intro s2 e2
    have hr2 : sameR r s2 := fun o j a b => by rw [e2, up_ne _ (by omega), hr1 o j a b]
    refine rise hr2 c0 c1 ?_
    intro s3 e3
    have hr3 : sameR r s3 := fun o j a b => by rw [e3, up_ne _ (by omega), hr2 o j a b]
    refine ⟨⟨hx, by omega⟩, ?_⟩
    rw [hr3.row (o := 5) (by decide) (by decide)]
    have okF : ∀ d, 0 ≤ d → d < 48 → okV (F d t) := by
      intro d d0 d1
      rw [← hF d t d0 d1 t0 t1]
      have := lsum_le ro d t
      unfold okV; omega
    have last : ∀ rd : Int, (rd = if r 5 (nx (r 0 12) (r 0 13) (r 5) c way) = 1 then 1 else 0) → ∀ s4, s4 = up s3 28 2 rd → ∀ s5, s5 = up s4 28 3 way → ∀ s6, s6 = up s5 28 4 t → Lfp (F_X14_lawOf c way t K) (97, [0], s6) := by
      intro rd erd s4 e4 s5 e5 s6 e6
      have hr6 : sameR r s6 := fun o j a b => by rw [e6, up_ne _ (by omega), e5, up_ne _ (by omega), e4, up_ne _ (by omega), hr3 o j a b]
      have rd01 : rd = 0 ∨ rd = 1 := by rw [erd]; split <;> omega
      refine sp_knots (nm := nmo (F (nx (r 0 12) (r 0 13) (r 5) c way) t) (F c t) rd way t) hL (by have := hL.2.1; omega) hr6 ?_ ?_ ?_ ?_
      · rw [e6, up_other (by decide), e5, up_other (by decide), e4, up_other (by decide), e3, up_other (by decide), e2, up_other (by decide)]; exact z1
      · intro j j0 j1
        have hj : j = 0 ∨ j = 1 ∨ j = 2 ∨ j = 3 ∨ j = 4 := by omega
        rcases hj with rfl | rfl | rfl | rfl | rfl
        · rw [e6, up_slot (by decide), e5, up_slot (by decide), e4, up_slot (by decide), e3, up_slot (by decide), e2, up_self]; rfl
        · rw [e6, up_slot (by decide), e5, up_slot (by decide), e4, up_slot (by decide), e3, up_self]; rfl
        · rw [e6, up_slot (by decide), e5, up_slot (by decide), e4, up_self]; rfl
        · rw [e6, up_slot (by decide), e5, up_self]; rfl
        · rw [e6, up_self]; rfl
      · intro j
        unfold nmo
        have k1 := okF _ hx x1
        have k2 := okF _ c0 c1
        split; assumption
        split; assumption
        split; unfold okV; omega
        split; unfold okV; omega
        unfold okV; omega
      · intro s' hs'
        have := hk s' hs'
        unfold drv at this
        rw [if_neg l20, ← erd] at this
        exact this
    by_cases y : r 5 (nx (r 0 12) (r 0 13) (r 5) c way) = 1
    · rw [if_neg (fun z => z y)]
      exact last 1 (by rw [if_pos y])
    · rw [if_pos y]
      exact last 0 (by rw [if_neg y])
