/-! ===== faults, numbers, ends of lines: both at once ===== -/
def rfC (e : Int) (q : Mh) : Mh := up (up q 46 2 e) 46 3 (q 49 9)
def wgR (e : Int) (r : Mh) : Mh := up (up r 0 4 e) 0 5 (r 0 10)
theorem run_refuse {e : Int} {q : Mh} {K : Int → Mh → Prop} (hk : K 0 (rfC e q)) : wp_X9_refuse e q K := by
  unfold wp_X9_refuse
  intro h1 q1 h2 q2
  rw [q2, show h1 49 9 = q 49 9 by rw [q1, up_other (by decide)], q1]
  exact hk
theorem run_wrong {e : Int} {r : Mh} {K : Int → Mh → Prop} (hk : K 0 (wgR e r)) : wp_X14_wrong e r K := by
  unfold wp_X14_wrong
  intro h1 q1 h2 q2
  rw [q2, show h1 0 10 = r 0 10 by rw [q1, up_slot (by decide)], q1]
  exact hk
/-- the reading ends with a fault -/
def PBad (q0 r0 q r : Mh) : Prop := fxC q0 q ∧ fxR r0 r ∧ q 46 2 = r 0 4 ∧ q 46 3 = r 0 5 ∧ ¬ r 0 4 = 0
theorem PBad.of {B : Int → Int} {n : Int} {m a : Nat} {q0 r0 q r : Mh} {e : Int} (h : PTok B n m a q r) (hc : fxC q0 q) (hr : fxR r0 r) (hp : isP (q0 46 1)) (e0 : ¬ e = 0) : PBad q0 r0 (rfC e q) (wgR e r) := by
  unfold rfC wgR
  refine ⟨fxC_up (fxC_up hc (Or.inl (by omega)) hp) (Or.inl (by omega)) hp, fxR_0 (fxR_0 hr (by omega)) (by omega), ?_, ?_, ?_⟩
  · rw [up_slot (by decide), up_self, up_slot (by decide), up_self]
  · rw [up_self, up_self]; exact h.see.1
  · rw [up_slot (by decide), up_self]; exact e0
theorem PTok.up11 {B : Int → Int} {n : Int} {m a : Nat} {q r : Mh} (h : PTok B n m a q r) {k v : Int} (hk : ¬ (6 ≤ k ∧ k ≤ 10)) : PTok B n m a q (up r 0 k v) :=
  h.same (fun _ _ _ => rfl) rfl rfl rfl (up_other (by decide)) (up_other (by decide)) (fun j a b => up_slot (by omega))
theorem PTok.upC {B : Int → Int} {n : Int} {m a : Nat} {q r : Mh} (h : PTok B n m a q r) {o k v : Int} (hk : ¬ (49 ≤ o ∧ o ≤ 52)) : PTok B n m a (up q o k v) r :=
  h.same (fun j _ _ => by rw [up_other (by omega)]) (up_other (by omega)) (up_other (by omega)) (up_other (by omega)) rfl rfl (fun _ _ _ => rfl)
theorem PTok.upR {B : Int → Int} {n : Int} {m a : Nat} {q r : Mh} (h : PTok B n m a q r) {o k v : Int} (hk : ¬ (0 ≤ o ∧ o ≤ 2)) : PTok B n m a q (up r o k v) :=
  h.same (fun _ _ _ => rfl) rfl rfl rfl (up_other (by omega)) (up_other (by omega)) (fun j _ _ => by rw [up_other (by omega)])
theorem PTok.step {B : Int → Int} {n : Int} {m a : Nat} {q r : Mh} (h : PTok B n m a q r) (am : a < m) : PTok B n m (a + 1) (advC q) (tokR r) := by
  have := h.adv
  unfold nxT at this
  rw [if_pos am] at this
  exact this
theorem tw_num {B : Int → Int} {n : Int} {m a : Nat} {q r : Mh} {lo hi : Int} (h : PTok B n m a q r) (h9 : hi ≤ 9999) :
    (∃ v, lo ≤ v ∧ v ≤ hi ∧ 0 ≤ v ∧ a < m ∧ PTok B n m (a + 1) (advC q) (tokR (up r 0 11 v)) ∧ (∀ K : Int → Mh → Prop, K v (advC q) → wp_X9_readNumber lo hi q K) ∧ (∀ K : Int → Mh → Prop, K 1 (tokR (up r 0 11 v)) → wp_X14_number lo hi r K)) ∨
    (∃ e : Int, ¬ e = 0 ∧ (∀ K : Int → Mh → Prop, K (-1) (rfC e q) → wp_X9_readNumber lo hi q K) ∧ (∀ K : Int → Mh → Prop, K 0 (wgR e r) → wp_X14_number lo hi r K)) := by
  obtain ⟨n1, n2⟩ := h.num
  by_cases z : q 49 8 = 1
  · obtain ⟨am, v0, v1, w0, w1, vw⟩ := n2 z
    have z3 := n1.mp z
    by_cases y : lo ≤ q 49 10 ∧ q 49 10 ≤ hi
    · left
      have eq : r 0 9 = q 49 10 := by omega
      refine ⟨q 49 10, y.1, y.2, v0, am, (h.up11 (by omega)).step am, ?_, ?_⟩
      · intro K hk
        unfold wp_X9_readNumber
        rw [if_pos z]
        intro x ex
        rw [ex, if_neg (by omega), if_pos y.2]
        exact h.runC hk
      · intro K hk
        unfold wp_X14_number wp_X14_isIn
        rw [if_pos z3, eq, if_neg (by omega), if_neg (by omega)]
        dsimp only
        rw [if_pos (by decide), eq]
        intro h2 q2
        rw [q2]
        exact (h.up11 (by omega)).runR hk
    · right
      refine ⟨2, by decide, ?_, ?_⟩
      · intro K hk
        unfold wp_X9_readNumber
        rw [if_pos z]
        intro x ex
        rw [ex]
        by_cases x1 : q 49 10 < lo
        · rw [if_pos x1]; exact run_refuse hk
        · rw [if_neg x1, if_neg (by omega)]; exact run_refuse hk
      · intro K hk
        unfold wp_X14_number wp_X14_isIn
        rw [if_pos z3]
        by_cases x1 : r 0 9 < lo
        · rw [if_pos x1]; dsimp only; rw [if_neg (by decide)]; exact run_wrong hk
        · rw [if_neg x1, if_pos (by omega)]; dsimp only; rw [if_neg (by decide)]; exact run_wrong hk
  · right
    refine ⟨1, by decide, ?_, ?_⟩
    · intro K hk
      unfold wp_X9_readNumber
      rw [if_neg z]; exact run_refuse hk
    · intro K hk
      unfold wp_X14_number
      rw [if_neg (fun y => z (n1.mpr y))]; exact run_wrong hk
theorem PTok.sgn {B : Int → Int} {n : Int} {m a : Nat} {q r : Mh} (h : PTok B n m a q r) {v w : Int} (hv : (v = 21 ∧ w = 59) ∨ (v = 19 ∧ w = 40) ∨ (v = 20 ∧ w = 41) ∨ (v = 16 ∧ w = 45)) : (q 49 8 = 4 ∧ q 49 10 = v ↔ r 0 8 = 4 ∧ r 0 9 = w) ∧ (q 49 8 = 4 ∧ q 49 10 = v → a < m) := by
  rcases h.see.2 with ⟨_, a1, a2⟩ | ⟨am, t⟩
  · exact ⟨by omega, fun z => by omega⟩
  · refine ⟨?_, fun _ => am⟩
    unfold tRel at t
    rcases t with t | t | t | t | t | t
    · omega
    · omega
    · omega
    · omega
    · omega
    · omega
/-- a sign, asked for by both -/
theorem tw_sign {B : Int → Int} {n : Int} {m a : Nat} {q r : Mh} (h : PTok B n m a q r) {v w : Int} (hv : (v = 21 ∧ w = 59) ∨ (v = 19 ∧ w = 40) ∨ (v = 20 ∧ w = 41) ∨ (v = 16 ∧ w = 45)) : ∃ b : Bool, (b = true → a < m) ∧ (∀ K : Int → Mh → Prop, K (b01 b) q → wp_X10_isSign v q K) ∧ (∀ K : Int → Mh → Prop, K (b01 b) r → wp_X14_isSign w r K) := by
  obtain ⟨s1, s2⟩ := h.sgn hv
  by_cases z : q 49 8 = 4 ∧ q 49 10 = v
  · have y := s1.mp z
    refine ⟨true, fun _ => s2 z, fun K hk => ?_, fun K hk => ?_⟩
    · unfold wp_X10_isSign; rw [if_neg (fun x => x z.1), if_neg (fun x => x z.2)]; exact hk
    · unfold wp_X14_isSign; rw [if_neg (fun x => x y.1), if_neg (fun x => x y.2)]; exact hk
  · have y : ¬ (r 0 8 = 4 ∧ r 0 9 = w) := fun x => z (s1.mpr x)
    refine ⟨false, fun x => (by cases x), fun K hk => ?_, fun K hk => ?_⟩
    · unfold wp_X10_isSign
      by_cases x : q 49 8 = 4
      · rw [if_neg (fun y => y x), if_pos (fun y => z ⟨x, y⟩)]; exact hk
      · rw [if_pos x]; exact hk
    · unfold wp_X14_isSign
      by_cases x : r 0 8 = 4
      · rw [if_neg (fun y => y x), if_pos (fun w => y ⟨x, w⟩)]; exact hk
      · rw [if_pos x]; exact hk
/-- a word, asked for by both -/
theorem tw_word {B : Int → Int} {n : Int} {m a : Nat} {q r : Mh} (h : PTok B n m a q r) {k : Nat} (hk : k < 22) : ∃ b : Bool, (b = true → a < m) ∧ (∀ K : Int → Mh → Prop, K (b01 b) q → wp_X10_isWord (ix k) q K) ∧ (∀ K : Int → Mh → Prop, K (b01 b) r → wp_X14_isKey k r K) := by
  obtain ⟨w1, w2⟩ := h.word
  have kr := ix_r k hk
  by_cases z : q 49 8 = 3
  · obtain ⟨am, i0, i1, i2⟩ := w2 z
    have y := w1.mp z
    have jr := ix_r (r 0 9).toNat (by omega)
    rw [show (((r 0 9).toNat : Nat) : Int) = r 0 9 by omega] at jr
    by_cases x : r 0 9 = k
    · refine ⟨true, fun _ => am, fun K hK => ?_, fun K hK => ?_⟩
      · unfold wp_X10_isWord; rw [if_neg (fun u => u z)]; refine ⟨kr, ?_⟩; rw [if_neg (fun u => u (by rw [i2, x]))]; exact hK
      · unfold wp_X14_isKey; rw [if_neg (fun u => u y), if_neg (fun u => u x)]; exact hK
    · refine ⟨false, fun u => (by cases u), fun K hK => ?_, fun K hK => ?_⟩
      · unfold wp_X10_isWord
        rw [if_neg (fun u => u z)]
        refine ⟨kr, ?_⟩
        rw [if_pos]
        · exact hK
        · intro u
          rw [i2] at u
          have e1 := wl_inj (ix (r 0 9)).toNat (by omega) (ix k).toNat (by omega) (by rw [show (((ix (r 0 9)).toNat : Nat) : Int) = ix (r 0 9) by omega, show (((ix k).toNat : Nat) : Int) = ix k by omega]; exact u)
          have e2 : ∀ i : Nat, i < 22 → ∀ j : Nat, j < 22 → (ix i).toNat = (ix j).toNat → i = j := by decide +kernel
          have e3 := e2 (r 0 9).toNat (by omega) k hk (by rw [show (((r 0 9).toNat : Nat) : Int) = r 0 9 by omega]; exact e1)
          omega
      · unfold wp_X14_isKey; rw [if_neg (fun u => u y), if_pos x]; exact hK
  · refine ⟨false, fun u => (by cases u), fun K hK => ?_, fun K hK => ?_⟩
    · unfold wp_X10_isWord; rw [if_pos z]; exact hK
    · unfold wp_X14_isKey; rw [if_pos (fun u => z (w1.mpr u))]; exact hK
