/-! ===== changes, seen through the views ===== -/
theorem qv_get {q : Mh} {o : Int} (hp : isP (q 46 1)) (a : q 46 1 ≤ o) (b : o ≤ q 46 1 + 39) : qv q o = q o := by
  unfold isP at hp
  funext j
  unfold qv
  rw [if_neg (by omega), if_neg (by omega), if_pos ⟨a, b⟩]
theorem qv_0 {q : Mh} : qv q 53 0 = q 46 1 := by
  unfold qv; rw [if_pos rfl, if_pos rfl]
theorem qv_up {q : Mh} {o k v : Int} (hp : isP (q 46 1)) (a : q 46 1 ≤ o) (b : o ≤ q 46 1 + 39) (c : ¬ (q 46 1 + 33 ≤ o ∧ o ≤ q 46 1 + 36)) (d : ¬ (o = q 46 1 ∧ k = 3)) : qv (up q o k v) = up (qv q) o k v := by
  unfold isP at hp
  have e1 : up q o k v 46 1 = q 46 1 := by rw [up_other (by omega)]
  funext x j
  by_cases z : x = o ∧ j = k
  · obtain ⟨z1, z2⟩ := z
    rw [z1, z2, up_self]
    unfold qv
    rw [e1, if_neg (by omega), if_neg (by omega), if_pos (by omega), up_self]
  · rw [up_ne (qv q) z]
    unfold qv
    rw [e1]
    by_cases x1 : x = 53
    · rw [if_pos x1, if_pos x1, up_ne _ (by omega)]
    rw [if_neg x1, if_neg x1]
    by_cases x2 : x = 0
    · rw [if_pos x2, if_pos x2]
    rw [if_neg x2, if_neg x2]
    by_cases x3 : q 46 1 ≤ x ∧ x ≤ q 46 1 + 39
    · rw [if_pos x3, if_pos x3, up_ne _ z]
    rw [if_neg x3, if_neg x3]
    by_cases x4 : 98 ≤ x ∧ x ≤ 101
    · rw [if_pos x4, if_pos x4, up_ne _ (by omega)]
    · rw [if_neg x4, if_neg x4]
theorem qv_scr {q : Mh} {o k v : Int} (hp : isP (q 46 1)) (a : 46 ≤ o) (b : o ≤ 52) (c : ¬ (o = 46 ∧ k = 1)) : qv (up q o k v) = qv q := by
  unfold isP at hp
  exact qv_same (up_ne _ (by omega)) (fun x y z => up_other (by omega))
theorem rv_sil {r s : Mh} (h : silR r s) : rv s = rv r := rv_same (fun j a b c d => h.2 j (by omega) d (by omega)) (h.1 3 (by decide)) (fun o a b => h.1 o (by omega))
theorem rv_scr {r : Mh} {k v : Int} (a : k < 25 ∨ 38 < k ∨ k = 36 ∨ k = 37) : rv (up r 0 k v) = rv r := rv_same (fun j b c d e => up_slot (by omega)) (up_other (by decide)) (fun o b c => up_other (by omega))
theorem rv_scr4 {r : Mh} {o k v : Int} (a : o = 4 ∨ o = 26 ∨ o = 27) : rv (up r o k v) = rv r := rv_same (fun j b c d e => by rw [up_other (by omega)]) (up_other (by omega)) (fun x b c => up_other (by omega))
theorem rv_once {r : Mh} {i v : Int} (i0 : 0 ≤ i) (i1 : i ≤ 2) : rv (up r 3 i v) = up (rv r) 0 (21 + i) v := by
  have o0 : ∀ o, ¬ o = 3 → up r 3 i v o = r o := fun o z => up_other z
  funext o j
  by_cases z : o = 0 ∧ j = 21 + i
  · rw [z.1, z.2, up_self]
    unfold rv
    have hc : i = 0 ∨ i = 1 ∨ i = 2 := by omega
    rcases hc with rfl | rfl | rfl
    · rw [if_pos rfl, if_pos (by decide), up_self]
    · rw [if_pos rfl, if_neg (by decide), if_pos (by decide), up_self]
    · rw [if_pos rfl, if_neg (by decide), if_neg (by decide), if_pos (by decide), up_self]
  · rw [up_ne _ z]
    unfold rv
    rw [o0 0 (by decide), o0 8 (by decide)]
    by_cases a : o = 0
    · rw [if_pos a, if_pos a]
      by_cases b1 : j = 21
      · rw [if_pos b1, if_pos b1, up_ne _ (by omega)]
      rw [if_neg b1, if_neg b1]
      by_cases b2 : j = 22
      · rw [if_pos b2, if_pos b2, up_ne _ (by omega)]
      rw [if_neg b2, if_neg b2]
      by_cases b3 : j = 23
      · rw [if_pos b3, if_pos b3, up_ne _ (by omega)]
      rw [if_neg b3, if_neg b3]
    · rw [if_neg a, if_neg a]
      by_cases b : 5 ≤ o ∧ o ≤ 25
      · rw [if_pos b, if_pos b, o0 o (by omega)]
      · rw [if_neg b, if_neg b]
/-- a count of the reading half that no other slot mirrors -/
theorem rv_cnt {r : Mh} {j v : Int} (a : 12 ≤ j) (b : j ≤ 20) (c : ¬ j = 17) (d : ¬ j = 18) : rv (up r 0 (j + 13) v) = up (rv r) 0 j v := by
  funext o k
  by_cases z : o = 0 ∧ k = j
  · rw [z.1, z.2, up_self]
    unfold rv
    rw [if_pos rfl, if_neg (by omega), if_neg (by omega), if_neg (by omega), if_neg (by omega), if_neg (by omega), if_neg (by omega), if_pos ⟨a, b⟩, up_self]
  · rw [up_ne _ z]
    unfold rv
    rw [up_slot (j := 38) (by omega), up_slot (j := 30) (by omega), up_slot (j := 31) (by omega), up_other (b := 3) (by decide), up_other (b := 8) (by decide)]
    by_cases x : o = 0
    · rw [if_pos x, if_pos x]
      by_cases y : 12 ≤ k ∧ k ≤ 20
      · rw [if_pos y, if_pos y, up_slot (j := k + 13) (by omega)]
      · rw [if_neg y, if_neg y]
        by_cases w : k = 34 ∨ k = 35
        · rw [if_pos w, if_pos w, up_slot (j := k) (by omega)]
        · rw [if_neg w, if_neg w]
    · rw [if_neg x, if_neg x]
      by_cases y : 5 ≤ o ∧ o ≤ 25
      · rw [if_pos y, if_pos y, up_other (b := o) (by omega)]
      · rw [if_neg y, if_neg y]
/-- an array of the reading half -/
theorem rv_arr {r : Mh} {o k v : Int} (a : 5 ≤ o) (b : o ≤ 25) (c : ¬ o = 8) : rv (up r o (off o + k) v) = up (rv r) o k v := by
  funext x j
  by_cases z : x = o ∧ j = k
  · rw [z.1, z.2, up_self]
    unfold rv
    rw [if_neg (by omega), if_pos ⟨a, b⟩, up_self]
  · rw [up_ne _ z]
    unfold rv
    rw [up_other (b := 0) (by omega), up_other (b := 3) (by omega), up_other (b := 8) (by omega)]
    by_cases y : x = 0
    · rw [if_pos y, if_pos y]
    rw [if_neg y, if_neg y]
    by_cases w : 5 ≤ x ∧ x ≤ 25
    · rw [if_pos w, if_pos w]
      by_cases u : x = o
      · rw [u, up_slot (by omega)]
      · rw [up_other (b := x) u]
    · rw [if_neg w, if_neg w]
/-! ===== between two lines ===== -/
def PR (B : Int → Int) (n : Int) (m a : Nat) (q0 r0 q r : Mh) : Prop := PTok B n m a q r ∧ PFlag q r ∧ PP (qv q) (rv r) ∧ (r 0 37 = 0 → PEmp (qv q) (rv r)) ∧ fxC q0 q ∧ fxR r0 r
/-- what comes of a line: a fault, or the next token -/
def LineOut (wc : (Int → Mh → Prop) → Prop) (B : Int → Int) (n : Int) (m a : Nat) (q0 r0 r : Mh) : Prop :=
  (∃ q' r', PBad q0 r0 q' r' ∧ (∀ K : Int → Mh → Prop, K 0 q' → wc K) ∧ (∀ K : Int → Mh → Prop, K 0 r' → wp_X14_lineRead r K)) ∨
  (∃ a' q' r', a < a' ∧ PR B n m a' q0 r0 q' r' ∧ (∀ K : Int → Mh → Prop, K 1 q' → wc K) ∧ (∀ K : Int → Mh → Prop, Lfp (F_X14_lineRead K) (458, [1], r') → wp_X14_lineRead r K))
theorem run_458_0 {r : Mh} {K : Int → Mh → Prop} (hk : K 0 r) : Lfp (F_X14_lineRead K) (458, [0], r) := by
  apply L_X14_lineRead_458
  unfold B_X14_lineRead_458
  rw [if_neg (by decide)]
  exact hk
