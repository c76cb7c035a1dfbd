/-! ===== worlds that are being laid ===== -/
def XP (sh : Int → Nat × Nat) (z : Mz) (n : Nat) : Mx := (z.1, z.2.1, z.2.2.1, fun i => if i < (n : Int) then sh i else (99, 0), fun _ _ => -1, n, z.2.2.2.1, z.2.2.2.2.1, z.2.2.2.2.2)
def avk (n : Nat) (v : Mv) : Prop := mok v ∧ v.1 ≤ 2 ∧ (v.1 = 2 → v.2 < (n : Int))
def alen (q : Nat × Nat) : Nat := if q.1 < 13 then mnf q.1 else q.2
def aty (q : Nat × Nat) (j : Nat) : FieldType := if q.1 < 13 then mty q.1 j else mel q.1
/-- what the cells hold while they are laid: no reference leads beyond them -/
def aok (sh : Int → Nat × Nat) (n : Nat) (h : Mh) : Prop := ∀ i : Nat, i < n → (∀ j : Nat, j < alen (sh i) → mokT (aty (sh i) j) (h i j) ∧ (mtag (aty (sh i) j) = 2 → h i j < (n : Int))) ∧ ((sh i).1 = 17 → ∀ j : Int, h i j < (n : Int))
def zle (z z' : Mz) (n : Nat) : Prop := z'.1 = z.1 ∧ z'.2.1 = z.2.1 ∧ z'.2.2.2 = z.2.2.2 ∧ ∀ i : Int, i < (n : Int) → z'.2.2.1 i = z.2.2.1 i
theorem zle.refl (z : Mz) (n : Nat) : zle z z n := ⟨rfl, rfl, rfl, fun _ _ => rfl⟩
theorem zle.trans {z z' z'' : Mz} {n n' : Nat} (h1 : zle z z' n) (h2 : zle z' z'' n') (hn : n ≤ n') : zle z z'' n := ⟨h2.1.trans h1.1, h2.2.1.trans h1.2.1, h2.2.2.1.trans h1.2.2.1, fun i hi => by rw [h2.2.2.2 i (by omega), h1.2.2.2 i hi]⟩
theorem XP_S {sh : Int → Nat × Nat} {z : Mz} {n : Nat} {i : Int} (h : i < (n : Int)) : mxS (XP sh z n) i = sh i := by
  show (if i < (n : Int) then sh i else (99, 0)) = sh i
  rw [if_pos h]
theorem avk.le {n n' : Nat} {v : Mv} (h : avk n v) (hn : n ≤ n') : avk n' v := ⟨h.1, h.2.1, fun q => by have := h.2.2 q; omega⟩
theorem mtag_le (t : FieldType) : mtag t ≤ 2 := by unfold mtag; split <;> decide
theorem mcv_le {sh : Int → Nat × Nat} {z z' : Mz} {n n' : Nat} {v : Mv} (hv : avk n v) (hz : zle z z' n) : mcv (XP sh z' n') v = mcv (XP sh z n) v := by
  obtain ⟨t, x⟩ := v
  have ht : t = 0 ∨ t = 1 ∨ t = 2 := by have := hv.2.1; omega
  rcases ht with rfl | rfl | rfl
  · rfl
  · rfl
  · show (if x < 0 then Value.null else .ref (z'.2.2.1 x)) = (if x < 0 then Value.null else .ref (z.2.2.1 x))
    rw [hz.2.2.2 x (hv.2.2 rfl)]
theorem mE_le {sh : Int → Nat × Nat} {z z' : Mz} {n n' : Nat} {h : Mh} {i : Nat} (hi : i < n) (ho : aok sh n h) (hz : zle z z' n) : mE (XP sh z' n') (sh i) (h i) = mE (XP sh z n) (sh i) (h i) := by
  have hC : mxC (XP sh z' n') = mxC (XP sh z n) := hz.2.1
  obtain ⟨o1, o2⟩ := ho i hi
  unfold mE
  by_cases a : (sh i).1 < 13
  · rw [if_pos a, if_pos a]
    have e : mobj (XP sh z' n') (sh i).1 (h i) = mobj (XP sh z n) (sh i).1 (h i) := by
      unfold mobj
      refine List.map_congr_left (fun j hj => ?_)
      have hj' : j < mnf (sh i).1 := List.mem_range.mp hj
      have b := o1 j (by unfold alen; rw [if_pos a]; exact hj')
      unfold aty at b
      rw [if_pos a] at b
      exact mcv_le ⟨mokT_ok b.1, mtag_le _, b.2⟩ hz
    rw [e]
  · rw [if_neg a, if_neg a, hC]
    by_cases b : (sh i).1 = 15
    · rw [if_pos b, if_pos b]
    · rw [if_neg b, if_neg b]
      by_cases d : (sh i).1 = 17
      · rw [if_pos d, if_pos d]
        have ef : (fun j : Nat => if h i j < 0 then none else some (mxA (XP sh z' n') (h i j))) = (fun j : Nat => if h i j < 0 then none else some (mxA (XP sh z n) (h i j))) := by
          funext j
          show (if h i j < 0 then none else some (z'.2.2.1 (h i j))) = (if h i j < 0 then none else some (z.2.2.1 (h i j)))
          rw [hz.2.2.2 _ (o2 d j)]
        rw [ef]
      · rw [if_neg d, if_neg d]
theorem mW_le {sh : Int → Nat × Nat} {z z' : Mz} {n n' : Nat} {h : Mh} (ho : aok sh n h) (hz : zle z z' n) (hn : n ≤ n') : (List.range n).map (fun i : Nat => (mxA (XP sh z' n') i, mE (XP sh z' n') (mxS (XP sh z' n') i) (h i))) = mW (XP sh z n) h := by
  unfold mW
  refine List.map_congr_left (fun i hi => ?_)
  have hi' : i < n := List.mem_range.mp hi
  rw [XP_S (by omega), XP_S (by omega), mE_le hi' ho hz]
  show (z'.2.2.1 i, _) = (z.2.2.1 i, _)
  rw [hz.2.2.2 i (by omega)]
theorem mW_one {sh : Int → Nat × Nat} {z z' : Mz} {n : Nat} {h : Mh} (ho : aok sh n h) (hz : zle z z' n) : mW (XP sh z' (n + 1)) h = mW (XP sh z n) h ++ [(z'.2.2.1 n, mE (XP sh z' (n + 1)) (sh n) (h n))] := by
  rw [← mW_le (n' := n + 1) ho hz (by omega)]
  show (List.range (n + 1)).map _ = _
  rw [List.range_succ, List.map_append]
  congr 1
  show [(mxA (XP sh z' (n + 1)) (n : Int), mE (XP sh z' (n + 1)) (mxS (XP sh z' (n + 1)) (n : Int)) (h n))] = _
  rw [XP_S (by omega)]
  rfl
theorem aok_up {sh : Int → Nat × Nat} {n : Nat} {h : Mh} (ho : aok sh n h) {i : Nat} {k v : Int} (hi : i < n) (h0 : 0 ≤ k) (hv : mokT (aty (sh i) k.toNat) v) (hr : v < (n : Int) ∨ (mtag (aty (sh i) k.toNat) ≠ 2 ∧ (sh i).1 ≠ 17)) : aok sh n (up h i k v) := by
  intro j hj
  obtain ⟨o1, o2⟩ := ho j hj
  refine ⟨fun x hx => ?_, fun h17 x => ?_⟩
  · by_cases e : (j : Int) = i ∧ (x : Int) = k
    · obtain ⟨e1, e2⟩ := e
      have e3 : j = i := by omega
      have e4 : x = k.toNat := by omega
      subst e3 e4
      rw [e2, up_same]
      exact ⟨hv, fun q => by rcases hr with r | r; exact r; exact absurd q r.1⟩
    · rw [up_ne h e]; exact o1 x hx
  · by_cases e : (j : Int) = i ∧ x = k
    · obtain ⟨e1, e2⟩ := e
      have e3 : j = i := by omega
      subst e3
      rw [e2, up_same]
      rcases hr with r | r
      · exact r
      · exact absurd h17 r.2
    · rw [up_ne h e]; exact o2 h17 x
/-- what a new cell holds -/
def dfl (sh : Int → Nat × Nat) (o j : Int) : Int := if 0 ≤ j ∧ mtag (aty (sh o) j.toNat) = 2 then -1 else 0
theorem aok_new {sh : Int → Nat × Nat} {n : Nat} {h : Mh} (ho : aok sh n h) (hn : ∀ j : Int, h n j = dfl sh n j) : aok sh (n + 1) h := by
  intro j hj
  by_cases e : j = n
  · subst e
    refine ⟨fun x hx => ?_, fun h17 x => ?_⟩
    · rw [hn]
      unfold dfl
      rw [Int.toNat_natCast]
      by_cases t : mtag (aty (sh j) x) = 2
      · rw [if_pos ⟨by omega, t⟩]
        refine ⟨?_, fun _ => by omega⟩
        revert t
        unfold mtag mokT
        cases aty (sh j) x <;> simp
      · rw [if_neg (fun y => t y.2)]
        refine ⟨?_, fun q => absurd q t⟩
        revert t
        unfold mtag mokT r64 r32
        cases aty (sh j) x <;> simp
    · rw [hn]
      unfold dfl
      split <;> omega
  · obtain ⟨o1, o2⟩ := ho j (by omega)
    exact ⟨fun x hx => ⟨(o1 x hx).1, fun q => by have := (o1 x hx).2 q; omega⟩, fun h17 x => by have := o2 h17 x; omega⟩
/-- what a method that lays cells stands on -/
def aC (sh : Int → Nat × Nat) (z : Mz) (n : Nat) (p : Program) (l : Launch) (e : Env) (R : Room) (s : State) (m : MethodId) (args : Array Value) (below : List Frame) (meth : Method) (c : Code) (cc : ByteArray) (nL : Nat) (own : String) : Prop :=
  mC (XP sh z n) p l e R s m args below meth c cc nL own ∧ va_AO RX7 s ∧ meth.name = "<init>"
def aG (sh : Int → Nat × Nat) (z : Mz) (n : Nat) (p : Program) (l : Launch) (e : Env) (R : Room) (s : State) (m : MethodId) (args : Array Value) (below : List Frame) (meth : Method) (c : Code) (nL : Nat) (Q : State → Prop) (cells slots pc : Nat) (lo : List (Nat × Mv)) (st : List Mv) (h : Mh) : Prop :=
  ∀ (H : Heap) (locs : List Loc) (ls : Array Slot), (∀ v ∈ st, avk n v) → (∀ q ∈ lo, avk n q.2) → aok sh n h → va_P (mxD (XP sh z n)) mcl (mW (XP sh z n) h) H → va_S (mA (XP sh z n) s.heap.size) s.heap H locs → lv_has ls nL (lo.map fun q => (q.1, mcv (XP sh z n) q.2)) →
    W p l e R s m args below meth c H locs cells slots Q (F0 m pc ls (st.map (mcv (XP sh z n))))
theorem mA_le {sh : Int → Nat × Nat} {z z' : Mz} {n n' : Nat} {sz : Nat} (hz : zle z z' n) (hf : ∀ i : Nat, n ≤ i → i < n' → sz ≤ z'.2.2.1 i) {q : Nat} (hq : mA (XP sh z' n') sz q) : mA (XP sh z n) sz q := by
  rcases hq with ⟨i, h1, h2⟩ | hq
  · have h1' : i < n' := h1
    by_cases t : i < n
    · refine Or.inl ⟨i, t, ?_⟩
      rw [h2]
      exact hz.2.2.2 i (by omega)
    · right
      rw [h2]
      exact hf i (by omega) h1'
  · exact Or.inr hq
theorem mA_ge {sh : Int → Nat × Nat} {z z' : Mz} {n n' : Nat} {sz : Nat} (hz : zle z z' n) (hn : n ≤ n') {q : Nat} (hq : mA (XP sh z n) sz q) : mA (XP sh z' n') sz q := by
  rcases hq with ⟨i, h1, h2⟩ | hq
  · have h1' : i < n := h1
    refine Or.inl ⟨i, show i < n' by omega, ?_⟩
    rw [h2]
    exact (hz.2.2.2 i (by omega)).symm
  · exact Or.inr hq
theorem aC.go {sh : Int → Nat × Nat} {z z' : Mz} {n n' : Nat} {p : Program} {l : Launch} {e : Env} {R : Room} {s : State} {m : MethodId} {args : Array Value} {below : List Frame} {meth : Method} {c : Code} {cc : ByteArray} {nL : Nat} {own : String} (C : aC sh z n p l e R s m args below meth c cc nL own) (hz : zle z z' n) (hf : ∀ i : Nat, n ≤ i → i < n' → s.heap.size ≤ z'.2.2.1 i) (hI : mInj (XP sh z' n')) : aC sh z' n' p l e R s m args below meth c cc nL own := by
  obtain ⟨⟨hx, hb, hml, hown, hts, hK, _, hN, hT, hlk⟩, hA, hnm⟩ := C
  refine ⟨⟨hx, hb, hml, hown, hts, ?_, hI, hN, ?_, hlk⟩, hA, hnm⟩
  · show va_K z'.1 mcl (mtys (XP sh z' n')) s
    have e : mtys (XP sh z' n') = mtys (XP sh z n) := by
      show [(z'.2.1 13, _), (z'.2.1 14, _), (z'.2.1 15, _), (z'.2.1 16, _), (z'.2.1 17, _)] = [(z.2.1 13, _), (z.2.1 14, _), (z.2.1 15, _), (z.2.1 16, _), (z.2.1 17, _)]
      rw [hz.2.1]
    rw [e, hz.1]; exact hK
  · have h2 : mST (XP sh z' n') (mA (XP sh z n) s.heap.size) s s.heap := by
      have hE : mxE (XP sh z' n') = mxE (XP sh z n) := by show z'.2.2.2.1 = z.2.2.2.1; rw [hz.2.2.1]
      have hT1 : mxT (XP sh z' n') = mxT (XP sh z n) := by show z'.2.2.2.2.1 = z.2.2.2.2.1; rw [hz.2.2.1]
      have hM1 : mxM (XP sh z' n') = mxM (XP sh z n) := by show z'.2.2.2.2.2 = z.2.2.2.2.2; rw [hz.2.2.1]
      unfold mST at hT ⊢
      rw [hE, hT1, hM1]; exact hT
    exact h2.narrow (fun q hq => mA_le hz hf hq)
