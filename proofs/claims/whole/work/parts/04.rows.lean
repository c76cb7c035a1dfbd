/-! ===== the machine over the plain memory: judgement and rows ===== -/
def mtb : List Cond := lw_tbl.filter goodWord
def mnest (w : Cond) : Bool := match w with
  | .fieldLinkNest .. => true
  | .methodLinkNest .. => true
  | _ => false
def mNs (U : State) : Prop := ∀ w ∈ lw_tbl.filter mnest, va_Nw w U
theorem mNs.warm {s U : State} (hW : s.WarmedH U.vm) (h : mNs s) : mNs U := by
  intro w hw
  have h1 := h w hw
  have h2 := (List.mem_filter.mp hw).2
  cases w <;> first | exact va_Nw.warmF hW h1 | exact va_Nw.warmM hW h1 | exact absurd h2 (by simp [mnest])
theorem mNs.same {u U : State} (hv : u.vm = U.vm) (h : mNs u) : mNs U := by
  intro w hw
  have h1 := h w hw
  have h2 := (List.mem_filter.mp hw).2
  cases w <;> first | exact va_Nw.same rfl hv h1 | exact absurd h2 (by simp [mnest])
def mWn : List String := ["POND", "LAND", "REED", "SHORE", "KIND", "ODDS", "CORK", "SKATER", "DROP", "LOSS", "THICK", "SENT", "LAW", "MAY", "OR", "AND", "NOT", "RISE", "HERE", "REEDS", "WAY", "STEP"]
def mWl : List Int32 := [553062400, 404164608, 609390592, 646432928, 378998784, 507661312, 116993024, 649121970, 153600000, 419023872, 679775584, 643256320, 404455424, 438075392, 522190848, 48365568, 486146048, 614044672, 274273280, 609391200, 773619712, 658685952]
def mWc : List Int32 := [-1, -1, -1, -1, -1, -1, -1, -1, -1, -1, -1, -1, -1, -1, 7, 8, 6, 1, 2, 3, 4, 5]
def mWo : List Int32 := [0, 1, 2, 3, 4, 5, 6, 7, 8, 9, 10, 11, 12, 13, 14, 15, 16, 17, 18, 19, 20, 21]
def mWF : List (String × String × String × List Int32) := [("PondReader$Word", "letters", "I", mWl), ("PondReader$Word", "code", "I", mWc), ("java/lang/Enum", "ordinal", "I", mWo)]
def mSm : List Int32 := [1, 2, 3, 4, 5, 0, 6, 7, 8, 9, 10, 11, 12, 13, 0, 0, 0, 0, 0, 0, 0, 0]
/-- the enum's constants, their row, the switch's row: nobody writes them -/
def mST (X : Mx) (A : Nat → Prop) (U : State) (H : Heap) : Prop :=
  va_En "PondReader$Word" "LPondReader$Word;" mWn mWF (mxE X) A U H ∧ va_Z "PondReader$Word" "ALL" "[LPondReader$Word;" (.ref (mxT X)) A U H ∧ va_T (.object "PondReader$Word") (mxT X) 22 (fun j => .ref (mxE X j)) A U H ∧
  va_Z "PondReader$1" "$SwitchMap$PondReader$Word" "[I" (.ref (mxM X)) A U H ∧ va_T .int (mxM X) 22 (fun j => .int (mSm.getD j 0)) A U H
theorem mST.moved {X : Mx} {A : Nat → Prop} {u U : State} {H : Heap} (hvm : u.vm.Alike U.vm) (h : mST X A u H) : mST X A U H := ⟨h.1.moved hvm, h.2.1.moved hvm, h.2.2.1.moved hvm, h.2.2.2.1.moved hvm, h.2.2.2.2.moved hvm⟩
theorem mST.kept {X : Mx} {A : Nat → Prop} {U : State} {H H1 : Heap} (h : mST X A U H) (hq : ∀ a : Nat, a < H.size → ¬ A a → H1[a]? = H[a]?) : mST X A U H1 := ⟨h.1.kept hq, h.2.1.kept hq, h.2.2.1.kept hq, h.2.2.2.1.kept hq, h.2.2.2.2.kept hq⟩
theorem mST.narrow {X : Mx} {A B : Nat → Prop} {U : State} {H : Heap} (h : mST X A U H) (hAB : ∀ q, B q → A q) : mST X B U H := ⟨h.1.narrow hAB, h.2.1.narrow hAB, h.2.2.1.narrow hAB, h.2.2.2.1.narrow hAB, h.2.2.2.2.narrow hAB⟩
def mC (X : Mx) (p : Program) (l : Launch) (e : Env) (R : Room) (s : State) (m : MethodId) (args : Array Value) (below : List Frame) (meth : Method) (c : Code) (cc : ByteArray) (nL : Nat) (own : String) : Prop :=
  p.tables.exec = Jvm.exec ∧ c.code = cc ∧ c.maxLocals = nL ∧ s.vm.findClass own = some m.cls ∧ (∀ w ∈ mtb, w.before args s = true) ∧ va_K (mxD X) mcl (mtys X) s ∧ mInj X ∧ mNs s ∧ mST X (mA X s.heap.size) s s.heap ∧ meth.locks = false
def mG (X : Mx) (p : Program) (l : Launch) (e : Env) (R : Room) (s : State) (m : MethodId) (args : Array Value) (below : List Frame) (meth : Method) (c : Code) (nL : Nat) (Q : State → Prop) (pc : Nat) (lo : List (Nat × Mv)) (st : List Mv) (h : Mh) : Prop :=
  ∀ (H : Heap) (locs : List Loc) (ls : Array Slot), (∀ v ∈ st, mok v) → (∀ q ∈ lo, mok q.2) → mokH X h → va_P (mxD X) mcl (mW X h) H → va_S (mA X s.heap.size) s.heap H locs → lv_has ls nL (lo.map fun q => (q.1, mcv X q.2)) →
    W p l e R s m args below meth c H locs 0 0 Q (F0 m pc ls (st.map (mcv X)))
theorem mok_cons {v : Mv} {st : List Mv} (h1 : mok v) (h2 : ∀ w ∈ st, mok w) : ∀ w ∈ v :: st, mok w := fun w hw => by
  rcases List.mem_cons.mp hw with q | q
  · exact q ▸ h1
  · exact h2 w q
theorem mok_tl {v : Mv} {st : List Mv} (h : ∀ w ∈ v :: st, mok w) : ∀ w ∈ st, mok w := fun w hw => h w (List.mem_cons_of_mem _ hw)
theorem mok_hd {v : Mv} {st : List Mv} (h : ∀ w ∈ v :: st, mok w) : mok v := h v List.mem_cons_self
theorem mlook {lo : List (Nat × Mv)} {i : Nat} {v : Mv} (h : lo.lookup i = some v) : (i, v) ∈ lo := by
  induction lo with
  | nil => simp at h
  | cons q t ih =>
    obtain ⟨a, b⟩ := q
    rw [List.lookup_cons] at h
    by_cases e : (i == a) = true
    · rw [e] at h
      have : i = a := by simpa using e
      subst this
      cases h
      exact List.mem_cons_self
    · have e2 : (i == a) = false := by simpa using e
      rw [e2] at h
      exact List.mem_cons_of_mem _ (ih h)
theorem lv_mono {ls : Array Slot} {nL : Nat} {l l' : List (Nat × Value)} (h : lv_has ls nL l) (hs : ∀ q ∈ l', q ∈ l) : lv_has ls nL l' := ⟨h.1, h.2.1, fun q hq => h.2.2 q (hs q hq)⟩
theorem lv_get {X : Mx} {ls : Array Slot} {nL : Nat} {lo : List (Nat × Mv)} (h : lv_has ls nL (lo.map fun q => (q.1, mcv X q.2))) {i : Nat} {v : Mv} (hk : lo.lookup i = some v) : ls[i]? = some (.val (mcv X v)) :=
  h.2.2 (i, mcv X v) (List.mem_map.mpr ⟨(i, v), mlook hk, rfl⟩)
/-- locals behind a store of one word, of two -/
def mst (lo : List (Nat × Mv)) (i : Nat) (v : Mv) : List (Nat × Mv) := (i, v) :: lo.filter (fun q => !(q.1 == i) && !(q.1 + 1 == i && q.2.1 == 1))
def mst2 (lo : List (Nat × Mv)) (i : Nat) (v : Mv) : List (Nat × Mv) := (i, v) :: lo.filter (fun q => !(q.1 == i) && (!(q.1 == i + 1) && !(q.1 + 1 == i && q.2.1 == 1)))
theorem mcat {X : Mx} {v : Mv} : (mcv X v).category = 2 → v.1 = 1 := by
  obtain ⟨t, x⟩ := v
  unfold mcv
  intro h
  split at h <;> first | assumption | (split at h <;> simp [Value.category] at h) | simp [Value.category] at h
theorem mst_ok {lo : List (Nat × Mv)} {i : Nat} {v : Mv} (h1 : mok v) (h2 : ∀ q ∈ lo, mok q.2) : ∀ q ∈ mst lo i v, mok q.2 := fun q hq => by
  rcases List.mem_cons.mp hq with e | e
  · exact e ▸ h1
  · exact h2 q (List.mem_filter.mp e).1
theorem mst2_ok {lo : List (Nat × Mv)} {i : Nat} {v : Mv} (h1 : mok v) (h2 : ∀ q ∈ lo, mok q.2) : ∀ q ∈ mst2 lo i v, mok q.2 := fun q hq => by
  rcases List.mem_cons.mp hq with e | e
  · exact e ▸ h1
  · exact h2 q (List.mem_filter.mp e).1
theorem mst_in {X : Mx} {lo : List (Nat × Mv)} {i : Nat} {v : Mv} : ∀ q ∈ (mst lo i v).map (fun q => (q.1, mcv X q.2)), q ∈ (i, mcv X v) :: (lo.map fun q => (q.1, mcv X q.2)).filter (fun q => !(q.1 == i) && !(q.1 + 1 == i && q.2.category == 2)) := by
  intro q hq
  obtain ⟨r, hr, rfl⟩ := List.mem_map.mp hq
  rcases List.mem_cons.mp hr with e | e
  · exact e ▸ List.mem_cons_self
  · obtain ⟨e1, e2⟩ := List.mem_filter.mp e
    refine List.mem_cons_of_mem _ (List.mem_filter.mpr ⟨List.mem_map.mpr ⟨r, e1, rfl⟩, ?_⟩)
    by_cases e3 : (mcv X r.2).category = 2
    · have := mcat e3
      simp_all
    · simp_all
theorem mst2_in {X : Mx} {lo : List (Nat × Mv)} {i : Nat} {v : Mv} : ∀ q ∈ (mst2 lo i v).map (fun q => (q.1, mcv X q.2)), q ∈ (i, mcv X v) :: (lo.map fun q => (q.1, mcv X q.2)).filter (fun q => !(q.1 == i) && (!(q.1 == i + 1) && !(q.1 + 1 == i && q.2.category == 2))) := by
  intro q hq
  obtain ⟨r, hr, rfl⟩ := List.mem_map.mp hq
  rcases List.mem_cons.mp hr with e | e
  · exact e ▸ List.mem_cons_self
  · obtain ⟨e1, e2⟩ := List.mem_filter.mp e
    refine List.mem_cons_of_mem _ (List.mem_filter.mpr ⟨List.mem_map.mpr ⟨r, e1, rfl⟩, ?_⟩)
    by_cases e3 : (mcv X r.2).category = 2
    · have := mcat e3
      simp_all
    · simp_all
def mpick (lo : List (Nat × Mv)) (ks : List Nat) : List (Nat × Mv) := ks.filterMap fun i => (lo.lookup i).map fun v => (i, v)
theorem mpick_in {lo lo' : List (Nat × Mv)} {ks : List Nat} (h : mpick lo ks = lo') : ∀ q ∈ lo', q ∈ lo := by
  subst h
  intro q hq
  obtain ⟨i, -, hi⟩ := List.mem_filterMap.mp hq
  cases hv : lo.lookup i with
  | none => rw [hv] at hi; cases hi
  | some v => rw [hv] at hi; cases hi; exact mlook hv
theorem mcat1 {X : Mx} {v : Mv} (h : ¬ v.1 = 1) : (mcv X v).category = 1 := (lv_cat (mcv X v)).resolve_right (fun q => h (mcat q))
theorem mref (X : Mx) {t : Nat} (x : Int) (ht : 2 ≤ t) : (∃ a, mcv X (t, x) = .ref a) ∨ mcv X (t, x) = .null := by
  unfold mcv
  dsimp only
  split
  · omega
  · omega
  · split
    · exact Or.inr rfl
    · exact Or.inl ⟨_, rfl⟩
  · split
    · exact Or.inr rfl
    · exact Or.inl ⟨_, rfl⟩
  · exact Or.inl ⟨_, rfl⟩
theorem mref_pos (X : Mx) {t : Nat} {x : Int} (hx : 0 ≤ x) (ht : 2 ≤ t ∧ t ≤ 3) : ∃ a, mcv X (t, x) = .ref a := by
  have : t = 2 ∨ t = 3 := by omega
  rcases this with rfl | rfl
  · exact ⟨mxA X x, by simp [mcv, Int.not_lt.mpr hx]⟩
  · exact ⟨mxE X x.toNat, by simp [mcv, Int.not_lt.mpr hx]⟩
theorem mref_neg (X : Mx) {t : Nat} {x : Int} (hx : x < 0) (ht : 2 ≤ t ∧ t ≤ 3) : mcv X (t, x) = .null := by
  have : t = 2 ∨ t = 3 := by omega
  rcases this with rfl | rfl <;> simp [mcv, hx]
section MG
variable {X : Mx} {p : Program} {l : Launch} {e : Env} {R : Room} {s : State} {m : MethodId} {args : Array Value} {below : List Frame} {meth : Method} {c : Code} {cc : ByteArray} {nL : Nat} {own : String} {Q : State → Prop} {pc : Nat} {lo : List (Nat × Mv)} {st : List Mv} {h : Mh}
/-- fewer locals -/
theorem g_sub {lo' : List (Nat × Mv)} (ks : List Nat) (hk : mpick lo ks = lo') (k : mG X p l e R s m args below meth c nL Q pc lo' st h) : mG X p l e R s m args below meth c nL Q pc lo st h := by
  intro H locs ls hs hl hh hP hS hv
  refine k H locs ls hs (fun q hq => hl q (mpick_in hk q hq)) hh hP hS (lv_mono hv ?_)
  intro q hq
  obtain ⟨r, hr, rfl⟩ := List.mem_map.mp hq
  exact List.mem_map.mpr ⟨r, mpick_in hk r hr, rfl⟩
theorem g_iconst (C : mC X p l e R s m args below meth c cc nL own) {n : Int} (hr : r32 n) (hd : decode cc pc = .ok (.iconst n, 1)) (k : mG X p l e R s m args below meth c nL Q (pc + 1) lo ((0, n) :: st) h) : mG X p l e R s m args below meth c nL Q pc lo st h := by
  intro H locs ls hs hl hh hP hS hv
  refine lv_iconst (v := Int32.ofInt n) C.1 C.2.1 hd rfl ?_
  exact k H locs ls (mok_cons hr hs) hl hh hP hS hv
theorem g_bipush (C : mC X p l e R s m args below meth c cc nL own) {n : Int} (hr : r32 n) (hv : (Int8.ofInt n).toInt32 = Int32.ofInt n) (hd : decode cc pc = .ok (.bipush n, 2)) (k : mG X p l e R s m args below meth c nL Q (pc + 2) lo ((0, n) :: st) h) : mG X p l e R s m args below meth c nL Q pc lo st h := by
  intro H locs ls hs hl hh hP hS hv
  refine lv_bipush (v := Int32.ofInt n) C.1 C.2.1 hd ‹(Int8.ofInt n).toInt32 = Int32.ofInt n› ?_
  exact k H locs ls (mok_cons hr hs) hl hh hP hS hv
theorem g_sipush (C : mC X p l e R s m args below meth c cc nL own) {n : Int} (hr : r32 n) (hv : (Int16.ofInt n).toInt32 = Int32.ofInt n) (hd : decode cc pc = .ok (.sipush n, 3)) (k : mG X p l e R s m args below meth c nL Q (pc + 3) lo ((0, n) :: st) h) : mG X p l e R s m args below meth c nL Q pc lo st h := by
  intro H locs ls hs hl hh hP hS hv
  refine lv_sipush (v := Int32.ofInt n) C.1 C.2.1 hd ‹(Int16.ofInt n).toInt32 = Int32.ofInt n› ?_
  exact k H locs ls (mok_cons hr hs) hl hh hP hS hv
theorem g_lconst (C : mC X p l e R s m args below meth c cc nL own) {n : Fin 2} (z : Int) (hz : z = 0 ∨ z = 1) (hn : Int64.ofNat (n : Nat) = Int64.ofInt z) (hd : decode cc pc = .ok (.lconst n, 1)) (k : mG X p l e R s m args below meth c nL Q (pc + 1) lo ((1, z) :: st) h) : mG X p l e R s m args below meth c nL Q pc lo st h := by
  intro H locs ls hs hl hh hP hS hv
  refine lv_lconst (v := Int64.ofInt z) C.1 C.2.1 hd hn ?_
  exact k H locs ls (mok_cons (by rcases hz with rfl | rfl <;> exact ⟨by decide, by decide⟩) hs) hl hh hP hS hv
theorem g_ldc (C : mC X p l e R s m args below meth c cc nL own) {index : Nat} {n : Int} (hr : r32 n) (hw : Cond.constant own index (Int32.ofInt n) ∈ mtb) (hd : decode cc pc = .ok (.ldc index, 2)) (k : mG X p l e R s m args below meth c nL Q (pc + 2) lo ((0, n) :: st) h) : mG X p l e R s m args below meth c nL Q pc lo st h := by
  intro H locs ls hs hl hh hP hS hv
  refine lv_ldc (v := Int32.ofInt n) C.1 C.2.1 C.2.2.2.1 (C.2.2.2.2.1 _ hw) hd ?_
  exact k H locs ls (mok_cons hr hs) hl hh hP hS hv
theorem g_ldcw (C : mC X p l e R s m args below meth c cc nL own) {index : Nat} {n : Int} (hr : r32 n) (hw : Cond.constant own index (Int32.ofInt n) ∈ mtb) (hd : decode cc pc = .ok (.ldc_w index, 3)) (k : mG X p l e R s m args below meth c nL Q (pc + 3) lo ((0, n) :: st) h) : mG X p l e R s m args below meth c nL Q pc lo st h := by
  intro H locs ls hs hl hh hP hS hv
  refine lv_ldcw (v := Int32.ofInt n) C.1 C.2.1 C.2.2.2.1 (C.2.2.2.2.1 _ hw) hd ?_
  exact k H locs ls (mok_cons hr hs) hl hh hP hS hv
theorem g_ldc2 (C : mC X p l e R s m args below meth c cc nL own) {index : Nat} {n : Int} (hr : r64 n) (hw : Cond.constantLong own index (Int64.ofInt n) ∈ mtb) (hd : decode cc pc = .ok (.ldc2_w index, 3)) (k : mG X p l e R s m args below meth c nL Q (pc + 3) lo ((1, n) :: st) h) : mG X p l e R s m args below meth c nL Q pc lo st h := by
  intro H locs ls hs hl hh hP hS hv
  refine lv_ldc2 (v := Int64.ofInt n) C.1 C.2.1 C.2.2.2.1 (C.2.2.2.2.1 _ hw) hd ?_
  exact k H locs ls (mok_cons hr hs) hl hh hP hS hv
theorem g_iload_n (C : mC X p l e R s m args below meth c cc nL own) {j : Fin 4} {i : Nat} {x : Int} (hd : decode cc pc = .ok (.iload_n j, 1)) (hi : (j : Nat) = i) (hk : lo.lookup i = some (0, x)) (k : mG X p l e R s m args below meth c nL Q (pc + 1) lo ((0, x) :: st) h) : mG X p l e R s m args below meth c nL Q pc lo st h := by
  intro H locs ls hs hl hh hP hS hv
  refine lv_iload_n (x := Int32.ofInt x) C.1 C.2.1 hd hi (lv_get hv hk) ?_
  exact k H locs ls (mok_cons (hl _ (mlook hk)) hs) hl hh hP hS hv
theorem g_iload (C : mC X p l e R s m args below meth c cc nL own) {i : Nat} {x : Int} (hd : decode cc pc = .ok (.iload i, 2)) (hk : lo.lookup i = some (0, x)) (k : mG X p l e R s m args below meth c nL Q (pc + 2) lo ((0, x) :: st) h) : mG X p l e R s m args below meth c nL Q pc lo st h := by
  intro H locs ls hs hl hh hP hS hv
  refine lv_iload (x := Int32.ofInt x) C.1 C.2.1 hd (lv_get hv hk) ?_
  exact k H locs ls (mok_cons (hl _ (mlook hk)) hs) hl hh hP hS hv
theorem g_istore_n (C : mC X p l e R s m args below meth c cc nL own) {j : Fin 4} {i : Nat} {x : Int} (hd : decode cc pc = .ok (.istore_n j, 1)) (hi : (j : Nat) = i) (hn : i < nL) (k : mG X p l e R s m args below meth c nL Q (pc + 1) (mst lo i (0, x)) st h) : mG X p l e R s m args below meth c nL Q pc lo ((0, x) :: st) h := by
  intro H locs ls hs hl hh hP hS hv
  refine lv_istore_n (x := Int32.ofInt x) C.1 C.2.1 hd hi hv hn rfl (fun ls hv => ?_)
  exact k H locs ls (mok_tl hs) (mst_ok (mok_hd hs) hl) hh hP hS (lv_mono hv (mst_in (v := (0, x))))
theorem g_istore (C : mC X p l e R s m args below meth c cc nL own) {i : Nat} {x : Int} (hd : decode cc pc = .ok (.istore i, 2)) (hn : i < nL) (k : mG X p l e R s m args below meth c nL Q (pc + 2) (mst lo i (0, x)) st h) : mG X p l e R s m args below meth c nL Q pc lo ((0, x) :: st) h := by
  intro H locs ls hs hl hh hP hS hv
  refine lv_istore (x := Int32.ofInt x) C.1 C.2.1 hd hv hn rfl (fun ls hv => ?_)
  exact k H locs ls (mok_tl hs) (mst_ok (mok_hd hs) hl) hh hP hS (lv_mono hv (mst_in (v := (0, x))))
theorem g_lload_n (C : mC X p l e R s m args below meth c cc nL own) {j : Fin 4} {i : Nat} {x : Int} (hd : decode cc pc = .ok (.lload_n j, 1)) (hi : (j : Nat) = i) (hk : lo.lookup i = some (1, x)) (k : mG X p l e R s m args below meth c nL Q (pc + 1) lo ((1, x) :: st) h) : mG X p l e R s m args below meth c nL Q pc lo st h := by
  intro H locs ls hs hl hh hP hS hv
  refine lv_lload_n (x := Int64.ofInt x) C.1 C.2.1 hd hi (lv_get hv hk) ?_
  exact k H locs ls (mok_cons (hl _ (mlook hk)) hs) hl hh hP hS hv
theorem g_lload (C : mC X p l e R s m args below meth c cc nL own) {i : Nat} {x : Int} (hd : decode cc pc = .ok (.lload i, 2)) (hk : lo.lookup i = some (1, x)) (k : mG X p l e R s m args below meth c nL Q (pc + 2) lo ((1, x) :: st) h) : mG X p l e R s m args below meth c nL Q pc lo st h := by
  intro H locs ls hs hl hh hP hS hv
  refine lv_lload (x := Int64.ofInt x) C.1 C.2.1 hd (lv_get hv hk) ?_
  exact k H locs ls (mok_cons (hl _ (mlook hk)) hs) hl hh hP hS hv
theorem g_lstore_n (C : mC X p l e R s m args below meth c cc nL own) {j : Fin 4} {i : Nat} {x : Int} (hd : decode cc pc = .ok (.lstore_n j, 1)) (hi : (j : Nat) = i) (hn : i + 1 < nL) (k : mG X p l e R s m args below meth c nL Q (pc + 1) (mst2 lo i (1, x)) st h) : mG X p l e R s m args below meth c nL Q pc lo ((1, x) :: st) h := by
  intro H locs ls hs hl hh hP hS hv
  refine lv_lstore_n (x := Int64.ofInt x) C.1 C.2.1 hd hi hv hn rfl (fun ls hv => ?_)
  exact k H locs ls (mok_tl hs) (mst2_ok (mok_hd hs) hl) hh hP hS (lv_mono hv (mst2_in (v := (1, x))))
theorem g_lstore (C : mC X p l e R s m args below meth c cc nL own) {i : Nat} {x : Int} (hd : decode cc pc = .ok (.lstore i, 2)) (hn : i + 1 < nL) (k : mG X p l e R s m args below meth c nL Q (pc + 2) (mst2 lo i (1, x)) st h) : mG X p l e R s m args below meth c nL Q pc lo ((1, x) :: st) h := by
  intro H locs ls hs hl hh hP hS hv
  refine lv_lstore (x := Int64.ofInt x) C.1 C.2.1 hd hv hn rfl (fun ls hv => ?_)
  exact k H locs ls (mok_tl hs) (mst2_ok (mok_hd hs) hl) hh hP hS (lv_mono hv (mst2_in (v := (1, x))))
theorem g_aload_n (C : mC X p l e R s m args below meth c cc nL own) {j : Fin 4} {i : Nat} {t : Nat} {x : Int} (hd : decode cc pc = .ok (.aload_n j, 1)) (hi : (j : Nat) = i) (ht : 2 ≤ t) (hk : lo.lookup i = some (t, x)) (k : mG X p l e R s m args below meth c nL Q (pc + 1) lo ((t, x) :: st) h) : mG X p l e R s m args below meth c nL Q pc lo st h := by
  intro H locs ls hs hl hh hP hS hv
  have g := lv_get hv hk
  have k := k H locs ls (mok_cons (hl _ (mlook hk)) hs) hl hh hP hS hv
  rcases mref X x ht with ⟨a, ea⟩ | ea
  · rw [ea] at g
    rw [List.map_cons, ea] at k
    exact lv_aload_n C.1 C.2.1 hd hi g k
  · rw [ea] at g
    rw [List.map_cons, ea] at k
    exact lv_aload_nN C.1 C.2.1 hd hi g k
theorem g_astore_n (C : mC X p l e R s m args below meth c cc nL own) {j : Fin 4} {i : Nat} {t : Nat} {x : Int} (hd : decode cc pc = .ok (.astore_n j, 1)) (hi : (j : Nat) = i) (ht : 2 ≤ t) (hn : i < nL) (k : mG X p l e R s m args below meth c nL Q (pc + 1) (mst lo i (t, x)) st h) : mG X p l e R s m args below meth c nL Q pc lo ((t, x) :: st) h := by
  intro H locs ls hs hl hh hP hS hv
  have k := fun ls (hv : lv_has ls nL ((mst lo i (t, x)).map fun q => (q.1, mcv X q.2))) => k H locs ls (mok_tl hs) (mst_ok (mok_hd hs) hl) hh hP hS hv
  have g := fun ls (hv : lv_has ls nL ((i, mcv X (t, x)) :: (lo.map fun q => (q.1, mcv X q.2)).filter (fun q => !(q.1 == i) && !(q.1 + 1 == i && q.2.category == 2)))) => k ls (lv_mono hv (mst_in (v := (t, x))))
  rcases mref X x ht with ⟨a, ea⟩ | ea
  · rw [ea] at g
    rw [List.map_cons, ea]
    exact lv_astore_n C.1 C.2.1 hd hi hv hn rfl g
  · rw [ea] at g
    rw [List.map_cons, ea]
    exact lv_astore_nN C.1 C.2.1 hd hi hv hn rfl g
theorem g_aload (C : mC X p l e R s m args below meth c cc nL own) {i : Nat} {t : Nat} {x : Int} (hd : decode cc pc = .ok (.aload i, 2)) (ht : 2 ≤ t) (hk : lo.lookup i = some (t, x)) (k : mG X p l e R s m args below meth c nL Q (pc + 2) lo ((t, x) :: st) h) : mG X p l e R s m args below meth c nL Q pc lo st h := by
  intro H locs ls hs hl hh hP hS hv
  have g := lv_get hv hk
  have k := k H locs ls (mok_cons (hl _ (mlook hk)) hs) hl hh hP hS hv
  rcases mref X x ht with ⟨a, ea⟩ | ea
  · rw [ea] at g
    rw [List.map_cons, ea] at k
    exact lv_aload C.1 C.2.1 hd g k
  · rw [ea] at g
    rw [List.map_cons, ea] at k
    exact lv_aloadN C.1 C.2.1 hd g k
theorem g_astore (C : mC X p l e R s m args below meth c cc nL own) {i : Nat} {t : Nat} {x : Int} (hd : decode cc pc = .ok (.astore i, 2)) (ht : 2 ≤ t) (hn : i < nL) (k : mG X p l e R s m args below meth c nL Q (pc + 2) (mst lo i (t, x)) st h) : mG X p l e R s m args below meth c nL Q pc lo ((t, x) :: st) h := by
  intro H locs ls hs hl hh hP hS hv
  have k := fun ls (hv : lv_has ls nL ((mst lo i (t, x)).map fun q => (q.1, mcv X q.2))) => k H locs ls (mok_tl hs) (mst_ok (mok_hd hs) hl) hh hP hS hv
  have g := fun ls (hv : lv_has ls nL ((i, mcv X (t, x)) :: (lo.map fun q => (q.1, mcv X q.2)).filter (fun q => !(q.1 == i) && !(q.1 + 1 == i && q.2.category == 2)))) => k ls (lv_mono hv (mst_in (v := (t, x))))
  rcases mref X x ht with ⟨a, ea⟩ | ea
  · rw [ea] at g
    rw [List.map_cons, ea]
    exact lv_astore C.1 C.2.1 hd hv hn rfl g
  · rw [ea] at g
    rw [List.map_cons, ea]
    exact lv_astoreN C.1 C.2.1 hd hv hn rfl g
theorem g_iinc (C : mC X p l e R s m args below meth c cc nL own) {i : Nat} {n x : Int} (hd : decode cc pc = .ok (.iinc i n, 3)) (hk : lo.lookup i = some (0, x)) (hn : i < nL) (k : mG X p l e R s m args below meth c nL Q (pc + 3) (mst lo i (0, w32 (x + n))) st h) : mG X p l e R s m args below meth c nL Q pc lo st h := by
  intro H locs ls hs hl hh hP hS hv
  obtain ⟨q, hq⟩ := List.getElem?_of_mem (List.mem_map.mpr ⟨(i, (0, x)), mlook hk, rfl⟩ : (i, mcv X (0, x)) ∈ lo.map fun q => (q.1, mcv X q.2))
  refine lv_iinc (k := q) (x := Int32.ofInt x) (v := Int32.ofInt (w32 (x + n))) C.1 C.2.1 hd hv hq (by rw [i32_w, Int32.ofInt_add]) hn rfl (fun ls hv => ?_)
  exact k H locs ls hs (mst_ok (w32_r _) hl) hh hP hS (lv_mono hv (mst_in (v := (0, w32 (x + n)))))
theorem g_iadd (C : mC X p l e R s m args below meth c cc nL own) {a b : Int} (hd : decode cc pc = .ok (.iadd, 1)) (k : mG X p l e R s m args below meth c nL Q (pc + 1) lo ((0, w32 (a + b)) :: st) h) : mG X p l e R s m args below meth c nL Q pc lo ((0, b) :: (0, a) :: st) h := by
  intro H locs ls hs hl hh hP hS hv
  have ra : mok (0, a) := mok_hd (mok_tl hs)
  have rb : mok (0, b) := mok_hd hs
  have k := k H locs ls (mok_cons (w32_r _) (mok_tl (mok_tl hs))) hl hh hP hS hv
  refine lv_iadd (x := Int32.ofInt a) (y := Int32.ofInt b) C.1 C.2.1 hd ?_
  rw [show Int32.ofInt a + Int32.ofInt b = Int32.ofInt (w32 (a + b)) from by rw [i32_w, Int32.ofInt_add]]
  exact k
theorem g_isub (C : mC X p l e R s m args below meth c cc nL own) {a b : Int} (hd : decode cc pc = .ok (.isub, 1)) (k : mG X p l e R s m args below meth c nL Q (pc + 1) lo ((0, w32 (a - b)) :: st) h) : mG X p l e R s m args below meth c nL Q pc lo ((0, b) :: (0, a) :: st) h := by
  intro H locs ls hs hl hh hP hS hv
  have ra : mok (0, a) := mok_hd (mok_tl hs)
  have rb : mok (0, b) := mok_hd hs
  have k := k H locs ls (mok_cons (w32_r _) (mok_tl (mok_tl hs))) hl hh hP hS hv
  refine lv_isub (x := Int32.ofInt a) (y := Int32.ofInt b) C.1 C.2.1 hd ?_
  rw [show Int32.ofInt a - Int32.ofInt b = Int32.ofInt (w32 (a - b)) from by rw [i32_w, Int32.ofInt_sub]]
  exact k
theorem g_imul (C : mC X p l e R s m args below meth c cc nL own) {a b : Int} (hd : decode cc pc = .ok (.imul, 1)) (k : mG X p l e R s m args below meth c nL Q (pc + 1) lo ((0, w32 (a * b)) :: st) h) : mG X p l e R s m args below meth c nL Q pc lo ((0, b) :: (0, a) :: st) h := by
  intro H locs ls hs hl hh hP hS hv
  have ra : mok (0, a) := mok_hd (mok_tl hs)
  have rb : mok (0, b) := mok_hd hs
  have k := k H locs ls (mok_cons (w32_r _) (mok_tl (mok_tl hs))) hl hh hP hS hv
  refine lv_imul (x := Int32.ofInt a) (y := Int32.ofInt b) C.1 C.2.1 hd ?_
  rw [show Int32.ofInt a * Int32.ofInt b = Int32.ofInt (w32 (a * b)) from by rw [i32_w, Int32.ofInt_mul]]
  exact k
theorem g_ladd (C : mC X p l e R s m args below meth c cc nL own) {a b : Int} (hd : decode cc pc = .ok (.ladd, 1)) (k : mG X p l e R s m args below meth c nL Q (pc + 1) lo ((1, w64 (a + b)) :: st) h) : mG X p l e R s m args below meth c nL Q pc lo ((1, b) :: (1, a) :: st) h := by
  intro H locs ls hs hl hh hP hS hv
  have ra : mok (1, a) := mok_hd (mok_tl hs)
  have rb : mok (1, b) := mok_hd hs
  have k := k H locs ls (mok_cons (w64_r _) (mok_tl (mok_tl hs))) hl hh hP hS hv
  refine lv_ladd (x := Int64.ofInt a) (y := Int64.ofInt b) C.1 C.2.1 hd ?_
  rw [show Int64.ofInt a + Int64.ofInt b = Int64.ofInt (w64 (a + b)) from by rw [i64_w, Int64.ofInt_add]]
  exact k
theorem g_lsub (C : mC X p l e R s m args below meth c cc nL own) {a b : Int} (hd : decode cc pc = .ok (.lsub, 1)) (k : mG X p l e R s m args below meth c nL Q (pc + 1) lo ((1, w64 (a - b)) :: st) h) : mG X p l e R s m args below meth c nL Q pc lo ((1, b) :: (1, a) :: st) h := by
  intro H locs ls hs hl hh hP hS hv
  have ra : mok (1, a) := mok_hd (mok_tl hs)
  have rb : mok (1, b) := mok_hd hs
  have k := k H locs ls (mok_cons (w64_r _) (mok_tl (mok_tl hs))) hl hh hP hS hv
  refine lv_lsub (x := Int64.ofInt a) (y := Int64.ofInt b) C.1 C.2.1 hd ?_
  rw [show Int64.ofInt a - Int64.ofInt b = Int64.ofInt (w64 (a - b)) from by rw [i64_w, Int64.ofInt_sub]]
  exact k
theorem g_lmul (C : mC X p l e R s m args below meth c cc nL own) {a b : Int} (hd : decode cc pc = .ok (.lmul, 1)) (k : mG X p l e R s m args below meth c nL Q (pc + 1) lo ((1, w64 (a * b)) :: st) h) : mG X p l e R s m args below meth c nL Q pc lo ((1, b) :: (1, a) :: st) h := by
  intro H locs ls hs hl hh hP hS hv
  have ra : mok (1, a) := mok_hd (mok_tl hs)
  have rb : mok (1, b) := mok_hd hs
  have k := k H locs ls (mok_cons (w64_r _) (mok_tl (mok_tl hs))) hl hh hP hS hv
  refine lv_lmul (x := Int64.ofInt a) (y := Int64.ofInt b) C.1 C.2.1 hd ?_
  rw [show Int64.ofInt a * Int64.ofInt b = Int64.ofInt (w64 (a * b)) from by rw [i64_w, Int64.ofInt_mul]]
  exact k
theorem g_iand (C : mC X p l e R s m args below meth c cc nL own) {a b : Int} (hd : decode cc pc = .ok (.iand, 1)) (k : mG X p l e R s m args below meth c nL Q (pc + 1) lo ((0, j_and a b) :: st) h) : mG X p l e R s m args below meth c nL Q pc lo ((0, b) :: (0, a) :: st) h := by
  intro H locs ls hs hl hh hP hS hv
  have ra : mok (0, a) := mok_hd (mok_tl hs)
  have rb : mok (0, b) := mok_hd hs
  have k := k H locs ls (mok_cons (i32_r _) (mok_tl (mok_tl hs))) hl hh hP hS hv
  refine lv_iand (x := Int32.ofInt a) (y := Int32.ofInt b) C.1 C.2.1 hd ?_
  rw [show Int32.ofInt a &&& Int32.ofInt b = Int32.ofInt (j_and a b) from by unfold j_and; rw [Int32.ofInt_toInt]]
  exact k
theorem g_ior (C : mC X p l e R s m args below meth c cc nL own) {a b : Int} (hd : decode cc pc = .ok (.ior, 1)) (k : mG X p l e R s m args below meth c nL Q (pc + 1) lo ((0, j_or a b) :: st) h) : mG X p l e R s m args below meth c nL Q pc lo ((0, b) :: (0, a) :: st) h := by
  intro H locs ls hs hl hh hP hS hv
  have ra : mok (0, a) := mok_hd (mok_tl hs)
  have rb : mok (0, b) := mok_hd hs
  have k := k H locs ls (mok_cons (i32_r _) (mok_tl (mok_tl hs))) hl hh hP hS hv
  refine lv_ior (x := Int32.ofInt a) (y := Int32.ofInt b) C.1 C.2.1 hd ?_
  rw [show Int32.ofInt a ||| Int32.ofInt b = Int32.ofInt (j_or a b) from by unfold j_or; rw [Int32.ofInt_toInt]]
  exact k
theorem g_ishl (C : mC X p l e R s m args below meth c cc nL own) {a b : Int} (hd : decode cc pc = .ok (.ishl, 1)) (k : mG X p l e R s m args below meth c nL Q (pc + 1) lo ((0, j_shl a b) :: st) h) : mG X p l e R s m args below meth c nL Q pc lo ((0, b) :: (0, a) :: st) h := by
  intro H locs ls hs hl hh hP hS hv
  have ra : mok (0, a) := mok_hd (mok_tl hs)
  have rb : mok (0, b) := mok_hd hs
  have k := k H locs ls (mok_cons (i32_r _) (mok_tl (mok_tl hs))) hl hh hP hS hv
  refine lv_ishl (x := Int32.ofInt a) (y := Int32.ofInt b) C.1 C.2.1 hd ?_
  rw [show Int32.ofInt a <<< (Int32.ofInt b &&& 31) = Int32.ofInt (j_shl a b) from by unfold j_shl; rw [Int32.ofInt_toInt]]
  exact k
theorem g_ishr (C : mC X p l e R s m args below meth c cc nL own) {a b : Int} (hd : decode cc pc = .ok (.ishr, 1)) (k : mG X p l e R s m args below meth c nL Q (pc + 1) lo ((0, j_shr a b) :: st) h) : mG X p l e R s m args below meth c nL Q pc lo ((0, b) :: (0, a) :: st) h := by
  intro H locs ls hs hl hh hP hS hv
  have ra : mok (0, a) := mok_hd (mok_tl hs)
  have rb : mok (0, b) := mok_hd hs
  have k := k H locs ls (mok_cons (i32_r _) (mok_tl (mok_tl hs))) hl hh hP hS hv
  refine lv_ishr (x := Int32.ofInt a) (y := Int32.ofInt b) C.1 C.2.1 hd ?_
  rw [show Int32.ofInt a >>> (Int32.ofInt b &&& 31) = Int32.ofInt (j_shr a b) from by unfold j_shr; rw [Int32.ofInt_toInt]]
  exact k
theorem g_iushr (C : mC X p l e R s m args below meth c cc nL own) {a b : Int} (hd : decode cc pc = .ok (.iushr, 1)) (k : mG X p l e R s m args below meth c nL Q (pc + 1) lo ((0, j_ushr a b) :: st) h) : mG X p l e R s m args below meth c nL Q pc lo ((0, b) :: (0, a) :: st) h := by
  intro H locs ls hs hl hh hP hS hv
  have ra : mok (0, a) := mok_hd (mok_tl hs)
  have rb : mok (0, b) := mok_hd hs
  have k := k H locs ls (mok_cons (i32_r _) (mok_tl (mok_tl hs))) hl hh hP hS hv
  refine lv_iushr (x := Int32.ofInt a) (y := Int32.ofInt b) (v := Int32.ofInt (j_ushr a b)) C.1 C.2.1 hd (by unfold j_ushr; rw [Int32.ofInt_toInt]) ?_
  exact k
theorem g_land (C : mC X p l e R s m args below meth c cc nL own) {a b : Int} (hd : decode cc pc = .ok (.land, 1)) (k : mG X p l e R s m args below meth c nL Q (pc + 1) lo ((1, j_land a b) :: st) h) : mG X p l e R s m args below meth c nL Q pc lo ((1, b) :: (1, a) :: st) h := by
  intro H locs ls hs hl hh hP hS hv
  have ra : mok (1, a) := mok_hd (mok_tl hs)
  have rb : mok (1, b) := mok_hd hs
  have k := k H locs ls (mok_cons (i64_r _) (mok_tl (mok_tl hs))) hl hh hP hS hv
  refine lv_land (x := Int64.ofInt a) (y := Int64.ofInt b) C.1 C.2.1 hd ?_
  rw [show Int64.ofInt a &&& Int64.ofInt b = Int64.ofInt (j_land a b) from by unfold j_land; rw [Int64.ofInt_toInt]]
  exact k
theorem g_lor (C : mC X p l e R s m args below meth c cc nL own) {a b : Int} (hd : decode cc pc = .ok (.lor, 1)) (k : mG X p l e R s m args below meth c nL Q (pc + 1) lo ((1, j_lor a b) :: st) h) : mG X p l e R s m args below meth c nL Q pc lo ((1, b) :: (1, a) :: st) h := by
  intro H locs ls hs hl hh hP hS hv
  have ra : mok (1, a) := mok_hd (mok_tl hs)
  have rb : mok (1, b) := mok_hd hs
  have k := k H locs ls (mok_cons (i64_r _) (mok_tl (mok_tl hs))) hl hh hP hS hv
  refine lv_lor (x := Int64.ofInt a) (y := Int64.ofInt b) C.1 C.2.1 hd ?_
  rw [show Int64.ofInt a ||| Int64.ofInt b = Int64.ofInt (j_lor a b) from by unfold j_lor; rw [Int64.ofInt_toInt]]
  exact k
theorem g_lxor (C : mC X p l e R s m args below meth c cc nL own) {a b : Int} (hd : decode cc pc = .ok (.lxor, 1)) (k : mG X p l e R s m args below meth c nL Q (pc + 1) lo ((1, j_lxor a b) :: st) h) : mG X p l e R s m args below meth c nL Q pc lo ((1, b) :: (1, a) :: st) h := by
  intro H locs ls hs hl hh hP hS hv
  have ra : mok (1, a) := mok_hd (mok_tl hs)
  have rb : mok (1, b) := mok_hd hs
  have k := k H locs ls (mok_cons (i64_r _) (mok_tl (mok_tl hs))) hl hh hP hS hv
  refine lv_lxor (x := Int64.ofInt a) (y := Int64.ofInt b) C.1 C.2.1 hd ?_
  rw [show Int64.ofInt a ^^^ Int64.ofInt b = Int64.ofInt (j_lxor a b) from by unfold j_lxor; rw [Int64.ofInt_toInt]]
  exact k
theorem g_lshl (C : mC X p l e R s m args below meth c cc nL own) {a b : Int} (hd : decode cc pc = .ok (.lshl, 1)) (k : mG X p l e R s m args below meth c nL Q (pc + 1) lo ((1, j_lshl a b) :: st) h) : mG X p l e R s m args below meth c nL Q pc lo ((0, b) :: (1, a) :: st) h := by
  intro H locs ls hs hl hh hP hS hv
  have ra : mok (1, a) := mok_hd (mok_tl hs)
  have rb : mok (0, b) := mok_hd hs
  have k := k H locs ls (mok_cons (i64_r _) (mok_tl (mok_tl hs))) hl hh hP hS hv
  refine lv_lshl (x := Int64.ofInt a) (y := Int32.ofInt b) (v := Int64.ofInt (j_lshl a b)) C.1 C.2.1 hd (by unfold j_lshl; rw [Int64.ofInt_toInt]) ?_
  exact k
theorem g_lshr (C : mC X p l e R s m args below meth c cc nL own) {a b : Int} (hd : decode cc pc = .ok (.lshr, 1)) (k : mG X p l e R s m args below meth c nL Q (pc + 1) lo ((1, j_lshr a b) :: st) h) : mG X p l e R s m args below meth c nL Q pc lo ((0, b) :: (1, a) :: st) h := by
  intro H locs ls hs hl hh hP hS hv
  have ra : mok (1, a) := mok_hd (mok_tl hs)
  have rb : mok (0, b) := mok_hd hs
  have k := k H locs ls (mok_cons (i64_r _) (mok_tl (mok_tl hs))) hl hh hP hS hv
  refine lv_lshr (x := Int64.ofInt a) (y := Int32.ofInt b) (v := Int64.ofInt (j_lshr a b)) C.1 C.2.1 hd (by unfold j_lshr; rw [Int64.ofInt_toInt]) ?_
  exact k
theorem g_lushr (C : mC X p l e R s m args below meth c cc nL own) {a b : Int} (hd : decode cc pc = .ok (.lushr, 1)) (k : mG X p l e R s m args below meth c nL Q (pc + 1) lo ((1, j_lushr a b) :: st) h) : mG X p l e R s m args below meth c nL Q pc lo ((0, b) :: (1, a) :: st) h := by
  intro H locs ls hs hl hh hP hS hv
  have ra : mok (1, a) := mok_hd (mok_tl hs)
  have rb : mok (0, b) := mok_hd hs
  have k := k H locs ls (mok_cons (i64_r _) (mok_tl (mok_tl hs))) hl hh hP hS hv
  refine lv_lushr (x := Int64.ofInt a) (y := Int32.ofInt b) (v := Int64.ofInt (j_lushr a b)) C.1 C.2.1 hd (by unfold j_lushr; rw [Int64.ofInt_toInt]) ?_
  exact k
theorem g_idiv (C : mC X p l e R s m args below meth c cc nL own) {a b : Int} (hz : ¬ b = 0) (hd : decode cc pc = .ok (.idiv, 1)) (k : mG X p l e R s m args below meth c nL Q (pc + 1) lo ((0, j_div a b) :: st) h) : mG X p l e R s m args below meth c nL Q pc lo ((0, b) :: (0, a) :: st) h := by
  intro H locs ls hs hl hh hP hS hv
  have ra : mok (0, a) := mok_hd (mok_tl hs)
  have rb : mok (0, b) := mok_hd hs
  have k := k H locs ls (mok_cons (w32_r _) (mok_tl (mok_tl hs))) hl hh hP hS hv
  refine lv_idiv (x := Int32.ofInt a) (y := Int32.ofInt b) C.1 C.2.1 hd (fun q => hz (by have q2 := congrArg Int32.toInt q; rw [i32_toInt rb] at q2; exact q2)) ?_
  rw [show Int32.ofInt a / Int32.ofInt b = Int32.ofInt (j_div a b) from i32_eq (by rw [Int32.toInt_div, i32_toInt ra, i32_toInt rb]; exact (w32_bmod _).symm)]
  exact k
theorem g_ldiv (C : mC X p l e R s m args below meth c cc nL own) {a b : Int} (hz : ¬ b = 0) (hd : decode cc pc = .ok (.ldiv, 1)) (k : mG X p l e R s m args below meth c nL Q (pc + 1) lo ((1, j_ldiv a b) :: st) h) : mG X p l e R s m args below meth c nL Q pc lo ((1, b) :: (1, a) :: st) h := by
  intro H locs ls hs hl hh hP hS hv
  have ra : mok (1, a) := mok_hd (mok_tl hs)
  have rb : mok (1, b) := mok_hd hs
  have k := k H locs ls (mok_cons (w64_r _) (mok_tl (mok_tl hs))) hl hh hP hS hv
  refine lv_ldiv (x := Int64.ofInt a) (y := Int64.ofInt b) C.1 C.2.1 hd (fun q => hz (by have q2 := congrArg Int64.toInt q; rw [i64_toInt rb] at q2; exact q2)) ?_
  rw [show Int64.ofInt a / Int64.ofInt b = Int64.ofInt (j_ldiv a b) from i64_eq (by rw [Int64.toInt_div, i64_toInt ra, i64_toInt rb]; exact (w64_bmod _).symm)]
  exact k
theorem g_irem (C : mC X p l e R s m args below meth c cc nL own) {a b : Int} (hz : ¬ b = 0) (hd : decode cc pc = .ok (.irem, 1)) (k : mG X p l e R s m args below meth c nL Q (pc + 1) lo ((0, j_rem a b) :: st) h) : mG X p l e R s m args below meth c nL Q pc lo ((0, b) :: (0, a) :: st) h := by
  intro H locs ls hs hl hh hP hS hv
  have ra : mok (0, a) := mok_hd (mok_tl hs)
  have rb : mok (0, b) := mok_hd hs
  have k := k H locs ls (mok_cons (i32_r _) (mok_tl (mok_tl hs))) hl hh hP hS hv
  refine lv_irem (x := Int32.ofInt a) (y := Int32.ofInt b) C.1 C.2.1 hd (fun q => hz (by have q2 := congrArg Int32.toInt q; rw [i32_toInt rb] at q2; exact q2)) ?_
  rw [show Int32.ofInt a - Int32.ofInt a / Int32.ofInt b * Int32.ofInt b = Int32.ofInt (j_rem a b) from by unfold j_rem; rw [Int32.ofInt_toInt]]
  exact k
theorem g_lrem (C : mC X p l e R s m args below meth c cc nL own) {a b : Int} (hz : ¬ b = 0) (hd : decode cc pc = .ok (.lrem, 1)) (k : mG X p l e R s m args below meth c nL Q (pc + 1) lo ((1, j_lrem a b) :: st) h) : mG X p l e R s m args below meth c nL Q pc lo ((1, b) :: (1, a) :: st) h := by
  intro H locs ls hs hl hh hP hS hv
  have ra : mok (1, a) := mok_hd (mok_tl hs)
  have rb : mok (1, b) := mok_hd hs
  have k := k H locs ls (mok_cons (i64_r _) (mok_tl (mok_tl hs))) hl hh hP hS hv
  refine lv_lrem (x := Int64.ofInt a) (y := Int64.ofInt b) C.1 C.2.1 hd (fun q => hz (by have q2 := congrArg Int64.toInt q; rw [i64_toInt rb] at q2; exact q2)) ?_
  rw [show Int64.ofInt a - Int64.ofInt a / Int64.ofInt b * Int64.ofInt b = Int64.ofInt (j_lrem a b) from by unfold j_lrem; rw [Int64.ofInt_toInt]]
  exact k
theorem g_lcmp (C : mC X p l e R s m args below meth c cc nL own) {a b : Int} (hd : decode cc pc = .ok (.lcmp, 1)) (k : mG X p l e R s m args below meth c nL Q (pc + 1) lo ((0, j_cmp a b) :: st) h) : mG X p l e R s m args below meth c nL Q pc lo ((1, b) :: (1, a) :: st) h := by
  intro H locs ls hs hl hh hP hS hv
  have ra : r64 a := mok_hd (mok_tl hs)
  have rb : r64 b := mok_hd hs
  have k := k H locs ls (mok_cons (show r32 (j_cmp a b) from by unfold j_cmp r32; split <;> (try split) <;> omega) (mok_tl (mok_tl hs))) hl hh hP hS hv
  refine W.lcmp (x := Int64.ofInt a) (y := Int64.ofInt b) C.1 C.2.1 hd ?_
  rw [show lg_cmp (Int64.ofInt a) (Int64.ofInt b) = Int32.ofInt (j_cmp a b) from ?_]
  · exact k
  · unfold lg_cmp j_cmp
    have e1 : (Int64.ofInt a > Int64.ofInt b) ↔ b < a := by show Int64.ofInt b < Int64.ofInt a ↔ _; rw [Int64.lt_iff_toInt_lt, i64_toInt ra, i64_toInt rb]
    have e2 : (Int64.ofInt a = Int64.ofInt b) ↔ a = b := by rw [← Int64.toInt_inj, i64_toInt ra, i64_toInt rb]
    by_cases q1 : b < a
    · rw [if_pos (e1.mpr q1), if_neg (by omega), if_neg (by omega)]; rfl
    · rw [if_neg (fun z => q1 (e1.mp z))]
      by_cases q2 : a = b
      · rw [if_pos (e2.mpr q2), if_neg (by omega), if_pos q2]; rfl
      · rw [if_neg (fun z => q2 (e2.mp z)), if_pos (by omega)]; rfl
theorem g_ineg (C : mC X p l e R s m args below meth c cc nL own) {a : Int} (hd : decode cc pc = .ok (.ineg, 1)) (k : mG X p l e R s m args below meth c nL Q (pc + 1) lo ((0, w32 (-a)) :: st) h) : mG X p l e R s m args below meth c nL Q pc lo ((0, a) :: st) h := by
  intro H locs ls hs hl hh hP hS hv
  have ra : mok (0, a) := mok_hd hs
  have k := k H locs ls (mok_cons (w32_r _) (mok_tl hs)) hl hh hP hS hv
  refine lv_ineg (x := Int32.ofInt a) C.1 C.2.1 hd ?_
  rw [show -Int32.ofInt a = Int32.ofInt (w32 (-a)) from by rw [i32_w, Int32.ofInt_neg]]
  exact k
theorem g_lneg (C : mC X p l e R s m args below meth c cc nL own) {a : Int} (hd : decode cc pc = .ok (.lneg, 1)) (k : mG X p l e R s m args below meth c nL Q (pc + 1) lo ((1, w64 (-a)) :: st) h) : mG X p l e R s m args below meth c nL Q pc lo ((1, a) :: st) h := by
  intro H locs ls hs hl hh hP hS hv
  have ra : mok (1, a) := mok_hd hs
  have k := k H locs ls (mok_cons (w64_r _) (mok_tl hs)) hl hh hP hS hv
  refine lv_lneg (x := Int64.ofInt a) C.1 C.2.1 hd ?_
  rw [show -Int64.ofInt a = Int64.ofInt (w64 (-a)) from by rw [i64_w, Int64.ofInt_neg]]
  exact k
theorem g_i2l (C : mC X p l e R s m args below meth c cc nL own) {a : Int} (hd : decode cc pc = .ok (.i2l, 1)) (k : mG X p l e R s m args below meth c nL Q (pc + 1) lo ((1, a) :: st) h) : mG X p l e R s m args below meth c nL Q pc lo ((0, a) :: st) h := by
  intro H locs ls hs hl hh hP hS hv
  have ra : mok (0, a) := mok_hd hs
  have k := k H locs ls (mok_cons (show r64 a from by have z : r32 a := ra; exact ⟨by omega, by omega⟩) (mok_tl hs)) hl hh hP hS hv
  refine lv_i2l (x := Int32.ofInt a) (v := Int64.ofInt a) C.1 C.2.1 hd (i64_eq (by rw [Int32.toInt_toInt64, i32_toInt ra])) ?_
  exact k
theorem g_l2i (C : mC X p l e R s m args below meth c cc nL own) {a : Int} (hd : decode cc pc = .ok (.l2i, 1)) (k : mG X p l e R s m args below meth c nL Q (pc + 1) lo ((0, w32 a) :: st) h) : mG X p l e R s m args below meth c nL Q pc lo ((1, a) :: st) h := by
  intro H locs ls hs hl hh hP hS hv
  have ra : mok (1, a) := mok_hd hs
  have k := k H locs ls (mok_cons (w32_r _) (mok_tl hs)) hl hh hP hS hv
  refine lv_l2i (x := Int64.ofInt a) (v := Int32.ofInt (w32 a)) C.1 C.2.1 hd (i32_eq (by rw [Int64.toInt_toInt32, i64_toInt ra, w32_bmod])) ?_
  exact k
theorem g_i2b (C : mC X p l e R s m args below meth c cc nL own) {a : Int} (hd : decode cc pc = .ok (.i2b, 1)) (k : mG X p l e R s m args below meth c nL Q (pc + 1) lo ((0, j_i2b a) :: st) h) : mG X p l e R s m args below meth c nL Q pc lo ((0, a) :: st) h := by
  intro H locs ls hs hl hh hP hS hv
  have ra : mok (0, a) := mok_hd hs
  have k := k H locs ls (mok_cons (i32_r _) (mok_tl hs)) hl hh hP hS hv
  refine lv_i2b (x := Int32.ofInt a) (v := Int32.ofInt (j_i2b a)) C.1 C.2.1 hd (by unfold j_i2b; rw [Int32.ofInt_toInt]) ?_
  exact k
theorem g_dup (C : mC X p l e R s m args below meth c cc nL own) {v : Mv} (hv1 : ¬ v.1 = 1) (hd : decode cc pc = .ok (.dup, 1)) (k : mG X p l e R s m args below meth c nL Q (pc + 1) lo (v :: v :: st) h) : mG X p l e R s m args below meth c nL Q pc lo (v :: st) h := by
  intro H locs ls hs hl hh hP hS hv
  exact lv_dup C.1 C.2.1 hd (mcat1 hv1) (k H locs ls (mok_cons (mok_hd hs) hs) hl hh hP hS hv)
theorem g_pop (C : mC X p l e R s m args below meth c cc nL own) {v : Mv} (hv1 : ¬ v.1 = 1) (hd : decode cc pc = .ok (.pop, 1)) (k : mG X p l e R s m args below meth c nL Q (pc + 1) lo st h) : mG X p l e R s m args below meth c nL Q pc lo (v :: st) h := by
  intro H locs ls hs hl hh hP hS hv
  exact lv_pop C.1 C.2.1 hd (mcat1 hv1) (k H locs ls (mok_tl hs) hl hh hP hS hv)
theorem g_dup_x1 (C : mC X p l e R s m args below meth c cc nL own) {v w : Mv} (hv1 : ¬ v.1 = 1) (hw1 : ¬ w.1 = 1) (hd : decode cc pc = .ok (.dup_x1, 1)) (k : mG X p l e R s m args below meth c nL Q (pc + 1) lo (v :: w :: v :: st) h) : mG X p l e R s m args below meth c nL Q pc lo (v :: w :: st) h := by
  intro H locs ls hs hl hh hP hS hv
  exact lv_dup_x1 C.1 C.2.1 hd (mcat1 hv1) (mcat1 hw1) (k H locs ls (mok_cons (mok_hd hs) (mok_cons (mok_hd (mok_tl hs)) (mok_cons (mok_hd hs) (mok_tl (mok_tl hs))))) hl hh hP hS hv)
theorem g_dup2 (C : mC X p l e R s m args below meth c cc nL own) {v w : Mv} (hv1 : ¬ v.1 = 1) (hw1 : ¬ w.1 = 1) (hd : decode cc pc = .ok (.dup2, 1)) (k : mG X p l e R s m args below meth c nL Q (pc + 1) lo (v :: w :: v :: w :: st) h) : mG X p l e R s m args below meth c nL Q pc lo (v :: w :: st) h := by
  intro H locs ls hs hl hh hP hS hv
  exact lv_dup2_11 C.1 C.2.1 hd (mcat1 hv1) (mcat1 hw1) (k H locs ls (mok_cons (mok_hd hs) (mok_cons (mok_hd (mok_tl hs)) hs)) hl hh hP hS hv)
theorem g_if_eq (C : mC X p l e R s m args below meth c cc nL own) {a : Int} {off : Int} (tgt : Nat) {A B : Prop} (hd : decode cc pc = .ok (.ifCond .eq off, 3)) (ht : (pc : Int) + off = (tgt : Int)) (hw : if a = 0 then A else B) (k1 : A → mG X p l e R s m args below meth c nL Q tgt lo st h) (k2 : B → mG X p l e R s m args below meth c nL Q (pc + 3) lo st h) : mG X p l e R s m args below meth c nL Q pc lo ((0, a) :: st) h := by
  intro H locs ls hs hl hh hP hS hv
  have ra : r32 a := mok_hd hs
  have z0 : r32 0 := ⟨by decide, by decide⟩
  refine lv_if_eq (x := Int32.ofInt a) C.1 C.2.1 hd ht (fun q => ?_) (fun q => ?_)
  · rw [if_pos ((i32_inj ra z0).mp q)] at hw
    exact k1 hw H locs ls (mok_tl hs) hl hh hP hS hv
  · rw [if_neg (fun z => q ((i32_inj ra z0).mpr z))] at hw
    exact k2 hw H locs ls (mok_tl hs) hl hh hP hS hv
theorem g_icmp_eq (C : mC X p l e R s m args below meth c cc nL own) {a b : Int} {off : Int} (tgt : Nat) {A B : Prop} (hd : decode cc pc = .ok (.if_icmp .eq off, 3)) (ht : (pc : Int) + off = (tgt : Int)) (hw : if a = b then A else B) (k1 : A → mG X p l e R s m args below meth c nL Q tgt lo st h) (k2 : B → mG X p l e R s m args below meth c nL Q (pc + 3) lo st h) : mG X p l e R s m args below meth c nL Q pc lo ((0, b) :: (0, a) :: st) h := by
  intro H locs ls hs hl hh hP hS hv
  have ra : r32 a := mok_hd (mok_tl hs)
  have rb : r32 b := mok_hd hs
  refine lv_icmp_eq (x := Int32.ofInt a) (y := Int32.ofInt b) C.1 C.2.1 hd ht (fun q => ?_) (fun q => ?_)
  · rw [if_pos ((i32_inj ra rb).mp q)] at hw
    exact k1 hw H locs ls (mok_tl (mok_tl hs)) hl hh hP hS hv
  · rw [if_neg (fun z => q ((i32_inj ra rb).mpr z))] at hw
    exact k2 hw H locs ls (mok_tl (mok_tl hs)) hl hh hP hS hv
theorem g_if_ne (C : mC X p l e R s m args below meth c cc nL own) {a : Int} {off : Int} (tgt : Nat) {A B : Prop} (hd : decode cc pc = .ok (.ifCond .ne off, 3)) (ht : (pc : Int) + off = (tgt : Int)) (hw : if ¬ a = 0 then A else B) (k1 : A → mG X p l e R s m args below meth c nL Q tgt lo st h) (k2 : B → mG X p l e R s m args below meth c nL Q (pc + 3) lo st h) : mG X p l e R s m args below meth c nL Q pc lo ((0, a) :: st) h := by
  intro H locs ls hs hl hh hP hS hv
  have ra : r32 a := mok_hd hs
  have z0 : r32 0 := ⟨by decide, by decide⟩
  refine lv_if_ne (x := Int32.ofInt a) C.1 C.2.1 hd ht (fun q => ?_) (fun q => ?_)
  · rw [if_pos ((not_congr (i32_inj ra z0)).mp q)] at hw
    exact k1 hw H locs ls (mok_tl hs) hl hh hP hS hv
  · rw [if_neg (fun z => z ((i32_inj ra z0).mp q))] at hw
    exact k2 hw H locs ls (mok_tl hs) hl hh hP hS hv
theorem g_icmp_ne (C : mC X p l e R s m args below meth c cc nL own) {a b : Int} {off : Int} (tgt : Nat) {A B : Prop} (hd : decode cc pc = .ok (.if_icmp .ne off, 3)) (ht : (pc : Int) + off = (tgt : Int)) (hw : if ¬ a = b then A else B) (k1 : A → mG X p l e R s m args below meth c nL Q tgt lo st h) (k2 : B → mG X p l e R s m args below meth c nL Q (pc + 3) lo st h) : mG X p l e R s m args below meth c nL Q pc lo ((0, b) :: (0, a) :: st) h := by
  intro H locs ls hs hl hh hP hS hv
  have ra : r32 a := mok_hd (mok_tl hs)
  have rb : r32 b := mok_hd hs
  refine lv_icmp_ne (x := Int32.ofInt a) (y := Int32.ofInt b) C.1 C.2.1 hd ht (fun q => ?_) (fun q => ?_)
  · rw [if_pos ((not_congr (i32_inj ra rb)).mp q)] at hw
    exact k1 hw H locs ls (mok_tl (mok_tl hs)) hl hh hP hS hv
  · rw [if_neg (fun z => z ((i32_inj ra rb).mp q))] at hw
    exact k2 hw H locs ls (mok_tl (mok_tl hs)) hl hh hP hS hv
theorem g_if_lt (C : mC X p l e R s m args below meth c cc nL own) {a : Int} {off : Int} (tgt : Nat) {A B : Prop} (hd : decode cc pc = .ok (.ifCond .lt off, 3)) (ht : (pc : Int) + off = (tgt : Int)) (hw : if a < 0 then A else B) (k1 : A → mG X p l e R s m args below meth c nL Q tgt lo st h) (k2 : B → mG X p l e R s m args below meth c nL Q (pc + 3) lo st h) : mG X p l e R s m args below meth c nL Q pc lo ((0, a) :: st) h := by
  intro H locs ls hs hl hh hP hS hv
  have ra : r32 a := mok_hd hs
  have z0 : r32 0 := ⟨by decide, by decide⟩
  refine lv_if_lt (x := Int32.ofInt a) C.1 C.2.1 hd ht (fun q => ?_) (fun q => ?_)
  · rw [if_pos ((i32_lt ra z0).mp q)] at hw
    exact k1 hw H locs ls (mok_tl hs) hl hh hP hS hv
  · rw [if_neg (fun z => q ((i32_lt ra z0).mpr z))] at hw
    exact k2 hw H locs ls (mok_tl hs) hl hh hP hS hv
theorem g_icmp_lt (C : mC X p l e R s m args below meth c cc nL own) {a b : Int} {off : Int} (tgt : Nat) {A B : Prop} (hd : decode cc pc = .ok (.if_icmp .lt off, 3)) (ht : (pc : Int) + off = (tgt : Int)) (hw : if a < b then A else B) (k1 : A → mG X p l e R s m args below meth c nL Q tgt lo st h) (k2 : B → mG X p l e R s m args below meth c nL Q (pc + 3) lo st h) : mG X p l e R s m args below meth c nL Q pc lo ((0, b) :: (0, a) :: st) h := by
  intro H locs ls hs hl hh hP hS hv
  have ra : r32 a := mok_hd (mok_tl hs)
  have rb : r32 b := mok_hd hs
  refine lv_icmp_lt (x := Int32.ofInt a) (y := Int32.ofInt b) C.1 C.2.1 hd ht (fun q => ?_) (fun q => ?_)
  · rw [if_pos ((i32_lt ra rb).mp q)] at hw
    exact k1 hw H locs ls (mok_tl (mok_tl hs)) hl hh hP hS hv
  · rw [if_neg (fun z => q ((i32_lt ra rb).mpr z))] at hw
    exact k2 hw H locs ls (mok_tl (mok_tl hs)) hl hh hP hS hv
theorem g_if_ge (C : mC X p l e R s m args below meth c cc nL own) {a : Int} {off : Int} (tgt : Nat) {A B : Prop} (hd : decode cc pc = .ok (.ifCond .ge off, 3)) (ht : (pc : Int) + off = (tgt : Int)) (hw : if 0 ≤ a then A else B) (k1 : A → mG X p l e R s m args below meth c nL Q tgt lo st h) (k2 : B → mG X p l e R s m args below meth c nL Q (pc + 3) lo st h) : mG X p l e R s m args below meth c nL Q pc lo ((0, a) :: st) h := by
  intro H locs ls hs hl hh hP hS hv
  have ra : r32 a := mok_hd hs
  have z0 : r32 0 := ⟨by decide, by decide⟩
  refine lv_if_ge (x := Int32.ofInt a) C.1 C.2.1 hd ht (fun q => ?_) (fun q => ?_)
  · rw [if_pos ((i32_le z0 ra).mp q)] at hw
    exact k1 hw H locs ls (mok_tl hs) hl hh hP hS hv
  · rw [if_neg (fun z => q ((i32_le z0 ra).mpr z))] at hw
    exact k2 hw H locs ls (mok_tl hs) hl hh hP hS hv
theorem g_icmp_ge (C : mC X p l e R s m args below meth c cc nL own) {a b : Int} {off : Int} (tgt : Nat) {A B : Prop} (hd : decode cc pc = .ok (.if_icmp .ge off, 3)) (ht : (pc : Int) + off = (tgt : Int)) (hw : if b ≤ a then A else B) (k1 : A → mG X p l e R s m args below meth c nL Q tgt lo st h) (k2 : B → mG X p l e R s m args below meth c nL Q (pc + 3) lo st h) : mG X p l e R s m args below meth c nL Q pc lo ((0, b) :: (0, a) :: st) h := by
  intro H locs ls hs hl hh hP hS hv
  have ra : r32 a := mok_hd (mok_tl hs)
  have rb : r32 b := mok_hd hs
  refine lv_icmp_ge (x := Int32.ofInt a) (y := Int32.ofInt b) C.1 C.2.1 hd ht (fun q => ?_) (fun q => ?_)
  · rw [if_pos ((i32_le rb ra).mp q)] at hw
    exact k1 hw H locs ls (mok_tl (mok_tl hs)) hl hh hP hS hv
  · rw [if_neg (fun z => q ((i32_le rb ra).mpr z))] at hw
    exact k2 hw H locs ls (mok_tl (mok_tl hs)) hl hh hP hS hv
theorem g_if_gt (C : mC X p l e R s m args below meth c cc nL own) {a : Int} {off : Int} (tgt : Nat) {A B : Prop} (hd : decode cc pc = .ok (.ifCond .gt off, 3)) (ht : (pc : Int) + off = (tgt : Int)) (hw : if 0 < a then A else B) (k1 : A → mG X p l e R s m args below meth c nL Q tgt lo st h) (k2 : B → mG X p l e R s m args below meth c nL Q (pc + 3) lo st h) : mG X p l e R s m args below meth c nL Q pc lo ((0, a) :: st) h := by
  intro H locs ls hs hl hh hP hS hv
  have ra : r32 a := mok_hd hs
  have z0 : r32 0 := ⟨by decide, by decide⟩
  refine lv_if_gt (x := Int32.ofInt a) C.1 C.2.1 hd ht (fun q => ?_) (fun q => ?_)
  · rw [if_pos ((i32_lt z0 ra).mp q)] at hw
    exact k1 hw H locs ls (mok_tl hs) hl hh hP hS hv
  · rw [if_neg (fun z => q ((i32_lt z0 ra).mpr z))] at hw
    exact k2 hw H locs ls (mok_tl hs) hl hh hP hS hv
theorem g_icmp_gt (C : mC X p l e R s m args below meth c cc nL own) {a b : Int} {off : Int} (tgt : Nat) {A B : Prop} (hd : decode cc pc = .ok (.if_icmp .gt off, 3)) (ht : (pc : Int) + off = (tgt : Int)) (hw : if b < a then A else B) (k1 : A → mG X p l e R s m args below meth c nL Q tgt lo st h) (k2 : B → mG X p l e R s m args below meth c nL Q (pc + 3) lo st h) : mG X p l e R s m args below meth c nL Q pc lo ((0, b) :: (0, a) :: st) h := by
  intro H locs ls hs hl hh hP hS hv
  have ra : r32 a := mok_hd (mok_tl hs)
  have rb : r32 b := mok_hd hs
  refine lv_icmp_gt (x := Int32.ofInt a) (y := Int32.ofInt b) C.1 C.2.1 hd ht (fun q => ?_) (fun q => ?_)
  · rw [if_pos ((i32_lt rb ra).mp q)] at hw
    exact k1 hw H locs ls (mok_tl (mok_tl hs)) hl hh hP hS hv
  · rw [if_neg (fun z => q ((i32_lt rb ra).mpr z))] at hw
    exact k2 hw H locs ls (mok_tl (mok_tl hs)) hl hh hP hS hv
theorem g_if_le (C : mC X p l e R s m args below meth c cc nL own) {a : Int} {off : Int} (tgt : Nat) {A B : Prop} (hd : decode cc pc = .ok (.ifCond .le off, 3)) (ht : (pc : Int) + off = (tgt : Int)) (hw : if a ≤ 0 then A else B) (k1 : A → mG X p l e R s m args below meth c nL Q tgt lo st h) (k2 : B → mG X p l e R s m args below meth c nL Q (pc + 3) lo st h) : mG X p l e R s m args below meth c nL Q pc lo ((0, a) :: st) h := by
  intro H locs ls hs hl hh hP hS hv
  have ra : r32 a := mok_hd hs
  have z0 : r32 0 := ⟨by decide, by decide⟩
  refine lv_if_le (x := Int32.ofInt a) C.1 C.2.1 hd ht (fun q => ?_) (fun q => ?_)
  · rw [if_pos ((i32_le ra z0).mp q)] at hw
    exact k1 hw H locs ls (mok_tl hs) hl hh hP hS hv
  · rw [if_neg (fun z => q ((i32_le ra z0).mpr z))] at hw
    exact k2 hw H locs ls (mok_tl hs) hl hh hP hS hv
theorem g_icmp_le (C : mC X p l e R s m args below meth c cc nL own) {a b : Int} {off : Int} (tgt : Nat) {A B : Prop} (hd : decode cc pc = .ok (.if_icmp .le off, 3)) (ht : (pc : Int) + off = (tgt : Int)) (hw : if a ≤ b then A else B) (k1 : A → mG X p l e R s m args below meth c nL Q tgt lo st h) (k2 : B → mG X p l e R s m args below meth c nL Q (pc + 3) lo st h) : mG X p l e R s m args below meth c nL Q pc lo ((0, b) :: (0, a) :: st) h := by
  intro H locs ls hs hl hh hP hS hv
  have ra : r32 a := mok_hd (mok_tl hs)
  have rb : r32 b := mok_hd hs
  refine lv_icmp_le (x := Int32.ofInt a) (y := Int32.ofInt b) C.1 C.2.1 hd ht (fun q => ?_) (fun q => ?_)
  · rw [if_pos ((i32_le ra rb).mp q)] at hw
    exact k1 hw H locs ls (mok_tl (mok_tl hs)) hl hh hP hS hv
  · rw [if_neg (fun z => q ((i32_le ra rb).mpr z))] at hw
    exact k2 hw H locs ls (mok_tl (mok_tl hs)) hl hh hP hS hv
theorem g_goto (C : mC X p l e R s m args below meth c cc nL own) {off : Int} (tgt : Nat) (hd : decode cc pc = .ok (.goto off, 3)) (ht : (pc : Int) + off = (tgt : Int)) (k : mG X p l e R s m args below meth c nL Q tgt lo st h) : mG X p l e R s m args below meth c nL Q pc lo st h := by
  intro H locs ls hs hl hh hP hS hv
  exact lv_goto C.1 C.2.1 hd ht (k H locs ls hs hl hh hP hS hv)
theorem g_ifnonnull (C : mC X p l e R s m args below meth c cc nL own) {off : Int} (tgt : Nat) {t : Nat} {a : Int} {A B : Prop} (htt : 2 ≤ t ∧ t ≤ 3) (hd : decode cc pc = .ok (.ifnonnull off, 3)) (ht : (pc : Int) + off = (tgt : Int)) (hw : if 0 ≤ a then A else B) (k1 : A → mG X p l e R s m args below meth c nL Q tgt lo st h) (k2 : B → mG X p l e R s m args below meth c nL Q (pc + 3) lo st h) : mG X p l e R s m args below meth c nL Q pc lo ((t, a) :: st) h := by
  intro H locs ls hs hl hh hP hS hv
  by_cases q : 0 ≤ a
  · rw [if_pos q] at hw
    have k := k1 hw H locs ls (mok_tl hs) hl hh hP hS hv
    obtain ⟨x, ex⟩ := mref_pos X q htt
    rw [List.map_cons, ex]
    exact lv_ifnonnull C.1 C.2.1 hd ht k
  · rw [if_neg q] at hw
    have k := k2 hw H locs ls (mok_tl hs) hl hh hP hS hv
    rw [List.map_cons, mref_neg X (by omega) htt]
    exact lv_ifnonnullN C.1 C.2.1 hd k
theorem g_anull (C : mC X p l e R s m args below meth c cc nL own) (t : Nat) (htt : 2 ≤ t ∧ t ≤ 3) (hd : decode cc pc = .ok (.aconst_null, 1)) (k : mG X p l e R s m args below meth c nL Q (pc + 1) lo ((t, -1) :: st) h) : mG X p l e R s m args below meth c nL Q pc lo st h := by
  intro H locs ls hs hl hh hP hS hv
  have k := k H locs ls (mok_cons (by obtain ⟨h1, h2⟩ := htt; have : t = 2 ∨ t = 3 := by omega
                                      rcases this with rfl | rfl <;> trivial) hs) hl hh hP hS hv
  rw [List.map_cons, mref_neg X (by decide) htt] at k
  exact lv_null C.1 C.2.1 hd k
theorem g_topi {t : Nat} {x : Int} (k : ∀ y : Int, y = x → mG X p l e R s m args below meth c nL Q pc lo ((t, y) :: st) h) : mG X p l e R s m args below meth c nL Q pc lo ((t, x) :: st) h := k x rfl
theorem g_heap (k : ∀ y : Mh, y = h → mG X p l e R s m args below meth c nL Q pc lo st y) : mG X p l e R s m args below meth c nL Q pc lo st h := k h rfl
theorem g_iincN (C : mC X p l e R s m args below meth c cc nL own) {i : Nat} {n x : Int} (hd : decode cc pc = .ok (.iinc i n, 3)) (hk : lo.lookup i = some (0, x)) (hn : i < nL) (k : ∀ y : Int, y = w32 (x + n) → mG X p l e R s m args below meth c nL Q (pc + 3) (mst lo i (0, y)) st h) : mG X p l e R s m args below meth c nL Q pc lo st h := g_iinc C hd hk hn (k _ rfl)
end MG
