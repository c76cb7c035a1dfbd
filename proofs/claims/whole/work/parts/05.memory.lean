/-! ===== rows of the memory, of calls and returns ===== -/
theorem mokT_n {x : Int} (h : mokT .byte x) : (Int32.ofInt x).toInt8.toInt32 = Int32.ofInt x := Int32.toInt_inj.mp (by
  have h : -128 ≤ x ∧ x < 128 := h
  rw [Int8.toInt_toInt32, Int32.toInt_toInt8, i32_toInt ⟨by omega, by omega⟩]
  exact Int.bmod_eq_of_le (by omega) (by omega))
theorem mW_obj {X : Mx} {h : Mh} {o : Int} {ci : Nat} (hj : mInj X) (hci : ci < 13) (ho : (mxS X o).1 = ci) : ∃ i : Nat, o = (i : Int) ∧ i < mxN X ∧ (mW X h)[i]? = some (mxA X o, .inr (ci, mobj X ci (h o))) := by
  obtain ⟨h0, h1⟩ := hj.2.1 o (by omega)
  obtain ⟨i, rfl⟩ := Int.eq_ofNat_of_zero_le h0
  refine ⟨i, rfl, by omega, ?_⟩
  rw [mW_at (by omega)]
  simp [mE, ho, hci]
theorem mcv_ref {X : Mx} {i : Nat} : mcv X (2, (i : Int)) = .ref (mxA X i) := by
  have : ¬ ((i : Int) < 0) := by omega
  simp [mcv, this]
theorem mobj_at {X : Mx} {ci j : Nat} {f : Int → Int} (hj : j < mnf ci) : (mobj X ci f)[j]? = some (mcv X (mtag (mty ci j), f j)) := by simp [mobj, hj]
theorem mokH_up {X : Mx} {h : Mh} (hh : mokH X h) {i j : Nat} {v : Int} (hi : i < mxN X) (hv : mokT (if (mxS X i).1 < 13 then mty (mxS X i).1 j else mel (mxS X i).1) v) (hf : mfin (mxS X i).1 j = false) : mokH X (up h i j v) := by
  intro i2 hi2 j2 hj2
  by_cases e : (i2 : Int) = (i : Int) ∧ (j2 : Int) = (j : Int)
  · have e1 : i2 = i := by omega
    have e2 : j2 = j := by omega
    subst e1; subst e2
    rw [up_same]
    exact ⟨hv, fun q => by rw [hf] at q; cases q⟩
  · rw [up_ne h e]
    exact hh i2 hi2 j2 hj2
theorem mobj_set {X : Mx} {ci j : Nat} {h : Mh} {i : Nat} {v : Int} : (mobj X ci (h i)).set j (mcv X (mtag (mty ci j), v)) = mobj X ci (up h i j v i) := by
  apply List.ext_getElem?
  intro k
  by_cases hk : k < mnf ci
  · rw [mobj_at hk, List.getElem?_set]
    by_cases e : j = k
    · subst e
      simp [mobj, hk, up]
    · have : ¬ ((i : Int) = (i : Int) ∧ (k : Int) = (j : Int)) := by omega
      rw [if_neg e, mobj_at hk, up_ne h this]
  · rw [List.getElem?_eq_none (by simp [mobj]; omega), List.getElem?_eq_none (by simp [mobj]; omega)]
theorem mfin_no {ci j : Nat} {Cn : String} {T : u_T} {N : Nat} (hc : mcl[ci]? = some (Cn, T, N)) (hf : (T j).2.2.2 = false) : mfin ci j = false := by
  simp [mfin, hc, hf]
theorem mfits {X : Mx} {t : FieldType} {x : Int} (h : mokT t x) (hk : t = .int ∨ t = .long ∨ t = .boolean ∨ (∃ n, t = .object n) ∨ ∃ n, t = .array n) : narrow t (mcv X (mtag t, x)) = mcv X (mtag t, x) ∧ fits t (mcv X (mtag t, x)) = true := by
  rcases hk with rfl | rfl | rfl | ⟨n, rfl⟩ | ⟨n, rfl⟩
  · exact ⟨rfl, rfl⟩
  · exact ⟨rfl, rfl⟩
  · rcases (h : x = 0 ∨ x = 1) with rfl | rfl
    · exact ⟨by show Value.int (Int32.ofInt 0 &&& 1) = Value.int (Int32.ofInt 0); decide +kernel, by show fits .boolean (.int (Int32.ofInt 0)) = true; decide +kernel⟩
    · exact ⟨by show Value.int (Int32.ofInt 1 &&& 1) = Value.int (Int32.ofInt 1); decide +kernel, by show fits .boolean (.int (Int32.ofInt 1)) = true; decide +kernel⟩
  · refine ⟨rfl, ?_⟩
    rcases mref X x (t := 2) (Nat.le_refl 2) with ⟨a, ea⟩ | ea
    · show fits _ (mcv X (2, x)) = true
      rw [ea]; rfl
    · show fits _ (mcv X (2, x)) = true
      rw [ea]; rfl
  · refine ⟨rfl, ?_⟩
    rcases mref X x (t := 2) (Nat.le_refl 2) with ⟨a, ea⟩ | ea
    · show fits _ (mcv X (2, x)) = true
      rw [ea]; rfl
    · show fits _ (mcv X (2, x)) = true
      rw [ea]; rfl
theorem mix {i : Int} {n : Nat} (h0 : 0 ≤ i) (h1 : i < n) (hn : r32 i) : vp_in (Int32.ofInt i) n ∧ ((Int32.ofInt i).toNatClampNeg : Int) = i := by
  refine ⟨vp_in_iff.mpr (by rw [i32_toInt hn]; exact ⟨h0, h1⟩), ?_⟩
  have : (Int32.ofInt i).toNatClampNeg = (Int32.ofInt i).toInt.toNat := rfl
  rw [this, i32_toInt hn]
  omega
theorem mW_arr {X : Mx} {h : Mh} {o : Int} {ci : Nat} (hj : mInj X) (hci : 13 ≤ ci ∧ ci < 18) (ho : (mxS X o).1 = ci) : ∃ i : Nat, o = (i : Int) ∧ i < mxN X ∧ (mW X h)[i]? = some (mxA X o, mE X (ci, (mxS X o).2) (h o)) := by
  obtain ⟨h0, h1⟩ := hj.2.1 o (by omega)
  obtain ⟨i, rfl⟩ := Int.eq_ofNat_of_zero_le h0
  refine ⟨i, rfl, by omega, ?_⟩
  rw [mW_at (by omega), ← ho]
def mQc (X : Mx) (K : Option Mv → Mh → Prop) (A : Nat → Prop) : Array Value → State → Outcome → State → Prop := fun _ st oc t =>
  (∃ (r : Option Mv) (h' : Mh), oc = .returned (r.map (mcv X)) ∧ K r h' ∧ (∀ v, r = some v → mok v) ∧ mokH X h' ∧ va_P (mxD X) mcl (mW X h') t.heap) ∧ va_F A st t
def mPc (X : Mx) (av : List Mv) (h : Mh) (sz : Nat) : Array Value → State → Prop := va_Pc (av.map (mcv X)) (fun U => U.heap.size = sz ∧ va_P (mxD X) mcl (mW X h) U.heap ∧ va_K (mxD X) mcl (mtys X) U ∧ mokH X h ∧ (∀ v ∈ av, mok v) ∧ mNs U ∧ mST X (mA X sz) U U.heap ∧ mInj X)
/-- a method does what K says -/
def mCal (X : Mx) (l : Launch) (y : MethodName) (cc : ByteArray) (maxL : Nat) (ret : Option FieldType) (fr lc : Nat) (av : List Mv) (h : Mh) (K : Option Mv → Mh → Prop) : Prop :=
  ∀ sz : Nat, Met l y (Cond.code y cc maxL ret :: mtb) { frames := fr, cells := 0, slots := 0, locals := lc } (mPc X av h sz) (mQc X K (mA X sz)) 0 0 (mA X sz)
def mMQ (X : Mx) (K : Option Mv → Mh → Prop) (below : List Frame) (args : Array Value) (s : State) : State → Prop := MQ below (mQc X K (mA X s.heap.size)) args s 0 0 (mA X s.heap.size)
def mKi (K : Int → Mh → Prop) : Option Mv → Mh → Prop := fun r h => ∃ x, r = some (0, x) ∧ K x h
def mKz (K : Int → Mh → Prop) : Option Mv → Mh → Prop := fun r h => ∃ x, r = some (0, x) ∧ (x = 0 ∨ x = 1) ∧ K x h
def mKl (K : Int → Mh → Prop) : Option Mv → Mh → Prop := fun r h => ∃ x, r = some (1, x) ∧ K x h
def mKr (K : Int → Mh → Prop) : Option Mv → Mh → Prop := fun r h => ∃ x, r = some (2, x) ∧ K x h
def mKe (K : Int → Mh → Prop) : Option Mv → Mh → Prop := fun r h => ∃ x, r = some (3, x) ∧ K x h
def mKv (K : Mh → Prop) : Option Mv → Mh → Prop := fun r h => r = none ∧ K h
def largs : Nat → List Mv → List (Nat × Mv)
  | _, [] => []
  | i, v :: vs => (i, v) :: largs (if v.1 = 1 then i + 2 else i + 1) vs
theorem mcatI {X : Mx} {v : Mv} : (mcv X v).category = 2 ↔ v.1 = 1 := by
  refine ⟨mcat, fun q => ?_⟩
  obtain ⟨t, x⟩ := v
  have : t = 1 := q
  subst this
  rfl
theorem largs_eq {X : Mx} (vs : List Mv) : ∀ i, lv_args i (vs.map (mcv X)) = (largs i vs).map fun q => (q.1, mcv X q.2) := by
  induction vs with
  | nil => intro i; rfl
  | cons v vs ih =>
    intro i
    rw [List.map_cons, lv_args, largs, List.map_cons, ih]
    by_cases q : v.1 = 1
    · rw [if_pos q, if_pos (mcatI.mpr q)]
    · rw [if_neg q, if_neg (fun z => q (mcatI.mp z))]
theorem largs_in (vs : List Mv) : ∀ i, ∀ q ∈ largs i vs, q.2 ∈ vs := by
  induction vs with
  | nil => intro i q hq; cases hq
  | cons v vs ih =>
    intro i q hq
    rcases List.mem_cons.mp hq with e | e
    · exact e ▸ List.mem_cons_self
    · exact List.mem_cons_of_mem _ (ih _ q e)
def mwords (vs : List Mv) : Nat := (vs.map fun v => if v.1 = 1 then 2 else 1).sum
theorem mwords_sl {X : Mx} (vs : List Mv) : (lg_sl (vs.map (mcv X))).length = mwords vs := by
  induction vs with
  | nil => rfl
  | cons v vs ih =>
    have e : (lg_sl ((v :: vs).map (mcv X))).length = (if (mcv X v).category = 2 then 2 else 1) + (lg_sl (vs.map (mcv X))).length := by
      simp only [lg_sl, List.map_cons, List.flatMap_cons, List.length_append]
      split <;> rfl
    rw [e, ih]
    show _ = mwords (v :: vs)
    simp only [mwords, List.map_cons, List.sum_cons]
    by_cases q : v.1 = 1
    · rw [if_pos q, if_pos (mcatI.mpr q)]
    · rw [if_neg q, if_neg (fun z => q (mcatI.mp z))]
theorem mwords_cat {X : Mx} (vs : List Mv) : ((vs.map (mcv X)).map fun v => v.category).sum = mwords vs := by
  induction vs with
  | nil => rfl
  | cons v vs ih =>
    simp only [mwords, List.map_cons, List.sum_cons] at ih ⊢
    rw [ih]
    by_cases q : v.1 = 1
    · rw [if_pos q, mcatI.mpr q]
    · rw [if_neg q, mcat1 q]
theorem mtb_good : GoodIn mtb mtb := fun w hw => ⟨hw, good_of_word (List.mem_filter.mp hw).2⟩
theorem mtb_good1 {w : Cond} (h : w ∈ mtb) : GoodIn mtb [w] := fun w' hw => by
  rcases List.mem_cons.mp hw with e | e
  · subst e; exact mtb_good _ h
  · cases e
theorem mgi {w : Cond} {ws : List Cond} (h : w ∈ mtb) (h2 : GoodIn mtb ws) : GoodIn mtb (w :: ws) := fun w' hw => by
  rcases List.mem_cons.mp hw with e | e
  · subst e; exact mtb_good _ h
  · exact h2 w' e
theorem mST.at {X : Mx} {u U : State} {H : Heap} {locs : List Loc} (h : mST X (mA X u.heap.size) u u.heap) (hS : va_S (mA X u.heap.size) u.heap H locs) (hvm : u.vm.Alike U.vm) : mST X (mA X H.size) U H :=
  ((h.moved hvm).kept hS.2.1).narrow (fun q hq => by
    rcases hq with hq | hq
    · exact Or.inl hq
    · exact Or.inr (Nat.le_trans hS.1 hq))
/-- a method's walk from its entry -/
theorem m_entry {X : Mx} {l : Launch} {y : MethodName} {cc : ByteArray} {maxL : Nat} {ret : Option FieldType} {fr lc : Nat} {av : List Mv} {h : Mh} {K : Option Mv → Mh → Prop} (own : String) (how : y.cls = own) (hy : plainName own = true) (hn : Nat.ble (mwords av) maxL = true)
    (body : ∀ p e s m args below meth c, mC X p l e { frames := fr, cells := 0, slots := 0, locals := lc } s m args below meth c cc maxL own → meth.sig.returnType = ret →
      mG X p l e { frames := fr, cells := 0, slots := 0, locals := lc } s m args below meth c maxL (mMQ X K below args s) 0 (largs 0 av) [] h) : mCal X l y cc maxL ret fr lc av h K := by
  subst how
  intro sz
  refine Met.ofW (cc := cc) (maxL := maxL) (ret := ret) hy rfl ?_
  intro p e s m args below meth c s₁ B hml hv
  obtain ⟨rfl, hsz, hP, hK, hh, hav, hN, hT, hI⟩ := hv
  subst hsz
  have hts := atoms_spec (ws := Cond.code y cc maxL ret :: mtb) B.pre
  have hC : mC X p l e { frames := fr, cells := 0, slots := 0, locals := lc } s m (av.map (mcv X)).toArray below meth c cc maxL y.cls := ⟨B.exec, B.bytes, hml, findClass_of_methodNamed B.named, fun w hw => hts w (List.mem_cons_of_mem _ hw), hK, hI, hN, hT, B.notSynchronized⟩
  have k := body p e s m (av.map (mcv X)).toArray below meth c hC B.returns
  have hl := lv_entry (av.map (mcv X)) (n := maxL) (by rw [mwords_sl]; exact Nat.le_of_ble_eq_true hn)
  rw [lg_entry_eq]
  rw [largs_eq] at hl
  exact k s.heap [] _ (fun v hv => by cases hv) (fun q hq => hav _ (largs_in av 0 q hq)) hh hP va_S.rf hl
section MH
variable {X : Mx} {p : Program} {l : Launch} {e : Env} {R : Room} {s : State} {m : MethodId} {args : Array Value} {below : List Frame} {meth : Method} {c : Code} {cc : ByteArray} {nL : Nat} {own : String} {Q : State → Prop} {pc : Nat} {lo : List (Nat × Mv)} {st : List Mv} {h : Mh}
theorem g_call {y : MethodName} {av : List Mv} {K : Option Mv → Mh → Prop} (hr : ∀ H locs ls, (∀ v ∈ av, mok v) → mokH X h → va_P (mxD X) mcl (mW X h) H → va_S (mA X s.heap.size) s.heap H locs → lv_has ls nL (lo.map fun q => (q.1, mcv X q.2)) → va_Run p l e R s m args below meth c H locs 0 0 0 0 (F0 m pc ls ((av.reverse ++ st).map (mcv X))) (st.map (mcv X)) (mQc X K (mA X H.size) (av.map (mcv X)).toArray) (mA X H.size))
    (k : ∀ r h', K r h' → mG X p l e R s m args below meth c nL Q (pc + 3) lo (r.toList ++ st) h') : mG X p l e R s m args below meth c nL Q pc lo (av.reverse ++ st) h := by
  intro H locs ls hs hl hh hP hS hv
  intro T hT Z
  have hav : ∀ v ∈ av, mok v := fun v hv => hs v (List.mem_append_left _ (List.mem_reverse.mpr hv))
  have hst : ∀ v ∈ st, mok v := fun v hv => hs v (List.mem_append_right _ hv)
  obtain ⟨v, st₀, t, T', L, h0, X', hL, e1, e2, ⟨⟨r, h', hv2, hk, hok, hh', hP'⟩, hz, hkk⟩, stp⟩ := hr H locs ls hav hh hP hS hv T hT Z
  cases hv2
  rw [h0] at hz hkk
  have hA2 : ∀ q, mA X H.size q → mA X s.heap.size q := fun q hq => by
    rcases hq with hq | hq
    · exact Or.inl hq
    · exact Or.inr (Nat.le_trans hS.1 hq)
  have hS' : va_S (mA X s.heap.size) s.heap T'.heap (locs ++ L) := by
    refine ⟨Nat.le_trans hS.1 (by rw [e1]; exact hz), fun q h1 h2 => ?_, fun q hq => ?_⟩
    · rw [e1, hkk q (Nat.lt_of_lt_of_le h1 hS.1) (fun z => h2 (hA2 q z))]
      exact hS.2.1 q h1 h2
    · rcases List.mem_append.mp hq with h | h
      · exact hS.2.2 q h
      · exact hA2 _ (hL q h)
  have kk := k r h' hk T'.heap (locs ++ L) ls (fun v hv => by
    rcases List.mem_append.mp hv with q | q
    · exact hok v (by cases r with
        | none => cases q
        | some w => simp at q; rw [q])
    · exact hst v q) hl hh' (by rw [e1]; exact hP') hS' hv T' rfl X'
  obtain ⟨t2, a1, b1⟩ := kk
  refine ⟨t2, stp t2 ?_, b1⟩
  have e3 : (r.toList ++ st).map (mcv X) = (r.map (mcv X)).toList ++ st.map (mcv X) := by
    cases r <;> simp
  rw [e3] at a1
  exact a1
theorem m_blind {av : List Mv} {sz : Nat} : FrameBlind (mPc X av h sz) := by
  intro a U g mk q
  obtain ⟨q0, q1, qP, qK, qh, qv, qN, qT, qI⟩ := q
  exact ⟨q0, q1, qP, va_K.moved (u := U) (U := U.calling g mk a) (Vm.Alike.refl U.vm) qK, qh, qv, mNs.same (u := U) rfl qN, mST.moved (u := U) (Vm.Alike.refl U.vm) qT, qI⟩
theorem m_pre (C : mC X p l e R s m args below meth c cc nL own) {av : List Mv} (hav : ∀ v ∈ av, mok v) (hh : mokH X h) {H : Heap} {locs : List Loc} (hP : va_P (mxD X) mcl (mW X h) H) (hS : va_S (mA X s.heap.size) s.heap H locs) : ∀ U : State, U.heap = H → s.WarmedH U.vm → mPc X av h H.size (av.map (mcv X)).toArray U := by
  intro U hU hW
  obtain ⟨hx, hb, hml, hown, hts, hK, hI, hN, hT, hlk⟩ := C
  exact ⟨rfl, by rw [hU], by rw [hU]; exact hP, va_K.moved hW.alike hK, hh, hav, hN.warm hW, by rw [hU]; exact hT.at hS hW.alike, hI⟩
theorem g_callV (C : mC X p l e R s m args below meth c cc nL own) {y : MethodName} {bytes : ByteArray} {maxL fr lc index n ci N : Nat} {ret : Option FieldType} {Cn : String} {T : u_T} {av : List Mv} {o : Int} {K : Option Mv → Mh → Prop} {st0 : List Mv} (hM : mCal X l y bytes maxL ret fr lc ((2, o) :: av) h K)
    (hml : Cond.methodLink own index y ∈ mtb) (him : Cond.instanceMethod y ∈ mtb) (hse : Cond.selects Cn y y ∈ mtb) (hin : Cond.initialized Cn ∈ mtb) (hco : Cond.code y bytes maxL ret ∈ mtb) (hd : y.cls = Cn ∧ y.cls ≠ "java/lang/invoke/MethodHandle" ∧ y.cls ≠ "java/lang/invoke/VarHandle" ∧ (parseMethodDescriptor y.desc).map (fun d => d.parameters.length) = some n)
    (hR : Nat.ble (fr + 1) R.frames = true) (hR2 : Nat.ble (8 + (maxL + 11) + lc) R.locals = true) (hci : ci < 13) (hc : mcl[ci]? = some (Cn, T, N)) (ho : (mxS X o).1 = ci) (hlen : av.length = n) (hst : st0 = av.reverse ++ (2, o) :: st) (hrm : Nat.ble (mwords st) 8 = true) (hdg : decode cc pc = .ok (.invokevirtual index, 3))
    (k : ∀ r h', K r h' → mG X p l e R s m args below meth c nL Q (pc + 3) lo (r.toList ++ st) h') : mG X p l e R s m args below meth c nL Q pc lo st0 h := by
  have e0 : st0 = ((2, o) :: av).reverse ++ st := by rw [hst]; simp
  rw [e0]
  refine g_call (y := y) (K := K) (fun H locs ls hav hh hP hS hv => ?_) k
  obtain ⟨hx, hb, hml2, hown, hts, hK, hI, hN, hT, hlk⟩ := id C
  obtain ⟨i, rfl, hi, hwi⟩ := mW_obj (h := h) hI hci ho
  have hGd : GoodIn mtb (wsV own index Cn y (Cond.code y bytes maxL ret :: mtb)) := mgi hml (mgi him (mgi hse (mgi hin (mgi hco mtb_good))))
  have hrec := va_recv hK hP hc hwi
  have hpre := m_pre C hav hh hP hS
  have er : mcv X (2, (i : Int)) = .ref (mxA X i) := mcv_ref
  rw [List.map_cons, er] at hpre ⊢
  refine va_runV (b := mxA X i) (As := av.map (mcv X)) ⟨hx, hb, hml2, hown, hts⟩ (hM H.size) (cwV n hts hGd rfl rfl rfl hd ⟨Nat.le_of_ble_eq_true hR, Nat.le_of_ble_eq_true hR2⟩) ⟨m_blind, hrec, hpre⟩ rfl (by rw [List.length_map]; exact hlen) hv.1 ?_ (lv_room (by rw [mwords_cat]; exact Nat.le_of_ble_eq_true hrm)) hdg ⟨Nat.zero_le _, Nat.zero_le _⟩
  show ((((2, (i : Int)) :: av).reverse ++ st).map (mcv X)) = _
  simp [er]
theorem g_callS (C : mC X p l e R s m args below meth c cc nL own) {y : MethodName} {bytes : ByteArray} {maxL fr lc index n : Nat} {ret : Option FieldType} {av : List Mv} {K : Option Mv → Mh → Prop} {st0 : List Mv} (hM : mCal X l y bytes maxL ret fr lc av h K)
    (hml : Cond.methodLink own index y ∈ mtb) (him : Cond.static y ∈ mtb) (hin : Cond.initialized y.cls ∈ mtb) (hco : Cond.code y bytes maxL ret ∈ mtb) (hd : y.cls ≠ "java/lang/invoke/MethodHandle" ∧ y.cls ≠ "java/lang/invoke/VarHandle" ∧ (parseMethodDescriptor y.desc).map (fun d => d.parameters.length) = some n)
    (hR : Nat.ble (fr + 1) R.frames = true) (hR2 : Nat.ble (8 + (maxL + 11) + lc) R.locals = true) (hlen : av.length = n) (hst : st0 = av.reverse ++ st) (hrm : Nat.ble (mwords st) 8 = true) (hdg : decode cc pc = .ok (.invokestatic index, 3))
    (k : ∀ r h', K r h' → mG X p l e R s m args below meth c nL Q (pc + 3) lo (r.toList ++ st) h') : mG X p l e R s m args below meth c nL Q pc lo st0 h := by
  rw [hst]
  refine g_call (y := y) (K := K) (fun H locs ls hav hh hP hS hv => ?_) k
  obtain ⟨hx, hb, hml2, hown, hts, hK, hI, hN, hT, hlk⟩ := id C
  have hpre := m_pre C hav hh hP hS
  have cw : CallB R s args own index y bytes maxL ret (Cond.code y bytes maxL ret :: mtb) { frames := fr, cells := 0, slots := 0, locals := lc } 0 0 n ∧ (Cond.static y).before args s = true := ⟨callB_of n hts (mgi hco mtb_good) rfl rfl rfl (hts _ hin) (hts _ hml) hd ⟨Nat.le_of_ble_eq_true hR, Nat.le_of_ble_eq_true hR2⟩, hts _ him⟩
  refine va_runS (As := av.map (mcv X)) ⟨hx, hb, hml2, hown, hts⟩ (hM H.size) cw ⟨m_blind, hpre⟩ rfl (by rw [List.length_map]; exact hlen) hv.1 ?_ (lv_room (by rw [mwords_cat]; exact Nat.le_of_ble_eq_true hrm)) hdg ⟨Nat.zero_le _, Nat.zero_le _⟩
  show ((av.reverse ++ st).map (mcv X)) = _
  simp
theorem g_get (C : mC X p l e R s m args below meth c cc nL own) {N index : Nat} {Cn : String} {T : u_T} (ci j : Nat) (hc : mcl[ci]? = some (Cn, T, N)) (hci : ci < 13) (hN : mnf ci = N) (hin : ∀ w ∈ u_ws Cn T N, w ∈ mtb) (hj : j < N) (hlink : Cond.fieldLink own index (T j).1 (T j).2.1 (T j).2.2.1 ∈ mtb) (hd : decode cc pc = .ok (.getfield index, 3)) {o : Int} (ho : (mxS X o).1 = ci) (k : mokT (mty ci j) (h o j) → mG X p l e R s m args below meth c nL Q (pc + 3) lo ((mtag (mty ci j), h o j) :: st) h) : mG X p l e R s m args below meth c nL Q pc lo ((2, o) :: st) h := by
  intro H locs ls hs hl hh hP hS hv
  obtain ⟨hx, hb, hml2, hown, hts, hK, hI, hNs, hT, hlk⟩ := id C
  obtain ⟨i, rfl, hi, hwi⟩ := mW_obj (h := h) hI hci ho
  have hok : mokT (mty ci j) (h i j) := by
    have := (hh i hi j (by rw [ho, if_pos hci, hN]; exact hj)).1
    rw [ho, if_pos hci] at this
    exact this
  have k := k hok H locs ls (mok_cons (mokT_ok hok) (mok_tl hs)) hl hh hP hS hv
  rw [List.map_cons, mcv_ref]
  exact va_get hx hb hts hin hown hK hP i hwi hc j hj (hts _ hlink) (fun _ h9 => h9) (mobj_at (by rw [hN]; exact hj)) hd k
theorem g_getw (C : mC X p l e R s m args below meth c cc nL own) {N index : Nat} {Cn : String} {T : u_T} (ci j : Nat) (hc : mcl[ci]? = some (Cn, T, N)) (hci : ci < 13) (hN : mnf ci = N) (hin : ∀ w ∈ u_ws Cn T N, w ∈ mtb) (hj : j < N) (hlink : Cond.fieldLink own index (T j).1 (T j).2.1 (T j).2.2.1 ∈ mtb) (hf : mfin ci j = true) (hd : decode cc pc = .ok (.getfield index, 3)) {o v : Int} (ho : (mxS X o).1 = ci) (hw : mxW X o j = v) (k : mG X p l e R s m args below meth c nL Q (pc + 3) lo ((2, v) :: st) h) : mG X p l e R s m args below meth c nL Q pc lo ((2, o) :: st) h := by
  intro H locs ls hs hl hh hP hS hv
  have hI := C.2.2.2.2.2.2.1
  obtain ⟨i, rfl, hi, hwi⟩ := mW_obj (h := h) hI hci ho
  have e : h i j = v := by
    have := (hh i hi j (by rw [ho, if_pos hci, hN]; exact hj)).2
    rw [ho] at this
    rw [this hf, hw]
  have ht : mtag (mty ci j) = 2 := by
    have hf2 := hf
    unfold mfin at hf2
    rw [hc] at hf2
    simp at hf2
    exact hf2.2
  refine g_get C ci j hc hci hN hin hj hlink hd ho (fun _ => ?_) H locs ls hs hl hh hP hS hv
  rw [ht, e]
  exact k
theorem g_getN (C : mC X p l e R s m args below meth c cc nL own) {N index : Nat} {Cn : String} {T : u_T} (ci j : Nat) (hc : mcl[ci]? = some (Cn, T, N)) (hci : ci < 13) (hN : mnf ci = N) (hin : ∀ w ∈ u_ws Cn T N, w ∈ mtb) (hj : j < N) {host : String} (hlink : Cond.fieldLinkNest own index (T j).1 (T j).2.1 (T j).2.2.1 host ∈ lw_tbl.filter mnest) (hd : decode cc pc = .ok (.getfield index, 3)) {o : Int} (ho : (mxS X o).1 = ci) (k : mokT (mty ci j) (h o j) → mG X p l e R s m args below meth c nL Q (pc + 3) lo ((mtag (mty ci j), h o j) :: st) h) : mG X p l e R s m args below meth c nL Q pc lo ((2, o) :: st) h := by
  intro H locs ls hs hl hh hP hS hv
  obtain ⟨hx, hb, hml2, hown, hts, hK, hI, hNs, hT, hlk⟩ := id C
  obtain ⟨i, rfl, hi, hwi⟩ := mW_obj (h := h) hI hci ho
  have hok : mokT (mty ci j) (h i j) := by
    have := (hh i hi j (by rw [ho, if_pos hci, hN]; exact hj)).1
    rw [ho, if_pos hci] at this
    exact this
  have k := k hok H locs ls (mok_cons (mokT_ok hok) (mok_tl hs)) hl hh hP hS hv
  rw [List.map_cons, mcv_ref]
  exact va_getN hx hb hts hin hown hK hP i hwi hc j hj ((hNs _ hlink).use rfl) (fun _ h9 => h9) (mobj_at (by rw [hN]; exact hj)) hd k
theorem g_getwN (C : mC X p l e R s m args below meth c cc nL own) {N index : Nat} {Cn : String} {T : u_T} (ci j : Nat) (hc : mcl[ci]? = some (Cn, T, N)) (hci : ci < 13) (hN : mnf ci = N) (hin : ∀ w ∈ u_ws Cn T N, w ∈ mtb) (hj : j < N) {host : String} (hlink : Cond.fieldLinkNest own index (T j).1 (T j).2.1 (T j).2.2.1 host ∈ lw_tbl.filter mnest) (hf : mfin ci j = true) (hd : decode cc pc = .ok (.getfield index, 3)) {o v : Int} (ho : (mxS X o).1 = ci) (hw : mxW X o j = v) (k : mG X p l e R s m args below meth c nL Q (pc + 3) lo ((2, v) :: st) h) : mG X p l e R s m args below meth c nL Q pc lo ((2, o) :: st) h := by
  intro H locs ls hs hl hh hP hS hv
  have hI := C.2.2.2.2.2.2.1
  obtain ⟨i, rfl, hi, hwi⟩ := mW_obj (h := h) hI hci ho
  have e : h i j = v := by
    have := (hh i hi j (by rw [ho, if_pos hci, hN]; exact hj)).2
    rw [ho] at this
    rw [this hf, hw]
  have ht : mtag (mty ci j) = 2 := by
    have hf2 := hf
    unfold mfin at hf2
    rw [hc] at hf2
    simp at hf2
    exact hf2.2
  refine g_getN C ci j hc hci hN hin hj hlink hd ho (fun _ => ?_) H locs ls hs hl hh hP hS hv
  rw [ht, e]
  exact k
theorem g_put (C : mC X p l e R s m args below meth c cc nL own) {N index : Nat} {Cn : String} {T : u_T} (ci j : Nat) (hc : mcl[ci]? = some (Cn, T, N)) (hci : ci < 13) (hN : mnf ci = N) (hin : ∀ w ∈ u_ws Cn T N, w ∈ mtb) (hj : j < N) (hlink : Cond.fieldLink own index (T j).1 (T j).2.1 (T j).2.2.1 ∈ mtb) (ty0 : Nat → FieldType) (hty : ∀ k, k < N → parseFieldDescriptor (T k).2.2.1 = some (ty0 k)) (hnm : ∀ a, a < N → ∀ b, b < N → a ≠ b → (T a).2.1 ≠ (T b).2.1) (hm : mty ci j = ty0 j) (hfin : (T j).2.2.2 = false) (htt : mty ci j = .int ∨ mty ci j = .long ∨ mty ci j = .boolean ∨ (∃ n, mty ci j = .object n) ∨ ∃ n, mty ci j = .array n) {tag : Nat} (htag : mtag (mty ci j) = tag) (hd : decode cc pc = .ok (.putfield index, 3)) {o v : Int} (ho : (mxS X o).1 = ci) (hok : mok (tag, v) → mokT (mty ci j) v) (k : mG X p l e R s m args below meth c nL Q (pc + 3) lo st (up h o j v)) : mG X p l e R s m args below meth c nL Q pc lo ((tag, v) :: (2, o) :: st) h := by
  intro H locs ls hs hl hh hP hS hv
  subst htag
  obtain ⟨hx, hb, hml2, hown, hts, hK, hI, hNs, hT, hlk⟩ := id C
  obtain ⟨i, rfl, hi, hwi⟩ := mW_obj (h := h) hI hci ho
  have hok := hok (mok_hd hs)
  have hmf := mfin_no (j := j) hc hfin
  obtain ⟨hn1, hn2⟩ := mfits (X := X) hok htt
  rw [List.map_cons, List.map_cons, mcv_ref]
  refine va_put (A := mA X s.heap.size) hx hb hts hin ty0 hty hnm hown hK hP (mD hI _ (fun q hq => Or.inl ⟨q, hq, rfl⟩)) hS i hwi hc j hj (hts _ hlink) (fun _ h9 => h9) hfin (ty := mty ci j) (by rw [hty j hj, hm]) hn1 hn2 (by simp [mobj, hN]; exact hj) hd (fun H1 locs1 hP1 hD1 hS1 => ?_)
  rw [mobj_set (X := X) (h := h), mW_set (k := j) (v := v) hi (by simp [mE, ho, hci])] at hP1
  exact k H1 locs1 ls (mok_tl (mok_tl hs)) hl (mokH_up hh hi (by rw [ho, if_pos hci]; exact hok) (by rw [ho]; exact hmf)) hP1 hS1 hv
theorem g_putN (C : mC X p l e R s m args below meth c cc nL own) {N index : Nat} {Cn : String} {T : u_T} (ci j : Nat) (hc : mcl[ci]? = some (Cn, T, N)) (hci : ci < 13) (hN : mnf ci = N) (hin : ∀ w ∈ u_ws Cn T N, w ∈ mtb) (hj : j < N) {host : String} (hlink : Cond.fieldLinkNest own index (T j).1 (T j).2.1 (T j).2.2.1 host ∈ lw_tbl.filter mnest) (ty0 : Nat → FieldType) (hty : ∀ k, k < N → parseFieldDescriptor (T k).2.2.1 = some (ty0 k)) (hnm : ∀ a, a < N → ∀ b, b < N → a ≠ b → (T a).2.1 ≠ (T b).2.1) (hm : mty ci j = ty0 j) (hfin : (T j).2.2.2 = false) (htt : mty ci j = .int ∨ mty ci j = .long ∨ mty ci j = .boolean ∨ (∃ n, mty ci j = .object n) ∨ ∃ n, mty ci j = .array n) {tag : Nat} (htag : mtag (mty ci j) = tag) (hd : decode cc pc = .ok (.putfield index, 3)) {o v : Int} (ho : (mxS X o).1 = ci) (hok : mok (tag, v) → mokT (mty ci j) v) (k : mG X p l e R s m args below meth c nL Q (pc + 3) lo st (up h o j v)) : mG X p l e R s m args below meth c nL Q pc lo ((tag, v) :: (2, o) :: st) h := by
  intro H locs ls hs hl hh hP hS hv
  subst htag
  obtain ⟨hx, hb, hml2, hown, hts, hK, hI, hNs, hT, hlk⟩ := id C
  obtain ⟨i, rfl, hi, hwi⟩ := mW_obj (h := h) hI hci ho
  have hok := hok (mok_hd hs)
  have hmf := mfin_no (j := j) hc hfin
  obtain ⟨hn1, hn2⟩ := mfits (X := X) hok htt
  rw [List.map_cons, List.map_cons, mcv_ref]
  refine va_putN (A := mA X s.heap.size) hx hb hts hin ty0 hty hnm hown hK hP (mD hI _ (fun q hq => Or.inl ⟨q, hq, rfl⟩)) hS i hwi hc j hj ((hNs _ hlink).use rfl) (fun _ h9 => h9) hfin (ty := mty ci j) (by rw [hty j hj, hm]) hn1 hn2 (by simp [mobj, hN]; exact hj) hd (fun H1 locs1 hP1 hD1 hS1 => ?_)
  rw [mobj_set (X := X) (h := h), mW_set (k := j) (v := v) hi (by simp [mE, ho, hci])] at hP1
  exact k H1 locs1 ls (mok_tl (mok_tl hs)) hl (mokH_up hh hi (by rw [ho, if_pos hci]; exact hok) (by rw [ho]; exact hmf)) hP1 hS1 hv
theorem g_iaload (C : mC X p l e R s m args below meth c cc nL own) {a i : Int} (hd : decode cc pc = .ok (.iaload, 1)) (ha : (mxS X a).1 = 14) (h0 : 0 ≤ i) (h1 : i < (mxS X a).2) (k : mokT (mel 14) (h a i) → mG X p l e R s m args below meth c nL Q (pc + 1) lo ((0, h a i) :: st) h) : mG X p l e R s m args below meth c nL Q pc lo ((0, i) :: (2, a) :: st) h := by
  intro H locs ls hs hl hh hP hS hv
  obtain ⟨hx, hb, hml2, hown, hts, hK, hI, hNs, hT, hlk⟩ := id C
  obtain ⟨q, rfl, hq, hwq⟩ := mW_arr (h := h) (ci := 14) hI (by decide) ha
  obtain ⟨b1, b2⟩ := mix h0 h1 (mok_hd hs)
  have hok : mokT (mel 14) (h q i) := by
    have := (hh q hq i.toNat (by rw [ha, if_neg (by decide)]; omega)).1
    rw [ha, if_neg (by decide), show ((i.toNat : Nat) : Int) = i from by omega] at this
    exact this
  have k := k hok H locs ls (mok_cons (mokT_ok hok) (mok_tl (mok_tl hs))) hl hh hP hS hv
  rw [List.map_cons, List.map_cons, mcv_ref]
  refine va_iald (f := fun j => Int32.ofInt (h q j)) hx hb hK hP q 1 (by rw [hwq]; rfl) rfl b1 hd ?_
  rw [show ((Int32.ofInt i).toNatClampNeg : Int) = i from b2]
  exact k
theorem g_baload (C : mC X p l e R s m args below meth c cc nL own) {a i : Int} (hd : decode cc pc = .ok (.baload, 1)) (ha : (mxS X a).1 = 13) (h0 : 0 ≤ i) (h1 : i < (mxS X a).2) (k : mokT (mel 13) (h a i) → mG X p l e R s m args below meth c nL Q (pc + 1) lo ((0, h a i) :: st) h) : mG X p l e R s m args below meth c nL Q pc lo ((0, i) :: (2, a) :: st) h := by
  intro H locs ls hs hl hh hP hS hv
  obtain ⟨hx, hb, hml2, hown, hts, hK, hI, hNs, hT, hlk⟩ := id C
  obtain ⟨q, rfl, hq, hwq⟩ := mW_arr (h := h) (ci := 13) hI (by decide) ha
  obtain ⟨b1, b2⟩ := mix h0 h1 (mok_hd hs)
  have hok : mokT (mel 13) (h q i) := by
    have := (hh q hq i.toNat (by rw [ha, if_neg (by decide)]; omega)).1
    rw [ha, if_neg (by decide), show ((i.toNat : Nat) : Int) = i from by omega] at this
    exact this
  have k := k hok H locs ls (mok_cons (mokT_ok hok) (mok_tl (mok_tl hs))) hl hh hP hS hv
  rw [List.map_cons, List.map_cons, mcv_ref]
  refine va_bald (f := fun j => Int32.ofInt (h q j)) hx hb hK hP q 0 (by rw [hwq]; rfl) rfl b1 hd ?_
  rw [show ((Int32.ofInt i).toNatClampNeg : Int) = i from b2]
  exact k
theorem g_zaload (C : mC X p l e R s m args below meth c cc nL own) {a i : Int} (hd : decode cc pc = .ok (.baload, 1)) (ha : (mxS X a).1 = 16) (h0 : 0 ≤ i) (h1 : i < (mxS X a).2) (k : mokT (mel 16) (h a i) → mG X p l e R s m args below meth c nL Q (pc + 1) lo ((0, h a i) :: st) h) : mG X p l e R s m args below meth c nL Q pc lo ((0, i) :: (2, a) :: st) h := by
  intro H locs ls hs hl hh hP hS hv
  obtain ⟨hx, hb, hml2, hown, hts, hK, hI, hNs, hT, hlk⟩ := id C
  obtain ⟨q, rfl, hq, hwq⟩ := mW_arr (h := h) (ci := 16) hI (by decide) ha
  obtain ⟨b1, b2⟩ := mix h0 h1 (mok_hd hs)
  have hok : mokT (mel 16) (h q i) := by
    have := (hh q hq i.toNat (by rw [ha, if_neg (by decide)]; omega)).1
    rw [ha, if_neg (by decide), show ((i.toNat : Nat) : Int) = i from by omega] at this
    exact this
  have k := k hok H locs ls (mok_cons (mokT_ok hok) (mok_tl (mok_tl hs))) hl hh hP hS hv
  rw [List.map_cons, List.map_cons, mcv_ref]
  refine va_zald (f := fun j => Int32.ofInt (h q j)) hx hb hK hP q 3 (by rw [hwq]; rfl) rfl b1 hd ?_
  rw [show ((Int32.ofInt i).toNatClampNeg : Int) = i from b2]
  exact k
theorem g_laload (C : mC X p l e R s m args below meth c cc nL own) {a i : Int} (hd : decode cc pc = .ok (.laload, 1)) (ha : (mxS X a).1 = 15) (h0 : 0 ≤ i) (h1 : i < (mxS X a).2) (k : mokT (mel 15) (h a i) → mG X p l e R s m args below meth c nL Q (pc + 1) lo ((1, h a i) :: st) h) : mG X p l e R s m args below meth c nL Q pc lo ((0, i) :: (2, a) :: st) h := by
  intro H locs ls hs hl hh hP hS hv
  obtain ⟨hx, hb, hml2, hown, hts, hK, hI, hNs, hT, hlk⟩ := id C
  obtain ⟨q, rfl, hq, hwq⟩ := mW_arr (h := h) (ci := 15) hI (by decide) ha
  obtain ⟨b1, b2⟩ := mix h0 h1 (mok_hd hs)
  have hok : mokT (mel 15) (h q i) := by
    have := (hh q hq i.toNat (by rw [ha, if_neg (by decide)]; omega)).1
    rw [ha, if_neg (by decide), show ((i.toNat : Nat) : Int) = i from by omega] at this
    exact this
  have k := k hok H locs ls (mok_cons (mokT_ok hok) (mok_tl (mok_tl hs))) hl hh hP hS hv
  rw [List.map_cons, List.map_cons, mcv_ref]
  refine va_lald (f := fun j => Int64.ofInt (h q j)) hx hb hK hP q 2 (by rw [hwq]; rfl) rfl b1 hd ?_
  rw [show ((Int32.ofInt i).toNatClampNeg : Int) = i from b2]
  exact k
theorem g_iastore (C : mC X p l e R s m args below meth c cc nL own) {a i v : Int} (hd : decode cc pc = .ok (.iastore, 1)) (ha : (mxS X a).1 = 14) (h0 : 0 ≤ i) (h1 : i < (mxS X a).2) (hok : mok (0, v) → mokT (mel 14) v) (k : mG X p l e R s m args below meth c nL Q (pc + 1) lo st (up h a i v)) : mG X p l e R s m args below meth c nL Q pc lo ((0, v) :: (0, i) :: (2, a) :: st) h := by
  intro H locs ls hs hl hh hP hS hv
  obtain ⟨hx, hb, hml2, hown, hts, hK, hI, hNs, hT, hlk⟩ := id C
  obtain ⟨q, rfl, hq, hwq⟩ := mW_arr (h := h) (ci := 14) hI (by decide) ha
  obtain ⟨b1, b2⟩ := mix h0 h1 (mok_hd (mok_tl hs))
  have hok := hok (mok_hd hs)
  obtain ⟨j, rfl⟩ := Int.eq_ofNat_of_zero_le h0
  have b3 : (Int32.ofInt (j : Int)).toNatClampNeg = j := by omega
  rw [List.map_cons, List.map_cons, List.map_cons, mcv_ref]
  refine va_iast (A := mA X s.heap.size) (x := Int32.ofInt v) (f := fun j => Int32.ofInt (h q j)) hx hb hK hP (mD hI _ (fun q hq => Or.inl ⟨q, hq, rfl⟩)) hS q 1 (by rw [hwq]; rfl) rfl b1 hd (fun H1 locs1 hP1 hD1 hS1 => ?_)
  rw [mW_set (k := j) (v := v) hq ?_] at hP1
  · exact k H1 locs1 ls (mok_tl (mok_tl (mok_tl hs))) hl (mokH_up hh hq (by rw [ha, if_neg (by decide)]; exact hok) (by rw [ha]; rfl)) hP1 hS1 hv
  · have e : mxS X q = (14, (mxS X q).2) := by rw [← ha]
    rw [e, b3]
    show Sum.inl (mxC X 14, (mxS X q).2, _) = Sum.inl (mxC X 14, (mxS X q).2, _)
    congr 4
    funext z
    unfold upd
    by_cases ez : z = j
    · subst ez
      rw [if_pos rfl, up_same]
      skip
    · rw [if_neg ez, up_ne h (by omega)]
theorem g_bastore (C : mC X p l e R s m args below meth c cc nL own) {a i v : Int} (hd : decode cc pc = .ok (.bastore, 1)) (ha : (mxS X a).1 = 13) (h0 : 0 ≤ i) (h1 : i < (mxS X a).2) (hok : mok (0, v) → mokT (mel 13) v) (k : mG X p l e R s m args below meth c nL Q (pc + 1) lo st (up h a i v)) : mG X p l e R s m args below meth c nL Q pc lo ((0, v) :: (0, i) :: (2, a) :: st) h := by
  intro H locs ls hs hl hh hP hS hv
  obtain ⟨hx, hb, hml2, hown, hts, hK, hI, hNs, hT, hlk⟩ := id C
  obtain ⟨q, rfl, hq, hwq⟩ := mW_arr (h := h) (ci := 13) hI (by decide) ha
  obtain ⟨b1, b2⟩ := mix h0 h1 (mok_hd (mok_tl hs))
  have hok := hok (mok_hd hs)
  obtain ⟨j, rfl⟩ := Int.eq_ofNat_of_zero_le h0
  have b3 : (Int32.ofInt (j : Int)).toNatClampNeg = j := by omega
  rw [List.map_cons, List.map_cons, List.map_cons, mcv_ref]
  refine va_bast (A := mA X s.heap.size) (x := Int32.ofInt v) (f := fun j => Int32.ofInt (h q j)) hx hb hK hP (mD hI _ (fun q hq => Or.inl ⟨q, hq, rfl⟩)) hS q 0 (by rw [hwq]; rfl) rfl b1 hd (fun H1 locs1 hP1 hD1 hS1 => ?_)
  rw [mW_set (k := j) (v := v) hq ?_] at hP1
  · exact k H1 locs1 ls (mok_tl (mok_tl (mok_tl hs))) hl (mokH_up hh hq (by rw [ha, if_neg (by decide)]; exact hok) (by rw [ha]; rfl)) hP1 hS1 hv
  · have e : mxS X q = (13, (mxS X q).2) := by rw [← ha]
    rw [e, b3]
    show Sum.inl (mxC X 13, (mxS X q).2, _) = Sum.inl (mxC X 13, (mxS X q).2, _)
    congr 4
    funext z
    unfold upd
    by_cases ez : z = j
    · subst ez
      rw [if_pos rfl, up_same]
      exact mokT_n hok
    · rw [if_neg ez, up_ne h (by omega)]
theorem g_zastore (C : mC X p l e R s m args below meth c cc nL own) {a i v : Int} (hd : decode cc pc = .ok (.bastore, 1)) (ha : (mxS X a).1 = 16) (h0 : 0 ≤ i) (h1 : i < (mxS X a).2) (hok : mok (0, v) → mokT (mel 16) v) (k : mG X p l e R s m args below meth c nL Q (pc + 1) lo st (up h a i v)) : mG X p l e R s m args below meth c nL Q pc lo ((0, v) :: (0, i) :: (2, a) :: st) h := by
  intro H locs ls hs hl hh hP hS hv
  obtain ⟨hx, hb, hml2, hown, hts, hK, hI, hNs, hT, hlk⟩ := id C
  obtain ⟨q, rfl, hq, hwq⟩ := mW_arr (h := h) (ci := 16) hI (by decide) ha
  obtain ⟨b1, b2⟩ := mix h0 h1 (mok_hd (mok_tl hs))
  have hok := hok (mok_hd hs)
  obtain ⟨j, rfl⟩ := Int.eq_ofNat_of_zero_le h0
  have b3 : (Int32.ofInt (j : Int)).toNatClampNeg = j := by omega
  rw [List.map_cons, List.map_cons, List.map_cons, mcv_ref]
  refine va_zast (A := mA X s.heap.size) (x := Int32.ofInt v) (f := fun j => Int32.ofInt (h q j)) hx hb hK hP (mD hI _ (fun q hq => Or.inl ⟨q, hq, rfl⟩)) hS q 3 (by rw [hwq]; rfl) rfl b1 hd (fun H1 locs1 hP1 hD1 hS1 => ?_)
  rw [mW_set (k := j) (v := v) hq ?_] at hP1
  · exact k H1 locs1 ls (mok_tl (mok_tl (mok_tl hs))) hl (mokH_up hh hq (by rw [ha, if_neg (by decide)]; exact hok) (by rw [ha]; rfl)) hP1 hS1 hv
  · have e : mxS X q = (16, (mxS X q).2) := by rw [← ha]
    rw [e, b3]
    show Sum.inl (mxC X 16, (mxS X q).2, _) = Sum.inl (mxC X 16, (mxS X q).2, _)
    congr 4
    funext z
    unfold upd
    by_cases ez : z = j
    · subst ez
      rw [if_pos rfl, up_same]
      exact Value.int.inj (mfits (X := X) (t := .boolean) hok (Or.inr (Or.inr (Or.inl rfl)))).1
    · rw [if_neg ez, up_ne h (by omega)]
theorem g_lastore (C : mC X p l e R s m args below meth c cc nL own) {a i v : Int} (hd : decode cc pc = .ok (.lastore, 1)) (ha : (mxS X a).1 = 15) (h0 : 0 ≤ i) (h1 : i < (mxS X a).2) (hok : mok (1, v) → mokT (mel 15) v) (k : mG X p l e R s m args below meth c nL Q (pc + 1) lo st (up h a i v)) : mG X p l e R s m args below meth c nL Q pc lo ((1, v) :: (0, i) :: (2, a) :: st) h := by
  intro H locs ls hs hl hh hP hS hv
  obtain ⟨hx, hb, hml2, hown, hts, hK, hI, hNs, hT, hlk⟩ := id C
  obtain ⟨q, rfl, hq, hwq⟩ := mW_arr (h := h) (ci := 15) hI (by decide) ha
  obtain ⟨b1, b2⟩ := mix h0 h1 (mok_hd (mok_tl hs))
  have hok := hok (mok_hd hs)
  obtain ⟨j, rfl⟩ := Int.eq_ofNat_of_zero_le h0
  have b3 : (Int32.ofInt (j : Int)).toNatClampNeg = j := by omega
  rw [List.map_cons, List.map_cons, List.map_cons, mcv_ref]
  refine va_last (A := mA X s.heap.size) (x := Int64.ofInt v) (f := fun j => Int64.ofInt (h q j)) hx hb hK hP (mD hI _ (fun q hq => Or.inl ⟨q, hq, rfl⟩)) hS q 2 (by rw [hwq]; rfl) rfl b1 hd (fun H1 locs1 hP1 hD1 hS1 => ?_)
  rw [mW_set (k := j) (v := v) hq ?_] at hP1
  · exact k H1 locs1 ls (mok_tl (mok_tl (mok_tl hs))) hl (mokH_up hh hq (by rw [ha, if_neg (by decide)]; exact hok) (by rw [ha]; rfl)) hP1 hS1 hv
  · have e : mxS X q = (15, (mxS X q).2) := by rw [← ha]
    rw [e, b3]
    show Sum.inl (mxC X 15, (mxS X q).2, _) = Sum.inl (mxC X 15, (mxS X q).2, _)
    congr 5
    funext z
    unfold vp_updL
    by_cases ez : z = j
    · subst ez
      rw [if_pos rfl, up_same]
      skip
    · rw [if_neg ez, up_ne h (by omega)]
theorem g_aaload (C : mC X p l e R s m args below meth c cc nL own) {a i v : Int} (hd : decode cc pc = .ok (.aaload, 1)) (ha : (mxS X a).1 = 17) (h0 : 0 ≤ i) (h1 : i < (mxS X a).2) (hw : mxW X a i = v) (k : mG X p l e R s m args below meth c nL Q (pc + 1) lo ((2, v) :: st) h) : mG X p l e R s m args below meth c nL Q pc lo ((0, i) :: (2, a) :: st) h := by
  intro H locs ls hs hl hh hP hS hv
  obtain ⟨hx, hb, hml2, hown, hts, hK, hI, hNs, hT, hlk⟩ := id C
  obtain ⟨q, rfl, hq, hwq⟩ := mW_arr (h := h) (ci := 17) hI (by decide) ha
  obtain ⟨b1, b2⟩ := mix h0 h1 (mok_hd hs)
  have e : h q i = v := by
    have := (hh q hq i.toNat (by rw [ha, if_neg (by decide)]; omega)).2
    rw [ha, show ((i.toNat : Nat) : Int) = i from by omega] at this
    rw [this rfl, hw]
  have k := k H locs ls (mok_cons trivial (mok_tl (mok_tl hs))) hl hh hP hS hv
  rw [List.map_cons, List.map_cons, mcv_ref]
  refine va_aldq (C := RX7) hx hb hK hP q 4 (by rw [hwq]; rfl) rfl b1 hd ?_
  rw [show ((Int32.ofInt i).toNatClampNeg : Int) = i from b2, e]
  have e2 : va_rf (if v < 0 then none else some (mxA X v)) = mcv X (2, v) := by
    by_cases z : v < 0 <;> simp [va_rf, mcv, z]
  rw [e2]
  exact k
theorem g_alen (C : mC X p l e R s m args below meth c cc nL own) {a : Int} {ci n : Nat} (hd : decode cc pc = .ok (.arraylength, 1)) (hci : 13 ≤ ci ∧ ci < 18) (ha : mxS X a = (ci, n)) (hn : n < 2147483648) (k : mG X p l e R s m args below meth c nL Q (pc + 1) lo ((0, (n : Int)) :: st) h) : mG X p l e R s m args below meth c nL Q pc lo ((2, a) :: st) h := by
  intro H locs ls hs hl hh hP hS hv
  obtain ⟨hx, hb, hml2, hown, hts, hK, hI, hNs, hT, hlk⟩ := id C
  obtain ⟨q, rfl, hq, hwq⟩ := mW_arr (h := h) (ci := ci) hI hci (by rw [ha])
  have k := k H locs ls (mok_cons (show r32 (n : Int) from ⟨by omega, by omega⟩) (mok_tl hs)) hl hh hP hS hv
  rw [List.map_cons, mcv_ref]
  rw [ha] at hwq
  have hc5 : ci = 13 ∨ ci = 14 ∨ ci = 15 ∨ ci = 16 ∨ ci = 17 := by omega
  rcases hc5 with rfl | rfl | rfl | rfl | rfl
  · exact va_alen hx hb hK hP q 0 hwq rfl (v := Int32.ofInt n) rfl hd k
  · exact va_alen hx hb hK hP q 1 hwq rfl (v := Int32.ofInt n) rfl hd k
  · exact va_alen hx hb hK hP q 2 hwq rfl (v := Int32.ofInt n) rfl hd k
  · exact va_alen hx hb hK hP q 3 hwq rfl (v := Int32.ofInt n) rfl hd k
  · exact va_alen hx hb hK hP q 4 hwq rfl (v := Int32.ofInt n) rfl hd k
theorem g_iret (C : mC X p l e R s m args below meth c cc nL own) {K : Option Mv → Mh → Prop} {x : Int} (hr : meth.sig.returnType = some .int) (hd : decode cc pc = .ok (.ireturn, 1)) (hk : K (some (0, x)) h) : mG X p l e R s m args below meth c nL (mMQ X K below args s) pc lo [(0, x)] h := by
  intro H locs ls hs hl hh hP hS hv
  have hlocks : meth.locks = false := C.2.2.2.2.2.2.2.2.2
  exact W.iret (v := Int32.ofInt x) C.1 C.2.1 hr (fun t ht hW => ⟨⟨some (0, x), h, rfl, hk, fun v hv => by cases hv; exact mok_hd hs, hh, by rw [ht]; exact hP⟩, hS.F ht⟩) hS.2.2 hd
theorem g_lret (C : mC X p l e R s m args below meth c cc nL own) {K : Option Mv → Mh → Prop} {x : Int} (hr : meth.sig.returnType = some .long) (hd : decode cc pc = .ok (.lreturn, 1)) (hk : K (some (1, x)) h) : mG X p l e R s m args below meth c nL (mMQ X K below args s) pc lo [(1, x)] h := by
  intro H locs ls hs hl hh hP hS hv
  have hlocks : meth.locks = false := C.2.2.2.2.2.2.2.2.2
  exact W.lret (v := Int64.ofInt x) C.1 C.2.1 hr (fun t ht hW => ⟨⟨some (1, x), h, rfl, hk, fun v hv => by cases hv; exact mok_hd hs, hh, by rw [ht]; exact hP⟩, hS.F ht⟩) hS.2.2 hd
theorem g_zret (C : mC X p l e R s m args below meth c cc nL own) {K : Option Mv → Mh → Prop} {x : Int} (hr : meth.sig.returnType = some .boolean) (hz : x = 0 ∨ x = 1) (hd : decode cc pc = .ok (.ireturn, 1)) (hk : K (some (0, x)) h) : mG X p l e R s m args below meth c nL (mMQ X K below args s) pc lo [(0, x)] h := by
  intro H locs ls hs hl hh hP hS hv
  have hlocks : meth.locks = false := C.2.2.2.2.2.2.2.2.2
  exact W.zret (v := Int32.ofInt x) C.1 C.2.1 hr (mfits (X := X) (t := .boolean) hz (Or.inr (Or.inr (Or.inl rfl)))).1 (fun t ht hW => ⟨⟨some (0, x), h, rfl, hk, fun v hv => by cases hv; exact mok_hd hs, hh, by rw [ht]; exact hP⟩, hS.F ht⟩) hS.2.2 hd
theorem g_aret (C : mC X p l e R s m args below meth c cc nL own) {K : Option Mv → Mh → Prop} {t : Nat} {x : Int} {rt : FieldType} (ht2 : 2 ≤ t) (hr : meth.sig.returnType = some rt) (hrt : (∃ n, rt = .object n) ∨ ∃ t, rt = .array t) (hd : decode cc pc = .ok (.areturn, 1)) (hk : K (some (t, x)) h) : mG X p l e R s m args below meth c nL (mMQ X K below args s) pc lo [(t, x)] h := by
  intro H locs ls hs hl hh hP hS hv
  have hlocks : meth.locks = false := C.2.2.2.2.2.2.2.2.2
  exact W.aret (v := mcv X (t, x)) C.1 C.2.1 hr hrt ((mref X x ht2).symm) (fun u hu hW => ⟨⟨some (t, x), h, rfl, hk, fun v hv => by cases hv; exact mok_hd hs, hh, by rw [hu]; exact hP⟩, hS.F hu⟩) hS.2.2 hd
theorem g_vret (C : mC X p l e R s m args below meth c cc nL own) {K : Option Mv → Mh → Prop} (hr : meth.sig.returnType = none) (hd : decode cc pc = .ok (.return_, 1)) (hk : K none h) : mG X p l e R s m args below meth c nL (mMQ X K below args s) pc lo [] h := by
  intro H locs ls hs hl hh hP hS hv
  have hlocks : meth.locks = false := C.2.2.2.2.2.2.2.2.2
  exact W.vret C.1 C.2.1 hr (fun u hu hW => ⟨⟨none, h, rfl, hk, (fun v hv => by cases hv), hh, by rw [hu]; exact hP⟩, hS.F hu⟩) hS.2.2 hd
theorem g_tabOut (C : mC X p l e R s m args below meth c cc nL own) {a dflt lw hi : Int} {offs : Array Int} {len : Nat} (tgt : Nat) (hd : decode cc pc = .ok (.tableswitch dflt lw hi offs, len)) (hw : a < lw ∨ hi < a) (ht : (pc : Int) + dflt = (tgt : Int)) (k : mG X p l e R s m args below meth c nL Q tgt lo st h) : mG X p l e R s m args below meth c nL Q pc lo ((0, a) :: st) h := by
  intro H locs ls hs hl hh hP hS hv
  have ra : r32 a := mok_hd hs
  exact lv_tableOut (x := Int32.ofInt a) C.1 C.2.1 hd (by rw [i32_toInt ra]; exact hw) ht (k H locs ls (mok_tl hs) hl hh hP hS hv)
theorem g_tabIn (C : mC X p l e R s m args below meth c cc nL own) {a dflt lw hi off : Int} {offs : Array Int} {len : Nat} (tgt : Nat) (v : Int) (hd : decode cc pc = .ok (.tableswitch dflt lw hi offs, len)) (hw : a = v) (h1 : ¬ v < lw) (h2 : ¬ hi < v) (ho : offs[(v - lw).toNat]? = some off) (ht : (pc : Int) + off = (tgt : Int)) (k : mG X p l e R s m args below meth c nL Q tgt lo st h) : mG X p l e R s m args below meth c nL Q pc lo ((0, a) :: st) h := by
  intro H locs ls hs hl hh hP hS hv
  subst hw
  have ra : r32 a := mok_hd hs
  exact lv_tableIn (x := Int32.ofInt a) C.1 C.2.1 hd (by rw [i32_toInt ra]; exact h1) (by rw [i32_toInt ra]; exact h2) (by rw [i32_toInt ra]; exact ho) ht (k H locs ls (mok_tl hs) hl hh hP hS hv)
theorem g_alen2 (C : mC X p l e R s m args below meth c cc nL own) {a : Int} {ci : Nat} (hd : decode cc pc = .ok (.arraylength, 1)) (hci : 13 ≤ ci ∧ ci < 18) (ha : (mxS X a).1 = ci) (k : mG X p l e R s m args below meth c nL Q (pc + 1) lo ((0, ((mxS X a).2 : Int)) :: st) h) : mG X p l e R s m args below meth c nL Q pc lo ((2, a) :: st) h := g_alen C (ci := ci) (n := (mxS X a).2) hd hci (by rw [← ha]) (C.2.2.2.2.2.2.1.2.2 a) k
theorem g_callVi (C : mC X p l e R s m args below meth c cc nL own) {y : MethodName} {bytes : ByteArray} {maxL fr lc index n ci N : Nat} {ret : Option FieldType} {Cn : String} {T : u_T} (av : List Mv) {o : Int} {K : Int → Mh → Prop} {st0 : List Mv} (hM : mCal X l y bytes maxL ret fr lc ((2, o) :: av) h (mKi K))
    (hml : Cond.methodLink own index y ∈ mtb) (him : Cond.instanceMethod y ∈ mtb) (hse : Cond.selects Cn y y ∈ mtb) (hin : Cond.initialized Cn ∈ mtb) (hco : Cond.code y bytes maxL ret ∈ mtb) (hd : y.cls = Cn ∧ y.cls ≠ "java/lang/invoke/MethodHandle" ∧ y.cls ≠ "java/lang/invoke/VarHandle" ∧ (parseMethodDescriptor y.desc).map (fun d => d.parameters.length) = some n)
    (hR : Nat.ble (fr + 1) R.frames = true) (hR2 : Nat.ble (8 + (maxL + 11) + lc) R.locals = true) (hci : ci < 13) (hc : mcl[ci]? = some (Cn, T, N)) (ho : (mxS X o).1 = ci) (hlen : av.length = n) (hst : st0 = av.reverse ++ (2, o) :: st) (hrm : Nat.ble (mwords st) 8 = true) (hdg : decode cc pc = .ok (.invokevirtual index, 3))
    (k : ∀ x h', K x h' → mG X p l e R s m args below meth c nL Q (pc + 3) lo ((0, x) :: st) h') : mG X p l e R s m args below meth c nL Q pc lo st0 h := g_callV C hM hml him hse hin hco hd hR hR2 hci hc ho hlen hst hrm hdg (fun r h2 hq => by
  obtain ⟨x, rfl, hw⟩ := hq
  exact k x h2 hw)
theorem g_callSi (C : mC X p l e R s m args below meth c cc nL own) {y : MethodName} {bytes : ByteArray} {maxL fr lc index n : Nat} {ret : Option FieldType} (av : List Mv) {K : Int → Mh → Prop} {st0 : List Mv} (hM : mCal X l y bytes maxL ret fr lc av h (mKi K))
    (hml : Cond.methodLink own index y ∈ mtb) (him : Cond.static y ∈ mtb) (hin : Cond.initialized y.cls ∈ mtb) (hco : Cond.code y bytes maxL ret ∈ mtb) (hd : y.cls ≠ "java/lang/invoke/MethodHandle" ∧ y.cls ≠ "java/lang/invoke/VarHandle" ∧ (parseMethodDescriptor y.desc).map (fun d => d.parameters.length) = some n)
    (hR : Nat.ble (fr + 1) R.frames = true) (hR2 : Nat.ble (8 + (maxL + 11) + lc) R.locals = true) (hlen : av.length = n) (hst : st0 = av.reverse ++ st) (hrm : Nat.ble (mwords st) 8 = true) (hdg : decode cc pc = .ok (.invokestatic index, 3))
    (k : ∀ x h', K x h' → mG X p l e R s m args below meth c nL Q (pc + 3) lo ((0, x) :: st) h') : mG X p l e R s m args below meth c nL Q pc lo st0 h := g_callS C hM hml him hin hco hd hR hR2 hlen hst hrm hdg (fun r h2 hq => by
  obtain ⟨x, rfl, hw⟩ := hq
  exact k x h2 hw)
theorem g_callVz (C : mC X p l e R s m args below meth c cc nL own) {y : MethodName} {bytes : ByteArray} {maxL fr lc index n ci N : Nat} {ret : Option FieldType} {Cn : String} {T : u_T} (av : List Mv) {o : Int} {K : Int → Mh → Prop} {st0 : List Mv} (hM : mCal X l y bytes maxL ret fr lc ((2, o) :: av) h (mKz K))
    (hml : Cond.methodLink own index y ∈ mtb) (him : Cond.instanceMethod y ∈ mtb) (hse : Cond.selects Cn y y ∈ mtb) (hin : Cond.initialized Cn ∈ mtb) (hco : Cond.code y bytes maxL ret ∈ mtb) (hd : y.cls = Cn ∧ y.cls ≠ "java/lang/invoke/MethodHandle" ∧ y.cls ≠ "java/lang/invoke/VarHandle" ∧ (parseMethodDescriptor y.desc).map (fun d => d.parameters.length) = some n)
    (hR : Nat.ble (fr + 1) R.frames = true) (hR2 : Nat.ble (8 + (maxL + 11) + lc) R.locals = true) (hci : ci < 13) (hc : mcl[ci]? = some (Cn, T, N)) (ho : (mxS X o).1 = ci) (hlen : av.length = n) (hst : st0 = av.reverse ++ (2, o) :: st) (hrm : Nat.ble (mwords st) 8 = true) (hdg : decode cc pc = .ok (.invokevirtual index, 3))
    (k : ∀ x h', (x = 0 ∨ x = 1) → K x h' → mG X p l e R s m args below meth c nL Q (pc + 3) lo ((0, x) :: st) h') : mG X p l e R s m args below meth c nL Q pc lo st0 h := g_callV C hM hml him hse hin hco hd hR hR2 hci hc ho hlen hst hrm hdg (fun r h2 hq => by
  obtain ⟨x, rfl, hz, hw⟩ := hq
  exact k x h2 hz hw)
theorem g_callSz (C : mC X p l e R s m args below meth c cc nL own) {y : MethodName} {bytes : ByteArray} {maxL fr lc index n : Nat} {ret : Option FieldType} (av : List Mv) {K : Int → Mh → Prop} {st0 : List Mv} (hM : mCal X l y bytes maxL ret fr lc av h (mKz K))
    (hml : Cond.methodLink own index y ∈ mtb) (him : Cond.static y ∈ mtb) (hin : Cond.initialized y.cls ∈ mtb) (hco : Cond.code y bytes maxL ret ∈ mtb) (hd : y.cls ≠ "java/lang/invoke/MethodHandle" ∧ y.cls ≠ "java/lang/invoke/VarHandle" ∧ (parseMethodDescriptor y.desc).map (fun d => d.parameters.length) = some n)
    (hR : Nat.ble (fr + 1) R.frames = true) (hR2 : Nat.ble (8 + (maxL + 11) + lc) R.locals = true) (hlen : av.length = n) (hst : st0 = av.reverse ++ st) (hrm : Nat.ble (mwords st) 8 = true) (hdg : decode cc pc = .ok (.invokestatic index, 3))
    (k : ∀ x h', (x = 0 ∨ x = 1) → K x h' → mG X p l e R s m args below meth c nL Q (pc + 3) lo ((0, x) :: st) h') : mG X p l e R s m args below meth c nL Q pc lo st0 h := g_callS C hM hml him hin hco hd hR hR2 hlen hst hrm hdg (fun r h2 hq => by
  obtain ⟨x, rfl, hz, hw⟩ := hq
  exact k x h2 hz hw)
theorem g_callVl (C : mC X p l e R s m args below meth c cc nL own) {y : MethodName} {bytes : ByteArray} {maxL fr lc index n ci N : Nat} {ret : Option FieldType} {Cn : String} {T : u_T} (av : List Mv) {o : Int} {K : Int → Mh → Prop} {st0 : List Mv} (hM : mCal X l y bytes maxL ret fr lc ((2, o) :: av) h (mKl K))
    (hml : Cond.methodLink own index y ∈ mtb) (him : Cond.instanceMethod y ∈ mtb) (hse : Cond.selects Cn y y ∈ mtb) (hin : Cond.initialized Cn ∈ mtb) (hco : Cond.code y bytes maxL ret ∈ mtb) (hd : y.cls = Cn ∧ y.cls ≠ "java/lang/invoke/MethodHandle" ∧ y.cls ≠ "java/lang/invoke/VarHandle" ∧ (parseMethodDescriptor y.desc).map (fun d => d.parameters.length) = some n)
    (hR : Nat.ble (fr + 1) R.frames = true) (hR2 : Nat.ble (8 + (maxL + 11) + lc) R.locals = true) (hci : ci < 13) (hc : mcl[ci]? = some (Cn, T, N)) (ho : (mxS X o).1 = ci) (hlen : av.length = n) (hst : st0 = av.reverse ++ (2, o) :: st) (hrm : Nat.ble (mwords st) 8 = true) (hdg : decode cc pc = .ok (.invokevirtual index, 3))
    (k : ∀ x h', K x h' → mG X p l e R s m args below meth c nL Q (pc + 3) lo ((1, x) :: st) h') : mG X p l e R s m args below meth c nL Q pc lo st0 h := g_callV C hM hml him hse hin hco hd hR hR2 hci hc ho hlen hst hrm hdg (fun r h2 hq => by
  obtain ⟨x, rfl, hw⟩ := hq
  exact k x h2 hw)
theorem g_callSl (C : mC X p l e R s m args below meth c cc nL own) {y : MethodName} {bytes : ByteArray} {maxL fr lc index n : Nat} {ret : Option FieldType} (av : List Mv) {K : Int → Mh → Prop} {st0 : List Mv} (hM : mCal X l y bytes maxL ret fr lc av h (mKl K))
    (hml : Cond.methodLink own index y ∈ mtb) (him : Cond.static y ∈ mtb) (hin : Cond.initialized y.cls ∈ mtb) (hco : Cond.code y bytes maxL ret ∈ mtb) (hd : y.cls ≠ "java/lang/invoke/MethodHandle" ∧ y.cls ≠ "java/lang/invoke/VarHandle" ∧ (parseMethodDescriptor y.desc).map (fun d => d.parameters.length) = some n)
    (hR : Nat.ble (fr + 1) R.frames = true) (hR2 : Nat.ble (8 + (maxL + 11) + lc) R.locals = true) (hlen : av.length = n) (hst : st0 = av.reverse ++ st) (hrm : Nat.ble (mwords st) 8 = true) (hdg : decode cc pc = .ok (.invokestatic index, 3))
    (k : ∀ x h', K x h' → mG X p l e R s m args below meth c nL Q (pc + 3) lo ((1, x) :: st) h') : mG X p l e R s m args below meth c nL Q pc lo st0 h := g_callS C hM hml him hin hco hd hR hR2 hlen hst hrm hdg (fun r h2 hq => by
  obtain ⟨x, rfl, hw⟩ := hq
  exact k x h2 hw)
theorem g_callVr (C : mC X p l e R s m args below meth c cc nL own) {y : MethodName} {bytes : ByteArray} {maxL fr lc index n ci N : Nat} {ret : Option FieldType} {Cn : String} {T : u_T} (av : List Mv) {o : Int} {K : Int → Mh → Prop} {st0 : List Mv} (hM : mCal X l y bytes maxL ret fr lc ((2, o) :: av) h (mKr K))
    (hml : Cond.methodLink own index y ∈ mtb) (him : Cond.instanceMethod y ∈ mtb) (hse : Cond.selects Cn y y ∈ mtb) (hin : Cond.initialized Cn ∈ mtb) (hco : Cond.code y bytes maxL ret ∈ mtb) (hd : y.cls = Cn ∧ y.cls ≠ "java/lang/invoke/MethodHandle" ∧ y.cls ≠ "java/lang/invoke/VarHandle" ∧ (parseMethodDescriptor y.desc).map (fun d => d.parameters.length) = some n)
    (hR : Nat.ble (fr + 1) R.frames = true) (hR2 : Nat.ble (8 + (maxL + 11) + lc) R.locals = true) (hci : ci < 13) (hc : mcl[ci]? = some (Cn, T, N)) (ho : (mxS X o).1 = ci) (hlen : av.length = n) (hst : st0 = av.reverse ++ (2, o) :: st) (hrm : Nat.ble (mwords st) 8 = true) (hdg : decode cc pc = .ok (.invokevirtual index, 3))
    (k : ∀ x h', K x h' → mG X p l e R s m args below meth c nL Q (pc + 3) lo ((2, x) :: st) h') : mG X p l e R s m args below meth c nL Q pc lo st0 h := g_callV C hM hml him hse hin hco hd hR hR2 hci hc ho hlen hst hrm hdg (fun r h2 hq => by
  obtain ⟨x, rfl, hw⟩ := hq
  exact k x h2 hw)
theorem g_callSr (C : mC X p l e R s m args below meth c cc nL own) {y : MethodName} {bytes : ByteArray} {maxL fr lc index n : Nat} {ret : Option FieldType} (av : List Mv) {K : Int → Mh → Prop} {st0 : List Mv} (hM : mCal X l y bytes maxL ret fr lc av h (mKr K))
    (hml : Cond.methodLink own index y ∈ mtb) (him : Cond.static y ∈ mtb) (hin : Cond.initialized y.cls ∈ mtb) (hco : Cond.code y bytes maxL ret ∈ mtb) (hd : y.cls ≠ "java/lang/invoke/MethodHandle" ∧ y.cls ≠ "java/lang/invoke/VarHandle" ∧ (parseMethodDescriptor y.desc).map (fun d => d.parameters.length) = some n)
    (hR : Nat.ble (fr + 1) R.frames = true) (hR2 : Nat.ble (8 + (maxL + 11) + lc) R.locals = true) (hlen : av.length = n) (hst : st0 = av.reverse ++ st) (hrm : Nat.ble (mwords st) 8 = true) (hdg : decode cc pc = .ok (.invokestatic index, 3))
    (k : ∀ x h', K x h' → mG X p l e R s m args below meth c nL Q (pc + 3) lo ((2, x) :: st) h') : mG X p l e R s m args below meth c nL Q pc lo st0 h := g_callS C hM hml him hin hco hd hR hR2 hlen hst hrm hdg (fun r h2 hq => by
  obtain ⟨x, rfl, hw⟩ := hq
  exact k x h2 hw)
theorem g_callVe (C : mC X p l e R s m args below meth c cc nL own) {y : MethodName} {bytes : ByteArray} {maxL fr lc index n ci N : Nat} {ret : Option FieldType} {Cn : String} {T : u_T} (av : List Mv) {o : Int} {K : Int → Mh → Prop} {st0 : List Mv} (hM : mCal X l y bytes maxL ret fr lc ((2, o) :: av) h (mKe K))
    (hml : Cond.methodLink own index y ∈ mtb) (him : Cond.instanceMethod y ∈ mtb) (hse : Cond.selects Cn y y ∈ mtb) (hin : Cond.initialized Cn ∈ mtb) (hco : Cond.code y bytes maxL ret ∈ mtb) (hd : y.cls = Cn ∧ y.cls ≠ "java/lang/invoke/MethodHandle" ∧ y.cls ≠ "java/lang/invoke/VarHandle" ∧ (parseMethodDescriptor y.desc).map (fun d => d.parameters.length) = some n)
    (hR : Nat.ble (fr + 1) R.frames = true) (hR2 : Nat.ble (8 + (maxL + 11) + lc) R.locals = true) (hci : ci < 13) (hc : mcl[ci]? = some (Cn, T, N)) (ho : (mxS X o).1 = ci) (hlen : av.length = n) (hst : st0 = av.reverse ++ (2, o) :: st) (hrm : Nat.ble (mwords st) 8 = true) (hdg : decode cc pc = .ok (.invokevirtual index, 3))
    (k : ∀ x h', K x h' → mG X p l e R s m args below meth c nL Q (pc + 3) lo ((3, x) :: st) h') : mG X p l e R s m args below meth c nL Q pc lo st0 h := g_callV C hM hml him hse hin hco hd hR hR2 hci hc ho hlen hst hrm hdg (fun r h2 hq => by
  obtain ⟨x, rfl, hw⟩ := hq
  exact k x h2 hw)
theorem g_callSe (C : mC X p l e R s m args below meth c cc nL own) {y : MethodName} {bytes : ByteArray} {maxL fr lc index n : Nat} {ret : Option FieldType} (av : List Mv) {K : Int → Mh → Prop} {st0 : List Mv} (hM : mCal X l y bytes maxL ret fr lc av h (mKe K))
    (hml : Cond.methodLink own index y ∈ mtb) (him : Cond.static y ∈ mtb) (hin : Cond.initialized y.cls ∈ mtb) (hco : Cond.code y bytes maxL ret ∈ mtb) (hd : y.cls ≠ "java/lang/invoke/MethodHandle" ∧ y.cls ≠ "java/lang/invoke/VarHandle" ∧ (parseMethodDescriptor y.desc).map (fun d => d.parameters.length) = some n)
    (hR : Nat.ble (fr + 1) R.frames = true) (hR2 : Nat.ble (8 + (maxL + 11) + lc) R.locals = true) (hlen : av.length = n) (hst : st0 = av.reverse ++ st) (hrm : Nat.ble (mwords st) 8 = true) (hdg : decode cc pc = .ok (.invokestatic index, 3))
    (k : ∀ x h', K x h' → mG X p l e R s m args below meth c nL Q (pc + 3) lo ((3, x) :: st) h') : mG X p l e R s m args below meth c nL Q pc lo st0 h := g_callS C hM hml him hin hco hd hR hR2 hlen hst hrm hdg (fun r h2 hq => by
  obtain ⟨x, rfl, hw⟩ := hq
  exact k x h2 hw)
theorem g_callVv (C : mC X p l e R s m args below meth c cc nL own) {y : MethodName} {bytes : ByteArray} {maxL fr lc index n ci N : Nat} {ret : Option FieldType} {Cn : String} {T : u_T} (av : List Mv) {o : Int} {K : Mh → Prop} {st0 : List Mv} (hM : mCal X l y bytes maxL ret fr lc ((2, o) :: av) h (mKv K))
    (hml : Cond.methodLink own index y ∈ mtb) (him : Cond.instanceMethod y ∈ mtb) (hse : Cond.selects Cn y y ∈ mtb) (hin : Cond.initialized Cn ∈ mtb) (hco : Cond.code y bytes maxL ret ∈ mtb) (hd : y.cls = Cn ∧ y.cls ≠ "java/lang/invoke/MethodHandle" ∧ y.cls ≠ "java/lang/invoke/VarHandle" ∧ (parseMethodDescriptor y.desc).map (fun d => d.parameters.length) = some n)
    (hR : Nat.ble (fr + 1) R.frames = true) (hR2 : Nat.ble (8 + (maxL + 11) + lc) R.locals = true) (hci : ci < 13) (hc : mcl[ci]? = some (Cn, T, N)) (ho : (mxS X o).1 = ci) (hlen : av.length = n) (hst : st0 = av.reverse ++ (2, o) :: st) (hrm : Nat.ble (mwords st) 8 = true) (hdg : decode cc pc = .ok (.invokevirtual index, 3))
    (k : ∀ h', K h' → mG X p l e R s m args below meth c nL Q (pc + 3) lo (st) h') : mG X p l e R s m args below meth c nL Q pc lo st0 h := g_callV C hM hml him hse hin hco hd hR hR2 hci hc ho hlen hst hrm hdg (fun r h2 hq => by
  obtain ⟨rfl, hw⟩ := hq
  exact k h2 hw)
theorem g_callSv (C : mC X p l e R s m args below meth c cc nL own) {y : MethodName} {bytes : ByteArray} {maxL fr lc index n : Nat} {ret : Option FieldType} (av : List Mv) {K : Mh → Prop} {st0 : List Mv} (hM : mCal X l y bytes maxL ret fr lc av h (mKv K))
    (hml : Cond.methodLink own index y ∈ mtb) (him : Cond.static y ∈ mtb) (hin : Cond.initialized y.cls ∈ mtb) (hco : Cond.code y bytes maxL ret ∈ mtb) (hd : y.cls ≠ "java/lang/invoke/MethodHandle" ∧ y.cls ≠ "java/lang/invoke/VarHandle" ∧ (parseMethodDescriptor y.desc).map (fun d => d.parameters.length) = some n)
    (hR : Nat.ble (fr + 1) R.frames = true) (hR2 : Nat.ble (8 + (maxL + 11) + lc) R.locals = true) (hlen : av.length = n) (hst : st0 = av.reverse ++ st) (hrm : Nat.ble (mwords st) 8 = true) (hdg : decode cc pc = .ok (.invokestatic index, 3))
    (k : ∀ h', K h' → mG X p l e R s m args below meth c nL Q (pc + 3) lo (st) h') : mG X p l e R s m args below meth c nL Q pc lo st0 h := g_callS C hM hml him hin hco hd hR hR2 hlen hst hrm hdg (fun r h2 hq => by
  obtain ⟨rfl, hw⟩ := hq
  exact k h2 hw)
theorem g_mmax (C : mC X p l e R s m args below meth c cc nL own) {index : Nat} {a b : Int} (hml : Cond.methodLink own index yJ9_max_7cf53 ∈ mtb) (him : Cond.static yJ9_max_7cf53 ∈ mtb) (hin : Cond.initialized "java/lang/Math" ∈ mtb) (hco : Cond.code yJ9_max_7cf53 cJ9_max_7cf53 2 (some .int) ∈ mtb) (hR : Nat.ble 1 R.frames = true) (hR2 : Nat.ble 21 R.locals = true) (hrm : Nat.ble (mwords st) 8 = true) (hd : decode cc pc = .ok (.invokestatic index, 3)) (k : mG X p l e R s m args below meth c nL Q (pc + 3) lo ((0, if a < b then b else a) :: st) h) : mG X p l e R s m args below meth c nL Q pc lo ((0, b) :: (0, a) :: st) h := by
  intro H locs ls hs hl hh hP hS hv
  have ra : r32 a := mok_hd (mok_tl hs)
  have rb : r32 b := mok_hd hs
  have hts := C.2.2.2.2.1
  have k := k H locs ls (mok_cons (show r32 (if a < b then b else a) from by split <;> assumption) (mok_tl (mok_tl hs))) hl hh hP hS hv
  refine va_mmax (x := Int32.ofInt a) (y := Int32.ofInt b) C.1 C.2.1 (by rw [C.2.2.1, hv.1]) C.2.2.2.1 (hts _ hml) (hts _ him) (hts _ hin) (hts _ hco) (Nat.le_of_ble_eq_true hR) (by rw [mwords_cat]; have := Nat.le_of_ble_eq_true hR2; have := Nat.le_of_ble_eq_true hrm; omega) (Nat.zero_le _) (Nat.zero_le _) hd ?_
  rw [show (if Int32.ofInt a < Int32.ofInt b then Int32.ofInt b else Int32.ofInt a) = Int32.ofInt (if a < b then b else a) from ?_]
  · exact k
  · by_cases q : a < b
    · rw [if_pos q, if_pos ((i32_lt ra rb).mpr q)]
    · rw [if_neg q, if_neg (fun z => q ((i32_lt ra rb).mp z))]
theorem g_mmin (C : mC X p l e R s m args below meth c cc nL own) {index : Nat} {a b : Int} (hml : Cond.methodLink own index yJ9_min_7cf53 ∈ mtb) (him : Cond.static yJ9_min_7cf53 ∈ mtb) (hin : Cond.initialized "java/lang/Math" ∈ mtb) (hco : Cond.code yJ9_min_7cf53 cJ9_min_7cf53 2 (some .int) ∈ mtb) (hR : Nat.ble 1 R.frames = true) (hR2 : Nat.ble 21 R.locals = true) (hrm : Nat.ble (mwords st) 8 = true) (hd : decode cc pc = .ok (.invokestatic index, 3)) (k : mG X p l e R s m args below meth c nL Q (pc + 3) lo ((0, if b < a then b else a) :: st) h) : mG X p l e R s m args below meth c nL Q pc lo ((0, b) :: (0, a) :: st) h := by
  intro H locs ls hs hl hh hP hS hv
  have ra : r32 a := mok_hd (mok_tl hs)
  have rb : r32 b := mok_hd hs
  have hts := C.2.2.2.2.1
  have k := k H locs ls (mok_cons (show r32 (if b < a then b else a) from by split <;> assumption) (mok_tl (mok_tl hs))) hl hh hP hS hv
  refine va_mmin (x := Int32.ofInt a) (y := Int32.ofInt b) C.1 C.2.1 (by rw [C.2.2.1, hv.1]) C.2.2.2.1 (hts _ hml) (hts _ him) (hts _ hin) (hts _ hco) (Nat.le_of_ble_eq_true hR) (by rw [mwords_cat]; have := Nat.le_of_ble_eq_true hR2; have := Nat.le_of_ble_eq_true hrm; omega) (Nat.zero_le _) (Nat.zero_le _) hd ?_
  rw [show (if Int32.ofInt b < Int32.ofInt a then Int32.ofInt b else Int32.ofInt a) = Int32.ofInt (if b < a then b else a) from ?_]
  · exact k
  · by_cases q : b < a
    · rw [if_pos q, if_pos ((i32_lt rb ra).mpr q)]
    · rw [if_neg q, if_neg (fun z => q ((i32_lt rb ra).mp z))]
theorem g_mabs (C : mC X p l e R s m args below meth c cc nL own) {index : Nat} {a : Int} (hml : Cond.methodLink own index yJ9_abs_0f7a4 ∈ mtb) (him : Cond.static yJ9_abs_0f7a4 ∈ mtb) (hin : Cond.initialized "java/lang/Math" ∈ mtb) (hco : Cond.code yJ9_abs_0f7a4 cJ9_abs_0f7a4 1 (some .int) ∈ mtb) (hR : Nat.ble 1 R.frames = true) (hR2 : Nat.ble 21 R.locals = true) (hrm : Nat.ble (mwords st) 8 = true) (hd : decode cc pc = .ok (.invokestatic index, 3)) (k : mG X p l e R s m args below meth c nL Q (pc + 3) lo ((0, if 0 ≤ a then a else w32 (0 - a)) :: st) h) : mG X p l e R s m args below meth c nL Q pc lo ((0, a) :: st) h := by
  intro H locs ls hs hl hh hP hS hv
  have ra : r32 a := mok_hd hs
  have hts := C.2.2.2.2.1
  have k := k H locs ls (mok_cons (show r32 (if 0 ≤ a then a else w32 (0 - a)) from by split; exact ra; exact w32_r _) (mok_tl hs)) hl hh hP hS hv
  refine va_mabs (x := Int32.ofInt a) C.1 C.2.1 (by rw [C.2.2.1, hv.1]) C.2.2.2.1 (hts _ hml) (hts _ him) (hts _ hin) (hts _ hco) (Nat.le_of_ble_eq_true hR) (by rw [mwords_cat]; have := Nat.le_of_ble_eq_true hR2; have := Nat.le_of_ble_eq_true hrm; omega) (Nat.zero_le _) (Nat.zero_le _) hd ?_
  rw [show (if 0 ≤ Int32.ofInt a then Int32.ofInt a else 0 - Int32.ofInt a) = Int32.ofInt (if 0 ≤ a then a else w32 (0 - a)) from ?_]
  · exact k
  · have e1 : ((0 : Int32) ≤ Int32.ofInt a) ↔ 0 ≤ a := by rw [Int32.le_iff_toInt_le, i32_toInt ra]; rfl
    by_cases q : 0 ≤ a
    · rw [if_pos q, if_pos (e1.mpr q)]
    · rw [if_neg q, if_neg (fun z => q (e1.mp z)), i32_w, Int32.ofInt_sub]; rfl
theorem g_mabsl (C : mC X p l e R s m args below meth c cc nL own) {index : Nat} {a : Int} (hml : Cond.methodLink own index yJ9_abs_067f4 ∈ mtb) (him : Cond.static yJ9_abs_067f4 ∈ mtb) (hin : Cond.initialized "java/lang/Math" ∈ mtb) (hco : Cond.code yJ9_abs_067f4 cJ9_abs_067f4 2 (some .long) ∈ mtb) (hR : Nat.ble 1 R.frames = true) (hR2 : Nat.ble 21 R.locals = true) (hrm : Nat.ble (mwords st) 8 = true) (hd : decode cc pc = .ok (.invokestatic index, 3)) (k : mG X p l e R s m args below meth c nL Q (pc + 3) lo ((1, if 0 < a then a else w64 (-a)) :: st) h) : mG X p l e R s m args below meth c nL Q pc lo ((1, a) :: st) h := by
  intro H locs ls hs hl hh hP hS hv
  have ra : r64 a := mok_hd hs
  have hts := C.2.2.2.2.1
  have k := k H locs ls (mok_cons (show r64 (if 0 < a then a else w64 (-a)) from by split; exact ra; exact w64_r _) (mok_tl hs)) hl hh hP hS hv
  refine va_mabs_long (x := Int64.ofInt a) C.1 C.2.1 (by rw [C.2.2.1, hv.1]) C.2.2.2.1 (hts _ hml) (hts _ him) (hts _ hin) (hts _ hco) (Nat.le_of_ble_eq_true hR) (by rw [mwords_cat]; have := Nat.le_of_ble_eq_true hR2; have := Nat.le_of_ble_eq_true hrm; omega) (Nat.zero_le _) (Nat.zero_le _) hd ?_
  rw [show (if 0 < Int64.ofInt a then Int64.ofInt a else -Int64.ofInt a) = Int64.ofInt (if 0 < a then a else w64 (-a)) from ?_]
  · exact k
  · have e1 : ((0 : Int64) < Int64.ofInt a) ↔ 0 < a := by rw [Int64.lt_iff_toInt_lt, i64_toInt ra]; rfl
    by_cases q : 0 < a
    · rw [if_pos q, if_pos (e1.mpr q)]
    · rw [if_neg q, if_neg (fun z => q (e1.mp z)), i64_w, Int64.ofInt_neg]
end MH
/-- the least set that is closed under a step -/
def Lfp {α : Type} (F : (α → Prop) → α → Prop) (a : α) : Prop := ∀ P : α → Prop, (∀ (Q : α → Prop) (x : α), (∀ y, Q y → P y) → F Q x → P x) → P a
theorem Lfp.fold {α : Type} {F : (α → Prop) → α → Prop} {a : α} (h : F (Lfp F) a) : Lfp F a := fun P hP => hP (Lfp F) a (fun _ hy => hy P hP) h
theorem Lfp.ind {α : Type} {F : (α → Prop) → α → Prop} (P : α → Prop) (hP : ∀ (Q : α → Prop) (x : α), (∀ y, Q y → P y) → F Q x → P x) {a : α} (h : Lfp F a) : P a := h P hP
abbrev Ms : Type := Nat × List Int × Mh
