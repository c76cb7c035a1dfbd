/-! ===== the law's own walk: its judgement over both worlds ===== -/
def zRf (z : Mz) (aR : Int → Nat) : Mz := (z.1, z.2.1, aR, z.2.2.2)
def lC (z : Mz) (aR : Int → Nat) (oa b L : Nat) (xs : Nat → Int32) (p : Program) (s : State) (m : MethodId) (c : Code) : Prop :=
  p.tables.exec = Jvm.exec ∧ c.code = cL_law ∧ c.maxLocals = 7 ∧ s.vm.findClass RL = some m.cls ∧ (∀ w ∈ mtb, w.before #[Value.ref b] s = true) ∧ va_K (mxD (XC z)) mcl (mtys (XC z)) s ∧ mInj (XC z) ∧ mInj (XR (zRf z aR)) ∧ mNs s ∧ mST (XC z) (fun q => s.heap.size ≤ q) s s.heap ∧ va_X b L xs s s.heap ∧ b < s.heap.size ∧ (∀ i : Nat, i < 142 → s.heap.size ≤ z.2.2.1 i) ∧ (∀ i : Nat, i < 41 → s.heap.size ≤ aR i) ∧ (∀ i j : Nat, i < 142 → j < 41 → z.2.2.1 i ≠ aR j) ∧ s.heap.size ≤ oa ∧ (∀ i : Nat, i < 142 → z.2.2.1 i ≠ oa) ∧ (∀ j : Nat, j < 41 → aR j ≠ oa)
def lG (z : Mz) (aR : Int → Nat) (oa b : Nat) (p : Program) (l : Launch) (e : Env) (s : State) (m : MethodId) (below : List Frame) (meth : Method) (c : Code) (Q : State → Prop) (cells slots pc : Nat) (lo : List (Nat × Value)) (st : List Value) (q r : Mh) (ov : Int) : Prop :=
  ∀ (H : Heap) (locs : List Loc) (ls : Array Slot), mokH (XC z) q → mokH (XR (zRf z aR)) r → va_P (mxD (XC z)) mcl (mW (XC z) q) H → va_P (mxD (XC z)) mcl (mW (XR (zRf z aR)) r) H → va_P (mxD (XC z)) mcl [(oa, mE (XC z) (15, 1) (fun _ => ov))] H → (∀ i : Nat, i < 142 → z.2.2.1 i < H.size) → (∀ j : Nat, j < 41 → aR j < H.size) → oa < H.size → va_S (fun q => s.heap.size ≤ q) s.heap H locs → lv_has ls 7 lo →
    W p l e room_1 s m #[Value.ref b] below meth c H locs cells slots Q (F0 m pc ls st)
section LW
variable {p : Program} {l : Launch} {e : Env} {s : State} {m : MethodId} {b : Nat} {below : List Frame} {meth : Method} {c : Code} {Q : State → Prop} {cells slots pc : Nat} {lo : List (Nat × Value)} {st : List Value}
theorem l_run {X : Mx} {h : Mh} (hx : p.tables.exec = Jvm.exec) (hb : c.code = cL_law) (hml2 : c.maxLocals = 7) (hown : s.vm.findClass RL = some m.cls) (hts : ∀ w ∈ mtb, w.before #[Value.ref b] s = true) (hK : va_K (mxD X) mcl (mtys X) s) (hI : mInj X) (hN : mNs s) (hT : mST X (fun q => s.heap.size ≤ q) s s.heap) (hlow : ∀ i : Nat, i < mxN X → s.heap.size ≤ mxA X i)
    {y : MethodName} {bytes : ByteArray} {maxL fr lc index n ci N : Nat} {ret : Option FieldType} {Cn : String} {T : u_T} {av : List Mv} {K : Option Mv → Mh → Prop} (hM : mCal X l y bytes maxL ret fr lc ((2, 0) :: av) h K)
    (hml : Cond.methodLink RL index y ∈ mtb) (him : Cond.instanceMethod y ∈ mtb) (hse : Cond.selects Cn y y ∈ mtb) (hin : Cond.initialized Cn ∈ mtb) (hco : Cond.code y bytes maxL ret ∈ mtb) (hd : y.cls = Cn ∧ y.cls ≠ "java/lang/invoke/MethodHandle" ∧ y.cls ≠ "java/lang/invoke/VarHandle" ∧ (parseMethodDescriptor y.desc).map (fun d => d.parameters.length) = some n)
    (hR : Nat.ble (fr + 1) 10 = true) (hR2 : Nat.ble (8 + (maxL + 11) + lc) 440 = true) (hci : ci < 13) (hc : mcl[ci]? = some (Cn, T, N)) (ho : (mxS X 0).1 = ci) (hlen : av.length = n) (hav : ∀ v ∈ av, mok v) (hrm : (st.map fun v => v.category).sum ≤ 8) (hdg : decode cL_law pc = .ok (.invokevirtual index, 3)) (hcs : cells ≤ 601024) (hss : slots ≤ 7293033)
    {H : Heap} {locs : List Loc} {ls : Array Slot} (hh : mokH X h) (hP : va_P (mxD X) mcl (mW X h) H) (hS : va_S (fun q => s.heap.size ≤ q) s.heap H locs) (hls : ls.size = 7)
    (k : ∀ (r' : Option Mv) (h' : Mh) (H1 : Heap) (locs1 : List Loc), K r' h' → (∀ v, r' = some v → mok v) → mokH X h' → va_P (mxD X) mcl (mW X h') H1 → H.size ≤ H1.size → (∀ q : Nat, q < H.size → ¬ mA X H.size q → H1[q]? = H[q]?) → va_S (fun q => s.heap.size ≤ q) s.heap H1 locs1 → W p l e room_1 s m #[Value.ref b] below meth c H1 locs1 cells slots Q (F0 m (pc + 3) ls ((r'.map (mcv X)).toList ++ st))) :
    W p l e room_1 s m #[Value.ref b] below meth c H locs cells slots Q (F0 m pc ls ((av.map (mcv X)).reverse ++ .ref (mxA X 0) :: st)) := by
  obtain ⟨i, e0, hi, hwi⟩ := mW_obj (h := h) (o := 0) hI hci ho
  have i0 : i = 0 := by omega
  subst i0
  have hGd : GoodIn mtb (wsV RL index Cn y (Cond.code y bytes maxL ret :: mtb)) := mgi hml (mgi him (mgi hse (mgi hin (mgi hco mtb_good))))
  have hrec := va_recv hK hP hc hwi
  have hA2 : ∀ q, mA X H.size q → s.heap.size ≤ q := fun q hq => by
    rcases hq with ⟨i, a, b⟩ | hq
    · rw [b]; exact hlow i a
    · exact Nat.le_trans hS.1 hq
  have hpre : ∀ U : State, U.heap = H → s.WarmedH U.vm → mPc X ((2, 0) :: av) h H.size (((2, 0) :: av).map (mcv X)).toArray U := by
    intro U hU hW
    refine ⟨rfl, by rw [hU], by rw [hU]; exact hP, va_K.moved hW.alike hK, hh, fun v hv => ?_, hN.warm hW, ?_, hI⟩
    · rcases List.mem_cons.mp hv with y | y
      · subst y; exact trivial
      · exact hav v y
    · rw [hU]
      exact ((hT.moved hW.alike).kept hS.2.1).narrow hA2
  have er : mcv X (2, 0) = .ref (mxA X 0) := mcv_ref (i := 0)
  rw [List.map_cons, er] at hpre
  have hrun : va_Run p l e room_1 s m #[Value.ref b] below meth c H locs cells slots 0 0 (F0 m pc ls ((av.map (mcv X)).reverse ++ .ref (mxA X 0) :: st)) st (mQc X K (mA X H.size) (Value.ref (mxA X 0) :: av.map (mcv X)).toArray) (mA X H.size) :=
    va_runV (b := mxA X 0) (As := av.map (mcv X)) ⟨hx, hb, hml2, hown, hts⟩ (hM H.size) (cwV n hts hGd rfl rfl rfl hd ⟨Nat.le_of_ble_eq_true hR, Nat.le_of_ble_eq_true hR2⟩) ⟨m_blind, hrec, hpre⟩ rfl (by rw [List.length_map]; exact hlen) hls rfl (lv_room hrm) hdg ⟨hcs, hss⟩
  intro T' hT' Z
  obtain ⟨v, st₀, t, T2, L, h0, X', hL, e1, e2, ⟨⟨r, h', hv2, hk, hok, hh', hP'⟩, hzz, hkk⟩, stp⟩ := hrun T' hT' Z
  cases hv2
  rw [h0] at hzz hkk
  have hS' : va_S (fun q => s.heap.size ≤ q) s.heap T2.heap (locs ++ L) := by
    refine ⟨Nat.le_trans hS.1 (by rw [e1]; exact hzz), fun q h1 h2 => ?_, fun q hq => ?_⟩
    · rw [e1, hkk q (Nat.lt_of_lt_of_le h1 hS.1) (fun y => h2 (hA2 q y))]
      exact hS.2.1 q h1 h2
    · rcases List.mem_append.mp hq with h | h
      · exact hS.2.2 q h
      · exact hA2 _ (hL q h)
  obtain ⟨t2, a1, b1⟩ := k r h' T2.heap (locs ++ L) hk hok hh' (by rw [e1]; exact hP') (by rw [e1]; exact hzz) (fun q a b => by rw [e1]; exact hkk q a b) hS' T2 rfl X'
  exact ⟨t2, stp t2 a1, b1⟩
end LW
theorem mW_in {X : Mx} {h : Mh} {k : Nat} {w : Nat × va_E} (hk : (mW X h)[k]? = some w) : k < mxN X ∧ w.1 = mxA X k := by
  unfold mW at hk
  rw [List.getElem?_map] at hk
  rcases Nat.lt_or_ge k (mxN X) with t | t
  · rw [List.getElem?_range t] at hk
    cases hk
    exact ⟨t, rfl⟩
  · rw [List.getElem?_eq_none (by rw [List.length_range]; exact t)] at hk
    cases hk
