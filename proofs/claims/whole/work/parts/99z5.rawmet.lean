/-! ===== what a constructor does ===== -/
def aPc (sh : Int → Nat × Nat) (z : Mz) (n : Nat) (av : List Mv) (h : Mh) (sz : Nat) : Array Value → State → Prop := va_Pc (av.map (mcv (XP sh z n))) (fun U => U.heap.size = sz ∧ va_P (mxD (XP sh z n)) mcl (mW (XP sh z n) h) U.heap ∧ va_K (mxD (XP sh z n)) mcl (mtys (XP sh z n)) U ∧ aok sh n h ∧ (∀ v ∈ av, avk n v) ∧ mNs U ∧ mST (XP sh z n) (mA (XP sh z n) sz) U U.heap ∧ mInj (XP sh z n) ∧ va_AO RX7 U)
def aQc (sh : Int → Nat × Nat) (z : Mz) (n n' sz : Nat) (K : Mh → Prop) (A : Nat → Prop) : Array Value → State → Outcome → State → Prop := fun _ st oc t =>
  (∃ (z' : Mz) (h' : Mh), oc = .returned none ∧ zle z z' n ∧ (∀ i : Nat, n ≤ i → i < n' → sz ≤ z'.2.2.1 i) ∧ mInj (XP sh z' n') ∧ K h' ∧ aok sh n' h' ∧ va_P (mxD (XP sh z' n')) mcl (mW (XP sh z' n') h') t.heap) ∧ va_F A st t
def aCal (sh : Int → Nat × Nat) (l : Launch) (y : MethodName) (cc : ByteArray) (maxL fr lc mc ms : Nat) (z : Mz) (n n' : Nat) (av : List Mv) (h : Mh) (K : Mh → Prop) : Prop :=
  ∀ sz : Nat, Met l y (Cond.code y cc maxL none :: mtb) { frames := fr, cells := mc, slots := ms, locals := lc } (aPc sh z n av h sz) (aQc sh z n n' sz K (mA (XP sh z n) sz)) mc ms (mA (XP sh z n) sz)
def aMQ (sh : Int → Nat × Nat) (z : Mz) (n n' : Nat) (K : Mh → Prop) (below : List Frame) (args : Array Value) (s : State) (mc ms : Nat) : State → Prop := MQ below (aQc sh z n n' s.heap.size K (mA (XP sh z n) s.heap.size)) args s mc ms (mA (XP sh z n) s.heap.size)
theorem a_entry {sh : Int → Nat × Nat} {l : Launch} {y : MethodName} {cc : ByteArray} {maxL fr lc mc ms : Nat} {z : Mz} {n n' : Nat} {av : List Mv} {h : Mh} {K : Mh → Prop} (own : String) (how : y.cls = own) (hnm : y.name = "<init>") (hy : plainName own = true) (hn : Nat.ble (mwords av) maxL = true)
    (body : ∀ p e s m args below meth c, aC sh z n p l e { frames := fr, cells := mc, slots := ms, locals := lc } s m args below meth c cc maxL own → meth.sig.returnType = none →
      aG sh z n p l e { frames := fr, cells := mc, slots := ms, locals := lc } s m args below meth c maxL (aMQ sh z n n' K below args s mc ms) 0 0 0 (largs 0 av) [] h) : aCal sh l y cc maxL fr lc mc ms z n n' av h K := by
  subst how
  intro sz
  refine Met.ofW (cc := cc) (maxL := maxL) (ret := none) hy rfl ?_
  intro p e s m args below meth c s₁ B hml hv
  obtain ⟨rfl, hsz, hP, hK, hh, hav, hN, hT, hI, hAO⟩ := hv
  subst hsz
  have hts := atoms_spec (ws := Cond.code y cc maxL none :: mtb) B.pre
  have hC : aC sh z n p l e { frames := fr, cells := mc, slots := ms, locals := lc } s m (av.map (mcv (XP sh z n))).toArray below meth c cc maxL y.cls := ⟨⟨B.exec, B.bytes, hml, findClass_of_methodNamed B.named, fun w hw => hts w (List.mem_cons_of_mem _ hw), hK, hI, hN, hT, B.notSynchronized⟩, hAO, by rw [(name_of_methodNamed B.named B.method).1, hnm]⟩
  have k := body p e s m (av.map (mcv (XP sh z n))).toArray below meth c hC B.returns
  have hl := lv_entry (av.map (mcv (XP sh z n))) (n := maxL) (by rw [mwords_sl]; exact Nat.le_of_ble_eq_true hn)
  rw [lg_entry_eq]
  rw [largs_eq] at hl
  exact k s.heap [] _ (fun v hv => by cases hv) (fun q hq => hav _ (largs_in av 0 q hq)) hh hP va_S.rf hl
section AK
variable {sh : Int → Nat × Nat} {z z0 : Mz} {n n0 : Nat} {p : Program} {l : Launch} {e : Env} {R : Room} {s : State} {m : MethodId} {args : Array Value} {below : List Frame} {meth : Method} {c : Code} {cc : ByteArray} {nL : Nat} {own : String} {Q : State → Prop} {cells slots pc : Nat} {lo : List (Nat × Mv)} {st : List Mv} {h : Mh}
theorem a_ret (C : aC sh z n p l e R s m args below meth c cc nL own) {K : Mh → Prop} (hz : zle z0 z n0) (hn : n0 ≤ n) (hf : ∀ i : Nat, n0 ≤ i → i < n → s.heap.size ≤ z.2.2.1 i) (hr : meth.sig.returnType = none) (hd : decode cc pc = .ok (.return_, 1)) (hk : K h) : aG sh z n p l e R s m args below meth c nL (aMQ sh z0 n0 n K below args s cells slots) cells slots pc lo [] h := by
  intro H locs ls hs hl hh hP hS hv
  have hlocks : meth.locks = false := C.1.2.2.2.2.2.2.2.2.2
  have hS' : va_S (mA (XP sh z0 n0) s.heap.size) s.heap H locs := ⟨hS.1, fun x a b => hS.2.1 x a (fun y => b (mA_le hz hf y)), fun x a => mA_le hz hf (hS.2.2 x a)⟩
  exact W.vret C.1.1 C.1.2.1 hr (fun u hu hW => ⟨⟨z, h, rfl, hz, hf, C.1.2.2.2.2.2.2.1, hk, hh, by rw [hu]; exact hP⟩, hS'.F hu⟩) hS'.2.2 hd
theorem a_wide {cells' slots' : Nat} (hc : cells ≤ cells') (hs' : slots ≤ slots') (k : aG sh z n p l e R s m args below meth c nL Q cells' slots' pc lo st h) : aG sh z n p l e R s m args below meth c nL Q cells slots pc lo st h := fun H locs ls hs hl hh hP hS hv => W.widen hc hs' (k H locs ls hs hl hh hP hS hv)
theorem a_blind {av : List Mv} {sz : Nat} : FrameBlind (aPc sh z n av h sz) := by
  intro a U g mk q
  obtain ⟨q0, q1, qP, qK, qh, qv, qN, qT, qI, qA⟩ := q
  exact ⟨q0, q1, qP, va_K.moved (u := U) (U := U.calling g mk a) (Vm.Alike.refl U.vm) qK, qh, qv, mNs.same (u := U) rfl qN, mST.moved (u := U) (Vm.Alike.refl U.vm) qT, qI, qA.moved (u := U) (Vm.Alike.refl U.vm)⟩
theorem a_pre (C : aC sh z n p l e R s m args below meth c cc nL own) {av : List Mv} (hav : ∀ v ∈ av, avk n v) (hh : aok sh n h) {H : Heap} {locs : List Loc} (hP : va_P (mxD (XP sh z n)) mcl (mW (XP sh z n) h) H) (hS : va_S (mA (XP sh z n) s.heap.size) s.heap H locs) : ∀ U : State, U.heap = H → s.WarmedH U.vm → aPc sh z n av h H.size (av.map (mcv (XP sh z n))).toArray U := by
  intro U hU hW
  obtain ⟨⟨hx, hb, hml, hown, hts, hK, hI, hN, hT, hlk⟩, hA, _⟩ := C
  exact ⟨rfl, by rw [hU], by rw [hU]; exact hP, va_K.moved hW.alike hK, hh, hav, hN.warm hW, by rw [hU]; exact hT.at hS hW.alike, hI, hA.moved hW.alike⟩
theorem a_call {av : List Mv} {K : Mh → Prop} {n' mc ms : Nat} (C : aC sh z n p l e R s m args below meth c cc nL own) (hr : ∀ H locs ls, (∀ v ∈ av, avk n v) → aok sh n h → va_P (mxD (XP sh z n)) mcl (mW (XP sh z n) h) H → va_S (mA (XP sh z n) s.heap.size) s.heap H locs → lv_has ls nL (lo.map fun q => (q.1, mcv (XP sh z n) q.2)) → va_Run p l e R s m args below meth c H locs cells slots mc ms (F0 m pc ls ((av.reverse ++ st).map (mcv (XP sh z n)))) (st.map (mcv (XP sh z n))) (aQc sh z n n' H.size K (mA (XP sh z n) H.size) (av.map (mcv (XP sh z n))).toArray) (mA (XP sh z n) H.size)) (hnn : n ≤ n')
    (k : ∀ z' h', zle z z' n → (∀ i : Nat, n ≤ i → i < n' → s.heap.size ≤ z'.2.2.1 i) → aC sh z' n' p l e R s m args below meth c cc nL own → K h' → aG sh z' n' p l e R s m args below meth c nL Q (cells + mc) (slots + ms) (pc + 3) lo st h') : aG sh z n p l e R s m args below meth c nL Q cells slots pc lo (av.reverse ++ st) h := by
  intro H locs ls hs hl hh hP hS hv
  intro T hT Z
  have hav : ∀ v ∈ av, avk n v := fun v hv => hs v (List.mem_append_left _ (List.mem_reverse.mpr hv))
  have hst : ∀ v ∈ st, avk n v := fun v hv => hs v (List.mem_append_right _ hv)
  obtain ⟨v, st₀, t, T', L, h0, X', hL, e1, e2, ⟨⟨z', h', hv2, hz, hf, hI', hk, hh', hP'⟩, hzz, hkk⟩, stp⟩ := hr H locs ls hav hh hP hS hv T hT Z
  cases hv2
  rw [h0] at hzz hkk
  have hA2 : ∀ q, mA (XP sh z n) H.size q → mA (XP sh z n) s.heap.size q := fun q hq => by
    rcases hq with hq | hq
    · exact Or.inl hq
    · exact Or.inr (Nat.le_trans hS.1 hq)
  have hf' : ∀ i : Nat, n ≤ i → i < n' → s.heap.size ≤ z'.2.2.1 i := fun i a b => Nat.le_trans hS.1 (hf i a b)
  have hS' : va_S (mA (XP sh z' n') s.heap.size) s.heap T'.heap (locs ++ L) := by
    refine ⟨Nat.le_trans hS.1 (by rw [e1]; exact hzz), fun q h1 h2 => ?_, fun q hq => ?_⟩
    · have h2' : ¬ mA (XP sh z n) s.heap.size q := fun y => h2 (mA_ge hz hnn y)
      rw [e1, hkk q (Nat.lt_of_lt_of_le h1 hS.1) (fun y => h2' (hA2 q y))]
      exact hS.2.1 q h1 h2'
    · rcases List.mem_append.mp hq with h | h
      · exact mA_ge hz hnn (hS.2.2 q h)
      · exact mA_ge hz hnn (hA2 _ (hL q h))
  have C' := C.go hz hf' hI'
  have e3 : (lo.map fun x => (x.1, mcv (XP sh z' n') x.2)) = lo.map fun x => (x.1, mcv (XP sh z n) x.2) := List.map_congr_left (fun v y => by rw [mcv_le (hl v y) hz])
  have e4 : st.map (mcv (XP sh z' n')) = st.map (mcv (XP sh z n)) := List.map_congr_left (fun v y => mcv_le (hst v y) hz)
  have kk := k z' h' hz hf' C' hk T'.heap (locs ++ L) ls (fun v hv => (hst v hv).le hnn) (fun q hq => (hl q hq).le hnn) hh' (by rw [e1]; exact hP') hS' (by rw [e3]; exact hv) T' rfl X'
  obtain ⟨t2, a1, b1⟩ := kk
  rw [e4] at a1
  exact ⟨t2, stp t2 a1, b1⟩
theorem a_callI (C : aC sh z n p l e R s m args below meth c cc nL own) {y : MethodName} {bytes : ByteArray} {maxL fr lc mc ms index np n' : Nat} {av : List Mv} {o : Nat} {K : Mh → Prop} {st0 : List Mv} (hM : aCal sh l y bytes maxL fr lc mc ms z n n' ((2, (o : Int)) :: av) h K)
    (hml : Cond.methodLink own index y ∈ mtb) (him : Cond.instanceMethod y ∈ mtb) (hin : Cond.initialized y.cls ∈ mtb) (hco : Cond.code y bytes maxL none ∈ mtb) (hnm : y.name = "<init>") (hd : y.cls ≠ "java/lang/invoke/MethodHandle" ∧ y.cls ≠ "java/lang/invoke/VarHandle" ∧ (parseMethodDescriptor y.desc).map (fun d => d.parameters.length) = some np)
    (hR : Nat.ble (fr + 1) R.frames = true) (hR2 : Nat.ble (8 + (maxL + 11) + lc) R.locals = true) (hlen : av.length = np) (hst : st0 = av.reverse ++ (2, (o : Int)) :: st) (hrm : Nat.ble (mwords st) 8 = true) (hdg : decode cc pc = .ok (.invokespecial index, 3)) (hcs : Nat.ble (cells + mc) R.cells = true) (hss : Nat.ble (slots + ms) R.slots = true) (hnn : n ≤ n')
    (k : ∀ z' h', zle z z' n → (∀ i : Nat, n ≤ i → i < n' → s.heap.size ≤ z'.2.2.1 i) → aC sh z' n' p l e R s m args below meth c cc nL own → K h' → aG sh z' n' p l e R s m args below meth c nL Q (cells + mc) (slots + ms) (pc + 3) lo st h') : aG sh z n p l e R s m args below meth c nL Q cells slots pc lo st0 h := by
  have e0 : st0 = ((2, (o : Int)) :: av).reverse ++ st := by rw [hst]; simp
  rw [e0]
  refine a_call (K := K) C (fun H locs ls hav hh hP hS hv => ?_) hnn k
  obtain ⟨hx, hb, hml2, hown, hts, hK, hI, hN, hT, hlk⟩ := id C.1
  have hpre := a_pre C hav hh hP hS
  have er : mcv (XP sh z n) (2, (o : Int)) = .ref (z.2.2.1 o) := mcv_p (by omega)
  rw [List.map_cons, er] at hpre ⊢
  refine va_runI (b := z.2.2.1 o) (As := av.map (mcv (XP sh z n))) ⟨hx, hb, hml2, hown, hts⟩ (hM H.size) (cwI np hts (mgi hco mtb_good) rfl rfl rfl (hts _ hin) (hts _ hml) (hts _ him) hnm hd ⟨Nat.le_of_ble_eq_true hR, Nat.le_of_ble_eq_true hR2⟩) ⟨a_blind, hpre⟩ rfl (by rw [List.length_map]; exact hlen) hv.1 ?_ (lv_room (by rw [mwords_cat]; exact Nat.le_of_ble_eq_true hrm)) hdg ⟨Nat.le_of_ble_eq_true hcs, Nat.le_of_ble_eq_true hss⟩
  show ((((2, (o : Int)) :: av).reverse ++ st).map (mcv (XP sh z n))) = _
  simp [er]
theorem a_callIN (C : aC sh z n p l e R s m args below meth c cc nL own) {y : MethodName} {bytes : ByteArray} {maxL fr lc mc ms index np n' : Nat} {host : String} {av : List Mv} {o : Nat} {K : Mh → Prop} {st0 : List Mv} (hM : aCal sh l y bytes maxL fr lc mc ms z n n' ((2, (o : Int)) :: av) h K)
    (hml : Cond.methodLinkNest own index y host ∈ lw_tbl.filter mnest) (him : Cond.instanceMethod y ∈ mtb) (hin : Cond.initialized y.cls ∈ mtb) (hco : Cond.code y bytes maxL none ∈ mtb) (hnm : y.name = "<init>") (hd : y.cls ≠ "java/lang/invoke/MethodHandle" ∧ y.cls ≠ "java/lang/invoke/VarHandle" ∧ (parseMethodDescriptor y.desc).map (fun d => d.parameters.length) = some np)
    (hR : Nat.ble (fr + 1) R.frames = true) (hR2 : Nat.ble (8 + (maxL + 11) + lc) R.locals = true) (hlen : av.length = np) (hst : st0 = av.reverse ++ (2, (o : Int)) :: st) (hrm : Nat.ble (mwords st) 8 = true) (hdg : decode cc pc = .ok (.invokespecial index, 3)) (hcs : Nat.ble (cells + mc) R.cells = true) (hss : Nat.ble (slots + ms) R.slots = true) (hnn : n ≤ n')
    (k : ∀ z' h', zle z z' n → (∀ i : Nat, n ≤ i → i < n' → s.heap.size ≤ z'.2.2.1 i) → aC sh z' n' p l e R s m args below meth c cc nL own → K h' → aG sh z' n' p l e R s m args below meth c nL Q (cells + mc) (slots + ms) (pc + 3) lo st h') : aG sh z n p l e R s m args below meth c nL Q cells slots pc lo st0 h := by
  have e0 : st0 = ((2, (o : Int)) :: av).reverse ++ st := by rw [hst]; simp
  rw [e0]
  refine a_call (K := K) C (fun H locs ls hav hh hP hS hv => ?_) hnn k
  obtain ⟨hx, hb, hml2, hown, hts, hK, hI, hN, hT, hlk⟩ := id C.1
  have hpre := a_pre C hav hh hP hS
  have er : mcv (XP sh z n) (2, (o : Int)) = .ref (z.2.2.1 o) := mcv_p (by omega)
  rw [List.map_cons, er] at hpre ⊢
  refine va_runIN (b := z.2.2.1 o) (As := av.map (mcv (XP sh z n))) ⟨hx, hb, hml2, hown, hts⟩ (hM H.size) ⟨va_cnB np hts (mgi hco mtb_good) rfl rfl rfl (hN _ hml) (hts _ hin) hd ⟨Nat.le_of_ble_eq_true hR, Nat.le_of_ble_eq_true hR2⟩, hnm, hts _ him⟩ ⟨a_blind, hpre⟩ rfl (by rw [List.length_map]; exact hlen) hv.1 ?_ (lv_room (by rw [mwords_cat]; exact Nat.le_of_ble_eq_true hrm)) hdg ⟨Nat.le_of_ble_eq_true hcs, Nat.le_of_ble_eq_true hss⟩
  show ((((2, (o : Int)) :: av).reverse ++ st).map (mcv (XP sh z n))) = _
  simp [er]
end AK
