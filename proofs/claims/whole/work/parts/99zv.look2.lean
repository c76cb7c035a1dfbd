/-! ===== PondReaderLaw.look: it always returns ===== -/
theorem kl_1433 : Cond.methodLink RL 39 yL_look ∈ mtb := mk_s6 115 rfl rfl
theorem kl_1434 : Cond.static yL_look ∈ mtb := mk_s6 116 rfl rfl
theorem kl_1435 : Cond.codeWith yL_look cL_look 5 (some .int) [(0, 10, 13, 13), (0, 10, 17, 15)] ∈ mtb := mk_s6 117 rfl rfl
theorem kl_1436 : Cond.classLink RL 13 nIO ∈ mtb := mk_s6 118 rfl rfl
theorem kl_1437 : Cond.classLink RL 15 nNS ∈ mtb := mk_s6 119 rfl rfl
theorem kl_1438 : Cond.methodLink RL 7 yX13_look ∈ mtb := mk_s6 120 rfl rfl
theorem kl_1439 : Cond.instanceMethod yX13_look ∈ mtb := mk_s6 121 rfl rfl
theorem kl_1440 : Cond.selects RX13 yX13_look yX13_look ∈ mtb := mk_s6 122 rfl rfl
theorem kl_1441 : Cond.code yX13_look cX13_look 3 (some .int) ∈ mtb := mk_s6 123 rfl rfl
theorem k_L0 : Cond.initialized RL ∈ mtb := mk_s1 0 rfl rfl
theorem hdL_X13_look : yX13_look.cls = RX13 ∧ yX13_look.cls ≠ "java/lang/invoke/MethodHandle" ∧ yX13_look.cls ≠ "java/lang/invoke/VarHandle" ∧ (parseMethodDescriptor yX13_look.desc).map (fun d => d.parameters.length) = some 2 := by decide +kernel
theorem hdL_look : yL_look.cls ≠ "java/lang/invoke/MethodHandle" ∧ yL_look.cls ≠ "java/lang/invoke/VarHandle" ∧ (parseMethodDescriptor yL_look.desc).map (fun d => d.parameters.length) = some 4 := by decide +kernel
theorem lk_c1 : Cond.castable nIO nIO ∈ lkT := by decide +kernel
theorem lk_c2 : Cond.castable nNS nNS ∈ lkT := by decide +kernel
theorem dL_look_0 : decode cL_look 0 = .ok (.aload_n 3, 1) := by decide +kernel
theorem dL_look_1 : decode cL_look 1 = .ok (.iconst 0, 1) := by decide +kernel
theorem dL_look_2 : decode cL_look 2 = .ok (.aload_n 0, 1) := by decide +kernel
theorem dL_look_3 : decode cL_look 3 = .ok (.iload_n 1, 1) := by decide +kernel
theorem dL_look_4 : decode cL_look 4 = .ok (.iload_n 2, 1) := by decide +kernel
theorem dL_look_5 : decode cL_look 5 = .ok (.invokevirtual 7, 3) := by decide +kernel
theorem dL_look_8 : decode cL_look 8 = .ok (.i2l, 1) := by decide +kernel
theorem dL_look_9 : decode cL_look 9 = .ok (.lastore, 1) := by decide +kernel
theorem dL_look_10 : decode cL_look 10 = .ok (.goto 11, 3) := by decide +kernel
theorem dL_look_13 : decode cL_look 13 = .ok (.astore 4, 2) := by decide +kernel
theorem dL_look_15 : decode cL_look 15 = .ok (.iconst 1, 1) := by decide +kernel
theorem dL_look_16 : decode cL_look 16 = .ok (.ireturn, 1) := by decide +kernel
theorem dL_look_17 : decode cL_look 17 = .ok (.astore 4, 2) := by decide +kernel
theorem dL_look_19 : decode cL_look 19 = .ok (.iconst 2, 1) := by decide +kernel
theorem dL_look_20 : decode cL_look 20 = .ok (.ireturn, 1) := by decide +kernel
theorem dL_look_21 : decode cL_look 21 = .ok (.iconst 0, 1) := by decide +kernel
theorem dL_look_22 : decode cL_look 22 = .ok (.ireturn, 1) := by decide +kernel
def loA (z : Mz) (oa sz : Nat) : Nat → Prop := fun a => mA (XC z) sz a ∨ a = oa
def loP (z : Mz) (oa : Nat) (a b : Int) (q : Mh) (ov : Int) (sz : Nat) : Array Value → State → Prop := va_Pc [.ref (z.2.2.1 0), .int (Int32.ofInt a), .int (Int32.ofInt b), .ref oa] (fun U => U.heap.size = sz ∧ va_P (mxD (XC z)) mcl (mW (XC z) q) U.heap ∧ va_P (mxD (XC z)) mcl [(oa, mE (XC z) (15, 1) (fun _ => ov))] U.heap ∧ va_K (mxD (XC z)) mcl (mtys (XC z)) U ∧ mokH (XC z) q ∧ mNs U ∧ mST (XC z) (loA z oa sz) U U.heap ∧ mInj (XC z) ∧ lkS (loA z oa sz) U U.heap ∧ (∀ i : Nat, i < 142 → z.2.2.1 i ≠ oa) ∧ r32 a ∧ r32 b)
def loQ (z : Mz) (oa : Nat) (k v : Int) (q : Mh) (A : Nat → Prop) : Array Value → State → Outcome → State → Prop := fun _ st oc t => (oc = .returned (some (.int (Int32.ofInt k))) ∧ ∃ ov' : Int, (k = 0 → ov' = v) ∧ va_P (mxD (XC z)) mcl (mW (XC z) q) t.heap ∧ va_P (mxD (XC z)) mcl [(oa, mE (XC z) (15, 1) (fun _ => ov'))] t.heap) ∧ va_F A st t
theorem lo_blind {z : Mz} {oa : Nat} {a b : Int} {q : Mh} {ov : Int} {sz : Nat} : FrameBlind (loP z oa a b q ov sz) := by
  intro w U g mk h
  obtain ⟨q0, q1, qP, qo, qK, qh, qN, qT, qI, qS, q2⟩ := h
  exact ⟨q0, q1, qP, qo, va_K.moved (u := U) (U := U.calling g mk w) (Vm.Alike.refl U.vm) qK, qh, mNs.same (u := U) rfl qN, mST.moved (u := U) (Vm.Alike.refl U.vm) qT, qI, lkS.warm (s := U) (U := U.calling g mk w) (State.WarmedH.refl U) qS, q2⟩
theorem lo_set {z : Mz} {H : Heap} {oa : Nat} {f : Nat → Int64} {ov : Int} (h : va_P (mxD (XC z)) mcl [(oa, .inl (mxC (XC z) 15, 1, .inr (.inl f)))] H) (h0 : f 0 = Int64.ofInt ov) : va_P (mxD (XC z)) mcl [(oa, mE (XC z) (15, 1) (fun _ => ov))] H := by
  intro k w hk
  rcases k with _ | k
  · cases hk
    have h1 : H[oa]? = some (vp_cell (mxC (XC z) 15) (1, .inr (.inl f))) := h 0 _ rfl
    show H[oa]? = some (vp_cell (mxC (XC z) 15) (1, .inr (.inl fun _ => Int64.ofInt ov)))
    rw [h1]
    congr 1
    unfold vp_cell arrV
    simp [h0]
  · cases hk
set_option maxRecDepth 20000 in
set_option maxHeartbeats 4000000 in
theorem c_look {z : Mz} {l : Launch} (hl0 : l.stackTraces = false) {a b : Int} {q r : Mh} {ov : Int} (h : Rel q r) {oa : Nat} (sz : Nat) :
    Met l yL_look (Cond.codeWith yL_look cL_look 5 (some .int) [(0, 10, 13, 13), (0, 10, 17, 15)] :: mtb) { frames := 7, cells := 1, slots := 6, locals := 150 } (loP z oa a b q ov sz) (loQ z oa (lkk r a b) (lkv r a b) q (loA z oa sz)) 1 6 (loA z oa sz) := by
  refine va_MetW (cc := cL_look) (maxL := 5) (ret := some .int) (hh := [(0, 10, 13, 13), (0, 10, 17, 15)]) (by decide) rfl ?_
  intro p e s m args below meth c s₁ B hml hv
  obtain ⟨rfl, hsz, hP, hPo, hK, hh, hN, hT, hI, hLS, hap, ra, rb⟩ := hv
  subst hsz
  have hts0 := atoms_spec (ws := Cond.codeWith yL_look cL_look 5 (some .int) [(0, 10, 13, 13), (0, 10, 17, 15)] :: mtb) B.pre
  have hts := fun w hw => hts0 w (List.mem_cons_of_mem _ hw)
  have htab := vx_table (x := yL_look) B (hts0 _ List.mem_cons_self)
  have hx := B.exec
  have hb := B.bytes
  have hr : meth.sig.returnType = some .int := B.returns
  have hlocks : meth.locks = false := B.notSynchronized
  have hown : s.vm.findClass RL = some m.cls := findClass_of_methodNamed B.named
  have hl := lv_entry [.ref (z.2.2.1 0), .int (Int32.ofInt a), .int (Int32.ofInt b), .ref oa] (n := 5) (Nat.le_of_ble_eq_true rfl)
  rw [lg_entry_eq]
  generalize (lg_sl [.ref (z.2.2.1 0), .int (Int32.ofInt a), .int (Int32.ofInt b), .ref oa] ++ List.replicate (5 - (lg_sl [.ref (z.2.2.1 0), .int (Int32.ofInt a), .int (Int32.ofInt b), .ref oa]).length) Slot.unset).toArray = ls at hl ⊢
  have hl : lv_has ls 5 [(0, .ref (z.2.2.1 0)), (1, .int (Int32.ofInt a)), (2, .int (Int32.ofInt b)), (3, .ref oa)] := hl
  refine lv_aload_n hx hb dL_look_0 rfl (hl.2.2 (3, .ref oa) (by simp)) ?_
  refine lv_iconst (v := 0) hx hb dL_look_1 (by decide) ?_
  refine lv_aload_n hx hb dL_look_2 rfl (hl.2.2 (0, .ref (z.2.2.1 0)) (by simp)) ?_
  refine lv_iload_n (x := Int32.ofInt a) hx hb dL_look_3 rfl (hl.2.2 (1, .int (Int32.ofInt a)) (by simp)) ?_
  refine lv_iload_n (x := Int32.ofInt b) hx hb dL_look_4 rfl (hl.2.2 (2, .int (Int32.ofInt b)) (by simp)) ?_
  have hA : ∀ x, mA (XC z) s.heap.size x → loA z oa s.heap.size x := fun x hx => Or.inl hx
  obtain ⟨i, e0, hi, hwi⟩ := mW_obj (X := XC z) (h := q) (o := 0) (ci := 11) hI (by decide) rfl
  have i0 : i = 0 := by omega
  subst i0
  have hrec := va_recv hK hP (q := (RX13, TX13, 9)) (ci := 11) rfl hwi
  have er : mcv (XC z) (2, 0) = .ref (z.2.2.1 0) := mcv_ref (i := 0)
  have hpre : ∀ U : State, U.heap = s.heap → s.WarmedH U.vm → lkP (XC z) [(2, 0), (0, a), (0, b)] q s.heap.size (Value.ref (z.2.2.1 0) :: [.int (Int32.ofInt a), .int (Int32.ofInt b)]).toArray U := by
    intro U hU hW
    refine ⟨⟨?_, by rw [hU], by rw [hU]; exact hP, va_K.moved hW.alike hK, hh, ?_, hN.warm hW, by rw [hU]; exact (hT.moved hW.alike).narrow hA, hI⟩, by rw [hU]; exact (hLS.warm hW).narrow hA⟩
    · rw [List.map_cons, er]; rfl
    · exact mok_cons trivial (mok_cons ra (mok_cons rb (fun v hv => by cases hv)))
  have hGd : GoodIn mtb (wsV RL 7 RX13 yX13_look (Cond.code yX13_look cX13_look 3 (some .int) :: mtb)) := mgi kl_1438 (mgi kl_1439 (mgi kl_1440 (mgi k_134 (mgi kl_1441 mtb_good))))
  have hrun : vx_Run p l e { frames := 7, cells := 1, slots := 6, locals := 150 } s m _ below meth c s.heap [] 0 0 1 6 (F0 m 5 ls [.int (Int32.ofInt b), .int (Int32.ofInt a), .ref (z.2.2.1 0), .int 0, .ref oa]) [.int 0, .ref oa] _ (lkX (XC z) _ (mA (XC z) s.heap.size)) (mA (XC z) s.heap.size) :=
    vx_runV (b := z.2.2.1 0) (As := [.int (Int32.ofInt a), .int (Int32.ofInt b)]) ⟨hx, hb, hml, hown, hts⟩ (sim_X13_look (z := z) hl0 (op_lookC a b h) s.heap.size) (cwV 2 hts hGd rfl rfl rfl hdL_X13_look ⟨Nat.le_of_ble_eq_true rfl, Nat.le_of_ble_eq_true rfl⟩) ⟨lk_blind, hrec, hpre⟩ rfl rfl hl.1 rfl (lv_room (Nat.le_of_ble_eq_true rfl)) dL_look_5 ⟨by decide, by decide⟩
  have holt : oa < s.heap.size := (hPo 0 _ rfl).lt
  have hona : ¬ mA (XC z) s.heap.size oa := fun y => by
    rcases y with ⟨j, y1, y2⟩ | y
    · exact hap j y1 y2.symm
    · omega
  intro T hT9 Z
  rcases hrun T hT9 Z with ⟨v, st₀, t, T2, L, h0, X2, hL, e1, e2, ⟨⟨rr, h', hv2, hk, hok, hh', hP'⟩, hzz, hkk⟩, stp⟩ | ⟨qa, st₀, t, T2, L, E, ce, h0, X2, hL, e1, e2, ⟨⟨h', hJ, hh', hP'⟩, hzz, hkk⟩, hce, hcv, hcl, stp⟩
  · rw [h0] at hzz hkk
    obtain ⟨x, hx1, hx2, hk0, hx3⟩ := hk
    subst hx1
    rw [hx2, ← e1] at hP'
    cases hv2
    have rx : r32 x := hok _ rfl
    have hS2 : va_S (loA z oa s.heap.size) s.heap T2.heap ([] ++ L) := ⟨by rw [e1]; exact hzz, fun y h1 h2 => by rw [e1]; exact hkk y h1 (fun w => h2 (Or.inl w)), fun y hy => Or.inl (hL y (by simpa using hy))⟩
    have hPo2 : va_P (mxD (XC z)) mcl [(oa, mE (XC z) (15, 1) (fun _ => ov))] T2.heap := hPo.kept (fun j w hw => by
      rcases j with _ | j
      · cases hw; rw [e1]; exact hkk _ holt hona
      · cases hw)
    have hall : va_P (mxD (XC z)) mcl ((oa, (.inl (mxC (XC z) 15, 1, .inr (.inl fun _ => Int64.ofInt ov)) : va_E)) :: mW (XC z) q) T2.heap := fun j w hw => by
      rcases j with _ | j
      · cases hw; exact hPo2 0 _ rfl
      · exact hP' j w hw
    have hDall : va_D (loA z oa s.heap.size) ((oa, (.inl (mxC (XC z) 15, 1, .inr (.inl fun _ => Int64.ofInt ov)) : va_E)) :: mW (XC z) q) := by
      refine vaD_app (w1 := [(oa, _)]) ⟨fun j1 j2 p1 p2 y1 y2 _ => ?_, fun j w hw => ?_⟩ (mD_W hI (fun j hj => Or.inl (Or.inl ⟨j, hj, rfl⟩))) (fun j1 j2 p1 p2 y1 y2 => ?_)
      · have : j1 < 1 := (List.getElem?_eq_some_iff.mp y1).1
        have : j2 < 1 := (List.getElem?_eq_some_iff.mp y2).1
        omega
      · rcases j with _ | j
        · cases hw; exact Or.inr rfl
        · cases hw
      · obtain ⟨t1, t2⟩ := mW_in y2
        rcases j1 with _ | j1
        · cases y1; rw [t2]; exact fun y => hap j2 t1 y.symm
        · cases y1
    have kk : W p l e { frames := 7, cells := 1, slots := 6, locals := 150 } s m ([Value.ref (z.2.2.1 0), .int (Int32.ofInt a), .int (Int32.ofInt b), .ref oa] : List Value).toArray below meth c T2.heap ([] ++ L) (0 + 1) (0 + 6) (MQ below (loQ z oa (lkk r a b) (lkv r a b) q (loA z oa s.heap.size)) ([Value.ref (z.2.2.1 0), .int (Int32.ofInt a), .int (Int32.ofInt b), .ref oa] : List Value).toArray s 1 6 (loA z oa s.heap.size)) (F0 m (5 + 3) ls [.int (Int32.ofInt x), .int 0, .ref oa]) := by
      refine lv_i2l (v := Int64.ofInt x) hx hb dL_look_8 (i64_eq (by rw [Int32.toInt_toInt64, i32_toInt rx])) ?_
      refine va_last (A := loA z oa s.heap.size) hx hb hK hall hDall hS2 0 2 (cA := mxC (XC z) 15) (n := 1) (f := fun _ => Int64.ofInt ov) rfl rfl (i := 0) (x := Int64.ofInt x) (by unfold vp_in; decide) dL_look_9 (fun H1 locs1 hP1 hD1 hS1 => ?_)
      refine lv_goto hx hb dL_look_10 (tgt := 21) rfl ?_
      refine lv_iconst (v := 0) hx hb dL_look_21 (by decide) ?_
      refine W.iret (v := 0) hx hb hr (fun t9 ht hW => ⟨⟨by rw [hk0]; rfl, x, fun _ => hx3, fun j w hw => ?_, ?_⟩, hS1.F ht⟩) hS1.2.2 dL_look_22
      · rw [ht]; exact hP1 (j + 1) w hw
      · rw [ht]
        refine lo_set (f := vp_updL (fun _ => Int64.ofInt ov) 0 (Int64.ofInt x)) (fun j w hw => ?_) (by unfold vp_updL; simp)
        rcases j with _ | j
        · cases hw; exact hP1 0 _ rfl
        · cases hw
    obtain ⟨t2, a1, b1⟩ := kk T2 rfl X2
    exact ⟨t2, stp t2 a1, b1⟩
  · rw [h0] at hzz hkk
    obtain ⟨hx2, hJ⟩ := hJ
    rw [hx2, ← e1] at hP'
    have hS2 : va_S (loA z oa s.heap.size) s.heap T2.heap ([] ++ L) := ⟨by rw [e1]; exact hzz, fun y h1 h2 => by rw [e1]; exact hkk y h1 (fun w => h2 (Or.inl w)), fun y hy => Or.inl (hL y (by simpa using hy))⟩
    have hPo2 : va_P (mxD (XC z)) mcl [(oa, mE (XC z) (15, 1) (fun _ => ov))] T2.heap := hPo.kept (fun j w hw => by
      rcases j with _ | j
      · cases hw; rw [e1]; exact hkk _ holt hona
      · cases hw)
    have hcell : T2.heap[qa]? = some ce := by rw [e1]; exact hce
    have fin : ∀ (k : Int) (pc : Nat) (ls9 : Array Slot), lkk r a b = k → k ≠ 0 → decode cL_look pc = .ok (.ireturn, 1) → W p l e { frames := 7, cells := 1, slots := 6, locals := 150 } s m ([Value.ref (z.2.2.1 0), .int (Int32.ofInt a), .int (Int32.ofInt b), .ref oa] : List Value).toArray below meth c T2.heap ([] ++ L) (0 + 1) (0 + 6) (MQ below (loQ z oa (lkk r a b) (lkv r a b) q (loA z oa s.heap.size)) ([Value.ref (z.2.2.1 0), .int (Int32.ofInt a), .int (Int32.ofInt b), .ref oa] : List Value).toArray s 1 6 (loA z oa s.heap.size)) (F0 m pc ls9 [.int (Int32.ofInt k)]) := fun k pc ls9 ek k0 hd =>
      W.iret (v := Int32.ofInt k) hx hb hr (fun t9 ht hW => ⟨⟨by rw [ek], ov, fun y => absurd (ek.symm.trans y) k0, by rw [ht]; exact hP', by rw [ht]; exact hPo2⟩, hS2.F ht⟩) hS2.2.2 hd
    have kx : vx_W p l e { frames := 7, cells := 1, slots := 6, locals := 150 } s m ([Value.ref (z.2.2.1 0), .int (Int32.ofInt a), .int (Int32.ofInt b), .ref oa] : List Value).toArray below meth c T2.heap ([] ++ L) (0 + 1) (0 + 6) (MQ below (loQ z oa (lkk r a b) (lkv r a b) q (loA z oa s.heap.size)) ([Value.ref (z.2.2.1 0), .int (Int32.ofInt a), .int (Int32.ofInt b), .ref oa] : List Value).toArray s 1 6 (loA z oa s.heap.size)) (F0 m 5 ls [.int 0, .ref oa]) qa := by
      rcases hJ with ⟨eE, ek⟩ | ⟨eE, ek⟩
      · rw [eE] at hcl
        refine lk_catch1 (x1 := ⟨0, 10, 13, 13⟩) (n1 := nIO) hown htab (by decide) (by decide) (hts _ kl_1436) (hLS.1.use _ lk_c1) hcell hcv hcl ?_
        refine lv_astore (lv' := (4, .ref qa) :: [(0, .ref (z.2.2.1 0)), (1, .int (Int32.ofInt a)), (2, .int (Int32.ofInt b)), (3, .ref oa)]) hx hb dL_look_13 hl (by decide) rfl (fun ls9 hl9 => ?_)
        refine lv_iconst (v := Int32.ofInt 1) hx hb dL_look_15 (by decide) ?_
        exact fin 1 16 ls9 ek (by decide) dL_look_16
      · rw [eE] at hcl
        refine lk_catch2 (x1 := ⟨0, 10, 13, 13⟩) (x2 := ⟨0, 10, 17, 15⟩) (n1 := nIO) (n2 := nNS) hown htab (by decide) (by decide) (by decide) (by decide) (hts _ kl_1436) (hts _ kl_1437) hLS.2.2.2.2.2 (hLS.1.use _ lk_c2) hcell hcv hcl ?_
        refine lv_astore (lv' := (4, .ref qa) :: [(0, .ref (z.2.2.1 0)), (1, .int (Int32.ofInt a)), (2, .int (Int32.ofInt b)), (3, .ref oa)]) hx hb dL_look_17 hl (by decide) rfl (fun ls9 hl9 => ?_)
        refine lv_iconst (v := Int32.ofInt 2) hx hb dL_look_19 (by decide) ?_
        exact fin 2 20 ls9 ek (by decide) dL_look_20
    obtain ⟨t2, a1, b1⟩ := kx T2 rfl X2
    exact ⟨t2, stp.trans a1, b1⟩
