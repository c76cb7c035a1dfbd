/-! ===== PondReader.look: returns or throws ===== -/
def nIO : String := "java/lang/IndexOutOfBoundsException"
def nNS : String := "java/util/NoSuchElementException"
def nRT : String := "java/lang/RuntimeException"
def lkT : List Cond := lk_at RX13 131 nIO nRT 7 prog_21_method_2_code ["java/lang/Exception"] ++ (lk_at RX13 151 nNS nRT 13 prog_29_method_4_code ["java/lang/Exception"] ++ [.classLink RX13 127 nIO, .initialized nIO, .classLink RX13 147 nNS, .initialized nNS])
set_option maxRecDepth 100000 in
theorem lkT_in : ∀ w ∈ lkT, w ∈ tables_1_1 ++ tables_1_6 := by decide +kernel
theorem lkT_tabs : ∀ w ∈ lkT, w.tabsOnly = true := by decide +kernel
theorem lkT_tbl : ∀ w ∈ lkT, w ∈ lw_tbl := fun w hw => by
  rcases List.mem_append.mp (lkT_in w hw) with h | h
  · obtain ⟨j, hj⟩ := List.getElem?_of_mem h
    exact mw_1 j hj
  · obtain ⟨j, hj⟩ := List.getElem?_of_mem h
    exact mw_6 j hj
def lkW (U : State) : Prop := ∀ w ∈ lkT, w.before #[] U = true
theorem lkW.of {A : Array Value} {U : State} (h : ∀ w ∈ lkT, w.before A U = true) : lkW U := fun w hw => by
  have h1 := Cond.tabsOnly_warm (args := A) (args' := #[]) (T := U) (State.WarmedH.refl U) w (lkT_tabs w hw) (h w hw)
  rwa [State.setVm_self] at h1
theorem lkW.use {A : Array Value} {U : State} (h : lkW U) : ∀ w ∈ lkT, w.before A U = true := fun w hw => by
  have h1 := Cond.tabsOnly_warm (args := #[]) (args' := A) (T := U) (State.WarmedH.refl U) w (lkT_tabs w hw) (h w hw)
  rwa [State.setVm_self] at h1
theorem lkW.warm {s U : State} (hW : s.WarmedH U.vm) (h : lkW s) : lkW U := fun w hw => by
  have h1 := Cond.tabsOnly_warm (args := #[]) (args' := #[]) (T := U) hW w (lkT_tabs w hw) (h w hw)
  rwa [State.setVm_self] at h1
/-- what a throw looks at -/
def lkS (A : Nat → Prop) (U : State) (H : Heap) : Prop := lkW U ∧ vx_Zq Bundle.tN "UNASSIGNED_STACK" Bundle.steD A U H ∧ vx_Zq Bundle.tN "SUPPRESSED_SENTINEL" Bundle.listD A U H ∧ (∃ a, vk_R RX13 129 "no such kind" a U) ∧ (∃ a, vk_R RX13 149 "no such what" a U) ∧ va_Nc nNS nIO U
theorem lkS.warm {A : Nat → Prop} {s U : State} {H : Heap} (hW : s.WarmedH U.vm) (h : lkS A s H) : lkS A U H := by
  obtain ⟨h1, h2, h3, ⟨a, h4⟩, ⟨b, h5⟩, h6⟩ := h
  exact ⟨h1.warm hW, h2.moved hW.alike, h3.moved hW.alike, ⟨a, vk_R.warm hW h4⟩, ⟨b, vk_R.warm hW h5⟩, h6.moved hW.alike⟩
theorem lkS.kept {A : Nat → Prop} {U : State} {H H1 : Heap} (h : lkS A U H) (hq : ∀ a : Nat, a < H.size → ¬ A a → H1[a]? = H[a]?) : lkS A U H1 := ⟨h.1, h.2.1.kept hq, h.2.2.1.kept hq, h.2.2.2⟩
theorem lkS.narrow {A B : Nat → Prop} {U : State} {H : Heap} (h : lkS A U H) (hAB : ∀ q, B q → A q) : lkS B U H := ⟨h.1, h.2.1.narrow hAB, h.2.2.1.narrow hAB, h.2.2.2⟩
def lkP (X : Mx) (av : List Mv) (h : Mh) (sz : Nat) : Array Value → State → Prop := fun a U => mPc X av h sz a U ∧ lkS (mA X sz) U U.heap
theorem lk_blind {X : Mx} {av : List Mv} {h : Mh} {sz : Nat} : FrameBlind (lkP X av h sz) := fun a U g mk q => ⟨m_blind a U g mk q.1, lkS.warm (s := U) (U := U.calling g mk a) (State.WarmedH.refl U) q.2⟩
def lkX (X : Mx) (J : String → Mh → Prop) (A : Nat → Prop) : String → State → State → Prop := fun E st t => (∃ h', J E h' ∧ mokH X h' ∧ va_P (mxD X) mcl (mW X h') t.heap) ∧ va_F A st t
def lkMQ (X : Mx) (K : Option Mv → Mh → Prop) (J : String → Mh → Prop) (below : List Frame) (args : Array Value) (s : State) : State → Prop := vx_MQ below (mQc X K (mA X s.heap.size)) (lkX X J (mA X s.heap.size)) args s 1 6 (mA X s.heap.size)
section LKD
variable {X : Mx} {p : Program} {l : Launch} {e : Env} {R : Room} {s : State} {m : MethodId} {args : Array Value} {below : List Frame} {meth : Method} {c : Code} {cc : ByteArray} {nL : Nat} {own : String} {pc : Nat} {lo : List (Nat × Mv)} {st : List Mv} {h : Mh}
theorem gx_iret (C : mC X p l e R s m args below meth c cc nL own) {K : Option Mv → Mh → Prop} {J : String → Mh → Prop} {x : Int} (hr : meth.sig.returnType = some .int) (hd : decode cc pc = .ok (.ireturn, 1)) (hk : K (some (0, x)) h) : mG X p l e R s m args below meth c nL (lkMQ X K J below args s) pc lo [(0, x)] h := by
  intro H locs ls hs hl hh hP hS hv
  have hlocks : meth.locks = false := C.2.2.2.2.2.2.2.2.2
  refine vx_ret ?_
  refine W.widen (k := 1) (n := 6) (Nat.zero_le _) (Nat.zero_le _) ?_
  exact W.iret (v := Int32.ofInt x) C.1 C.2.1 hr (fun t ht hW => ⟨⟨some (0, x), h, rfl, hk, fun v hv => by cases hv; exact mok_hd hs, hh, by rw [ht]; exact hP⟩, hS.F ht⟩) hS.2.2 hd
theorem gx_throw (C : mC X p l e R s m args below meth c cc nL own) {K : Option Mv → Mh → Prop} {J : String → Mh → Prop} (hl0 : l.stackTraces = false) (hN : lkS (mA X s.heap.size) s s.heap) (hno : ∀ x ∈ c.exceptionTable.toList, False)
    {cls text sup : String} {names : List String} {ix ik is ic sa : Nat} {bb : ByteArray} (hcls : Bundle.fit cls = true) (hsup : Bundle.fit sup = true) (e0 : decode bb 0 = .ok (.aload_n 0, 1)) (e1 : decode bb 1 = .ok (.aload_n 1, 1)) (e2 : decode bb 2 = .ok (.invokespecial ix, 3)) (e5 : decode bb 5 = .ok (.return_, 1)) (hnames : ∀ n ∈ names, Bundle.fit n = true)
    (hk : Cond.classLink own ik cls ∈ lkT) (hini : Cond.initialized cls ∈ lkT) (hstr : vk_R own is text sa s) (hat : ∀ w ∈ lk_at own ic cls sup ix bb names, w ∈ lkT) (hgood : ∀ w ∈ Cond.classLink own ik cls :: Cond.initialized cls :: lk_at own ic cls sup ix bb names, vx_ot w = true)
    (d0 : decode cc pc = .ok (.new ik, 3)) (d3 : decode cc (pc + 3) = .ok (.dup, 1)) (d4 : decode cc (pc + 4) = .ok (.ldc is, 2)) (d6 : decode cc (pc + 6) = .ok (.invokespecial ic, 3)) (d9 : decode cc (pc + 9) = .ok (.athrow, 1))
    (hRf : names.length + 4 < R.frames) (hRl : ((st.map (mcv X)).map fun v => v.category).sum + (13 * (names.length + 2) + 43) ≤ R.locals) (hRc : 1 ≤ R.cells) (hRs : 6 ≤ R.slots) (hJ : J cls h) : mG X p l e R s m args below meth c nL (lkMQ X K J below args s) pc lo st h := by
  intro H locs ls hs hl hh hP hS hv
  obtain ⟨hx, hb, hml, hown, hts, hK, hI, hNs, hT, hlk⟩ := C
  refine lk_throwS (A := mA X s.heap.size) hx hb hl0 hown hcls hsup e0 e1 e2 e5 hnames (hN.1.use _ hk) (hN.1.use _ hini) hstr (fun w hw => hN.1.use _ (hat w hw)) hgood hN.2.1 hN.2.2.1 hS (hv.1.trans hml.symm) d0 d3 d4 d6 d9 (fun x hx9 => (hno x hx9).elim) hRf hRl (by omega) (by omega) hlk (fun t hal hsz hkp => ?_) hS.2.2 (Nat.le_refl _) (Nat.le_refl _)
  refine ⟨⟨h, hJ, hh, hP.kept (fun k w hk9 => hkp _ (hP k w hk9).lt)⟩, Nat.le_trans hS.1 hsz, fun q h1 h2 => ?_⟩
  rw [hkp q (Nat.lt_of_lt_of_le h1 hS.1)]
  exact hS.2.1 q h1 h2
theorem gw_X13_141 {Q : State → Prop} (C : mC X p l e R s m args below meth c cc nL RX13) (hd : decode cc pc = .ok (.getfield 141, 3)) {o v : Int} (ho : (mxS X o).1 = 4) (hw : mxW X o 9 = v) (k : mG X p l e R s m args below meth c nL Q (pc + 3) lo ((2, v) :: st) h) : mG X p l e R s m args below meth c nL Q pc lo ((2, o) :: st) h := g_getwN C 4 9 rfl (by decide) rfl iX5 (by decide) (host := "PondReader") (mk_n1 163 rfl rfl) (by decide) hd ho hw k
end LKD
theorem dX13_look_0 : decode cX13_look 0 = .ok (.aload_n 0, 1) := by decide +kernel
theorem dX13_look_1 : decode cX13_look 1 = .ok (.getfield 36, 3) := by decide +kernel
theorem dX13_look_4 : decode cX13_look 4 = .ok (.getfield 86, 3) := by decide +kernel
theorem dX13_look_7 : decode cX13_look 7 = .ok (.getfield 104, 3) := by decide +kernel
theorem dX13_look_10 : decode cX13_look 10 = .ok (.iload_n 1, 1) := by decide +kernel
theorem dX13_look_11 : decode cX13_look 11 = .ok (.invokevirtual 123, 3) := by decide +kernel
theorem dX13_look_14 : decode cX13_look 14 = .ok (.ifCond .ne 13, 3) := by decide +kernel
theorem dX13_look_17 : decode cX13_look 17 = .ok (.new 127, 3) := by decide +kernel
theorem dX13_look_20 : decode cX13_look 20 = .ok (.dup, 1) := by decide +kernel
theorem dX13_look_21 : decode cX13_look 21 = .ok (.ldc 129, 2) := by decide +kernel
theorem dX13_look_23 : decode cX13_look 23 = .ok (.invokespecial 131, 3) := by decide +kernel
theorem dX13_look_26 : decode cX13_look 26 = .ok (.athrow, 1) := by decide +kernel
theorem dX13_look_27 : decode cX13_look 27 = .ok (.iload_n 2, 1) := by decide +kernel
theorem dX13_look_28 : decode cX13_look 28 = .ok (.ifCond .ne 18, 3) := by decide +kernel
theorem dX13_look_31 : decode cX13_look 31 = .ok (.aload_n 0, 1) := by decide +kernel
theorem dX13_look_32 : decode cX13_look 32 = .ok (.getfield 36, 3) := by decide +kernel
theorem dX13_look_35 : decode cX13_look 35 = .ok (.getfield 86, 3) := by decide +kernel
theorem dX13_look_38 : decode cX13_look 38 = .ok (.iload_n 1, 1) := by decide +kernel
theorem dX13_look_39 : decode cX13_look 39 = .ok (.invokevirtual 134, 3) := by decide +kernel
theorem dX13_look_42 : decode cX13_look 42 = .ok (.getfield 138, 3) := by decide +kernel
theorem dX13_look_45 : decode cX13_look 45 = .ok (.ireturn, 1) := by decide +kernel
theorem dX13_look_46 : decode cX13_look 46 = .ok (.iload_n 2, 1) := by decide +kernel
theorem dX13_look_47 : decode cX13_look 47 = .ok (.iconst 1, 1) := by decide +kernel
theorem dX13_look_48 : decode cX13_look 48 = .ok (.if_icmp .ne 18, 3) := by decide +kernel
theorem dX13_look_51 : decode cX13_look 51 = .ok (.aload_n 0, 1) := by decide +kernel
theorem dX13_look_52 : decode cX13_look 52 = .ok (.getfield 36, 3) := by decide +kernel
theorem dX13_look_55 : decode cX13_look 55 = .ok (.getfield 86, 3) := by decide +kernel
theorem dX13_look_58 : decode cX13_look 58 = .ok (.getfield 141, 3) := by decide +kernel
theorem dX13_look_61 : decode cX13_look 61 = .ok (.iload_n 1, 1) := by decide +kernel
theorem dX13_look_62 : decode cX13_look 62 = .ok (.invokevirtual 144, 3) := by decide +kernel
theorem dX13_look_65 : decode cX13_look 65 = .ok (.ireturn, 1) := by decide +kernel
theorem dX13_look_66 : decode cX13_look 66 = .ok (.new 147, 3) := by decide +kernel
theorem dX13_look_69 : decode cX13_look 69 = .ok (.dup, 1) := by decide +kernel
theorem dX13_look_70 : decode cX13_look 70 = .ok (.ldc 149, 2) := by decide +kernel
theorem dX13_look_72 : decode cX13_look 72 = .ok (.invokespecial 151, 3) := by decide +kernel
theorem dX13_look_75 : decode cX13_look 75 = .ok (.athrow, 1) := by decide +kernel
theorem kl_1512 : Cond.methodLink RX13 134 yX5_risesOf ∈ mtb := mk_s6 190 rfl rfl
def wp_X13_look (p1 p2 : Int) (h : Mh) (K : Int → Mh → Prop) (J : String → Mh → Prop) : Prop := ((shC (h 53 0)).1 = 4) ∧ wp_X7_has ((h 53 0) + 12) p1 h (fun x1 h1 => if ¬ x1 = 0 then (if ¬ p2 = 0 then (if ¬ p2 = 1 then J nNS h1 else ((shC (h1 53 0)).1 = 4) ∧ wp_X7_orZero shC ((h1 53 0) + 23) p1 h1 K) else ((shC (h1 53 0)).1 = 4) ∧ wp_X5_risesOf shC (h1 53 0) p1 h1 (fun x2 h2 => ((shC x2).1 = 6) ∧ K (h2 x2 1) h2)) else J nIO h1)
theorem lk_at1 : ∀ w ∈ lk_at RX13 131 nIO nRT 7 prog_21_method_2_code ["java/lang/Exception"], w ∈ lkT := fun w hw => List.mem_append_left _ hw
theorem lk_at2 : ∀ w ∈ lk_at RX13 151 nNS nRT 13 prog_29_method_4_code ["java/lang/Exception"], w ∈ lkT := fun w hw => List.mem_append_right _ (List.mem_append_left _ hw)
theorem lk_t1 : Cond.classLink RX13 127 nIO ∈ lkT := List.mem_append_right _ (List.mem_append_right _ (by simp))
theorem lk_t2 : Cond.initialized nIO ∈ lkT := List.mem_append_right _ (List.mem_append_right _ (by simp))
theorem lk_t3 : Cond.classLink RX13 147 nNS ∈ lkT := List.mem_append_right _ (List.mem_append_right _ (by simp))
theorem lk_t4 : Cond.initialized nNS ∈ lkT := List.mem_append_right _ (List.mem_append_right _ (by simp))
theorem lk_g1 : ∀ w ∈ Cond.classLink RX13 127 nIO :: Cond.initialized nIO :: lk_at RX13 131 nIO nRT 7 prog_21_method_2_code ["java/lang/Exception"], vx_ot w = true := by decide +kernel
theorem lk_g2 : ∀ w ∈ Cond.classLink RX13 147 nNS :: Cond.initialized nNS :: lk_at RX13 151 nNS nRT 13 prog_29_method_4_code ["java/lang/Exception"], vx_ot w = true := by decide +kernel
set_option maxRecDepth 20000 in
set_option maxHeartbeats 4000000 in
theorem sim_X13_look {z : Mz} {l : Launch} (hl0 : l.stackTraces = false) {p1 p2 : Int} {h : Mh} {K : Int → Mh → Prop} {J : String → Mh → Prop} (hw : wp_X13_look p1 p2 h K J) (sz : Nat) :
    vx_Met l yX13_look (Cond.code yX13_look cX13_look 3 (some .int) :: mtb) { frames := 6, cells := 1, slots := 6, locals := 120 } (lkP (XC z) [(2, 0), (0, p1), (0, p2)] h sz) (mQc (XC z) (mKi K) (mA (XC z) sz)) (lkX (XC z) J (mA (XC z) sz)) 1 6 (mA (XC z) sz) := by
  refine vx_ofW (cc := cX13_look) (maxL := 3) (ret := some .int) (by decide) rfl ?_
  intro p e s m args below meth c s₁ B hml hno hv0
  obtain ⟨⟨rfl, hsz, hP, hK, hh, hav, hN, hT, hI⟩, hLS⟩ := hv0
  subst hsz
  have hts := atoms_spec (ws := Cond.code yX13_look cX13_look 3 (some .int) :: mtb) B.pre
  have C : mC (XC z) p l e { frames := 6, cells := 1, slots := 6, locals := 120 } s m ([(2, 0), (0, p1), (0, p2)].map (mcv (XC z))).toArray below meth c cX13_look 3 RX13 := ⟨B.exec, B.bytes, hml, findClass_of_methodNamed B.named, fun w hw => hts w (List.mem_cons_of_mem _ hw), hK, hI, hN, hT, B.notSynchronized⟩
  have hr : meth.sig.returnType = some .int := B.returns
  have hl := lv_entry ([(2, 0), (0, p1), (0, p2)].map (mcv (XC z))) (n := 3) (by rw [mwords_sl]; exact Nat.le_of_ble_eq_true rfl)
  rw [lg_entry_eq]
  rw [largs_eq] at hl
  suffices k : mG (XC z) p l e { frames := 6, cells := 1, slots := 6, locals := 120 } s m ([(2, 0), (0, p1), (0, p2)].map (mcv (XC z))).toArray below meth c 3 (lkMQ (XC z) (mKi K) J below ([(2, 0), (0, p1), (0, p2)].map (mcv (XC z))).toArray s) 0 [(0, (2, 0)), (1, (0, p1)), (2, (0, p2))] [] h from
    k s.heap [] _ (fun v hv => by cases hv) (fun q hq => hav _ (largs_in [(2, 0), (0, p1), (0, p2)] 0 q hq)) hh hP va_S.rf hl
  clear hl
  unfold wp_X13_look at hw
  obtain ⟨q1, hw⟩ := hw
  obtain ⟨a1, ha1⟩ := hLS.2.2.2.1
  obtain ⟨a2, ha2⟩ := hLS.2.2.2.2.1
  refine g_aload_n C dX13_look_0 rfl (by decide) rfl ?_
  refine gw_X13_36 C dX13_look_1 kdC_0 wwC_0_4 ?_
  refine gf_X13_86 C dX13_look_4 kdC_53 (fun z4 => ?_)
  refine gw_X13_104 C dX13_look_7 q1 (wir_4_7 wirC q1) ?_
  refine g_iload_n C dX13_look_10 rfl rfl ?_
  refine g_callVz C [(0, p1)] (sim_X7_has wirC (kid_4_7 wirC q1) hw) k_1113 k_1114 k_1115 k_136 k_1116 hdV_X7_has rfl rfl (by decide) rfl (kid_4_7 wirC q1) rfl rfl rfl dX13_look_11 ?_
  intro x1 h1 zb hw
  refine g_if_ne C 27 dX13_look_14 rfl hw (fun hw => ?_) (fun hw => ?_)
  · refine g_iload_n C dX13_look_27 rfl rfl ?_
    refine g_if_ne C 46 dX13_look_28 rfl hw (fun hw => ?_) (fun hw => ?_)
    · refine g_iload_n C dX13_look_46 rfl rfl ?_
      refine g_iconst C ⟨by decide, by decide⟩ dX13_look_47 ?_
      refine g_icmp_ne C 66 dX13_look_48 rfl hw (fun hw => ?_) (fun hw => ?_)
      · exact gx_throw C hl0 hLS hno (by decide) (by decide) (by decide +kernel) (by decide +kernel) (by decide +kernel) (by decide +kernel) (by decide) lk_t3 lk_t4 ha2 lk_at2 lk_g2 dX13_look_66 dX13_look_69 dX13_look_70 dX13_look_72 dX13_look_75 (by decide) (Nat.le_of_ble_eq_true rfl) (by decide) (by decide) hw
      · obtain ⟨q2, hw⟩ := hw
        refine g_aload_n C dX13_look_51 rfl (by decide) rfl ?_
        refine gw_X13_36 C dX13_look_52 kdC_0 wwC_0_4 ?_
        refine gf_X13_86 C dX13_look_55 kdC_53 (fun z5 => ?_)
        refine gw_X13_141 C dX13_look_58 q2 (wir_4_9 wirC q2) ?_
        refine g_iload_n C dX13_look_61 rfl rfl ?_
        refine g_callVi C [(0, p1)] (sim_X7_orZero wirC (kid_4_9 wirC q2) hw) k_1117 k_1080 k_1081 k_136 k_1082 hdV_X7_orZero rfl rfl (by decide) rfl (kid_4_9 wirC q2) rfl rfl rfl dX13_look_62 ?_
        intro x2 h2 hw
        exact gx_iret C hr dX13_look_65 ⟨_, rfl, hw⟩
    · obtain ⟨q2, hw⟩ := hw
      refine g_aload_n C dX13_look_31 rfl (by decide) rfl ?_
      refine gw_X13_36 C dX13_look_32 kdC_0 wwC_0_4 ?_
      refine gf_X13_86 C dX13_look_35 kdC_53 (fun z5 => ?_)
      refine g_iload_n C dX13_look_38 rfl rfl ?_
      refine g_callVr C [(0, p1)] (sim_X5_risesOf wirC q2 hw) kl_1512 k_847 k_848 k_135 k_849 hdV_X5_risesOf rfl rfl (by decide) rfl q2 rfl rfl rfl dX13_look_39 ?_
      intro x2 h2 hw
      obtain ⟨q3, hw⟩ := hw
      refine gf_X13_138 C dX13_look_42 q3 (fun z6 => ?_)
      exact gx_iret C hr dX13_look_45 ⟨_, rfl, hw⟩
  · exact gx_throw C hl0 hLS hno (by decide) (by decide) (by decide +kernel) (by decide +kernel) (by decide +kernel) (by decide +kernel) (by decide) lk_t1 lk_t2 ha1 lk_at1 lk_g1 dX13_look_17 dX13_look_20 dX13_look_21 dX13_look_23 dX13_look_26 (by decide) (Nat.le_of_ble_eq_true rfl) (by decide) (by decide) hw
/-! ===== what look answers ===== -/
def lkk (r : Mh) (a b : Int) : Int := if a < 0 then 1 else if r 0 14 ≤ a then 1 else if b = 0 then 0 else if b = 1 then 0 else 2
def lkv (r : Mh) (a b : Int) : Int := if b = 0 then r 10 a else r 11 a
theorem op_lookC {q r : Mh} (a b : Int) (h : Rel q r) : wp_X13_look a b q (fun x q' => q' = q ∧ lkk r a b = 0 ∧ x = lkv r a b) (fun E q' => q' = q ∧ (E = nIO ∧ lkk r a b = 1 ∨ E = nNS ∧ lkk r a b = 2)) := by
  have hP := h.1.2.2.1
  have hd := hP.1
  have hKn := hP.2.2.1
  have h4 := hKn.2.1
  have hp := hd.1
  have sp : (shC (q 53 0)).1 = 4 := by rcases hp with e | e <;> rw [e] <;> rfl
  have e14 : ((shC (q 53 0 + 14)).2 : Int) = 4 := by rcases hp with e | e <;> rw [e] <;> rfl
  have e24 : ((shC (q 53 0 + 23 + 1)).2 : Int) = 4 := by rcases hp with e | e <;> rw [e] <;> rfl
  have sk : ∀ k : Int, 0 ≤ k → k < 4 → (shC (q 53 0 + 14 + 1 + 2 * k)).1 = 6 := by
    intro k k0 k4
    have : k = 0 ∨ k = 1 ∨ k = 2 ∨ k = 3 := by omega
    rcases this with t | t | t | t <;> rcases hp with e | e <;> rw [e, t] <;> rfl
  have ek := hKn.1.1
  have eo := hKn.2.2.1.1
  unfold wp_X13_look wp_X7_has
  refine ⟨sp, ?_⟩
  rw [ek]
  by_cases c0 : a < 0
  · rw [if_pos c0]
    refine ⟨rfl, Or.inl ⟨rfl, ?_⟩⟩
    unfold lkk; rw [if_pos c0]
  rw [if_neg c0]
  by_cases c1 : r 0 14 ≤ a
  · rw [if_pos c1]
    refine ⟨rfl, Or.inl ⟨rfl, ?_⟩⟩
    unfold lkk; rw [if_neg c0, if_pos c1]
  rw [if_neg c1]
  have hk := hKn.2.2.2 a (by omega) (by omega)
  show (if ¬ (1 : Int) = 0 then _ else _)
  rw [if_pos (by decide)]
  by_cases b0 : b = 0
  · rw [if_neg (fun y => y b0)]
    refine ⟨sp, ?_⟩
    unfold wp_X5_risesOf
    rw [e14, if_neg c0, if_neg (by omega)]
    refine ⟨⟨by omega, by omega⟩, sk a (by omega) (by omega), rfl, ?_, ?_⟩
    · unfold lkk; rw [if_neg c0, if_neg c1, if_pos b0]
    · unfold lkv; rw [if_pos b0]
      have := hk.2.2.2.1
      rw [show q 53 0 + 14 + 1 + 2 * a = q 53 0 + 15 + 2 * a by omega]
      exact this
  · rw [if_pos b0]
    by_cases b1 : b = 1
    · rw [if_neg (fun y => y b1)]
      refine ⟨sp, ?_⟩
      unfold wp_X7_orZero
      rw [eo, e24, if_neg c0, if_neg c1, if_neg (by omega)]
      refine ⟨⟨by omega, by omega⟩, rfl, ?_, ?_⟩
      · unfold lkk; rw [if_neg c0, if_neg c1, if_neg b0, if_pos b1]
      · unfold lkv; rw [if_neg b0]
        have := hKn.2.2.1.2.2 a (by omega) (by omega)
        rw [this, Int.zero_add]
    · rw [if_pos b1]
      refine ⟨rfl, Or.inr ⟨rfl, ?_⟩⟩
      unfold lkk; rw [if_neg c0, if_neg c1, if_neg b0, if_neg b1]
theorem op_lookR {q r : Mh} (a b : Int) (h : Rel q r) : wp_X14_look a b r (fun y r' => Rel q r' ∧ r' 0 2 = lkk r a b ∧ (lkk r a b = 0 → y = lkv r a b)) := by
  have h4 := h.1.2.2.1.2.2.1.2.1
  have e14 : up r 0 2 0 0 14 = r 0 14 := up_slot (by decide)
  have e10 : up r 0 2 0 10 = r 10 := up_other (by decide)
  have e11 : up r 0 2 0 11 = r 11 := up_other (by decide)
  have hth : ∀ v, Rel q (up (up r 0 2 0) 0 2 v) := fun v => h.thrown (fun o j _ h2 => by
    rw [up_ne _ (fun y => h2 ⟨y.1, Or.inl y.2⟩), up_ne _ (fun y => h2 ⟨y.1, Or.inl y.2⟩)])
  unfold wp_X14_look wp_X14_isKind wp_X14_fails
  intro h1 e1
  subst e1
  rw [e14]
  by_cases c0 : a < 0
  · rw [if_pos c0]
    show (if ¬ (0 : Int) = 0 then _ else _)
    rw [if_neg (by decide)]
    intro h2 e2; subst e2
    have e : lkk r a b = 1 := by unfold lkk; rw [if_pos c0]
    rw [e]
    exact ⟨hth 1, up_same _ _ _ _, fun y => by omega⟩
  rw [if_neg c0]
  by_cases c1 : r 0 14 ≤ a
  · rw [if_pos c1]
    show (if ¬ (0 : Int) = 0 then _ else _)
    rw [if_neg (by decide)]
    intro h2 e2; subst e2
    have e : lkk r a b = 1 := by unfold lkk; rw [if_neg c0, if_pos c1]
    rw [e]
    exact ⟨hth 1, up_same _ _ _ _, fun y => by omega⟩
  rw [if_neg c1]
  show (if ¬ (1 : Int) = 0 then _ else _)
  rw [if_pos (by decide)]
  by_cases b0 : b = 0
  · rw [if_neg (fun y => y b0)]
    have e : lkk r a b = 0 := by unfold lkk; rw [if_neg c0, if_neg c1, if_pos b0]
    rw [e]
    refine ⟨⟨by omega, by omega⟩, h.up2, up_same _ _ _ _, fun _ => ?_⟩
    show up r 0 2 0 10 a = lkv r a b
    rw [e10]; unfold lkv; rw [if_pos b0]
  · rw [if_pos b0]
    by_cases b1 : b = 1
    · rw [if_neg (fun y => y b1)]
      have e : lkk r a b = 0 := by unfold lkk; rw [if_neg c0, if_neg c1, if_neg b0, if_pos b1]
      rw [e]
      refine ⟨⟨by omega, by omega⟩, h.up2, up_same _ _ _ _, fun _ => ?_⟩
      show up r 0 2 0 11 a = lkv r a b
      rw [e11]; unfold lkv; rw [if_neg b0]
    · rw [if_pos b1]
      intro h2 e2; subst e2
      have e : lkk r a b = 2 := by unfold lkk; rw [if_neg c0, if_neg c1, if_neg b0, if_neg b1]
      rw [e]
      exact ⟨hth 2, up_same _ _ _ _, fun y => by omega⟩
