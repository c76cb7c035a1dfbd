set_option maxRecDepth 20000 in
set_option maxHeartbeats 4000000 in
theorem sim_X2_markTeller {z : Mz} {l : Launch} {p1 : Int} {h : Mh} {K : Mh → Prop} (hw : wp_X2_markTeller p1 h K) : mCal (XC z) l yX2_markTeller cX2_markTeller 4 none 1 23 [(2, 127), (0, p1)] h (mKv K) := by
  refine m_entry RX2 rfl (by decide) rfl (fun p e s m args below meth c C hr => ?_)
  have hQ : ∀ x, Lfp (F_X2_markTeller p1 K) x → (match x.1, x.2.1 with | 2, [v2] => mG (XC z) p l e { frames := 1, cells := 0, slots := 0, locals := 23 } s m args below meth c 4 (mMQ (XC z) (mKv K) below args s) 2 [(2, (0, v2)), (0, (2, 127)), (1, (0, p1))] [] x.2.2 | 15, [v2, v3] => mG (XC z) p l e { frames := 1, cells := 0, slots := 0, locals := 23 } s m args below meth c 4 (mMQ (XC z) (mKv K) below args s) 15 [(2, (0, v2)), (3, (0, v3)), (0, (2, 127)), (1, (0, p1))] [] x.2.2 | _, _ => True) := by
    intro x hx
    refine Lfp.ind (fun x => (match x.1, x.2.1 with | 2, [v2] => mG (XC z) p l e { frames := 1, cells := 0, slots := 0, locals := 23 } s m args below meth c 4 (mMQ (XC z) (mKv K) below args s) 2 [(2, (0, v2)), (0, (2, 127)), (1, (0, p1))] [] x.2.2 | 15, [v2, v3] => mG (XC z) p l e { frames := 1, cells := 0, slots := 0, locals := 23 } s m args below meth c 4 (mMQ (XC z) (mKv K) below args s) 15 [(2, (0, v2)), (3, (0, v3)), (0, (2, 127)), (1, (0, p1))] [] x.2.2 | _, _ => True)) ?_ hx
    clear hx x
    intro Z x hQ hw
    rcases hw with ⟨v2, h, rfl, hw⟩ | ⟨v2, v3, h, rfl, hw⟩
    · show mG (XC z) p l e { frames := 1, cells := 0, slots := 0, locals := 23 } s m args below meth c 4 (mMQ (XC z) (mKv K) below args s) 2 [(2, (0, v2)), (0, (2, 127)), (1, (0, p1))] [] h
      unfold B_X2_markTeller_2 at hw
      refine g_iload_n C dX2_markTeller_2 rfl rfl ?_
      refine g_aload_n C dX2_markTeller_3 rfl (by decide) rfl ?_
      refine gw_X2_30 C dX2_markTeller_4 kdC_127 wwC_127_7 ?_
      refine gf_X2_148 C dX2_markTeller_7 kdC_138 (fun z7 => ?_)
      refine g_icmp_ge C 56 dX2_markTeller_10 rfl hw (fun hw => ?_) (fun hw => ?_)
      · exact g_vret C hr dX2_markTeller_56 ⟨rfl, hw⟩
      · refine g_iconst C ⟨by decide, by decide⟩ dX2_markTeller_13 ?_
        refine g_istore_n C dX2_markTeller_14 rfl (by decide) ?_
        exact g_sub [2, 3, 0, 1] rfl (hQ _ hw)
    · show mG (XC z) p l e { frames := 1, cells := 0, slots := 0, locals := 23 } s m args below meth c 4 (mMQ (XC z) (mKv K) below args s) 15 [(2, (0, v2)), (3, (0, v3)), (0, (2, 127)), (1, (0, p1))] [] h
      unfold B_X2_markTeller_15 at hw
      refine g_iload_n C dX2_markTeller_15 rfl rfl ?_
      refine g_iload_n C dX2_markTeller_16 rfl rfl ?_
      refine g_icmp_ge C 50 dX2_markTeller_17 rfl hw (fun hw => ?_) (fun hw => ?_)
      · refine g_iincN C dX2_markTeller_50 rfl (by decide) (fun x1 ex1 => ?_)
        replace hw := hw x1 ex1
        refine g_goto C 2 dX2_markTeller_53 rfl ?_
        exact g_sub [2, 0, 1] rfl (hQ _ hw)
      · refine g_aload_n C dX2_markTeller_20 rfl (by decide) rfl ?_
        refine g_iload_n C dX2_markTeller_21 rfl rfl ?_
        refine g_iload_n C dX2_markTeller_22 rfl rfl ?_
        refine g_callVz C [(0, v2), (0, v3)] (sim_X2_rowsDiffer hw) k_1368 k_1370 k_62 k_146 k_1371 hdV_X2_rowsDiffer rfl rfl (by decide) rfl kdC_127 rfl rfl rfl dX2_markTeller_23 ?_
        intro x2 h1 zb23 hw
        refine g_if_eq C 44 dX2_markTeller_26 rfl hw (fun hw => ?_) (fun hw => ?_)
        · refine g_iincN C dX2_markTeller_44 rfl (by decide) (fun x3 ex3 => ?_)
          replace hw := hw x3 ex3
          refine g_goto C 15 dX2_markTeller_47 rfl ?_
          exact g_sub [2, 3, 0, 1] rfl (hQ _ hw)
        · refine g_aload_n C dX2_markTeller_29 rfl (by decide) rfl ?_
          refine gw_X2_27 C dX2_markTeller_30 kdC_127 wwC_127_6 ?_
          refine g_iload_n C dX2_markTeller_33 rfl rfl ?_
          refine g_bipush C ⟨by decide, by decide⟩ (by decide) dX2_markTeller_34 ?_
          refine g_imul C dX2_markTeller_36 ?_
          refine g_iload_n C dX2_markTeller_37 rfl rfl ?_
          refine g_iadd C dX2_markTeller_38 ?_
          refine g_dup2 C (by show ¬ (0 : Nat) = 1; decide) (by show ¬ (2 : Nat) = 1; decide) dX2_markTeller_39 ?_
          obtain ⟨⟨b1, b1b⟩, hw⟩ := hw
          refine g_iaload C dX2_markTeller_40 kdC_137 b1 b1b (fun z40 => ?_)
          refine g_iload_n C dX2_markTeller_41 rfl rfl ?_
          refine g_ior C dX2_markTeller_42 ?_
          obtain ⟨⟨b2, b2b⟩, hw⟩ := hw
          refine g_iastore C dX2_markTeller_43 kdC_137 b2 b2b (fun z => z) ?_
          refine g_heap (fun h2 eh2 => ?_)
          replace hw := hw h2 eh2
          refine g_iincN C dX2_markTeller_44 rfl (by decide) (fun x4 ex4 => ?_)
          replace hw := hw x4 ex4
          refine g_goto C 15 dX2_markTeller_47 rfl ?_
          exact g_sub [2, 3, 0, 1] rfl (hQ _ hw)
  show mG _ p l e _ s m args below meth c _ _ 0 [(0, (2, 127)), (1, (0, p1))] [] h
  unfold wp_X2_markTeller at hw
  refine g_iconst C ⟨by decide, by decide⟩ dX2_markTeller_0 ?_
  refine g_istore_n C dX2_markTeller_1 rfl (by decide) ?_
  exact g_sub [2, 0, 1] rfl (hQ _ hw)
set_option maxRecDepth 20000 in
set_option maxHeartbeats 4000000 in
theorem sim_X6_farOf {z : Mz} {l : Launch} {p1 : Int} {p2 : Int} {h : Mh} {K : Int → Mh → Prop} (hw : wp_X6_farOf p1 p2 h K) : mCal (XC z) l yX6_farOf cX6_farOf 4 (some Jvm.ClassFile.FieldType.int) 0 0 [(2, 115), (0, p1), (0, p2)] h (mKi K) := by
  refine m_entry RX6 rfl (by decide) rfl (fun p e s m args below meth c C hr => ?_)
  have hQ : ∀ x, Lfp (F_X6_farOf p1 p2 K) x → (match x.1, x.2.1 with | 24, [] => mG (XC z) p l e { frames := 0, cells := 0, slots := 0, locals := 0 } s m args below meth c 4 (mMQ (XC z) (mKi K) below args s) 24 [(0, (2, 115)), (1, (0, p1)), (2, (0, p2))] [] x.2.2 | _, _ => True) := by
    intro x hx
    refine Lfp.ind (fun x => (match x.1, x.2.1 with | 24, [] => mG (XC z) p l e { frames := 0, cells := 0, slots := 0, locals := 0 } s m args below meth c 4 (mMQ (XC z) (mKi K) below args s) 24 [(0, (2, 115)), (1, (0, p1)), (2, (0, p2))] [] x.2.2 | _, _ => True)) ?_ hx
    clear hx x
    intro Z x hQ hw
    rcases hw with ⟨h, rfl, hw⟩
    · show mG (XC z) p l e { frames := 0, cells := 0, slots := 0, locals := 0 } s m args below meth c 4 (mMQ (XC z) (mKi K) below args s) 24 [(0, (2, 115)), (1, (0, p1)), (2, (0, p2))] [] h
      unfold B_X6_farOf_24 at hw
      refine g_iconst C ⟨by decide, by decide⟩ dX6_farOf_24 ?_
      refine g_istore_n C dX6_farOf_25 rfl (by decide) ?_
      refine g_iload_n C dX6_farOf_26 rfl rfl ?_
      refine g_if_eq C 44 dX6_farOf_27 rfl hw (fun hw => ?_) (fun hw => ?_)
      · refine g_bipush C ⟨by decide, by decide⟩ (by decide) dX6_farOf_44 ?_
        exact g_iret C hr dX6_farOf_46 ⟨_, rfl, hw⟩
      · refine g_aload_n C dX6_farOf_30 rfl (by decide) rfl ?_
        refine gw_X6_15 C dX6_farOf_31 kdC_115 wwC_115_2 ?_
        refine g_iload_n C dX6_farOf_34 rfl rfl ?_
        refine g_bipush C ⟨by decide, by decide⟩ (by decide) dX6_farOf_35 ?_
        refine g_imul C dX6_farOf_37 ?_
        refine g_iload_n C dX6_farOf_38 rfl rfl ?_
        refine g_iadd C dX6_farOf_39 ?_
        obtain ⟨⟨b2, b2b⟩, hw⟩ := hw
        refine g_iaload C dX6_farOf_40 kdC_117 b2 b2b (fun z40 => ?_)
        refine g_goto C 46 dX6_farOf_41 rfl ?_
        exact g_iret C hr dX6_farOf_46 ⟨_, rfl, hw⟩
  show mG _ p l e _ s m args below meth c _ _ 0 [(0, (2, 115)), (1, (0, p1)), (2, (0, p2))] [] h
  unfold wp_X6_farOf at hw
  refine g_iload_n C dX6_farOf_0 rfl rfl ?_
  refine g_if_lt C 24 dX6_farOf_1 rfl hw (fun hw => ?_) (fun hw => ?_)
  · exact g_sub [0, 1, 2] rfl (hQ _ hw)
  · refine g_iload_n C dX6_farOf_4 rfl rfl ?_
    refine g_bipush C ⟨by decide, by decide⟩ (by decide) dX6_farOf_5 ?_
    refine g_icmp_ge C 24 dX6_farOf_7 rfl hw (fun hw => ?_) (fun hw => ?_)
    · exact g_sub [0, 1, 2] rfl (hQ _ hw)
    · refine g_iload_n C dX6_farOf_10 rfl rfl ?_
      refine g_if_lt C 24 dX6_farOf_11 rfl hw (fun hw => ?_) (fun hw => ?_)
      · exact g_sub [0, 1, 2] rfl (hQ _ hw)
      · refine g_iload_n C dX6_farOf_14 rfl rfl ?_
        refine g_bipush C ⟨by decide, by decide⟩ (by decide) dX6_farOf_15 ?_
        refine g_icmp_ge C 24 dX6_farOf_17 rfl hw (fun hw => ?_) (fun hw => ?_)
        · exact g_sub [0, 1, 2] rfl (hQ _ hw)
        · refine g_iconst C ⟨by decide, by decide⟩ dX6_farOf_20 ?_
          refine g_goto C 25 dX6_farOf_21 rfl ?_
          refine g_istore_n C dX6_farOf_25 rfl (by decide) ?_
          refine g_iload_n C dX6_farOf_26 rfl rfl ?_
          refine g_if_eq C 44 dX6_farOf_27 rfl hw (fun hw => ?_) (fun hw => ?_)
          · refine g_bipush C ⟨by decide, by decide⟩ (by decide) dX6_farOf_44 ?_
            exact g_iret C hr dX6_farOf_46 ⟨_, rfl, hw⟩
          · refine g_aload_n C dX6_farOf_30 rfl (by decide) rfl ?_
            refine gw_X6_15 C dX6_farOf_31 kdC_115 wwC_115_2 ?_
            refine g_iload_n C dX6_farOf_34 rfl rfl ?_
            refine g_bipush C ⟨by decide, by decide⟩ (by decide) dX6_farOf_35 ?_
            refine g_imul C dX6_farOf_37 ?_
            refine g_iload_n C dX6_farOf_38 rfl rfl ?_
            refine g_iadd C dX6_farOf_39 ?_
            obtain ⟨⟨b1, b1b⟩, hw⟩ := hw
            refine g_iaload C dX6_farOf_40 kdC_117 b1 b1b (fun z40 => ?_)
            refine g_goto C 46 dX6_farOf_41 rfl ?_
            exact g_iret C hr dX6_farOf_46 ⟨_, rfl, hw⟩
set_option maxRecDepth 20000 in
set_option maxHeartbeats 4000000 in
theorem sim_X6_farBy {z : Mz} {l : Launch} {p1 : Int} {p2 : Int} {p3 : Int} {h : Mh} {K : Int → Mh → Prop} (hw : wp_X6_farBy p1 p2 p3 h K) : mCal (XC z) l yX6_farBy cX6_farBy 6 (some Jvm.ClassFile.FieldType.int) 1 23 [(2, 115), (0, p1), (0, p2), (0, p3)] h (mKi K) := by
  refine m_entry RX6 rfl (by decide) rfl (fun p e s m args below meth c C hr => ?_)
  show mG _ p l e _ s m args below meth c _ _ 0 [(0, (2, 115)), (1, (0, p1)), (2, (0, p2)), (3, (0, p3))] [] h
  unfold wp_X6_farBy at hw
  refine g_aload_n C dX6_farBy_0 rfl (by decide) rfl ?_
  refine g_iload_n C dX6_farBy_1 rfl rfl ?_
  refine g_iload_n C dX6_farBy_2 rfl rfl ?_
  refine g_callVi C [(0, p1), (0, p2)] (sim_X6_farOf hw) k_1088 k_1049 k_1050 k_144 k_1051 hdV_X6_farOf rfl rfl (by decide) rfl kdC_115 rfl rfl rfl dX6_farBy_3 ?_
  intro x1 h1 hw
  refine g_istore C dX6_farBy_6 (by decide) ?_
  refine g_aload_n C dX6_farBy_8 rfl (by decide) rfl ?_
  refine g_iload_n C dX6_farBy_9 rfl rfl ?_
  refine g_iload_n C dX6_farBy_10 rfl rfl ?_
  refine g_callVi C [(0, p2), (0, p3)] (sim_X6_farOf hw) k_1088 k_1049 k_1050 k_144 k_1051 hdV_X6_farOf rfl rfl (by decide) rfl kdC_115 rfl rfl rfl dX6_farBy_11 ?_
  intro x2 h2 hw
  refine g_istore C dX6_farBy_14 (by decide) ?_
  refine g_iload C dX6_farBy_16 rfl ?_
  refine g_if_lt C 26 dX6_farBy_18 rfl hw (fun hw => ?_) (fun hw => ?_)
  · refine g_bipush C ⟨by decide, by decide⟩ (by decide) dX6_farBy_26 ?_
    refine g_goto C 36 dX6_farBy_28 rfl ?_
    exact g_iret C hr dX6_farBy_36 ⟨_, rfl, hw⟩
  · refine g_iload C dX6_farBy_21 rfl ?_
    refine g_if_ge C 31 dX6_farBy_23 rfl hw (fun hw => ?_) (fun hw => ?_)
    · refine g_iload C dX6_farBy_31 rfl ?_
      refine g_iload C dX6_farBy_33 rfl ?_
      refine g_iadd C dX6_farBy_35 ?_
      exact g_iret C hr dX6_farBy_36 ⟨_, rfl, hw⟩
    · refine g_bipush C ⟨by decide, by decide⟩ (by decide) dX6_farBy_26 ?_
      refine g_goto C 36 dX6_farBy_28 rfl ?_
      exact g_iret C hr dX6_farBy_36 ⟨_, rfl, hw⟩
set_option maxRecDepth 20000 in
set_option maxHeartbeats 4000000 in
theorem sim_X6_partOf {z : Mz} {l : Launch} {p1 : Int} {p2 : Int} {p3 : Int} {h : Mh} {K : Int → Mh → Prop} (hw : wp_X6_partOf p1 p2 p3 h K) : mCal (XC z) l yX6_partOf cX6_partOf 5 (some Jvm.ClassFile.FieldType.int) 0 0 [(2, 115), (0, p1), (0, p2), (0, p3)] h (mKi K) := by
  refine m_entry RX6 rfl (by decide) rfl (fun p e s m args below meth c C hr => ?_)
  show mG _ p l e _ s m args below meth c _ _ 0 [(0, (2, 115)), (1, (0, p1)), (2, (0, p2)), (3, (0, p3))] [] h
  unfold wp_X6_partOf at hw
  refine g_iload_n C dX6_partOf_0 rfl rfl ?_
  refine g_if_lt C 20 dX6_partOf_1 rfl hw (fun hw => ?_) (fun hw => ?_)
  · refine g_iconst C ⟨by decide, by decide⟩ dX6_partOf_20 ?_
    exact g_iret C hr dX6_partOf_21 ⟨_, rfl, hw⟩
  · refine g_iload_n C dX6_partOf_4 rfl rfl ?_
    refine g_bipush C ⟨by decide, by decide⟩ (by decide) dX6_partOf_5 ?_
    refine g_icmp_ge C 20 dX6_partOf_7 rfl hw (fun hw => ?_) (fun hw => ?_)
    · refine g_iconst C ⟨by decide, by decide⟩ dX6_partOf_20 ?_
      exact g_iret C hr dX6_partOf_21 ⟨_, rfl, hw⟩
    · refine g_iload_n C dX6_partOf_10 rfl rfl ?_
      refine g_if_lt C 20 dX6_partOf_11 rfl hw (fun hw => ?_) (fun hw => ?_)
      · refine g_iconst C ⟨by decide, by decide⟩ dX6_partOf_20 ?_
        exact g_iret C hr dX6_partOf_21 ⟨_, rfl, hw⟩
      · refine g_iload_n C dX6_partOf_14 rfl rfl ?_
        refine g_bipush C ⟨by decide, by decide⟩ (by decide) dX6_partOf_15 ?_
        refine g_icmp_lt C 22 dX6_partOf_17 rfl hw (fun hw => ?_) (fun hw => ?_)
        · refine g_bipush C ⟨by decide, by decide⟩ (by decide) dX6_partOf_22 ?_
          refine g_aload_n C dX6_partOf_24 rfl (by decide) rfl ?_
          refine gw_X6_18 C dX6_partOf_25 kdC_115 wwC_115_3 ?_
          refine g_iload_n C dX6_partOf_28 rfl rfl ?_
          refine g_bipush C ⟨by decide, by decide⟩ (by decide) dX6_partOf_29 ?_
          refine g_imul C dX6_partOf_31 ?_
          refine g_iload_n C dX6_partOf_32 rfl rfl ?_
          refine g_iadd C dX6_partOf_33 ?_
          obtain ⟨⟨b1, b1b⟩, hw⟩ := hw
          refine g_iaload C dX6_partOf_34 kdC_118 b1 b1b (fun z34 => ?_)
          refine g_isub C dX6_partOf_35 ?_
          refine g_topi (fun x1 ex1 => ?_)
          replace hw := hw x1 ex1
          refine g_istore C dX6_partOf_36 (by decide) ?_
          refine g_iload C dX6_partOf_38 rfl ?_
          refine g_if_le C 53 dX6_partOf_40 rfl hw (fun hw => ?_) (fun hw => ?_)
          · refine g_iconst C ⟨by decide, by decide⟩ dX6_partOf_53 ?_
            exact g_iret C hr dX6_partOf_54 ⟨_, rfl, hw⟩
          · refine g_iload_n C dX6_partOf_43 rfl rfl ?_
            refine g_iload C dX6_partOf_44 rfl ?_
            refine g_imul C dX6_partOf_46 ?_
            refine g_bipush C ⟨by decide, by decide⟩ (by decide) dX6_partOf_47 ?_
            refine g_idiv C (by decide) dX6_partOf_49 ?_
            refine g_goto C 54 dX6_partOf_50 rfl ?_
            exact g_iret C hr dX6_partOf_54 ⟨_, rfl, hw⟩
        · refine g_iconst C ⟨by decide, by decide⟩ dX6_partOf_20 ?_
          exact g_iret C hr dX6_partOf_21 ⟨_, rfl, hw⟩
set_option maxRecDepth 20000 in
set_option maxHeartbeats 4000000 in
theorem sim_X6_sentOf {z : Mz} {l : Launch} {p1 : Int} {p2 : Int} {p3 : Int} {h : Mh} {K : Int → Mh → Prop} (hw : wp_X6_sentOf p1 p2 p3 h K) : mCal (XC z) l yX6_sentOf cX6_sentOf 4 (some Jvm.ClassFile.FieldType.int) 1 24 [(2, 115), (0, p1), (0, p2), (0, p3)] h (mKi K) := by
  refine m_entry RX6 rfl (by decide) rfl (fun p e s m args below meth c C hr => ?_)
  show mG _ p l e _ s m args below meth c _ _ 0 [(0, (2, 115)), (1, (0, p1)), (2, (0, p2)), (3, (0, p3))] [] h
  unfold wp_X6_sentOf at hw
  refine g_aload_n C dX6_sentOf_0 rfl (by decide) rfl ?_
  refine g_iload_n C dX6_sentOf_1 rfl rfl ?_
  refine g_iload_n C dX6_sentOf_2 rfl rfl ?_
  refine g_iload_n C dX6_sentOf_3 rfl rfl ?_
  refine g_callVi C [(0, p1), (0, p2), (0, p3)] (sim_X6_partOf hw) k_1089 k_1091 k_42 k_144 k_1092 hdV_X6_partOf rfl rfl (by decide) rfl kdC_115 rfl rfl rfl dX6_sentOf_4 ?_
  intro x1 h1 hw
  refine g_aload_n C dX6_sentOf_7 rfl (by decide) rfl ?_
  refine gw_X6_39 C dX6_sentOf_8 kdC_115 wwC_115_0 ?_
  refine gf_X6_52 C dX6_sentOf_11 kdC_53 (fun z11 => ?_)
  obtain ⟨q1, hw⟩ := hw
  refine gf_X6_166 C dX6_sentOf_14 q1 (fun z14 => ?_)
  refine g_imul C dX6_sentOf_17 ?_
  refine g_bipush C ⟨by decide, by decide⟩ (by decide) dX6_sentOf_18 ?_
  refine g_idiv C (by decide) dX6_sentOf_20 ?_
  exact g_iret C hr dX6_sentOf_21 ⟨_, rfl, hw⟩
set_option maxRecDepth 20000 in
set_option maxHeartbeats 4000000 in
theorem sim_X6_alone {z : Mz} {l : Launch} {p1 : Int} {p2 : Int} {p3 : Int} {p4 : Int} {p5 : Int} {h : Mh} {K : Int → Mh → Prop} (hw : wp_X6_alone p1 p2 p3 p4 p5 h K) : mCal (XC z) l yX6_alone cX6_alone 11 (some Jvm.ClassFile.FieldType.int) 2 48 [(2, 115), (0, p1), (0, p2), (0, p3), (0, p4), (2, p5)] h (mKi K) := by
  refine m_entry RX6 rfl (by decide) rfl (fun p e s m args below meth c C hr => ?_)
  have hQ : ∀ x, Lfp (F_X6_alone p1 p2 p3 p4 p5 K) x → (match x.1, x.2.1 with | 51, [v6, v8, v9] => mG (XC z) p l e { frames := 2, cells := 0, slots := 0, locals := 48 } s m args below meth c 11 (mMQ (XC z) (mKi K) below args s) 51 [(6, (2, v6)), (8, (0, v8)), (9, (0, v9)), (0, (2, 115)), (1, (0, p1)), (2, (0, p2)), (3, (0, p3)), (4, (0, p4)), (5, (2, p5))] [] x.2.2 | _, _ => True) := by
    intro x hx
    refine Lfp.ind (fun x => (match x.1, x.2.1 with | 51, [v6, v8, v9] => mG (XC z) p l e { frames := 2, cells := 0, slots := 0, locals := 48 } s m args below meth c 11 (mMQ (XC z) (mKi K) below args s) 51 [(6, (2, v6)), (8, (0, v8)), (9, (0, v9)), (0, (2, 115)), (1, (0, p1)), (2, (0, p2)), (3, (0, p3)), (4, (0, p4)), (5, (2, p5))] [] x.2.2 | _, _ => True)) ?_ hx
    clear hx x
    intro Z x hQ hw
    rcases hw with ⟨v6, v8, v9, h, rfl, hw⟩
    · show mG (XC z) p l e { frames := 2, cells := 0, slots := 0, locals := 48 } s m args below meth c 11 (mMQ (XC z) (mKi K) below args s) 51 [(6, (2, v6)), (8, (0, v8)), (9, (0, v9)), (0, (2, 115)), (1, (0, p1)), (2, (0, p2)), (3, (0, p3)), (4, (0, p4)), (5, (2, p5))] [] h
      unfold B_X6_alone_51 at hw
      refine g_iload C dX6_alone_51 rfl ?_
      refine g_aload C dX6_alone_53 (by decide) rfl ?_
      obtain ⟨q3, hw⟩ := hw
      refine gf_X6_103 C dX6_alone_55 q3 (fun z55 => ?_)
      refine g_icmp_ge C 124 dX6_alone_58 rfl hw (fun hw => ?_) (fun hw => ?_)
      · refine g_iload C dX6_alone_124 rfl ?_
        exact g_iret C hr dX6_alone_126 ⟨_, rfl, hw⟩
      · refine g_aload C dX6_alone_61 (by decide) rfl ?_
        refine g_iload C dX6_alone_63 rfl ?_
        refine g_callVi C [(0, v9)] (sim_X7_orZero wirC q3 hw) k_1079 k_1080 k_1081 k_136 k_1082 hdV_X7_orZero rfl rfl (by decide) rfl q3 rfl rfl rfl dX6_alone_65 ?_
        intro x1 h1 hw
        refine g_istore C dX6_alone_68 (by decide) ?_
        refine g_aload_n C dX6_alone_70 rfl (by decide) rfl ?_
        refine g_iload_n C dX6_alone_71 rfl rfl ?_
        refine g_iload C dX6_alone_72 rfl ?_
        refine g_iload_n C dX6_alone_74 rfl rfl ?_
        refine g_callVi C [(0, p2), (0, x1), (0, p3)] (sim_X6_farBy hw) k_1312 k_1314 k_55 k_144 k_1315 hdV_X6_farBy rfl rfl (by decide) rfl kdC_115 rfl rfl rfl dX6_alone_75 ?_
        intro x2 h2 hw
        refine g_istore C dX6_alone_78 (by decide) ?_
        refine g_iload C dX6_alone_80 rfl ?_
        refine g_iload C dX6_alone_82 rfl ?_
        refine g_if_ge C 91 dX6_alone_84 rfl hw (fun hw => ?_) (fun hw => ?_)
        · refine g_aload_n C dX6_alone_91 rfl (by decide) rfl ?_
          refine g_aload_n C dX6_alone_92 rfl (by decide) rfl ?_
          refine g_aload C dX6_alone_93 (by decide) rfl ?_
          refine g_iload C dX6_alone_95 rfl ?_
          refine g_iload C dX6_alone_97 rfl ?_
          refine g_isub C dX6_alone_99 ?_
          obtain ⟨q4, hw⟩ := hw
          refine g_callVi C [(0, w32 (p4 - x2))] (sim_X7_orZero wirC q4 hw) k_1079 k_1080 k_1081 k_136 k_1082 hdV_X7_orZero rfl rfl (by decide) rfl q4 rfl rfl rfl dX6_alone_100 ?_
          intro x3 h3 hw
          refine g_iload_n C dX6_alone_103 rfl rfl ?_
          refine g_iload C dX6_alone_104 rfl ?_
          refine g_callVi C [(0, x3), (0, p2), (0, x1)] (sim_X6_sentOf hw) k_1101 k_1103 k_45 k_144 k_1104 hdV_X6_sentOf rfl rfl (by decide) rfl kdC_115 rfl rfl rfl dX6_alone_106 ?_
          intro x4 h4 hw
          refine g_iload C dX6_alone_109 rfl ?_
          refine g_iload_n C dX6_alone_111 rfl rfl ?_
          refine g_callVi C [(0, x4), (0, x1), (0, p3)] (sim_X6_partOf hw) k_1089 k_1091 k_42 k_144 k_1092 hdV_X6_partOf rfl rfl (by decide) rfl kdC_115 rfl rfl rfl dX6_alone_112 ?_
          intro x5 h5 hw
          refine g_iadd C dX6_alone_115 ?_
          refine g_topi (fun x6 ex6 => ?_)
          replace hw := hw x6 ex6
          refine g_istore C dX6_alone_116 (by decide) ?_
          refine g_iincN C dX6_alone_118 rfl (by decide) (fun x7 ex7 => ?_)
          replace hw := hw x7 ex7
          refine g_goto C 51 dX6_alone_121 rfl ?_
          exact g_sub [6, 8, 9, 0, 1, 2, 3, 4, 5] rfl (hQ _ hw)
        · refine g_iconst C ⟨by decide, by decide⟩ dX6_alone_87 ?_
          refine g_goto C 115 dX6_alone_88 rfl ?_
          refine g_iadd C dX6_alone_115 ?_
          refine g_topi (fun x8 ex8 => ?_)
          replace hw := hw x8 ex8
          refine g_istore C dX6_alone_116 (by decide) ?_
          refine g_iincN C dX6_alone_118 rfl (by decide) (fun x9 ex9 => ?_)
          replace hw := hw x9 ex9
          refine g_goto C 51 dX6_alone_121 rfl ?_
          exact g_sub [6, 8, 9, 0, 1, 2, 3, 4, 5] rfl (hQ _ hw)
  show mG _ p l e _ s m args below meth c _ _ 0 [(0, (2, 115)), (1, (0, p1)), (2, (0, p2)), (3, (0, p3)), (4, (0, p4)), (5, (2, p5))] [] h
  unfold wp_X6_alone at hw
  refine g_aload_n C dX6_alone_0 rfl (by decide) rfl ?_
  refine gw_X6_39 C dX6_alone_1 kdC_115 wwC_115_0 ?_
  refine gf_X6_52 C dX6_alone_4 kdC_53 (fun z4 => ?_)
  refine g_iload_n C dX6_alone_7 rfl rfl ?_
  obtain ⟨q1, hw⟩ := hw
  refine g_callVr C [(0, p1)] (sim_X5_risesOf wirC q1 hw) k_1077 k_847 k_848 k_135 k_849 hdV_X5_risesOf rfl rfl (by decide) rfl q1 rfl rfl rfl dX6_alone_8 ?_
  intro x1 h1 hw
  refine g_astore C dX6_alone_11 (by decide) (by decide) ?_
  refine g_aload_n C dX6_alone_13 rfl (by decide) rfl ?_
  refine g_iload_n C dX6_alone_14 rfl rfl ?_
  refine g_iload_n C dX6_alone_15 rfl rfl ?_
  refine g_callVi C [(0, p2), (0, p3)] (sim_X6_farOf hw) k_1088 k_1049 k_1050 k_144 k_1051 hdV_X6_farOf rfl rfl (by decide) rfl kdC_115 rfl rfl rfl dX6_alone_16 ?_
  intro x2 h2 hw
  refine g_istore C dX6_alone_19 (by decide) ?_
  refine g_iload C dX6_alone_21 rfl ?_
  refine g_if_ge C 30 dX6_alone_23 rfl hw (fun hw => ?_) (fun hw => ?_)
  · refine g_aload_n C dX6_alone_30 rfl (by decide) rfl ?_
    refine g_aload C dX6_alone_31 (by decide) rfl ?_
    refine g_iload C dX6_alone_33 rfl ?_
    refine g_iload C dX6_alone_35 rfl ?_
    refine g_isub C dX6_alone_37 ?_
    obtain ⟨q2, hw⟩ := hw
    refine g_callVi C [(0, w32 (p4 - x2))] (sim_X7_orZero wirC q2 hw) k_1079 k_1080 k_1081 k_136 k_1082 hdV_X7_orZero rfl rfl (by decide) rfl q2 rfl rfl rfl dX6_alone_38 ?_
    intro x3 h3 hw
    refine g_iload_n C dX6_alone_41 rfl rfl ?_
    refine g_iload_n C dX6_alone_42 rfl rfl ?_
    refine g_callVi C [(0, x3), (0, p2), (0, p3)] (sim_X6_partOf hw) k_1089 k_1091 k_42 k_144 k_1092 hdV_X6_partOf rfl rfl (by decide) rfl kdC_115 rfl rfl rfl dX6_alone_43 ?_
    intro x4 h4 hw
    refine g_istore C dX6_alone_46 (by decide) ?_
    refine g_iconst C ⟨by decide, by decide⟩ dX6_alone_48 ?_
    refine g_istore C dX6_alone_49 (by decide) ?_
    exact g_sub [6, 8, 9, 0, 1, 2, 3, 4, 5] rfl (hQ _ hw)
  · refine g_iconst C ⟨by decide, by decide⟩ dX6_alone_26 ?_
    refine g_goto C 46 dX6_alone_27 rfl ?_
    refine g_istore C dX6_alone_46 (by decide) ?_
    refine g_iconst C ⟨by decide, by decide⟩ dX6_alone_48 ?_
    refine g_istore C dX6_alone_49 (by decide) ?_
    exact g_sub [6, 8, 9, 0, 1, 2, 3, 4, 5] rfl (hQ _ hw)
set_option maxRecDepth 20000 in
set_option maxHeartbeats 4000000 in
theorem sim_X2_showRow {z : Mz} {l : Launch} {p1 : Int} {p2 : Int} {p3 : Int} {p4 : Int} {h : Mh} {K : Mh → Prop} (hw : wp_X2_showRow p1 p2 p3 p4 h K) : mCal (XC z) l yX2_showRow cX2_showRow 7 none 3 78 [(2, 127), (0, p1), (0, p2), (0, p3), (0, p4)] h (mKv K) := by
  refine m_entry RX2 rfl (by decide) rfl (fun p e s m args below meth c C hr => ?_)
  have hQ : ∀ x, Lfp (F_X2_showRow p1 p2 p3 p4 K) x → (match x.1, x.2.1 with | 3, [v5] => mG (XC z) p l e { frames := 3, cells := 0, slots := 0, locals := 78 } s m args below meth c 7 (mMQ (XC z) (mKv K) below args s) 3 [(5, (0, v5)), (0, (2, 127)), (1, (0, p1)), (2, (0, p2)), (3, (0, p3)), (4, (0, p4))] [] x.2.2 | _, _ => True) := by
    intro x hx
    refine Lfp.ind (fun x => (match x.1, x.2.1 with | 3, [v5] => mG (XC z) p l e { frames := 3, cells := 0, slots := 0, locals := 78 } s m args below meth c 7 (mMQ (XC z) (mKv K) below args s) 3 [(5, (0, v5)), (0, (2, 127)), (1, (0, p1)), (2, (0, p2)), (3, (0, p3)), (4, (0, p4))] [] x.2.2 | _, _ => True)) ?_ hx
    clear hx x
    intro Z x hQ hw
    rcases hw with ⟨v5, h, rfl, hw⟩
    · show mG (XC z) p l e { frames := 3, cells := 0, slots := 0, locals := 78 } s m args below meth c 7 (mMQ (XC z) (mKv K) below args s) 3 [(5, (0, v5)), (0, (2, 127)), (1, (0, p1)), (2, (0, p2)), (3, (0, p3)), (4, (0, p4))] [] h
      unfold B_X2_showRow_3 at hw
      refine g_iload C dX2_showRow_3 rfl ?_
      refine g_bipush C ⟨by decide, by decide⟩ (by decide) dX2_showRow_5 ?_
      refine g_icmp_ge C 70 dX2_showRow_7 rfl hw (fun hw => ?_) (fun hw => ?_)
      · exact g_vret C hr dX2_showRow_70 ⟨rfl, hw⟩
      · refine g_iload_n C dX2_showRow_10 rfl rfl ?_
        refine g_bipush C ⟨by decide, by decide⟩ (by decide) dX2_showRow_11 ?_
        refine g_imul C dX2_showRow_13 ?_
        refine g_iload C dX2_showRow_14 rfl ?_
        refine g_iadd C dX2_showRow_16 ?_
        refine g_topi (fun x1 ex1 => ?_)
        replace hw := hw x1 ex1
        refine g_istore C dX2_showRow_17 (by decide) ?_
        refine g_iload C dX2_showRow_19 rfl ?_
        refine g_if_lt C 64 dX2_showRow_21 rfl hw (fun hw => ?_) (fun hw => ?_)
        · refine g_iincN C dX2_showRow_64 rfl (by decide) (fun x2 ex2 => ?_)
          replace hw := hw x2 ex2
          refine g_goto C 3 dX2_showRow_67 rfl ?_
          exact g_sub [5, 0, 1, 2, 3, 4] rfl (hQ _ hw)
        · refine g_iload C dX2_showRow_24 rfl ?_
          refine g_aload_n C dX2_showRow_26 rfl (by decide) rfl ?_
          refine gw_X2_23 C dX2_showRow_27 kdC_127 wwC_127_5 ?_
          refine g_alen C dX2_showRow_30 (ci := 14) (by decide) skC_136 (by decide) ?_
          refine g_icmp_ge C 64 dX2_showRow_31 rfl hw (fun hw => ?_) (fun hw => ?_)
          · refine g_iincN C dX2_showRow_64 rfl (by decide) (fun x3 ex3 => ?_)
            replace hw := hw x3 ex3
            refine g_goto C 3 dX2_showRow_67 rfl ?_
            exact g_sub [5, 0, 1, 2, 3, 4] rfl (hQ _ hw)
          · refine g_aload_n C dX2_showRow_34 rfl (by decide) rfl ?_
            refine gw_X2_23 C dX2_showRow_35 kdC_127 wwC_127_5 ?_
            refine g_iload C dX2_showRow_38 rfl ?_
            refine g_aload_n C dX2_showRow_40 rfl (by decide) rfl ?_
            refine gw_X2_37 C dX2_showRow_41 kdC_127 wwC_127_1 ?_
            refine g_iload_n C dX2_showRow_44 rfl rfl ?_
            refine g_iload_n C dX2_showRow_45 rfl rfl ?_
            refine g_iload C dX2_showRow_46 rfl ?_
            refine g_iload C dX2_showRow_48 rfl ?_
            refine g_aload_n C dX2_showRow_50 rfl (by decide) rfl ?_
            refine gw_X2_33 C dX2_showRow_51 kdC_127 wwC_127_0 ?_
            refine gf_X2_54 C dX2_showRow_54 kdC_53 (fun z54 => ?_)
            obtain ⟨q1, hw⟩ := hw
            refine gw_X2_118 C dX2_showRow_57 q1 (wir_4_4 wirC q1) ?_
            refine g_callVi C [(0, p2), (0, p3), (0, p4), (0, v5), (2, ((h 53 0) + 1))] (sim_X6_alone hw) k_1308 k_1309 k_1310 k_144 k_1311 hdV_X6_alone rfl rfl (by decide) rfl kdC_115 rfl rfl rfl dX2_showRow_60 ?_
            intro x4 h1 hw
            obtain ⟨⟨b1, b1b⟩, hw⟩ := hw
            refine g_iastore C dX2_showRow_63 kdC_136 b1 b1b (fun z => z) ?_
            refine g_heap (fun h2 eh2 => ?_)
            replace hw := hw h2 eh2
            refine g_iincN C dX2_showRow_64 rfl (by decide) (fun x5 ex5 => ?_)
            replace hw := hw x5 ex5
            refine g_goto C 3 dX2_showRow_67 rfl ?_
            exact g_sub [5, 0, 1, 2, 3, 4] rfl (hQ _ hw)
  show mG _ p l e _ s m args below meth c _ _ 0 [(0, (2, 127)), (1, (0, p1)), (2, (0, p2)), (3, (0, p3)), (4, (0, p4))] [] h
  unfold wp_X2_showRow at hw
  refine g_iconst C ⟨by decide, by decide⟩ dX2_showRow_0 ?_
  refine g_istore C dX2_showRow_1 (by decide) ?_
  exact g_sub [5, 0, 1, 2, 3, 4] rfl (hQ _ hw)
set_option maxRecDepth 20000 in
set_option maxHeartbeats 4000000 in
theorem sim_X2_showCompared {z : Mz} {l : Launch} {p1 : Int} {h : Mh} {K : Mh → Prop} (hw : wp_X2_showCompared p1 h K) : mCal (XC z) l yX2_showCompared cX2_showCompared 3 none 4 104 [(2, 127), (0, p1)] h (mKv K) := by
  refine m_entry RX2 rfl (by decide) rfl (fun p e s m args below meth c C hr => ?_)
  have hQ : ∀ x, Lfp (F_X2_showCompared p1 K) x → (match x.1, x.2.1 with | 2, [v2] => mG (XC z) p l e { frames := 4, cells := 0, slots := 0, locals := 104 } s m args below meth c 3 (mMQ (XC z) (mKv K) below args s) 2 [(2, (0, v2)), (0, (2, 127)), (1, (0, p1))] [] x.2.2 | _, _ => True) := by
    intro x hx
    refine Lfp.ind (fun x => (match x.1, x.2.1 with | 2, [v2] => mG (XC z) p l e { frames := 4, cells := 0, slots := 0, locals := 104 } s m args below meth c 3 (mMQ (XC z) (mKv K) below args s) 2 [(2, (0, v2)), (0, (2, 127)), (1, (0, p1))] [] x.2.2 | _, _ => True)) ?_ hx
    clear hx x
    intro Z x hQ hw
    rcases hw with ⟨v2, h, rfl, hw⟩
    · show mG (XC z) p l e { frames := 4, cells := 0, slots := 0, locals := 104 } s m args below meth c 3 (mMQ (XC z) (mKv K) below args s) 2 [(2, (0, v2)), (0, (2, 127)), (1, (0, p1))] [] h
      unfold B_X2_showCompared_2 at hw
      refine g_iload_n C dX2_showCompared_2 rfl rfl ?_
      refine g_aload_n C dX2_showCompared_3 rfl (by decide) rfl ?_
      refine gw_X2_30 C dX2_showCompared_4 kdC_127 wwC_127_7 ?_
      refine gf_X2_148 C dX2_showCompared_7 kdC_138 (fun z7 => ?_)
      refine g_icmp_ge C 43 dX2_showCompared_10 rfl hw (fun hw => ?_) (fun hw => ?_)
      · exact g_vret C hr dX2_showCompared_43 ⟨rfl, hw⟩
      · refine g_aload_n C dX2_showCompared_13 rfl (by decide) rfl ?_
        refine g_iload_n C dX2_showCompared_14 rfl rfl ?_
        refine g_aload_n C dX2_showCompared_15 rfl (by decide) rfl ?_
        refine gw_X2_30 C dX2_showCompared_16 kdC_127 wwC_127_7 ?_
        refine gw_X2_149 C dX2_showCompared_19 kdC_138 wwC_138_0 ?_
        refine g_iload_n C dX2_showCompared_22 rfl rfl ?_
        obtain ⟨⟨b1, b1b⟩, hw⟩ := hw
        refine g_iaload C dX2_showCompared_23 kdC_139 b1 b1b (fun z23 => ?_)
        refine g_aload_n C dX2_showCompared_24 rfl (by decide) rfl ?_
        refine gw_X2_30 C dX2_showCompared_25 kdC_127 wwC_127_7 ?_
        refine gw_X2_151 C dX2_showCompared_28 kdC_138 wwC_138_1 ?_
        refine g_iload_n C dX2_showCompared_31 rfl rfl ?_
        obtain ⟨⟨b2, b2b⟩, hw⟩ := hw
        refine g_iaload C dX2_showCompared_32 kdC_140 b2 b2b (fun z32 => ?_)
        refine g_iload_n C dX2_showCompared_33 rfl rfl ?_
        refine g_callVv C [(0, v2), (0, (h 139 v2)), (0, (h 140 v2)), (0, p1)] (sim_X2_showRow hw) k_1360 k_1362 k_60 k_146 k_1363 hdV_X2_showRow rfl rfl (by decide) rfl kdC_127 rfl rfl rfl dX2_showCompared_34 ?_
        intro h1 hw
        refine g_iincN C dX2_showCompared_37 rfl (by decide) (fun x1 ex1 => ?_)
        replace hw := hw x1 ex1
        refine g_goto C 2 dX2_showCompared_40 rfl ?_
        exact g_sub [2, 0, 1] rfl (hQ _ hw)
  show mG _ p l e _ s m args below meth c _ _ 0 [(0, (2, 127)), (1, (0, p1))] [] h
  unfold wp_X2_showCompared at hw
  refine g_iconst C ⟨by decide, by decide⟩ dX2_showCompared_0 ?_
  refine g_istore_n C dX2_showCompared_1 rfl (by decide) ?_
  exact g_sub [2, 0, 1] rfl (hQ _ hw)
set_option maxRecDepth 20000 in
set_option maxHeartbeats 4000000 in
theorem sim_X2_tellsApart {z : Mz} {l : Launch} {p1 : Int} {h : Mh} {K : Int → Mh → Prop} (hw : wp_X2_tellsApart p1 h K) : mCal (XC z) l yX2_tellsApart cX2_tellsApart 4 (some Jvm.ClassFile.FieldType.boolean) 0 0 [(2, 127), (0, p1)] h (mKz K) := by
  refine m_entry RX2 rfl (by decide) rfl (fun p e s m args below meth c C hr => ?_)
  have hQ : ∀ x, Lfp (F_X2_tellsApart p1 K) x → (match x.1, x.2.1 with | 2, [v2] => mG (XC z) p l e { frames := 0, cells := 0, slots := 0, locals := 0 } s m args below meth c 4 (mMQ (XC z) (mKz K) below args s) 2 [(2, (0, v2)), (0, (2, 127)), (1, (0, p1))] [] x.2.2 | 15, [v2, v3] => mG (XC z) p l e { frames := 0, cells := 0, slots := 0, locals := 0 } s m args below meth c 4 (mMQ (XC z) (mKz K) below args s) 15 [(2, (0, v2)), (3, (0, v3)), (0, (2, 127)), (1, (0, p1))] [] x.2.2 | _, _ => True) := by
    intro x hx
    refine Lfp.ind (fun x => (match x.1, x.2.1 with | 2, [v2] => mG (XC z) p l e { frames := 0, cells := 0, slots := 0, locals := 0 } s m args below meth c 4 (mMQ (XC z) (mKz K) below args s) 2 [(2, (0, v2)), (0, (2, 127)), (1, (0, p1))] [] x.2.2 | 15, [v2, v3] => mG (XC z) p l e { frames := 0, cells := 0, slots := 0, locals := 0 } s m args below meth c 4 (mMQ (XC z) (mKz K) below args s) 15 [(2, (0, v2)), (3, (0, v3)), (0, (2, 127)), (1, (0, p1))] [] x.2.2 | _, _ => True)) ?_ hx
    clear hx x
    intro Z x hQ hw
    rcases hw with ⟨v2, h, rfl, hw⟩ | ⟨v2, v3, h, rfl, hw⟩
    · show mG (XC z) p l e { frames := 0, cells := 0, slots := 0, locals := 0 } s m args below meth c 4 (mMQ (XC z) (mKz K) below args s) 2 [(2, (0, v2)), (0, (2, 127)), (1, (0, p1))] [] h
      unfold B_X2_tellsApart_2 at hw
      refine g_iload_n C dX2_tellsApart_2 rfl rfl ?_
      refine g_aload_n C dX2_tellsApart_3 rfl (by decide) rfl ?_
      refine gw_X2_30 C dX2_tellsApart_4 kdC_127 wwC_127_7 ?_
      refine gf_X2_148 C dX2_tellsApart_7 kdC_138 (fun z7 => ?_)
      refine g_icmp_ge C 50 dX2_tellsApart_10 rfl hw (fun hw => ?_) (fun hw => ?_)
      · refine g_iconst C ⟨by decide, by decide⟩ dX2_tellsApart_50 ?_
        exact g_zret C hr (Or.inr rfl) dX2_tellsApart_51 ⟨_, rfl, (Or.inr rfl), hw⟩
      · refine g_iconst C ⟨by decide, by decide⟩ dX2_tellsApart_13 ?_
        refine g_istore_n C dX2_tellsApart_14 rfl (by decide) ?_
        exact g_sub [2, 3, 0, 1] rfl (hQ _ hw)
    · show mG (XC z) p l e { frames := 0, cells := 0, slots := 0, locals := 0 } s m args below meth c 4 (mMQ (XC z) (mKz K) below args s) 15 [(2, (0, v2)), (3, (0, v3)), (0, (2, 127)), (1, (0, p1))] [] h
      unfold B_X2_tellsApart_15 at hw
      refine g_iload_n C dX2_tellsApart_15 rfl rfl ?_
      refine g_iload_n C dX2_tellsApart_16 rfl rfl ?_
      refine g_icmp_ge C 44 dX2_tellsApart_17 rfl hw (fun hw => ?_) (fun hw => ?_)
      · refine g_iincN C dX2_tellsApart_44 rfl (by decide) (fun x1 ex1 => ?_)
        replace hw := hw x1 ex1
        refine g_goto C 2 dX2_tellsApart_47 rfl ?_
        exact g_sub [2, 0, 1] rfl (hQ _ hw)
      · refine g_aload_n C dX2_tellsApart_20 rfl (by decide) rfl ?_
        refine gw_X2_27 C dX2_tellsApart_21 kdC_127 wwC_127_6 ?_
        refine g_iload_n C dX2_tellsApart_24 rfl rfl ?_
        refine g_bipush C ⟨by decide, by decide⟩ (by decide) dX2_tellsApart_25 ?_
        refine g_imul C dX2_tellsApart_27 ?_
        refine g_iload_n C dX2_tellsApart_28 rfl rfl ?_
        refine g_iadd C dX2_tellsApart_29 ?_
        obtain ⟨⟨b1, b1b⟩, hw⟩ := hw
        refine g_iaload C dX2_tellsApart_30 kdC_137 b1 b1b (fun z30 => ?_)
        refine g_iload_n C dX2_tellsApart_31 rfl rfl ?_
        refine g_iand C dX2_tellsApart_32 ?_
        refine g_if_ne C 38 dX2_tellsApart_33 rfl hw (fun hw => ?_) (fun hw => ?_)
        · refine g_iincN C dX2_tellsApart_38 rfl (by decide) (fun x2 ex2 => ?_)
          replace hw := hw x2 ex2
          refine g_goto C 15 dX2_tellsApart_41 rfl ?_
          exact g_sub [2, 3, 0, 1] rfl (hQ _ hw)
        · refine g_iconst C ⟨by decide, by decide⟩ dX2_tellsApart_36 ?_
          exact g_zret C hr (Or.inl rfl) dX2_tellsApart_37 ⟨_, rfl, (Or.inl rfl), hw⟩
  show mG _ p l e _ s m args below meth c _ _ 0 [(0, (2, 127)), (1, (0, p1))] [] h
  unfold wp_X2_tellsApart at hw
  refine g_iconst C ⟨by decide, by decide⟩ dX2_tellsApart_0 ?_
  refine g_istore_n C dX2_tellsApart_1 rfl (by decide) ?_
  exact g_sub [2, 0, 1] rfl (hQ _ hw)
set_option maxRecDepth 20000 in
set_option maxHeartbeats 4000000 in
theorem sim_X2_fewestCorks {z : Mz} {l : Launch} {p1 : Int} {p2 : Int} {p3 : Int} {h : Mh} {K : Int → Mh → Prop} (hw : wp_X2_fewestCorks p1 p2 p3 h K) : mCal (XC z) l yX2_fewestCorks cX2_fewestCorks 8 (some Jvm.ClassFile.FieldType.int) 5 126 [(2, 127), (0, p1), (0, p2), (1, p3)] h (mKi K) := by
  refine m_entry RX2 rfl (by decide) rfl (fun p e s m args below meth c C hr => ?_)
  have hQ : ∀ x, Lfp (F_X2_fewestCorks p1 p2 p3 K) x → (match x.1, x.2.1 with | 66, [v5, v6] => mG (XC z) p l e { frames := 5, cells := 0, slots := 0, locals := 126 } s m args below meth c 8 (mMQ (XC z) (mKi K) below args s) 66 [(5, (0, v5)), (6, (0, v6)), (0, (2, 127)), (1, (0, p1)), (2, (0, p2)), (3, (1, p3))] [] x.2.2 | 93, [v5, v6] => mG (XC z) p l e { frames := 5, cells := 0, slots := 0, locals := 126 } s m args below meth c 8 (mMQ (XC z) (mKi K) below args s) 93 [(5, (0, v5)), (6, (0, v6)), (0, (2, 127)), (1, (0, p1)), (2, (0, p2)), (3, (1, p3))] [] x.2.2 | 136, [v5, v6] => mG (XC z) p l e { frames := 5, cells := 0, slots := 0, locals := 126 } s m args below meth c 8 (mMQ (XC z) (mKi K) below args s) 136 [(5, (0, v5)), (6, (0, v6)), (0, (2, 127)), (1, (0, p1)), (2, (0, p2)), (3, (1, p3))] [] x.2.2 | 146, [v5, v6, v7] => mG (XC z) p l e { frames := 5, cells := 0, slots := 0, locals := 126 } s m args below meth c 8 (mMQ (XC z) (mKi K) below args s) 146 [(5, (0, v5)), (6, (0, v6)), (7, (0, v7)), (0, (2, 127)), (1, (0, p1)), (2, (0, p2)), (3, (1, p3))] [] x.2.2 | _, _ => True) := by
    intro x hx
    refine Lfp.ind (fun x => (match x.1, x.2.1 with | 66, [v5, v6] => mG (XC z) p l e { frames := 5, cells := 0, slots := 0, locals := 126 } s m args below meth c 8 (mMQ (XC z) (mKi K) below args s) 66 [(5, (0, v5)), (6, (0, v6)), (0, (2, 127)), (1, (0, p1)), (2, (0, p2)), (3, (1, p3))] [] x.2.2 | 93, [v5, v6] => mG (XC z) p l e { frames := 5, cells := 0, slots := 0, locals := 126 } s m args below meth c 8 (mMQ (XC z) (mKi K) below args s) 93 [(5, (0, v5)), (6, (0, v6)), (0, (2, 127)), (1, (0, p1)), (2, (0, p2)), (3, (1, p3))] [] x.2.2 | 136, [v5, v6] => mG (XC z) p l e { frames := 5, cells := 0, slots := 0, locals := 126 } s m args below meth c 8 (mMQ (XC z) (mKi K) below args s) 136 [(5, (0, v5)), (6, (0, v6)), (0, (2, 127)), (1, (0, p1)), (2, (0, p2)), (3, (1, p3))] [] x.2.2 | 146, [v5, v6, v7] => mG (XC z) p l e { frames := 5, cells := 0, slots := 0, locals := 126 } s m args below meth c 8 (mMQ (XC z) (mKi K) below args s) 146 [(5, (0, v5)), (6, (0, v6)), (7, (0, v7)), (0, (2, 127)), (1, (0, p1)), (2, (0, p2)), (3, (1, p3))] [] x.2.2 | _, _ => True)) ?_ hx
    clear hx x
    intro Z x hQ hw
    rcases hw with ⟨v5, v6, h, rfl, hw⟩ | ⟨v5, v6, h, rfl, hw⟩ | ⟨v5, v6, h, rfl, hw⟩ | ⟨v5, v6, v7, h, rfl, hw⟩
    · show mG (XC z) p l e { frames := 5, cells := 0, slots := 0, locals := 126 } s m args below meth c 8 (mMQ (XC z) (mKi K) below args s) 66 [(5, (0, v5)), (6, (0, v6)), (0, (2, 127)), (1, (0, p1)), (2, (0, p2)), (3, (1, p3))] [] h
      unfold B_X2_fewestCorks_66 at hw
      refine g_iload C dX2_fewestCorks_66 rfl ?_
      refine g_aload_n C dX2_fewestCorks_68 rfl (by decide) rfl ?_
      refine gw_X2_27 C dX2_fewestCorks_69 kdC_127 wwC_127_6 ?_
      refine g_alen C dX2_fewestCorks_72 (ci := 14) (by decide) skC_137 (by decide) ?_
      refine g_icmp_ge C 90 dX2_fewestCorks_73 rfl hw (fun hw => ?_) (fun hw => ?_)
      · refine g_iconst C ⟨by decide, by decide⟩ dX2_fewestCorks_90 ?_
        refine g_istore C dX2_fewestCorks_91 (by decide) ?_
        exact g_sub [5, 6, 0, 1, 2, 3] rfl (hQ _ hw)
      · refine g_aload_n C dX2_fewestCorks_76 rfl (by decide) rfl ?_
        refine gw_X2_27 C dX2_fewestCorks_77 kdC_127 wwC_127_6 ?_
        refine g_iload C dX2_fewestCorks_80 rfl ?_
        refine g_iconst C ⟨by decide, by decide⟩ dX2_fewestCorks_82 ?_
        obtain ⟨⟨b1, b1b⟩, hw⟩ := hw
        refine g_iastore C dX2_fewestCorks_83 kdC_137 b1 b1b (fun z => z) ?_
        refine g_heap (fun h1 eh1 => ?_)
        replace hw := hw h1 eh1
        refine g_iincN C dX2_fewestCorks_84 rfl (by decide) (fun x1 ex1 => ?_)
        replace hw := hw x1 ex1
        refine g_goto C 66 dX2_fewestCorks_87 rfl ?_
        exact g_sub [5, 6, 0, 1, 2, 3] rfl (hQ _ hw)
    · show mG (XC z) p l e { frames := 5, cells := 0, slots := 0, locals := 126 } s m args below meth c 8 (mMQ (XC z) (mKi K) below args s) 93 [(5, (0, v5)), (6, (0, v6)), (0, (2, 127)), (1, (0, p1)), (2, (0, p2)), (3, (1, p3))] [] h
      unfold B_X2_fewestCorks_93 at hw
      refine g_iload C dX2_fewestCorks_93 rfl ?_
      refine g_iload C dX2_fewestCorks_95 rfl ?_
      refine g_icmp_ge C 133 dX2_fewestCorks_97 rfl hw (fun hw => ?_) (fun hw => ?_)
      · refine g_iconst C ⟨by decide, by decide⟩ dX2_fewestCorks_133 ?_
        refine g_istore C dX2_fewestCorks_134 (by decide) ?_
        exact g_sub [5, 6, 0, 1, 2, 3] rfl (hQ _ hw)
      · refine g_aload_n C dX2_fewestCorks_100 rfl (by decide) rfl ?_
        refine g_aload_n C dX2_fewestCorks_101 rfl (by decide) rfl ?_
        refine gw_X2_33 C dX2_fewestCorks_102 kdC_127 wwC_127_0 ?_
        refine gf_X2_54 C dX2_fewestCorks_105 kdC_53 (fun z105 => ?_)
        obtain ⟨q3, hw⟩ := hw
        refine gw_X2_109 C dX2_fewestCorks_108 q3 (wir_4_11 wirC q3) ?_
        refine g_iload C dX2_fewestCorks_111 rfl ?_
        refine g_callVi C [(0, v6)] (sim_X7_orZero wirC (kid_4_11 wirC q3) hw) k_1306 k_1080 k_1081 k_136 k_1082 hdV_X7_orZero rfl rfl (by decide) rfl (kid_4_11 wirC q3) rfl rfl rfl dX2_fewestCorks_113 ?_
        intro x1 h1 hw
        refine g_callVv C [(0, x1)] (sim_X2_showCompared hw) k_1356 k_1358 k_59 k_146 k_1359 hdV_X2_showCompared rfl rfl (by decide) rfl kdC_127 rfl rfl rfl dX2_fewestCorks_116 ?_
        intro h2 hw
        refine g_aload_n C dX2_fewestCorks_119 rfl (by decide) rfl ?_
        refine g_iconst C ⟨by decide, by decide⟩ dX2_fewestCorks_120 ?_
        refine g_iload C dX2_fewestCorks_121 rfl ?_
        refine g_ishl C dX2_fewestCorks_123 ?_
        refine g_callVv C [(0, j_shl 1 v6)] (sim_X2_markTeller hw) k_1364 k_1366 k_61 k_146 k_1367 hdV_X2_markTeller rfl rfl (by decide) rfl kdC_127 rfl rfl rfl dX2_fewestCorks_124 ?_
        intro h3 hw
        refine g_iincN C dX2_fewestCorks_127 rfl (by decide) (fun x2 ex2 => ?_)
        replace hw := hw x2 ex2
        refine g_goto C 93 dX2_fewestCorks_130 rfl ?_
        exact g_sub [5, 6, 0, 1, 2, 3] rfl (hQ _ hw)
    · show mG (XC z) p l e { frames := 5, cells := 0, slots := 0, locals := 126 } s m args below meth c 8 (mMQ (XC z) (mKi K) below args s) 136 [(5, (0, v5)), (6, (0, v6)), (0, (2, 127)), (1, (0, p1)), (2, (0, p2)), (3, (1, p3))] [] h
      unfold B_X2_fewestCorks_136 at hw
      refine g_iload C dX2_fewestCorks_136 rfl ?_
      refine g_iload C dX2_fewestCorks_138 rfl ?_
      refine g_icmp_gt C 189 dX2_fewestCorks_140 rfl hw (fun hw => ?_) (fun hw => ?_)
      · refine g_bipush C ⟨by decide, by decide⟩ (by decide) dX2_fewestCorks_189 ?_
        exact g_iret C hr dX2_fewestCorks_191 ⟨_, rfl, hw⟩
      · refine g_iconst C ⟨by decide, by decide⟩ dX2_fewestCorks_143 ?_
        refine g_istore C dX2_fewestCorks_144 (by decide) ?_
        exact g_sub [5, 6, 7, 0, 1, 2, 3] rfl (hQ _ hw)
    · show mG (XC z) p l e { frames := 5, cells := 0, slots := 0, locals := 126 } s m args below meth c 8 (mMQ (XC z) (mKi K) below args s) 146 [(5, (0, v5)), (6, (0, v6)), (7, (0, v7)), (0, (2, 127)), (1, (0, p1)), (2, (0, p2)), (3, (1, p3))] [] h
      unfold B_X2_fewestCorks_146 at hw
      refine g_iload C dX2_fewestCorks_146 rfl ?_
      refine g_iconst C ⟨by decide, by decide⟩ dX2_fewestCorks_148 ?_
      refine g_iload C dX2_fewestCorks_149 rfl ?_
      refine g_ishl C dX2_fewestCorks_151 ?_
      refine g_icmp_ge C 183 dX2_fewestCorks_152 rfl hw (fun hw => ?_) (fun hw => ?_)
      · refine g_iincN C dX2_fewestCorks_183 rfl (by decide) (fun x1 ex1 => ?_)
        replace hw := hw x1 ex1
        refine g_goto C 136 dX2_fewestCorks_186 rfl ?_
        exact g_sub [5, 6, 0, 1, 2, 3] rfl (hQ _ hw)
      · refine g_iload C dX2_fewestCorks_155 rfl ?_
        refine g_callSi C [(0, v7)] (sim_J6_bitCount_0f7a4 hw) k_1372 k_1373 k_157 k_1374 hdS_J6_bitCount_0f7a4 rfl rfl rfl rfl rfl dX2_fewestCorks_157 ?_
        intro x2 h1 hw
        refine g_iload C dX2_fewestCorks_160 rfl ?_
        refine g_icmp_ne C 177 dX2_fewestCorks_162 rfl hw (fun hw => ?_) (fun hw => ?_)
        · refine g_iincN C dX2_fewestCorks_177 rfl (by decide) (fun x3 ex3 => ?_)
          replace hw := hw x3 ex3
          refine g_goto C 146 dX2_fewestCorks_180 rfl ?_
          exact g_sub [5, 6, 7, 0, 1, 2, 3] rfl (hQ _ hw)
        · refine g_aload_n C dX2_fewestCorks_165 rfl (by decide) rfl ?_
          refine g_iload C dX2_fewestCorks_166 rfl ?_
          refine g_callVz C [(0, v7)] (sim_X2_tellsApart hw) k_1378 k_1380 k_63 k_146 k_1381 hdV_X2_tellsApart rfl rfl (by decide) rfl kdC_127 rfl rfl rfl dX2_fewestCorks_168 ?_
          intro x4 h2 zb168 hw
          refine g_if_eq C 177 dX2_fewestCorks_171 rfl hw (fun hw => ?_) (fun hw => ?_)
          · refine g_iincN C dX2_fewestCorks_177 rfl (by decide) (fun x5 ex5 => ?_)
            replace hw := hw x5 ex5
            refine g_goto C 146 dX2_fewestCorks_180 rfl ?_
            exact g_sub [5, 6, 7, 0, 1, 2, 3] rfl (hQ _ hw)
          · refine g_iload C dX2_fewestCorks_174 rfl ?_
            exact g_iret C hr dX2_fewestCorks_176 ⟨_, rfl, hw⟩
  show mG _ p l e _ s m args below meth c _ _ 0 [(0, (2, 127)), (1, (0, p1)), (2, (0, p2)), (3, (1, p3))] [] h
  unfold wp_X2_fewestCorks at hw
  refine g_iload_n C dX2_fewestCorks_0 rfl rfl ?_
  refine g_if_le C 34 dX2_fewestCorks_1 rfl hw (fun hw => ?_) (fun hw => ?_)
  · refine g_iconst C ⟨by decide, by decide⟩ dX2_fewestCorks_34 ?_
    exact g_iret C hr dX2_fewestCorks_35 ⟨_, rfl, hw⟩
  · refine g_iload_n C dX2_fewestCorks_4 rfl rfl ?_
    refine g_iconst C ⟨by decide, by decide⟩ dX2_fewestCorks_5 ?_
    refine g_aload_n C dX2_fewestCorks_6 rfl (by decide) rfl ?_
    refine gw_X2_33 C dX2_fewestCorks_7 kdC_127 wwC_127_0 ?_
    refine gf_X2_54 C dX2_fewestCorks_10 kdC_53 (fun z10 => ?_)
    obtain ⟨q1, hw⟩ := hw
    refine gw_X2_60 C dX2_fewestCorks_13 q1 (wir_4_7 wirC q1) ?_
    refine gf_X2_66 C dX2_fewestCorks_16 (kid_4_7 wirC q1) (fun z16 => ?_)
    refine g_ishl C dX2_fewestCorks_19 ?_
    refine g_icmp_ge C 34 dX2_fewestCorks_20 rfl hw (fun hw => ?_) (fun hw => ?_)
    · refine g_iconst C ⟨by decide, by decide⟩ dX2_fewestCorks_34 ?_
      exact g_iret C hr dX2_fewestCorks_35 ⟨_, rfl, hw⟩
    · refine g_iload_n C dX2_fewestCorks_23 rfl rfl ?_
      refine g_iconst C ⟨by decide, by decide⟩ dX2_fewestCorks_24 ?_
      refine g_icmp_lt C 34 dX2_fewestCorks_25 rfl hw (fun hw => ?_) (fun hw => ?_)
      · refine g_iconst C ⟨by decide, by decide⟩ dX2_fewestCorks_34 ?_
        exact g_iret C hr dX2_fewestCorks_35 ⟨_, rfl, hw⟩
      · refine g_iload_n C dX2_fewestCorks_28 rfl rfl ?_
        refine g_bipush C ⟨by decide, by decide⟩ (by decide) dX2_fewestCorks_29 ?_
        refine g_icmp_le C 36 dX2_fewestCorks_31 rfl hw (fun hw => ?_) (fun hw => ?_)
        · refine g_aload_n C dX2_fewestCorks_36 rfl (by decide) rfl ?_
          refine g_iload_n C dX2_fewestCorks_37 rfl rfl ?_
          refine g_iload_n C dX2_fewestCorks_38 rfl rfl ?_
          refine g_lload_n C dX2_fewestCorks_39 rfl rfl ?_
          refine g_callVz C [(0, p1), (0, p2), (1, p3)] (sim_X2_gatherCompared hw) k_1351 k_1353 k_58 k_146 k_1354 hdV_X2_gatherCompared rfl rfl (by decide) rfl kdC_127 rfl rfl rfl dX2_fewestCorks_40 ?_
          intro x1 h1 zb40 hw
          refine g_if_ne C 48 dX2_fewestCorks_43 rfl hw (fun hw => ?_) (fun hw => ?_)
          · refine g_aload_n C dX2_fewestCorks_48 rfl (by decide) rfl ?_
            refine gw_X2_33 C dX2_fewestCorks_49 kdC_127 wwC_127_0 ?_
            refine gf_X2_54 C dX2_fewestCorks_52 kdC_53 (fun z52 => ?_)
            obtain ⟨q2, hw⟩ := hw
            refine gw_X2_158 C dX2_fewestCorks_55 q2 (wir_4_10 wirC q2) ?_
            refine gf_X2_66 C dX2_fewestCorks_58 (kid_4_10 wirC q2) (fun z58 => ?_)
            refine g_topi (fun x2 ex2 => ?_)
            replace hw := hw x2 ex2
            refine g_istore C dX2_fewestCorks_61 (by decide) ?_
            refine g_iconst C ⟨by decide, by decide⟩ dX2_fewestCorks_63 ?_
            refine g_istore C dX2_fewestCorks_64 (by decide) ?_
            exact g_sub [5, 6, 0, 1, 2, 3] rfl (hQ _ hw)
          · refine g_iconst C ⟨by decide, by decide⟩ dX2_fewestCorks_46 ?_
            exact g_iret C hr dX2_fewestCorks_47 ⟨_, rfl, hw⟩
        · refine g_iconst C ⟨by decide, by decide⟩ dX2_fewestCorks_34 ?_
          exact g_iret C hr dX2_fewestCorks_35 ⟨_, rfl, hw⟩
set_option maxRecDepth 20000 in
set_option maxHeartbeats 4000000 in
theorem sim_X6_setNear {z : Mz} {l : Launch} {p1 : Int} {p2 : Int} {p3 : Int} {p4 : Int} {h : Mh} {K : Mh → Prop} (hw : wp_X6_setNear p1 p2 p3 p4 h K) : mCal (XC z) l yX6_setNear cX6_setNear 6 none 1 21 [(2, 115), (0, p1), (0, p2), (0, p3), (0, p4)] h (mKv K) := by
  refine m_entry RX6 rfl (by decide) rfl (fun p e s m args below meth c C hr => ?_)
  show mG _ p l e _ s m args below meth c _ _ 0 [(0, (2, 115)), (1, (0, p1)), (2, (0, p2)), (3, (0, p3)), (4, (0, p4))] [] h
  unfold wp_X6_setNear at hw
  refine g_iload_n C dX6_setNear_0 rfl rfl ?_
  refine g_iconst C ⟨by decide, by decide⟩ dX6_setNear_1 ?_
  refine g_imul C dX6_setNear_2 ?_
  refine g_iload_n C dX6_setNear_3 rfl rfl ?_
  refine g_iadd C dX6_setNear_4 ?_
  refine g_topi (fun x1 ex1 => ?_)
  replace hw := hw x1 ex1
  refine g_istore C dX6_setNear_5 (by decide) ?_
  refine g_iload C dX6_setNear_7 rfl ?_
  refine g_if_lt C 53 dX6_setNear_9 rfl hw (fun hw => ?_) (fun hw => ?_)
  · exact g_vret C hr dX6_setNear_53 ⟨rfl, hw⟩
  · refine g_iload C dX6_setNear_12 rfl ?_
    refine g_aload_n C dX6_setNear_14 rfl (by decide) rfl ?_
    refine gw_X6_9 C dX6_setNear_15 kdC_115 wwC_115_1 ?_
    refine g_alen C dX6_setNear_18 (ci := 14) (by decide) skC_116 (by decide) ?_
    refine g_icmp_ge C 53 dX6_setNear_19 rfl hw (fun hw => ?_) (fun hw => ?_)
    · exact g_vret C hr dX6_setNear_53 ⟨rfl, hw⟩
    · refine g_aload_n C dX6_setNear_22 rfl (by decide) rfl ?_
      refine gw_X6_9 C dX6_setNear_23 kdC_115 wwC_115_1 ?_
      refine g_iload C dX6_setNear_26 rfl ?_
      refine g_iload C dX6_setNear_28 rfl ?_
      refine g_if_eq C 51 dX6_setNear_30 rfl hw (fun hw => ?_) (fun hw => ?_)
      · refine g_iconst C ⟨by decide, by decide⟩ dX6_setNear_51 ?_
        obtain ⟨⟨b1, b1b⟩, hw⟩ := hw
        refine g_iastore C dX6_setNear_52 kdC_116 b1 b1b (fun z => z) ?_
        refine g_heap (fun h1 eh1 => ?_)
        replace hw := hw h1 eh1
        exact g_vret C hr dX6_setNear_53 ⟨rfl, hw⟩
      · refine g_aload_n C dX6_setNear_33 rfl (by decide) rfl ?_
        refine gw_X6_39 C dX6_setNear_34 kdC_115 wwC_115_0 ?_
        refine gf_X6_52 C dX6_setNear_37 kdC_53 (fun z37 => ?_)
        refine g_iload_n C dX6_setNear_40 rfl rfl ?_
        obtain ⟨q1, hw⟩ := hw
        refine g_callVz C [(0, p3)] (sim_X5_isWet wirC q1 hw) k_1029 k_994 k_995 k_135 k_996 hdV_X5_isWet rfl rfl (by decide) rfl q1 rfl rfl rfl dX6_setNear_41 ?_
        intro x2 h2 zb41 hw
        refine g_if_eq C 51 dX6_setNear_44 rfl hw (fun hw => ?_) (fun hw => ?_)
        · refine g_iconst C ⟨by decide, by decide⟩ dX6_setNear_51 ?_
          obtain ⟨⟨b2, b2b⟩, hw⟩ := hw
          refine g_iastore C dX6_setNear_52 kdC_116 b2 b2b (fun z => z) ?_
          refine g_heap (fun h3 eh3 => ?_)
          replace hw := hw h3 eh3
          exact g_vret C hr dX6_setNear_53 ⟨rfl, hw⟩
        · refine g_iload_n C dX6_setNear_47 rfl rfl ?_
          refine g_goto C 52 dX6_setNear_48 rfl ?_
          obtain ⟨⟨b3, b3b⟩, hw⟩ := hw
          refine g_iastore C dX6_setNear_52 kdC_116 b3 b3b (fun z => z) ?_
          refine g_heap (fun h4 eh4 => ?_)
          replace hw := hw h4 eh4
          exact g_vret C hr dX6_setNear_53 ⟨rfl, hw⟩
set_option maxRecDepth 20000 in
set_option maxHeartbeats 4000000 in
theorem sim_X6_layNeighbours {z : Mz} {l : Launch} {h : Mh} {K : Mh → Prop} (hw : wp_X6_layNeighbours h K) : mCal (XC z) l yX6_layNeighbours cX6_layNeighbours 6 none 2 46 [(2, 115)] h (mKv K) := by
  refine m_entry RX6 rfl (by decide) rfl (fun p e s m args below meth c C hr => ?_)
  have hQ : ∀ x, Lfp (F_X6_layNeighbours K) x → (match x.1, x.2.1 with | 24, [v1, v2, v3] => mG (XC z) p l e { frames := 2, cells := 0, slots := 0, locals := 46 } s m args below meth c 6 (mMQ (XC z) (mKv K) below args s) 24 [(1, (0, v1)), (2, (0, v2)), (3, (0, v3)), (0, (2, 115))] [] x.2.2 | 32, [v1, v2, v3, v4] => mG (XC z) p l e { frames := 2, cells := 0, slots := 0, locals := 46 } s m args below meth c 6 (mMQ (XC z) (mKv K) below args s) 32 [(1, (0, v1)), (2, (0, v2)), (3, (0, v3)), (4, (0, v4)), (0, (2, 115))] [] x.2.2 | 73, [v1, v2, v3, v4, v5, s1, s2, s3, s4] => mG (XC z) p l e { frames := 2, cells := 0, slots := 0, locals := 46 } s m args below meth c 6 (mMQ (XC z) (mKv K) below args s) 73 [(1, (0, v1)), (2, (0, v2)), (3, (0, v3)), (4, (0, v4)), (5, (0, v5)), (0, (2, 115))] [(0, s4), (0, s3), (0, s2), (0, s1), (2, 115)] x.2.2 | 97, [v1, v2, v3, v4, v5, s1, s2, s3, s4] => mG (XC z) p l e { frames := 2, cells := 0, slots := 0, locals := 46 } s m args below meth c 6 (mMQ (XC z) (mKv K) below args s) 97 [(1, (0, v1)), (2, (0, v2)), (3, (0, v3)), (4, (0, v4)), (5, (0, v5)), (0, (2, 115))] [(0, s4), (0, s3), (0, s2), (0, s1), (2, 115)] x.2.2 | 120, [v1, v2, v3, v4, v5, s1, s2, s3, s4] => mG (XC z) p l e { frames := 2, cells := 0, slots := 0, locals := 46 } s m args below meth c 6 (mMQ (XC z) (mKv K) below args s) 120 [(1, (0, v1)), (2, (0, v2)), (3, (0, v3)), (4, (0, v4)), (5, (0, v5)), (0, (2, 115))] [(0, s4), (0, s3), (0, s2), (0, s1), (2, 115)] x.2.2 | _, _ => True) := by
    intro x hx
    refine Lfp.ind (fun x => (match x.1, x.2.1 with | 24, [v1, v2, v3] => mG (XC z) p l e { frames := 2, cells := 0, slots := 0, locals := 46 } s m args below meth c 6 (mMQ (XC z) (mKv K) below args s) 24 [(1, (0, v1)), (2, (0, v2)), (3, (0, v3)), (0, (2, 115))] [] x.2.2 | 32, [v1, v2, v3, v4] => mG (XC z) p l e { frames := 2, cells := 0, slots := 0, locals := 46 } s m args below meth c 6 (mMQ (XC z) (mKv K) below args s) 32 [(1, (0, v1)), (2, (0, v2)), (3, (0, v3)), (4, (0, v4)), (0, (2, 115))] [] x.2.2 | 73, [v1, v2, v3, v4, v5, s1, s2, s3, s4] => mG (XC z) p l e { frames := 2, cells := 0, slots := 0, locals := 46 } s m args below meth c 6 (mMQ (XC z) (mKv K) below args s) 73 [(1, (0, v1)), (2, (0, v2)), (3, (0, v3)), (4, (0, v4)), (5, (0, v5)), (0, (2, 115))] [(0, s4), (0, s3), (0, s2), (0, s1), (2, 115)] x.2.2 | 97, [v1, v2, v3, v4, v5, s1, s2, s3, s4] => mG (XC z) p l e { frames := 2, cells := 0, slots := 0, locals := 46 } s m args below meth c 6 (mMQ (XC z) (mKv K) below args s) 97 [(1, (0, v1)), (2, (0, v2)), (3, (0, v3)), (4, (0, v4)), (5, (0, v5)), (0, (2, 115))] [(0, s4), (0, s3), (0, s2), (0, s1), (2, 115)] x.2.2 | 120, [v1, v2, v3, v4, v5, s1, s2, s3, s4] => mG (XC z) p l e { frames := 2, cells := 0, slots := 0, locals := 46 } s m args below meth c 6 (mMQ (XC z) (mKv K) below args s) 120 [(1, (0, v1)), (2, (0, v2)), (3, (0, v3)), (4, (0, v4)), (5, (0, v5)), (0, (2, 115))] [(0, s4), (0, s3), (0, s2), (0, s1), (2, 115)] x.2.2 | _, _ => True)) ?_ hx
    clear hx x
    intro Z x hQ hw
    rcases hw with ⟨v1, v2, v3, h, rfl, hw⟩ | ⟨v1, v2, v3, v4, h, rfl, hw⟩ | ⟨v1, v2, v3, v4, v5, s1, s2, s3, s4, h, rfl, hw⟩ | ⟨v1, v2, v3, v4, v5, s1, s2, s3, s4, h, rfl, hw⟩ | ⟨v1, v2, v3, v4, v5, s1, s2, s3, s4, h, rfl, hw⟩
    · show mG (XC z) p l e { frames := 2, cells := 0, slots := 0, locals := 46 } s m args below meth c 6 (mMQ (XC z) (mKv K) below args s) 24 [(1, (0, v1)), (2, (0, v2)), (3, (0, v3)), (0, (2, 115))] [] h
      unfold B_X6_layNeighbours_24 at hw
      refine g_iload_n C dX6_layNeighbours_24 rfl rfl ?_
      refine g_iload_n C dX6_layNeighbours_25 rfl rfl ?_
      refine g_icmp_ge C 156 dX6_layNeighbours_26 rfl hw (fun hw => ?_) (fun hw => ?_)
      · exact g_vret C hr dX6_layNeighbours_156 ⟨rfl, hw⟩
      · refine g_iconst C ⟨by decide, by decide⟩ dX6_layNeighbours_29 ?_
        refine g_istore C dX6_layNeighbours_30 (by decide) ?_
        exact g_sub [1, 2, 3, 4, 0] rfl (hQ _ hw)
    · show mG (XC z) p l e { frames := 2, cells := 0, slots := 0, locals := 46 } s m args below meth c 6 (mMQ (XC z) (mKv K) below args s) 32 [(1, (0, v1)), (2, (0, v2)), (3, (0, v3)), (4, (0, v4)), (0, (2, 115))] [] h
      unfold B_X6_layNeighbours_32 at hw
      refine g_iload C dX6_layNeighbours_32 rfl ?_
      refine g_iload_n C dX6_layNeighbours_34 rfl rfl ?_
      refine g_icmp_ge C 150 dX6_layNeighbours_35 rfl hw (fun hw => ?_) (fun hw => ?_)
      · refine g_iincN C dX6_layNeighbours_150 rfl (by decide) (fun x1 ex1 => ?_)
        replace hw := hw x1 ex1
        refine g_goto C 24 dX6_layNeighbours_153 rfl ?_
        exact g_sub [1, 2, 3, 0] rfl (hQ _ hw)
      · refine g_iload_n C dX6_layNeighbours_38 rfl rfl ?_
        refine g_iload_n C dX6_layNeighbours_39 rfl rfl ?_
        refine g_imul C dX6_layNeighbours_40 ?_
        refine g_iload C dX6_layNeighbours_41 rfl ?_
        refine g_iadd C dX6_layNeighbours_43 ?_
        refine g_topi (fun x2 ex2 => ?_)
        replace hw := hw x2 ex2
        refine g_istore C dX6_layNeighbours_44 (by decide) ?_
        refine g_aload_n C dX6_layNeighbours_46 rfl (by decide) rfl ?_
        refine g_iload C dX6_layNeighbours_47 rfl ?_
        refine g_iconst C ⟨by decide, by decide⟩ dX6_layNeighbours_49 ?_
        refine g_iload C dX6_layNeighbours_50 rfl ?_
        refine g_iconst C ⟨by decide, by decide⟩ dX6_layNeighbours_52 ?_
        refine g_callVv C [(0, x2), (0, 0), (0, x2), (0, 1)] (sim_X6_setNear hw) k_1025 k_1027 k_38 k_144 k_1028 hdV_X6_setNear rfl rfl (by decide) rfl kdC_115 rfl rfl rfl dX6_layNeighbours_53 ?_
        intro h1 hw
        refine g_aload_n C dX6_layNeighbours_56 rfl (by decide) rfl ?_
        refine g_iload C dX6_layNeighbours_57 rfl ?_
        refine g_iconst C ⟨by decide, by decide⟩ dX6_layNeighbours_59 ?_
        refine g_iload C dX6_layNeighbours_60 rfl ?_
        refine g_iload_n C dX6_layNeighbours_62 rfl rfl ?_
        refine g_isub C dX6_layNeighbours_63 ?_
        refine g_iload_n C dX6_layNeighbours_64 rfl rfl ?_
        refine g_if_le C 72 dX6_layNeighbours_65 rfl hw (fun hw => ?_) (fun hw => ?_)
        · refine g_iconst C ⟨by decide, by decide⟩ dX6_layNeighbours_72 ?_
          exact g_sub [1, 2, 3, 4, 5, 0] rfl (hQ _ hw)
        · refine g_iconst C ⟨by decide, by decide⟩ dX6_layNeighbours_68 ?_
          refine g_goto C 73 dX6_layNeighbours_69 rfl ?_
          exact g_sub [1, 2, 3, 4, 5, 0] rfl (hQ _ hw)
    · show mG (XC z) p l e { frames := 2, cells := 0, slots := 0, locals := 46 } s m args below meth c 6 (mMQ (XC z) (mKv K) below args s) 73 [(1, (0, v1)), (2, (0, v2)), (3, (0, v3)), (4, (0, v4)), (5, (0, v5)), (0, (2, 115))] [(0, s4), (0, s3), (0, s2), (0, s1), (2, 115)] h
      unfold B_X6_layNeighbours_73 at hw
      refine g_callVv C [(0, s1), (0, s2), (0, s3), (0, s4)] (sim_X6_setNear hw) k_1025 k_1027 k_38 k_144 k_1028 hdV_X6_setNear rfl rfl (by decide) rfl kdC_115 rfl rfl rfl dX6_layNeighbours_73 ?_
      intro h1 hw
      refine g_aload_n C dX6_layNeighbours_76 rfl (by decide) rfl ?_
      refine g_iload C dX6_layNeighbours_77 rfl ?_
      refine g_iconst C ⟨by decide, by decide⟩ dX6_layNeighbours_79 ?_
      refine g_iload C dX6_layNeighbours_80 rfl ?_
      refine g_iconst C ⟨by decide, by decide⟩ dX6_layNeighbours_82 ?_
      refine g_iadd C dX6_layNeighbours_83 ?_
      refine g_iload C dX6_layNeighbours_84 rfl ?_
      refine g_iconst C ⟨by decide, by decide⟩ dX6_layNeighbours_86 ?_
      refine g_iadd C dX6_layNeighbours_87 ?_
      refine g_iload_n C dX6_layNeighbours_88 rfl rfl ?_
      refine g_icmp_ge C 96 dX6_layNeighbours_89 rfl hw (fun hw => ?_) (fun hw => ?_)
      · refine g_iconst C ⟨by decide, by decide⟩ dX6_layNeighbours_96 ?_
        exact g_sub [1, 2, 3, 4, 5, 0] rfl (hQ _ hw)
      · refine g_iconst C ⟨by decide, by decide⟩ dX6_layNeighbours_92 ?_
        refine g_goto C 97 dX6_layNeighbours_93 rfl ?_
        exact g_sub [1, 2, 3, 4, 5, 0] rfl (hQ _ hw)
    · show mG (XC z) p l e { frames := 2, cells := 0, slots := 0, locals := 46 } s m args below meth c 6 (mMQ (XC z) (mKv K) below args s) 97 [(1, (0, v1)), (2, (0, v2)), (3, (0, v3)), (4, (0, v4)), (5, (0, v5)), (0, (2, 115))] [(0, s4), (0, s3), (0, s2), (0, s1), (2, 115)] h
      unfold B_X6_layNeighbours_97 at hw
      refine g_callVv C [(0, s1), (0, s2), (0, s3), (0, s4)] (sim_X6_setNear hw) k_1025 k_1027 k_38 k_144 k_1028 hdV_X6_setNear rfl rfl (by decide) rfl kdC_115 rfl rfl rfl dX6_layNeighbours_97 ?_
      intro h1 hw
      refine g_aload_n C dX6_layNeighbours_100 rfl (by decide) rfl ?_
      refine g_iload C dX6_layNeighbours_101 rfl ?_
      refine g_iconst C ⟨by decide, by decide⟩ dX6_layNeighbours_103 ?_
      refine g_iload C dX6_layNeighbours_104 rfl ?_
      refine g_iload_n C dX6_layNeighbours_106 rfl rfl ?_
      refine g_iadd C dX6_layNeighbours_107 ?_
      refine g_iload_n C dX6_layNeighbours_108 rfl rfl ?_
      refine g_iconst C ⟨by decide, by decide⟩ dX6_layNeighbours_109 ?_
      refine g_iadd C dX6_layNeighbours_110 ?_
      refine g_iload_n C dX6_layNeighbours_111 rfl rfl ?_
      refine g_icmp_ge C 119 dX6_layNeighbours_112 rfl hw (fun hw => ?_) (fun hw => ?_)
      · refine g_iconst C ⟨by decide, by decide⟩ dX6_layNeighbours_119 ?_
        exact g_sub [1, 2, 3, 4, 5, 0] rfl (hQ _ hw)
      · refine g_iconst C ⟨by decide, by decide⟩ dX6_layNeighbours_115 ?_
        refine g_goto C 120 dX6_layNeighbours_116 rfl ?_
        exact g_sub [1, 2, 3, 4, 5, 0] rfl (hQ _ hw)
    · show mG (XC z) p l e { frames := 2, cells := 0, slots := 0, locals := 46 } s m args below meth c 6 (mMQ (XC z) (mKv K) below args s) 120 [(1, (0, v1)), (2, (0, v2)), (3, (0, v3)), (4, (0, v4)), (5, (0, v5)), (0, (2, 115))] [(0, s4), (0, s3), (0, s2), (0, s1), (2, 115)] h
      unfold B_X6_layNeighbours_120 at hw
      refine g_callVv C [(0, s1), (0, s2), (0, s3), (0, s4)] (sim_X6_setNear hw) k_1025 k_1027 k_38 k_144 k_1028 hdV_X6_setNear rfl rfl (by decide) rfl kdC_115 rfl rfl rfl dX6_layNeighbours_120 ?_
      intro h1 hw
      refine g_aload_n C dX6_layNeighbours_123 rfl (by decide) rfl ?_
      refine g_iload C dX6_layNeighbours_124 rfl ?_
      refine g_iconst C ⟨by decide, by decide⟩ dX6_layNeighbours_126 ?_
      refine g_iload C dX6_layNeighbours_127 rfl ?_
      refine g_iconst C ⟨by decide, by decide⟩ dX6_layNeighbours_129 ?_
      refine g_isub C dX6_layNeighbours_130 ?_
      refine g_iload C dX6_layNeighbours_131 rfl ?_
      refine g_if_le C 140 dX6_layNeighbours_133 rfl hw (fun hw => ?_) (fun hw => ?_)
      · refine g_iconst C ⟨by decide, by decide⟩ dX6_layNeighbours_140 ?_
        refine g_callVv C [(0, v5), (0, 4), (0, w32 (v5 - 1)), (0, 0)] (sim_X6_setNear hw) k_1025 k_1027 k_38 k_144 k_1028 hdV_X6_setNear rfl rfl (by decide) rfl kdC_115 rfl rfl rfl dX6_layNeighbours_141 ?_
        intro h2 hw
        refine g_iincN C dX6_layNeighbours_144 rfl (by decide) (fun x1 ex1 => ?_)
        replace hw := hw x1 ex1
        refine g_goto C 32 dX6_layNeighbours_147 rfl ?_
        exact g_sub [1, 2, 3, 4, 0] rfl (hQ _ hw)
      · refine g_iconst C ⟨by decide, by decide⟩ dX6_layNeighbours_136 ?_
        refine g_goto C 141 dX6_layNeighbours_137 rfl ?_
        refine g_callVv C [(0, v5), (0, 4), (0, w32 (v5 - 1)), (0, 1)] (sim_X6_setNear hw) k_1025 k_1027 k_38 k_144 k_1028 hdV_X6_setNear rfl rfl (by decide) rfl kdC_115 rfl rfl rfl dX6_layNeighbours_141 ?_
        intro h3 hw
        refine g_iincN C dX6_layNeighbours_144 rfl (by decide) (fun x2 ex2 => ?_)
        replace hw := hw x2 ex2
        refine g_goto C 32 dX6_layNeighbours_147 rfl ?_
        exact g_sub [1, 2, 3, 4, 0] rfl (hQ _ hw)
  show mG _ p l e _ s m args below meth c _ _ 0 [(0, (2, 115))] [] h
  unfold wp_X6_layNeighbours at hw
  refine g_aload_n C dX6_layNeighbours_0 rfl (by decide) rfl ?_
  refine gw_X6_39 C dX6_layNeighbours_1 kdC_115 wwC_115_0 ?_
  refine gf_X6_52 C dX6_layNeighbours_4 kdC_53 (fun z4 => ?_)
  obtain ⟨q1, hw⟩ := hw
  refine gf_X6_133 C dX6_layNeighbours_7 q1 (fun z7 => ?_)
  refine g_topi (fun x1 ex1 => ?_)
  replace hw := hw x1 ex1
  refine g_istore_n C dX6_layNeighbours_10 rfl (by decide) ?_
  refine g_aload_n C dX6_layNeighbours_11 rfl (by decide) rfl ?_
  refine gw_X6_39 C dX6_layNeighbours_12 kdC_115 wwC_115_0 ?_
  refine gf_X6_52 C dX6_layNeighbours_15 kdC_53 (fun z15 => ?_)
  refine gf_X6_136 C dX6_layNeighbours_18 q1 (fun z18 => ?_)
  refine g_topi (fun x2 ex2 => ?_)
  replace hw := hw x2 ex2
  refine g_istore_n C dX6_layNeighbours_21 rfl (by decide) ?_
  refine g_iconst C ⟨by decide, by decide⟩ dX6_layNeighbours_22 ?_
  refine g_istore_n C dX6_layNeighbours_23 rfl (by decide) ?_
  exact g_sub [1, 2, 3, 0] rfl (hQ _ hw)
set_option maxRecDepth 20000 in
set_option maxHeartbeats 4000000 in
theorem sim_X6_handOn {z : Mz} {l : Launch} {p1 : Int} {p2 : Int} {p3 : Int} {h : Mh} {K : Int → Mh → Prop} (hw : wp_X6_handOn p1 p2 p3 h K) : mCal (XC z) l yX6_handOn cX6_handOn 8 (some Jvm.ClassFile.FieldType.boolean) 1 21 [(2, 115), (0, p1), (0, p2), (0, p3)] h (mKz K) := by
  refine m_entry RX6 rfl (by decide) rfl (fun p e s m args below meth c C hr => ?_)
  have hQ : ∀ x, Lfp (F_X6_handOn p1 p2 p3 K) x → (match x.1, x.2.1 with | 59, [v4, v5, s0, s1] => mG (XC z) p l e { frames := 1, cells := 0, slots := 0, locals := 21 } s m args below meth c 8 (mMQ (XC z) (mKz K) below args s) 59 [(4, (0, v4)), (5, (0, v5)), (0, (2, 115)), (1, (0, p1)), (2, (0, p2)), (3, (0, p3))] [(0, s1), (0, s0)] x.2.2 | 77, [v4, v5, v6, s0] => mG (XC z) p l e { frames := 1, cells := 0, slots := 0, locals := 21 } s m args below meth c 8 (mMQ (XC z) (mKz K) below args s) 77 [(4, (0, v4)), (5, (0, v5)), (6, (0, v6)), (0, (2, 115)), (1, (0, p1)), (2, (0, p2)), (3, (0, p3))] [(0, s0)] x.2.2 | _, _ => True) := by
    intro x hx
    refine Lfp.ind (fun x => (match x.1, x.2.1 with | 59, [v4, v5, s0, s1] => mG (XC z) p l e { frames := 1, cells := 0, slots := 0, locals := 21 } s m args below meth c 8 (mMQ (XC z) (mKz K) below args s) 59 [(4, (0, v4)), (5, (0, v5)), (0, (2, 115)), (1, (0, p1)), (2, (0, p2)), (3, (0, p3))] [(0, s1), (0, s0)] x.2.2 | 77, [v4, v5, v6, s0] => mG (XC z) p l e { frames := 1, cells := 0, slots := 0, locals := 21 } s m args below meth c 8 (mMQ (XC z) (mKz K) below args s) 77 [(4, (0, v4)), (5, (0, v5)), (6, (0, v6)), (0, (2, 115)), (1, (0, p1)), (2, (0, p2)), (3, (0, p3))] [(0, s0)] x.2.2 | _, _ => True)) ?_ hx
    clear hx x
    intro Z x hQ hw
    rcases hw with ⟨v4, v5, s0, s1, h, rfl, hw⟩ | ⟨v4, v5, v6, s0, h, rfl, hw⟩
    · show mG (XC z) p l e { frames := 1, cells := 0, slots := 0, locals := 21 } s m args below meth c 8 (mMQ (XC z) (mKz K) below args s) 59 [(4, (0, v4)), (5, (0, v5)), (0, (2, 115)), (1, (0, p1)), (2, (0, p2)), (3, (0, p3))] [(0, s1), (0, s0)] h
      unfold B_X6_handOn_59 at hw
      refine g_iadd C dX6_handOn_59 ?_
      refine g_topi (fun x1 ex1 => ?_)
      replace hw := hw x1 ex1
      refine g_istore C dX6_handOn_60 (by decide) ?_
      refine g_aload_n C dX6_handOn_62 rfl (by decide) rfl ?_
      refine gw_X6_15 C dX6_handOn_63 kdC_115 wwC_115_2 ?_
      refine g_iload C dX6_handOn_66 rfl ?_
      obtain ⟨⟨b2, b2b⟩, hw⟩ := hw
      refine g_iaload C dX6_handOn_68 kdC_117 b2 b2b (fun z68 => ?_)
      refine g_if_ge C 76 dX6_handOn_69 rfl hw (fun hw => ?_) (fun hw => ?_)
      · refine g_iconst C ⟨by decide, by decide⟩ dX6_handOn_76 ?_
        exact g_sub [4, 5, 6, 0, 1, 2, 3] rfl (hQ _ hw)
      · refine g_iconst C ⟨by decide, by decide⟩ dX6_handOn_72 ?_
        refine g_goto C 77 dX6_handOn_73 rfl ?_
        exact g_sub [4, 5, 6, 0, 1, 2, 3] rfl (hQ _ hw)
    · show mG (XC z) p l e { frames := 1, cells := 0, slots := 0, locals := 21 } s m args below meth c 8 (mMQ (XC z) (mKz K) below args s) 77 [(4, (0, v4)), (5, (0, v5)), (6, (0, v6)), (0, (2, 115)), (1, (0, p1)), (2, (0, p2)), (3, (0, p3))] [(0, s0)] h
      unfold B_X6_handOn_77 at hw
      refine g_istore C dX6_handOn_77 (by decide) ?_
      refine g_iload C dX6_handOn_79 rfl ?_
      refine g_if_ne C 115 dX6_handOn_81 rfl hw (fun hw => ?_) (fun hw => ?_)
      · refine g_aload_n C dX6_handOn_115 rfl (by decide) rfl ?_
        refine gw_X6_15 C dX6_handOn_116 kdC_115 wwC_115_2 ?_
        refine g_iload C dX6_handOn_119 rfl ?_
        refine g_aload_n C dX6_handOn_121 rfl (by decide) rfl ?_
        refine gw_X6_15 C dX6_handOn_122 kdC_115 wwC_115_2 ?_
        refine g_iload C dX6_handOn_125 rfl ?_
        obtain ⟨⟨b3, b3b⟩, hw⟩ := hw
        refine g_iaload C dX6_handOn_127 kdC_117 b3 b3b (fun z127 => ?_)
        refine g_iconst C ⟨by decide, by decide⟩ dX6_handOn_128 ?_
        refine g_iadd C dX6_handOn_129 ?_
        obtain ⟨⟨b4, b4b⟩, hw⟩ := hw
        refine g_iastore C dX6_handOn_130 kdC_117 b4 b4b (fun z => z) ?_
        refine g_heap (fun h1 eh1 => ?_)
        replace hw := hw h1 eh1
        refine g_aload_n C dX6_handOn_131 rfl (by decide) rfl ?_
        refine gw_X6_18 C dX6_handOn_132 kdC_115 wwC_115_3 ?_
        refine g_iload C dX6_handOn_135 rfl ?_
        refine g_iload C dX6_handOn_137 rfl ?_
        obtain ⟨⟨b5, b5b⟩, hw⟩ := hw
        refine g_iastore C dX6_handOn_139 kdC_118 b5 b5b (fun z => z) ?_
        refine g_heap (fun h2 eh2 => ?_)
        replace hw := hw h2 eh2
        refine g_iload C dX6_handOn_140 rfl ?_
        obtain ⟨zb, hw⟩ := hw
        exact g_zret C hr zb dX6_handOn_142 ⟨_, rfl, zb, hw⟩
      · refine g_aload_n C dX6_handOn_84 rfl (by decide) rfl ?_
        refine gw_X6_15 C dX6_handOn_85 kdC_115 wwC_115_2 ?_
        refine g_iload C dX6_handOn_88 rfl ?_
        obtain ⟨⟨b6, b6b⟩, hw⟩ := hw
        refine g_iaload C dX6_handOn_90 kdC_117 b6 b6b (fun z90 => ?_)
        refine g_aload_n C dX6_handOn_91 rfl (by decide) rfl ?_
        refine gw_X6_15 C dX6_handOn_92 kdC_115 wwC_115_2 ?_
        refine g_iload C dX6_handOn_95 rfl ?_
        obtain ⟨⟨b7, b7b⟩, hw⟩ := hw
        refine g_iaload C dX6_handOn_97 kdC_117 b7 b7b (fun z97 => ?_)
        refine g_iconst C ⟨by decide, by decide⟩ dX6_handOn_98 ?_
        refine g_iadd C dX6_handOn_99 ?_
        refine g_icmp_ne C 140 dX6_handOn_100 rfl hw (fun hw => ?_) (fun hw => ?_)
        · refine g_iload C dX6_handOn_140 rfl ?_
          obtain ⟨zb, hw⟩ := hw
          exact g_zret C hr zb dX6_handOn_142 ⟨_, rfl, zb, hw⟩
        · refine g_iload C dX6_handOn_103 rfl ?_
          refine g_aload_n C dX6_handOn_105 rfl (by decide) rfl ?_
          refine gw_X6_18 C dX6_handOn_106 kdC_115 wwC_115_3 ?_
          refine g_iload C dX6_handOn_109 rfl ?_
          obtain ⟨⟨b8, b8b⟩, hw⟩ := hw
          refine g_iaload C dX6_handOn_111 kdC_118 b8 b8b (fun z111 => ?_)
          refine g_icmp_ge C 140 dX6_handOn_112 rfl hw (fun hw => ?_) (fun hw => ?_)
          · refine g_iload C dX6_handOn_140 rfl ?_
            obtain ⟨zb, hw⟩ := hw
            exact g_zret C hr zb dX6_handOn_142 ⟨_, rfl, zb, hw⟩
          · refine g_aload_n C dX6_handOn_115 rfl (by decide) rfl ?_
            refine gw_X6_15 C dX6_handOn_116 kdC_115 wwC_115_2 ?_
            refine g_iload C dX6_handOn_119 rfl ?_
            refine g_aload_n C dX6_handOn_121 rfl (by decide) rfl ?_
            refine gw_X6_15 C dX6_handOn_122 kdC_115 wwC_115_2 ?_
            refine g_iload C dX6_handOn_125 rfl ?_
            obtain ⟨⟨b9, b9b⟩, hw⟩ := hw
            refine g_iaload C dX6_handOn_127 kdC_117 b9 b9b (fun z127 => ?_)
            refine g_iconst C ⟨by decide, by decide⟩ dX6_handOn_128 ?_
            refine g_iadd C dX6_handOn_129 ?_
            obtain ⟨⟨b10, b10b⟩, hw⟩ := hw
            refine g_iastore C dX6_handOn_130 kdC_117 b10 b10b (fun z => z) ?_
            refine g_heap (fun h3 eh3 => ?_)
            replace hw := hw h3 eh3
            refine g_aload_n C dX6_handOn_131 rfl (by decide) rfl ?_
            refine gw_X6_18 C dX6_handOn_132 kdC_115 wwC_115_3 ?_
            refine g_iload C dX6_handOn_135 rfl ?_
            refine g_iload C dX6_handOn_137 rfl ?_
            obtain ⟨⟨b11, b11b⟩, hw⟩ := hw
            refine g_iastore C dX6_handOn_139 kdC_118 b11 b11b (fun z => z) ?_
            refine g_heap (fun h4 eh4 => ?_)
            replace hw := hw h4 eh4
            refine g_iload C dX6_handOn_140 rfl ?_
            obtain ⟨zb, hw⟩ := hw
            exact g_zret C hr zb dX6_handOn_142 ⟨_, rfl, zb, hw⟩
  show mG _ p l e _ s m args below meth c _ _ 0 [(0, (2, 115)), (1, (0, p1)), (2, (0, p2)), (3, (0, p3))] [] h
  unfold wp_X6_handOn at hw
  refine g_iload_n C dX6_handOn_0 rfl rfl ?_
  refine g_bipush C ⟨by decide, by decide⟩ (by decide) dX6_handOn_1 ?_
  refine g_imul C dX6_handOn_3 ?_
  refine g_iload_n C dX6_handOn_4 rfl rfl ?_
  refine g_iadd C dX6_handOn_5 ?_
  refine g_topi (fun x1 ex1 => ?_)
  replace hw := hw x1 ex1
  refine g_istore C dX6_handOn_6 (by decide) ?_
  refine g_iload_n C dX6_handOn_8 rfl rfl ?_
  refine g_bipush C ⟨by decide, by decide⟩ (by decide) dX6_handOn_9 ?_
  refine g_imul C dX6_handOn_11 ?_
  refine g_iload_n C dX6_handOn_12 rfl rfl ?_
  refine g_iadd C dX6_handOn_13 ?_
  refine g_topi (fun x2 ex2 => ?_)
  replace hw := hw x2 ex2
  refine g_istore C dX6_handOn_14 (by decide) ?_
  refine g_aload_n C dX6_handOn_16 rfl (by decide) rfl ?_
  refine gw_X6_18 C dX6_handOn_17 kdC_115 wwC_115_3 ?_
  refine g_iload C dX6_handOn_20 rfl ?_
  obtain ⟨⟨b1, b1b⟩, hw⟩ := hw
  refine g_iaload C dX6_handOn_22 kdC_118 b1 b1b (fun z22 => ?_)
  refine g_aload_n C dX6_handOn_23 rfl (by decide) rfl ?_
  refine gw_X6_39 C dX6_handOn_24 kdC_115 wwC_115_0 ?_
  refine gf_X6_52 C dX6_handOn_27 kdC_53 (fun z27 => ?_)
  obtain ⟨q1, hw⟩ := hw
  refine gf_X6_157 C dX6_handOn_30 q1 (fun z30 => ?_)
  refine g_iadd C dX6_handOn_33 ?_
  refine g_aload_n C dX6_handOn_34 rfl (by decide) rfl ?_
  refine gw_X6_39 C dX6_handOn_35 kdC_115 wwC_115_0 ?_
  refine g_iload_n C dX6_handOn_38 rfl rfl ?_
  refine g_callVz C [(0, p3)] (sim_X11_hasReeds hw) k_1047 k_998 k_999 k_142 k_1000 hdV_X11_hasReeds rfl rfl (by decide) rfl kdC_53 rfl rfl rfl dX6_handOn_39 ?_
  intro x3 h1 zb39 hw
  refine g_if_eq C 58 dX6_handOn_42 rfl hw (fun hw => ?_) (fun hw => ?_)
  · refine g_iconst C ⟨by decide, by decide⟩ dX6_handOn_58 ?_
    exact g_sub [4, 5, 0, 1, 2, 3] rfl (hQ _ hw)
  · refine g_aload_n C dX6_handOn_45 rfl (by decide) rfl ?_
    refine gw_X6_39 C dX6_handOn_46 kdC_115 wwC_115_0 ?_
    refine gf_X6_52 C dX6_handOn_49 kdC_53 (fun z49 => ?_)
    obtain ⟨q2, hw⟩ := hw
    refine gf_X6_163 C dX6_handOn_52 q2 (fun z52 => ?_)
    refine g_goto C 59 dX6_handOn_55 rfl ?_
    exact g_sub [4, 5, 0, 1, 2, 3] rfl (hQ _ hw)
set_option maxRecDepth 20000 in
set_option maxHeartbeats 4000000 in
theorem sim_X6_nearOf {z : Mz} {l : Launch} {p1 : Int} {p2 : Int} {h : Mh} {K : Int → Mh → Prop} (hw : wp_X6_nearOf p1 p2 h K) : mCal (XC z) l yX6_nearOf cX6_nearOf 4 (some Jvm.ClassFile.FieldType.int) 1 21 [(2, 115), (0, p1), (0, p2)] h (mKi K) := by
  refine m_entry RX6 rfl (by decide) rfl (fun p e s m args below meth c C hr => ?_)
  have hQ : ∀ x, Lfp (F_X6_nearOf p1 p2 K) x → (match x.1, x.2.1 with | 33, [] => mG (XC z) p l e { frames := 1, cells := 0, slots := 0, locals := 21 } s m args below meth c 4 (mMQ (XC z) (mKi K) below args s) 33 [(0, (2, 115)), (1, (0, p1)), (2, (0, p2))] [] x.2.2 | _, _ => True) := by
    intro x hx
    refine Lfp.ind (fun x => (match x.1, x.2.1 with | 33, [] => mG (XC z) p l e { frames := 1, cells := 0, slots := 0, locals := 21 } s m args below meth c 4 (mMQ (XC z) (mKi K) below args s) 33 [(0, (2, 115)), (1, (0, p1)), (2, (0, p2))] [] x.2.2 | _, _ => True)) ?_ hx
    clear hx x
    intro Z x hQ hw
    rcases hw with ⟨h, rfl, hw⟩
    · show mG (XC z) p l e { frames := 1, cells := 0, slots := 0, locals := 21 } s m args below meth c 4 (mMQ (XC z) (mKi K) below args s) 33 [(0, (2, 115)), (1, (0, p1)), (2, (0, p2))] [] h
      unfold B_X6_nearOf_33 at hw
      refine g_iconst C ⟨by decide, by decide⟩ dX6_nearOf_33 ?_
      refine g_istore_n C dX6_nearOf_34 rfl (by decide) ?_
      refine g_iload_n C dX6_nearOf_35 rfl rfl ?_
      refine g_if_eq C 52 dX6_nearOf_36 rfl hw (fun hw => ?_) (fun hw => ?_)
      · refine g_iconst C ⟨by decide, by decide⟩ dX6_nearOf_52 ?_
        exact g_iret C hr dX6_nearOf_53 ⟨_, rfl, hw⟩
      · refine g_aload_n C dX6_nearOf_39 rfl (by decide) rfl ?_
        refine gw_X6_9 C dX6_nearOf_40 kdC_115 wwC_115_1 ?_
        refine g_iload_n C dX6_nearOf_43 rfl rfl ?_
        refine g_iconst C ⟨by decide, by decide⟩ dX6_nearOf_44 ?_
        refine g_imul C dX6_nearOf_45 ?_
        refine g_iload_n C dX6_nearOf_46 rfl rfl ?_
        refine g_iadd C dX6_nearOf_47 ?_
        obtain ⟨⟨b2, b2b⟩, hw⟩ := hw
        refine g_iaload C dX6_nearOf_48 kdC_116 b2 b2b (fun z48 => ?_)
        refine g_goto C 53 dX6_nearOf_49 rfl ?_
        exact g_iret C hr dX6_nearOf_53 ⟨_, rfl, hw⟩
  show mG _ p l e _ s m args below meth c _ _ 0 [(0, (2, 115)), (1, (0, p1)), (2, (0, p2))] [] h
  unfold wp_X6_nearOf at hw
  refine g_aload_n C dX6_nearOf_0 rfl (by decide) rfl ?_
  refine gw_X6_39 C dX6_nearOf_1 kdC_115 wwC_115_0 ?_
  refine gf_X6_52 C dX6_nearOf_4 kdC_53 (fun z4 => ?_)
  refine g_iload_n C dX6_nearOf_7 rfl rfl ?_
  obtain ⟨q1, hw⟩ := hw
  refine g_callVz C [(0, p1)] (sim_X5_isCell wirC q1 hw) k_1042 k_990 k_991 k_135 k_992 hdV_X5_isCell rfl rfl (by decide) rfl q1 rfl rfl rfl dX6_nearOf_8 ?_
  intro x1 h1 zb8 hw
  refine g_if_eq C 33 dX6_nearOf_11 rfl hw (fun hw => ?_) (fun hw => ?_)
  · exact g_sub [0, 1, 2] rfl (hQ _ hw)
  · refine g_iload_n C dX6_nearOf_14 rfl rfl ?_
    refine g_bipush C ⟨by decide, by decide⟩ (by decide) dX6_nearOf_15 ?_
    refine g_icmp_ge C 33 dX6_nearOf_17 rfl hw (fun hw => ?_) (fun hw => ?_)
    · exact g_sub [0, 1, 2] rfl (hQ _ hw)
    · refine g_iload_n C dX6_nearOf_20 rfl rfl ?_
      refine g_if_lt C 33 dX6_nearOf_21 rfl hw (fun hw => ?_) (fun hw => ?_)
      · exact g_sub [0, 1, 2] rfl (hQ _ hw)
      · refine g_iload_n C dX6_nearOf_24 rfl rfl ?_
        refine g_iconst C ⟨by decide, by decide⟩ dX6_nearOf_25 ?_
        refine g_icmp_ge C 33 dX6_nearOf_26 rfl hw (fun hw => ?_) (fun hw => ?_)
        · exact g_sub [0, 1, 2] rfl (hQ _ hw)
        · refine g_iconst C ⟨by decide, by decide⟩ dX6_nearOf_29 ?_
          refine g_goto C 34 dX6_nearOf_30 rfl ?_
          refine g_istore_n C dX6_nearOf_34 rfl (by decide) ?_
          refine g_iload_n C dX6_nearOf_35 rfl rfl ?_
          refine g_if_eq C 52 dX6_nearOf_36 rfl hw (fun hw => ?_) (fun hw => ?_)
          · refine g_iconst C ⟨by decide, by decide⟩ dX6_nearOf_52 ?_
            exact g_iret C hr dX6_nearOf_53 ⟨_, rfl, hw⟩
          · refine g_aload_n C dX6_nearOf_39 rfl (by decide) rfl ?_
            refine gw_X6_9 C dX6_nearOf_40 kdC_115 wwC_115_1 ?_
            refine g_iload_n C dX6_nearOf_43 rfl rfl ?_
            refine g_iconst C ⟨by decide, by decide⟩ dX6_nearOf_44 ?_
            refine g_imul C dX6_nearOf_45 ?_
            refine g_iload_n C dX6_nearOf_46 rfl rfl ?_
            refine g_iadd C dX6_nearOf_47 ?_
            obtain ⟨⟨b1, b1b⟩, hw⟩ := hw
            refine g_iaload C dX6_nearOf_48 kdC_116 b1 b1b (fun z48 => ?_)
            refine g_goto C 53 dX6_nearOf_49 rfl ?_
            exact g_iret C hr dX6_nearOf_53 ⟨_, rfl, hw⟩
set_option maxRecDepth 20000 in
set_option maxHeartbeats 4000000 in
theorem sim_X6_spread {z : Mz} {l : Launch} {p1 : Int} {h : Mh} {K : Mh → Prop} (hw : wp_X6_spread p1 h K) : mCal (XC z) l yX6_spread cX6_spread 6 none 2 48 [(2, 115), (0, p1)] h (mKv K) := by
  refine m_entry RX6 rfl (by decide) rfl (fun p e s m args below meth c C hr => ?_)
  have hQ : ∀ x, Lfp (F_X6_spread p1 K) x → (match x.1, x.2.1 with | 2, [v2] => mG (XC z) p l e { frames := 2, cells := 0, slots := 0, locals := 48 } s m args below meth c 6 (mMQ (XC z) (mKv K) below args s) 2 [(2, (0, v2)), (0, (2, 115)), (1, (0, p1))] [] x.2.2 | 54, [] => mG (XC z) p l e { frames := 2, cells := 0, slots := 0, locals := 48 } s m args below meth c 6 (mMQ (XC z) (mKv K) below args s) 54 [(0, (2, 115)), (1, (0, p1))] [] x.2.2 | 104, [v2, v3] => mG (XC z) p l e { frames := 2, cells := 0, slots := 0, locals := 48 } s m args below meth c 6 (mMQ (XC z) (mKv K) below args s) 104 [(2, (0, v2)), (3, (0, v3)), (0, (2, 115)), (1, (0, p1))] [] x.2.2 | 118, [v2, v3, v4] => mG (XC z) p l e { frames := 2, cells := 0, slots := 0, locals := 48 } s m args below meth c 6 (mMQ (XC z) (mKv K) below args s) 118 [(2, (0, v2)), (3, (0, v3)), (4, (0, v4)), (0, (2, 115)), (1, (0, p1))] [] x.2.2 | _, _ => True) := by
    intro x hx
    refine Lfp.ind (fun x => (match x.1, x.2.1 with | 2, [v2] => mG (XC z) p l e { frames := 2, cells := 0, slots := 0, locals := 48 } s m args below meth c 6 (mMQ (XC z) (mKv K) below args s) 2 [(2, (0, v2)), (0, (2, 115)), (1, (0, p1))] [] x.2.2 | 54, [] => mG (XC z) p l e { frames := 2, cells := 0, slots := 0, locals := 48 } s m args below meth c 6 (mMQ (XC z) (mKv K) below args s) 54 [(0, (2, 115)), (1, (0, p1))] [] x.2.2 | 104, [v2, v3] => mG (XC z) p l e { frames := 2, cells := 0, slots := 0, locals := 48 } s m args below meth c 6 (mMQ (XC z) (mKv K) below args s) 104 [(2, (0, v2)), (3, (0, v3)), (0, (2, 115)), (1, (0, p1))] [] x.2.2 | 118, [v2, v3, v4] => mG (XC z) p l e { frames := 2, cells := 0, slots := 0, locals := 48 } s m args below meth c 6 (mMQ (XC z) (mKv K) below args s) 118 [(2, (0, v2)), (3, (0, v3)), (4, (0, v4)), (0, (2, 115)), (1, (0, p1))] [] x.2.2 | _, _ => True)) ?_ hx
    clear hx x
    intro Z x hQ hw
    rcases hw with ⟨v2, h, rfl, hw⟩ | ⟨h, rfl, hw⟩ | ⟨v2, v3, h, rfl, hw⟩ | ⟨v2, v3, v4, h, rfl, hw⟩
    · show mG (XC z) p l e { frames := 2, cells := 0, slots := 0, locals := 48 } s m args below meth c 6 (mMQ (XC z) (mKv K) below args s) 2 [(2, (0, v2)), (0, (2, 115)), (1, (0, p1))] [] h
      unfold B_X6_spread_2 at hw
      refine g_iload_n C dX6_spread_2 rfl rfl ?_
      refine g_aload_n C dX6_spread_3 rfl (by decide) rfl ?_
      refine gw_X6_39 C dX6_spread_4 kdC_115 wwC_115_0 ?_
      refine gf_X6_52 C dX6_spread_7 kdC_53 (fun z7 => ?_)
      obtain ⟨q1, hw⟩ := hw
      refine g_callVi C [] (sim_X5_cells wirC q1 hw) k_1030 k_1031 k_1032 k_135 k_1033 hdV_X5_cells rfl rfl (by decide) rfl q1 rfl rfl rfl dX6_spread_10 ?_
      intro x1 h1 hw
      refine g_icmp_ge C 54 dX6_spread_13 rfl hw (fun hw => ?_) (fun hw => ?_)
      · exact g_sub [0, 1] rfl (hQ _ hw)
      · refine g_iload_n C dX6_spread_16 rfl rfl ?_
        refine g_bipush C ⟨by decide, by decide⟩ (by decide) dX6_spread_17 ?_
        refine g_icmp_ge C 54 dX6_spread_19 rfl hw (fun hw => ?_) (fun hw => ?_)
        · exact g_sub [0, 1] rfl (hQ _ hw)
        · refine g_aload_n C dX6_spread_22 rfl (by decide) rfl ?_
          refine gw_X6_15 C dX6_spread_23 kdC_115 wwC_115_2 ?_
          refine g_iload_n C dX6_spread_26 rfl rfl ?_
          refine g_bipush C ⟨by decide, by decide⟩ (by decide) dX6_spread_27 ?_
          refine g_imul C dX6_spread_29 ?_
          refine g_iload_n C dX6_spread_30 rfl rfl ?_
          refine g_iadd C dX6_spread_31 ?_
          refine g_bipush C ⟨by decide, by decide⟩ (by decide) dX6_spread_32 ?_
          obtain ⟨⟨b1, b1b⟩, hw⟩ := hw
          refine g_iastore C dX6_spread_34 kdC_117 b1 b1b (fun z => z) ?_
          refine g_heap (fun h2 eh2 => ?_)
          replace hw := hw h2 eh2
          refine g_aload_n C dX6_spread_35 rfl (by decide) rfl ?_
          refine gw_X6_18 C dX6_spread_36 kdC_115 wwC_115_3 ?_
          refine g_iload_n C dX6_spread_39 rfl rfl ?_
          refine g_bipush C ⟨by decide, by decide⟩ (by decide) dX6_spread_40 ?_
          refine g_imul C dX6_spread_42 ?_
          refine g_iload_n C dX6_spread_43 rfl rfl ?_
          refine g_iadd C dX6_spread_44 ?_
          refine g_bipush C ⟨by decide, by decide⟩ (by decide) dX6_spread_45 ?_
          obtain ⟨⟨b2, b2b⟩, hw⟩ := hw
          refine g_iastore C dX6_spread_47 kdC_118 b2 b2b (fun z => z) ?_
          refine g_heap (fun h3 eh3 => ?_)
          replace hw := hw h3 eh3
          refine g_iincN C dX6_spread_48 rfl (by decide) (fun x2 ex2 => ?_)
          replace hw := hw x2 ex2
          refine g_goto C 2 dX6_spread_51 rfl ?_
          exact g_sub [2, 0, 1] rfl (hQ _ hw)
    · show mG (XC z) p l e { frames := 2, cells := 0, slots := 0, locals := 48 } s m args below meth c 6 (mMQ (XC z) (mKv K) below args s) 54 [(0, (2, 115)), (1, (0, p1))] [] h
      unfold B_X6_spread_54 at hw
      refine g_aload_n C dX6_spread_54 rfl (by decide) rfl ?_
      refine gw_X6_39 C dX6_spread_55 kdC_115 wwC_115_0 ?_
      refine gf_X6_52 C dX6_spread_58 kdC_53 (fun z58 => ?_)
      refine g_iload_n C dX6_spread_61 rfl rfl ?_
      obtain ⟨q2, hw⟩ := hw
      refine g_callVz C [(0, p1)] (sim_X5_isWet wirC q2 hw) k_1029 k_994 k_995 k_135 k_996 hdV_X5_isWet rfl rfl (by decide) rfl q2 rfl rfl rfl dX6_spread_62 ?_
      intro x1 h1 zb62 hw
      refine g_if_ne C 69 dX6_spread_65 rfl hw (fun hw => ?_) (fun hw => ?_)
      · refine g_aload_n C dX6_spread_69 rfl (by decide) rfl ?_
        refine gw_X6_15 C dX6_spread_70 kdC_115 wwC_115_2 ?_
        refine g_iload_n C dX6_spread_73 rfl rfl ?_
        refine g_bipush C ⟨by decide, by decide⟩ (by decide) dX6_spread_74 ?_
        refine g_imul C dX6_spread_76 ?_
        refine g_iload_n C dX6_spread_77 rfl rfl ?_
        refine g_iadd C dX6_spread_78 ?_
        refine g_iconst C ⟨by decide, by decide⟩ dX6_spread_79 ?_
        obtain ⟨⟨b3, b3b⟩, hw⟩ := hw
        refine g_iastore C dX6_spread_80 kdC_117 b3 b3b (fun z => z) ?_
        refine g_heap (fun h2 eh2 => ?_)
        replace hw := hw h2 eh2
        refine g_aload_n C dX6_spread_81 rfl (by decide) rfl ?_
        refine gw_X6_18 C dX6_spread_82 kdC_115 wwC_115_3 ?_
        refine g_iload_n C dX6_spread_85 rfl rfl ?_
        refine g_bipush C ⟨by decide, by decide⟩ (by decide) dX6_spread_86 ?_
        refine g_imul C dX6_spread_88 ?_
        refine g_iload_n C dX6_spread_89 rfl rfl ?_
        refine g_iadd C dX6_spread_90 ?_
        refine g_iconst C ⟨by decide, by decide⟩ dX6_spread_91 ?_
        obtain ⟨⟨b4, b4b⟩, hw⟩ := hw
        refine g_iastore C dX6_spread_92 kdC_118 b4 b4b (fun z => z) ?_
        refine g_heap (fun h3 eh3 => ?_)
        replace hw := hw h3 eh3
        refine g_aload_n C dX6_spread_93 rfl (by decide) rfl ?_
        refine gw_X6_21 C dX6_spread_94 kdC_115 wwC_115_4 ?_
        refine g_iconst C ⟨by decide, by decide⟩ dX6_spread_97 ?_
        refine g_iload_n C dX6_spread_98 rfl rfl ?_
        refine g_iastore C dX6_spread_99 kdC_119 (by decide) (show (0 : Int) < ((48 : Nat) : Int) from by decide) (fun z => z) ?_
        refine g_heap (fun h4 eh4 => ?_)
        replace hw := hw h4 eh4
        refine g_iconst C ⟨by decide, by decide⟩ dX6_spread_100 ?_
        refine g_istore_n C dX6_spread_101 rfl (by decide) ?_
        refine g_iconst C ⟨by decide, by decide⟩ dX6_spread_102 ?_
        refine g_istore_n C dX6_spread_103 rfl (by decide) ?_
        exact g_sub [2, 3, 0, 1] rfl (hQ _ hw)
      · exact g_vret C hr dX6_spread_68 ⟨rfl, hw⟩
    · show mG (XC z) p l e { frames := 2, cells := 0, slots := 0, locals := 48 } s m args below meth c 6 (mMQ (XC z) (mKv K) below args s) 104 [(2, (0, v2)), (3, (0, v3)), (0, (2, 115)), (1, (0, p1))] [] h
      unfold B_X6_spread_104 at hw
      refine g_iload_n C dX6_spread_104 rfl rfl ?_
      refine g_iload_n C dX6_spread_105 rfl rfl ?_
      refine g_icmp_ge C 195 dX6_spread_106 rfl hw (fun hw => ?_) (fun hw => ?_)
      · exact g_vret C hr dX6_spread_195 ⟨rfl, hw⟩
      · refine g_iload_n C dX6_spread_109 rfl rfl ?_
        refine g_bipush C ⟨by decide, by decide⟩ (by decide) dX6_spread_110 ?_
        refine g_icmp_ge C 195 dX6_spread_112 rfl hw (fun hw => ?_) (fun hw => ?_)
        · exact g_vret C hr dX6_spread_195 ⟨rfl, hw⟩
        · refine g_iconst C ⟨by decide, by decide⟩ dX6_spread_115 ?_
          refine g_istore C dX6_spread_116 (by decide) ?_
          exact g_sub [2, 3, 4, 0, 1] rfl (hQ _ hw)
    · show mG (XC z) p l e { frames := 2, cells := 0, slots := 0, locals := 48 } s m args below meth c 6 (mMQ (XC z) (mKv K) below args s) 118 [(2, (0, v2)), (3, (0, v3)), (4, (0, v4)), (0, (2, 115)), (1, (0, p1))] [] h
      unfold B_X6_spread_118 at hw
      refine g_iload C dX6_spread_118 rfl ?_
      refine g_iconst C ⟨by decide, by decide⟩ dX6_spread_120 ?_
      refine g_icmp_ge C 189 dX6_spread_121 rfl hw (fun hw => ?_) (fun hw => ?_)
      · refine g_iincN C dX6_spread_189 rfl (by decide) (fun x1 ex1 => ?_)
        replace hw := hw x1 ex1
        refine g_goto C 104 dX6_spread_192 rfl ?_
        exact g_sub [2, 3, 0, 1] rfl (hQ _ hw)
      · refine g_aload_n C dX6_spread_124 rfl (by decide) rfl ?_
        refine g_aload_n C dX6_spread_125 rfl (by decide) rfl ?_
        refine gw_X6_21 C dX6_spread_126 kdC_115 wwC_115_4 ?_
        refine g_iload_n C dX6_spread_129 rfl rfl ?_
        obtain ⟨⟨b5, b5b⟩, hw⟩ := hw
        refine g_iaload C dX6_spread_130 kdC_119 b5 b5b (fun z130 => ?_)
        refine g_iload C dX6_spread_131 rfl ?_
        refine g_callVi C [(0, (h 119 v3)), (0, v4)] (sim_X6_nearOf hw) k_1038 k_1039 k_1040 k_144 k_1041 hdV_X6_nearOf rfl rfl (by decide) rfl kdC_115 rfl rfl rfl dX6_spread_133 ?_
        intro x2 h1 hw
        refine g_istore C dX6_spread_136 (by decide) ?_
        refine g_iload C dX6_spread_138 rfl ?_
        refine g_if_lt C 183 dX6_spread_140 rfl hw (fun hw => ?_) (fun hw => ?_)
        · refine g_iincN C dX6_spread_183 rfl (by decide) (fun x3 ex3 => ?_)
          replace hw := hw x3 ex3
          refine g_goto C 118 dX6_spread_186 rfl ?_
          exact g_sub [2, 3, 4, 0, 1] rfl (hQ _ hw)
        · refine g_iload C dX6_spread_143 rfl ?_
          refine g_bipush C ⟨by decide, by decide⟩ (by decide) dX6_spread_145 ?_
          refine g_icmp_ge C 183 dX6_spread_147 rfl hw (fun hw => ?_) (fun hw => ?_)
          · refine g_iincN C dX6_spread_183 rfl (by decide) (fun x4 ex4 => ?_)
            replace hw := hw x4 ex4
            refine g_goto C 118 dX6_spread_186 rfl ?_
            exact g_sub [2, 3, 4, 0, 1] rfl (hQ _ hw)
          · refine g_aload_n C dX6_spread_150 rfl (by decide) rfl ?_
            refine g_iload_n C dX6_spread_151 rfl rfl ?_
            refine g_aload_n C dX6_spread_152 rfl (by decide) rfl ?_
            refine gw_X6_21 C dX6_spread_153 kdC_115 wwC_115_4 ?_
            refine g_iload_n C dX6_spread_156 rfl rfl ?_
            obtain ⟨⟨b6, b6b⟩, hw⟩ := hw
            refine g_iaload C dX6_spread_157 kdC_119 b6 b6b (fun z157 => ?_)
            refine g_iload C dX6_spread_158 rfl ?_
            refine g_callVz C [(0, p1), (0, (h1 119 v3)), (0, x2)] (sim_X6_handOn hw) k_1043 k_1045 k_40 k_144 k_1046 hdV_X6_handOn rfl rfl (by decide) rfl kdC_115 rfl rfl rfl dX6_spread_160 ?_
            intro x5 h2 zb160 hw
            refine g_if_eq C 183 dX6_spread_163 rfl hw (fun hw => ?_) (fun hw => ?_)
            · refine g_iincN C dX6_spread_183 rfl (by decide) (fun x6 ex6 => ?_)
              replace hw := hw x6 ex6
              refine g_goto C 118 dX6_spread_186 rfl ?_
              exact g_sub [2, 3, 4, 0, 1] rfl (hQ _ hw)
            · refine g_iload_n C dX6_spread_166 rfl rfl ?_
              refine g_bipush C ⟨by decide, by decide⟩ (by decide) dX6_spread_167 ?_
              refine g_icmp_ge C 183 dX6_spread_169 rfl hw (fun hw => ?_) (fun hw => ?_)
              · refine g_iincN C dX6_spread_183 rfl (by decide) (fun x7 ex7 => ?_)
                replace hw := hw x7 ex7
                refine g_goto C 118 dX6_spread_186 rfl ?_
                exact g_sub [2, 3, 4, 0, 1] rfl (hQ _ hw)
              · refine g_aload_n C dX6_spread_172 rfl (by decide) rfl ?_
                refine gw_X6_21 C dX6_spread_173 kdC_115 wwC_115_4 ?_
                refine g_iload_n C dX6_spread_176 rfl rfl ?_
                refine g_iload C dX6_spread_177 rfl ?_
                obtain ⟨⟨b7, b7b⟩, hw⟩ := hw
                refine g_iastore C dX6_spread_179 kdC_119 b7 b7b (fun z => z) ?_
                refine g_heap (fun h3 eh3 => ?_)
                replace hw := hw h3 eh3
                refine g_iincN C dX6_spread_180 rfl (by decide) (fun x8 ex8 => ?_)
                replace hw := hw x8 ex8
                refine g_iincN C dX6_spread_183 rfl (by decide) (fun x9 ex9 => ?_)
                replace hw := hw x9 ex9
                refine g_goto C 118 dX6_spread_186 rfl ?_
                exact g_sub [2, 3, 4, 0, 1] rfl (hQ _ hw)
  show mG _ p l e _ s m args below meth c _ _ 0 [(0, (2, 115)), (1, (0, p1))] [] h
  unfold wp_X6_spread at hw
  refine g_iconst C ⟨by decide, by decide⟩ dX6_spread_0 ?_
  refine g_istore_n C dX6_spread_1 rfl (by decide) ?_
  exact g_sub [2, 0, 1] rfl (hQ _ hw)
