set_option maxRecDepth 20000 in
set_option maxHeartbeats 4000000 in
theorem sim_X9_readLaw {z : Mz} {l : Launch} {h : Mh} {K : Int → Mh → Prop} (hw : wp_X9_readLaw h K) : mCal (XC z) l yX9_readLaw cX9_readLaw 2 (some Jvm.ClassFile.FieldType.boolean) 4 85 [(2, 46)] h (mKz K) := by
  refine m_entry RX9 rfl (by decide) rfl (fun p e s m args below meth c C hr => ?_)
  have hQ : ∀ x, Lfp (F_X9_readLaw K) x → (match x.1, x.2.1 with | 50, [v1] => mG (XC z) p l e { frames := 4, cells := 0, slots := 0, locals := 85 } s m args below meth c 2 (mMQ (XC z) (mKz K) below args s) 50 [(1, (0, v1)), (0, (2, 46))] [] x.2.2 | _, _ => True) := by
    intro x hx
    refine Lfp.ind (fun x => (match x.1, x.2.1 with | 50, [v1] => mG (XC z) p l e { frames := 4, cells := 0, slots := 0, locals := 85 } s m args below meth c 2 (mMQ (XC z) (mKz K) below args s) 50 [(1, (0, v1)), (0, (2, 46))] [] x.2.2 | _, _ => True)) ?_ hx
    clear hx x
    intro Z x hQ hw
    rcases hw with ⟨v1, h, rfl, hw⟩
    · show mG (XC z) p l e { frames := 4, cells := 0, slots := 0, locals := 85 } s m args below meth c 2 (mMQ (XC z) (mKz K) below args s) 50 [(1, (0, v1)), (0, (2, 46))] [] h
      unfold B_X9_readLaw_50 at hw
      refine g_iload_n C dX9_readLaw_50 rfl rfl ?_
      refine g_if_le C 100 dX9_readLaw_51 rfl hw (fun hw => ?_) (fun hw => ?_)
      · refine g_aload_n C dX9_readLaw_100 rfl (by decide) rfl ?_
        refine g_iconst C ⟨by decide, by decide⟩ dX9_readLaw_101 ?_
        refine g_callVv C [(0, 1)] (sim_X9_release hw) k_922 k_924 k_28 k_140 k_925 hdV_X9_release rfl rfl (by decide) rfl kdC_46 rfl rfl rfl dX9_readLaw_102 ?_
        intro h1 hw
        refine g_iconst C ⟨by decide, by decide⟩ dX9_readLaw_105 ?_
        exact g_zret C hr (Or.inr rfl) dX9_readLaw_106 ⟨_, rfl, (Or.inr rfl), hw⟩
      · refine g_aload_n C dX9_readLaw_54 rfl (by decide) rfl ?_
        refine g_callVz C [] (sim_X9_lawEnds hw) k_910 k_912 k_25 k_140 k_913 hdV_X9_lawEnds rfl rfl (by decide) rfl kdC_46 rfl rfl rfl dX9_readLaw_55 ?_
        intro x1 h2 zb55 hw
        refine g_if_ne C 100 dX9_readLaw_58 rfl hw (fun hw => ?_) (fun hw => ?_)
        · refine g_aload_n C dX9_readLaw_100 rfl (by decide) rfl ?_
          refine g_iconst C ⟨by decide, by decide⟩ dX9_readLaw_101 ?_
          refine g_callVv C [(0, 1)] (sim_X9_release hw) k_922 k_924 k_28 k_140 k_925 hdV_X9_release rfl rfl (by decide) rfl kdC_46 rfl rfl rfl dX9_readLaw_102 ?_
          intro h3 hw
          refine g_iconst C ⟨by decide, by decide⟩ dX9_readLaw_105 ?_
          exact g_zret C hr (Or.inr rfl) dX9_readLaw_106 ⟨_, rfl, (Or.inr rfl), hw⟩
        · refine g_aload_n C dX9_readLaw_61 rfl (by decide) rfl ?_
          refine gf_X9_292 C dX9_readLaw_62 kdC_46 (fun z62 => ?_)
          refine g_if_eq C 78 dX9_readLaw_65 rfl hw (fun hw => ?_) (fun hw => ?_)
          · refine g_aload_n C dX9_readLaw_78 rfl (by decide) rfl ?_
            refine g_callVz C [] (sim_X9_readOperand hw) k_949 k_951 k_33 k_140 k_952 hdV_X9_readOperand rfl rfl (by decide) rfl kdC_46 rfl rfl rfl dX9_readLaw_79 ?_
            intro x2 h4 zb79 hw
            refine g_if_ne C 87 dX9_readLaw_82 rfl hw (fun hw => ?_) (fun hw => ?_)
            · refine g_aload_n C dX9_readLaw_87 rfl (by decide) rfl ?_
              refine gw_X9_27 C dX9_readLaw_88 kdC_46 wwC_46_0 ?_
              refine g_callVv C [] (sim_X10_advance hw) k_790 k_766 k_767 k_141 k_768 hdV_X10_advance rfl rfl (by decide) rfl kdC_49 rfl rfl rfl dX9_readLaw_91 ?_
              intro h5 hw
              refine g_iincN C dX9_readLaw_94 rfl (by decide) (fun x3 ex3 => ?_)
              replace hw := hw x3 ex3
              refine g_goto C 50 dX9_readLaw_97 rfl ?_
              exact g_sub [1, 0] rfl (hQ _ hw)
            · refine g_iconst C ⟨by decide, by decide⟩ dX9_readLaw_85 ?_
              exact g_zret C hr (Or.inl rfl) dX9_readLaw_86 ⟨_, rfl, (Or.inl rfl), hw⟩
          · refine g_aload_n C dX9_readLaw_68 rfl (by decide) rfl ?_
            refine g_callVz C [] (sim_X9_readBehindOperand hw) k_914 k_916 k_26 k_140 k_917 hdV_X9_readBehindOperand rfl rfl (by decide) rfl kdC_46 rfl rfl rfl dX9_readLaw_69 ?_
            intro x4 h6 zb69 hw
            refine g_if_eq C 85 dX9_readLaw_72 rfl hw (fun hw => ?_) (fun hw => ?_)
            · refine g_iconst C ⟨by decide, by decide⟩ dX9_readLaw_85 ?_
              exact g_zret C hr (Or.inl rfl) dX9_readLaw_86 ⟨_, rfl, (Or.inl rfl), hw⟩
            · refine g_goto C 87 dX9_readLaw_75 rfl ?_
              refine g_aload_n C dX9_readLaw_87 rfl (by decide) rfl ?_
              refine gw_X9_27 C dX9_readLaw_88 kdC_46 wwC_46_0 ?_
              refine g_callVv C [] (sim_X10_advance hw) k_790 k_766 k_767 k_141 k_768 hdV_X10_advance rfl rfl (by decide) rfl kdC_49 rfl rfl rfl dX9_readLaw_91 ?_
              intro h7 hw
              refine g_iincN C dX9_readLaw_94 rfl (by decide) (fun x5 ex5 => ?_)
              replace hw := hw x5 ex5
              refine g_goto C 50 dX9_readLaw_97 rfl ?_
              exact g_sub [1, 0] rfl (hQ _ hw)
  show mG _ p l e _ s m args below meth c _ _ 0 [(0, (2, 46))] [] h
  unfold wp_X9_readLaw at hw
  refine g_aload_n C dX9_readLaw_0 rfl (by decide) rfl ?_
  refine gf_X9_31 C dX9_readLaw_1 kdC_46 (fun z1 => ?_)
  obtain ⟨q1, hw⟩ := hw
  refine gw_X9_274 C dX9_readLaw_4 q1 (wir_4_15 wirC q1) ?_
  refine g_callVz C [] (sim_X3_isEmpty wirC (kid_4_15 wirC q1) hw) k_906 k_907 k_908 k_139 k_909 hdV_X3_isEmpty rfl rfl (by decide) rfl (kid_4_15 wirC q1) rfl rfl rfl dX9_readLaw_7 ?_
  intro x1 h1 zb7 hw
  refine g_if_ne C 19 dX9_readLaw_10 rfl hw (fun hw => ?_) (fun hw => ?_)
  · refine g_aload_n C dX9_readLaw_19 rfl (by decide) rfl ?_
    refine g_iconst C ⟨by decide, by decide⟩ dX9_readLaw_20 ?_
    refine gp_X9_283 C dX9_readLaw_21 kdC_46 (fun z => z) ?_
    refine g_heap (fun h2 eh2 => ?_)
    replace hw := hw h2 eh2
    refine g_aload_n C dX9_readLaw_24 rfl (by decide) rfl ?_
    refine g_iconst C ⟨by decide, by decide⟩ dX9_readLaw_25 ?_
    refine gp_X9_286 C dX9_readLaw_26 kdC_46 (fun z => z) ?_
    refine g_heap (fun h3 eh3 => ?_)
    replace hw := hw h3 eh3
    refine g_aload_n C dX9_readLaw_29 rfl (by decide) rfl ?_
    refine g_iconst C ⟨by decide, by decide⟩ dX9_readLaw_30 ?_
    refine gp_X9_289 C dX9_readLaw_31 kdC_46 (fun z => z) ?_
    refine g_heap (fun h4 eh4 => ?_)
    replace hw := hw h4 eh4
    refine g_aload_n C dX9_readLaw_34 rfl (by decide) rfl ?_
    refine g_iconst C ⟨by decide, by decide⟩ dX9_readLaw_35 ?_
    refine gp_X9_292 C dX9_readLaw_36 kdC_46 (fun _ => (Or.inl rfl)) ?_
    refine g_heap (fun h5 eh5 => ?_)
    replace hw := hw h5 eh5
    refine g_aload_n C dX9_readLaw_39 rfl (by decide) rfl ?_
    refine gw_X9_27 C dX9_readLaw_40 kdC_46 wwC_46_0 ?_
    refine g_callVv C [] (sim_X10_advance hw) k_790 k_766 k_767 k_141 k_768 hdV_X10_advance rfl rfl (by decide) rfl kdC_49 rfl rfl rfl dX9_readLaw_43 ?_
    intro h6 hw
    refine g_sipush C ⟨by decide, by decide⟩ (by decide) dX9_readLaw_46 ?_
    refine g_istore_n C dX9_readLaw_49 rfl (by decide) ?_
    exact g_sub [1, 0] rfl (hQ _ hw)
  · refine g_aload_n C dX9_readLaw_13 rfl (by decide) rfl ?_
    refine g_iconst C ⟨by decide, by decide⟩ dX9_readLaw_14 ?_
    refine g_callVz C [(0, 3)] (sim_X9_refuse hw) k_774 k_776 k_7 k_140 k_777 hdV_X9_refuse rfl rfl (by decide) rfl kdC_46 rfl rfl rfl dX9_readLaw_15 ?_
    intro x2 h7 zb15 hw
    exact g_zret C hr zb15 dX9_readLaw_18 ⟨_, rfl, zb15, hw⟩
set_option maxRecDepth 20000 in
set_option maxHeartbeats 4000000 in
theorem sim_X9_readOnce {z : Mz} {l : Launch} {p1 : Int} {p2 : Int} {h : Mh} {K : Int → Mh → Prop} (hw : wp_X9_readOnce p1 p2 h K) : mCal (XC z) l yX9_readOnce cX9_readOnce 3 (some Jvm.ClassFile.FieldType.int) 2 44 [(2, 46), (0, p1), (0, p2)] h (mKi K) := by
  refine m_entry RX9 rfl (by decide) rfl (fun p e s m args below meth c C hr => ?_)
  show mG _ p l e _ s m args below meth c _ _ 0 [(0, (2, 46)), (1, (0, p1)), (2, (0, p2))] [] h
  unfold wp_X9_readOnce at hw
  refine g_iload_n C dX9_readOnce_0 rfl rfl ?_
  refine g_if_eq C 12 dX9_readOnce_1 rfl hw (fun hw => ?_) (fun hw => ?_)
  · refine g_aload_n C dX9_readOnce_12 rfl (by decide) rfl ?_
    refine gw_X9_27 C dX9_readOnce_13 kdC_46 wwC_46_0 ?_
    refine g_callVv C [] (sim_X10_advance hw) k_790 k_766 k_767 k_141 k_768 hdV_X10_advance rfl rfl (by decide) rfl kdC_49 rfl rfl rfl dX9_readOnce_16 ?_
    intro h1 hw
    refine g_aload_n C dX9_readOnce_19 rfl (by decide) rfl ?_
    refine g_iconst C ⟨by decide, by decide⟩ dX9_readOnce_20 ?_
    refine g_iload_n C dX9_readOnce_21 rfl rfl ?_
    refine g_callVi C [(0, 0), (0, p2)] (sim_X9_readNumber hw) k_791 k_793 k_9 k_140 k_794 hdV_X9_readNumber rfl rfl (by decide) rfl kdC_46 rfl rfl rfl dX9_readOnce_22 ?_
    intro x1 h2 hw
    exact g_iret C hr dX9_readOnce_25 ⟨_, rfl, hw⟩
  · refine g_aload_n C dX9_readOnce_4 rfl (by decide) rfl ?_
    refine g_iconst C ⟨by decide, by decide⟩ dX9_readOnce_5 ?_
    refine g_callVz C [(0, 3)] (sim_X9_refuse hw) k_774 k_776 k_7 k_140 k_777 hdV_X9_refuse rfl rfl (by decide) rfl kdC_46 rfl rfl rfl dX9_readOnce_6 ?_
    intro x2 h3 zb6 hw
    refine g_pop C (by show ¬ (0 : Nat) = 1; decide) dX9_readOnce_9 ?_
    refine g_iconst C ⟨by decide, by decide⟩ dX9_readOnce_10 ?_
    exact g_iret C hr dX9_readOnce_11 ⟨_, rfl, hw⟩
set_option maxRecDepth 20000 in
set_option maxHeartbeats 4000000 in
theorem sim_X9_readLoss {z : Mz} {l : Launch} {h : Mh} {K : Int → Mh → Prop} (hw : wp_X9_readLoss h K) : mCal (XC z) l yX9_readLoss cX9_readLoss 2 (some Jvm.ClassFile.FieldType.boolean) 3 66 [(2, 46)] h (mKz K) := by
  refine m_entry RX9 rfl (by decide) rfl (fun p e s m args below meth c C hr => ?_)
  show mG _ p l e _ s m args below meth c _ _ 0 [(0, (2, 46))] [] h
  unfold wp_X9_readLoss at hw
  refine g_aload_n C dX9_readLoss_0 rfl (by decide) rfl ?_
  refine g_aload_n C dX9_readLoss_1 rfl (by decide) rfl ?_
  refine gf_X9_50 C dX9_readLoss_2 kdC_46 (fun z2 => ?_)
  refine g_bipush C ⟨by decide, by decide⟩ (by decide) dX9_readLoss_5 ?_
  refine g_callVi C [(0, (h 46 6)), (0, 50)] (sim_X9_readOnce hw) k_889 k_891 k_21 k_140 k_892 hdV_X9_readOnce rfl rfl (by decide) rfl kdC_46 rfl rfl rfl dX9_readLoss_7 ?_
  intro x1 h1 hw
  refine g_istore_n C dX9_readLoss_10 rfl (by decide) ?_
  refine g_aload_n C dX9_readLoss_11 rfl (by decide) rfl ?_
  refine g_iconst C ⟨by decide, by decide⟩ dX9_readLoss_12 ?_
  refine gp_X9_50 C dX9_readLoss_13 kdC_46 (fun _ => (Or.inr rfl)) ?_
  refine g_heap (fun h2 eh2 => ?_)
  replace hw := hw h2 eh2
  refine g_aload_n C dX9_readLoss_16 rfl (by decide) rfl ?_
  refine gf_X9_31 C dX9_readLoss_17 kdC_46 (fun z17 => ?_)
  refine g_iload_n C dX9_readLoss_20 rfl rfl ?_
  refine g_iconst C ⟨by decide, by decide⟩ dX9_readLoss_21 ?_
  refine g_mmax C k_893 k_179 k_137 k_180 rfl rfl rfl dX9_readLoss_22 ?_
  obtain ⟨q1, hw⟩ := hw
  refine gp_X9_256 C dX9_readLoss_25 q1 (fun z => z) ?_
  refine g_heap (fun h3 eh3 => ?_)
  replace hw := hw h3 eh3
  refine g_iload_n C dX9_readLoss_28 rfl rfl ?_
  refine g_if_lt C 36 dX9_readLoss_29 rfl hw (fun hw => ?_) (fun hw => ?_)
  · refine g_iconst C ⟨by decide, by decide⟩ dX9_readLoss_36 ?_
    exact g_zret C hr (Or.inl rfl) dX9_readLoss_37 ⟨_, rfl, (Or.inl rfl), hw⟩
  · refine g_iconst C ⟨by decide, by decide⟩ dX9_readLoss_32 ?_
    refine g_goto C 37 dX9_readLoss_33 rfl ?_
    exact g_zret C hr (Or.inr rfl) dX9_readLoss_37 ⟨_, rfl, (Or.inr rfl), hw⟩
set_option maxRecDepth 20000 in
set_option maxHeartbeats 4000000 in
theorem sim_X9_readShoreCell {z : Mz} {l : Launch} {p1 : Int} {h : Mh} {K : Int → Mh → Prop} (hw : wp_X9_readShoreCell p1 h K) : mCal (XC z) l yX9_readShoreCell cX9_readShoreCell 3 (some Jvm.ClassFile.FieldType.boolean) 3 70 [(2, 46), (2, p1)] h (mKz K) := by
  refine m_entry RX9 rfl (by decide) rfl (fun p e s m args below meth c C hr => ?_)
  show mG _ p l e _ s m args below meth c _ _ 0 [(0, (2, 46)), (1, (2, p1))] [] h
  unfold wp_X9_readShoreCell at hw
  refine g_aload_n C dX9_readShoreCell_0 rfl (by decide) rfl ?_
  refine g_aload_n C dX9_readShoreCell_1 rfl (by decide) rfl ?_
  refine gf_X9_31 C dX9_readShoreCell_2 kdC_46 (fun z2 => ?_)
  obtain ⟨q1, hw⟩ := hw
  refine gf_X9_187 C dX9_readShoreCell_5 q1 (fun z5 => ?_)
  refine g_aload_n C dX9_readShoreCell_8 rfl (by decide) rfl ?_
  obtain ⟨q2, hw⟩ := hw
  refine g_callVl C [] (sim_X7_cellBits wirC q2 hw) k_837 k_814 k_815 k_136 k_816 hdV_X7_cellBits rfl rfl (by decide) rfl q2 rfl rfl rfl dX9_readShoreCell_9 ?_
  intro x1 h1 hw
  refine g_lor C dX9_readShoreCell_12 ?_
  refine g_callVi C [(1, j_lor (h (h 46 1) 2) x1)] (sim_X9_readCell hw) k_821 k_823 k_12 k_140 k_824 hdV_X9_readCell rfl rfl (by decide) rfl kdC_46 rfl rfl rfl dX9_readShoreCell_13 ?_
  intro x2 h2 hw
  refine g_istore_n C dX9_readShoreCell_16 rfl (by decide) ?_
  refine g_iload_n C dX9_readShoreCell_17 rfl rfl ?_
  refine g_if_ge C 23 dX9_readShoreCell_18 rfl hw (fun hw => ?_) (fun hw => ?_)
  · refine g_aload_n C dX9_readShoreCell_23 rfl (by decide) rfl ?_
    refine g_iload_n C dX9_readShoreCell_24 rfl rfl ?_
    refine g_callVv C [(0, x2)] (sim_X7_add wirC q2 hw) k_838 k_839 k_840 k_136 k_841 hdV_X7_add rfl rfl (by decide) rfl q2 rfl rfl rfl dX9_readShoreCell_25 ?_
    intro h3 hw
    refine g_iconst C ⟨by decide, by decide⟩ dX9_readShoreCell_28 ?_
    exact g_zret C hr (Or.inr rfl) dX9_readShoreCell_29 ⟨_, rfl, (Or.inr rfl), hw⟩
  · refine g_iconst C ⟨by decide, by decide⟩ dX9_readShoreCell_21 ?_
    exact g_zret C hr (Or.inl rfl) dX9_readShoreCell_22 ⟨_, rfl, (Or.inl rfl), hw⟩
set_option maxRecDepth 20000 in
set_option maxHeartbeats 4000000 in
theorem sim_X9_readMay {z : Mz} {l : Launch} {h : Mh} {K : Int → Mh → Prop} (hw : wp_X9_readMay h K) : mCal (XC z) l yX9_readMay cX9_readMay 3 (some Jvm.ClassFile.FieldType.boolean) 4 92 [(2, 46)] h (mKz K) := by
  refine m_entry RX9 rfl (by decide) rfl (fun p e s m args below meth c C hr => ?_)
  have hQ : ∀ x, Lfp (F_X9_readMay K) x → (match x.1, x.2.1 with | 55, [v1, v2] => mG (XC z) p l e { frames := 4, cells := 0, slots := 0, locals := 92 } s m args below meth c 3 (mMQ (XC z) (mKz K) below args s) 55 [(1, (2, v1)), (2, (0, v2)), (0, (2, 46))] [] x.2.2 | _, _ => True) := by
    intro x hx
    refine Lfp.ind (fun x => (match x.1, x.2.1 with | 55, [v1, v2] => mG (XC z) p l e { frames := 4, cells := 0, slots := 0, locals := 92 } s m args below meth c 3 (mMQ (XC z) (mKz K) below args s) 55 [(1, (2, v1)), (2, (0, v2)), (0, (2, 46))] [] x.2.2 | _, _ => True)) ?_ hx
    clear hx x
    intro Z x hQ hw
    rcases hw with ⟨v1, v2, h, rfl, hw⟩
    · show mG (XC z) p l e { frames := 4, cells := 0, slots := 0, locals := 92 } s m args below meth c 3 (mMQ (XC z) (mKz K) below args s) 55 [(1, (2, v1)), (2, (0, v2)), (0, (2, 46))] [] h
      unfold B_X9_readMay_55 at hw
      refine g_iload_n C dX9_readMay_55 rfl rfl ?_
      refine g_iconst C ⟨by decide, by decide⟩ dX9_readMay_56 ?_
      refine g_icmp_gt C 109 dX9_readMay_57 rfl hw (fun hw => ?_) (fun hw => ?_)
      · refine g_iconst C ⟨by decide, by decide⟩ dX9_readMay_109 ?_
        exact g_zret C hr (Or.inr rfl) dX9_readMay_110 ⟨_, rfl, (Or.inr rfl), hw⟩
      · refine g_aload_n C dX9_readMay_60 rfl (by decide) rfl ?_
        refine gw_X9_27 C dX9_readMay_61 kdC_46 wwC_46_0 ?_
        refine g_getsW C 3 (by decide) k_965 dX9_readMay_64 ?_
        refine g_callVz C [(3, 3)] (sim_X10_isWord hw) k_868 k_869 k_870 k_141 k_871 hdV_X10_isWord rfl rfl (by decide) rfl kdC_49 rfl rfl rfl dX9_readMay_67 ?_
        intro x1 h1 zb67 hw
        refine g_if_eq C 109 dX9_readMay_70 rfl hw (fun hw => ?_) (fun hw => ?_)
        · refine g_iconst C ⟨by decide, by decide⟩ dX9_readMay_109 ?_
          exact g_zret C hr (Or.inr rfl) dX9_readMay_110 ⟨_, rfl, (Or.inr rfl), hw⟩
        · refine g_aload_n C dX9_readMay_73 rfl (by decide) rfl ?_
          obtain ⟨q4, hw⟩ := hw
          refine g_callVz C [] (sim_X7_isFull wirC q4 hw) k_829 k_830 k_831 k_136 k_832 hdV_X7_isFull rfl rfl (by decide) rfl q4 rfl rfl rfl dX9_readMay_74 ?_
          intro x2 h2 zb74 hw
          refine g_if_eq C 86 dX9_readMay_77 rfl hw (fun hw => ?_) (fun hw => ?_)
          · refine g_aload_n C dX9_readMay_86 rfl (by decide) rfl ?_
            refine gw_X9_27 C dX9_readMay_87 kdC_46 wwC_46_0 ?_
            refine g_callVv C [] (sim_X10_advance hw) k_790 k_766 k_767 k_141 k_768 hdV_X10_advance rfl rfl (by decide) rfl kdC_49 rfl rfl rfl dX9_readMay_90 ?_
            intro h3 hw
            refine g_aload_n C dX9_readMay_93 rfl (by decide) rfl ?_
            refine g_aload_n C dX9_readMay_94 rfl (by decide) rfl ?_
            refine g_callVz C [(2, v1)] (sim_X9_readShoreCell hw) k_833 k_835 k_14 k_140 k_836 hdV_X9_readShoreCell rfl rfl (by decide) rfl kdC_46 rfl rfl rfl dX9_readMay_95 ?_
            intro x3 h4 zb95 hw
            refine g_if_ne C 103 dX9_readMay_98 rfl hw (fun hw => ?_) (fun hw => ?_)
            · refine g_iincN C dX9_readMay_103 rfl (by decide) (fun x4 ex4 => ?_)
              replace hw := hw x4 ex4
              refine g_goto C 55 dX9_readMay_106 rfl ?_
              exact g_sub [1, 2, 0] rfl (hQ _ hw)
            · refine g_iconst C ⟨by decide, by decide⟩ dX9_readMay_101 ?_
              exact g_zret C hr (Or.inl rfl) dX9_readMay_102 ⟨_, rfl, (Or.inl rfl), hw⟩
          · refine g_aload_n C dX9_readMay_80 rfl (by decide) rfl ?_
            refine g_iconst C ⟨by decide, by decide⟩ dX9_readMay_81 ?_
            refine g_callVz C [(0, 2)] (sim_X9_refuse hw) k_774 k_776 k_7 k_140 k_777 hdV_X9_refuse rfl rfl (by decide) rfl kdC_46 rfl rfl rfl dX9_readMay_82 ?_
            intro x5 h5 zb82 hw
            exact g_zret C hr zb82 dX9_readMay_85 ⟨_, rfl, zb82, hw⟩
  show mG _ p l e _ s m args below meth c _ _ 0 [(0, (2, 46))] [] h
  unfold wp_X9_readMay at hw
  refine g_aload_n C dX9_readMay_0 rfl (by decide) rfl ?_
  refine g_aload_n C dX9_readMay_1 rfl (by decide) rfl ?_
  refine gf_X9_31 C dX9_readMay_2 kdC_46 (fun z2 => ?_)
  obtain ⟨q1, hw⟩ := hw
  refine gw_X9_265 C dX9_readMay_5 q1 (wir_4_6 wirC q1) ?_
  refine g_callVz C [] (sim_X7_isFull wirC (kid_4_6 wirC q1) hw) k_829 k_830 k_831 k_136 k_832 hdV_X7_isFull rfl rfl (by decide) rfl (kid_4_6 wirC q1) rfl rfl rfl dX9_readMay_8 ?_
  intro x1 h1 zb8 hw
  refine g_callVz C [(0, x1)] (sim_X9_beginCells hw) k_805 k_807 k_11 k_140 k_808 hdV_X9_beginCells rfl rfl (by decide) rfl kdC_46 rfl rfl rfl dX9_readMay_11 ?_
  intro x2 h2 zb11 hw
  refine g_if_ne C 19 dX9_readMay_14 rfl hw (fun hw => ?_) (fun hw => ?_)
  · refine g_aload_n C dX9_readMay_19 rfl (by decide) rfl ?_
    refine gf_X9_31 C dX9_readMay_20 kdC_46 (fun z20 => ?_)
    refine g_aload_n C dX9_readMay_23 rfl (by decide) rfl ?_
    refine gf_X9_31 C dX9_readMay_24 kdC_46 (fun z24 => ?_)
    obtain ⟨q2, hw⟩ := hw
    refine gw_X9_265 C dX9_readMay_27 q2 (wir_4_6 wirC q2) ?_
    refine gf_X9_213 C dX9_readMay_30 (kid_4_6 wirC q2) (fun z30 => ?_)
    refine g_callVr C [(0, (h2 ((h2 46 1) + 10) 1))] (sim_X5_shoresOf wirC q2 hw) k_961 k_962 k_963 k_135 k_964 hdV_X5_shoresOf rfl rfl (by decide) rfl q2 rfl rfl rfl dX9_readMay_33 ?_
    intro x3 h3 hw
    refine g_astore_n C dX9_readMay_36 rfl (by decide) (by decide) ?_
    refine g_aload_n C dX9_readMay_37 rfl (by decide) rfl ?_
    refine g_aload_n C dX9_readMay_38 rfl (by decide) rfl ?_
    refine gf_X9_31 C dX9_readMay_39 kdC_46 (fun z39 => ?_)
    obtain ⟨q3, hw⟩ := hw
    refine gw_X9_265 C dX9_readMay_42 q3 (wir_4_6 wirC q3) ?_
    refine g_callVz C [(2, ((h3 46 1) + 10))] (sim_X9_readNewName hw) k_850 k_852 k_16 k_140 k_853 hdV_X9_readNewName rfl rfl (by decide) rfl kdC_46 rfl rfl rfl dX9_readMay_45 ?_
    intro x4 h4 zb45 hw
    refine g_if_ne C 53 dX9_readMay_48 rfl hw (fun hw => ?_) (fun hw => ?_)
    · refine g_iconst C ⟨by decide, by decide⟩ dX9_readMay_53 ?_
      refine g_istore_n C dX9_readMay_54 rfl (by decide) ?_
      exact g_sub [1, 2, 0] rfl (hQ _ hw)
    · refine g_iconst C ⟨by decide, by decide⟩ dX9_readMay_51 ?_
      exact g_zret C hr (Or.inl rfl) dX9_readMay_52 ⟨_, rfl, (Or.inl rfl), hw⟩
  · refine g_iconst C ⟨by decide, by decide⟩ dX9_readMay_17 ?_
    exact g_zret C hr (Or.inl rfl) dX9_readMay_18 ⟨_, rfl, (Or.inl rfl), hw⟩
set_option maxRecDepth 20000 in
set_option maxHeartbeats 4000000 in
theorem sim_X9_readPlaced {z : Mz} {l : Launch} {p1 : Int} {p2 : Int} {h : Mh} {K : Int → Mh → Prop} (hw : wp_X9_readPlaced p1 p2 h K) : mCal (XC z) l yX9_readPlaced cX9_readPlaced 4 (some Jvm.ClassFile.FieldType.boolean) 3 70 [(2, 46), (2, p1), (2, p2)] h (mKz K) := by
  refine m_entry RX9 rfl (by decide) rfl (fun p e s m args below meth c C hr => ?_)
  show mG _ p l e _ s m args below meth c _ _ 0 [(0, (2, 46)), (1, (2, p1)), (2, (2, p2))] [] h
  unfold wp_X9_readPlaced at hw
  refine g_aload_n C dX9_readPlaced_0 rfl (by decide) rfl ?_
  refine g_aload_n C dX9_readPlaced_1 rfl (by decide) rfl ?_
  obtain ⟨q1, hw⟩ := hw
  refine g_callVz C [] (sim_X7_isFull wirC q1 hw) k_829 k_830 k_831 k_136 k_832 hdV_X7_isFull rfl rfl (by decide) rfl q1 rfl rfl rfl dX9_readPlaced_2 ?_
  intro x1 h1 zb2 hw
  refine g_callVz C [(0, x1)] (sim_X9_beginCells hw) k_805 k_807 k_11 k_140 k_808 hdV_X9_beginCells rfl rfl (by decide) rfl kdC_46 rfl rfl rfl dX9_readPlaced_5 ?_
  intro x2 h2 zb5 hw
  refine g_if_eq C 19 dX9_readPlaced_8 rfl hw (fun hw => ?_) (fun hw => ?_)
  · refine g_iconst C ⟨by decide, by decide⟩ dX9_readPlaced_19 ?_
    exact g_zret C hr (Or.inl rfl) dX9_readPlaced_20 ⟨_, rfl, (Or.inl rfl), hw⟩
  · refine g_aload_n C dX9_readPlaced_11 rfl (by decide) rfl ?_
    refine g_aload_n C dX9_readPlaced_12 rfl (by decide) rfl ?_
    refine g_callVz C [(2, p1)] (sim_X9_readNewName hw) k_850 k_852 k_16 k_140 k_853 hdV_X9_readNewName rfl rfl (by decide) rfl kdC_46 rfl rfl rfl dX9_readPlaced_13 ?_
    intro x3 h3 zb13 hw
    refine g_if_ne C 21 dX9_readPlaced_16 rfl hw (fun hw => ?_) (fun hw => ?_)
    · refine g_aload_n C dX9_readPlaced_21 rfl (by decide) rfl ?_
      refine g_aload_n C dX9_readPlaced_22 rfl (by decide) rfl ?_
      refine gf_X9_31 C dX9_readPlaced_23 kdC_46 (fun z23 => ?_)
      obtain ⟨q2, hw⟩ := hw
      refine gf_X9_187 C dX9_readPlaced_26 q2 (fun z26 => ?_)
      refine g_callVi C [(1, (h3 (h3 46 1) 2))] (sim_X9_readCell hw) k_821 k_823 k_12 k_140 k_824 hdV_X9_readCell rfl rfl (by decide) rfl kdC_46 rfl rfl rfl dX9_readPlaced_29 ?_
      intro x4 h4 hw
      refine g_istore_n C dX9_readPlaced_32 rfl (by decide) ?_
      refine g_iload_n C dX9_readPlaced_33 rfl rfl ?_
      refine g_if_ge C 39 dX9_readPlaced_34 rfl hw (fun hw => ?_) (fun hw => ?_)
      · refine g_aload_n C dX9_readPlaced_39 rfl (by decide) rfl ?_
        refine g_iload_n C dX9_readPlaced_40 rfl rfl ?_
        obtain ⟨q3, hw⟩ := hw
        refine g_callVv C [(0, x4)] (sim_X7_add wirC q3 hw) k_838 k_839 k_840 k_136 k_841 hdV_X7_add rfl rfl (by decide) rfl q3 rfl rfl rfl dX9_readPlaced_41 ?_
        intro h5 hw
        refine g_iconst C ⟨by decide, by decide⟩ dX9_readPlaced_44 ?_
        exact g_zret C hr (Or.inr rfl) dX9_readPlaced_45 ⟨_, rfl, (Or.inr rfl), hw⟩
      · refine g_iconst C ⟨by decide, by decide⟩ dX9_readPlaced_37 ?_
        exact g_zret C hr (Or.inl rfl) dX9_readPlaced_38 ⟨_, rfl, (Or.inl rfl), hw⟩
    · refine g_iconst C ⟨by decide, by decide⟩ dX9_readPlaced_19 ?_
      exact g_zret C hr (Or.inl rfl) dX9_readPlaced_20 ⟨_, rfl, (Or.inl rfl), hw⟩
set_option maxRecDepth 20000 in
set_option maxHeartbeats 4000000 in
theorem sim_X9_readPond {z : Mz} {l : Launch} {h : Mh} {K : Int → Mh → Prop} (hw : wp_X9_readPond h K) : mCal (XC z) l yX9_readPond cX9_readPond 3 (some Jvm.ClassFile.FieldType.boolean) 2 44 [(2, 46)] h (mKz K) := by
  refine m_entry RX9 rfl (by decide) rfl (fun p e s m args below meth c C hr => ?_)
  show mG _ p l e _ s m args below meth c _ _ 0 [(0, (2, 46))] [] h
  unfold wp_X9_readPond at hw
  refine g_aload_n C dX9_readPond_0 rfl (by decide) rfl ?_
  refine gf_X9_46 C dX9_readPond_1 kdC_46 (fun z1 => ?_)
  refine g_if_eq C 13 dX9_readPond_4 rfl hw (fun hw => ?_) (fun hw => ?_)
  · refine g_aload_n C dX9_readPond_13 rfl (by decide) rfl ?_
    refine gf_X9_59 C dX9_readPond_14 kdC_46 (fun z14 => ?_)
    refine g_if_eq C 26 dX9_readPond_17 rfl hw (fun hw => ?_) (fun hw => ?_)
    · refine g_aload_n C dX9_readPond_26 rfl (by decide) rfl ?_
      refine g_iconst C ⟨by decide, by decide⟩ dX9_readPond_27 ?_
      refine gp_X9_46 C dX9_readPond_28 kdC_46 (fun _ => (Or.inr rfl)) ?_
      refine g_heap (fun h1 eh1 => ?_)
      replace hw := hw h1 eh1
      refine g_aload_n C dX9_readPond_31 rfl (by decide) rfl ?_
      refine gw_X9_27 C dX9_readPond_32 kdC_46 wwC_46_0 ?_
      refine g_callVv C [] (sim_X10_advance hw) k_790 k_766 k_767 k_141 k_768 hdV_X10_advance rfl rfl (by decide) rfl kdC_49 rfl rfl rfl dX9_readPond_35 ?_
      intro h2 hw
      refine g_aload_n C dX9_readPond_38 rfl (by decide) rfl ?_
      refine g_iconst C ⟨by decide, by decide⟩ dX9_readPond_39 ?_
      refine g_bipush C ⟨by decide, by decide⟩ (by decide) dX9_readPond_40 ?_
      refine g_callVi C [(0, 1), (0, 8)] (sim_X9_readNumber hw) k_791 k_793 k_9 k_140 k_794 hdV_X9_readNumber rfl rfl (by decide) rfl kdC_46 rfl rfl rfl dX9_readPond_42 ?_
      intro x1 h3 hw
      refine g_istore_n C dX9_readPond_45 rfl (by decide) ?_
      refine g_iload_n C dX9_readPond_46 rfl rfl ?_
      refine g_if_ge C 54 dX9_readPond_47 rfl hw (fun hw => ?_) (fun hw => ?_)
      · refine g_aload_n C dX9_readPond_54 rfl (by decide) rfl ?_
        refine g_iconst C ⟨by decide, by decide⟩ dX9_readPond_55 ?_
        refine g_bipush C ⟨by decide, by decide⟩ (by decide) dX9_readPond_56 ?_
        refine g_callVi C [(0, 1), (0, 6)] (sim_X9_readNumber hw) k_791 k_793 k_9 k_140 k_794 hdV_X9_readNumber rfl rfl (by decide) rfl kdC_46 rfl rfl rfl dX9_readPond_58 ?_
        intro x2 h4 hw
        refine g_istore_n C dX9_readPond_61 rfl (by decide) ?_
        refine g_iload_n C dX9_readPond_62 rfl rfl ?_
        refine g_if_ge C 68 dX9_readPond_63 rfl hw (fun hw => ?_) (fun hw => ?_)
        · refine g_aload_n C dX9_readPond_68 rfl (by decide) rfl ?_
          refine gf_X9_31 C dX9_readPond_69 kdC_46 (fun z69 => ?_)
          refine g_iload_n C dX9_readPond_72 rfl rfl ?_
          obtain ⟨q1, hw⟩ := hw
          refine gp_X9_170 C dX9_readPond_73 q1 (fun z => z) ?_
          refine g_heap (fun h5 eh5 => ?_)
          replace hw := hw h5 eh5
          refine g_aload_n C dX9_readPond_76 rfl (by decide) rfl ?_
          refine gf_X9_31 C dX9_readPond_77 kdC_46 (fun z77 => ?_)
          refine g_iload_n C dX9_readPond_80 rfl rfl ?_
          obtain ⟨q2, hw⟩ := hw
          refine gp_X9_177 C dX9_readPond_81 q2 (fun z => z) ?_
          refine g_heap (fun h6 eh6 => ?_)
          replace hw := hw h6 eh6
          refine g_iconst C ⟨by decide, by decide⟩ dX9_readPond_84 ?_
          exact g_zret C hr (Or.inr rfl) dX9_readPond_85 ⟨_, rfl, (Or.inr rfl), hw⟩
        · refine g_iconst C ⟨by decide, by decide⟩ dX9_readPond_66 ?_
          exact g_zret C hr (Or.inl rfl) dX9_readPond_67 ⟨_, rfl, (Or.inl rfl), hw⟩
      · refine g_iconst C ⟨by decide, by decide⟩ dX9_readPond_50 ?_
        refine g_goto C 61 dX9_readPond_51 rfl ?_
        refine g_istore_n C dX9_readPond_61 rfl (by decide) ?_
        refine g_iload_n C dX9_readPond_62 rfl rfl ?_
        refine g_if_ge C 68 dX9_readPond_63 rfl hw (fun hw => ?_) (fun hw => ?_)
        · refine g_aload_n C dX9_readPond_68 rfl (by decide) rfl ?_
          refine gf_X9_31 C dX9_readPond_69 kdC_46 (fun z69 => ?_)
          refine g_iload_n C dX9_readPond_72 rfl rfl ?_
          obtain ⟨q3, hw⟩ := hw
          refine gp_X9_170 C dX9_readPond_73 q3 (fun z => z) ?_
          refine g_heap (fun h7 eh7 => ?_)
          replace hw := hw h7 eh7
          refine g_aload_n C dX9_readPond_76 rfl (by decide) rfl ?_
          refine gf_X9_31 C dX9_readPond_77 kdC_46 (fun z77 => ?_)
          refine g_iload_n C dX9_readPond_80 rfl rfl ?_
          obtain ⟨q4, hw⟩ := hw
          refine gp_X9_177 C dX9_readPond_81 q4 (fun z => z) ?_
          refine g_heap (fun h8 eh8 => ?_)
          replace hw := hw h8 eh8
          refine g_iconst C ⟨by decide, by decide⟩ dX9_readPond_84 ?_
          exact g_zret C hr (Or.inr rfl) dX9_readPond_85 ⟨_, rfl, (Or.inr rfl), hw⟩
        · refine g_iconst C ⟨by decide, by decide⟩ dX9_readPond_66 ?_
          exact g_zret C hr (Or.inl rfl) dX9_readPond_67 ⟨_, rfl, (Or.inl rfl), hw⟩
    · refine g_aload_n C dX9_readPond_20 rfl (by decide) rfl ?_
      refine g_iconst C ⟨by decide, by decide⟩ dX9_readPond_21 ?_
      refine g_callVz C [(0, 4)] (sim_X9_refuse hw) k_774 k_776 k_7 k_140 k_777 hdV_X9_refuse rfl rfl (by decide) rfl kdC_46 rfl rfl rfl dX9_readPond_22 ?_
      intro x3 h9 zb22 hw
      exact g_zret C hr zb22 dX9_readPond_25 ⟨_, rfl, zb22, hw⟩
  · refine g_aload_n C dX9_readPond_7 rfl (by decide) rfl ?_
    refine g_iconst C ⟨by decide, by decide⟩ dX9_readPond_8 ?_
    refine g_callVz C [(0, 3)] (sim_X9_refuse hw) k_774 k_776 k_7 k_140 k_777 hdV_X9_refuse rfl rfl (by decide) rfl kdC_46 rfl rfl rfl dX9_readPond_9 ?_
    intro x4 h10 zb9 hw
    exact g_zret C hr zb9 dX9_readPond_12 ⟨_, rfl, zb9, hw⟩
set_option maxRecDepth 20000 in
set_option maxHeartbeats 4000000 in
theorem sim_X9_readReed {z : Mz} {l : Launch} {h : Mh} {K : Int → Mh → Prop} (hw : wp_X9_readReed h K) : mCal (XC z) l yX9_readReed cX9_readReed 2 (some Jvm.ClassFile.FieldType.boolean) 3 70 [(2, 46)] h (mKz K) := by
  refine m_entry RX9 rfl (by decide) rfl (fun p e s m args below meth c C hr => ?_)
  have hQ : ∀ x, Lfp (F_X9_readReed K) x → (match x.1, x.2.1 with | 21, [s1] => mG (XC z) p l e { frames := 3, cells := 0, slots := 0, locals := 70 } s m args below meth c 2 (mMQ (XC z) (mKz K) below args s) 21 [(0, (2, 46))] [(0, s1), (2, 46)] x.2.2 | _, _ => True) := by
    intro x hx
    refine Lfp.ind (fun x => (match x.1, x.2.1 with | 21, [s1] => mG (XC z) p l e { frames := 3, cells := 0, slots := 0, locals := 70 } s m args below meth c 2 (mMQ (XC z) (mKz K) below args s) 21 [(0, (2, 46))] [(0, s1), (2, 46)] x.2.2 | _, _ => True)) ?_ hx
    clear hx x
    intro Z x hQ hw
    rcases hw with ⟨s1, h, rfl, hw⟩
    · show mG (XC z) p l e { frames := 3, cells := 0, slots := 0, locals := 70 } s m args below meth c 2 (mMQ (XC z) (mKz K) below args s) 21 [(0, (2, 46))] [(0, s1), (2, 46)] h
      unfold B_X9_readReed_21 at hw
      refine g_callVz C [(0, s1)] (sim_X9_beginCells hw) k_805 k_807 k_11 k_140 k_808 hdV_X9_beginCells rfl rfl (by decide) rfl kdC_46 rfl rfl rfl dX9_readReed_21 ?_
      intro x1 h1 zb21 hw
      refine g_if_ne C 29 dX9_readReed_24 rfl hw (fun hw => ?_) (fun hw => ?_)
      · refine g_aload_n C dX9_readReed_29 rfl (by decide) rfl ?_
        refine g_aload_n C dX9_readReed_30 rfl (by decide) rfl ?_
        refine gf_X9_31 C dX9_readReed_31 kdC_46 (fun z31 => ?_)
        obtain ⟨q2, hw⟩ := hw
        refine gf_X9_187 C dX9_readReed_34 q2 (fun z34 => ?_)
        refine g_aload_n C dX9_readReed_37 rfl (by decide) rfl ?_
        refine gf_X9_31 C dX9_readReed_38 kdC_46 (fun z38 => ?_)
        refine gf_X9_204 C dX9_readReed_41 q2 (fun z41 => ?_)
        refine g_lor C dX9_readReed_44 ?_
        refine g_callVi C [(1, j_lor (h1 (h1 46 1) 2) (h1 (h1 46 1) 3))] (sim_X9_readCell hw) k_821 k_823 k_12 k_140 k_824 hdV_X9_readCell rfl rfl (by decide) rfl kdC_46 rfl rfl rfl dX9_readReed_45 ?_
        intro x2 h2 hw
        refine g_istore_n C dX9_readReed_48 rfl (by decide) ?_
        refine g_iload_n C dX9_readReed_49 rfl rfl ?_
        refine g_if_ge C 55 dX9_readReed_50 rfl hw (fun hw => ?_) (fun hw => ?_)
        · refine g_aload_n C dX9_readReed_55 rfl (by decide) rfl ?_
          refine gf_X9_31 C dX9_readReed_56 kdC_46 (fun z56 => ?_)
          refine g_dup C (by show ¬ (2 : Nat) = 1; decide) dX9_readReed_59 ?_
          obtain ⟨q3, hw⟩ := hw
          refine gf_X9_204 C dX9_readReed_60 q3 (fun z60 => ?_)
          refine g_lconst C 1 (Or.inr rfl) rfl dX9_readReed_63 ?_
          refine g_iload_n C dX9_readReed_64 rfl rfl ?_
          refine g_lshl C dX9_readReed_65 ?_
          refine g_lor C dX9_readReed_66 ?_
          refine gp_X9_204 C dX9_readReed_67 q3 (fun z => z) ?_
          refine g_heap (fun h3 eh3 => ?_)
          replace hw := hw h3 eh3
          refine g_iconst C ⟨by decide, by decide⟩ dX9_readReed_70 ?_
          exact g_zret C hr (Or.inr rfl) dX9_readReed_71 ⟨_, rfl, (Or.inr rfl), hw⟩
        · refine g_iconst C ⟨by decide, by decide⟩ dX9_readReed_53 ?_
          exact g_zret C hr (Or.inl rfl) dX9_readReed_54 ⟨_, rfl, (Or.inl rfl), hw⟩
      · refine g_iconst C ⟨by decide, by decide⟩ dX9_readReed_27 ?_
        exact g_zret C hr (Or.inl rfl) dX9_readReed_28 ⟨_, rfl, (Or.inl rfl), hw⟩
  show mG _ p l e _ s m args below meth c _ _ 0 [(0, (2, 46))] [] h
  unfold wp_X9_readReed at hw
  refine g_aload_n C dX9_readReed_0 rfl (by decide) rfl ?_
  refine g_aload_n C dX9_readReed_1 rfl (by decide) rfl ?_
  refine gf_X9_31 C dX9_readReed_2 kdC_46 (fun z2 => ?_)
  obtain ⟨q1, hw⟩ := hw
  refine gf_X9_204 C dX9_readReed_5 q1 (fun z5 => ?_)
  refine g_callSi C [(1, (h (h 46 1) 3))] (sim_J13_bitCount_95d88 hw) k_799 k_800 k_151 k_801 hdS_J13_bitCount_95d88 rfl rfl rfl rfl rfl dX9_readReed_8 ?_
  intro x1 h1 hw
  refine g_bipush C ⟨by decide, by decide⟩ (by decide) dX9_readReed_11 ?_
  refine g_icmp_lt C 20 dX9_readReed_13 rfl hw (fun hw => ?_) (fun hw => ?_)
  · refine g_iconst C ⟨by decide, by decide⟩ dX9_readReed_20 ?_
    exact g_sub [0] rfl (hQ _ hw)
  · refine g_iconst C ⟨by decide, by decide⟩ dX9_readReed_16 ?_
    refine g_goto C 21 dX9_readReed_17 rfl ?_
    exact g_sub [0] rfl (hQ _ hw)
set_option maxRecDepth 20000 in
set_option maxHeartbeats 4000000 in
theorem sim_X9_readSent {z : Mz} {l : Launch} {h : Mh} {K : Int → Mh → Prop} (hw : wp_X9_readSent h K) : mCal (XC z) l yX9_readSent cX9_readSent 2 (some Jvm.ClassFile.FieldType.boolean) 3 66 [(2, 46)] h (mKz K) := by
  refine m_entry RX9 rfl (by decide) rfl (fun p e s m args below meth c C hr => ?_)
  show mG _ p l e _ s m args below meth c _ _ 0 [(0, (2, 46))] [] h
  unfold wp_X9_readSent at hw
  refine g_aload_n C dX9_readSent_0 rfl (by decide) rfl ?_
  refine g_aload_n C dX9_readSent_1 rfl (by decide) rfl ?_
  refine gf_X9_56 C dX9_readSent_2 kdC_46 (fun z2 => ?_)
  refine g_bipush C ⟨by decide, by decide⟩ (by decide) dX9_readSent_5 ?_
  refine g_callVi C [(0, (h 46 8)), (0, 99)] (sim_X9_readOnce hw) k_889 k_891 k_21 k_140 k_892 hdV_X9_readOnce rfl rfl (by decide) rfl kdC_46 rfl rfl rfl dX9_readSent_7 ?_
  intro x1 h1 hw
  refine g_istore_n C dX9_readSent_10 rfl (by decide) ?_
  refine g_aload_n C dX9_readSent_11 rfl (by decide) rfl ?_
  refine g_iconst C ⟨by decide, by decide⟩ dX9_readSent_12 ?_
  refine gp_X9_56 C dX9_readSent_13 kdC_46 (fun _ => (Or.inr rfl)) ?_
  refine g_heap (fun h2 eh2 => ?_)
  replace hw := hw h2 eh2
  refine g_aload_n C dX9_readSent_16 rfl (by decide) rfl ?_
  refine gf_X9_31 C dX9_readSent_17 kdC_46 (fun z17 => ?_)
  refine g_iload_n C dX9_readSent_20 rfl rfl ?_
  refine g_iconst C ⟨by decide, by decide⟩ dX9_readSent_21 ?_
  refine g_mmax C k_893 k_179 k_137 k_180 rfl rfl rfl dX9_readSent_22 ?_
  obtain ⟨q1, hw⟩ := hw
  refine gp_X9_262 C dX9_readSent_25 q1 (fun z => z) ?_
  refine g_heap (fun h3 eh3 => ?_)
  replace hw := hw h3 eh3
  refine g_iload_n C dX9_readSent_28 rfl rfl ?_
  refine g_if_lt C 36 dX9_readSent_29 rfl hw (fun hw => ?_) (fun hw => ?_)
  · refine g_iconst C ⟨by decide, by decide⟩ dX9_readSent_36 ?_
    exact g_zret C hr (Or.inl rfl) dX9_readSent_37 ⟨_, rfl, (Or.inl rfl), hw⟩
  · refine g_iconst C ⟨by decide, by decide⟩ dX9_readSent_32 ?_
    refine g_goto C 37 dX9_readSent_33 rfl ?_
    exact g_zret C hr (Or.inr rfl) dX9_readSent_37 ⟨_, rfl, (Or.inr rfl), hw⟩
set_option maxRecDepth 20000 in
set_option maxHeartbeats 4000000 in
theorem sim_X9_readThick {z : Mz} {l : Launch} {h : Mh} {K : Int → Mh → Prop} (hw : wp_X9_readThick h K) : mCal (XC z) l yX9_readThick cX9_readThick 2 (some Jvm.ClassFile.FieldType.boolean) 3 66 [(2, 46)] h (mKz K) := by
  refine m_entry RX9 rfl (by decide) rfl (fun p e s m args below meth c C hr => ?_)
  show mG _ p l e _ s m args below meth c _ _ 0 [(0, (2, 46))] [] h
  unfold wp_X9_readThick at hw
  refine g_aload_n C dX9_readThick_0 rfl (by decide) rfl ?_
  refine g_aload_n C dX9_readThick_1 rfl (by decide) rfl ?_
  refine gf_X9_53 C dX9_readThick_2 kdC_46 (fun z2 => ?_)
  refine g_bipush C ⟨by decide, by decide⟩ (by decide) dX9_readThick_5 ?_
  refine g_callVi C [(0, (h 46 7)), (0, 99)] (sim_X9_readOnce hw) k_889 k_891 k_21 k_140 k_892 hdV_X9_readOnce rfl rfl (by decide) rfl kdC_46 rfl rfl rfl dX9_readThick_7 ?_
  intro x1 h1 hw
  refine g_istore_n C dX9_readThick_10 rfl (by decide) ?_
  refine g_aload_n C dX9_readThick_11 rfl (by decide) rfl ?_
  refine g_iconst C ⟨by decide, by decide⟩ dX9_readThick_12 ?_
  refine gp_X9_53 C dX9_readThick_13 kdC_46 (fun _ => (Or.inr rfl)) ?_
  refine g_heap (fun h2 eh2 => ?_)
  replace hw := hw h2 eh2
  refine g_aload_n C dX9_readThick_16 rfl (by decide) rfl ?_
  refine gf_X9_31 C dX9_readThick_17 kdC_46 (fun z17 => ?_)
  refine g_iload_n C dX9_readThick_20 rfl rfl ?_
  refine g_iconst C ⟨by decide, by decide⟩ dX9_readThick_21 ?_
  refine g_mmax C k_893 k_179 k_137 k_180 rfl rfl rfl dX9_readThick_22 ?_
  obtain ⟨q1, hw⟩ := hw
  refine gp_X9_259 C dX9_readThick_25 q1 (fun z => z) ?_
  refine g_heap (fun h3 eh3 => ?_)
  replace hw := hw h3 eh3
  refine g_iload_n C dX9_readThick_28 rfl rfl ?_
  refine g_if_lt C 36 dX9_readThick_29 rfl hw (fun hw => ?_) (fun hw => ?_)
  · refine g_iconst C ⟨by decide, by decide⟩ dX9_readThick_36 ?_
    exact g_zret C hr (Or.inl rfl) dX9_readThick_37 ⟨_, rfl, (Or.inl rfl), hw⟩
  · refine g_iconst C ⟨by decide, by decide⟩ dX9_readThick_32 ?_
    refine g_goto C 37 dX9_readThick_33 rfl ?_
    exact g_zret C hr (Or.inr rfl) dX9_readThick_37 ⟨_, rfl, (Or.inr rfl), hw⟩
set_option maxRecDepth 20000 in
set_option maxHeartbeats 4000000 in
theorem sim_X9_readLine {z : Mz} {l : Launch} {h : Mh} {K : Int → Mh → Prop} (hw : wp_X9_readLine h K) : mCal (XC z) l yX9_readLine cX9_readLine 2 (some Jvm.ClassFile.FieldType.boolean) 5 114 [(2, 46)] h (mKz K) := by
  refine m_entry RX9 rfl (by decide) rfl (fun p e s m args below meth c C hr => ?_)
  have hQ : ∀ x, Lfp (F_X9_readLine K) x → (match x.1, x.2.1 with | 25, [s0] => mG (XC z) p l e { frames := 5, cells := 0, slots := 0, locals := 114 } s m args below meth c 2 (mMQ (XC z) (mKz K) below args s) 25 [(0, (2, 46))] [(3, s0)] x.2.2 | _, _ => True) := by
    intro x hx
    refine Lfp.ind (fun x => (match x.1, x.2.1 with | 25, [s0] => mG (XC z) p l e { frames := 5, cells := 0, slots := 0, locals := 114 } s m args below meth c 2 (mMQ (XC z) (mKz K) below args s) 25 [(0, (2, 46))] [(3, s0)] x.2.2 | _, _ => True)) ?_ hx
    clear hx x
    intro Z x hQ hw
    rcases hw with ⟨s0, h, rfl, hw⟩
    · show mG (XC z) p l e { frames := 5, cells := 0, slots := 0, locals := 114 } s m args below meth c 2 (mMQ (XC z) (mKz K) below args s) 25 [(0, (2, 46))] [(3, s0)] h
      unfold B_X9_readLine_25 at hw
      refine g_astore_n C dX9_readLine_25 rfl (by decide) (by decide) ?_
      refine g_aload_n C dX9_readLine_26 rfl (by decide) rfl ?_
      refine g_ifnonnull C 36 (by decide) dX9_readLine_27 rfl hw (fun hw => ?_) (fun hw => ?_)
      · refine g_getsSM C k_778 dX9_readLine_36 ?_
        refine g_aload_n C dX9_readLine_39 rfl (by decide) rfl ?_
        obtain ⟨⟨b1, b1b⟩, hw⟩ := hw
        refine g_ordinal C b1 b1b rfl rfl rfl dX9_readLine_40 ?_
        obtain ⟨⟨b2, b2b⟩, hw⟩ := hw
        refine g_ldSM C dX9_readLine_43 b2 b2b ?_
        by_cases c0 : wsm s0 = 1
        · rw [if_pos c0] at hw
          refine g_tabIn C 112 1 dX9_readLine_44 c0 (by decide) (by decide) rfl rfl ?_
          refine g_aload_n C dX9_readLine_112 rfl (by decide) rfl ?_
          refine g_callVz C [] (sim_X9_readPond hw) k_786 k_788 k_8 k_140 k_789 hdV_X9_readPond rfl rfl (by decide) rfl kdC_46 rfl rfl rfl dX9_readLine_113 ?_
          intro x1 h1 zb113 hw
          exact g_zret C hr zb113 dX9_readLine_116 ⟨_, rfl, zb113, hw⟩
        rw [if_neg c0] at hw
        by_cases c1 : wsm s0 = 2
        · rw [if_pos c1] at hw
          refine g_tabIn C 117 2 dX9_readLine_44 c1 (by decide) (by decide) rfl rfl ?_
          refine g_aload_n C dX9_readLine_117 rfl (by decide) rfl ?_
          refine g_callVz C [] (sim_X9_readLand hw) k_795 k_797 k_10 k_140 k_798 hdV_X9_readLand rfl rfl (by decide) rfl kdC_46 rfl rfl rfl dX9_readLine_118 ?_
          intro x2 h2 zb118 hw
          exact g_zret C hr zb118 dX9_readLine_121 ⟨_, rfl, zb118, hw⟩
        rw [if_neg c1] at hw
        by_cases c2 : wsm s0 = 3
        · rw [if_pos c2] at hw
          refine g_tabIn C 122 3 dX9_readLine_44 c2 (by decide) (by decide) rfl rfl ?_
          refine g_aload_n C dX9_readLine_122 rfl (by decide) rfl ?_
          refine g_callVz C [] (sim_X9_readReed hw) k_825 k_827 k_13 k_140 k_828 hdV_X9_readReed rfl rfl (by decide) rfl kdC_46 rfl rfl rfl dX9_readLine_123 ?_
          intro x3 h3 zb123 hw
          exact g_zret C hr zb123 dX9_readLine_126 ⟨_, rfl, zb123, hw⟩
        rw [if_neg c2] at hw
        by_cases c3 : wsm s0 = 4
        · rw [if_pos c3] at hw
          refine g_tabIn C 127 4 dX9_readLine_44 c3 (by decide) (by decide) rfl rfl ?_
          refine g_aload_n C dX9_readLine_127 rfl (by decide) rfl ?_
          refine g_aload_n C dX9_readLine_128 rfl (by decide) rfl ?_
          refine gf_X9_31 C dX9_readLine_129 kdC_46 (fun z129 => ?_)
          obtain ⟨q1, hw⟩ := hw
          refine gw_X9_116 C dX9_readLine_132 q1 (wir_4_4 wirC q1) ?_
          refine g_callVz C [] (sim_X7_isFull wirC (kid_4_4 wirC q1) hw) k_829 k_830 k_831 k_136 k_832 hdV_X7_isFull rfl rfl (by decide) rfl (kid_4_4 wirC q1) rfl rfl rfl dX9_readLine_135 ?_
          intro x4 h4 zb135 hw
          refine g_callVz C [(0, x4)] (sim_X9_beginCells hw) k_805 k_807 k_11 k_140 k_808 hdV_X9_beginCells rfl rfl (by decide) rfl kdC_46 rfl rfl rfl dX9_readLine_138 ?_
          intro x5 h5 zb138 hw
          refine g_if_eq C 162 dX9_readLine_141 rfl hw (fun hw => ?_) (fun hw => ?_)
          · refine g_iconst C ⟨by decide, by decide⟩ dX9_readLine_162 ?_
            exact g_zret C hr (Or.inl rfl) dX9_readLine_163 ⟨_, rfl, (Or.inl rfl), hw⟩
          · refine g_aload_n C dX9_readLine_144 rfl (by decide) rfl ?_
            refine g_aload_n C dX9_readLine_145 rfl (by decide) rfl ?_
            refine gf_X9_31 C dX9_readLine_146 kdC_46 (fun z146 => ?_)
            obtain ⟨q2, hw⟩ := hw
            refine gw_X9_116 C dX9_readLine_149 q2 (wir_4_4 wirC q2) ?_
            refine g_callVz C [(2, ((h5 46 1) + 1))] (sim_X9_readShoreCell hw) k_833 k_835 k_14 k_140 k_836 hdV_X9_readShoreCell rfl rfl (by decide) rfl kdC_46 rfl rfl rfl dX9_readLine_152 ?_
            intro x6 h6 zb152 hw
            refine g_if_eq C 162 dX9_readLine_155 rfl hw (fun hw => ?_) (fun hw => ?_)
            · refine g_iconst C ⟨by decide, by decide⟩ dX9_readLine_162 ?_
              exact g_zret C hr (Or.inl rfl) dX9_readLine_163 ⟨_, rfl, (Or.inl rfl), hw⟩
            · refine g_iconst C ⟨by decide, by decide⟩ dX9_readLine_158 ?_
              refine g_goto C 163 dX9_readLine_159 rfl ?_
              exact g_zret C hr (Or.inr rfl) dX9_readLine_163 ⟨_, rfl, (Or.inr rfl), hw⟩
        rw [if_neg c3] at hw
        by_cases c4 : wsm s0 = 5
        · rw [if_pos c4] at hw
          refine g_tabIn C 164 5 dX9_readLine_44 c4 (by decide) (by decide) rfl rfl ?_
          refine g_aload_n C dX9_readLine_164 rfl (by decide) rfl ?_
          refine g_callVz C [] (sim_X9_readKind hw) k_842 k_844 k_15 k_140 k_845 hdV_X9_readKind rfl rfl (by decide) rfl kdC_46 rfl rfl rfl dX9_readLine_165 ?_
          intro x7 h7 zb165 hw
          exact g_zret C hr zb165 dX9_readLine_168 ⟨_, rfl, zb165, hw⟩
        rw [if_neg c4] at hw
        by_cases c5 : wsm s0 = 6
        · rw [if_pos c5] at hw
          refine g_tabIn C 169 6 dX9_readLine_44 c5 (by decide) (by decide) rfl rfl ?_
          refine g_aload_n C dX9_readLine_169 rfl (by decide) rfl ?_
          refine g_aload_n C dX9_readLine_170 rfl (by decide) rfl ?_
          refine gf_X9_31 C dX9_readLine_171 kdC_46 (fun z171 => ?_)
          obtain ⟨q3, hw⟩ := hw
          refine gw_X9_136 C dX9_readLine_174 q3 (wir_4_10 wirC q3) ?_
          refine g_aload_n C dX9_readLine_177 rfl (by decide) rfl ?_
          refine gf_X9_31 C dX9_readLine_178 kdC_46 (fun z178 => ?_)
          refine gw_X9_139 C dX9_readLine_181 q3 (wir_4_11 wirC q3) ?_
          refine g_callVz C [(2, ((h 46 1) + 25)), (2, ((h 46 1) + 27))] (sim_X9_readPlaced hw) k_872 k_874 k_18 k_140 k_875 hdV_X9_readPlaced rfl rfl (by decide) rfl kdC_46 rfl rfl rfl dX9_readLine_184 ?_
          intro x8 h8 zb184 hw
          exact g_zret C hr zb184 dX9_readLine_187 ⟨_, rfl, zb184, hw⟩
        rw [if_neg c5] at hw
        by_cases c6 : wsm s0 = 7
        · rw [if_pos c6] at hw
          refine g_tabIn C 188 7 dX9_readLine_44 c6 (by decide) (by decide) rfl rfl ?_
          refine g_aload_n C dX9_readLine_188 rfl (by decide) rfl ?_
          refine g_aload_n C dX9_readLine_189 rfl (by decide) rfl ?_
          refine gf_X9_31 C dX9_readLine_190 kdC_46 (fun z190 => ?_)
          obtain ⟨q4, hw⟩ := hw
          refine gw_X9_146 C dX9_readLine_193 q4 (wir_4_12 wirC q4) ?_
          refine g_aload_n C dX9_readLine_196 rfl (by decide) rfl ?_
          refine gf_X9_31 C dX9_readLine_197 kdC_46 (fun z197 => ?_)
          refine gw_X9_149 C dX9_readLine_200 q4 (wir_4_13 wirC q4) ?_
          refine g_callVz C [(2, ((h 46 1) + 29)), (2, ((h 46 1) + 31))] (sim_X9_readPlaced hw) k_872 k_874 k_18 k_140 k_875 hdV_X9_readPlaced rfl rfl (by decide) rfl kdC_46 rfl rfl rfl dX9_readLine_203 ?_
          intro x9 h9 zb203 hw
          exact g_zret C hr zb203 dX9_readLine_206 ⟨_, rfl, zb203, hw⟩
        rw [if_neg c6] at hw
        by_cases c7 : wsm s0 = 8
        · rw [if_pos c7] at hw
          refine g_tabIn C 207 8 dX9_readLine_44 c7 (by decide) (by decide) rfl rfl ?_
          refine g_aload_n C dX9_readLine_207 rfl (by decide) rfl ?_
          refine g_callVz C [] (sim_X9_readDrop hw) k_876 k_878 k_19 k_140 k_879 hdV_X9_readDrop rfl rfl (by decide) rfl kdC_46 rfl rfl rfl dX9_readLine_208 ?_
          intro x10 h10 zb208 hw
          exact g_zret C hr zb208 dX9_readLine_211 ⟨_, rfl, zb208, hw⟩
        rw [if_neg c7] at hw
        by_cases c8 : wsm s0 = 9
        · rw [if_pos c8] at hw
          refine g_tabIn C 212 9 dX9_readLine_44 c8 (by decide) (by decide) rfl rfl ?_
          refine g_aload_n C dX9_readLine_212 rfl (by decide) rfl ?_
          refine g_callVz C [] (sim_X9_readLoss hw) k_885 k_887 k_20 k_140 k_888 hdV_X9_readLoss rfl rfl (by decide) rfl kdC_46 rfl rfl rfl dX9_readLine_213 ?_
          intro x11 h11 zb213 hw
          exact g_zret C hr zb213 dX9_readLine_216 ⟨_, rfl, zb213, hw⟩
        rw [if_neg c8] at hw
        by_cases c9 : wsm s0 = 10
        · rw [if_pos c9] at hw
          refine g_tabIn C 217 10 dX9_readLine_44 c9 (by decide) (by decide) rfl rfl ?_
          refine g_aload_n C dX9_readLine_217 rfl (by decide) rfl ?_
          refine g_callVz C [] (sim_X9_readThick hw) k_894 k_896 k_22 k_140 k_897 hdV_X9_readThick rfl rfl (by decide) rfl kdC_46 rfl rfl rfl dX9_readLine_218 ?_
          intro x12 h12 zb218 hw
          exact g_zret C hr zb218 dX9_readLine_221 ⟨_, rfl, zb218, hw⟩
        rw [if_neg c9] at hw
        by_cases c10 : wsm s0 = 11
        · rw [if_pos c10] at hw
          refine g_tabIn C 222 11 dX9_readLine_44 c10 (by decide) (by decide) rfl rfl ?_
          refine g_aload_n C dX9_readLine_222 rfl (by decide) rfl ?_
          refine g_callVz C [] (sim_X9_readSent hw) k_898 k_900 k_23 k_140 k_901 hdV_X9_readSent rfl rfl (by decide) rfl kdC_46 rfl rfl rfl dX9_readLine_223 ?_
          intro x13 h13 zb223 hw
          exact g_zret C hr zb223 dX9_readLine_226 ⟨_, rfl, zb223, hw⟩
        rw [if_neg c10] at hw
        by_cases c11 : wsm s0 = 12
        · rw [if_pos c11] at hw
          refine g_tabIn C 227 12 dX9_readLine_44 c11 (by decide) (by decide) rfl rfl ?_
          refine g_aload_n C dX9_readLine_227 rfl (by decide) rfl ?_
          refine g_callVz C [] (sim_X9_readLaw hw) k_902 k_904 k_24 k_140 k_905 hdV_X9_readLaw rfl rfl (by decide) rfl kdC_46 rfl rfl rfl dX9_readLine_228 ?_
          intro x14 h14 zb228 hw
          exact g_zret C hr zb228 dX9_readLine_231 ⟨_, rfl, zb228, hw⟩
        rw [if_neg c11] at hw
        by_cases c12 : wsm s0 = 13
        · rw [if_pos c12] at hw
          refine g_tabIn C 232 13 dX9_readLine_44 c12 (by decide) (by decide) rfl rfl ?_
          refine g_aload_n C dX9_readLine_232 rfl (by decide) rfl ?_
          refine g_callVz C [] (sim_X9_readMay hw) k_957 k_959 k_35 k_140 k_960 hdV_X9_readMay rfl rfl (by decide) rfl kdC_46 rfl rfl rfl dX9_readLine_233 ?_
          intro x15 h15 zb233 hw
          exact g_zret C hr zb233 dX9_readLine_236 ⟨_, rfl, zb233, hw⟩
        rw [if_neg c12] at hw
        refine g_tabOut C 237 dX9_readLine_44 (by omega) rfl ?_
        refine g_aload_n C dX9_readLine_237 rfl (by decide) rfl ?_
        refine g_iconst C ⟨by decide, by decide⟩ dX9_readLine_238 ?_
        refine g_callVz C [(0, 1)] (sim_X9_refuse hw) k_774 k_776 k_7 k_140 k_777 hdV_X9_refuse rfl rfl (by decide) rfl kdC_46 rfl rfl rfl dX9_readLine_239 ?_
        intro x16 h16 zb239 hw
        exact g_zret C hr zb239 dX9_readLine_242 ⟨_, rfl, zb239, hw⟩
      · refine g_aload_n C dX9_readLine_30 rfl (by decide) rfl ?_
        refine g_iconst C ⟨by decide, by decide⟩ dX9_readLine_31 ?_
        refine g_callVz C [(0, 1)] (sim_X9_refuse hw) k_774 k_776 k_7 k_140 k_777 hdV_X9_refuse rfl rfl (by decide) rfl kdC_46 rfl rfl rfl dX9_readLine_32 ?_
        intro x17 h17 zb32 hw
        exact g_zret C hr zb32 dX9_readLine_35 ⟨_, rfl, zb32, hw⟩
  show mG _ p l e _ s m args below meth c _ _ 0 [(0, (2, 46))] [] h
  unfold wp_X9_readLine at hw
  refine g_aload_n C dX9_readLine_0 rfl (by decide) rfl ?_
  refine gw_X9_27 C dX9_readLine_1 kdC_46 wwC_46_0 ?_
  refine gf_X9_66 C dX9_readLine_4 kdC_49 (fun z4 => ?_)
  refine g_iconst C ⟨by decide, by decide⟩ dX9_readLine_7 ?_
  refine g_icmp_ne C 24 dX9_readLine_8 rfl hw (fun hw => ?_) (fun hw => ?_)
  · refine g_anull C 3 (by decide) dX9_readLine_24 ?_
    exact g_sub [0] rfl (hQ _ hw)
  · refine g_aload_n C dX9_readLine_11 rfl (by decide) rfl ?_
    refine gw_X9_27 C dX9_readLine_12 kdC_46 wwC_46_0 ?_
    refine gf_X9_89 C dX9_readLine_15 kdC_49 (fun z15 => ?_)
    refine g_callSNe C [(0, (h 49 10))] (sim_X12_of hw) k_773 k_742 k_149 k_743 hdS_X12_of rfl rfl rfl rfl rfl dX9_readLine_18 ?_
    intro x1 h1 hw
    refine g_goto C 25 dX9_readLine_21 rfl ?_
    exact g_sub [0] rfl (hQ _ hw)
set_option maxRecDepth 20000 in
set_option maxHeartbeats 4000000 in
theorem sim_X9_read {z : Mz} {l : Launch} {p1 : Int} {p2 : Int} {h : Mh} {K : Int → Mh → Prop} (hw : wp_X9_read p1 p2 h K) : mCal (XC z) l yX9_read cX9_read 4 (some Jvm.ClassFile.FieldType.boolean) 6 135 [(2, 46), (2, p1), (0, p2)] h (mKz K) := by
  refine m_entry RX9 rfl (by decide) rfl (fun p e s m args below meth c C hr => ?_)
  have hQ : ∀ x, Lfp (F_X9_read p1 p2 K) x → (match x.1, x.2.1 with | 62, [v3] => mG (XC z) p l e { frames := 6, cells := 0, slots := 0, locals := 135 } s m args below meth c 4 (mMQ (XC z) (mKz K) below args s) 62 [(3, (0, v3)), (0, (2, 46)), (1, (2, p1)), (2, (0, p2))] [] x.2.2 | _, _ => True) := by
    intro x hx
    refine Lfp.ind (fun x => (match x.1, x.2.1 with | 62, [v3] => mG (XC z) p l e { frames := 6, cells := 0, slots := 0, locals := 135 } s m args below meth c 4 (mMQ (XC z) (mKz K) below args s) 62 [(3, (0, v3)), (0, (2, 46)), (1, (2, p1)), (2, (0, p2))] [] x.2.2 | _, _ => True)) ?_ hx
    clear hx x
    intro Z x hQ hw
    rcases hw with ⟨v3, h, rfl, hw⟩
    · show mG (XC z) p l e { frames := 6, cells := 0, slots := 0, locals := 135 } s m args below meth c 4 (mMQ (XC z) (mKz K) below args s) 62 [(3, (0, v3)), (0, (2, 46)), (1, (2, p1)), (2, (0, p2))] [] h
      unfold B_X9_read_62 at hw
      refine g_iload_n C dX9_read_62 rfl rfl ?_
      refine g_if_le C 113 dX9_read_63 rfl hw (fun hw => ?_) (fun hw => ?_)
      · refine g_aload_n C dX9_read_113 rfl (by decide) rfl ?_
        refine gf_X9_40 C dX9_read_114 kdC_46 (fun z114 => ?_)
        refine g_if_ne C 124 dX9_read_117 rfl hw (fun hw => ?_) (fun hw => ?_)
        · refine g_iconst C ⟨by decide, by decide⟩ dX9_read_124 ?_
          exact g_zret C hr (Or.inl rfl) dX9_read_125 ⟨_, rfl, (Or.inl rfl), hw⟩
        · refine g_iconst C ⟨by decide, by decide⟩ dX9_read_120 ?_
          refine g_goto C 125 dX9_read_121 rfl ?_
          exact g_zret C hr (Or.inr rfl) dX9_read_125 ⟨_, rfl, (Or.inr rfl), hw⟩
      · refine g_aload_n C dX9_read_66 rfl (by decide) rfl ?_
        refine gw_X9_27 C dX9_read_67 kdC_46 wwC_46_0 ?_
        refine gf_X9_66 C dX9_read_70 kdC_49 (fun z70 => ?_)
        refine g_if_eq C 113 dX9_read_73 rfl hw (fun hw => ?_) (fun hw => ?_)
        · refine g_aload_n C dX9_read_113 rfl (by decide) rfl ?_
          refine gf_X9_40 C dX9_read_114 kdC_46 (fun z114 => ?_)
          refine g_if_ne C 124 dX9_read_117 rfl hw (fun hw => ?_) (fun hw => ?_)
          · refine g_iconst C ⟨by decide, by decide⟩ dX9_read_124 ?_
            exact g_zret C hr (Or.inl rfl) dX9_read_125 ⟨_, rfl, (Or.inl rfl), hw⟩
          · refine g_iconst C ⟨by decide, by decide⟩ dX9_read_120 ?_
            refine g_goto C 125 dX9_read_121 rfl ?_
            exact g_zret C hr (Or.inr rfl) dX9_read_125 ⟨_, rfl, (Or.inr rfl), hw⟩
        · refine g_aload_n C dX9_read_76 rfl (by decide) rfl ?_
          refine gf_X9_40 C dX9_read_77 kdC_46 (fun z77 => ?_)
          refine g_if_ne C 113 dX9_read_80 rfl hw (fun hw => ?_) (fun hw => ?_)
          · refine g_aload_n C dX9_read_113 rfl (by decide) rfl ?_
            refine gf_X9_40 C dX9_read_114 kdC_46 (fun z114 => ?_)
            refine g_if_ne C 124 dX9_read_117 rfl hw (fun hw => ?_) (fun hw => ?_)
            · refine g_iconst C ⟨by decide, by decide⟩ dX9_read_124 ?_
              exact g_zret C hr (Or.inl rfl) dX9_read_125 ⟨_, rfl, (Or.inl rfl), hw⟩
            · refine g_iconst C ⟨by decide, by decide⟩ dX9_read_120 ?_
              refine g_goto C 125 dX9_read_121 rfl ?_
              exact g_zret C hr (Or.inr rfl) dX9_read_125 ⟨_, rfl, (Or.inr rfl), hw⟩
          · refine g_aload_n C dX9_read_83 rfl (by decide) rfl ?_
            refine g_callVz C [] (sim_X9_readLine hw) k_769 k_771 k_6 k_140 k_772 hdV_X9_readLine rfl rfl (by decide) rfl kdC_46 rfl rfl rfl dX9_read_84 ?_
            intro x1 h1 zb84 hw
            refine g_if_eq C 107 dX9_read_87 rfl hw (fun hw => ?_) (fun hw => ?_)
            · refine g_iincN C dX9_read_107 rfl (by decide) (fun x2 ex2 => ?_)
              replace hw := hw x2 ex2
              refine g_goto C 62 dX9_read_110 rfl ?_
              exact g_sub [3, 0, 1, 2] rfl (hQ _ hw)
            · refine g_aload_n C dX9_read_90 rfl (by decide) rfl ?_
              refine g_callVz C [] (sim_X9_lineEnds hw) k_967 k_969 k_36 k_140 k_970 hdV_X9_lineEnds rfl rfl (by decide) rfl kdC_46 rfl rfl rfl dX9_read_91 ?_
              intro x3 h2 zb91 hw
              refine g_if_eq C 107 dX9_read_94 rfl hw (fun hw => ?_) (fun hw => ?_)
              · refine g_iincN C dX9_read_107 rfl (by decide) (fun x4 ex4 => ?_)
                replace hw := hw x4 ex4
                refine g_goto C 62 dX9_read_110 rfl ?_
                exact g_sub [3, 0, 1, 2] rfl (hQ _ hw)
              · refine g_aload_n C dX9_read_97 rfl (by decide) rfl ?_
                refine g_dup C (by show ¬ (2 : Nat) = 1; decide) dX9_read_98 ?_
                refine gf_X9_43 C dX9_read_99 kdC_46 (fun z99 => ?_)
                refine g_iconst C ⟨by decide, by decide⟩ dX9_read_102 ?_
                refine g_iadd C dX9_read_103 ?_
                refine gp_X9_43 C dX9_read_104 kdC_46 (fun z => z) ?_
                refine g_heap (fun h3 eh3 => ?_)
                replace hw := hw h3 eh3
                refine g_iincN C dX9_read_107 rfl (by decide) (fun x5 ex5 => ?_)
                replace hw := hw x5 ex5
                refine g_goto C 62 dX9_read_110 rfl ?_
                exact g_sub [3, 0, 1, 2] rfl (hQ _ hw)
  show mG _ p l e _ s m args below meth c _ _ 0 [(0, (2, 46)), (1, (2, p1)), (2, (0, p2))] [] h
  unfold wp_X9_read at hw
  refine g_aload_n C dX9_read_0 rfl (by decide) rfl ?_
  refine g_aload_n C dX9_read_1 rfl (by decide) rfl ?_
  refine gp_X9_31 C dX9_read_2 kdC_46 (fun _ => trivial) ?_
  refine g_heap (fun h1 eh1 => ?_)
  replace hw := hw h1 eh1
  refine g_aload_n C dX9_read_5 rfl (by decide) rfl ?_
  refine gf_X9_31 C dX9_read_6 kdC_46 (fun z6 => ?_)
  obtain ⟨q1, hw⟩ := hw
  refine g_callVv C [] (sim_X5_clear wirC q1 hw) k_721 k_251 k_252 k_135 k_253 hdV_X5_clear rfl rfl (by decide) rfl q1 rfl rfl rfl dX9_read_9 ?_
  intro h2 hw
  refine g_aload_n C dX9_read_12 rfl (by decide) rfl ?_
  refine g_iconst C ⟨by decide, by decide⟩ dX9_read_13 ?_
  refine gp_X9_40 C dX9_read_14 kdC_46 (fun z => z) ?_
  refine g_heap (fun h3 eh3 => ?_)
  replace hw := hw h3 eh3
  refine g_aload_n C dX9_read_17 rfl (by decide) rfl ?_
  refine g_iconst C ⟨by decide, by decide⟩ dX9_read_18 ?_
  refine gp_X9_9 C dX9_read_19 kdC_46 (fun z => z) ?_
  refine g_heap (fun h4 eh4 => ?_)
  replace hw := hw h4 eh4
  refine g_aload_n C dX9_read_22 rfl (by decide) rfl ?_
  refine g_iconst C ⟨by decide, by decide⟩ dX9_read_23 ?_
  refine gp_X9_43 C dX9_read_24 kdC_46 (fun z => z) ?_
  refine g_heap (fun h5 eh5 => ?_)
  replace hw := hw h5 eh5
  refine g_aload_n C dX9_read_27 rfl (by decide) rfl ?_
  refine g_iconst C ⟨by decide, by decide⟩ dX9_read_28 ?_
  refine gp_X9_46 C dX9_read_29 kdC_46 (fun _ => (Or.inl rfl)) ?_
  refine g_heap (fun h6 eh6 => ?_)
  replace hw := hw h6 eh6
  refine g_aload_n C dX9_read_32 rfl (by decide) rfl ?_
  refine g_iconst C ⟨by decide, by decide⟩ dX9_read_33 ?_
  refine gp_X9_50 C dX9_read_34 kdC_46 (fun _ => (Or.inl rfl)) ?_
  refine g_heap (fun h7 eh7 => ?_)
  replace hw := hw h7 eh7
  refine g_aload_n C dX9_read_37 rfl (by decide) rfl ?_
  refine g_iconst C ⟨by decide, by decide⟩ dX9_read_38 ?_
  refine gp_X9_53 C dX9_read_39 kdC_46 (fun _ => (Or.inl rfl)) ?_
  refine g_heap (fun h8 eh8 => ?_)
  replace hw := hw h8 eh8
  refine g_aload_n C dX9_read_42 rfl (by decide) rfl ?_
  refine g_iconst C ⟨by decide, by decide⟩ dX9_read_43 ?_
  refine gp_X9_56 C dX9_read_44 kdC_46 (fun _ => (Or.inl rfl)) ?_
  refine g_heap (fun h9 eh9 => ?_)
  replace hw := hw h9 eh9
  refine g_aload_n C dX9_read_47 rfl (by decide) rfl ?_
  refine g_iconst C ⟨by decide, by decide⟩ dX9_read_48 ?_
  refine gp_X9_59 C dX9_read_49 kdC_46 (fun _ => (Or.inl rfl)) ?_
  refine g_heap (fun h10 eh10 => ?_)
  replace hw := hw h10 eh10
  refine g_aload_n C dX9_read_52 rfl (by decide) rfl ?_
  refine gw_X9_27 C dX9_read_53 kdC_46 wwC_46_0 ?_
  refine g_iload_n C dX9_read_56 rfl rfl ?_
  refine g_callVv C [(0, p2)] (sim_X10_scan hw) k_722 k_723 k_724 k_141 k_725 hdV_X10_scan rfl rfl (by decide) rfl kdC_49 rfl rfl rfl dX9_read_57 ?_
  intro h11 hw
  refine g_iload_n C dX9_read_60 rfl rfl ?_
  refine g_istore_n C dX9_read_61 rfl (by decide) ?_
  exact g_sub [3, 0, 1, 2] rfl (hQ _ hw)
set_option maxRecDepth 20000 in
set_option maxHeartbeats 4000000 in
theorem sim_X13_text {z : Mz} {l : Launch} {p1 : Int} {h : Mh} {K : Int → Mh → Prop} (hw : wp_X13_text p1 h K) : mCal (XC z) l yX13_text cX13_text 3 (some Jvm.ClassFile.FieldType.int) 7 158 [(2, 0), (0, p1)] h (mKi K) := by
  refine m_entry RX13 rfl (by decide) rfl (fun p e s m args below meth c C hr => ?_)
  show mG _ p l e _ s m args below meth c _ _ 0 [(0, (2, 0)), (1, (0, p1))] [] h
  unfold wp_X13_text at hw
  refine g_iload_n C dX13_text_0 rfl rfl ?_
  refine g_if_lt C 12 dX13_text_1 rfl hw (fun hw => ?_) (fun hw => ?_)
  · refine g_bipush C ⟨by decide, by decide⟩ (by decide) dX13_text_12 ?_
    exact g_iret C hr dX13_text_14 ⟨_, rfl, hw⟩
  · refine g_iload_n C dX13_text_4 rfl rfl ?_
    refine g_aload_n C dX13_text_5 rfl (by decide) rfl ?_
    refine gf_X13_74 C dX13_text_6 kdC_0 (fun z6 => ?_)
    refine g_icmp_le C 15 dX13_text_9 rfl hw (fun hw => ?_) (fun hw => ?_)
    · refine g_aload_n C dX13_text_15 rfl (by decide) rfl ?_
      refine g_iconst C ⟨by decide, by decide⟩ dX13_text_16 ?_
      refine gp_X13_74 C dX13_text_17 kdC_0 (fun z => z) ?_
      refine g_heap (fun h1 eh1 => ?_)
      replace hw := hw h1 eh1
      refine g_aload_n C dX13_text_20 rfl (by decide) rfl ?_
      refine gw_X13_27 C dX13_text_21 kdC_0 wwC_0_3 ?_
      refine g_aload_n C dX13_text_24 rfl (by decide) rfl ?_
      refine gf_X13_18 C dX13_text_25 kdC_0 (fun z25 => ?_)
      refine g_iload_n C dX13_text_28 rfl rfl ?_
      refine g_callVz C [(2, (h1 0 2)), (0, p1)] (sim_X9_read hw) k_717 k_718 k_719 k_140 k_720 hdV_X9_read rfl rfl (by decide) rfl kdC_46 rfl rfl rfl dX13_text_29 ?_
      intro x1 h2 zb29 hw
      refine g_if_ne C 37 dX13_text_32 rfl hw (fun hw => ?_) (fun hw => ?_)
      · refine g_aload_n C dX13_text_37 rfl (by decide) rfl ?_
        refine gf_X13_18 C dX13_text_38 kdC_0 (fun z38 => ?_)
        refine g_astore_n C dX13_text_41 rfl (by decide) (by decide) ?_
        refine g_aload_n C dX13_text_42 rfl (by decide) rfl ?_
        refine g_aload_n C dX13_text_43 rfl (by decide) rfl ?_
        refine gw_X13_36 C dX13_text_44 kdC_0 wwC_0_4 ?_
        refine gf_X13_86 C dX13_text_47 kdC_53 (fun z47 => ?_)
        refine gp_X13_18 C dX13_text_50 kdC_0 (fun _ => trivial) ?_
        refine g_heap (fun h3 eh3 => ?_)
        replace hw := hw h3 eh3
        refine g_aload_n C dX13_text_53 rfl (by decide) rfl ?_
        refine gw_X13_36 C dX13_text_54 kdC_0 wwC_0_4 ?_
        refine g_aload_n C dX13_text_57 rfl (by decide) rfl ?_
        refine g_callVv C [(2, (h2 0 2))] (sim_X11_begin hw) k_971 k_482 k_483 k_142 k_484 hdV_X11_begin rfl rfl (by decide) rfl kdC_53 rfl rfl rfl dX13_text_58 ?_
        intro h4 hw
        refine g_aload_n C dX13_text_61 rfl (by decide) rfl ?_
        refine gw_X13_43 C dX13_text_62 kdC_0 wwC_0_5 ?_
        refine g_callVv C [] (sim_X4_clear hw) k_972 k_973 k_974 k_143 k_975 hdV_X4_clear rfl rfl (by decide) rfl kdC_107 rfl rfl rfl dX13_text_65 ?_
        intro h5 hw
        refine g_aload_n C dX13_text_68 rfl (by decide) rfl ?_
        refine gw_X13_27 C dX13_text_69 kdC_0 wwC_0_3 ?_
        refine gf_X13_95 C dX13_text_72 kdC_46 (fun z72 => ?_)
        exact g_iret C hr dX13_text_75 ⟨_, rfl, hw⟩
      · refine g_iconst C ⟨by decide, by decide⟩ dX13_text_35 ?_
        exact g_iret C hr dX13_text_36 ⟨_, rfl, hw⟩
    · refine g_bipush C ⟨by decide, by decide⟩ (by decide) dX13_text_12 ?_
      exact g_iret C hr dX13_text_14 ⟨_, rfl, hw⟩
set_option maxRecDepth 20000 in
set_option maxHeartbeats 4000000 in
theorem sim_X13_undo {z : Mz} {l : Launch} {h : Mh} {K : Int → Mh → Prop} (hw : wp_X13_undo h K) : mCal (XC z) l yX13_undo cX13_undo 1 (some Jvm.ClassFile.FieldType.int) 2 43 [(2, 0)] h (mKi K) := by
  refine m_entry RX13 rfl (by decide) rfl (fun p e s m args below meth c C hr => ?_)
  show mG _ p l e _ s m args below meth c _ _ 0 [(0, (2, 0))] [] h
  unfold wp_X13_undo at hw
  refine g_aload_n C dX13_undo_0 rfl (by decide) rfl ?_
  refine gw_X13_36 C dX13_undo_1 kdC_0 wwC_0_4 ?_
  refine g_callVi C [] (sim_X11_undoLatest hw) k_1244 k_1245 k_1246 k_142 k_1247 hdV_X11_undoLatest rfl rfl (by decide) rfl kdC_53 rfl rfl rfl dX13_undo_4 ?_
  intro x1 h1 hw
  exact g_iret C hr dX13_undo_7 ⟨_, rfl, hw⟩
set_option maxRecDepth 20000 in
set_option maxHeartbeats 4000000 in
theorem sim_X6_weakOf {z : Mz} {l : Launch} {p1 : Int} {p2 : Int} {h : Mh} {K : Int → Mh → Prop} (hw : wp_X6_weakOf p1 p2 h K) : mCal (XC z) l yX6_weakOf cX6_weakOf 4 (some Jvm.ClassFile.FieldType.int) 0 0 [(2, 115), (0, p1), (0, p2)] h (mKi K) := by
  refine m_entry RX6 rfl (by decide) rfl (fun p e s m args below meth c C hr => ?_)
  have hQ : ∀ x, Lfp (F_X6_weakOf p1 p2 K) x → (match x.1, x.2.1 with | 24, [] => mG (XC z) p l e { frames := 0, cells := 0, slots := 0, locals := 0 } s m args below meth c 4 (mMQ (XC z) (mKi K) below args s) 24 [(0, (2, 115)), (1, (0, p1)), (2, (0, p2))] [] x.2.2 | _, _ => True) := by
    intro x hx
    refine Lfp.ind (fun x => (match x.1, x.2.1 with | 24, [] => mG (XC z) p l e { frames := 0, cells := 0, slots := 0, locals := 0 } s m args below meth c 4 (mMQ (XC z) (mKi K) below args s) 24 [(0, (2, 115)), (1, (0, p1)), (2, (0, p2))] [] x.2.2 | _, _ => True)) ?_ hx
    clear hx x
    intro Z x hQ hw
    rcases hw with ⟨h, rfl, hw⟩
    · show mG (XC z) p l e { frames := 0, cells := 0, slots := 0, locals := 0 } s m args below meth c 4 (mMQ (XC z) (mKi K) below args s) 24 [(0, (2, 115)), (1, (0, p1)), (2, (0, p2))] [] h
      unfold B_X6_weakOf_24 at hw
      refine g_iconst C ⟨by decide, by decide⟩ dX6_weakOf_24 ?_
      refine g_istore_n C dX6_weakOf_25 rfl (by decide) ?_
      refine g_iload_n C dX6_weakOf_26 rfl rfl ?_
      refine g_if_eq C 44 dX6_weakOf_27 rfl hw (fun hw => ?_) (fun hw => ?_)
      · refine g_bipush C ⟨by decide, by decide⟩ (by decide) dX6_weakOf_44 ?_
        exact g_iret C hr dX6_weakOf_46 ⟨_, rfl, hw⟩
      · refine g_aload_n C dX6_weakOf_30 rfl (by decide) rfl ?_
        refine gw_X6_18 C dX6_weakOf_31 kdC_115 wwC_115_3 ?_
        refine g_iload_n C dX6_weakOf_34 rfl rfl ?_
        refine g_bipush C ⟨by decide, by decide⟩ (by decide) dX6_weakOf_35 ?_
        refine g_imul C dX6_weakOf_37 ?_
        refine g_iload_n C dX6_weakOf_38 rfl rfl ?_
        refine g_iadd C dX6_weakOf_39 ?_
        obtain ⟨⟨b2, b2b⟩, hw⟩ := hw
        refine g_iaload C dX6_weakOf_40 kdC_118 b2 b2b (fun z40 => ?_)
        refine g_goto C 46 dX6_weakOf_41 rfl ?_
        exact g_iret C hr dX6_weakOf_46 ⟨_, rfl, hw⟩
  show mG _ p l e _ s m args below meth c _ _ 0 [(0, (2, 115)), (1, (0, p1)), (2, (0, p2))] [] h
  unfold wp_X6_weakOf at hw
  refine g_iload_n C dX6_weakOf_0 rfl rfl ?_
  refine g_if_lt C 24 dX6_weakOf_1 rfl hw (fun hw => ?_) (fun hw => ?_)
  · exact g_sub [0, 1, 2] rfl (hQ _ hw)
  · refine g_iload_n C dX6_weakOf_4 rfl rfl ?_
    refine g_bipush C ⟨by decide, by decide⟩ (by decide) dX6_weakOf_5 ?_
    refine g_icmp_ge C 24 dX6_weakOf_7 rfl hw (fun hw => ?_) (fun hw => ?_)
    · exact g_sub [0, 1, 2] rfl (hQ _ hw)
    · refine g_iload_n C dX6_weakOf_10 rfl rfl ?_
      refine g_if_lt C 24 dX6_weakOf_11 rfl hw (fun hw => ?_) (fun hw => ?_)
      · exact g_sub [0, 1, 2] rfl (hQ _ hw)
      · refine g_iload_n C dX6_weakOf_14 rfl rfl ?_
        refine g_bipush C ⟨by decide, by decide⟩ (by decide) dX6_weakOf_15 ?_
        refine g_icmp_ge C 24 dX6_weakOf_17 rfl hw (fun hw => ?_) (fun hw => ?_)
        · exact g_sub [0, 1, 2] rfl (hQ _ hw)
        · refine g_iconst C ⟨by decide, by decide⟩ dX6_weakOf_20 ?_
          refine g_goto C 25 dX6_weakOf_21 rfl ?_
          refine g_istore_n C dX6_weakOf_25 rfl (by decide) ?_
          refine g_iload_n C dX6_weakOf_26 rfl rfl ?_
          refine g_if_eq C 44 dX6_weakOf_27 rfl hw (fun hw => ?_) (fun hw => ?_)
          · refine g_bipush C ⟨by decide, by decide⟩ (by decide) dX6_weakOf_44 ?_
            exact g_iret C hr dX6_weakOf_46 ⟨_, rfl, hw⟩
          · refine g_aload_n C dX6_weakOf_30 rfl (by decide) rfl ?_
            refine gw_X6_18 C dX6_weakOf_31 kdC_115 wwC_115_3 ?_
            refine g_iload_n C dX6_weakOf_34 rfl rfl ?_
            refine g_bipush C ⟨by decide, by decide⟩ (by decide) dX6_weakOf_35 ?_
            refine g_imul C dX6_weakOf_37 ?_
            refine g_iload_n C dX6_weakOf_38 rfl rfl ?_
            refine g_iadd C dX6_weakOf_39 ?_
            obtain ⟨⟨b1, b1b⟩, hw⟩ := hw
            refine g_iaload C dX6_weakOf_40 kdC_118 b1 b1b (fun z40 => ?_)
            refine g_goto C 46 dX6_weakOf_41 rfl ?_
            exact g_iret C hr dX6_weakOf_46 ⟨_, rfl, hw⟩
set_option maxRecDepth 20000 in
set_option maxHeartbeats 4000000 in
theorem sim_X13_weak {z : Mz} {l : Launch} {p1 : Int} {p2 : Int} {h : Mh} {K : Int → Mh → Prop} (hw : wp_X13_weak p1 p2 h K) : mCal (XC z) l yX13_weak cX13_weak 3 (some Jvm.ClassFile.FieldType.int) 4 94 [(2, 0), (0, p1), (0, p2)] h (mKi K) := by
  refine m_entry RX13 rfl (by decide) rfl (fun p e s m args below meth c C hr => ?_)
  show mG _ p l e _ s m args below meth c _ _ 0 [(0, (2, 0)), (1, (0, p1)), (2, (0, p2))] [] h
  unfold wp_X13_weak at hw
  refine g_aload_n C dX13_weak_0 rfl (by decide) rfl ?_
  refine gw_X13_36 C dX13_weak_1 kdC_0 wwC_0_4 ?_
  refine gf_X13_86 C dX13_weak_4 kdC_53 (fun z4 => ?_)
  refine g_iload_n C dX13_weak_7 rfl rfl ?_
  obtain ⟨q1, hw⟩ := hw
  refine g_callVz C [(0, p1)] (sim_X5_isWet wirC q1 hw) k_993 k_994 k_995 k_135 k_996 hdV_X5_isWet rfl rfl (by decide) rfl q1 rfl rfl rfl dX13_weak_8 ?_
  intro x1 h1 zb8 hw
  refine g_if_eq C 28 dX13_weak_11 rfl hw (fun hw => ?_) (fun hw => ?_)
  · refine g_iconst C ⟨by decide, by decide⟩ dX13_weak_28 ?_
    exact g_iret C hr dX13_weak_29 ⟨_, rfl, hw⟩
  · refine g_aload_n C dX13_weak_14 rfl (by decide) rfl ?_
    refine gw_X13_36 C dX13_weak_15 kdC_0 wwC_0_4 ?_
    refine gf_X13_86 C dX13_weak_18 kdC_53 (fun z18 => ?_)
    refine g_iload_n C dX13_weak_21 rfl rfl ?_
    obtain ⟨q2, hw⟩ := hw
    refine g_callVz C [(0, p2)] (sim_X5_isWet wirC q2 hw) k_993 k_994 k_995 k_135 k_996 hdV_X5_isWet rfl rfl (by decide) rfl q2 rfl rfl rfl dX13_weak_22 ?_
    intro x2 h2 zb22 hw
    refine g_if_ne C 30 dX13_weak_25 rfl hw (fun hw => ?_) (fun hw => ?_)
    · refine g_aload_n C dX13_weak_30 rfl (by decide) rfl ?_
      refine gw_X13_52 C dX13_weak_31 kdC_0 wwC_0_6 ?_
      refine g_callVv C [] (sim_X6_freshenWays hw) k_1017 k_1018 k_1019 k_144 k_1020 hdV_X6_freshenWays rfl rfl (by decide) rfl kdC_115 rfl rfl rfl dX13_weak_34 ?_
      intro h3 hw
      refine g_aload_n C dX13_weak_37 rfl (by decide) rfl ?_
      refine gw_X13_52 C dX13_weak_38 kdC_0 wwC_0_6 ?_
      refine g_iload_n C dX13_weak_41 rfl rfl ?_
      refine g_iload_n C dX13_weak_42 rfl rfl ?_
      refine g_callVi C [(0, p1), (0, p2)] (sim_X6_weakOf hw) k_1056 k_1057 k_1058 k_144 k_1059 hdV_X6_weakOf rfl rfl (by decide) rfl kdC_115 rfl rfl rfl dX13_weak_43 ?_
      intro x3 h4 hw
      exact g_iret C hr dX13_weak_46 ⟨_, rfl, hw⟩
    · refine g_iconst C ⟨by decide, by decide⟩ dX13_weak_28 ?_
      exact g_iret C hr dX13_weak_29 ⟨_, rfl, hw⟩
set_option maxRecDepth 20000 in
set_option maxHeartbeats 4000000 in
theorem sim_X8_cellAhead {z : Mz} {l : Launch} {p1 : Int} {p2 : Int} {h : Mh} {K : Int → Mh → Prop} (hw : wp_X8_cellAhead p1 p2 h K) : mCal (XC z) l yX8_cellAhead cX8_cellAhead 3 (some Jvm.ClassFile.FieldType.int) 6 158 [(2, 125), (0, p1), (0, p2)] h (mKi K) := by
  refine m_entry RX8 rfl (by decide) rfl (fun p e s m args below meth c C hr => ?_)
  show mG _ p l e _ s m args below meth c _ _ 0 [(0, (2, 125)), (1, (0, p1)), (2, (0, p2))] [] h
  unfold wp_X8_cellAhead at hw
  refine g_aload_n C dX8_cellAhead_0 rfl (by decide) rfl ?_
  refine g_iload_n C dX8_cellAhead_1 rfl rfl ?_
  refine g_iload_n C dX8_cellAhead_2 rfl rfl ?_
  refine g_callVv C [(0, p1), (0, p2)] (sim_X8_follow hw) k_1164 k_1166 k_46 k_145 k_1167 hdV_X8_follow rfl rfl (by decide) rfl kdC_125 rfl rfl rfl dX8_cellAhead_3 ?_
  intro h1 hw
  refine g_iload_n C dX8_cellAhead_6 rfl rfl ?_
  refine g_if_lt C 28 dX8_cellAhead_7 rfl hw (fun hw => ?_) (fun hw => ?_)
  · refine g_iconst C ⟨by decide, by decide⟩ dX8_cellAhead_28 ?_
    exact g_iret C hr dX8_cellAhead_29 ⟨_, rfl, hw⟩
  · refine g_iload_n C dX8_cellAhead_10 rfl rfl ?_
    refine g_aload_n C dX8_cellAhead_11 rfl (by decide) rfl ?_
    refine gw_X8_9 C dX8_cellAhead_12 kdC_125 wwC_125_2 ?_
    refine g_alen C dX8_cellAhead_15 (ci := 14) (by decide) skC_126 (by decide) ?_
    refine g_icmp_ge C 28 dX8_cellAhead_16 rfl hw (fun hw => ?_) (fun hw => ?_)
    · refine g_iconst C ⟨by decide, by decide⟩ dX8_cellAhead_28 ?_
      exact g_iret C hr dX8_cellAhead_29 ⟨_, rfl, hw⟩
    · refine g_aload_n C dX8_cellAhead_19 rfl (by decide) rfl ?_
      refine gw_X8_9 C dX8_cellAhead_20 kdC_125 wwC_125_2 ?_
      refine g_iload_n C dX8_cellAhead_23 rfl rfl ?_
      obtain ⟨⟨b1, b1b⟩, hw⟩ := hw
      refine g_iaload C dX8_cellAhead_24 kdC_126 b1 b1b (fun z24 => ?_)
      refine g_goto C 29 dX8_cellAhead_25 rfl ?_
      exact g_iret C hr dX8_cellAhead_29 ⟨_, rfl, hw⟩
set_option maxRecDepth 20000 in
set_option maxHeartbeats 4000000 in
theorem sim_X13_where {z : Mz} {l : Launch} {p1 : Int} {p2 : Int} {h : Mh} {K : Int → Mh → Prop} (hw : wp_X13_where p1 p2 h K) : mCal (XC z) l yX13_where cX13_where 3 (some Jvm.ClassFile.FieldType.int) 7 180 [(2, 0), (0, p1), (0, p2)] h (mKi K) := by
  refine m_entry RX13 rfl (by decide) rfl (fun p e s m args below meth c C hr => ?_)
  show mG _ p l e _ s m args below meth c _ _ 0 [(0, (2, 0)), (1, (0, p1)), (2, (0, p2))] [] h
  unfold wp_X13_where at hw
  refine g_aload_n C dX13_where_0 rfl (by decide) rfl ?_
  refine gw_X13_36 C dX13_where_1 kdC_0 wwC_0_4 ?_
  refine gf_X13_86 C dX13_where_4 kdC_53 (fun z4 => ?_)
  obtain ⟨q1, hw⟩ := hw
  refine gw_X13_117 C dX13_where_7 q1 (wir_4_12 wirC q1) ?_
  refine g_iload_n C dX13_where_10 rfl rfl ?_
  refine g_callVz C [(0, p1)] (sim_X7_has wirC (kid_4_12 wirC q1) hw) k_1113 k_1114 k_1115 k_136 k_1116 hdV_X7_has rfl rfl (by decide) rfl (kid_4_12 wirC q1) rfl rfl rfl dX13_where_11 ?_
  intro x1 h1 zb11 hw
  refine g_if_eq C 26 dX13_where_14 rfl hw (fun hw => ?_) (fun hw => ?_)
  · refine g_iconst C ⟨by decide, by decide⟩ dX13_where_26 ?_
    exact g_iret C hr dX13_where_27 ⟨_, rfl, hw⟩
  · refine g_iload_n C dX13_where_17 rfl rfl ?_
    refine g_bipush C ⟨by decide, by decide⟩ (by decide) dX13_where_18 ?_
    refine g_callSz C [(0, p2), (0, 100)] (sim_X13_isStep hw) k_1064 k_1065 k_134 k_1066 hdS_X13_isStep rfl rfl rfl rfl rfl dX13_where_20 ?_
    intro x2 h2 zb20 hw
    refine g_if_ne C 28 dX13_where_23 rfl hw (fun hw => ?_) (fun hw => ?_)
    · refine g_aload_n C dX13_where_28 rfl (by decide) rfl ?_
      refine gw_X13_52 C dX13_where_29 kdC_0 wwC_0_6 ?_
      refine g_callVv C [] (sim_X6_freshenSums hw) k_1068 k_1069 k_1070 k_144 k_1071 hdV_X6_freshenSums rfl rfl (by decide) rfl kdC_115 rfl rfl rfl dX13_where_32 ?_
      intro h3 hw
      refine g_aload_n C dX13_where_35 rfl (by decide) rfl ?_
      refine gw_X13_61 C dX13_where_36 kdC_0 wwC_0_7 ?_
      refine g_iload_n C dX13_where_39 rfl rfl ?_
      refine g_iload_n C dX13_where_40 rfl rfl ?_
      refine g_callVi C [(0, p1), (0, p2)] (sim_X8_cellAhead hw) k_1160 k_1161 k_1162 k_145 k_1163 hdV_X8_cellAhead rfl rfl (by decide) rfl kdC_125 rfl rfl rfl dX13_where_41 ?_
      intro x3 h4 hw
      exact g_iret C hr dX13_where_44 ⟨_, rfl, hw⟩
    · refine g_iconst C ⟨by decide, by decide⟩ dX13_where_26 ?_
      exact g_iret C hr dX13_where_27 ⟨_, rfl, hw⟩
