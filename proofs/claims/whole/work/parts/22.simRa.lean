set_option maxRecDepth 20000 in
set_option maxHeartbeats 4000000 in
theorem sim_X14_isIn {z : Mz} {l : Launch} {p0 : Int} {p1 : Int} {p2 : Int} {h : Mh} {K : Int → Mh → Prop} (hw : wp_X14_isIn p0 p1 p2 h K) : mCal (XR z) l yX14_isIn cX14_isIn 3 (some Jvm.ClassFile.FieldType.boolean) 0 0 [(0, p0), (0, p1), (0, p2)] h (mKz K) := by
  refine m_entry RX14 rfl (by decide) rfl (fun p e s m args below meth c C hr => ?_)
  show mG _ p l e _ s m args below meth c _ _ 0 [(0, (0, p0)), (1, (0, p1)), (2, (0, p2))] [] h
  unfold wp_X14_isIn at hw
  refine g_iload_n C dX14_isIn_0 rfl rfl ?_
  refine g_iload_n C dX14_isIn_1 rfl rfl ?_
  refine g_icmp_lt C 14 dX14_isIn_2 rfl hw (fun hw => ?_) (fun hw => ?_)
  · refine g_iconst C ⟨by decide, by decide⟩ dX14_isIn_14 ?_
    exact g_zret C hr (Or.inl rfl) dX14_isIn_15 ⟨_, rfl, (Or.inl rfl), hw⟩
  · refine g_iload_n C dX14_isIn_5 rfl rfl ?_
    refine g_iload_n C dX14_isIn_6 rfl rfl ?_
    refine g_icmp_gt C 14 dX14_isIn_7 rfl hw (fun hw => ?_) (fun hw => ?_)
    · refine g_iconst C ⟨by decide, by decide⟩ dX14_isIn_14 ?_
      exact g_zret C hr (Or.inl rfl) dX14_isIn_15 ⟨_, rfl, (Or.inl rfl), hw⟩
    · refine g_iconst C ⟨by decide, by decide⟩ dX14_isIn_10 ?_
      refine g_goto C 15 dX14_isIn_11 rfl ?_
      exact g_zret C hr (Or.inr rfl) dX14_isIn_15 ⟨_, rfl, (Or.inr rfl), hw⟩
set_option maxRecDepth 20000 in
set_option maxHeartbeats 4000000 in
theorem sim_X14_isOf {z : Mz} {l : Launch} {p0 : Int} {p1 : Int} {h : Mh} {K : Int → Mh → Prop} (hw : wp_X14_isOf p0 p1 h K) : mCal (XR z) l yX14_isOf cX14_isOf 2 (some Jvm.ClassFile.FieldType.boolean) 0 0 [(0, p0), (0, p1)] h (mKz K) := by
  refine m_entry RX14 rfl (by decide) rfl (fun p e s m args below meth c C hr => ?_)
  show mG _ p l e _ s m args below meth c _ _ 0 [(0, (0, p0)), (1, (0, p1))] [] h
  unfold wp_X14_isOf at hw
  refine g_iload_n C dX14_isOf_0 rfl rfl ?_
  refine g_iload_n C dX14_isOf_1 rfl rfl ?_
  refine g_ishr C dX14_isOf_2 ?_
  refine g_iconst C ⟨by decide, by decide⟩ dX14_isOf_3 ?_
  refine g_iand C dX14_isOf_4 ?_
  refine g_iconst C ⟨by decide, by decide⟩ dX14_isOf_5 ?_
  refine g_icmp_ne C 13 dX14_isOf_6 rfl hw (fun hw => ?_) (fun hw => ?_)
  · refine g_iconst C ⟨by decide, by decide⟩ dX14_isOf_13 ?_
    exact g_zret C hr (Or.inl rfl) dX14_isOf_14 ⟨_, rfl, (Or.inl rfl), hw⟩
  · refine g_iconst C ⟨by decide, by decide⟩ dX14_isOf_9 ?_
    refine g_goto C 14 dX14_isOf_10 rfl ?_
    exact g_zret C hr (Or.inr rfl) dX14_isOf_14 ⟨_, rfl, (Or.inr rfl), hw⟩
set_option maxRecDepth 20000 in
set_option maxHeartbeats 4000000 in
theorem sim_X14_cells {z : Mz} {l : Launch} {h : Mh} {K : Int → Mh → Prop} (hw : wp_X14_cells h K) : mCal (XR z) l yX14_cells cX14_cells 1 (some Jvm.ClassFile.FieldType.int) 0 0 [(2, 0)] h (mKi K) := by
  refine m_entry RX14 rfl (by decide) rfl (fun p e s m args below meth c C hr => ?_)
  show mG _ p l e _ s m args below meth c _ _ 0 [(0, (2, 0))] [] h
  unfold wp_X14_cells at hw
  refine g_aload_n C dX14_cells_0 rfl (by decide) rfl ?_
  refine gf_X14_255 C dX14_cells_1 kdR_0 (fun z1 => ?_)
  refine g_aload_n C dX14_cells_4 rfl (by decide) rfl ?_
  refine gf_X14_258 C dX14_cells_5 kdR_0 (fun z5 => ?_)
  refine g_imul C dX14_cells_8 ?_
  exact g_iret C hr dX14_cells_9 ⟨_, rfl, hw⟩
set_option maxRecDepth 20000 in
set_option maxHeartbeats 4000000 in
theorem sim_X14_isCell {z : Mz} {l : Launch} {p1 : Int} {h : Mh} {K : Int → Mh → Prop} (hw : wp_X14_isCell p1 h K) : mCal (XR z) l yX14_isCell cX14_isCell 2 (some Jvm.ClassFile.FieldType.boolean) 1 20 [(2, 0), (0, p1)] h (mKz K) := by
  refine m_entry RX14 rfl (by decide) rfl (fun p e s m args below meth c C hr => ?_)
  show mG _ p l e _ s m args below meth c _ _ 0 [(0, (2, 0)), (1, (0, p1))] [] h
  unfold wp_X14_isCell at hw
  refine g_iload_n C dX14_isCell_0 rfl rfl ?_
  refine g_if_lt C 16 dX14_isCell_1 rfl hw (fun hw => ?_) (fun hw => ?_)
  · refine g_iconst C ⟨by decide, by decide⟩ dX14_isCell_16 ?_
    exact g_zret C hr (Or.inl rfl) dX14_isCell_17 ⟨_, rfl, (Or.inl rfl), hw⟩
  · refine g_iload_n C dX14_isCell_4 rfl rfl ?_
    refine g_aload_n C dX14_isCell_5 rfl (by decide) rfl ?_
    refine g_callVi C [] (sim_X14_cells hw) k_1569 k_1571 k_73 k_147 k_1572 hdV_X14_cells rfl rfl (by decide) rfl kdR_0 rfl rfl rfl dX14_isCell_6 ?_
    intro x1 h1 hw
    refine g_icmp_ge C 16 dX14_isCell_9 rfl hw (fun hw => ?_) (fun hw => ?_)
    · refine g_iconst C ⟨by decide, by decide⟩ dX14_isCell_16 ?_
      exact g_zret C hr (Or.inl rfl) dX14_isCell_17 ⟨_, rfl, (Or.inl rfl), hw⟩
    · refine g_iconst C ⟨by decide, by decide⟩ dX14_isCell_12 ?_
      refine g_goto C 17 dX14_isCell_13 rfl ?_
      exact g_zret C hr (Or.inr rfl) dX14_isCell_17 ⟨_, rfl, (Or.inr rfl), hw⟩
set_option maxRecDepth 20000 in
set_option maxHeartbeats 4000000 in
theorem sim_X14_isWater {z : Mz} {l : Launch} {p1 : Int} {h : Mh} {K : Int → Mh → Prop} (hw : wp_X14_isWater p1 h K) : mCal (XR z) l yX14_isWater cX14_isWater 2 (some Jvm.ClassFile.FieldType.boolean) 2 41 [(2, 0), (0, p1)] h (mKz K) := by
  refine m_entry RX14 rfl (by decide) rfl (fun p e s m args below meth c C hr => ?_)
  show mG _ p l e _ s m args below meth c _ _ 0 [(0, (2, 0)), (1, (0, p1))] [] h
  unfold wp_X14_isWater at hw
  refine g_aload_n C dX14_isWater_0 rfl (by decide) rfl ?_
  refine g_iload_n C dX14_isWater_1 rfl rfl ?_
  refine g_callVz C [(0, p1)] (sim_X14_isCell hw) k_1565 k_1567 k_72 k_147 k_1568 hdV_X14_isCell rfl rfl (by decide) rfl kdR_0 rfl rfl rfl dX14_isWater_2 ?_
  intro x1 h1 zb2 hw
  refine g_if_eq C 22 dX14_isWater_5 rfl hw (fun hw => ?_) (fun hw => ?_)
  · refine g_iconst C ⟨by decide, by decide⟩ dX14_isWater_22 ?_
    exact g_zret C hr (Or.inl rfl) dX14_isWater_23 ⟨_, rfl, (Or.inl rfl), hw⟩
  · refine g_aload_n C dX14_isWater_8 rfl (by decide) rfl ?_
    refine gw_X14_27 C dX14_isWater_9 kdR_0 wwR_0_41 ?_
    refine g_iload_n C dX14_isWater_12 rfl rfl ?_
    obtain ⟨⟨b1, b1b⟩, hw⟩ := hw
    refine g_iaload C dX14_isWater_13 kdR_5 b1 b1b (fun z13 => ?_)
    refine g_iconst C ⟨by decide, by decide⟩ dX14_isWater_14 ?_
    refine g_icmp_eq C 22 dX14_isWater_15 rfl hw (fun hw => ?_) (fun hw => ?_)
    · refine g_iconst C ⟨by decide, by decide⟩ dX14_isWater_22 ?_
      exact g_zret C hr (Or.inl rfl) dX14_isWater_23 ⟨_, rfl, (Or.inl rfl), hw⟩
    · refine g_iconst C ⟨by decide, by decide⟩ dX14_isWater_18 ?_
      refine g_goto C 23 dX14_isWater_19 rfl ?_
      exact g_zret C hr (Or.inr rfl) dX14_isWater_23 ⟨_, rfl, (Or.inr rfl), hw⟩
set_option maxRecDepth 20000 in
set_option maxHeartbeats 4000000 in
theorem sim_X14_partOf {z : Mz} {l : Launch} {p1 : Int} {p2 : Int} {p3 : Int} {h : Mh} {K : Int → Mh → Prop} (hw : wp_X14_partOf p1 p2 p3 h K) : mCal (XR z) l yX14_partOf cX14_partOf 5 (some Jvm.ClassFile.FieldType.int) 0 0 [(2, 0), (0, p1), (0, p2), (0, p3)] h (mKi K) := by
  refine m_entry RX14 rfl (by decide) rfl (fun p e s m args below meth c C hr => ?_)
  show mG _ p l e _ s m args below meth c _ _ 0 [(0, (2, 0)), (1, (0, p1)), (2, (0, p2)), (3, (0, p3))] [] h
  unfold wp_X14_partOf at hw
  refine g_bipush C ⟨by decide, by decide⟩ (by decide) dX14_partOf_0 ?_
  refine g_aload_n C dX14_partOf_2 rfl (by decide) rfl ?_
  refine gw_X14_106 C dX14_partOf_3 kdR_0 wwR_0_75 ?_
  refine g_bipush C ⟨by decide, by decide⟩ (by decide) dX14_partOf_6 ?_
  refine g_iload_n C dX14_partOf_8 rfl rfl ?_
  refine g_imul C dX14_partOf_9 ?_
  refine g_iload_n C dX14_partOf_10 rfl rfl ?_
  refine g_iadd C dX14_partOf_11 ?_
  obtain ⟨⟨b1, b1b⟩, hw⟩ := hw
  refine g_iaload C dX14_partOf_12 kdR_31 b1 b1b (fun z12 => ?_)
  refine g_isub C dX14_partOf_13 ?_
  refine g_topi (fun x1 ex1 => ?_)
  replace hw := hw x1 ex1
  refine g_istore C dX14_partOf_14 (by decide) ?_
  refine g_iload C dX14_partOf_16 rfl ?_
  refine g_if_gt C 25 dX14_partOf_18 rfl hw (fun hw => ?_) (fun hw => ?_)
  · refine g_iload_n C dX14_partOf_25 rfl rfl ?_
    refine g_iload C dX14_partOf_26 rfl ?_
    refine g_imul C dX14_partOf_28 ?_
    refine g_bipush C ⟨by decide, by decide⟩ (by decide) dX14_partOf_29 ?_
    refine g_idiv C (by decide) dX14_partOf_31 ?_
    exact g_iret C hr dX14_partOf_32 ⟨_, rfl, hw⟩
  · refine g_iconst C ⟨by decide, by decide⟩ dX14_partOf_21 ?_
    refine g_goto C 32 dX14_partOf_22 rfl ?_
    exact g_iret C hr dX14_partOf_32 ⟨_, rfl, hw⟩
set_option maxRecDepth 20000 in
set_option maxHeartbeats 4000000 in
theorem sim_X14_riseAt {z : Mz} {l : Launch} {p1 : Int} {p2 : Int} {h : Mh} {K : Int → Mh → Prop} (hw : wp_X14_riseAt p1 p2 h K) : mCal (XR z) l yX14_riseAt cX14_riseAt 3 (some Jvm.ClassFile.FieldType.int) 0 0 [(2, 0), (0, p1), (0, p2)] h (mKi K) := by
  refine m_entry RX14 rfl (by decide) rfl (fun p e s m args below meth c C hr => ?_)
  show mG _ p l e _ s m args below meth c _ _ 0 [(0, (2, 0)), (1, (0, p1)), (2, (0, p2))] [] h
  unfold wp_X14_riseAt at hw
  refine g_iload_n C dX14_riseAt_0 rfl rfl ?_
  refine g_if_lt C 14 dX14_riseAt_1 rfl hw (fun hw => ?_) (fun hw => ?_)
  · refine g_iconst C ⟨by decide, by decide⟩ dX14_riseAt_14 ?_
    refine g_goto C 29 dX14_riseAt_15 rfl ?_
    exact g_iret C hr dX14_riseAt_29 ⟨_, rfl, hw⟩
  · refine g_iload_n C dX14_riseAt_4 rfl rfl ?_
    refine g_aload_n C dX14_riseAt_5 rfl (by decide) rfl ?_
    refine gw_X14_42 C dX14_riseAt_6 kdR_0 wwR_0_46 ?_
    refine g_iload_n C dX14_riseAt_9 rfl rfl ?_
    obtain ⟨⟨b1, b1b⟩, hw⟩ := hw
    refine g_iaload C dX14_riseAt_10 kdR_10 b1 b1b (fun z10 => ?_)
    refine g_icmp_lt C 18 dX14_riseAt_11 rfl hw (fun hw => ?_) (fun hw => ?_)
    · refine g_aload_n C dX14_riseAt_18 rfl (by decide) rfl ?_
      refine gw_X14_48 C dX14_riseAt_19 kdR_0 wwR_0_48 ?_
      refine g_bipush C ⟨by decide, by decide⟩ (by decide) dX14_riseAt_22 ?_
      refine g_iload_n C dX14_riseAt_24 rfl rfl ?_
      refine g_imul C dX14_riseAt_25 ?_
      refine g_iload_n C dX14_riseAt_26 rfl rfl ?_
      refine g_iadd C dX14_riseAt_27 ?_
      obtain ⟨⟨b2, b2b⟩, hw⟩ := hw
      refine g_iaload C dX14_riseAt_28 kdR_12 b2 b2b (fun z28 => ?_)
      exact g_iret C hr dX14_riseAt_29 ⟨_, rfl, hw⟩
    · refine g_iconst C ⟨by decide, by decide⟩ dX14_riseAt_14 ?_
      refine g_goto C 29 dX14_riseAt_15 rfl ?_
      exact g_iret C hr dX14_riseAt_29 ⟨_, rfl, hw⟩
set_option maxRecDepth 20000 in
set_option maxHeartbeats 4000000 in
theorem sim_X14_gives {z : Mz} {l : Launch} {p1 : Int} {p2 : Int} {p3 : Int} {p4 : Int} {h : Mh} {K : Int → Mh → Prop} (hw : wp_X14_gives p1 p2 p3 p4 h K) : mCal (XR z) l yX14_gives cX14_gives 9 (some Jvm.ClassFile.FieldType.int) 1 24 [(2, 0), (0, p1), (0, p2), (0, p3), (0, p4)] h (mKi K) := by
  refine m_entry RX14 rfl (by decide) rfl (fun p e s m args below meth c C hr => ?_)
  have hQ : ∀ x, Lfp (F_X14_gives p1 p2 p3 p4 K) x → (match x.1, x.2.1 with | 50, [v5, v6] => mG (XR z) p l e { frames := 1, cells := 0, slots := 0, locals := 24 } s m args below meth c 9 (mMQ (XR z) (mKi K) below args s) 50 [(5, (0, v5)), (6, (0, v6)), (0, (2, 0)), (1, (0, p1)), (2, (0, p2)), (3, (0, p3)), (4, (0, p4))] [] x.2.2 | _, _ => True) := by
    intro x hx
    refine Lfp.ind (fun x => (match x.1, x.2.1 with | 50, [v5, v6] => mG (XR z) p l e { frames := 1, cells := 0, slots := 0, locals := 24 } s m args below meth c 9 (mMQ (XR z) (mKi K) below args s) 50 [(5, (0, v5)), (6, (0, v6)), (0, (2, 0)), (1, (0, p1)), (2, (0, p2)), (3, (0, p3)), (4, (0, p4))] [] x.2.2 | _, _ => True)) ?_ hx
    clear hx x
    intro Z x hQ hw
    rcases hw with ⟨v5, v6, h, rfl, hw⟩
    · show mG (XR z) p l e { frames := 1, cells := 0, slots := 0, locals := 24 } s m args below meth c 9 (mMQ (XR z) (mKi K) below args s) 50 [(5, (0, v5)), (6, (0, v6)), (0, (2, 0)), (1, (0, p1)), (2, (0, p2)), (3, (0, p3)), (4, (0, p4))] [] h
      unfold B_X14_gives_50 at hw
      refine g_iload C dX14_gives_50 rfl ?_
      refine g_aload_n C dX14_gives_52 rfl (by decide) rfl ?_
      refine gf_X14_448 C dX14_gives_53 kdR_0 (fun z53 => ?_)
      refine g_icmp_ge C 177 dX14_gives_56 rfl hw (fun hw => ?_) (fun hw => ?_)
      · refine g_iload C dX14_gives_177 rfl ?_
        exact g_iret C hr dX14_gives_179 ⟨_, rfl, hw⟩
      · refine g_aload_n C dX14_gives_59 rfl (by decide) rfl ?_
        refine gw_X14_109 C dX14_gives_60 kdR_0 wwR_0_78 ?_
        refine g_iload C dX14_gives_63 rfl ?_
        obtain ⟨⟨b3, b3b⟩, hw⟩ := hw
        refine g_iaload C dX14_gives_65 kdR_32 b3 b3b (fun z65 => ?_)
        refine g_topi (fun x1 ex1 => ?_)
        replace hw := hw x1 ex1
        refine g_istore C dX14_gives_66 (by decide) ?_
        refine g_aload_n C dX14_gives_68 rfl (by decide) rfl ?_
        refine gw_X14_103 C dX14_gives_69 kdR_0 wwR_0_74 ?_
        refine g_bipush C ⟨by decide, by decide⟩ (by decide) dX14_gives_72 ?_
        refine g_iload_n C dX14_gives_74 rfl rfl ?_
        refine g_imul C dX14_gives_75 ?_
        refine g_iload C dX14_gives_76 rfl ?_
        refine g_iadd C dX14_gives_78 ?_
        obtain ⟨⟨b4, b4b⟩, hw⟩ := hw
        refine g_iaload C dX14_gives_79 kdR_30 b4 b4b (fun z79 => ?_)
        refine g_sipush C ⟨by decide, by decide⟩ (by decide) dX14_gives_80 ?_
        refine g_icmp_eq C 171 dX14_gives_83 rfl hw (fun hw => ?_) (fun hw => ?_)
        · refine g_iincN C dX14_gives_171 rfl (by decide) (fun x2 ex2 => ?_)
          replace hw := hw x2 ex2
          refine g_goto C 50 dX14_gives_174 rfl ?_
          exact g_sub [5, 6, 0, 1, 2, 3, 4] rfl (hQ _ hw)
        · refine g_aload_n C dX14_gives_86 rfl (by decide) rfl ?_
          refine gw_X14_103 C dX14_gives_87 kdR_0 wwR_0_74 ?_
          refine g_bipush C ⟨by decide, by decide⟩ (by decide) dX14_gives_90 ?_
          refine g_iload C dX14_gives_92 rfl ?_
          refine g_imul C dX14_gives_94 ?_
          refine g_iload_n C dX14_gives_95 rfl rfl ?_
          refine g_iadd C dX14_gives_96 ?_
          obtain ⟨⟨b5, b5b⟩, hw⟩ := hw
          refine g_iaload C dX14_gives_97 kdR_30 b5 b5b (fun z97 => ?_)
          refine g_sipush C ⟨by decide, by decide⟩ (by decide) dX14_gives_98 ?_
          refine g_icmp_ne C 107 dX14_gives_101 rfl hw (fun hw => ?_) (fun hw => ?_)
          · refine g_aload_n C dX14_gives_107 rfl (by decide) rfl ?_
            refine g_iload_n C dX14_gives_108 rfl rfl ?_
            refine g_iload C dX14_gives_109 rfl ?_
            refine g_aload_n C dX14_gives_111 rfl (by decide) rfl ?_
            refine gw_X14_103 C dX14_gives_112 kdR_0 wwR_0_74 ?_
            refine g_bipush C ⟨by decide, by decide⟩ (by decide) dX14_gives_115 ?_
            refine g_iload_n C dX14_gives_117 rfl rfl ?_
            refine g_imul C dX14_gives_118 ?_
            refine g_iload C dX14_gives_119 rfl ?_
            refine g_iadd C dX14_gives_121 ?_
            obtain ⟨⟨b6, b6b⟩, hw⟩ := hw
            refine g_iaload C dX14_gives_122 kdR_30 b6 b6b (fun z122 => ?_)
            refine g_isub C dX14_gives_123 ?_
            refine g_aload_n C dX14_gives_124 rfl (by decide) rfl ?_
            refine gw_X14_103 C dX14_gives_125 kdR_0 wwR_0_74 ?_
            refine g_bipush C ⟨by decide, by decide⟩ (by decide) dX14_gives_128 ?_
            refine g_iload C dX14_gives_130 rfl ?_
            refine g_imul C dX14_gives_132 ?_
            refine g_iload_n C dX14_gives_133 rfl rfl ?_
            refine g_iadd C dX14_gives_134 ?_
            obtain ⟨⟨b7, b7b⟩, hw⟩ := hw
            refine g_iaload C dX14_gives_135 kdR_30 b7 b7b (fun z135 => ?_)
            refine g_isub C dX14_gives_136 ?_
            refine g_callVi C [(0, p1), (0, w32 (w32 (p4 - (h 30 (w32 (w32 (48 * p2) + x1)))) - (h 30 (w32 (w32 (48 * x1) + p3)))))] (sim_X14_riseAt hw) k_2074 k_2076 k_110 k_147 k_2077 hdV_X14_riseAt rfl rfl (by decide) rfl kdR_0 rfl rfl rfl dX14_gives_137 ?_
            intro x3 h1 hw
            refine g_istore C dX14_gives_140 (by decide) ?_
            refine g_iload C dX14_gives_142 rfl ?_
            refine g_aload_n C dX14_gives_144 rfl (by decide) rfl ?_
            refine g_aload_n C dX14_gives_145 rfl (by decide) rfl ?_
            refine g_iload C dX14_gives_146 rfl ?_
            refine g_iload_n C dX14_gives_148 rfl rfl ?_
            refine g_iload C dX14_gives_149 rfl ?_
            refine g_callVi C [(0, x3), (0, p2), (0, x1)] (sim_X14_partOf hw) k_2078 k_2080 k_111 k_147 k_2081 hdV_X14_partOf rfl rfl (by decide) rfl kdR_0 rfl rfl rfl dX14_gives_151 ?_
            intro x4 h2 hw
            refine g_aload_n C dX14_gives_154 rfl (by decide) rfl ?_
            refine gf_X14_288 C dX14_gives_155 kdR_0 (fun z155 => ?_)
            refine g_imul C dX14_gives_158 ?_
            refine g_bipush C ⟨by decide, by decide⟩ (by decide) dX14_gives_159 ?_
            refine g_idiv C (by decide) dX14_gives_161 ?_
            refine g_iload C dX14_gives_162 rfl ?_
            refine g_iload_n C dX14_gives_164 rfl rfl ?_
            refine g_callVi C [(0, j_div (w32 (x4 * (h2 0 23))) 100), (0, x1), (0, p3)] (sim_X14_partOf hw) k_2078 k_2080 k_111 k_147 k_2081 hdV_X14_partOf rfl rfl (by decide) rfl kdR_0 rfl rfl rfl dX14_gives_165 ?_
            intro x5 h3 hw
            refine g_iadd C dX14_gives_168 ?_
            refine g_topi (fun x6 ex6 => ?_)
            replace hw := hw x6 ex6
            refine g_istore C dX14_gives_169 (by decide) ?_
            refine g_iincN C dX14_gives_171 rfl (by decide) (fun x7 ex7 => ?_)
            replace hw := hw x7 ex7
            refine g_goto C 50 dX14_gives_174 rfl ?_
            exact g_sub [5, 6, 0, 1, 2, 3, 4] rfl (hQ _ hw)
          · refine g_goto C 171 dX14_gives_104 rfl ?_
            refine g_iincN C dX14_gives_171 rfl (by decide) (fun x8 ex8 => ?_)
            replace hw := hw x8 ex8
            refine g_goto C 50 dX14_gives_174 rfl ?_
            exact g_sub [5, 6, 0, 1, 2, 3, 4] rfl (hQ _ hw)
  show mG _ p l e _ s m args below meth c _ _ 0 [(0, (2, 0)), (1, (0, p1)), (2, (0, p2)), (3, (0, p3)), (4, (0, p4))] [] h
  unfold wp_X14_gives at hw
  refine g_iconst C ⟨by decide, by decide⟩ dX14_gives_0 ?_
  refine g_istore C dX14_gives_1 (by decide) ?_
  refine g_aload_n C dX14_gives_3 rfl (by decide) rfl ?_
  refine gw_X14_103 C dX14_gives_4 kdR_0 wwR_0_74 ?_
  refine g_bipush C ⟨by decide, by decide⟩ (by decide) dX14_gives_7 ?_
  refine g_iload_n C dX14_gives_9 rfl rfl ?_
  refine g_imul C dX14_gives_10 ?_
  refine g_iload_n C dX14_gives_11 rfl rfl ?_
  refine g_iadd C dX14_gives_12 ?_
  obtain ⟨⟨b1, b1b⟩, hw⟩ := hw
  refine g_iaload C dX14_gives_13 kdR_30 b1 b1b (fun z13 => ?_)
  refine g_sipush C ⟨by decide, by decide⟩ (by decide) dX14_gives_14 ?_
  refine g_icmp_ge C 47 dX14_gives_17 rfl hw (fun hw => ?_) (fun hw => ?_)
  · refine g_iconst C ⟨by decide, by decide⟩ dX14_gives_47 ?_
    refine g_istore C dX14_gives_48 (by decide) ?_
    exact g_sub [5, 6, 0, 1, 2, 3, 4] rfl (hQ _ hw)
  · refine g_aload_n C dX14_gives_20 rfl (by decide) rfl ?_
    refine g_aload_n C dX14_gives_21 rfl (by decide) rfl ?_
    refine g_iload_n C dX14_gives_22 rfl rfl ?_
    refine g_iload C dX14_gives_23 rfl ?_
    refine g_aload_n C dX14_gives_25 rfl (by decide) rfl ?_
    refine gw_X14_103 C dX14_gives_26 kdR_0 wwR_0_74 ?_
    refine g_bipush C ⟨by decide, by decide⟩ (by decide) dX14_gives_29 ?_
    refine g_iload_n C dX14_gives_31 rfl rfl ?_
    refine g_imul C dX14_gives_32 ?_
    refine g_iload_n C dX14_gives_33 rfl rfl ?_
    refine g_iadd C dX14_gives_34 ?_
    obtain ⟨⟨b2, b2b⟩, hw⟩ := hw
    refine g_iaload C dX14_gives_35 kdR_30 b2 b2b (fun z35 => ?_)
    refine g_isub C dX14_gives_36 ?_
    refine g_callVi C [(0, p1), (0, w32 (p4 - (h 30 (w32 (w32 (48 * p2) + p3)))))] (sim_X14_riseAt hw) k_2074 k_2076 k_110 k_147 k_2077 hdV_X14_riseAt rfl rfl (by decide) rfl kdR_0 rfl rfl rfl dX14_gives_37 ?_
    intro x1 h1 hw
    refine g_iload_n C dX14_gives_40 rfl rfl ?_
    refine g_iload_n C dX14_gives_41 rfl rfl ?_
    refine g_callVi C [(0, x1), (0, p2), (0, p3)] (sim_X14_partOf hw) k_2078 k_2080 k_111 k_147 k_2081 hdV_X14_partOf rfl rfl (by decide) rfl kdR_0 rfl rfl rfl dX14_gives_42 ?_
    intro x2 h2 hw
    refine g_istore C dX14_gives_45 (by decide) ?_
    refine g_iconst C ⟨by decide, by decide⟩ dX14_gives_47 ?_
    refine g_istore C dX14_gives_48 (by decide) ?_
    exact g_sub [5, 6, 0, 1, 2, 3, 4] rfl (hQ _ hw)
set_option maxRecDepth 20000 in
set_option maxHeartbeats 4000000 in
theorem sim_X14_layShown {z : Mz} {l : Launch} {p1 : Int} {h : Mh} {K : Mh → Prop} (hw : wp_X14_layShown p1 h K) : mCal (XR z) l yX14_layShown cX14_layShown 4 none 2 52 [(2, 0), (0, p1)] h (mKv K) := by
  refine m_entry RX14 rfl (by decide) rfl (fun p e s m args below meth c C hr => ?_)
  have hQ : ∀ x, Lfp (F_X14_layShown p1 K) x → (match x.1, x.2.1 with | 2, [v2] => mG (XR z) p l e { frames := 2, cells := 0, slots := 0, locals := 52 } s m args below meth c 4 (mMQ (XR z) (mKv K) below args s) 2 [(2, (0, v2)), (0, (2, 0)), (1, (0, p1))] [] x.2.2 | 12, [v2, v3] => mG (XR z) p l e { frames := 2, cells := 0, slots := 0, locals := 52 } s m args below meth c 4 (mMQ (XR z) (mKv K) below args s) 12 [(2, (0, v2)), (3, (0, v3)), (0, (2, 0)), (1, (0, p1))] [] x.2.2 | _, _ => True) := by
    intro x hx
    refine Lfp.ind (fun x => (match x.1, x.2.1 with | 2, [v2] => mG (XR z) p l e { frames := 2, cells := 0, slots := 0, locals := 52 } s m args below meth c 4 (mMQ (XR z) (mKv K) below args s) 2 [(2, (0, v2)), (0, (2, 0)), (1, (0, p1))] [] x.2.2 | 12, [v2, v3] => mG (XR z) p l e { frames := 2, cells := 0, slots := 0, locals := 52 } s m args below meth c 4 (mMQ (XR z) (mKv K) below args s) 12 [(2, (0, v2)), (3, (0, v3)), (0, (2, 0)), (1, (0, p1))] [] x.2.2 | _, _ => True)) ?_ hx
    clear hx x
    intro Z x hQ hw
    rcases hw with ⟨v2, h, rfl, hw⟩ | ⟨v2, v3, h, rfl, hw⟩
    · show mG (XR z) p l e { frames := 2, cells := 0, slots := 0, locals := 52 } s m args below meth c 4 (mMQ (XR z) (mKv K) below args s) 2 [(2, (0, v2)), (0, (2, 0)), (1, (0, p1))] [] h
      unfold B_X14_layShown_2 at hw
      refine g_iload_n C dX14_layShown_2 rfl rfl ?_
      refine g_aload_n C dX14_layShown_3 rfl (by decide) rfl ?_
      refine gf_X14_264 C dX14_layShown_4 kdR_0 (fun z4 => ?_)
      refine g_icmp_ge C 69 dX14_layShown_7 rfl hw (fun hw => ?_) (fun hw => ?_)
      · exact g_vret C hr dX14_layShown_69 ⟨rfl, hw⟩
      · refine g_iconst C ⟨by decide, by decide⟩ dX14_layShown_10 ?_
        refine g_istore_n C dX14_layShown_11 rfl (by decide) ?_
        exact g_sub [2, 3, 0, 1] rfl (hQ _ hw)
    · show mG (XR z) p l e { frames := 2, cells := 0, slots := 0, locals := 52 } s m args below meth c 4 (mMQ (XR z) (mKv K) below args s) 12 [(2, (0, v2)), (3, (0, v3)), (0, (2, 0)), (1, (0, p1))] [] h
      unfold B_X14_layShown_12 at hw
      refine g_iload_n C dX14_layShown_12 rfl rfl ?_
      refine g_bipush C ⟨by decide, by decide⟩ (by decide) dX14_layShown_13 ?_
      refine g_icmp_ge C 63 dX14_layShown_15 rfl hw (fun hw => ?_) (fun hw => ?_)
      · refine g_iincN C dX14_layShown_63 rfl (by decide) (fun x1 ex1 => ?_)
        replace hw := hw x1 ex1
        refine g_goto C 2 dX14_layShown_66 rfl ?_
        exact g_sub [2, 0, 1] rfl (hQ _ hw)
      · refine g_aload_n C dX14_layShown_18 rfl (by decide) rfl ?_
        refine gw_X14_127 C dX14_layShown_19 kdR_0 wwR_0_91 ?_
        refine g_bipush C ⟨by decide, by decide⟩ (by decide) dX14_layShown_22 ?_
        refine g_iload_n C dX14_layShown_24 rfl rfl ?_
        refine g_imul C dX14_layShown_25 ?_
        refine g_iload_n C dX14_layShown_26 rfl rfl ?_
        refine g_iadd C dX14_layShown_27 ?_
        refine g_bipush C ⟨by decide, by decide⟩ (by decide) dX14_layShown_28 ?_
        refine g_imul C dX14_layShown_30 ?_
        refine g_iload_n C dX14_layShown_31 rfl rfl ?_
        refine g_iadd C dX14_layShown_32 ?_
        refine g_aload_n C dX14_layShown_33 rfl (by decide) rfl ?_
        refine g_aload_n C dX14_layShown_34 rfl (by decide) rfl ?_
        refine gw_X14_130 C dX14_layShown_35 kdR_0 wwR_0_92 ?_
        refine g_iload_n C dX14_layShown_38 rfl rfl ?_
        obtain ⟨⟨b1, b1b⟩, hw⟩ := hw
        refine g_iaload C dX14_layShown_39 kdR_37 b1 b1b (fun z39 => ?_)
        refine g_aload_n C dX14_layShown_40 rfl (by decide) rfl ?_
        refine gw_X14_133 C dX14_layShown_41 kdR_0 wwR_0_93 ?_
        refine g_iload_n C dX14_layShown_44 rfl rfl ?_
        obtain ⟨⟨b2, b2b⟩, hw⟩ := hw
        refine g_iaload C dX14_layShown_45 kdR_38 b2 b2b (fun z45 => ?_)
        refine g_aload_n C dX14_layShown_46 rfl (by decide) rfl ?_
        refine gw_X14_54 C dX14_layShown_47 kdR_0 wwR_0_50 ?_
        refine g_iload_n C dX14_layShown_50 rfl rfl ?_
        obtain ⟨⟨b3, b3b⟩, hw⟩ := hw
        refine g_iaload C dX14_layShown_51 kdR_14 b3 b3b (fun z51 => ?_)
        refine g_iload_n C dX14_layShown_52 rfl rfl ?_
        refine g_callVi C [(0, (h 37 p1)), (0, (h 38 p1)), (0, (h 14 v2)), (0, v3)] (sim_X14_gives hw) k_2070 k_2072 k_109 k_147 k_2073 hdV_X14_gives rfl rfl (by decide) rfl kdR_0 rfl rfl rfl dX14_layShown_53 ?_
        intro x2 h1 hw
        obtain ⟨⟨b4, b4b⟩, hw⟩ := hw
        refine g_iastore C dX14_layShown_56 kdR_36 b4 b4b (fun z => z) ?_
        refine g_heap (fun h2 eh2 => ?_)
        replace hw := hw h2 eh2
        refine g_iincN C dX14_layShown_57 rfl (by decide) (fun x3 ex3 => ?_)
        replace hw := hw x3 ex3
        refine g_goto C 12 dX14_layShown_60 rfl ?_
        exact g_sub [2, 3, 0, 1] rfl (hQ _ hw)
  show mG _ p l e _ s m args below meth c _ _ 0 [(0, (2, 0)), (1, (0, p1))] [] h
  unfold wp_X14_layShown at hw
  refine g_iconst C ⟨by decide, by decide⟩ dX14_layShown_0 ?_
  refine g_istore_n C dX14_layShown_1 rfl (by decide) ?_
  exact g_sub [2, 0, 1] rfl (hQ _ hw)
set_option maxRecDepth 20000 in
set_option maxHeartbeats 4000000 in
theorem sim_X14_layFalls {z : Mz} {l : Launch} {p1 : Int} {p2 : Int} {p3 : Int} {h : Mh} {K : Int → Mh → Prop} (hw : wp_X14_layFalls p1 p2 p3 h K) : mCal (XR z) l yX14_layFalls cX14_layFalls 8 (some Jvm.ClassFile.FieldType.boolean) 3 75 [(2, 0), (0, p1), (0, p2), (1, p3)] h (mKz K) := by
  refine m_entry RX14 rfl (by decide) rfl (fun p e s m args below meth c C hr => ?_)
  have hQ : ∀ x, Lfp (F_X14_layFalls p1 p2 p3 K) x → (match x.1, x.2.1 with | 34, [v5] => mG (XR z) p l e { frames := 3, cells := 0, slots := 0, locals := 75 } s m args below meth c 8 (mMQ (XR z) (mKz K) below args s) 34 [(5, (0, v5)), (0, (2, 0)), (1, (0, p1)), (2, (0, p2)), (3, (1, p3))] [] x.2.2 | 68, [v5, v6, v7] => mG (XR z) p l e { frames := 3, cells := 0, slots := 0, locals := 75 } s m args below meth c 8 (mMQ (XR z) (mKz K) below args s) 68 [(5, (0, v5)), (6, (0, v6)), (7, (0, v7)), (0, (2, 0)), (1, (0, p1)), (2, (0, p2)), (3, (1, p3))] [] x.2.2 | 103, [v5, v6, v7] => mG (XR z) p l e { frames := 3, cells := 0, slots := 0, locals := 75 } s m args below meth c 8 (mMQ (XR z) (mKz K) below args s) 103 [(5, (0, v5)), (6, (0, v6)), (7, (0, v7)), (0, (2, 0)), (1, (0, p1)), (2, (0, p2)), (3, (1, p3))] [] x.2.2 | _, _ => True) := by
    intro x hx
    refine Lfp.ind (fun x => (match x.1, x.2.1 with | 34, [v5] => mG (XR z) p l e { frames := 3, cells := 0, slots := 0, locals := 75 } s m args below meth c 8 (mMQ (XR z) (mKz K) below args s) 34 [(5, (0, v5)), (0, (2, 0)), (1, (0, p1)), (2, (0, p2)), (3, (1, p3))] [] x.2.2 | 68, [v5, v6, v7] => mG (XR z) p l e { frames := 3, cells := 0, slots := 0, locals := 75 } s m args below meth c 8 (mMQ (XR z) (mKz K) below args s) 68 [(5, (0, v5)), (6, (0, v6)), (7, (0, v7)), (0, (2, 0)), (1, (0, p1)), (2, (0, p2)), (3, (1, p3))] [] x.2.2 | 103, [v5, v6, v7] => mG (XR z) p l e { frames := 3, cells := 0, slots := 0, locals := 75 } s m args below meth c 8 (mMQ (XR z) (mKz K) below args s) 103 [(5, (0, v5)), (6, (0, v6)), (7, (0, v7)), (0, (2, 0)), (1, (0, p1)), (2, (0, p2)), (3, (1, p3))] [] x.2.2 | _, _ => True)) ?_ hx
    clear hx x
    intro Z x hQ hw
    rcases hw with ⟨v5, h, rfl, hw⟩ | ⟨v5, v6, v7, h, rfl, hw⟩ | ⟨v5, v6, v7, h, rfl, hw⟩
    · show mG (XR z) p l e { frames := 3, cells := 0, slots := 0, locals := 75 } s m args below meth c 8 (mMQ (XR z) (mKz K) below args s) 34 [(5, (0, v5)), (0, (2, 0)), (1, (0, p1)), (2, (0, p2)), (3, (1, p3))] [] h
      unfold B_X14_layFalls_34 at hw
      refine g_iload C dX14_layFalls_34 rfl ?_
      refine g_iload_n C dX14_layFalls_36 rfl rfl ?_
      refine g_icmp_ge C 176 dX14_layFalls_37 rfl hw (fun hw => ?_) (fun hw => ?_)
      · refine g_iconst C ⟨by decide, by decide⟩ dX14_layFalls_176 ?_
        exact g_zret C hr (Or.inr rfl) dX14_layFalls_177 ⟨_, rfl, (Or.inr rfl), hw⟩
      · refine g_lload_n C dX14_layFalls_40 rfl rfl ?_
        refine g_bipush C ⟨by decide, by decide⟩ (by decide) dX14_layFalls_41 ?_
        refine g_iload C dX14_layFalls_43 rfl ?_
        refine g_imul C dX14_layFalls_45 ?_
        refine g_lshr C dX14_layFalls_46 ?_
        refine g_ldc2 C ⟨by decide, by decide⟩ k_2228 dX14_layFalls_47 ?_
        refine g_land C dX14_layFalls_50 ?_
        refine g_l2i C dX14_layFalls_51 ?_
        refine g_topi (fun x1 ex1 => ?_)
        replace hw := hw x1 ex1
        refine g_istore C dX14_layFalls_52 (by decide) ?_
        refine g_aload_n C dX14_layFalls_54 rfl (by decide) rfl ?_
        refine g_iload C dX14_layFalls_55 rfl ?_
        refine g_callVz C [(0, x1)] (sim_X14_isWater hw) k_1561 k_1563 k_71 k_147 k_1564 hdV_X14_isWater rfl rfl (by decide) rfl kdR_0 rfl rfl rfl dX14_layFalls_57 ?_
        intro x2 h1 zb57 hw
        refine g_if_ne C 65 dX14_layFalls_60 rfl hw (fun hw => ?_) (fun hw => ?_)
        · refine g_iconst C ⟨by decide, by decide⟩ dX14_layFalls_65 ?_
          refine g_istore C dX14_layFalls_66 (by decide) ?_
          exact g_sub [5, 6, 7, 0, 1, 2, 3] rfl (hQ _ hw)
        · refine g_iconst C ⟨by decide, by decide⟩ dX14_layFalls_63 ?_
          exact g_zret C hr (Or.inl rfl) dX14_layFalls_64 ⟨_, rfl, (Or.inl rfl), hw⟩
    · show mG (XR z) p l e { frames := 3, cells := 0, slots := 0, locals := 75 } s m args below meth c 8 (mMQ (XR z) (mKz K) below args s) 68 [(5, (0, v5)), (6, (0, v6)), (7, (0, v7)), (0, (2, 0)), (1, (0, p1)), (2, (0, p2)), (3, (1, p3))] [] h
      unfold B_X14_layFalls_68 at hw
      refine g_iload C dX14_layFalls_68 rfl ?_
      refine g_iload C dX14_layFalls_70 rfl ?_
      refine g_icmp_ge C 100 dX14_layFalls_72 rfl hw (fun hw => ?_) (fun hw => ?_)
      · refine g_iconst C ⟨by decide, by decide⟩ dX14_layFalls_100 ?_
        refine g_istore C dX14_layFalls_101 (by decide) ?_
        exact g_sub [5, 6, 7, 0, 1, 2, 3] rfl (hQ _ hw)
      · refine g_lload_n C dX14_layFalls_75 rfl rfl ?_
        refine g_bipush C ⟨by decide, by decide⟩ (by decide) dX14_layFalls_76 ?_
        refine g_iload C dX14_layFalls_78 rfl ?_
        refine g_imul C dX14_layFalls_80 ?_
        refine g_lshr C dX14_layFalls_81 ?_
        refine g_ldc2 C ⟨by decide, by decide⟩ k_2228 dX14_layFalls_82 ?_
        refine g_land C dX14_layFalls_85 ?_
        refine g_l2i C dX14_layFalls_86 ?_
        refine g_iload C dX14_layFalls_87 rfl ?_
        refine g_icmp_ne C 94 dX14_layFalls_89 rfl hw (fun hw => ?_) (fun hw => ?_)
        · refine g_iincN C dX14_layFalls_94 rfl (by decide) (fun x1 ex1 => ?_)
          replace hw := hw x1 ex1
          refine g_goto C 68 dX14_layFalls_97 rfl ?_
          exact g_sub [5, 6, 7, 0, 1, 2, 3] rfl (hQ _ hw)
        · refine g_iconst C ⟨by decide, by decide⟩ dX14_layFalls_92 ?_
          exact g_zret C hr (Or.inl rfl) dX14_layFalls_93 ⟨_, rfl, (Or.inl rfl), hw⟩
    · show mG (XR z) p l e { frames := 3, cells := 0, slots := 0, locals := 75 } s m args below meth c 8 (mMQ (XR z) (mKz K) below args s) 103 [(5, (0, v5)), (6, (0, v6)), (7, (0, v7)), (0, (2, 0)), (1, (0, p1)), (2, (0, p2)), (3, (1, p3))] [] h
      unfold B_X14_layFalls_103 at hw
      refine g_iload C dX14_layFalls_103 rfl ?_
      refine g_aload_n C dX14_layFalls_105 rfl (by decide) rfl ?_
      refine gf_X14_261 C dX14_layFalls_106 kdR_0 (fun z106 => ?_)
      refine g_icmp_ge C 170 dX14_layFalls_109 rfl hw (fun hw => ?_) (fun hw => ?_)
      · refine g_iincN C dX14_layFalls_170 rfl (by decide) (fun x1 ex1 => ?_)
        replace hw := hw x1 ex1
        refine g_goto C 34 dX14_layFalls_173 rfl ?_
        exact g_sub [5, 0, 1, 2, 3] rfl (hQ _ hw)
      · refine g_iload_n C dX14_layFalls_112 rfl rfl ?_
        refine g_iload C dX14_layFalls_113 rfl ?_
        refine g_callSz C [(0, p1), (0, v7)] (sim_X14_isOf hw) k_2229 k_2230 k_147 k_2231 hdS_X14_isOf rfl rfl rfl rfl rfl dX14_layFalls_115 ?_
        intro x2 h1 zb115 hw
        refine g_if_ne C 124 dX14_layFalls_118 rfl hw (fun hw => ?_) (fun hw => ?_)
        · refine g_aload_n C dX14_layFalls_124 rfl (by decide) rfl ?_
          refine gw_X14_130 C dX14_layFalls_125 kdR_0 wwR_0_92 ?_
          refine g_aload_n C dX14_layFalls_128 rfl (by decide) rfl ?_
          refine gf_X14_530 C dX14_layFalls_129 kdR_0 (fun z129 => ?_)
          refine g_iload C dX14_layFalls_132 rfl ?_
          obtain ⟨⟨b1, b1b⟩, hw⟩ := hw
          refine g_iastore C dX14_layFalls_134 kdR_37 b1 b1b (fun z => z) ?_
          refine g_heap (fun h2 eh2 => ?_)
          replace hw := hw h2 eh2
          refine g_aload_n C dX14_layFalls_135 rfl (by decide) rfl ?_
          refine gw_X14_133 C dX14_layFalls_136 kdR_0 wwR_0_93 ?_
          refine g_aload_n C dX14_layFalls_139 rfl (by decide) rfl ?_
          refine gf_X14_530 C dX14_layFalls_140 kdR_0 (fun z140 => ?_)
          refine g_iload C dX14_layFalls_143 rfl ?_
          obtain ⟨⟨b2, b2b⟩, hw⟩ := hw
          refine g_iastore C dX14_layFalls_145 kdR_38 b2 b2b (fun z => z) ?_
          refine g_heap (fun h3 eh3 => ?_)
          replace hw := hw h3 eh3
          refine g_aload_n C dX14_layFalls_146 rfl (by decide) rfl ?_
          refine g_aload_n C dX14_layFalls_147 rfl (by decide) rfl ?_
          refine gf_X14_530 C dX14_layFalls_148 kdR_0 (fun z148 => ?_)
          refine g_callVv C [(0, (h3 0 94))] (sim_X14_layShown hw) k_2232 k_2234 k_128 k_147 k_2235 hdV_X14_layShown rfl rfl (by decide) rfl kdR_0 rfl rfl rfl dX14_layFalls_151 ?_
          intro h4 hw
          refine g_aload_n C dX14_layFalls_154 rfl (by decide) rfl ?_
          refine g_dup C (by show ¬ (2 : Nat) = 1; decide) dX14_layFalls_155 ?_
          refine gf_X14_530 C dX14_layFalls_156 kdR_0 (fun z156 => ?_)
          refine g_iconst C ⟨by decide, by decide⟩ dX14_layFalls_159 ?_
          refine g_iadd C dX14_layFalls_160 ?_
          refine gp_X14_530 C dX14_layFalls_161 kdR_0 (fun z => z) ?_
          refine g_heap (fun h5 eh5 => ?_)
          replace hw := hw h5 eh5
          refine g_iincN C dX14_layFalls_164 rfl (by decide) (fun x3 ex3 => ?_)
          replace hw := hw x3 ex3
          refine g_goto C 103 dX14_layFalls_167 rfl ?_
          exact g_sub [5, 6, 7, 0, 1, 2, 3] rfl (hQ _ hw)
        · refine g_goto C 164 dX14_layFalls_121 rfl ?_
          refine g_iincN C dX14_layFalls_164 rfl (by decide) (fun x4 ex4 => ?_)
          replace hw := hw x4 ex4
          refine g_goto C 103 dX14_layFalls_167 rfl ?_
          exact g_sub [5, 6, 7, 0, 1, 2, 3] rfl (hQ _ hw)
  show mG _ p l e _ s m args below meth c _ _ 0 [(0, (2, 0)), (1, (0, p1)), (2, (0, p2)), (3, (1, p3))] [] h
  unfold wp_X14_layFalls at hw
  refine g_iload_n C dX14_layFalls_0 rfl rfl ?_
  refine g_iconst C ⟨by decide, by decide⟩ dX14_layFalls_1 ?_
  refine g_icmp_lt C 24 dX14_layFalls_2 rfl hw (fun hw => ?_) (fun hw => ?_)
  · refine g_iconst C ⟨by decide, by decide⟩ dX14_layFalls_24 ?_
    exact g_zret C hr (Or.inl rfl) dX14_layFalls_25 ⟨_, rfl, (Or.inl rfl), hw⟩
  · refine g_iload_n C dX14_layFalls_5 rfl rfl ?_
    refine g_aload_n C dX14_layFalls_6 rfl (by decide) rfl ?_
    refine gf_X14_261 C dX14_layFalls_7 kdR_0 (fun z7 => ?_)
    refine g_ishr C dX14_layFalls_10 ?_
    refine g_if_ne C 24 dX14_layFalls_11 rfl hw (fun hw => ?_) (fun hw => ?_)
    · refine g_iconst C ⟨by decide, by decide⟩ dX14_layFalls_24 ?_
      exact g_zret C hr (Or.inl rfl) dX14_layFalls_25 ⟨_, rfl, (Or.inl rfl), hw⟩
    · refine g_iload_n C dX14_layFalls_14 rfl rfl ?_
      refine g_iconst C ⟨by decide, by decide⟩ dX14_layFalls_15 ?_
      refine g_bipush C ⟨by decide, by decide⟩ (by decide) dX14_layFalls_16 ?_
      refine g_callSz C [(0, p2), (0, 1), (0, 6)] (sim_X14_isIn hw) k_1934 k_1935 k_147 k_1936 hdS_X14_isIn rfl rfl rfl rfl rfl dX14_layFalls_18 ?_
      intro x1 h1 zb18 hw
      refine g_if_ne C 26 dX14_layFalls_21 rfl hw (fun hw => ?_) (fun hw => ?_)
      · refine g_aload_n C dX14_layFalls_26 rfl (by decide) rfl ?_
        refine g_iconst C ⟨by decide, by decide⟩ dX14_layFalls_27 ?_
        refine gp_X14_530 C dX14_layFalls_28 kdR_0 (fun z => z) ?_
        refine g_heap (fun h2 eh2 => ?_)
        replace hw := hw h2 eh2
        refine g_iconst C ⟨by decide, by decide⟩ dX14_layFalls_31 ?_
        refine g_istore C dX14_layFalls_32 (by decide) ?_
        exact g_sub [5, 0, 1, 2, 3] rfl (hQ _ hw)
      · refine g_iconst C ⟨by decide, by decide⟩ dX14_layFalls_24 ?_
        exact g_zret C hr (Or.inl rfl) dX14_layFalls_25 ⟨_, rfl, (Or.inl rfl), hw⟩
set_option maxRecDepth 20000 in
set_option maxHeartbeats 4000000 in
theorem sim_X14_manyOf {z : Mz} {l : Launch} {p0 : Int} {h : Mh} {K : Int → Mh → Prop} (hw : wp_X14_manyOf p0 h K) : mCal (XR z) l yX14_manyOf cX14_manyOf 3 (some Jvm.ClassFile.FieldType.int) 0 0 [(0, p0)] h (mKi K) := by
  refine m_entry RX14 rfl (by decide) rfl (fun p e s m args below meth c C hr => ?_)
  have hQ : ∀ x, Lfp (F_X14_manyOf p0 K) x → (match x.1, x.2.1 with | 4, [v1, v2] => mG (XR z) p l e { frames := 0, cells := 0, slots := 0, locals := 0 } s m args below meth c 3 (mMQ (XR z) (mKi K) below args s) 4 [(1, (0, v1)), (2, (0, v2)), (0, (0, p0))] [] x.2.2 | _, _ => True) := by
    intro x hx
    refine Lfp.ind (fun x => (match x.1, x.2.1 with | 4, [v1, v2] => mG (XR z) p l e { frames := 0, cells := 0, slots := 0, locals := 0 } s m args below meth c 3 (mMQ (XR z) (mKi K) below args s) 4 [(1, (0, v1)), (2, (0, v2)), (0, (0, p0))] [] x.2.2 | _, _ => True)) ?_ hx
    clear hx x
    intro Z x hQ hw
    rcases hw with ⟨v1, v2, h, rfl, hw⟩
    · show mG (XR z) p l e { frames := 0, cells := 0, slots := 0, locals := 0 } s m args below meth c 3 (mMQ (XR z) (mKi K) below args s) 4 [(1, (0, v1)), (2, (0, v2)), (0, (0, p0))] [] h
      unfold B_X14_manyOf_4 at hw
      refine g_iload_n C dX14_manyOf_4 rfl rfl ?_
      refine g_bipush C ⟨by decide, by decide⟩ (by decide) dX14_manyOf_5 ?_
      refine g_icmp_ge C 24 dX14_manyOf_7 rfl hw (fun hw => ?_) (fun hw => ?_)
      · refine g_iload_n C dX14_manyOf_24 rfl rfl ?_
        exact g_iret C hr dX14_manyOf_25 ⟨_, rfl, hw⟩
      · refine g_iload_n C dX14_manyOf_10 rfl rfl ?_
        refine g_iload_n C dX14_manyOf_11 rfl rfl ?_
        refine g_iload_n C dX14_manyOf_12 rfl rfl ?_
        refine g_ishr C dX14_manyOf_13 ?_
        refine g_iconst C ⟨by decide, by decide⟩ dX14_manyOf_14 ?_
        refine g_iand C dX14_manyOf_15 ?_
        refine g_iadd C dX14_manyOf_16 ?_
        refine g_topi (fun x1 ex1 => ?_)
        replace hw := hw x1 ex1
        refine g_istore_n C dX14_manyOf_17 rfl (by decide) ?_
        refine g_iincN C dX14_manyOf_18 rfl (by decide) (fun x2 ex2 => ?_)
        replace hw := hw x2 ex2
        refine g_goto C 4 dX14_manyOf_21 rfl ?_
        exact g_sub [1, 2, 0] rfl (hQ _ hw)
  show mG _ p l e _ s m args below meth c _ _ 0 [(0, (0, p0))] [] h
  unfold wp_X14_manyOf at hw
  refine g_iconst C ⟨by decide, by decide⟩ dX14_manyOf_0 ?_
  refine g_istore_n C dX14_manyOf_1 rfl (by decide) ?_
  refine g_iconst C ⟨by decide, by decide⟩ dX14_manyOf_2 ?_
  refine g_istore_n C dX14_manyOf_3 rfl (by decide) ?_
  exact g_sub [1, 2, 0] rfl (hQ _ hw)
set_option maxRecDepth 20000 in
set_option maxHeartbeats 4000000 in
theorem sim_X14_unlike {z : Mz} {l : Launch} {p1 : Int} {p2 : Int} {h : Mh} {K : Int → Mh → Prop} (hw : wp_X14_unlike p1 p2 h K) : mCal (XR z) l yX14_unlike cX14_unlike 6 (some Jvm.ClassFile.FieldType.int) 0 0 [(2, 0), (0, p1), (0, p2)] h (mKi K) := by
  refine m_entry RX14 rfl (by decide) rfl (fun p e s m args below meth c C hr => ?_)
  have hQ : ∀ x, Lfp (F_X14_unlike p1 p2 K) x → (match x.1, x.2.1 with | 5, [v3, v4] => mG (XR z) p l e { frames := 0, cells := 0, slots := 0, locals := 0 } s m args below meth c 6 (mMQ (XR z) (mKi K) below args s) 5 [(3, (0, v3)), (4, (0, v4)), (0, (2, 0)), (1, (0, p1)), (2, (0, p2))] [] x.2.2 | 17, [v3, v4, v5] => mG (XR z) p l e { frames := 0, cells := 0, slots := 0, locals := 0 } s m args below meth c 6 (mMQ (XR z) (mKi K) below args s) 17 [(3, (0, v3)), (4, (0, v4)), (5, (0, v5)), (0, (2, 0)), (1, (0, p1)), (2, (0, p2))] [] x.2.2 | _, _ => True) := by
    intro x hx
    refine Lfp.ind (fun x => (match x.1, x.2.1 with | 5, [v3, v4] => mG (XR z) p l e { frames := 0, cells := 0, slots := 0, locals := 0 } s m args below meth c 6 (mMQ (XR z) (mKi K) below args s) 5 [(3, (0, v3)), (4, (0, v4)), (0, (2, 0)), (1, (0, p1)), (2, (0, p2))] [] x.2.2 | 17, [v3, v4, v5] => mG (XR z) p l e { frames := 0, cells := 0, slots := 0, locals := 0 } s m args below meth c 6 (mMQ (XR z) (mKi K) below args s) 17 [(3, (0, v3)), (4, (0, v4)), (5, (0, v5)), (0, (2, 0)), (1, (0, p1)), (2, (0, p2))] [] x.2.2 | _, _ => True)) ?_ hx
    clear hx x
    intro Z x hQ hw
    rcases hw with ⟨v3, v4, h, rfl, hw⟩ | ⟨v3, v4, v5, h, rfl, hw⟩
    · show mG (XR z) p l e { frames := 0, cells := 0, slots := 0, locals := 0 } s m args below meth c 6 (mMQ (XR z) (mKi K) below args s) 5 [(3, (0, v3)), (4, (0, v4)), (0, (2, 0)), (1, (0, p1)), (2, (0, p2))] [] h
      unfold B_X14_unlike_5 at hw
      refine g_iload C dX14_unlike_5 rfl ?_
      refine g_aload_n C dX14_unlike_7 rfl (by decide) rfl ?_
      refine gf_X14_264 C dX14_unlike_8 kdR_0 (fun z8 => ?_)
      refine g_icmp_ge C 86 dX14_unlike_11 rfl hw (fun hw => ?_) (fun hw => ?_)
      · refine g_iload_n C dX14_unlike_86 rfl rfl ?_
        exact g_iret C hr dX14_unlike_87 ⟨_, rfl, hw⟩
      · refine g_iconst C ⟨by decide, by decide⟩ dX14_unlike_14 ?_
        refine g_istore C dX14_unlike_15 (by decide) ?_
        exact g_sub [3, 4, 5, 0, 1, 2] rfl (hQ _ hw)
    · show mG (XR z) p l e { frames := 0, cells := 0, slots := 0, locals := 0 } s m args below meth c 6 (mMQ (XR z) (mKi K) below args s) 17 [(3, (0, v3)), (4, (0, v4)), (5, (0, v5)), (0, (2, 0)), (1, (0, p1)), (2, (0, p2))] [] h
      unfold B_X14_unlike_17 at hw
      refine g_iload C dX14_unlike_17 rfl ?_
      refine g_bipush C ⟨by decide, by decide⟩ (by decide) dX14_unlike_19 ?_
      refine g_icmp_ge C 80 dX14_unlike_21 rfl hw (fun hw => ?_) (fun hw => ?_)
      · refine g_iincN C dX14_unlike_80 rfl (by decide) (fun x1 ex1 => ?_)
        replace hw := hw x1 ex1
        refine g_goto C 5 dX14_unlike_83 rfl ?_
        exact g_sub [3, 4, 0, 1, 2] rfl (hQ _ hw)
      · refine g_iload_n C dX14_unlike_24 rfl rfl ?_
        refine g_aload_n C dX14_unlike_25 rfl (by decide) rfl ?_
        refine gw_X14_127 C dX14_unlike_26 kdR_0 wwR_0_91 ?_
        refine g_bipush C ⟨by decide, by decide⟩ (by decide) dX14_unlike_29 ?_
        refine g_iload_n C dX14_unlike_31 rfl rfl ?_
        refine g_imul C dX14_unlike_32 ?_
        refine g_iload C dX14_unlike_33 rfl ?_
        refine g_iadd C dX14_unlike_35 ?_
        refine g_bipush C ⟨by decide, by decide⟩ (by decide) dX14_unlike_36 ?_
        refine g_imul C dX14_unlike_38 ?_
        refine g_iload C dX14_unlike_39 rfl ?_
        refine g_iadd C dX14_unlike_41 ?_
        obtain ⟨⟨b1, b1b⟩, hw⟩ := hw
        refine g_iaload C dX14_unlike_42 kdR_36 b1 b1b (fun z42 => ?_)
        refine g_aload_n C dX14_unlike_43 rfl (by decide) rfl ?_
        refine gw_X14_127 C dX14_unlike_44 kdR_0 wwR_0_91 ?_
        refine g_bipush C ⟨by decide, by decide⟩ (by decide) dX14_unlike_47 ?_
        refine g_iload_n C dX14_unlike_49 rfl rfl ?_
        refine g_imul C dX14_unlike_50 ?_
        refine g_iload C dX14_unlike_51 rfl ?_
        refine g_iadd C dX14_unlike_53 ?_
        refine g_bipush C ⟨by decide, by decide⟩ (by decide) dX14_unlike_54 ?_
        refine g_imul C dX14_unlike_56 ?_
        refine g_iload C dX14_unlike_57 rfl ?_
        refine g_iadd C dX14_unlike_59 ?_
        obtain ⟨⟨b2, b2b⟩, hw⟩ := hw
        refine g_iaload C dX14_unlike_60 kdR_36 b2 b2b (fun z60 => ?_)
        refine g_icmp_eq C 71 dX14_unlike_61 rfl hw (fun hw => ?_) (fun hw => ?_)
        · refine g_iconst C ⟨by decide, by decide⟩ dX14_unlike_71 ?_
          refine g_ior C dX14_unlike_72 ?_
          refine g_topi (fun x2 ex2 => ?_)
          replace hw := hw x2 ex2
          refine g_istore_n C dX14_unlike_73 rfl (by decide) ?_
          refine g_iincN C dX14_unlike_74 rfl (by decide) (fun x3 ex3 => ?_)
          replace hw := hw x3 ex3
          refine g_goto C 17 dX14_unlike_77 rfl ?_
          exact g_sub [3, 4, 5, 0, 1, 2] rfl (hQ _ hw)
        · refine g_iconst C ⟨by decide, by decide⟩ dX14_unlike_64 ?_
          refine g_iload C dX14_unlike_65 rfl ?_
          refine g_ishl C dX14_unlike_67 ?_
          refine g_goto C 72 dX14_unlike_68 rfl ?_
          refine g_ior C dX14_unlike_72 ?_
          refine g_topi (fun x4 ex4 => ?_)
          replace hw := hw x4 ex4
          refine g_istore_n C dX14_unlike_73 rfl (by decide) ?_
          refine g_iincN C dX14_unlike_74 rfl (by decide) (fun x5 ex5 => ?_)
          replace hw := hw x5 ex5
          refine g_goto C 17 dX14_unlike_77 rfl ?_
          exact g_sub [3, 4, 5, 0, 1, 2] rfl (hQ _ hw)
  show mG _ p l e _ s m args below meth c _ _ 0 [(0, (2, 0)), (1, (0, p1)), (2, (0, p2))] [] h
  unfold wp_X14_unlike at hw
  refine g_iconst C ⟨by decide, by decide⟩ dX14_unlike_0 ?_
  refine g_istore_n C dX14_unlike_1 rfl (by decide) ?_
  refine g_iconst C ⟨by decide, by decide⟩ dX14_unlike_2 ?_
  refine g_istore C dX14_unlike_3 (by decide) ?_
  exact g_sub [3, 4, 0, 1, 2] rfl (hQ _ hw)
set_option maxRecDepth 20000 in
set_option maxHeartbeats 4000000 in
theorem sim_X14_tellsAll {z : Mz} {l : Launch} {p1 : Int} {h : Mh} {K : Int → Mh → Prop} (hw : wp_X14_tellsAll p1 h K) : mCal (XR z) l yX14_tellsAll cX14_tellsAll 4 (some Jvm.ClassFile.FieldType.boolean) 1 25 [(2, 0), (0, p1)] h (mKz K) := by
  refine m_entry RX14 rfl (by decide) rfl (fun p e s m args below meth c C hr => ?_)
  have hQ : ∀ x, Lfp (F_X14_tellsAll p1 K) x → (match x.1, x.2.1 with | 2, [v2] => mG (XR z) p l e { frames := 1, cells := 0, slots := 0, locals := 25 } s m args below meth c 4 (mMQ (XR z) (mKz K) below args s) 2 [(2, (0, v2)), (0, (2, 0)), (1, (0, p1))] [] x.2.2 | 12, [v2, v3] => mG (XR z) p l e { frames := 1, cells := 0, slots := 0, locals := 25 } s m args below meth c 4 (mMQ (XR z) (mKz K) below args s) 12 [(2, (0, v2)), (3, (0, v3)), (0, (2, 0)), (1, (0, p1))] [] x.2.2 | _, _ => True) := by
    intro x hx
    refine Lfp.ind (fun x => (match x.1, x.2.1 with | 2, [v2] => mG (XR z) p l e { frames := 1, cells := 0, slots := 0, locals := 25 } s m args below meth c 4 (mMQ (XR z) (mKz K) below args s) 2 [(2, (0, v2)), (0, (2, 0)), (1, (0, p1))] [] x.2.2 | 12, [v2, v3] => mG (XR z) p l e { frames := 1, cells := 0, slots := 0, locals := 25 } s m args below meth c 4 (mMQ (XR z) (mKz K) below args s) 12 [(2, (0, v2)), (3, (0, v3)), (0, (2, 0)), (1, (0, p1))] [] x.2.2 | _, _ => True)) ?_ hx
    clear hx x
    intro Z x hQ hw
    rcases hw with ⟨v2, h, rfl, hw⟩ | ⟨v2, v3, h, rfl, hw⟩
    · show mG (XR z) p l e { frames := 1, cells := 0, slots := 0, locals := 25 } s m args below meth c 4 (mMQ (XR z) (mKz K) below args s) 2 [(2, (0, v2)), (0, (2, 0)), (1, (0, p1))] [] h
      unfold B_X14_tellsAll_2 at hw
      refine g_iload_n C dX14_tellsAll_2 rfl rfl ?_
      refine g_aload_n C dX14_tellsAll_3 rfl (by decide) rfl ?_
      refine gf_X14_530 C dX14_tellsAll_4 kdR_0 (fun z4 => ?_)
      refine g_icmp_ge C 42 dX14_tellsAll_7 rfl hw (fun hw => ?_) (fun hw => ?_)
      · refine g_iconst C ⟨by decide, by decide⟩ dX14_tellsAll_42 ?_
        exact g_zret C hr (Or.inr rfl) dX14_tellsAll_43 ⟨_, rfl, (Or.inr rfl), hw⟩
      · refine g_iconst C ⟨by decide, by decide⟩ dX14_tellsAll_10 ?_
        refine g_istore_n C dX14_tellsAll_11 rfl (by decide) ?_
        exact g_sub [2, 3, 0, 1] rfl (hQ _ hw)
    · show mG (XR z) p l e { frames := 1, cells := 0, slots := 0, locals := 25 } s m args below meth c 4 (mMQ (XR z) (mKz K) below args s) 12 [(2, (0, v2)), (3, (0, v3)), (0, (2, 0)), (1, (0, p1))] [] h
      unfold B_X14_tellsAll_12 at hw
      refine g_iload_n C dX14_tellsAll_12 rfl rfl ?_
      refine g_iload_n C dX14_tellsAll_13 rfl rfl ?_
      refine g_icmp_ge C 36 dX14_tellsAll_14 rfl hw (fun hw => ?_) (fun hw => ?_)
      · refine g_iincN C dX14_tellsAll_36 rfl (by decide) (fun x1 ex1 => ?_)
        replace hw := hw x1 ex1
        refine g_goto C 2 dX14_tellsAll_39 rfl ?_
        exact g_sub [2, 0, 1] rfl (hQ _ hw)
      · refine g_aload_n C dX14_tellsAll_17 rfl (by decide) rfl ?_
        refine g_iload_n C dX14_tellsAll_18 rfl rfl ?_
        refine g_iload_n C dX14_tellsAll_19 rfl rfl ?_
        refine g_callVi C [(0, v2), (0, v3)] (sim_X14_unlike hw) k_2243 k_2245 k_130 k_147 k_2246 hdV_X14_unlike rfl rfl (by decide) rfl kdR_0 rfl rfl rfl dX14_tellsAll_20 ?_
        intro x2 h1 hw
        refine g_iload_n C dX14_tellsAll_23 rfl rfl ?_
        refine g_iand C dX14_tellsAll_24 ?_
        refine g_if_ne C 30 dX14_tellsAll_25 rfl hw (fun hw => ?_) (fun hw => ?_)
        · refine g_iincN C dX14_tellsAll_30 rfl (by decide) (fun x3 ex3 => ?_)
          replace hw := hw x3 ex3
          refine g_goto C 12 dX14_tellsAll_33 rfl ?_
          exact g_sub [2, 3, 0, 1] rfl (hQ _ hw)
        · refine g_iconst C ⟨by decide, by decide⟩ dX14_tellsAll_28 ?_
          exact g_zret C hr (Or.inl rfl) dX14_tellsAll_29 ⟨_, rfl, (Or.inl rfl), hw⟩
  show mG _ p l e _ s m args below meth c _ _ 0 [(0, (2, 0)), (1, (0, p1))] [] h
  unfold wp_X14_tellsAll at hw
  refine g_iconst C ⟨by decide, by decide⟩ dX14_tellsAll_0 ?_
  refine g_istore_n C dX14_tellsAll_1 rfl (by decide) ?_
  exact g_sub [2, 0, 1] rfl (hQ _ hw)
set_option maxRecDepth 20000 in
set_option maxHeartbeats 4000000 in
theorem sim_X14_apart {z : Mz} {l : Launch} {p1 : Int} {p2 : Int} {p3 : Int} {h : Mh} {K : Int → Mh → Prop} (hw : wp_X14_apart p1 p2 p3 h K) : mCal (XR z) l yX14_apart cX14_apart 7 (some Jvm.ClassFile.FieldType.int) 4 102 [(2, 0), (0, p1), (0, p2), (1, p3)] h (mKi K) := by
  refine m_entry RX14 rfl (by decide) rfl (fun p e s m args below meth c C hr => ?_)
  have hQ : ∀ x, Lfp (F_X14_apart p1 p2 p3 K) x → (match x.1, x.2.1 with | 20, [v5] => mG (XR z) p l e { frames := 4, cells := 0, slots := 0, locals := 102 } s m args below meth c 7 (mMQ (XR z) (mKi K) below args s) 20 [(5, (0, v5)), (0, (2, 0)), (1, (0, p1)), (2, (0, p2)), (3, (1, p3))] [] x.2.2 | 32, [v5, v6] => mG (XR z) p l e { frames := 4, cells := 0, slots := 0, locals := 102 } s m args below meth c 7 (mMQ (XR z) (mKi K) below args s) 32 [(5, (0, v5)), (6, (0, v6)), (0, (2, 0)), (1, (0, p1)), (2, (0, p2)), (3, (1, p3))] [] x.2.2 | _, _ => True) := by
    intro x hx
    refine Lfp.ind (fun x => (match x.1, x.2.1 with | 20, [v5] => mG (XR z) p l e { frames := 4, cells := 0, slots := 0, locals := 102 } s m args below meth c 7 (mMQ (XR z) (mKi K) below args s) 20 [(5, (0, v5)), (0, (2, 0)), (1, (0, p1)), (2, (0, p2)), (3, (1, p3))] [] x.2.2 | 32, [v5, v6] => mG (XR z) p l e { frames := 4, cells := 0, slots := 0, locals := 102 } s m args below meth c 7 (mMQ (XR z) (mKi K) below args s) 32 [(5, (0, v5)), (6, (0, v6)), (0, (2, 0)), (1, (0, p1)), (2, (0, p2)), (3, (1, p3))] [] x.2.2 | _, _ => True)) ?_ hx
    clear hx x
    intro Z x hQ hw
    rcases hw with ⟨v5, h, rfl, hw⟩ | ⟨v5, v6, h, rfl, hw⟩
    · show mG (XR z) p l e { frames := 4, cells := 0, slots := 0, locals := 102 } s m args below meth c 7 (mMQ (XR z) (mKi K) below args s) 20 [(5, (0, v5)), (0, (2, 0)), (1, (0, p1)), (2, (0, p2)), (3, (1, p3))] [] h
      unfold B_X14_apart_20 at hw
      refine g_iload C dX14_apart_20 rfl ?_
      refine g_aload_n C dX14_apart_22 rfl (by decide) rfl ?_
      refine gf_X14_264 C dX14_apart_23 kdR_0 (fun z23 => ?_)
      refine g_icmp_gt C 77 dX14_apart_26 rfl hw (fun hw => ?_) (fun hw => ?_)
      · refine g_bipush C ⟨by decide, by decide⟩ (by decide) dX14_apart_77 ?_
        exact g_iret C hr dX14_apart_79 ⟨_, rfl, hw⟩
      · refine g_iconst C ⟨by decide, by decide⟩ dX14_apart_29 ?_
        refine g_istore C dX14_apart_30 (by decide) ?_
        exact g_sub [5, 6, 0, 1, 2, 3] rfl (hQ _ hw)
    · show mG (XR z) p l e { frames := 4, cells := 0, slots := 0, locals := 102 } s m args below meth c 7 (mMQ (XR z) (mKi K) below args s) 32 [(5, (0, v5)), (6, (0, v6)), (0, (2, 0)), (1, (0, p1)), (2, (0, p2)), (3, (1, p3))] [] h
      unfold B_X14_apart_32 at hw
      refine g_iload C dX14_apart_32 rfl ?_
      refine g_iconst C ⟨by decide, by decide⟩ dX14_apart_34 ?_
      refine g_aload_n C dX14_apart_35 rfl (by decide) rfl ?_
      refine gf_X14_264 C dX14_apart_36 kdR_0 (fun z36 => ?_)
      refine g_ishl C dX14_apart_39 ?_
      refine g_icmp_ge C 71 dX14_apart_40 rfl hw (fun hw => ?_) (fun hw => ?_)
      · refine g_iincN C dX14_apart_71 rfl (by decide) (fun x1 ex1 => ?_)
        replace hw := hw x1 ex1
        refine g_goto C 20 dX14_apart_74 rfl ?_
        exact g_sub [5, 0, 1, 2, 3] rfl (hQ _ hw)
      · refine g_iload C dX14_apart_43 rfl ?_
        refine g_callSi C [(0, v6)] (sim_X14_manyOf hw) k_2236 k_2237 k_147 k_2238 hdS_X14_manyOf rfl rfl rfl rfl rfl dX14_apart_45 ?_
        intro x2 h1 hw
        refine g_iload C dX14_apart_48 rfl ?_
        refine g_icmp_ne C 65 dX14_apart_50 rfl hw (fun hw => ?_) (fun hw => ?_)
        · refine g_iincN C dX14_apart_65 rfl (by decide) (fun x3 ex3 => ?_)
          replace hw := hw x3 ex3
          refine g_goto C 32 dX14_apart_68 rfl ?_
          exact g_sub [5, 6, 0, 1, 2, 3] rfl (hQ _ hw)
        · refine g_aload_n C dX14_apart_53 rfl (by decide) rfl ?_
          refine g_iload C dX14_apart_54 rfl ?_
          refine g_callVz C [(0, v6)] (sim_X14_tellsAll hw) k_2239 k_2241 k_129 k_147 k_2242 hdV_X14_tellsAll rfl rfl (by decide) rfl kdR_0 rfl rfl rfl dX14_apart_56 ?_
          intro x4 h2 zb56 hw
          refine g_if_eq C 65 dX14_apart_59 rfl hw (fun hw => ?_) (fun hw => ?_)
          · refine g_iincN C dX14_apart_65 rfl (by decide) (fun x5 ex5 => ?_)
            replace hw := hw x5 ex5
            refine g_goto C 32 dX14_apart_68 rfl ?_
            exact g_sub [5, 6, 0, 1, 2, 3] rfl (hQ _ hw)
          · refine g_iload C dX14_apart_62 rfl ?_
            exact g_iret C hr dX14_apart_64 ⟨_, rfl, hw⟩
  show mG _ p l e _ s m args below meth c _ _ 0 [(0, (2, 0)), (1, (0, p1)), (2, (0, p2)), (3, (1, p3))] [] h
  unfold wp_X14_apart at hw
  refine g_aload_n C dX14_apart_0 rfl (by decide) rfl ?_
  refine g_iconst C ⟨by decide, by decide⟩ dX14_apart_1 ?_
  refine gp_X14_148 C dX14_apart_2 kdR_0 (fun z => z) ?_
  refine g_heap (fun h1 eh1 => ?_)
  replace hw := hw h1 eh1
  refine g_aload_n C dX14_apart_5 rfl (by decide) rfl ?_
  refine g_iload_n C dX14_apart_6 rfl rfl ?_
  refine g_iload_n C dX14_apart_7 rfl rfl ?_
  refine g_lload_n C dX14_apart_8 rfl rfl ?_
  refine g_callVz C [(0, p1), (0, p2), (1, p3)] (sim_X14_layFalls hw) k_2224 k_2226 k_127 k_147 k_2227 hdV_X14_layFalls rfl rfl (by decide) rfl kdR_0 rfl rfl rfl dX14_apart_9 ?_
  intro x1 h2 zb9 hw
  refine g_if_ne C 17 dX14_apart_12 rfl hw (fun hw => ?_) (fun hw => ?_)
  · refine g_iconst C ⟨by decide, by decide⟩ dX14_apart_17 ?_
    refine g_istore C dX14_apart_18 (by decide) ?_
    exact g_sub [5, 0, 1, 2, 3] rfl (hQ _ hw)
  · refine g_iconst C ⟨by decide, by decide⟩ dX14_apart_15 ?_
    exact g_iret C hr dX14_apart_16 ⟨_, rfl, hw⟩
set_option maxRecDepth 20000 in
set_option maxHeartbeats 4000000 in
theorem sim_X14_nextTo {z : Mz} {l : Launch} {p1 : Int} {p2 : Int} {h : Mh} {K : Int → Mh → Prop} (hw : wp_X14_nextTo p1 p2 h K) : mCal (XR z) l yX14_nextTo cX14_nextTo 5 (some Jvm.ClassFile.FieldType.int) 0 0 [(2, 0), (0, p1), (0, p2)] h (mKi K) := by
  refine m_entry RX14 rfl (by decide) rfl (fun p e s m args below meth c C hr => ?_)
  have hQ : ∀ x, Lfp (F_X14_nextTo p1 p2 K) x → (match x.1, x.2.1 with | 25, [s0, s1] => mG (XR z) p l e { frames := 0, cells := 0, slots := 0, locals := 0 } s m args below meth c 5 (mMQ (XR z) (mKi K) below args s) 25 [(0, (2, 0)), (1, (0, p1)), (2, (0, p2))] [(0, s1), (0, s0)] x.2.2 | 52, [v3, s0, s1] => mG (XR z) p l e { frames := 0, cells := 0, slots := 0, locals := 0 } s m args below meth c 5 (mMQ (XR z) (mKi K) below args s) 52 [(3, (0, v3)), (0, (2, 0)), (1, (0, p1)), (2, (0, p2))] [(0, s1), (0, s0)] x.2.2 | _, _ => True) := by
    intro x hx
    refine Lfp.ind (fun x => (match x.1, x.2.1 with | 25, [s0, s1] => mG (XR z) p l e { frames := 0, cells := 0, slots := 0, locals := 0 } s m args below meth c 5 (mMQ (XR z) (mKi K) below args s) 25 [(0, (2, 0)), (1, (0, p1)), (2, (0, p2))] [(0, s1), (0, s0)] x.2.2 | 52, [v3, s0, s1] => mG (XR z) p l e { frames := 0, cells := 0, slots := 0, locals := 0 } s m args below meth c 5 (mMQ (XR z) (mKi K) below args s) 52 [(3, (0, v3)), (0, (2, 0)), (1, (0, p1)), (2, (0, p2))] [(0, s1), (0, s0)] x.2.2 | _, _ => True)) ?_ hx
    clear hx x
    intro Z x hQ hw
    rcases hw with ⟨s0, s1, h, rfl, hw⟩ | ⟨v3, s0, s1, h, rfl, hw⟩
    · show mG (XR z) p l e { frames := 0, cells := 0, slots := 0, locals := 0 } s m args below meth c 5 (mMQ (XR z) (mKi K) below args s) 25 [(0, (2, 0)), (1, (0, p1)), (2, (0, p2))] [(0, s1), (0, s0)] h
      unfold B_X14_nextTo_25 at hw
      refine g_iadd C dX14_nextTo_25 ?_
      refine g_topi (fun x1 ex1 => ?_)
      replace hw := hw x1 ex1
      refine g_istore_n C dX14_nextTo_26 rfl (by decide) ?_
      refine g_iload_n C dX14_nextTo_27 rfl rfl ?_
      refine g_aload_n C dX14_nextTo_28 rfl (by decide) rfl ?_
      refine gf_X14_255 C dX14_nextTo_29 kdR_0 (fun z29 => ?_)
      obtain ⟨z0, hw⟩ := hw
      refine g_idiv C z0 dX14_nextTo_32 ?_
      refine g_iload_n C dX14_nextTo_33 rfl rfl ?_
      refine g_iconst C ⟨by decide, by decide⟩ dX14_nextTo_34 ?_
      refine g_icmp_ne C 42 dX14_nextTo_35 rfl hw (fun hw => ?_) (fun hw => ?_)
      · refine g_iload_n C dX14_nextTo_42 rfl rfl ?_
        refine g_iconst C ⟨by decide, by decide⟩ dX14_nextTo_43 ?_
        refine g_icmp_ne C 51 dX14_nextTo_44 rfl hw (fun hw => ?_) (fun hw => ?_)
        · refine g_iconst C ⟨by decide, by decide⟩ dX14_nextTo_51 ?_
          exact g_sub [3, 0, 1, 2] rfl (hQ _ hw)
        · refine g_iconst C ⟨by decide, by decide⟩ dX14_nextTo_47 ?_
          refine g_goto C 52 dX14_nextTo_48 rfl ?_
          exact g_sub [3, 0, 1, 2] rfl (hQ _ hw)
      · refine g_iconst C ⟨by decide, by decide⟩ dX14_nextTo_38 ?_
        refine g_goto C 52 dX14_nextTo_39 rfl ?_
        exact g_sub [3, 0, 1, 2] rfl (hQ _ hw)
    · show mG (XR z) p l e { frames := 0, cells := 0, slots := 0, locals := 0 } s m args below meth c 5 (mMQ (XR z) (mKi K) below args s) 52 [(3, (0, v3)), (0, (2, 0)), (1, (0, p1)), (2, (0, p2))] [(0, s1), (0, s0)] h
      unfold B_X14_nextTo_52 at hw
      refine g_iadd C dX14_nextTo_52 ?_
      refine g_topi (fun x1 ex1 => ?_)
      replace hw := hw x1 ex1
      refine g_istore C dX14_nextTo_53 (by decide) ?_
      refine g_iload_n C dX14_nextTo_55 rfl rfl ?_
      refine g_if_lt C 99 dX14_nextTo_56 rfl hw (fun hw => ?_) (fun hw => ?_)
      · refine g_iconst C ⟨by decide, by decide⟩ dX14_nextTo_99 ?_
        refine g_goto C 112 dX14_nextTo_100 rfl ?_
        exact g_iret C hr dX14_nextTo_112 ⟨_, rfl, hw⟩
      · refine g_iload_n C dX14_nextTo_59 rfl rfl ?_
        refine g_aload_n C dX14_nextTo_60 rfl (by decide) rfl ?_
        refine gf_X14_255 C dX14_nextTo_61 kdR_0 (fun z61 => ?_)
        refine g_icmp_ge C 99 dX14_nextTo_64 rfl hw (fun hw => ?_) (fun hw => ?_)
        · refine g_iconst C ⟨by decide, by decide⟩ dX14_nextTo_99 ?_
          refine g_goto C 112 dX14_nextTo_100 rfl ?_
          exact g_iret C hr dX14_nextTo_112 ⟨_, rfl, hw⟩
        · refine g_iload C dX14_nextTo_67 rfl ?_
          refine g_if_lt C 99 dX14_nextTo_69 rfl hw (fun hw => ?_) (fun hw => ?_)
          · refine g_iconst C ⟨by decide, by decide⟩ dX14_nextTo_99 ?_
            refine g_goto C 112 dX14_nextTo_100 rfl ?_
            exact g_iret C hr dX14_nextTo_112 ⟨_, rfl, hw⟩
          · refine g_iload C dX14_nextTo_72 rfl ?_
            refine g_aload_n C dX14_nextTo_74 rfl (by decide) rfl ?_
            refine gf_X14_258 C dX14_nextTo_75 kdR_0 (fun z75 => ?_)
            refine g_icmp_ge C 99 dX14_nextTo_78 rfl hw (fun hw => ?_) (fun hw => ?_)
            · refine g_iconst C ⟨by decide, by decide⟩ dX14_nextTo_99 ?_
              refine g_goto C 112 dX14_nextTo_100 rfl ?_
              exact g_iret C hr dX14_nextTo_112 ⟨_, rfl, hw⟩
            · refine g_aload_n C dX14_nextTo_81 rfl (by decide) rfl ?_
              refine gw_X14_27 C dX14_nextTo_82 kdR_0 wwR_0_41 ?_
              refine g_aload_n C dX14_nextTo_85 rfl (by decide) rfl ?_
              refine gf_X14_255 C dX14_nextTo_86 kdR_0 (fun z86 => ?_)
              refine g_iload C dX14_nextTo_89 rfl ?_
              refine g_imul C dX14_nextTo_91 ?_
              refine g_iload_n C dX14_nextTo_92 rfl rfl ?_
              refine g_iadd C dX14_nextTo_93 ?_
              obtain ⟨⟨b1, b1b⟩, hw⟩ := hw
              refine g_iaload C dX14_nextTo_94 kdR_5 b1 b1b (fun z94 => ?_)
              refine g_iconst C ⟨by decide, by decide⟩ dX14_nextTo_95 ?_
              refine g_icmp_ne C 103 dX14_nextTo_96 rfl hw (fun hw => ?_) (fun hw => ?_)
              · refine g_aload_n C dX14_nextTo_103 rfl (by decide) rfl ?_
                refine gf_X14_255 C dX14_nextTo_104 kdR_0 (fun z104 => ?_)
                refine g_iload C dX14_nextTo_107 rfl ?_
                refine g_imul C dX14_nextTo_109 ?_
                refine g_iload_n C dX14_nextTo_110 rfl rfl ?_
                refine g_iadd C dX14_nextTo_111 ?_
                exact g_iret C hr dX14_nextTo_112 ⟨_, rfl, hw⟩
              · refine g_iconst C ⟨by decide, by decide⟩ dX14_nextTo_99 ?_
                refine g_goto C 112 dX14_nextTo_100 rfl ?_
                exact g_iret C hr dX14_nextTo_112 ⟨_, rfl, hw⟩
  show mG _ p l e _ s m args below meth c _ _ 0 [(0, (2, 0)), (1, (0, p1)), (2, (0, p2))] [] h
  unfold wp_X14_nextTo at hw
  refine g_iload_n C dX14_nextTo_0 rfl rfl ?_
  refine g_aload_n C dX14_nextTo_1 rfl (by decide) rfl ?_
  refine gf_X14_255 C dX14_nextTo_2 kdR_0 (fun z2 => ?_)
  obtain ⟨z0, hw⟩ := hw
  refine g_irem C z0 dX14_nextTo_5 ?_
  refine g_iload_n C dX14_nextTo_6 rfl rfl ?_
  refine g_iconst C ⟨by decide, by decide⟩ dX14_nextTo_7 ?_
  refine g_icmp_ne C 15 dX14_nextTo_8 rfl hw (fun hw => ?_) (fun hw => ?_)
  · refine g_iload_n C dX14_nextTo_15 rfl rfl ?_
    refine g_iconst C ⟨by decide, by decide⟩ dX14_nextTo_16 ?_
    refine g_icmp_ne C 24 dX14_nextTo_17 rfl hw (fun hw => ?_) (fun hw => ?_)
    · refine g_iconst C ⟨by decide, by decide⟩ dX14_nextTo_24 ?_
      exact g_sub [0, 1, 2] rfl (hQ _ hw)
    · refine g_iconst C ⟨by decide, by decide⟩ dX14_nextTo_20 ?_
      refine g_goto C 25 dX14_nextTo_21 rfl ?_
      exact g_sub [0, 1, 2] rfl (hQ _ hw)
  · refine g_iconst C ⟨by decide, by decide⟩ dX14_nextTo_11 ?_
    refine g_goto C 25 dX14_nextTo_12 rfl ?_
    exact g_sub [0, 1, 2] rfl (hQ _ hw)
set_option maxRecDepth 20000 in
set_option maxHeartbeats 4000000 in
theorem sim_X14_layFar {z : Mz} {l : Launch} {p1 : Int} {p2 : Int} {h : Mh} {K : Mh → Prop} (hw : wp_X14_layFar p1 p2 h K) : mCal (XR z) l yX14_layFar cX14_layFar 8 none 1 24 [(2, 0), (0, p1), (0, p2)] h (mKv K) := by
  refine m_entry RX14 rfl (by decide) rfl (fun p e s m args below meth c C hr => ?_)
  have hQ : ∀ x, Lfp (F_X14_layFar p1 p2 K) x → (match x.1, x.2.1 with | 2, [v3] => mG (XR z) p l e { frames := 1, cells := 0, slots := 0, locals := 24 } s m args below meth c 8 (mMQ (XR z) (mKv K) below args s) 2 [(3, (0, v3)), (0, (2, 0)), (1, (0, p1)), (2, (0, p2))] [] x.2.2 | 44, [v3, v4, v5] => mG (XR z) p l e { frames := 1, cells := 0, slots := 0, locals := 24 } s m args below meth c 8 (mMQ (XR z) (mKv K) below args s) 44 [(3, (0, v3)), (4, (0, v4)), (5, (0, v5)), (0, (2, 0)), (1, (0, p1)), (2, (0, p2))] [] x.2.2 | _, _ => True) := by
    intro x hx
    refine Lfp.ind (fun x => (match x.1, x.2.1 with | 2, [v3] => mG (XR z) p l e { frames := 1, cells := 0, slots := 0, locals := 24 } s m args below meth c 8 (mMQ (XR z) (mKv K) below args s) 2 [(3, (0, v3)), (0, (2, 0)), (1, (0, p1)), (2, (0, p2))] [] x.2.2 | 44, [v3, v4, v5] => mG (XR z) p l e { frames := 1, cells := 0, slots := 0, locals := 24 } s m args below meth c 8 (mMQ (XR z) (mKv K) below args s) 44 [(3, (0, v3)), (4, (0, v4)), (5, (0, v5)), (0, (2, 0)), (1, (0, p1)), (2, (0, p2))] [] x.2.2 | _, _ => True)) ?_ hx
    clear hx x
    intro Z x hQ hw
    rcases hw with ⟨v3, h, rfl, hw⟩ | ⟨v3, v4, v5, h, rfl, hw⟩
    · show mG (XR z) p l e { frames := 1, cells := 0, slots := 0, locals := 24 } s m args below meth c 8 (mMQ (XR z) (mKv K) below args s) 2 [(3, (0, v3)), (0, (2, 0)), (1, (0, p1)), (2, (0, p2))] [] h
      unfold B_X14_layFar_2 at hw
      refine g_iload_n C dX14_layFar_2 rfl rfl ?_
      refine g_aload_n C dX14_layFar_3 rfl (by decide) rfl ?_
      refine g_callVi C [] (sim_X14_cells hw) k_1569 k_1571 k_73 k_147 k_1572 hdV_X14_cells rfl rfl (by decide) rfl kdR_0 rfl rfl rfl dX14_layFar_4 ?_
      intro x1 h1 hw
      refine g_icmp_ge C 189 dX14_layFar_7 rfl hw (fun hw => ?_) (fun hw => ?_)
      · exact g_vret C hr dX14_layFar_189 ⟨rfl, hw⟩
      · refine g_aload_n C dX14_layFar_10 rfl (by decide) rfl ?_
        refine gw_X14_27 C dX14_layFar_11 kdR_0 wwR_0_41 ?_
        refine g_iload_n C dX14_layFar_14 rfl rfl ?_
        obtain ⟨⟨b1, b1b⟩, hw⟩ := hw
        refine g_iaload C dX14_layFar_15 kdR_5 b1 b1b (fun z15 => ?_)
        refine g_iconst C ⟨by decide, by decide⟩ dX14_layFar_16 ?_
        refine g_icmp_eq C 183 dX14_layFar_17 rfl hw (fun hw => ?_) (fun hw => ?_)
        · refine g_iincN C dX14_layFar_183 rfl (by decide) (fun x2 ex2 => ?_)
          replace hw := hw x2 ex2
          refine g_goto C 2 dX14_layFar_186 rfl ?_
          exact g_sub [3, 0, 1, 2] rfl (hQ _ hw)
        · refine g_aload_n C dX14_layFar_20 rfl (by decide) rfl ?_
          refine gw_X14_103 C dX14_layFar_21 kdR_0 wwR_0_74 ?_
          refine g_bipush C ⟨by decide, by decide⟩ (by decide) dX14_layFar_24 ?_
          refine g_iload_n C dX14_layFar_26 rfl rfl ?_
          refine g_imul C dX14_layFar_27 ?_
          refine g_iload_n C dX14_layFar_28 rfl rfl ?_
          refine g_iadd C dX14_layFar_29 ?_
          obtain ⟨⟨b2, b2b⟩, hw⟩ := hw
          refine g_iaload C dX14_layFar_30 kdR_30 b2 b2b (fun z30 => ?_)
          refine g_iload_n C dX14_layFar_31 rfl rfl ?_
          refine g_icmp_ge C 38 dX14_layFar_32 rfl hw (fun hw => ?_) (fun hw => ?_)
          · refine g_iconst C ⟨by decide, by decide⟩ dX14_layFar_38 ?_
            refine g_istore C dX14_layFar_39 (by decide) ?_
            refine g_iconst C ⟨by decide, by decide⟩ dX14_layFar_41 ?_
            refine g_istore C dX14_layFar_42 (by decide) ?_
            exact g_sub [3, 4, 5, 0, 1, 2] rfl (hQ _ hw)
          · refine g_goto C 183 dX14_layFar_35 rfl ?_
            refine g_iincN C dX14_layFar_183 rfl (by decide) (fun x3 ex3 => ?_)
            replace hw := hw x3 ex3
            refine g_goto C 2 dX14_layFar_186 rfl ?_
            exact g_sub [3, 0, 1, 2] rfl (hQ _ hw)
    · show mG (XR z) p l e { frames := 1, cells := 0, slots := 0, locals := 24 } s m args below meth c 8 (mMQ (XR z) (mKv K) below args s) 44 [(3, (0, v3)), (4, (0, v4)), (5, (0, v5)), (0, (2, 0)), (1, (0, p1)), (2, (0, p2))] [] h
      unfold B_X14_layFar_44 at hw
      refine g_iload C dX14_layFar_44 rfl ?_
      refine g_iconst C ⟨by decide, by decide⟩ dX14_layFar_46 ?_
      refine g_icmp_ge C 150 dX14_layFar_47 rfl hw (fun hw => ?_) (fun hw => ?_)
      · refine g_iload C dX14_layFar_150 rfl ?_
        refine g_if_ge C 158 dX14_layFar_152 rfl hw (fun hw => ?_) (fun hw => ?_)
        · refine g_aload_n C dX14_layFar_158 rfl (by decide) rfl ?_
          refine gw_X14_103 C dX14_layFar_159 kdR_0 wwR_0_74 ?_
          refine g_bipush C ⟨by decide, by decide⟩ (by decide) dX14_layFar_162 ?_
          refine g_iload_n C dX14_layFar_164 rfl rfl ?_
          refine g_imul C dX14_layFar_165 ?_
          refine g_iload_n C dX14_layFar_166 rfl rfl ?_
          refine g_iadd C dX14_layFar_167 ?_
          refine g_iload_n C dX14_layFar_168 rfl rfl ?_
          obtain ⟨⟨b3, b3b⟩, hw⟩ := hw
          refine g_iastore C dX14_layFar_169 kdR_30 b3 b3b (fun z => z) ?_
          refine g_heap (fun h1 eh1 => ?_)
          replace hw := hw h1 eh1
          refine g_aload_n C dX14_layFar_170 rfl (by decide) rfl ?_
          refine gw_X14_106 C dX14_layFar_171 kdR_0 wwR_0_75 ?_
          refine g_bipush C ⟨by decide, by decide⟩ (by decide) dX14_layFar_174 ?_
          refine g_iload_n C dX14_layFar_176 rfl rfl ?_
          refine g_imul C dX14_layFar_177 ?_
          refine g_iload_n C dX14_layFar_178 rfl rfl ?_
          refine g_iadd C dX14_layFar_179 ?_
          refine g_iload C dX14_layFar_180 rfl ?_
          obtain ⟨⟨b4, b4b⟩, hw⟩ := hw
          refine g_iastore C dX14_layFar_182 kdR_31 b4 b4b (fun z => z) ?_
          refine g_heap (fun h2 eh2 => ?_)
          replace hw := hw h2 eh2
          refine g_iincN C dX14_layFar_183 rfl (by decide) (fun x1 ex1 => ?_)
          replace hw := hw x1 ex1
          refine g_goto C 2 dX14_layFar_186 rfl ?_
          exact g_sub [3, 0, 1, 2] rfl (hQ _ hw)
        · refine g_goto C 183 dX14_layFar_155 rfl ?_
          refine g_iincN C dX14_layFar_183 rfl (by decide) (fun x2 ex2 => ?_)
          replace hw := hw x2 ex2
          refine g_goto C 2 dX14_layFar_186 rfl ?_
          exact g_sub [3, 0, 1, 2] rfl (hQ _ hw)
      · refine g_aload_n C dX14_layFar_50 rfl (by decide) rfl ?_
        refine g_iload_n C dX14_layFar_51 rfl rfl ?_
        refine g_iload C dX14_layFar_52 rfl ?_
        refine g_callVi C [(0, v3), (0, v5)] (sim_X14_nextTo hw) k_1577 k_1579 k_75 k_147 k_1580 hdV_X14_nextTo rfl rfl (by decide) rfl kdR_0 rfl rfl rfl dX14_layFar_54 ?_
        intro x3 h3 hw
        refine g_istore C dX14_layFar_57 (by decide) ?_
        refine g_iload C dX14_layFar_59 rfl ?_
        refine g_if_lt C 144 dX14_layFar_61 rfl hw (fun hw => ?_) (fun hw => ?_)
        · refine g_iincN C dX14_layFar_144 rfl (by decide) (fun x4 ex4 => ?_)
          replace hw := hw x4 ex4
          refine g_goto C 44 dX14_layFar_147 rfl ?_
          exact g_sub [3, 4, 5, 0, 1, 2] rfl (hQ _ hw)
        · refine g_aload_n C dX14_layFar_64 rfl (by decide) rfl ?_
          refine gw_X14_103 C dX14_layFar_65 kdR_0 wwR_0_74 ?_
          refine g_bipush C ⟨by decide, by decide⟩ (by decide) dX14_layFar_68 ?_
          refine g_iload_n C dX14_layFar_70 rfl rfl ?_
          refine g_imul C dX14_layFar_71 ?_
          refine g_iload C dX14_layFar_72 rfl ?_
          refine g_iadd C dX14_layFar_74 ?_
          obtain ⟨⟨b5, b5b⟩, hw⟩ := hw
          refine g_iaload C dX14_layFar_75 kdR_30 b5 b5b (fun z75 => ?_)
          refine g_iload_n C dX14_layFar_76 rfl rfl ?_
          refine g_iconst C ⟨by decide, by decide⟩ dX14_layFar_77 ?_
          refine g_isub C dX14_layFar_78 ?_
          refine g_icmp_eq C 85 dX14_layFar_79 rfl hw (fun hw => ?_) (fun hw => ?_)
          · refine g_aload_n C dX14_layFar_85 rfl (by decide) rfl ?_
            refine gw_X14_106 C dX14_layFar_86 kdR_0 wwR_0_75 ?_
            refine g_bipush C ⟨by decide, by decide⟩ (by decide) dX14_layFar_89 ?_
            refine g_iload_n C dX14_layFar_91 rfl rfl ?_
            refine g_imul C dX14_layFar_92 ?_
            refine g_iload C dX14_layFar_93 rfl ?_
            refine g_iadd C dX14_layFar_95 ?_
            obtain ⟨⟨b6, b6b⟩, hw⟩ := hw
            refine g_iaload C dX14_layFar_96 kdR_31 b6 b6b (fun z96 => ?_)
            refine g_aload_n C dX14_layFar_97 rfl (by decide) rfl ?_
            refine gf_X14_282 C dX14_layFar_98 kdR_0 (fun z98 => ?_)
            refine g_iadd C dX14_layFar_101 ?_
            refine g_aload_n C dX14_layFar_102 rfl (by decide) rfl ?_
            refine gw_X14_27 C dX14_layFar_103 kdR_0 wwR_0_41 ?_
            refine g_iload_n C dX14_layFar_106 rfl rfl ?_
            obtain ⟨⟨b7, b7b⟩, hw⟩ := hw
            refine g_iaload C dX14_layFar_107 kdR_5 b7 b7b (fun z107 => ?_)
            refine g_iconst C ⟨by decide, by decide⟩ dX14_layFar_108 ?_
            refine g_icmp_ne C 119 dX14_layFar_109 rfl hw (fun hw => ?_) (fun hw => ?_)
            · refine g_iconst C ⟨by decide, by decide⟩ dX14_layFar_119 ?_
              refine g_iadd C dX14_layFar_120 ?_
              refine g_topi (fun x5 ex5 => ?_)
              replace hw := hw x5 ex5
              refine g_istore C dX14_layFar_121 (by decide) ?_
              refine g_iload C dX14_layFar_123 rfl ?_
              refine g_if_lt C 135 dX14_layFar_125 rfl hw (fun hw => ?_) (fun hw => ?_)
              · refine g_iload C dX14_layFar_135 rfl ?_
                refine g_goto C 142 dX14_layFar_137 rfl ?_
                refine g_istore C dX14_layFar_142 (by decide) ?_
                refine g_iincN C dX14_layFar_144 rfl (by decide) (fun x6 ex6 => ?_)
                replace hw := hw x6 ex6
                refine g_goto C 44 dX14_layFar_147 rfl ?_
                exact g_sub [3, 4, 5, 0, 1, 2] rfl (hQ _ hw)
              · refine g_iload C dX14_layFar_128 rfl ?_
                refine g_iload C dX14_layFar_130 rfl ?_
                refine g_icmp_ge C 140 dX14_layFar_132 rfl hw (fun hw => ?_) (fun hw => ?_)
                · refine g_iload C dX14_layFar_140 rfl ?_
                  refine g_istore C dX14_layFar_142 (by decide) ?_
                  refine g_iincN C dX14_layFar_144 rfl (by decide) (fun x7 ex7 => ?_)
                  replace hw := hw x7 ex7
                  refine g_goto C 44 dX14_layFar_147 rfl ?_
                  exact g_sub [3, 4, 5, 0, 1, 2] rfl (hQ _ hw)
                · refine g_iload C dX14_layFar_135 rfl ?_
                  refine g_goto C 142 dX14_layFar_137 rfl ?_
                  refine g_istore C dX14_layFar_142 (by decide) ?_
                  refine g_iincN C dX14_layFar_144 rfl (by decide) (fun x8 ex8 => ?_)
                  replace hw := hw x8 ex8
                  refine g_goto C 44 dX14_layFar_147 rfl ?_
                  exact g_sub [3, 4, 5, 0, 1, 2] rfl (hQ _ hw)
            · refine g_aload_n C dX14_layFar_112 rfl (by decide) rfl ?_
              refine gf_X14_285 C dX14_layFar_113 kdR_0 (fun z113 => ?_)
              refine g_goto C 120 dX14_layFar_116 rfl ?_
              refine g_iadd C dX14_layFar_120 ?_
              refine g_topi (fun x9 ex9 => ?_)
              replace hw := hw x9 ex9
              refine g_istore C dX14_layFar_121 (by decide) ?_
              refine g_iload C dX14_layFar_123 rfl ?_
              refine g_if_lt C 135 dX14_layFar_125 rfl hw (fun hw => ?_) (fun hw => ?_)
              · refine g_iload C dX14_layFar_135 rfl ?_
                refine g_goto C 142 dX14_layFar_137 rfl ?_
                refine g_istore C dX14_layFar_142 (by decide) ?_
                refine g_iincN C dX14_layFar_144 rfl (by decide) (fun x10 ex10 => ?_)
                replace hw := hw x10 ex10
                refine g_goto C 44 dX14_layFar_147 rfl ?_
                exact g_sub [3, 4, 5, 0, 1, 2] rfl (hQ _ hw)
              · refine g_iload C dX14_layFar_128 rfl ?_
                refine g_iload C dX14_layFar_130 rfl ?_
                refine g_icmp_ge C 140 dX14_layFar_132 rfl hw (fun hw => ?_) (fun hw => ?_)
                · refine g_iload C dX14_layFar_140 rfl ?_
                  refine g_istore C dX14_layFar_142 (by decide) ?_
                  refine g_iincN C dX14_layFar_144 rfl (by decide) (fun x11 ex11 => ?_)
                  replace hw := hw x11 ex11
                  refine g_goto C 44 dX14_layFar_147 rfl ?_
                  exact g_sub [3, 4, 5, 0, 1, 2] rfl (hQ _ hw)
                · refine g_iload C dX14_layFar_135 rfl ?_
                  refine g_goto C 142 dX14_layFar_137 rfl ?_
                  refine g_istore C dX14_layFar_142 (by decide) ?_
                  refine g_iincN C dX14_layFar_144 rfl (by decide) (fun x12 ex12 => ?_)
                  replace hw := hw x12 ex12
                  refine g_goto C 44 dX14_layFar_147 rfl ?_
                  exact g_sub [3, 4, 5, 0, 1, 2] rfl (hQ _ hw)
          · refine g_goto C 144 dX14_layFar_82 rfl ?_
            refine g_iincN C dX14_layFar_144 rfl (by decide) (fun x13 ex13 => ?_)
            replace hw := hw x13 ex13
            refine g_goto C 44 dX14_layFar_147 rfl ?_
            exact g_sub [3, 4, 5, 0, 1, 2] rfl (hQ _ hw)
  show mG _ p l e _ s m args below meth c _ _ 0 [(0, (2, 0)), (1, (0, p1)), (2, (0, p2))] [] h
  unfold wp_X14_layFar at hw
  refine g_iconst C ⟨by decide, by decide⟩ dX14_layFar_0 ?_
  refine g_istore_n C dX14_layFar_1 rfl (by decide) ?_
  exact g_sub [3, 0, 1, 2] rfl (hQ _ hw)
set_option maxRecDepth 20000 in
set_option maxHeartbeats 4000000 in
theorem sim_X14_layWays {z : Mz} {l : Launch} {h : Mh} {K : Mh → Prop} (hw : wp_X14_layWays h K) : mCal (XR z) l yX14_layWays cX14_layWays 3 none 3 62 [(2, 0)] h (mKv K) := by
  refine m_entry RX14 rfl (by decide) rfl (fun p e s m args below meth c C hr => ?_)
  have hQ : ∀ x, Lfp (F_X14_layWays K) x → (match x.1, x.2.1 with | 2, [v1] => mG (XR z) p l e { frames := 3, cells := 0, slots := 0, locals := 62 } s m args below meth c 3 (mMQ (XR z) (mKv K) below args s) 2 [(1, (0, v1)), (0, (2, 0))] [] x.2.2 | 10, [v1, v2] => mG (XR z) p l e { frames := 3, cells := 0, slots := 0, locals := 62 } s m args below meth c 3 (mMQ (XR z) (mKv K) below args s) 10 [(1, (0, v1)), (2, (0, v2)), (0, (2, 0))] [] x.2.2 | 67, [v1, v2] => mG (XR z) p l e { frames := 3, cells := 0, slots := 0, locals := 62 } s m args below meth c 3 (mMQ (XR z) (mKv K) below args s) 67 [(1, (0, v1)), (2, (0, v2)), (0, (2, 0))] [] x.2.2 | _, _ => True) := by
    intro x hx
    refine Lfp.ind (fun x => (match x.1, x.2.1 with | 2, [v1] => mG (XR z) p l e { frames := 3, cells := 0, slots := 0, locals := 62 } s m args below meth c 3 (mMQ (XR z) (mKv K) below args s) 2 [(1, (0, v1)), (0, (2, 0))] [] x.2.2 | 10, [v1, v2] => mG (XR z) p l e { frames := 3, cells := 0, slots := 0, locals := 62 } s m args below meth c 3 (mMQ (XR z) (mKv K) below args s) 10 [(1, (0, v1)), (2, (0, v2)), (0, (2, 0))] [] x.2.2 | 67, [v1, v2] => mG (XR z) p l e { frames := 3, cells := 0, slots := 0, locals := 62 } s m args below meth c 3 (mMQ (XR z) (mKv K) below args s) 67 [(1, (0, v1)), (2, (0, v2)), (0, (2, 0))] [] x.2.2 | _, _ => True)) ?_ hx
    clear hx x
    intro Z x hQ hw
    rcases hw with ⟨v1, h, rfl, hw⟩ | ⟨v1, v2, h, rfl, hw⟩ | ⟨v1, v2, h, rfl, hw⟩
    · show mG (XR z) p l e { frames := 3, cells := 0, slots := 0, locals := 62 } s m args below meth c 3 (mMQ (XR z) (mKv K) below args s) 2 [(1, (0, v1)), (0, (2, 0))] [] h
      unfold B_X14_layWays_2 at hw
      refine g_iload_n C dX14_layWays_2 rfl rfl ?_
      refine g_bipush C ⟨by decide, by decide⟩ (by decide) dX14_layWays_3 ?_
      refine g_icmp_ge C 99 dX14_layWays_5 rfl hw (fun hw => ?_) (fun hw => ?_)
      · exact g_vret C hr dX14_layWays_99 ⟨rfl, hw⟩
      · refine g_iconst C ⟨by decide, by decide⟩ dX14_layWays_8 ?_
        refine g_istore_n C dX14_layWays_9 rfl (by decide) ?_
        exact g_sub [1, 2, 0] rfl (hQ _ hw)
    · show mG (XR z) p l e { frames := 3, cells := 0, slots := 0, locals := 62 } s m args below meth c 3 (mMQ (XR z) (mKv K) below args s) 10 [(1, (0, v1)), (2, (0, v2)), (0, (2, 0))] [] h
      unfold B_X14_layWays_10 at hw
      refine g_iload_n C dX14_layWays_10 rfl rfl ?_
      refine g_bipush C ⟨by decide, by decide⟩ (by decide) dX14_layWays_11 ?_
      refine g_icmp_ge C 65 dX14_layWays_13 rfl hw (fun hw => ?_) (fun hw => ?_)
      · refine g_iconst C ⟨by decide, by decide⟩ dX14_layWays_65 ?_
        refine g_istore_n C dX14_layWays_66 rfl (by decide) ?_
        exact g_sub [1, 2, 0] rfl (hQ _ hw)
      · refine g_aload_n C dX14_layWays_16 rfl (by decide) rfl ?_
        refine gw_X14_103 C dX14_layWays_17 kdR_0 wwR_0_74 ?_
        refine g_bipush C ⟨by decide, by decide⟩ (by decide) dX14_layWays_20 ?_
        refine g_iload_n C dX14_layWays_22 rfl rfl ?_
        refine g_imul C dX14_layWays_23 ?_
        refine g_iload_n C dX14_layWays_24 rfl rfl ?_
        refine g_iadd C dX14_layWays_25 ?_
        refine g_iload_n C dX14_layWays_26 rfl rfl ?_
        refine g_iload_n C dX14_layWays_27 rfl rfl ?_
        refine g_icmp_ne C 43 dX14_layWays_28 rfl hw (fun hw => ?_) (fun hw => ?_)
        · refine g_sipush C ⟨by decide, by decide⟩ (by decide) dX14_layWays_43 ?_
          obtain ⟨⟨b1, b1b⟩, hw⟩ := hw
          refine g_iastore C dX14_layWays_46 kdR_30 b1 b1b (fun z => z) ?_
          refine g_heap (fun h1 eh1 => ?_)
          replace hw := hw h1 eh1
          refine g_aload_n C dX14_layWays_47 rfl (by decide) rfl ?_
          refine gw_X14_106 C dX14_layWays_48 kdR_0 wwR_0_75 ?_
          refine g_bipush C ⟨by decide, by decide⟩ (by decide) dX14_layWays_51 ?_
          refine g_iload_n C dX14_layWays_53 rfl rfl ?_
          refine g_imul C dX14_layWays_54 ?_
          refine g_iload_n C dX14_layWays_55 rfl rfl ?_
          refine g_iadd C dX14_layWays_56 ?_
          refine g_iconst C ⟨by decide, by decide⟩ dX14_layWays_57 ?_
          obtain ⟨⟨b2, b2b⟩, hw⟩ := hw
          refine g_iastore C dX14_layWays_58 kdR_31 b2 b2b (fun z => z) ?_
          refine g_heap (fun h2 eh2 => ?_)
          replace hw := hw h2 eh2
          refine g_iincN C dX14_layWays_59 rfl (by decide) (fun x1 ex1 => ?_)
          replace hw := hw x1 ex1
          refine g_goto C 10 dX14_layWays_62 rfl ?_
          exact g_sub [1, 2, 0] rfl (hQ _ hw)
        · refine g_aload_n C dX14_layWays_31 rfl (by decide) rfl ?_
          refine g_iload_n C dX14_layWays_32 rfl rfl ?_
          refine g_callVz C [(0, v1)] (sim_X14_isWater hw) k_1561 k_1563 k_71 k_147 k_1564 hdV_X14_isWater rfl rfl (by decide) rfl kdR_0 rfl rfl rfl dX14_layWays_33 ?_
          intro x2 h3 zb33 hw
          refine g_if_eq C 43 dX14_layWays_36 rfl hw (fun hw => ?_) (fun hw => ?_)
          · refine g_sipush C ⟨by decide, by decide⟩ (by decide) dX14_layWays_43 ?_
            obtain ⟨⟨b3, b3b⟩, hw⟩ := hw
            refine g_iastore C dX14_layWays_46 kdR_30 b3 b3b (fun z => z) ?_
            refine g_heap (fun h4 eh4 => ?_)
            replace hw := hw h4 eh4
            refine g_aload_n C dX14_layWays_47 rfl (by decide) rfl ?_
            refine gw_X14_106 C dX14_layWays_48 kdR_0 wwR_0_75 ?_
            refine g_bipush C ⟨by decide, by decide⟩ (by decide) dX14_layWays_51 ?_
            refine g_iload_n C dX14_layWays_53 rfl rfl ?_
            refine g_imul C dX14_layWays_54 ?_
            refine g_iload_n C dX14_layWays_55 rfl rfl ?_
            refine g_iadd C dX14_layWays_56 ?_
            refine g_iconst C ⟨by decide, by decide⟩ dX14_layWays_57 ?_
            obtain ⟨⟨b4, b4b⟩, hw⟩ := hw
            refine g_iastore C dX14_layWays_58 kdR_31 b4 b4b (fun z => z) ?_
            refine g_heap (fun h5 eh5 => ?_)
            replace hw := hw h5 eh5
            refine g_iincN C dX14_layWays_59 rfl (by decide) (fun x3 ex3 => ?_)
            replace hw := hw x3 ex3
            refine g_goto C 10 dX14_layWays_62 rfl ?_
            exact g_sub [1, 2, 0] rfl (hQ _ hw)
          · refine g_iconst C ⟨by decide, by decide⟩ dX14_layWays_39 ?_
            refine g_goto C 46 dX14_layWays_40 rfl ?_
            obtain ⟨⟨b5, b5b⟩, hw⟩ := hw
            refine g_iastore C dX14_layWays_46 kdR_30 b5 b5b (fun z => z) ?_
            refine g_heap (fun h6 eh6 => ?_)
            replace hw := hw h6 eh6
            refine g_aload_n C dX14_layWays_47 rfl (by decide) rfl ?_
            refine gw_X14_106 C dX14_layWays_48 kdR_0 wwR_0_75 ?_
            refine g_bipush C ⟨by decide, by decide⟩ (by decide) dX14_layWays_51 ?_
            refine g_iload_n C dX14_layWays_53 rfl rfl ?_
            refine g_imul C dX14_layWays_54 ?_
            refine g_iload_n C dX14_layWays_55 rfl rfl ?_
            refine g_iadd C dX14_layWays_56 ?_
            refine g_iconst C ⟨by decide, by decide⟩ dX14_layWays_57 ?_
            obtain ⟨⟨b6, b6b⟩, hw⟩ := hw
            refine g_iastore C dX14_layWays_58 kdR_31 b6 b6b (fun z => z) ?_
            refine g_heap (fun h7 eh7 => ?_)
            replace hw := hw h7 eh7
            refine g_iincN C dX14_layWays_59 rfl (by decide) (fun x4 ex4 => ?_)
            replace hw := hw x4 ex4
            refine g_goto C 10 dX14_layWays_62 rfl ?_
            exact g_sub [1, 2, 0] rfl (hQ _ hw)
    · show mG (XR z) p l e { frames := 3, cells := 0, slots := 0, locals := 62 } s m args below meth c 3 (mMQ (XR z) (mKv K) below args s) 67 [(1, (0, v1)), (2, (0, v2)), (0, (2, 0))] [] h
      unfold B_X14_layWays_67 at hw
      refine g_iload_n C dX14_layWays_67 rfl rfl ?_
      refine g_bipush C ⟨by decide, by decide⟩ (by decide) dX14_layWays_68 ?_
      refine g_icmp_ge C 93 dX14_layWays_70 rfl hw (fun hw => ?_) (fun hw => ?_)
      · refine g_iincN C dX14_layWays_93 rfl (by decide) (fun x1 ex1 => ?_)
        replace hw := hw x1 ex1
        refine g_goto C 2 dX14_layWays_96 rfl ?_
        exact g_sub [1, 0] rfl (hQ _ hw)
      · refine g_aload_n C dX14_layWays_73 rfl (by decide) rfl ?_
        refine g_iload_n C dX14_layWays_74 rfl rfl ?_
        refine g_callVz C [(0, v1)] (sim_X14_isWater hw) k_1561 k_1563 k_71 k_147 k_1564 hdV_X14_isWater rfl rfl (by decide) rfl kdR_0 rfl rfl rfl dX14_layWays_75 ?_
        intro x2 h1 zb75 hw
        refine g_if_eq C 93 dX14_layWays_78 rfl hw (fun hw => ?_) (fun hw => ?_)
        · refine g_iincN C dX14_layWays_93 rfl (by decide) (fun x3 ex3 => ?_)
          replace hw := hw x3 ex3
          refine g_goto C 2 dX14_layWays_96 rfl ?_
          exact g_sub [1, 0] rfl (hQ _ hw)
        · refine g_aload_n C dX14_layWays_81 rfl (by decide) rfl ?_
          refine g_iload_n C dX14_layWays_82 rfl rfl ?_
          refine g_iload_n C dX14_layWays_83 rfl rfl ?_
          refine g_callVv C [(0, v1), (0, v2)] (sim_X14_layFar hw) k_1573 k_1575 k_74 k_147 k_1576 hdV_X14_layFar rfl rfl (by decide) rfl kdR_0 rfl rfl rfl dX14_layWays_84 ?_
          intro h2 hw
          refine g_iincN C dX14_layWays_87 rfl (by decide) (fun x4 ex4 => ?_)
          replace hw := hw x4 ex4
          refine g_goto C 67 dX14_layWays_90 rfl ?_
          exact g_sub [1, 2, 0] rfl (hQ _ hw)
  show mG _ p l e _ s m args below meth c _ _ 0 [(0, (2, 0))] [] h
  unfold wp_X14_layWays at hw
  refine g_iconst C ⟨by decide, by decide⟩ dX14_layWays_0 ?_
  refine g_istore_n C dX14_layWays_1 rfl (by decide) ?_
  exact g_sub [1, 0] rfl (hQ _ hw)
