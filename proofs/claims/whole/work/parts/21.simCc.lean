set_option maxRecDepth 20000 in
set_option maxHeartbeats 4000000 in
theorem sim_X6_freshenWays {z : Mz} {l : Launch} {h : Mh} {K : Mh → Prop} (hw : wp_X6_freshenWays h K) : mCal (XC z) l yX6_freshenWays cX6_freshenWays 2 none 3 73 [(2, 115)] h (mKv K) := by
  refine m_entry RX6 rfl (by decide) rfl (fun p e s m args below meth c C hr => ?_)
  have hQ : ∀ x, Lfp (F_X6_freshenWays K) x → (match x.1, x.2.1 with | 25, [v1] => mG (XC z) p l e { frames := 3, cells := 0, slots := 0, locals := 73 } s m args below meth c 2 (mMQ (XC z) (mKv K) below args s) 25 [(1, (0, v1)), (0, (2, 115))] [] x.2.2 | _, _ => True) := by
    intro x hx
    refine Lfp.ind (fun x => (match x.1, x.2.1 with | 25, [v1] => mG (XC z) p l e { frames := 3, cells := 0, slots := 0, locals := 73 } s m args below meth c 2 (mMQ (XC z) (mKv K) below args s) 25 [(1, (0, v1)), (0, (2, 115))] [] x.2.2 | _, _ => True)) ?_ hx
    clear hx x
    intro Z x hQ hw
    rcases hw with ⟨v1, h, rfl, hw⟩
    · show mG (XC z) p l e { frames := 3, cells := 0, slots := 0, locals := 73 } s m args below meth c 2 (mMQ (XC z) (mKv K) below args s) 25 [(1, (0, v1)), (0, (2, 115))] [] h
      unfold B_X6_freshenWays_25 at hw
      refine g_iload_n C dX6_freshenWays_25 rfl rfl ?_
      refine g_aload_n C dX6_freshenWays_26 rfl (by decide) rfl ?_
      refine gw_X6_39 C dX6_freshenWays_27 kdC_115 wwC_115_0 ?_
      refine gf_X6_52 C dX6_freshenWays_30 kdC_53 (fun z30 => ?_)
      obtain ⟨q1, hw⟩ := hw
      refine g_callVi C [] (sim_X5_cells wirC q1 hw) k_1030 k_1031 k_1032 k_135 k_1033 hdV_X5_cells rfl rfl (by decide) rfl q1 rfl rfl rfl dX6_freshenWays_33 ?_
      intro x1 h1 hw
      refine g_icmp_ge C 56 dX6_freshenWays_36 rfl hw (fun hw => ?_) (fun hw => ?_)
      · exact g_vret C hr dX6_freshenWays_56 ⟨rfl, hw⟩
      · refine g_iload_n C dX6_freshenWays_39 rfl rfl ?_
        refine g_bipush C ⟨by decide, by decide⟩ (by decide) dX6_freshenWays_40 ?_
        refine g_icmp_ge C 56 dX6_freshenWays_42 rfl hw (fun hw => ?_) (fun hw => ?_)
        · exact g_vret C hr dX6_freshenWays_56 ⟨rfl, hw⟩
        · refine g_aload_n C dX6_freshenWays_45 rfl (by decide) rfl ?_
          refine g_iload_n C dX6_freshenWays_46 rfl rfl ?_
          refine g_callVv C [(0, v1)] (sim_X6_spread hw) k_1034 k_1036 k_39 k_144 k_1037 hdV_X6_spread rfl rfl (by decide) rfl kdC_115 rfl rfl rfl dX6_freshenWays_47 ?_
          intro h2 hw
          refine g_iincN C dX6_freshenWays_50 rfl (by decide) (fun x2 ex2 => ?_)
          replace hw := hw x2 ex2
          refine g_goto C 25 dX6_freshenWays_53 rfl ?_
          exact g_sub [1, 0] rfl (hQ _ hw)
  show mG _ p l e _ s m args below meth c _ _ 0 [(0, (2, 115))] [] h
  unfold wp_X6_freshenWays at hw
  refine g_aload_n C dX6_freshenWays_0 rfl (by decide) rfl ?_
  refine gw_X6_39 C dX6_freshenWays_1 kdC_115 wwC_115_0 ?_
  refine gf_X6_43 C dX6_freshenWays_4 kdC_53 (fun z4 => ?_)
  refine g_if_ne C 11 dX6_freshenWays_7 rfl hw (fun hw => ?_) (fun hw => ?_)
  · refine g_aload_n C dX6_freshenWays_11 rfl (by decide) rfl ?_
    refine gw_X6_39 C dX6_freshenWays_12 kdC_115 wwC_115_0 ?_
    refine g_iconst C ⟨by decide, by decide⟩ dX6_freshenWays_15 ?_
    refine gp_X6_43 C dX6_freshenWays_16 kdC_53 (fun _ => (Or.inl rfl)) ?_
    refine g_heap (fun h1 eh1 => ?_)
    replace hw := hw h1 eh1
    refine g_aload_n C dX6_freshenWays_19 rfl (by decide) rfl ?_
    refine g_callVv C [] (sim_X6_layNeighbours hw) k_1021 k_1023 k_37 k_144 k_1024 hdV_X6_layNeighbours rfl rfl (by decide) rfl kdC_115 rfl rfl rfl dX6_freshenWays_20 ?_
    intro h2 hw
    refine g_iconst C ⟨by decide, by decide⟩ dX6_freshenWays_23 ?_
    refine g_istore_n C dX6_freshenWays_24 rfl (by decide) ?_
    exact g_sub [1, 0] rfl (hQ _ hw)
  · exact g_vret C hr dX6_freshenWays_10 ⟨rfl, hw⟩
set_option maxRecDepth 20000 in
set_option maxHeartbeats 4000000 in
theorem sim_X13_apart {z : Mz} {l : Launch} {p1 : Int} {p2 : Int} {p3 : Int} {h : Mh} {K : Int → Mh → Prop} (hw : wp_X13_apart p1 p2 p3 h K) : mCal (XC z) l yX13_apart cX13_apart 5 (some Jvm.ClassFile.FieldType.int) 6 153 [(2, 0), (0, p1), (0, p2), (1, p3)] h (mKi K) := by
  refine m_entry RX13 rfl (by decide) rfl (fun p e s m args below meth c C hr => ?_)
  show mG _ p l e _ s m args below meth c _ _ 0 [(0, (2, 0)), (1, (0, p1)), (2, (0, p2)), (3, (1, p3))] [] h
  unfold wp_X13_apart at hw
  refine g_aload_n C dX13_apart_0 rfl (by decide) rfl ?_
  refine gw_X13_52 C dX13_apart_1 kdC_0 wwC_0_6 ?_
  refine g_callVv C [] (sim_X6_freshenWays hw) k_1017 k_1018 k_1019 k_144 k_1020 hdV_X6_freshenWays rfl rfl (by decide) rfl kdC_115 rfl rfl rfl dX13_apart_4 ?_
  intro h1 hw
  refine g_aload_n C dX13_apart_7 rfl (by decide) rfl ?_
  refine gw_X13_70 C dX13_apart_8 kdC_0 wwC_0_8 ?_
  refine g_iload_n C dX13_apart_11 rfl rfl ?_
  refine g_iload_n C dX13_apart_12 rfl rfl ?_
  refine g_lload_n C dX13_apart_13 rfl rfl ?_
  refine g_callVi C [(0, p1), (0, p2), (1, p3)] (sim_X2_fewestCorks hw) k_1347 k_1348 k_1349 k_146 k_1350 hdV_X2_fewestCorks rfl rfl (by decide) rfl kdC_127 rfl rfl rfl dX13_apart_14 ?_
  intro x1 h2 hw
  exact g_iret C hr dX13_apart_17 ⟨_, rfl, hw⟩
set_option maxRecDepth 20000 in
set_option maxHeartbeats 4000000 in
theorem sim_X13_back {z : Mz} {l : Launch} {h : Mh} {K : Int → Mh → Prop} (hw : wp_X13_back h K) : mCal (XC z) l yX13_back cX13_back 1 (some Jvm.ClassFile.FieldType.int) 3 65 [(2, 0)] h (mKi K) := by
  refine m_entry RX13 rfl (by decide) rfl (fun p e s m args below meth c C hr => ?_)
  show mG _ p l e _ s m args below meth c _ _ 0 [(0, (2, 0))] [] h
  unfold wp_X13_back at hw
  refine g_aload_n C dX13_back_0 rfl (by decide) rfl ?_
  refine gw_X13_36 C dX13_back_1 kdC_0 wwC_0_4 ?_
  refine g_callVi C [] (sim_X11_takeImage hw) k_1438 k_1439 k_1440 k_142 k_1441 hdV_X11_takeImage rfl rfl (by decide) rfl kdC_53 rfl rfl rfl dX13_back_4 ?_
  intro x1 h1 hw
  exact g_iret C hr dX13_back_7 ⟨_, rfl, hw⟩
set_option maxRecDepth 20000 in
set_option maxHeartbeats 4000000 in
theorem sim_X13_cell {z : Mz} {l : Launch} {p1 : Int} {p2 : Int} {h : Mh} {K : Int → Mh → Prop} (hw : wp_X13_cell p1 p2 h K) : mCal (XC z) l yX13_cell cX13_cell 3 (some Jvm.ClassFile.FieldType.int) 1 23 [(2, 0), (0, p1), (0, p2)] h (mKi K) := by
  refine m_entry RX13 rfl (by decide) rfl (fun p e s m args below meth c C hr => ?_)
  show mG _ p l e _ s m args below meth c _ _ 0 [(0, (2, 0)), (1, (0, p1)), (2, (0, p2))] [] h
  unfold wp_X13_cell at hw
  refine g_aload_n C dX13_cell_0 rfl (by decide) rfl ?_
  refine gw_X13_36 C dX13_cell_1 kdC_0 wwC_0_4 ?_
  refine gf_X13_86 C dX13_cell_4 kdC_53 (fun z4 => ?_)
  refine g_iload_n C dX13_cell_7 rfl rfl ?_
  obtain ⟨q1, hw⟩ := hw
  refine g_callVz C [(0, p1)] (sim_X5_isCell wirC q1 hw) k_989 k_990 k_991 k_135 k_992 hdV_X5_isCell rfl rfl (by decide) rfl q1 rfl rfl rfl dX13_cell_8 ?_
  intro x1 h1 zb8 hw
  refine g_if_ne C 16 dX13_cell_11 rfl hw (fun hw => ?_) (fun hw => ?_)
  · refine g_iload_n C dX13_cell_16 rfl rfl ?_
    by_cases c0 : p2 = 0
    · rw [if_pos c0] at hw
      refine g_tabIn C 48 0 dX13_cell_17 c0 (by decide) (by decide) rfl rfl ?_
      refine g_aload_n C dX13_cell_48 rfl (by decide) rfl ?_
      refine gw_X13_36 C dX13_cell_49 kdC_0 wwC_0_4 ?_
      refine gf_X13_86 C dX13_cell_52 kdC_53 (fun z52 => ?_)
      refine g_iload_n C dX13_cell_55 rfl rfl ?_
      obtain ⟨q2, hw⟩ := hw
      refine g_callVz C [(0, p1)] (sim_X5_isWet wirC q2 hw) k_993 k_994 k_995 k_135 k_996 hdV_X5_isWet rfl rfl (by decide) rfl q2 rfl rfl rfl dX13_cell_56 ?_
      intro x2 h2 zb56 hw
      refine g_if_eq C 81 dX13_cell_59 rfl hw (fun hw => ?_) (fun hw => ?_)
      · refine g_iconst C ⟨by decide, by decide⟩ dX13_cell_81 ?_
        exact g_iret C hr dX13_cell_82 ⟨_, rfl, hw⟩
      · refine g_aload_n C dX13_cell_62 rfl (by decide) rfl ?_
        refine gw_X13_36 C dX13_cell_63 kdC_0 wwC_0_4 ?_
        refine g_iload_n C dX13_cell_66 rfl rfl ?_
        refine g_callVz C [(0, p1)] (sim_X11_hasReeds hw) k_997 k_998 k_999 k_142 k_1000 hdV_X11_hasReeds rfl rfl (by decide) rfl kdC_53 rfl rfl rfl dX13_cell_67 ?_
        intro x3 h3 zb67 hw
        refine g_if_eq C 77 dX13_cell_70 rfl hw (fun hw => ?_) (fun hw => ?_)
        · refine g_iconst C ⟨by decide, by decide⟩ dX13_cell_77 ?_
          refine g_goto C 82 dX13_cell_78 rfl ?_
          exact g_iret C hr dX13_cell_82 ⟨_, rfl, hw⟩
        · refine g_iconst C ⟨by decide, by decide⟩ dX13_cell_73 ?_
          refine g_goto C 82 dX13_cell_74 rfl ?_
          exact g_iret C hr dX13_cell_82 ⟨_, rfl, hw⟩
    rw [if_neg c0] at hw
    by_cases c1 : p2 = 1
    · rw [if_pos c1] at hw
      refine g_tabIn C 83 1 dX13_cell_17 c1 (by decide) (by decide) rfl rfl ?_
      refine g_aload_n C dX13_cell_83 rfl (by decide) rfl ?_
      refine gw_X13_36 C dX13_cell_84 kdC_0 wwC_0_4 ?_
      refine gf_X13_86 C dX13_cell_87 kdC_53 (fun z87 => ?_)
      obtain ⟨q3, hw⟩ := hw
      refine gw_X13_161 C dX13_cell_90 q3 (wir_4_4 wirC q3) ?_
      refine g_iload_n C dX13_cell_93 rfl rfl ?_
      refine g_callVi C [(0, p1)] (sim_X7_indexOf wirC (kid_4_4 wirC q3) hw) k_984 k_855 k_856 k_136 k_857 hdV_X7_indexOf rfl rfl (by decide) rfl (kid_4_4 wirC q3) rfl rfl rfl dX13_cell_94 ?_
      intro x4 h4 hw
      refine g_if_lt C 104 dX13_cell_97 rfl hw (fun hw => ?_) (fun hw => ?_)
      · refine g_iconst C ⟨by decide, by decide⟩ dX13_cell_104 ?_
        exact g_iret C hr dX13_cell_105 ⟨_, rfl, hw⟩
      · refine g_iconst C ⟨by decide, by decide⟩ dX13_cell_100 ?_
        refine g_goto C 105 dX13_cell_101 rfl ?_
        exact g_iret C hr dX13_cell_105 ⟨_, rfl, hw⟩
    rw [if_neg c1] at hw
    by_cases c2 : p2 = 2
    · rw [if_pos c2] at hw
      refine g_tabIn C 106 2 dX13_cell_17 c2 (by decide) (by decide) rfl rfl ?_
      refine g_aload_n C dX13_cell_106 rfl (by decide) rfl ?_
      refine gw_X13_36 C dX13_cell_107 kdC_0 wwC_0_4 ?_
      refine gf_X13_86 C dX13_cell_110 kdC_53 (fun z110 => ?_)
      obtain ⟨q4, hw⟩ := hw
      refine gw_X13_164 C dX13_cell_113 q4 (wir_4_11 wirC q4) ?_
      refine g_iload_n C dX13_cell_116 rfl rfl ?_
      refine g_callVi C [(0, p1)] (sim_X7_indexOf wirC (kid_4_11 wirC q4) hw) k_984 k_855 k_856 k_136 k_857 hdV_X7_indexOf rfl rfl (by decide) rfl (kid_4_11 wirC q4) rfl rfl rfl dX13_cell_117 ?_
      intro x5 h5 hw
      exact g_iret C hr dX13_cell_120 ⟨_, rfl, hw⟩
    rw [if_neg c2] at hw
    by_cases c3 : p2 = 3
    · rw [if_pos c3] at hw
      refine g_tabIn C 121 3 dX13_cell_17 c3 (by decide) (by decide) rfl rfl ?_
      refine g_aload_n C dX13_cell_121 rfl (by decide) rfl ?_
      refine gw_X13_36 C dX13_cell_122 kdC_0 wwC_0_4 ?_
      refine gw_X13_167 C dX13_cell_125 kdC_53 wwC_53_2 ?_
      refine g_iload_n C dX13_cell_128 rfl rfl ?_
      refine g_callVi C [(0, p1)] (sim_X1_inCell wirC kdC_98 hw) k_1001 k_1002 k_1003 k_138 k_1004 hdV_X1_inCell rfl rfl (by decide) rfl kdC_98 rfl rfl rfl dX13_cell_129 ?_
      intro x6 h6 hw
      exact g_iret C hr dX13_cell_132 ⟨_, rfl, hw⟩
    rw [if_neg c3] at hw
    refine g_tabOut C 133 dX13_cell_17 (by omega) rfl ?_
    refine g_iconst C ⟨by decide, by decide⟩ dX13_cell_133 ?_
    exact g_iret C hr dX13_cell_134 ⟨_, rfl, hw⟩
  · refine g_iconst C ⟨by decide, by decide⟩ dX13_cell_14 ?_
    exact g_iret C hr dX13_cell_15 ⟨_, rfl, hw⟩
set_option maxRecDepth 20000 in
set_option maxHeartbeats 4000000 in
theorem sim_X13_isStep {z : Mz} {l : Launch} {p0 : Int} {p1 : Int} {h : Mh} {K : Int → Mh → Prop} (hw : wp_X13_isStep p0 p1 h K) : mCal (XC z) l yX13_isStep cX13_isStep 2 (some Jvm.ClassFile.FieldType.boolean) 0 0 [(0, p0), (0, p1)] h (mKz K) := by
  refine m_entry RX13 rfl (by decide) rfl (fun p e s m args below meth c C hr => ?_)
  show mG _ p l e _ s m args below meth c _ _ 0 [(0, (0, p0)), (1, (0, p1))] [] h
  unfold wp_X13_isStep at hw
  refine g_iload_n C dX13_isStep_0 rfl rfl ?_
  refine g_if_lt C 13 dX13_isStep_1 rfl hw (fun hw => ?_) (fun hw => ?_)
  · refine g_iconst C ⟨by decide, by decide⟩ dX13_isStep_13 ?_
    exact g_zret C hr (Or.inl rfl) dX13_isStep_14 ⟨_, rfl, (Or.inl rfl), hw⟩
  · refine g_iload_n C dX13_isStep_4 rfl rfl ?_
    refine g_iload_n C dX13_isStep_5 rfl rfl ?_
    refine g_icmp_gt C 13 dX13_isStep_6 rfl hw (fun hw => ?_) (fun hw => ?_)
    · refine g_iconst C ⟨by decide, by decide⟩ dX13_isStep_13 ?_
      exact g_zret C hr (Or.inl rfl) dX13_isStep_14 ⟨_, rfl, (Or.inl rfl), hw⟩
    · refine g_iconst C ⟨by decide, by decide⟩ dX13_isStep_9 ?_
      refine g_goto C 14 dX13_isStep_10 rfl ?_
      exact g_zret C hr (Or.inr rfl) dX13_isStep_14 ⟨_, rfl, (Or.inr rfl), hw⟩
set_option maxRecDepth 20000 in
set_option maxHeartbeats 4000000 in
theorem sim_X2_drawNumber {z : Mz} {l : Launch} {p1 : Int} {h : Mh} {K : Int → Mh → Prop} (hw : wp_X2_drawNumber p1 h K) : mCal (XC z) l yX2_drawNumber cX2_drawNumber 2 (some Jvm.ClassFile.FieldType.int) 0 0 [(2, 127), (0, p1)] h (mKi K) := by
  refine m_entry RX2 rfl (by decide) rfl (fun p e s m args below meth c C hr => ?_)
  show mG _ p l e _ s m args below meth c _ _ 0 [(0, (2, 127)), (1, (0, p1))] [] h
  unfold wp_X2_drawNumber at hw
  refine g_aload_n C dX2_drawNumber_0 rfl (by decide) rfl ?_
  refine g_aload_n C dX2_drawNumber_1 rfl (by decide) rfl ?_
  refine gf_X2_196 C dX2_drawNumber_2 kdC_127 (fun z2 => ?_)
  refine g_ldc2 C ⟨by decide, by decide⟩ k_1422 dX2_drawNumber_5 ?_
  refine g_lmul C dX2_drawNumber_8 ?_
  refine g_ldc2 C ⟨by decide, by decide⟩ k_1423 dX2_drawNumber_9 ?_
  refine g_ladd C dX2_drawNumber_12 ?_
  refine g_ldc2 C ⟨by decide, by decide⟩ k_1424 dX2_drawNumber_13 ?_
  refine g_land C dX2_drawNumber_16 ?_
  refine gp_X2_196 C dX2_drawNumber_17 kdC_127 (fun z => z) ?_
  refine g_heap (fun h1 eh1 => ?_)
  replace hw := hw h1 eh1
  refine g_iload_n C dX2_drawNumber_20 rfl rfl ?_
  refine g_if_le C 39 dX2_drawNumber_21 rfl hw (fun hw => ?_) (fun hw => ?_)
  · refine g_iconst C ⟨by decide, by decide⟩ dX2_drawNumber_39 ?_
    exact g_iret C hr dX2_drawNumber_40 ⟨_, rfl, hw⟩
  · refine g_aload_n C dX2_drawNumber_24 rfl (by decide) rfl ?_
    refine gf_X2_196 C dX2_drawNumber_25 kdC_127 (fun z25 => ?_)
    refine g_ldc2 C ⟨by decide, by decide⟩ k_1425 dX2_drawNumber_28 ?_
    refine g_ldiv C (by decide) dX2_drawNumber_31 ?_
    refine g_iload_n C dX2_drawNumber_32 rfl rfl ?_
    refine g_i2l C dX2_drawNumber_33 ?_
    obtain ⟨z0, hw⟩ := hw
    refine g_lrem C z0 dX2_drawNumber_34 ?_
    refine g_l2i C dX2_drawNumber_35 ?_
    refine g_goto C 40 dX2_drawNumber_36 rfl ?_
    exact g_iret C hr dX2_drawNumber_40 ⟨_, rfl, hw⟩
set_option maxRecDepth 20000 in
set_option maxHeartbeats 4000000 in
theorem sim_X2_drawnRise {z : Mz} {l : Launch} {p1 : Int} {p2 : Int} {p3 : Int} {h : Mh} {K : Int → Mh → Prop} (hw : wp_X2_drawnRise p1 p2 p3 h K) : mCal (XC z) l yX2_drawnRise cX2_drawnRise 6 (some Jvm.ClassFile.FieldType.int) 3 78 [(2, 127), (0, p1), (0, p2), (0, p3)] h (mKi K) := by
  refine m_entry RX2 rfl (by decide) rfl (fun p e s m args below meth c C hr => ?_)
  show mG _ p l e _ s m args below meth c _ _ 0 [(0, (2, 127)), (1, (0, p1)), (2, (0, p2)), (3, (0, p3))] [] h
  unfold wp_X2_drawnRise at hw
  refine g_aload_n C dX2_drawnRise_0 rfl (by decide) rfl ?_
  refine g_aload_n C dX2_drawnRise_1 rfl (by decide) rfl ?_
  refine gw_X2_33 C dX2_drawnRise_2 kdC_127 wwC_127_0 ?_
  refine gf_X2_54 C dX2_drawnRise_5 kdC_53 (fun z5 => ?_)
  obtain ⟨q1, hw⟩ := hw
  refine g_callVi C [] (sim_X5_cells wirC q1 hw) k_1300 k_1031 k_1032 k_135 k_1033 hdV_X5_cells rfl rfl (by decide) rfl q1 rfl rfl rfl dX2_drawnRise_8 ?_
  intro x1 h1 hw
  refine g_callVi C [(0, x1)] (sim_X2_drawNumber hw) k_1418 k_1420 k_66 k_146 k_1421 hdV_X2_drawNumber rfl rfl (by decide) rfl kdC_127 rfl rfl rfl dX2_drawnRise_11 ?_
  intro x2 h2 hw
  refine g_istore C dX2_drawnRise_14 (by decide) ?_
  refine g_aload_n C dX2_drawnRise_16 rfl (by decide) rfl ?_
  refine gw_X2_33 C dX2_drawnRise_17 kdC_127 wwC_127_0 ?_
  refine gf_X2_54 C dX2_drawnRise_20 kdC_53 (fun z20 => ?_)
  refine g_iload C dX2_drawnRise_23 rfl ?_
  obtain ⟨q2, hw⟩ := hw
  refine g_callVz C [(0, x2)] (sim_X5_isWet wirC q2 hw) k_1301 k_994 k_995 k_135 k_996 hdV_X5_isWet rfl rfl (by decide) rfl q2 rfl rfl rfl dX2_drawnRise_25 ?_
  intro x3 h3 zb25 hw
  refine g_if_ne C 33 dX2_drawnRise_28 rfl hw (fun hw => ?_) (fun hw => ?_)
  · refine g_iload_n C dX2_drawnRise_33 rfl rfl ?_
    refine g_aload_n C dX2_drawnRise_34 rfl (by decide) rfl ?_
    refine g_bipush C ⟨by decide, by decide⟩ (by decide) dX2_drawnRise_35 ?_
    refine g_callVi C [(0, 16)] (sim_X2_drawNumber hw) k_1418 k_1420 k_66 k_146 k_1421 hdV_X2_drawNumber rfl rfl (by decide) rfl kdC_127 rfl rfl rfl dX2_drawnRise_37 ?_
    intro x4 h4 hw
    refine g_isub C dX2_drawnRise_40 ?_
    refine g_topi (fun x5 ex5 => ?_)
    replace hw := hw x5 ex5
    refine g_istore C dX2_drawnRise_41 (by decide) ?_
    refine g_aload_n C dX2_drawnRise_43 rfl (by decide) rfl ?_
    refine gw_X2_37 C dX2_drawnRise_44 kdC_127 wwC_127_1 ?_
    refine g_iload_n C dX2_drawnRise_47 rfl rfl ?_
    refine g_iload C dX2_drawnRise_48 rfl ?_
    refine g_iload_n C dX2_drawnRise_50 rfl rfl ?_
    refine g_iload C dX2_drawnRise_51 rfl ?_
    refine g_aload_n C dX2_drawnRise_53 rfl (by decide) rfl ?_
    refine gw_X2_33 C dX2_drawnRise_54 kdC_127 wwC_127_0 ?_
    refine gf_X2_54 C dX2_drawnRise_57 kdC_53 (fun z57 => ?_)
    obtain ⟨q3, hw⟩ := hw
    refine gw_X2_118 C dX2_drawnRise_60 q3 (wir_4_4 wirC q3) ?_
    refine g_callVi C [(0, p1), (0, x2), (0, p2), (0, x5), (2, ((h4 53 0) + 1))] (sim_X6_alone hw) k_1308 k_1309 k_1310 k_144 k_1311 hdV_X6_alone rfl rfl (by decide) rfl kdC_115 rfl rfl rfl dX2_drawnRise_63 ?_
    intro x6 h5 hw
    exact g_iret C hr dX2_drawnRise_66 ⟨_, rfl, hw⟩
  · refine g_iconst C ⟨by decide, by decide⟩ dX2_drawnRise_31 ?_
    exact g_iret C hr dX2_drawnRise_32 ⟨_, rfl, hw⟩
set_option maxRecDepth 20000 in
set_option maxHeartbeats 4000000 in
theorem sim_X2_drawsAbove {z : Mz} {l : Launch} {p1 : Int} {p2 : Int} {p3 : Int} {p4 : Int} {p5 : Int} {h : Mh} {K : Int → Mh → Prop} (hw : wp_X2_drawsAbove p1 p2 p3 p4 p5 h K) : mCal (XC z) l yX2_drawsAbove cX2_drawsAbove 11 (some Jvm.ClassFile.FieldType.int) 4 103 [(2, 127), (0, p1), (0, p2), (0, p3), (0, p4), (0, p5)] h (mKi K) := by
  refine m_entry RX2 rfl (by decide) rfl (fun p e s m args below meth c C hr => ?_)
  have hQ : ∀ x, Lfp (F_X2_drawsAbove p1 p2 p3 p4 p5 K) x → (match x.1, x.2.1 with | 29, [v6, v7, v8] => mG (XC z) p l e { frames := 4, cells := 0, slots := 0, locals := 103 } s m args below meth c 11 (mMQ (XC z) (mKi K) below args s) 29 [(6, (0, v6)), (7, (0, v7)), (8, (0, v8)), (0, (2, 127)), (1, (0, p1)), (2, (0, p2)), (3, (0, p3)), (4, (0, p4)), (5, (0, p5))] [] x.2.2 | 42, [v6, v7, v8, v9, v10] => mG (XC z) p l e { frames := 4, cells := 0, slots := 0, locals := 103 } s m args below meth c 11 (mMQ (XC z) (mKi K) below args s) 42 [(6, (0, v6)), (7, (0, v7)), (8, (0, v8)), (9, (0, v9)), (10, (0, v10)), (0, (2, 127)), (1, (0, p1)), (2, (0, p2)), (3, (0, p3)), (4, (0, p4)), (5, (0, p5))] [] x.2.2 | _, _ => True) := by
    intro x hx
    refine Lfp.ind (fun x => (match x.1, x.2.1 with | 29, [v6, v7, v8] => mG (XC z) p l e { frames := 4, cells := 0, slots := 0, locals := 103 } s m args below meth c 11 (mMQ (XC z) (mKi K) below args s) 29 [(6, (0, v6)), (7, (0, v7)), (8, (0, v8)), (0, (2, 127)), (1, (0, p1)), (2, (0, p2)), (3, (0, p3)), (4, (0, p4)), (5, (0, p5))] [] x.2.2 | 42, [v6, v7, v8, v9, v10] => mG (XC z) p l e { frames := 4, cells := 0, slots := 0, locals := 103 } s m args below meth c 11 (mMQ (XC z) (mKi K) below args s) 42 [(6, (0, v6)), (7, (0, v7)), (8, (0, v8)), (9, (0, v9)), (10, (0, v10)), (0, (2, 127)), (1, (0, p1)), (2, (0, p2)), (3, (0, p3)), (4, (0, p4)), (5, (0, p5))] [] x.2.2 | _, _ => True)) ?_ hx
    clear hx x
    intro Z x hQ hw
    rcases hw with ⟨v6, v7, v8, h, rfl, hw⟩ | ⟨v6, v7, v8, v9, v10, h, rfl, hw⟩
    · show mG (XC z) p l e { frames := 4, cells := 0, slots := 0, locals := 103 } s m args below meth c 11 (mMQ (XC z) (mKi K) below args s) 29 [(6, (0, v6)), (7, (0, v7)), (8, (0, v8)), (0, (2, 127)), (1, (0, p1)), (2, (0, p2)), (3, (0, p3)), (4, (0, p4)), (5, (0, p5))] [] h
      unfold B_X2_drawsAbove_29 at hw
      refine g_iload C dX2_drawsAbove_29 rfl ?_
      refine g_bipush C ⟨by decide, by decide⟩ (by decide) dX2_drawsAbove_31 ?_
      refine g_icmp_ge C 82 dX2_drawsAbove_33 rfl hw (fun hw => ?_) (fun hw => ?_)
      · refine g_iload C dX2_drawsAbove_82 rfl ?_
        exact g_iret C hr dX2_drawsAbove_84 ⟨_, rfl, hw⟩
      · refine g_iconst C ⟨by decide, by decide⟩ dX2_drawsAbove_36 ?_
        refine g_istore C dX2_drawsAbove_37 (by decide) ?_
        refine g_iconst C ⟨by decide, by decide⟩ dX2_drawsAbove_39 ?_
        refine g_istore C dX2_drawsAbove_40 (by decide) ?_
        exact g_sub [6, 7, 8, 9, 10, 0, 1, 2, 3, 4, 5] rfl (hQ _ hw)
    · show mG (XC z) p l e { frames := 4, cells := 0, slots := 0, locals := 103 } s m args below meth c 11 (mMQ (XC z) (mKi K) below args s) 42 [(6, (0, v6)), (7, (0, v7)), (8, (0, v8)), (9, (0, v9)), (10, (0, v10)), (0, (2, 127)), (1, (0, p1)), (2, (0, p2)), (3, (0, p3)), (4, (0, p4)), (5, (0, p5))] [] h
      unfold B_X2_drawsAbove_42 at hw
      refine g_iload C dX2_drawsAbove_42 rfl ?_
      refine g_iload_n C dX2_drawsAbove_44 rfl rfl ?_
      refine g_icmp_ge C 68 dX2_drawsAbove_45 rfl hw (fun hw => ?_) (fun hw => ?_)
      · refine g_iload C dX2_drawsAbove_68 rfl ?_
        refine g_if_le C 76 dX2_drawsAbove_70 rfl hw (fun hw => ?_) (fun hw => ?_)
        · refine g_iincN C dX2_drawsAbove_76 rfl (by decide) (fun x1 ex1 => ?_)
          replace hw := hw x1 ex1
          refine g_goto C 29 dX2_drawsAbove_79 rfl ?_
          exact g_sub [6, 7, 8, 0, 1, 2, 3, 4, 5] rfl (hQ _ hw)
        · refine g_iincN C dX2_drawsAbove_73 rfl (by decide) (fun x2 ex2 => ?_)
          replace hw := hw x2 ex2
          refine g_iincN C dX2_drawsAbove_76 rfl (by decide) (fun x3 ex3 => ?_)
          replace hw := hw x3 ex3
          refine g_goto C 29 dX2_drawsAbove_79 rfl ?_
          exact g_sub [6, 7, 8, 0, 1, 2, 3, 4, 5] rfl (hQ _ hw)
      · refine g_iload C dX2_drawsAbove_48 rfl ?_
        refine g_aload_n C dX2_drawsAbove_50 rfl (by decide) rfl ?_
        refine g_iload_n C dX2_drawsAbove_51 rfl rfl ?_
        refine g_iload C dX2_drawsAbove_52 rfl ?_
        refine g_iload C dX2_drawsAbove_54 rfl ?_
        refine g_callVi C [(0, p2), (0, v7), (0, p5)] (sim_X2_drawnRise hw) k_1414 k_1416 k_65 k_146 k_1417 hdV_X2_drawnRise rfl rfl (by decide) rfl kdC_127 rfl rfl rfl dX2_drawsAbove_56 ?_
        intro x4 h1 hw
        refine g_iadd C dX2_drawsAbove_59 ?_
        refine g_topi (fun x5 ex5 => ?_)
        replace hw := hw x5 ex5
        refine g_istore C dX2_drawsAbove_60 (by decide) ?_
        refine g_iincN C dX2_drawsAbove_62 rfl (by decide) (fun x6 ex6 => ?_)
        replace hw := hw x6 ex6
        refine g_goto C 42 dX2_drawsAbove_65 rfl ?_
        exact g_sub [6, 7, 8, 9, 10, 0, 1, 2, 3, 4, 5] rfl (hQ _ hw)
  show mG _ p l e _ s m args below meth c _ _ 0 [(0, (2, 127)), (1, (0, p1)), (2, (0, p2)), (3, (0, p3)), (4, (0, p4)), (5, (0, p5))] [] h
  unfold wp_X2_drawsAbove at hw
  refine g_iconst C ⟨by decide, by decide⟩ dX2_drawsAbove_0 ?_
  refine g_istore C dX2_drawsAbove_1 (by decide) ?_
  refine g_aload_n C dX2_drawsAbove_3 rfl (by decide) rfl ?_
  refine gw_X2_33 C dX2_drawsAbove_4 kdC_127 wwC_127_0 ?_
  refine gf_X2_54 C dX2_drawsAbove_7 kdC_53 (fun z7 => ?_)
  obtain ⟨q1, hw⟩ := hw
  refine gw_X2_109 C dX2_drawsAbove_10 q1 (wir_4_11 wirC q1) ?_
  refine g_iload C dX2_drawsAbove_13 rfl ?_
  refine g_callVi C [(0, p4)] (sim_X7_orZero wirC (kid_4_11 wirC q1) hw) k_1306 k_1080 k_1081 k_136 k_1082 hdV_X7_orZero rfl rfl (by decide) rfl (kid_4_11 wirC q1) rfl rfl rfl dX2_drawsAbove_15 ?_
  intro x1 h1 hw
  refine g_istore C dX2_drawsAbove_18 (by decide) ?_
  refine g_aload_n C dX2_drawsAbove_20 rfl (by decide) rfl ?_
  refine g_iload_n C dX2_drawsAbove_21 rfl rfl ?_
  refine g_i2l C dX2_drawsAbove_22 ?_
  refine gp_X2_196 C dX2_drawsAbove_23 kdC_127 (fun z => z) ?_
  refine g_heap (fun h2 eh2 => ?_)
  replace hw := hw h2 eh2
  refine g_iconst C ⟨by decide, by decide⟩ dX2_drawsAbove_26 ?_
  refine g_istore C dX2_drawsAbove_27 (by decide) ?_
  exact g_sub [6, 7, 8, 0, 1, 2, 3, 4, 5] rfl (hQ _ hw)
set_option maxRecDepth 20000 in
set_option maxHeartbeats 4000000 in
theorem sim_X13_chance {z : Mz} {l : Launch} {p1 : Int} {p2 : Int} {p3 : Int} {p4 : Int} {p5 : Int} {h : Mh} {K : Int → Mh → Prop} (hw : wp_X13_chance p1 p2 p3 p4 p5 h K) : mCal (XC z) l yX13_chance cX13_chance 7 (some Jvm.ClassFile.FieldType.int) 5 133 [(2, 0), (0, p1), (0, p2), (0, p3), (0, p4), (0, p5)] h (mKi K) := by
  refine m_entry RX13 rfl (by decide) rfl (fun p e s m args below meth c C hr => ?_)
  have hQ : ∀ x, Lfp (F_X13_chance p1 p2 p3 p4 p5 K) x → (match x.1, x.2.1 with | 39, [] => mG (XC z) p l e { frames := 5, cells := 0, slots := 0, locals := 133 } s m args below meth c 7 (mMQ (XC z) (mKi K) below args s) 39 [(0, (2, 0)), (1, (0, p1)), (2, (0, p2)), (3, (0, p3)), (4, (0, p4)), (5, (0, p5))] [] x.2.2 | 40, [s0] => mG (XC z) p l e { frames := 5, cells := 0, slots := 0, locals := 133 } s m args below meth c 7 (mMQ (XC z) (mKi K) below args s) 40 [(0, (2, 0)), (1, (0, p1)), (2, (0, p2)), (3, (0, p3)), (4, (0, p4)), (5, (0, p5))] [(0, s0)] x.2.2 | _, _ => True) := by
    intro x hx
    refine Lfp.ind (fun x => (match x.1, x.2.1 with | 39, [] => mG (XC z) p l e { frames := 5, cells := 0, slots := 0, locals := 133 } s m args below meth c 7 (mMQ (XC z) (mKi K) below args s) 39 [(0, (2, 0)), (1, (0, p1)), (2, (0, p2)), (3, (0, p3)), (4, (0, p4)), (5, (0, p5))] [] x.2.2 | 40, [s0] => mG (XC z) p l e { frames := 5, cells := 0, slots := 0, locals := 133 } s m args below meth c 7 (mMQ (XC z) (mKi K) below args s) 40 [(0, (2, 0)), (1, (0, p1)), (2, (0, p2)), (3, (0, p3)), (4, (0, p4)), (5, (0, p5))] [(0, s0)] x.2.2 | _, _ => True)) ?_ hx
    clear hx x
    intro Z x hQ hw
    rcases hw with ⟨h, rfl, hw⟩ | ⟨s0, h, rfl, hw⟩
    · show mG (XC z) p l e { frames := 5, cells := 0, slots := 0, locals := 133 } s m args below meth c 7 (mMQ (XC z) (mKi K) below args s) 39 [(0, (2, 0)), (1, (0, p1)), (2, (0, p2)), (3, (0, p3)), (4, (0, p4)), (5, (0, p5))] [] h
      unfold B_X13_chance_39 at hw
      refine g_iconst C ⟨by decide, by decide⟩ dX13_chance_39 ?_
      exact g_sub [0, 1, 2, 3, 4, 5] rfl (hQ _ hw)
    · show mG (XC z) p l e { frames := 5, cells := 0, slots := 0, locals := 133 } s m args below meth c 7 (mMQ (XC z) (mKi K) below args s) 40 [(0, (2, 0)), (1, (0, p1)), (2, (0, p2)), (3, (0, p3)), (4, (0, p4)), (5, (0, p5))] [(0, s0)] h
      unfold B_X13_chance_40 at hw
      refine g_istore C dX13_chance_40 (by decide) ?_
      refine g_iload C dX13_chance_42 rfl ?_
      refine g_if_eq C 72 dX13_chance_44 rfl hw (fun hw => ?_) (fun hw => ?_)
      · refine g_iconst C ⟨by decide, by decide⟩ dX13_chance_72 ?_
        exact g_iret C hr dX13_chance_73 ⟨_, rfl, hw⟩
      · refine g_iload_n C dX13_chance_47 rfl rfl ?_
        refine g_if_lt C 72 dX13_chance_48 rfl hw (fun hw => ?_) (fun hw => ?_)
        · refine g_iconst C ⟨by decide, by decide⟩ dX13_chance_72 ?_
          exact g_iret C hr dX13_chance_73 ⟨_, rfl, hw⟩
        · refine g_iload_n C dX13_chance_51 rfl rfl ?_
          refine g_iconst C ⟨by decide, by decide⟩ dX13_chance_52 ?_
          refine g_icmp_lt C 72 dX13_chance_53 rfl hw (fun hw => ?_) (fun hw => ?_)
          · refine g_iconst C ⟨by decide, by decide⟩ dX13_chance_72 ?_
            exact g_iret C hr dX13_chance_73 ⟨_, rfl, hw⟩
          · refine g_iload_n C dX13_chance_56 rfl rfl ?_
            refine g_bipush C ⟨by decide, by decide⟩ (by decide) dX13_chance_57 ?_
            refine g_icmp_gt C 72 dX13_chance_59 rfl hw (fun hw => ?_) (fun hw => ?_)
            · refine g_iconst C ⟨by decide, by decide⟩ dX13_chance_72 ?_
              exact g_iret C hr dX13_chance_73 ⟨_, rfl, hw⟩
            · refine g_iload C dX13_chance_62 rfl ?_
              refine g_bipush C ⟨by decide, by decide⟩ (by decide) dX13_chance_64 ?_
              refine g_callSz C [(0, p5), (0, 40)] (sim_X13_isStep hw) k_1064 k_1065 k_134 k_1066 hdS_X13_isStep rfl rfl rfl rfl rfl dX13_chance_66 ?_
              intro x1 h1 zb66 hw
              refine g_if_ne C 74 dX13_chance_69 rfl hw (fun hw => ?_) (fun hw => ?_)
              · refine g_aload_n C dX13_chance_74 rfl (by decide) rfl ?_
                refine gw_X13_52 C dX13_chance_75 kdC_0 wwC_0_6 ?_
                refine g_callVv C [] (sim_X6_freshenWays hw) k_1017 k_1018 k_1019 k_144 k_1020 hdV_X6_freshenWays rfl rfl (by decide) rfl kdC_115 rfl rfl rfl dX13_chance_78 ?_
                intro h2 hw
                refine g_aload_n C dX13_chance_81 rfl (by decide) rfl ?_
                refine gw_X13_70 C dX13_chance_82 kdC_0 wwC_0_8 ?_
                refine g_iload_n C dX13_chance_85 rfl rfl ?_
                refine g_iload_n C dX13_chance_86 rfl rfl ?_
                refine g_iload_n C dX13_chance_87 rfl rfl ?_
                refine g_iload C dX13_chance_88 rfl ?_
                refine g_iload C dX13_chance_90 rfl ?_
                refine g_callVi C [(0, p1), (0, p2), (0, p3), (0, p4), (0, p5)] (sim_X2_drawsAbove hw) k_1410 k_1411 k_1412 k_146 k_1413 hdV_X2_drawsAbove rfl rfl (by decide) rfl kdC_127 rfl rfl rfl dX13_chance_92 ?_
                intro x2 h3 hw
                exact g_iret C hr dX13_chance_95 ⟨_, rfl, hw⟩
              · refine g_iconst C ⟨by decide, by decide⟩ dX13_chance_72 ?_
                exact g_iret C hr dX13_chance_73 ⟨_, rfl, hw⟩
  show mG _ p l e _ s m args below meth c _ _ 0 [(0, (2, 0)), (1, (0, p1)), (2, (0, p2)), (3, (0, p3)), (4, (0, p4)), (5, (0, p5))] [] h
  unfold wp_X13_chance at hw
  refine g_aload_n C dX13_chance_0 rfl (by decide) rfl ?_
  refine gw_X13_36 C dX13_chance_1 kdC_0 wwC_0_4 ?_
  refine gf_X13_86 C dX13_chance_4 kdC_53 (fun z4 => ?_)
  obtain ⟨q1, hw⟩ := hw
  refine gw_X13_104 C dX13_chance_7 q1 (wir_4_7 wirC q1) ?_
  refine g_iload_n C dX13_chance_10 rfl rfl ?_
  refine g_callVz C [(0, p2)] (sim_X7_has wirC (kid_4_7 wirC q1) hw) k_1113 k_1114 k_1115 k_136 k_1116 hdV_X7_has rfl rfl (by decide) rfl (kid_4_7 wirC q1) rfl rfl rfl dX13_chance_11 ?_
  intro x1 h1 zb11 hw
  refine g_if_eq C 39 dX13_chance_14 rfl hw (fun hw => ?_) (fun hw => ?_)
  · exact g_sub [0, 1, 2, 3, 4, 5] rfl (hQ _ hw)
  · refine g_aload_n C dX13_chance_17 rfl (by decide) rfl ?_
    refine gw_X13_36 C dX13_chance_18 kdC_0 wwC_0_4 ?_
    refine gf_X13_86 C dX13_chance_21 kdC_53 (fun z21 => ?_)
    obtain ⟨q2, hw⟩ := hw
    refine gw_X13_114 C dX13_chance_24 q2 (wir_4_10 wirC q2) ?_
    refine g_iload C dX13_chance_27 rfl ?_
    refine g_callVz C [(0, p4)] (sim_X7_has wirC (kid_4_10 wirC q2) hw) k_1113 k_1114 k_1115 k_136 k_1116 hdV_X7_has rfl rfl (by decide) rfl (kid_4_10 wirC q2) rfl rfl rfl dX13_chance_29 ?_
    intro x2 h2 zb29 hw
    refine g_if_eq C 39 dX13_chance_32 rfl hw (fun hw => ?_) (fun hw => ?_)
    · exact g_sub [0, 1, 2, 3, 4, 5] rfl (hQ _ hw)
    · refine g_iconst C ⟨by decide, by decide⟩ dX13_chance_35 ?_
      refine g_goto C 40 dX13_chance_36 rfl ?_
      exact g_sub [0, 1, 2, 3, 4, 5] rfl (hQ _ hw)
set_option maxRecDepth 20000 in
set_option maxHeartbeats 4000000 in
theorem sim_X4_knownBy {z : Mz} {l : Launch} {h : Mh} {K : Int → Mh → Prop} (hw : wp_X4_knownBy h K) : mCal (XC z) l yX4_knownBy cX4_knownBy 1 (some Jvm.ClassFile.FieldType.int) 0 0 [(2, 107)] h (mKi K) := by
  refine m_entry RX4 rfl (by decide) rfl (fun p e s m args below meth c C hr => ?_)
  show mG _ p l e _ s m args below meth c _ _ 0 [(0, (2, 107))] [] h
  unfold wp_X4_knownBy at hw
  refine g_aload_n C dX4_knownBy_0 rfl (by decide) rfl ?_
  refine gf_X4_37 C dX4_knownBy_1 kdC_107 (fun z1 => ?_)
  refine g_if_ge C 14 dX4_knownBy_4 rfl hw (fun hw => ?_) (fun hw => ?_)
  · refine g_aload_n C dX4_knownBy_14 rfl (by decide) rfl ?_
    refine gf_X4_37 C dX4_knownBy_15 kdC_107 (fun z15 => ?_)
    exact g_iret C hr dX4_knownBy_18 ⟨_, rfl, hw⟩
  · refine g_aload_n C dX4_knownBy_7 rfl (by decide) rfl ?_
    refine gf_X4_41 C dX4_knownBy_8 kdC_107 (fun z8 => ?_)
    refine g_goto C 18 dX4_knownBy_11 rfl ?_
    exact g_iret C hr dX4_knownBy_18 ⟨_, rfl, hw⟩
set_option maxRecDepth 20000 in
set_option maxHeartbeats 4000000 in
theorem sim_X13_count {z : Mz} {l : Launch} {p1 : Int} {h : Mh} {K : Int → Mh → Prop} (hw : wp_X13_count p1 h K) : mCal (XC z) l yX13_count cX13_count 3 (some Jvm.ClassFile.FieldType.int) 1 21 [(2, 0), (0, p1)] h (mKi K) := by
  refine m_entry RX13 rfl (by decide) rfl (fun p e s m args below meth c C hr => ?_)
  show mG _ p l e _ s m args below meth c _ _ 0 [(0, (2, 0)), (1, (0, p1))] [] h
  unfold wp_X13_count at hw
  refine g_aload_n C dX13_count_0 rfl (by decide) rfl ?_
  refine gw_X13_36 C dX13_count_1 kdC_0 wwC_0_4 ?_
  refine gf_X13_86 C dX13_count_4 kdC_53 (fun z4 => ?_)
  refine g_astore_n C dX13_count_7 rfl (by decide) (by decide) ?_
  refine g_iload_n C dX13_count_8 rfl rfl ?_
  by_cases c0 : p1 = 0
  · rw [if_pos c0] at hw
    refine g_tabIn C 76 0 dX13_count_9 c0 (by decide) (by decide) rfl rfl ?_
    refine g_aload_n C dX13_count_76 rfl (by decide) rfl ?_
    obtain ⟨q1, hw⟩ := hw
    refine gf_X13_311 C dX13_count_77 q1 (fun z77 => ?_)
    exact g_iret C hr dX13_count_80 ⟨_, rfl, hw⟩
  rw [if_neg c0] at hw
  by_cases c1 : p1 = 1
  · rw [if_pos c1] at hw
    refine g_tabIn C 81 1 dX13_count_9 c1 (by decide) (by decide) rfl rfl ?_
    refine g_aload_n C dX13_count_81 rfl (by decide) rfl ?_
    obtain ⟨q2, hw⟩ := hw
    refine gf_X13_314 C dX13_count_82 q2 (fun z82 => ?_)
    exact g_iret C hr dX13_count_85 ⟨_, rfl, hw⟩
  rw [if_neg c1] at hw
  by_cases c2 : p1 = 2
  · rw [if_pos c2] at hw
    refine g_tabIn C 86 2 dX13_count_9 c2 (by decide) (by decide) rfl rfl ?_
    refine g_aload_n C dX13_count_86 rfl (by decide) rfl ?_
    obtain ⟨q3, hw⟩ := hw
    refine gw_X13_104 C dX13_count_87 q3 (wir_4_7 wirC q3) ?_
    refine gf_X13_138 C dX13_count_90 (kid_4_7 wirC q3) (fun z90 => ?_)
    exact g_iret C hr dX13_count_93 ⟨_, rfl, hw⟩
  rw [if_neg c2] at hw
  by_cases c3 : p1 = 3
  · rw [if_pos c3] at hw
    refine g_tabIn C 94 3 dX13_count_9 c3 (by decide) (by decide) rfl rfl ?_
    refine g_aload_n C dX13_count_94 rfl (by decide) rfl ?_
    obtain ⟨q4, hw⟩ := hw
    refine gw_X13_114 C dX13_count_95 q4 (wir_4_10 wirC q4) ?_
    refine gf_X13_138 C dX13_count_98 (kid_4_10 wirC q4) (fun z98 => ?_)
    exact g_iret C hr dX13_count_101 ⟨_, rfl, hw⟩
  rw [if_neg c3] at hw
  by_cases c4 : p1 = 4
  · rw [if_pos c4] at hw
    refine g_tabIn C 102 4 dX13_count_9 c4 (by decide) (by decide) rfl rfl ?_
    refine g_aload_n C dX13_count_102 rfl (by decide) rfl ?_
    obtain ⟨q5, hw⟩ := hw
    refine gw_X13_117 C dX13_count_103 q5 (wir_4_12 wirC q5) ?_
    refine gf_X13_138 C dX13_count_106 (kid_4_12 wirC q5) (fun z106 => ?_)
    exact g_iret C hr dX13_count_109 ⟨_, rfl, hw⟩
  rw [if_neg c4] at hw
  by_cases c5 : p1 = 5
  · rw [if_pos c5] at hw
    refine g_tabIn C 110 5 dX13_count_9 c5 (by decide) (by decide) rfl rfl ?_
    refine g_aload_n C dX13_count_110 rfl (by decide) rfl ?_
    refine gw_X13_36 C dX13_count_111 kdC_0 wwC_0_4 ?_
    refine gw_X13_167 C dX13_count_114 kdC_53 wwC_53_2 ?_
    refine gf_X13_317 C dX13_count_117 kdC_98 (fun z117 => ?_)
    exact g_iret C hr dX13_count_120 ⟨_, rfl, hw⟩
  rw [if_neg c5] at hw
  by_cases c6 : p1 = 6
  · rw [if_pos c6] at hw
    refine g_tabIn C 121 6 dX13_count_9 c6 (by decide) (by decide) rfl rfl ?_
    refine g_aload_n C dX13_count_121 rfl (by decide) rfl ?_
    obtain ⟨q6, hw⟩ := hw
    refine gw_X13_161 C dX13_count_122 q6 (wir_4_4 wirC q6) ?_
    refine gf_X13_138 C dX13_count_125 (kid_4_4 wirC q6) (fun z125 => ?_)
    exact g_iret C hr dX13_count_128 ⟨_, rfl, hw⟩
  rw [if_neg c6] at hw
  by_cases c7 : p1 = 7
  · rw [if_pos c7] at hw
    refine g_tabIn C 129 7 dX13_count_9 c7 (by decide) (by decide) rfl rfl ?_
    refine g_aload_n C dX13_count_129 rfl (by decide) rfl ?_
    obtain ⟨q7, hw⟩ := hw
    refine gw_X13_120 C dX13_count_130 q7 (wir_4_6 wirC q7) ?_
    refine gf_X13_138 C dX13_count_133 (kid_4_6 wirC q7) (fun z133 => ?_)
    exact g_iret C hr dX13_count_136 ⟨_, rfl, hw⟩
  rw [if_neg c7] at hw
  by_cases c8 : p1 = 8
  · rw [if_pos c8] at hw
    refine g_tabIn C 137 8 dX13_count_9 c8 (by decide) (by decide) rfl rfl ?_
    refine g_aload_n C dX13_count_137 rfl (by decide) rfl ?_
    obtain ⟨q8, hw⟩ := hw
    refine gw_X13_208 C dX13_count_138 q8 (wir_4_15 wirC q8) ?_
    refine gf_X13_318 C dX13_count_141 (kid_4_15 wirC q8) (fun z141 => ?_)
    exact g_iret C hr dX13_count_144 ⟨_, rfl, hw⟩
  rw [if_neg c8] at hw
  by_cases c9 : p1 = 9
  · rw [if_pos c9] at hw
    refine g_tabIn C 145 9 dX13_count_9 c9 (by decide) (by decide) rfl rfl ?_
    refine g_aload_n C dX13_count_145 rfl (by decide) rfl ?_
    refine gw_X13_43 C dX13_count_146 kdC_0 wwC_0_5 ?_
    refine gf_X13_321 C dX13_count_149 kdC_107 (fun z149 => ?_)
    exact g_iret C hr dX13_count_152 ⟨_, rfl, hw⟩
  rw [if_neg c9] at hw
  by_cases c10 : p1 = 10
  · rw [if_pos c10] at hw
    refine g_tabIn C 153 10 dX13_count_9 c10 (by decide) (by decide) rfl rfl ?_
    refine g_aload_n C dX13_count_153 rfl (by decide) rfl ?_
    refine gw_X13_43 C dX13_count_154 kdC_0 wwC_0_5 ?_
    refine g_callVi C [] (sim_X4_knownBy hw) k_1446 k_1289 k_1290 k_143 k_1291 hdV_X4_knownBy rfl rfl (by decide) rfl kdC_107 rfl rfl rfl dX13_count_157 ?_
    intro x1 h1 hw
    exact g_iret C hr dX13_count_160 ⟨_, rfl, hw⟩
  rw [if_neg c10] at hw
  by_cases c11 : p1 = 11
  · rw [if_pos c11] at hw
    refine g_tabIn C 161 11 dX13_count_9 c11 (by decide) (by decide) rfl rfl ?_
    refine g_aload_n C dX13_count_161 rfl (by decide) rfl ?_
    refine gw_X13_36 C dX13_count_162 kdC_0 wwC_0_4 ?_
    refine gf_X13_325 C dX13_count_165 kdC_53 (fun z165 => ?_)
    exact g_iret C hr dX13_count_168 ⟨_, rfl, hw⟩
  rw [if_neg c11] at hw
  by_cases c12 : p1 = 12
  · rw [if_pos c12] at hw
    refine g_tabIn C 169 12 dX13_count_9 c12 (by decide) (by decide) rfl rfl ?_
    refine g_aload_n C dX13_count_169 rfl (by decide) rfl ?_
    refine gw_X13_36 C dX13_count_170 kdC_0 wwC_0_4 ?_
    refine gf_X13_328 C dX13_count_173 kdC_53 (fun z173 => ?_)
    refine g_callSi C [(1, (h 53 1))] (sim_J13_bitCount_95d88 hw) k_1447 k_800 k_151 k_801 hdS_J13_bitCount_95d88 rfl rfl rfl rfl rfl dX13_count_176 ?_
    intro x2 h2 hw
    exact g_iret C hr dX13_count_179 ⟨_, rfl, hw⟩
  rw [if_neg c12] at hw
  refine g_tabOut C 180 dX13_count_9 (by omega) rfl ?_
  refine g_iconst C ⟨by decide, by decide⟩ dX13_count_180 ?_
  exact g_iret C hr dX13_count_181 ⟨_, rfl, hw⟩
set_option maxRecDepth 20000 in
set_option maxHeartbeats 4000000 in
theorem sim_X13_cut {z : Mz} {l : Launch} {p1 : Int} {h : Mh} {K : Int → Mh → Prop} (hw : wp_X13_cut p1 h K) : mCal (XC z) l yX13_cut cX13_cut 2 (some Jvm.ClassFile.FieldType.boolean) 2 43 [(2, 0), (0, p1)] h (mKz K) := by
  refine m_entry RX13 rfl (by decide) rfl (fun p e s m args below meth c C hr => ?_)
  show mG _ p l e _ s m args below meth c _ _ 0 [(0, (2, 0)), (1, (0, p1))] [] h
  unfold wp_X13_cut at hw
  refine g_aload_n C dX13_cut_0 rfl (by decide) rfl ?_
  refine gw_X13_36 C dX13_cut_1 kdC_0 wwC_0_4 ?_
  refine gf_X13_86 C dX13_cut_4 kdC_53 (fun z4 => ?_)
  refine g_iload_n C dX13_cut_7 rfl rfl ?_
  obtain ⟨q1, hw⟩ := hw
  refine g_callVz C [(0, p1)] (sim_X5_isCell wirC q1 hw) k_989 k_990 k_991 k_135 k_992 hdV_X5_isCell rfl rfl (by decide) rfl q1 rfl rfl rfl dX13_cut_8 ?_
  intro x1 h1 zb8 hw
  refine g_if_eq C 25 dX13_cut_11 rfl hw (fun hw => ?_) (fun hw => ?_)
  · refine g_iconst C ⟨by decide, by decide⟩ dX13_cut_25 ?_
    exact g_zret C hr (Or.inl rfl) dX13_cut_26 ⟨_, rfl, (Or.inl rfl), hw⟩
  · refine g_aload_n C dX13_cut_14 rfl (by decide) rfl ?_
    refine gw_X13_36 C dX13_cut_15 kdC_0 wwC_0_4 ?_
    refine g_iload_n C dX13_cut_18 rfl rfl ?_
    refine g_callVz C [(0, p1)] (sim_X11_hasReeds hw) k_997 k_998 k_999 k_142 k_1000 hdV_X11_hasReeds rfl rfl (by decide) rfl kdC_53 rfl rfl rfl dX13_cut_19 ?_
    intro x2 h2 zb19 hw
    refine g_if_ne C 27 dX13_cut_22 rfl hw (fun hw => ?_) (fun hw => ?_)
    · refine g_aload_n C dX13_cut_27 rfl (by decide) rfl ?_
      refine gw_X13_36 C dX13_cut_28 kdC_0 wwC_0_4 ?_
      refine g_iload_n C dX13_cut_31 rfl rfl ?_
      refine g_callVv C [(0, p1)] (sim_X11_cutReeds hw) k_1231 k_1232 k_1233 k_142 k_1234 hdV_X11_cutReeds rfl rfl (by decide) rfl kdC_53 rfl rfl rfl dX13_cut_32 ?_
      intro h3 hw
      refine g_iconst C ⟨by decide, by decide⟩ dX13_cut_35 ?_
      exact g_zret C hr (Or.inr rfl) dX13_cut_36 ⟨_, rfl, (Or.inr rfl), hw⟩
    · refine g_iconst C ⟨by decide, by decide⟩ dX13_cut_25 ?_
      exact g_zret C hr (Or.inl rfl) dX13_cut_26 ⟨_, rfl, (Or.inl rfl), hw⟩
set_option maxRecDepth 20000 in
set_option maxHeartbeats 4000000 in
theorem sim_X13_drop {z : Mz} {l : Launch} {p1 : Int} {p2 : Int} {h : Mh} {K : Int → Mh → Prop} (hw : wp_X13_drop p1 p2 h K) : mCal (XC z) l yX13_drop cX13_drop 3 (some Jvm.ClassFile.FieldType.int) 1 22 [(2, 0), (0, p1), (0, p2)] h (mKi K) := by
  refine m_entry RX13 rfl (by decide) rfl (fun p e s m args below meth c C hr => ?_)
  show mG _ p l e _ s m args below meth c _ _ 0 [(0, (2, 0)), (1, (0, p1)), (2, (0, p2))] [] h
  unfold wp_X13_drop at hw
  refine g_aload_n C dX13_drop_0 rfl (by decide) rfl ?_
  refine gw_X13_36 C dX13_drop_1 kdC_0 wwC_0_4 ?_
  refine gw_X13_167 C dX13_drop_4 kdC_53 wwC_53_2 ?_
  refine g_iload_n C dX13_drop_7 rfl rfl ?_
  refine g_iload_n C dX13_drop_8 rfl rfl ?_
  refine g_callVi C [(0, p1), (0, p2)] (sim_X1_part wirC kdC_98 hw) k_1009 k_1010 k_1011 k_138 k_1012 hdV_X1_part rfl rfl (by decide) rfl kdC_98 rfl rfl rfl dX13_drop_9 ?_
  intro x1 h1 hw
  exact g_iret C hr dX13_drop_12 ⟨_, rfl, hw⟩
set_option maxRecDepth 20000 in
set_option maxHeartbeats 4000000 in
theorem sim_X13_fall {z : Mz} {l : Launch} {p1 : Int} {p2 : Int} {p3 : Int} {h : Mh} {K : Int → Mh → Prop} (hw : wp_X13_fall p1 p2 p3 h K) : mCal (XC z) l yX13_fall cX13_fall 5 (some Jvm.ClassFile.FieldType.int) 2 46 [(2, 0), (0, p1), (0, p2), (0, p3)] h (mKi K) := by
  refine m_entry RX13 rfl (by decide) rfl (fun p e s m args below meth c C hr => ?_)
  have hQ : ∀ x, Lfp (F_X13_fall p1 p2 p3 K) x → (match x.1, x.2.1 with | 35, [] => mG (XC z) p l e { frames := 2, cells := 0, slots := 0, locals := 46 } s m args below meth c 5 (mMQ (XC z) (mKi K) below args s) 35 [(0, (2, 0)), (1, (0, p1)), (2, (0, p2)), (3, (0, p3))] [] x.2.2 | 36, [s0] => mG (XC z) p l e { frames := 2, cells := 0, slots := 0, locals := 46 } s m args below meth c 5 (mMQ (XC z) (mKi K) below args s) 36 [(0, (2, 0)), (1, (0, p1)), (2, (0, p2)), (3, (0, p3))] [(0, s0)] x.2.2 | _, _ => True) := by
    intro x hx
    refine Lfp.ind (fun x => (match x.1, x.2.1 with | 35, [] => mG (XC z) p l e { frames := 2, cells := 0, slots := 0, locals := 46 } s m args below meth c 5 (mMQ (XC z) (mKi K) below args s) 35 [(0, (2, 0)), (1, (0, p1)), (2, (0, p2)), (3, (0, p3))] [] x.2.2 | 36, [s0] => mG (XC z) p l e { frames := 2, cells := 0, slots := 0, locals := 46 } s m args below meth c 5 (mMQ (XC z) (mKi K) below args s) 36 [(0, (2, 0)), (1, (0, p1)), (2, (0, p2)), (3, (0, p3))] [(0, s0)] x.2.2 | _, _ => True)) ?_ hx
    clear hx x
    intro Z x hQ hw
    rcases hw with ⟨h, rfl, hw⟩ | ⟨s0, h, rfl, hw⟩
    · show mG (XC z) p l e { frames := 2, cells := 0, slots := 0, locals := 46 } s m args below meth c 5 (mMQ (XC z) (mKi K) below args s) 35 [(0, (2, 0)), (1, (0, p1)), (2, (0, p2)), (3, (0, p3))] [] h
      unfold B_X13_fall_35 at hw
      refine g_iconst C ⟨by decide, by decide⟩ dX13_fall_35 ?_
      exact g_sub [0, 1, 2, 3] rfl (hQ _ hw)
    · show mG (XC z) p l e { frames := 2, cells := 0, slots := 0, locals := 46 } s m args below meth c 5 (mMQ (XC z) (mKi K) below args s) 36 [(0, (2, 0)), (1, (0, p1)), (2, (0, p2)), (3, (0, p3))] [(0, s0)] h
      unfold B_X13_fall_36 at hw
      refine g_istore C dX13_fall_36 (by decide) ?_
      refine g_iload C dX13_fall_38 rfl ?_
      refine g_if_eq C 65 dX13_fall_40 rfl hw (fun hw => ?_) (fun hw => ?_)
      · refine g_iconst C ⟨by decide, by decide⟩ dX13_fall_65 ?_
        exact g_iret C hr dX13_fall_66 ⟨_, rfl, hw⟩
      · refine g_iload_n C dX13_fall_43 rfl rfl ?_
        refine g_bipush C ⟨by decide, by decide⟩ (by decide) dX13_fall_44 ?_
        refine g_callSz C [(0, p3), (0, 99)] (sim_X13_isStep hw) k_1064 k_1065 k_134 k_1066 hdS_X13_isStep rfl rfl rfl rfl rfl dX13_fall_46 ?_
        intro x1 h1 zb46 hw
        refine g_if_eq C 65 dX13_fall_49 rfl hw (fun hw => ?_) (fun hw => ?_)
        · refine g_iconst C ⟨by decide, by decide⟩ dX13_fall_65 ?_
          exact g_iret C hr dX13_fall_66 ⟨_, rfl, hw⟩
        · refine g_aload_n C dX13_fall_52 rfl (by decide) rfl ?_
          refine gw_X13_36 C dX13_fall_53 kdC_0 wwC_0_4 ?_
          refine gw_X13_167 C dX13_fall_56 kdC_53 wwC_53_2 ?_
          refine g_callVz C [] (sim_X1_isFull wirC kdC_98 hw) k_1217 k_881 k_882 k_138 k_883 hdV_X1_isFull rfl rfl (by decide) rfl kdC_98 rfl rfl rfl dX13_fall_59 ?_
          intro x2 h2 zb59 hw
          refine g_if_eq C 67 dX13_fall_62 rfl hw (fun hw => ?_) (fun hw => ?_)
          · refine g_aload_n C dX13_fall_67 rfl (by decide) rfl ?_
            refine gw_X13_36 C dX13_fall_68 kdC_0 wwC_0_4 ?_
            refine g_iload_n C dX13_fall_71 rfl rfl ?_
            refine g_iload_n C dX13_fall_72 rfl rfl ?_
            refine g_iload_n C dX13_fall_73 rfl rfl ?_
            refine g_callVi C [(0, p1), (0, p2), (0, p3)] (sim_X11_addDrop hw) k_1218 k_1219 k_1220 k_142 k_1221 hdV_X11_addDrop rfl rfl (by decide) rfl kdC_53 rfl rfl rfl dX13_fall_74 ?_
            intro x3 h3 hw
            exact g_iret C hr dX13_fall_77 ⟨_, rfl, hw⟩
          · refine g_iconst C ⟨by decide, by decide⟩ dX13_fall_65 ?_
            exact g_iret C hr dX13_fall_66 ⟨_, rfl, hw⟩
  show mG _ p l e _ s m args below meth c _ _ 0 [(0, (2, 0)), (1, (0, p1)), (2, (0, p2)), (3, (0, p3))] [] h
  unfold wp_X13_fall at hw
  refine g_aload_n C dX13_fall_0 rfl (by decide) rfl ?_
  refine gw_X13_36 C dX13_fall_1 kdC_0 wwC_0_4 ?_
  refine gf_X13_86 C dX13_fall_4 kdC_53 (fun z4 => ?_)
  obtain ⟨q1, hw⟩ := hw
  refine gw_X13_104 C dX13_fall_7 q1 (wir_4_7 wirC q1) ?_
  refine g_iload_n C dX13_fall_10 rfl rfl ?_
  refine g_callVz C [(0, p1)] (sim_X7_has wirC (kid_4_7 wirC q1) hw) k_1113 k_1114 k_1115 k_136 k_1116 hdV_X7_has rfl rfl (by decide) rfl (kid_4_7 wirC q1) rfl rfl rfl dX13_fall_11 ?_
  intro x1 h1 zb11 hw
  refine g_if_eq C 35 dX13_fall_14 rfl hw (fun hw => ?_) (fun hw => ?_)
  · exact g_sub [0, 1, 2, 3] rfl (hQ _ hw)
  · refine g_aload_n C dX13_fall_17 rfl (by decide) rfl ?_
    refine gw_X13_36 C dX13_fall_18 kdC_0 wwC_0_4 ?_
    refine gf_X13_86 C dX13_fall_21 kdC_53 (fun z21 => ?_)
    refine g_iload_n C dX13_fall_24 rfl rfl ?_
    obtain ⟨q2, hw⟩ := hw
    refine g_callVz C [(0, p2)] (sim_X5_isWet wirC q2 hw) k_993 k_994 k_995 k_135 k_996 hdV_X5_isWet rfl rfl (by decide) rfl q2 rfl rfl rfl dX13_fall_25 ?_
    intro x2 h2 zb25 hw
    refine g_if_eq C 35 dX13_fall_28 rfl hw (fun hw => ?_) (fun hw => ?_)
    · exact g_sub [0, 1, 2, 3] rfl (hQ _ hw)
    · refine g_iconst C ⟨by decide, by decide⟩ dX13_fall_31 ?_
      refine g_goto C 36 dX13_fall_32 rfl ?_
      exact g_sub [0, 1, 2, 3] rfl (hQ _ hw)
set_option maxRecDepth 20000 in
set_option maxHeartbeats 4000000 in
theorem sim_X13_far {z : Mz} {l : Launch} {p1 : Int} {p2 : Int} {h : Mh} {K : Int → Mh → Prop} (hw : wp_X13_far p1 p2 h K) : mCal (XC z) l yX13_far cX13_far 3 (some Jvm.ClassFile.FieldType.int) 4 94 [(2, 0), (0, p1), (0, p2)] h (mKi K) := by
  refine m_entry RX13 rfl (by decide) rfl (fun p e s m args below meth c C hr => ?_)
  show mG _ p l e _ s m args below meth c _ _ 0 [(0, (2, 0)), (1, (0, p1)), (2, (0, p2))] [] h
  unfold wp_X13_far at hw
  refine g_aload_n C dX13_far_0 rfl (by decide) rfl ?_
  refine gw_X13_36 C dX13_far_1 kdC_0 wwC_0_4 ?_
  refine gf_X13_86 C dX13_far_4 kdC_53 (fun z4 => ?_)
  refine g_iload_n C dX13_far_7 rfl rfl ?_
  obtain ⟨q1, hw⟩ := hw
  refine g_callVz C [(0, p1)] (sim_X5_isWet wirC q1 hw) k_993 k_994 k_995 k_135 k_996 hdV_X5_isWet rfl rfl (by decide) rfl q1 rfl rfl rfl dX13_far_8 ?_
  intro x1 h1 zb8 hw
  refine g_if_eq C 28 dX13_far_11 rfl hw (fun hw => ?_) (fun hw => ?_)
  · refine g_iconst C ⟨by decide, by decide⟩ dX13_far_28 ?_
    exact g_iret C hr dX13_far_29 ⟨_, rfl, hw⟩
  · refine g_aload_n C dX13_far_14 rfl (by decide) rfl ?_
    refine gw_X13_36 C dX13_far_15 kdC_0 wwC_0_4 ?_
    refine gf_X13_86 C dX13_far_18 kdC_53 (fun z18 => ?_)
    refine g_iload_n C dX13_far_21 rfl rfl ?_
    obtain ⟨q2, hw⟩ := hw
    refine g_callVz C [(0, p2)] (sim_X5_isWet wirC q2 hw) k_993 k_994 k_995 k_135 k_996 hdV_X5_isWet rfl rfl (by decide) rfl q2 rfl rfl rfl dX13_far_22 ?_
    intro x2 h2 zb22 hw
    refine g_if_ne C 30 dX13_far_25 rfl hw (fun hw => ?_) (fun hw => ?_)
    · refine g_aload_n C dX13_far_30 rfl (by decide) rfl ?_
      refine gw_X13_52 C dX13_far_31 kdC_0 wwC_0_6 ?_
      refine g_callVv C [] (sim_X6_freshenWays hw) k_1017 k_1018 k_1019 k_144 k_1020 hdV_X6_freshenWays rfl rfl (by decide) rfl kdC_115 rfl rfl rfl dX13_far_34 ?_
      intro h3 hw
      refine g_aload_n C dX13_far_37 rfl (by decide) rfl ?_
      refine gw_X13_52 C dX13_far_38 kdC_0 wwC_0_6 ?_
      refine g_iload_n C dX13_far_41 rfl rfl ?_
      refine g_iload_n C dX13_far_42 rfl rfl ?_
      refine g_callVi C [(0, p1), (0, p2)] (sim_X6_farOf hw) k_1048 k_1049 k_1050 k_144 k_1051 hdV_X6_farOf rfl rfl (by decide) rfl kdC_115 rfl rfl rfl dX13_far_43 ?_
      intro x3 h4 hw
      exact g_iret C hr dX13_far_46 ⟨_, rfl, hw⟩
    · refine g_iconst C ⟨by decide, by decide⟩ dX13_far_28 ?_
      exact g_iret C hr dX13_far_29 ⟨_, rfl, hw⟩
set_option maxRecDepth 20000 in
set_option maxHeartbeats 4000000 in
theorem sim_X13_fault {z : Mz} {l : Launch} {p1 : Int} {h : Mh} {K : Int → Mh → Prop} (hw : wp_X13_fault p1 h K) : mCal (XC z) l yX13_fault cX13_fault 2 (some Jvm.ClassFile.FieldType.int) 0 0 [(2, 0), (0, p1)] h (mKi K) := by
  refine m_entry RX13 rfl (by decide) rfl (fun p e s m args below meth c C hr => ?_)
  show mG _ p l e _ s m args below meth c _ _ 0 [(0, (2, 0)), (1, (0, p1))] [] h
  unfold wp_X13_fault at hw
  refine g_iload_n C dX13_fault_0 rfl rfl ?_
  refine g_if_ne C 12 dX13_fault_1 rfl hw (fun hw => ?_) (fun hw => ?_)
  · refine g_iload_n C dX13_fault_12 rfl rfl ?_
    refine g_iconst C ⟨by decide, by decide⟩ dX13_fault_13 ?_
    refine g_icmp_ne C 27 dX13_fault_14 rfl hw (fun hw => ?_) (fun hw => ?_)
    · refine g_iconst C ⟨by decide, by decide⟩ dX13_fault_27 ?_
      exact g_iret C hr dX13_fault_28 ⟨_, rfl, hw⟩
    · refine g_aload_n C dX13_fault_17 rfl (by decide) rfl ?_
      refine gw_X13_27 C dX13_fault_18 kdC_0 wwC_0_3 ?_
      refine gf_X13_101 C dX13_fault_21 kdC_46 (fun z21 => ?_)
      refine g_goto C 28 dX13_fault_24 rfl ?_
      exact g_iret C hr dX13_fault_28 ⟨_, rfl, hw⟩
  · refine g_aload_n C dX13_fault_4 rfl (by decide) rfl ?_
    refine gw_X13_27 C dX13_fault_5 kdC_0 wwC_0_3 ?_
    refine gf_X13_98 C dX13_fault_8 kdC_46 (fun z8 => ?_)
    exact g_iret C hr dX13_fault_11 ⟨_, rfl, hw⟩
set_option maxRecDepth 20000 in
set_option maxHeartbeats 4000000 in
theorem sim_X13_putBytes {z : Mz} {l : Launch} {p1 : Int} {h : Mh} {K : Mh → Prop} (hw : wp_X13_putBytes p1 h K) : mCal (XC z) l yX13_putBytes cX13_putBytes 3 none 0 0 [(2, 0), (0, p1)] h (mKv K) := by
  refine m_entry RX13 rfl (by decide) rfl (fun p e s m args below meth c C hr => ?_)
  have hQ : ∀ x, Lfp (F_X13_putBytes p1 K) x → (match x.1, x.2.1 with | 3, [v2] => mG (XC z) p l e { frames := 0, cells := 0, slots := 0, locals := 0 } s m args below meth c 3 (mMQ (XC z) (mKv K) below args s) 3 [(2, (0, v2)), (0, (2, 0)), (1, (0, p1))] [] x.2.2 | _, _ => True) := by
    intro x hx
    refine Lfp.ind (fun x => (match x.1, x.2.1 with | 3, [v2] => mG (XC z) p l e { frames := 0, cells := 0, slots := 0, locals := 0 } s m args below meth c 3 (mMQ (XC z) (mKv K) below args s) 3 [(2, (0, v2)), (0, (2, 0)), (1, (0, p1))] [] x.2.2 | _, _ => True)) ?_ hx
    clear hx x
    intro Z x hQ hw
    rcases hw with ⟨v2, h, rfl, hw⟩
    · show mG (XC z) p l e { frames := 0, cells := 0, slots := 0, locals := 0 } s m args below meth c 3 (mMQ (XC z) (mKv K) below args s) 3 [(2, (0, v2)), (0, (2, 0)), (1, (0, p1))] [] h
      unfold B_X13_putBytes_3 at hw
      refine g_iload_n C dX13_putBytes_3 rfl rfl ?_
      refine g_if_lt C 48 dX13_putBytes_4 rfl hw (fun hw => ?_) (fun hw => ?_)
      · exact g_vret C hr dX13_putBytes_48 ⟨rfl, hw⟩
      · refine g_aload_n C dX13_putBytes_7 rfl (by decide) rfl ?_
        refine gf_X13_74 C dX13_putBytes_8 kdC_0 (fun z8 => ?_)
        refine g_aload_n C dX13_putBytes_11 rfl (by decide) rfl ?_
        refine gw_X13_11 C dX13_putBytes_12 kdC_0 wwC_0_0 ?_
        refine g_alen C dX13_putBytes_15 (ci := 13) (by decide) skC_1 (by decide) ?_
        refine g_icmp_ge C 48 dX13_putBytes_16 rfl hw (fun hw => ?_) (fun hw => ?_)
        · exact g_vret C hr dX13_putBytes_48 ⟨rfl, hw⟩
        · refine g_aload_n C dX13_putBytes_19 rfl (by decide) rfl ?_
          refine gw_X13_11 C dX13_putBytes_20 kdC_0 wwC_0_0 ?_
          refine g_aload_n C dX13_putBytes_23 rfl (by decide) rfl ?_
          refine gf_X13_74 C dX13_putBytes_24 kdC_0 (fun z24 => ?_)
          refine g_iload_n C dX13_putBytes_27 rfl rfl ?_
          refine g_iload_n C dX13_putBytes_28 rfl rfl ?_
          refine g_iushr C dX13_putBytes_29 ?_
          refine g_i2b C dX13_putBytes_30 ?_
          obtain ⟨⟨b1, b1b⟩, hw⟩ := hw
          obtain ⟨zb, hw⟩ := hw
          refine g_bastore C dX13_putBytes_31 kdC_1 b1 b1b (fun _ => zb) ?_
          refine g_heap (fun h1 eh1 => ?_)
          replace hw := hw h1 eh1
          refine g_aload_n C dX13_putBytes_32 rfl (by decide) rfl ?_
          refine g_dup C (by show ¬ (2 : Nat) = 1; decide) dX13_putBytes_33 ?_
          refine gf_X13_74 C dX13_putBytes_34 kdC_0 (fun z34 => ?_)
          refine g_iconst C ⟨by decide, by decide⟩ dX13_putBytes_37 ?_
          refine g_iadd C dX13_putBytes_38 ?_
          refine gp_X13_74 C dX13_putBytes_39 kdC_0 (fun z => z) ?_
          refine g_heap (fun h2 eh2 => ?_)
          replace hw := hw h2 eh2
          refine g_iincN C dX13_putBytes_42 rfl (by decide) (fun x1 ex1 => ?_)
          replace hw := hw x1 ex1
          refine g_goto C 3 dX13_putBytes_45 rfl ?_
          exact g_sub [2, 0, 1] rfl (hQ _ hw)
  show mG _ p l e _ s m args below meth c _ _ 0 [(0, (2, 0)), (1, (0, p1))] [] h
  unfold wp_X13_putBytes at hw
  refine g_bipush C ⟨by decide, by decide⟩ (by decide) dX13_putBytes_0 ?_
  refine g_istore_n C dX13_putBytes_2 rfl (by decide) ?_
  exact g_sub [2, 0, 1] rfl (hQ _ hw)
set_option maxRecDepth 20000 in
set_option maxHeartbeats 4000000 in
theorem sim_X13_feed {z : Mz} {l : Launch} {p1 : Int} {p2 : Int} {p3 : Int} {p4 : Int} {p5 : Int} {h : Mh} {K : Int → Mh → Prop} (hw : wp_X13_feed p1 p2 p3 p4 p5 h K) : mCal (XC z) l yX13_feed cX13_feed 6 (some Jvm.ClassFile.FieldType.int) 1 22 [(2, 0), (0, p1), (0, p2), (0, p3), (0, p4), (0, p5)] h (mKi K) := by
  refine m_entry RX13 rfl (by decide) rfl (fun p e s m args below meth c C hr => ?_)
  show mG _ p l e _ s m args below meth c _ _ 0 [(0, (2, 0)), (1, (0, p1)), (2, (0, p2)), (3, (0, p3)), (4, (0, p4)), (5, (0, p5))] [] h
  unfold wp_X13_feed at hw
  refine g_aload_n C dX13_feed_0 rfl (by decide) rfl ?_
  refine gf_X13_74 C dX13_feed_1 kdC_0 (fun z1 => ?_)
  refine g_sipush C ⟨by decide, by decide⟩ (by decide) dX13_feed_4 ?_
  refine g_icmp_le C 12 dX13_feed_7 rfl hw (fun hw => ?_) (fun hw => ?_)
  · refine g_aload_n C dX13_feed_12 rfl (by decide) rfl ?_
    refine g_iload_n C dX13_feed_13 rfl rfl ?_
    refine g_callVv C [(0, p1)] (sim_X13_putBytes hw) k_709 k_711 k_0 k_134 k_712 hdV_X13_putBytes rfl rfl (by decide) rfl kdC_0 rfl rfl rfl dX13_feed_14 ?_
    intro h1 hw
    refine g_aload_n C dX13_feed_17 rfl (by decide) rfl ?_
    refine g_iload_n C dX13_feed_18 rfl rfl ?_
    refine g_callVv C [(0, p2)] (sim_X13_putBytes hw) k_709 k_711 k_0 k_134 k_712 hdV_X13_putBytes rfl rfl (by decide) rfl kdC_0 rfl rfl rfl dX13_feed_19 ?_
    intro h2 hw
    refine g_aload_n C dX13_feed_22 rfl (by decide) rfl ?_
    refine g_iload_n C dX13_feed_23 rfl rfl ?_
    refine g_callVv C [(0, p3)] (sim_X13_putBytes hw) k_709 k_711 k_0 k_134 k_712 hdV_X13_putBytes rfl rfl (by decide) rfl kdC_0 rfl rfl rfl dX13_feed_24 ?_
    intro h3 hw
    refine g_aload_n C dX13_feed_27 rfl (by decide) rfl ?_
    refine g_iload C dX13_feed_28 rfl ?_
    refine g_callVv C [(0, p4)] (sim_X13_putBytes hw) k_709 k_711 k_0 k_134 k_712 hdV_X13_putBytes rfl rfl (by decide) rfl kdC_0 rfl rfl rfl dX13_feed_30 ?_
    intro h4 hw
    refine g_aload_n C dX13_feed_33 rfl (by decide) rfl ?_
    refine g_iload C dX13_feed_34 rfl ?_
    refine g_callVv C [(0, p5)] (sim_X13_putBytes hw) k_709 k_711 k_0 k_134 k_712 hdV_X13_putBytes rfl rfl (by decide) rfl kdC_0 rfl rfl rfl dX13_feed_36 ?_
    intro h5 hw
    refine g_aload_n C dX13_feed_39 rfl (by decide) rfl ?_
    refine gf_X13_74 C dX13_feed_40 kdC_0 (fun z40 => ?_)
    exact g_iret C hr dX13_feed_43 ⟨_, rfl, hw⟩
  · refine g_iconst C ⟨by decide, by decide⟩ dX13_feed_10 ?_
    exact g_iret C hr dX13_feed_11 ⟨_, rfl, hw⟩
set_option maxRecDepth 20000 in
set_option maxHeartbeats 4000000 in
theorem sim_X6_addSum {z : Mz} {l : Launch} {p1 : Int} {p2 : Int} {p3 : Int} {h : Mh} {K : Mh → Prop} (hw : wp_X6_addSum p1 p2 p3 h K) : mCal (XC z) l yX6_addSum cX6_addSum 4 none 0 0 [(2, 115), (0, p1), (0, p2), (0, p3)] h (mKv K) := by
  refine m_entry RX6 rfl (by decide) rfl (fun p e s m args below meth c C hr => ?_)
  show mG _ p l e _ s m args below meth c _ _ 0 [(0, (2, 115)), (1, (0, p1)), (2, (0, p2)), (3, (0, p3))] [] h
  unfold wp_X6_addSum at hw
  refine g_iload_n C dX6_addSum_0 rfl rfl ?_
  refine g_if_lt C 37 dX6_addSum_1 rfl hw (fun hw => ?_) (fun hw => ?_)
  · exact g_vret C hr dX6_addSum_37 ⟨rfl, hw⟩
  · refine g_iload_n C dX6_addSum_4 rfl rfl ?_
    refine g_bipush C ⟨by decide, by decide⟩ (by decide) dX6_addSum_5 ?_
    refine g_icmp_ge C 37 dX6_addSum_7 rfl hw (fun hw => ?_) (fun hw => ?_)
    · exact g_vret C hr dX6_addSum_37 ⟨rfl, hw⟩
    · refine g_iload_n C dX6_addSum_10 rfl rfl ?_
      refine g_if_lt C 37 dX6_addSum_11 rfl hw (fun hw => ?_) (fun hw => ?_)
      · exact g_vret C hr dX6_addSum_37 ⟨rfl, hw⟩
      · refine g_iload_n C dX6_addSum_14 rfl rfl ?_
        refine g_sipush C ⟨by decide, by decide⟩ (by decide) dX6_addSum_15 ?_
        refine g_icmp_ge C 37 dX6_addSum_18 rfl hw (fun hw => ?_) (fun hw => ?_)
        · exact g_vret C hr dX6_addSum_37 ⟨rfl, hw⟩
        · refine g_aload_n C dX6_addSum_21 rfl (by decide) rfl ?_
          refine gw_X6_24 C dX6_addSum_22 kdC_115 wwC_115_5 ?_
          refine g_iload_n C dX6_addSum_25 rfl rfl ?_
          refine g_sipush C ⟨by decide, by decide⟩ (by decide) dX6_addSum_26 ?_
          refine g_imul C dX6_addSum_29 ?_
          refine g_iload_n C dX6_addSum_30 rfl rfl ?_
          refine g_iadd C dX6_addSum_31 ?_
          refine g_dup2 C (by show ¬ (0 : Nat) = 1; decide) (by show ¬ (2 : Nat) = 1; decide) dX6_addSum_32 ?_
          obtain ⟨⟨b1, b1b⟩, hw⟩ := hw
          refine g_iaload C dX6_addSum_33 kdC_120 b1 b1b (fun z33 => ?_)
          refine g_iload_n C dX6_addSum_34 rfl rfl ?_
          refine g_iadd C dX6_addSum_35 ?_
          obtain ⟨⟨b2, b2b⟩, hw⟩ := hw
          refine g_iastore C dX6_addSum_36 kdC_120 b2 b2b (fun z => z) ?_
          refine g_heap (fun h1 eh1 => ?_)
          replace hw := hw h1 eh1
          exact g_vret C hr dX6_addSum_37 ⟨rfl, hw⟩
set_option maxRecDepth 20000 in
set_option maxHeartbeats 4000000 in
theorem sim_X6_spreadRises {z : Mz} {l : Launch} {p1 : Int} {p2 : Int} {p3 : Int} {h : Mh} {K : Mh → Prop} (hw : wp_X6_spreadRises p1 p2 p3 h K) : mCal (XC z) l yX6_spreadRises cX6_spreadRises 7 none 1 24 [(2, 115), (2, p1), (0, p2), (0, p3)] h (mKv K) := by
  refine m_entry RX6 rfl (by decide) rfl (fun p e s m args below meth c C hr => ?_)
  have hQ : ∀ x, Lfp (F_X6_spreadRises p1 p2 p3 K) x → (match x.1, x.2.1 with | 3, [v4] => mG (XC z) p l e { frames := 1, cells := 0, slots := 0, locals := 24 } s m args below meth c 7 (mMQ (XC z) (mKv K) below args s) 3 [(4, (0, v4)), (0, (2, 115)), (1, (2, p1)), (2, (0, p2)), (3, (0, p3))] [] x.2.2 | 30, [v4, v5, v6] => mG (XC z) p l e { frames := 1, cells := 0, slots := 0, locals := 24 } s m args below meth c 7 (mMQ (XC z) (mKv K) below args s) 30 [(4, (0, v4)), (5, (0, v5)), (6, (0, v6)), (0, (2, 115)), (1, (2, p1)), (2, (0, p2)), (3, (0, p3))] [] x.2.2 | _, _ => True) := by
    intro x hx
    refine Lfp.ind (fun x => (match x.1, x.2.1 with | 3, [v4] => mG (XC z) p l e { frames := 1, cells := 0, slots := 0, locals := 24 } s m args below meth c 7 (mMQ (XC z) (mKv K) below args s) 3 [(4, (0, v4)), (0, (2, 115)), (1, (2, p1)), (2, (0, p2)), (3, (0, p3))] [] x.2.2 | 30, [v4, v5, v6] => mG (XC z) p l e { frames := 1, cells := 0, slots := 0, locals := 24 } s m args below meth c 7 (mMQ (XC z) (mKv K) below args s) 30 [(4, (0, v4)), (5, (0, v5)), (6, (0, v6)), (0, (2, 115)), (1, (2, p1)), (2, (0, p2)), (3, (0, p3))] [] x.2.2 | _, _ => True)) ?_ hx
    clear hx x
    intro Z x hQ hw
    rcases hw with ⟨v4, h, rfl, hw⟩ | ⟨v4, v5, v6, h, rfl, hw⟩
    · show mG (XC z) p l e { frames := 1, cells := 0, slots := 0, locals := 24 } s m args below meth c 7 (mMQ (XC z) (mKv K) below args s) 3 [(4, (0, v4)), (0, (2, 115)), (1, (2, p1)), (2, (0, p2)), (3, (0, p3))] [] h
      unfold B_X6_spreadRises_3 at hw
      refine g_iload C dX6_spreadRises_3 rfl ?_
      refine g_aload_n C dX6_spreadRises_5 rfl (by decide) rfl ?_
      refine gw_X6_39 C dX6_spreadRises_6 kdC_115 wwC_115_0 ?_
      refine gf_X6_52 C dX6_spreadRises_9 kdC_53 (fun z9 => ?_)
      obtain ⟨q1, hw⟩ := hw
      refine g_callVi C [] (sim_X5_cells wirC q1 hw) k_1030 k_1031 k_1032 k_135 k_1033 hdV_X5_cells rfl rfl (by decide) rfl q1 rfl rfl rfl dX6_spreadRises_12 ?_
      intro x1 h1 hw
      refine g_icmp_ge C 82 dX6_spreadRises_15 rfl hw (fun hw => ?_) (fun hw => ?_)
      · exact g_vret C hr dX6_spreadRises_82 ⟨rfl, hw⟩
      · refine g_aload_n C dX6_spreadRises_18 rfl (by decide) rfl ?_
        refine g_iload_n C dX6_spreadRises_19 rfl rfl ?_
        refine g_iload C dX6_spreadRises_20 rfl ?_
        refine g_callVi C [(0, p2), (0, v4)] (sim_X6_farOf hw) k_1088 k_1049 k_1050 k_144 k_1051 hdV_X6_farOf rfl rfl (by decide) rfl kdC_115 rfl rfl rfl dX6_spreadRises_22 ?_
        intro x2 h2 hw
        refine g_istore C dX6_spreadRises_25 (by decide) ?_
        refine g_iconst C ⟨by decide, by decide⟩ dX6_spreadRises_27 ?_
        refine g_istore C dX6_spreadRises_28 (by decide) ?_
        exact g_sub [4, 5, 6, 0, 1, 2, 3] rfl (hQ _ hw)
    · show mG (XC z) p l e { frames := 1, cells := 0, slots := 0, locals := 24 } s m args below meth c 7 (mMQ (XC z) (mKv K) below args s) 30 [(4, (0, v4)), (5, (0, v5)), (6, (0, v6)), (0, (2, 115)), (1, (2, p1)), (2, (0, p2)), (3, (0, p3))] [] h
      unfold B_X6_spreadRises_30 at hw
      refine g_iload C dX6_spreadRises_30 rfl ?_
      refine g_aload_n C dX6_spreadRises_32 rfl (by decide) rfl ?_
      obtain ⟨q2, hw⟩ := hw
      refine gf_X6_103 C dX6_spreadRises_33 q2 (fun z33 => ?_)
      refine g_icmp_ge C 76 dX6_spreadRises_36 rfl hw (fun hw => ?_) (fun hw => ?_)
      · refine g_iincN C dX6_spreadRises_76 rfl (by decide) (fun x1 ex1 => ?_)
        replace hw := hw x1 ex1
        refine g_goto C 3 dX6_spreadRises_79 rfl ?_
        exact g_sub [4, 0, 1, 2, 3] rfl (hQ _ hw)
      · refine g_iload C dX6_spreadRises_39 rfl ?_
        refine g_if_lt C 76 dX6_spreadRises_41 rfl hw (fun hw => ?_) (fun hw => ?_)
        · refine g_iincN C dX6_spreadRises_76 rfl (by decide) (fun x2 ex2 => ?_)
          replace hw := hw x2 ex2
          refine g_goto C 3 dX6_spreadRises_79 rfl ?_
          exact g_sub [4, 0, 1, 2, 3] rfl (hQ _ hw)
        · refine g_aload_n C dX6_spreadRises_44 rfl (by decide) rfl ?_
          refine g_iload C dX6_spreadRises_45 rfl ?_
          refine g_iload_n C dX6_spreadRises_47 rfl rfl ?_
          refine g_iload C dX6_spreadRises_48 rfl ?_
          refine g_iadd C dX6_spreadRises_50 ?_
          refine g_iload C dX6_spreadRises_51 rfl ?_
          refine g_iadd C dX6_spreadRises_53 ?_
          refine g_aload_n C dX6_spreadRises_54 rfl (by decide) rfl ?_
          refine g_aload_n C dX6_spreadRises_55 rfl (by decide) rfl ?_
          refine g_iload C dX6_spreadRises_56 rfl ?_
          refine g_callVi C [(0, v6)] (sim_X7_orZero wirC q2 hw) k_1079 k_1080 k_1081 k_136 k_1082 hdV_X7_orZero rfl rfl (by decide) rfl q2 rfl rfl rfl dX6_spreadRises_58 ?_
          intro x3 h1 hw
          refine g_iload_n C dX6_spreadRises_61 rfl rfl ?_
          refine g_iload C dX6_spreadRises_62 rfl ?_
          refine g_callVi C [(0, x3), (0, p2), (0, v4)] (sim_X6_partOf hw) k_1089 k_1091 k_42 k_144 k_1092 hdV_X6_partOf rfl rfl (by decide) rfl kdC_115 rfl rfl rfl dX6_spreadRises_64 ?_
          intro x4 h2 hw
          refine g_callVv C [(0, v4), (0, w32 (w32 (p3 + v5) + v6)), (0, x4)] (sim_X6_addSum hw) k_1093 k_1095 k_43 k_144 k_1096 hdV_X6_addSum rfl rfl (by decide) rfl kdC_115 rfl rfl rfl dX6_spreadRises_67 ?_
          intro h3 hw
          refine g_iincN C dX6_spreadRises_70 rfl (by decide) (fun x5 ex5 => ?_)
          replace hw := hw x5 ex5
          refine g_goto C 30 dX6_spreadRises_73 rfl ?_
          exact g_sub [4, 5, 6, 0, 1, 2, 3] rfl (hQ _ hw)
  show mG _ p l e _ s m args below meth c _ _ 0 [(0, (2, 115)), (1, (2, p1)), (2, (0, p2)), (3, (0, p3))] [] h
  unfold wp_X6_spreadRises at hw
  refine g_iconst C ⟨by decide, by decide⟩ dX6_spreadRises_0 ?_
  refine g_istore C dX6_spreadRises_1 (by decide) ?_
  exact g_sub [4, 0, 1, 2, 3] rfl (hQ _ hw)
set_option maxRecDepth 20000 in
set_option maxHeartbeats 4000000 in
theorem sim_X6_pourBy {z : Mz} {l : Launch} {p1 : Int} {p2 : Int} {p3 : Int} {h : Mh} {K : Mh → Prop} (hw : wp_X6_pourBy p1 p2 p3 h K) : mCal (XC z) l yX6_pourBy cX6_pourBy 6 none 2 50 [(2, 115), (0, p1), (0, p2), (0, p3)] h (mKv K) := by
  refine m_entry RX6 rfl (by decide) rfl (fun p e s m args below meth c C hr => ?_)
  have hQ : ∀ x, Lfp (F_X6_pourBy p1 p2 p3 K) x → (match x.1, x.2.1 with | 24, [v4, v5] => mG (XC z) p l e { frames := 2, cells := 0, slots := 0, locals := 50 } s m args below meth c 6 (mMQ (XC z) (mKv K) below args s) 24 [(4, (0, v4)), (5, (0, v5)), (0, (2, 115)), (1, (0, p1)), (2, (0, p2)), (3, (0, p3))] [] x.2.2 | _, _ => True) := by
    intro x hx
    refine Lfp.ind (fun x => (match x.1, x.2.1 with | 24, [v4, v5] => mG (XC z) p l e { frames := 2, cells := 0, slots := 0, locals := 50 } s m args below meth c 6 (mMQ (XC z) (mKv K) below args s) 24 [(4, (0, v4)), (5, (0, v5)), (0, (2, 115)), (1, (0, p1)), (2, (0, p2)), (3, (0, p3))] [] x.2.2 | _, _ => True)) ?_ hx
    clear hx x
    intro Z x hQ hw
    rcases hw with ⟨v4, v5, h, rfl, hw⟩
    · show mG (XC z) p l e { frames := 2, cells := 0, slots := 0, locals := 50 } s m args below meth c 6 (mMQ (XC z) (mKv K) below args s) 24 [(4, (0, v4)), (5, (0, v5)), (0, (2, 115)), (1, (0, p1)), (2, (0, p2)), (3, (0, p3))] [] h
      unfold B_X6_pourBy_24 at hw
      refine g_iload C dX6_pourBy_24 rfl ?_
      refine g_aload_n C dX6_pourBy_26 rfl (by decide) rfl ?_
      refine gw_X6_32 C dX6_pourBy_27 kdC_115 wwC_115_6 ?_
      refine gf_X6_103 C dX6_pourBy_30 kdC_121 (fun z30 => ?_)
      refine g_icmp_ge C 64 dX6_pourBy_33 rfl hw (fun hw => ?_) (fun hw => ?_)
      · refine g_aload_n C dX6_pourBy_64 rfl (by decide) rfl ?_
        refine g_aload_n C dX6_pourBy_65 rfl (by decide) rfl ?_
        refine gw_X6_36 C dX6_pourBy_66 kdC_115 wwC_115_7 ?_
        refine g_iload_n C dX6_pourBy_69 rfl rfl ?_
        refine g_iload_n C dX6_pourBy_70 rfl rfl ?_
        refine g_iload C dX6_pourBy_71 rfl ?_
        refine g_iadd C dX6_pourBy_73 ?_
        refine g_callVv C [(2, 123), (0, p1), (0, w32 (p3 + v4))] (sim_X6_spreadRises hw) k_1084 k_1086 k_41 k_144 k_1087 hdV_X6_spreadRises rfl rfl (by decide) rfl kdC_115 rfl rfl rfl dX6_pourBy_74 ?_
        intro h1 hw
        exact g_vret C hr dX6_pourBy_77 ⟨rfl, hw⟩
      · refine g_aload_n C dX6_pourBy_36 rfl (by decide) rfl ?_
        refine gw_X6_36 C dX6_pourBy_37 kdC_115 wwC_115_7 ?_
        refine g_aload_n C dX6_pourBy_40 rfl (by decide) rfl ?_
        refine g_aload_n C dX6_pourBy_41 rfl (by decide) rfl ?_
        refine gw_X6_32 C dX6_pourBy_42 kdC_115 wwC_115_6 ?_
        refine g_iload C dX6_pourBy_45 rfl ?_
        refine g_callVi C [(0, v5)] (sim_X7_orZero wirC kdC_121 hw) k_1079 k_1080 k_1081 k_136 k_1082 hdV_X7_orZero rfl rfl (by decide) rfl kdC_121 rfl rfl rfl dX6_pourBy_47 ?_
        intro x1 h2 hw
        refine g_iload_n C dX6_pourBy_50 rfl rfl ?_
        refine g_iload_n C dX6_pourBy_51 rfl rfl ?_
        refine g_callVi C [(0, x1), (0, p2), (0, p1)] (sim_X6_sentOf hw) k_1101 k_1103 k_45 k_144 k_1104 hdV_X6_sentOf rfl rfl (by decide) rfl kdC_115 rfl rfl rfl dX6_pourBy_52 ?_
        intro x2 h3 hw
        refine g_callVv C [(0, x2)] (sim_X7_add wirC kdC_123 hw) k_1083 k_839 k_840 k_136 k_841 hdV_X7_add rfl rfl (by decide) rfl kdC_123 rfl rfl rfl dX6_pourBy_55 ?_
        intro h4 hw
        refine g_iincN C dX6_pourBy_58 rfl (by decide) (fun x3 ex3 => ?_)
        replace hw := hw x3 ex3
        refine g_goto C 24 dX6_pourBy_61 rfl ?_
        exact g_sub [4, 5, 0, 1, 2, 3] rfl (hQ _ hw)
  show mG _ p l e _ s m args below meth c _ _ 0 [(0, (2, 115)), (1, (0, p1)), (2, (0, p2)), (3, (0, p3))] [] h
  unfold wp_X6_pourBy at hw
  refine g_aload_n C dX6_pourBy_0 rfl (by decide) rfl ?_
  refine g_iload_n C dX6_pourBy_1 rfl rfl ?_
  refine g_iload_n C dX6_pourBy_2 rfl rfl ?_
  refine g_callVi C [(0, p2), (0, p1)] (sim_X6_farOf hw) k_1088 k_1049 k_1050 k_144 k_1051 hdV_X6_farOf rfl rfl (by decide) rfl kdC_115 rfl rfl rfl dX6_pourBy_3 ?_
  intro x1 h1 hw
  refine g_istore C dX6_pourBy_6 (by decide) ?_
  refine g_iload C dX6_pourBy_8 rfl ?_
  refine g_if_ge C 14 dX6_pourBy_10 rfl hw (fun hw => ?_) (fun hw => ?_)
  · refine g_aload_n C dX6_pourBy_14 rfl (by decide) rfl ?_
    refine gw_X6_36 C dX6_pourBy_15 kdC_115 wwC_115_7 ?_
    refine g_callVv C [] (sim_X7_clear wirC kdC_123 hw) k_1078 k_255 k_256 k_136 k_257 hdV_X7_clear rfl rfl (by decide) rfl kdC_123 rfl rfl rfl dX6_pourBy_18 ?_
    intro h2 hw
    refine g_iconst C ⟨by decide, by decide⟩ dX6_pourBy_21 ?_
    refine g_istore C dX6_pourBy_22 (by decide) ?_
    exact g_sub [4, 5, 0, 1, 2, 3] rfl (hQ _ hw)
  · exact g_vret C hr dX6_pourBy_13 ⟨rfl, hw⟩
set_option maxRecDepth 20000 in
set_option maxHeartbeats 4000000 in
theorem sim_X6_pour {z : Mz} {l : Launch} {p1 : Int} {p2 : Int} {p3 : Int} {p4 : Int} {h : Mh} {K : Mh → Prop} (hw : wp_X6_pour p1 p2 p3 p4 h K) : mCal (XC z) l yX6_pour cX6_pour 8 none 3 75 [(2, 115), (0, p1), (0, p2), (0, p3), (0, p4)] h (mKv K) := by
  refine m_entry RX6 rfl (by decide) rfl (fun p e s m args below meth c C hr => ?_)
  have hQ : ∀ x, Lfp (F_X6_pour p1 p2 p3 p4 K) x → (match x.1, x.2.1 with | 35, [v5, v6, v7] => mG (XC z) p l e { frames := 3, cells := 0, slots := 0, locals := 75 } s m args below meth c 8 (mMQ (XC z) (mKv K) below args s) 35 [(5, (2, v5)), (6, (2, v6)), (7, (0, v7)), (0, (2, 115)), (1, (0, p1)), (2, (0, p2)), (3, (0, p3)), (4, (0, p4))] [] x.2.2 | 81, [v6, v7] => mG (XC z) p l e { frames := 3, cells := 0, slots := 0, locals := 75 } s m args below meth c 8 (mMQ (XC z) (mKv K) below args s) 81 [(6, (2, v6)), (7, (0, v7)), (0, (2, 115)), (1, (0, p1)), (2, (0, p2)), (3, (0, p3)), (4, (0, p4))] [] x.2.2 | _, _ => True) := by
    intro x hx
    refine Lfp.ind (fun x => (match x.1, x.2.1 with | 35, [v5, v6, v7] => mG (XC z) p l e { frames := 3, cells := 0, slots := 0, locals := 75 } s m args below meth c 8 (mMQ (XC z) (mKv K) below args s) 35 [(5, (2, v5)), (6, (2, v6)), (7, (0, v7)), (0, (2, 115)), (1, (0, p1)), (2, (0, p2)), (3, (0, p3)), (4, (0, p4))] [] x.2.2 | 81, [v6, v7] => mG (XC z) p l e { frames := 3, cells := 0, slots := 0, locals := 75 } s m args below meth c 8 (mMQ (XC z) (mKv K) below args s) 81 [(6, (2, v6)), (7, (0, v7)), (0, (2, 115)), (1, (0, p1)), (2, (0, p2)), (3, (0, p3)), (4, (0, p4))] [] x.2.2 | _, _ => True)) ?_ hx
    clear hx x
    intro Z x hQ hw
    rcases hw with ⟨v5, v6, v7, h, rfl, hw⟩ | ⟨v6, v7, h, rfl, hw⟩
    · show mG (XC z) p l e { frames := 3, cells := 0, slots := 0, locals := 75 } s m args below meth c 8 (mMQ (XC z) (mKv K) below args s) 35 [(5, (2, v5)), (6, (2, v6)), (7, (0, v7)), (0, (2, 115)), (1, (0, p1)), (2, (0, p2)), (3, (0, p3)), (4, (0, p4))] [] h
      unfold B_X6_pour_35 at hw
      refine g_iload C dX6_pour_35 rfl ?_
      refine g_aload C dX6_pour_37 (by decide) rfl ?_
      obtain ⟨q3, hw⟩ := hw
      refine gf_X6_103 C dX6_pour_39 q3 (fun z39 => ?_)
      refine g_icmp_ge C 68 dX6_pour_42 rfl hw (fun hw => ?_) (fun hw => ?_)
      · refine g_aload_n C dX6_pour_68 rfl (by decide) rfl ?_
        refine g_aload_n C dX6_pour_69 rfl (by decide) rfl ?_
        refine gw_X6_32 C dX6_pour_70 kdC_115 wwC_115_6 ?_
        refine g_iload_n C dX6_pour_73 rfl rfl ?_
        refine g_iload_n C dX6_pour_74 rfl rfl ?_
        refine g_callVv C [(2, 121), (0, p2), (0, p3)] (sim_X6_spreadRises hw) k_1084 k_1086 k_41 k_144 k_1087 hdV_X6_spreadRises rfl rfl (by decide) rfl kdC_115 rfl rfl rfl dX6_pour_75 ?_
        intro h1 hw
        refine g_iconst C ⟨by decide, by decide⟩ dX6_pour_78 ?_
        refine g_istore C dX6_pour_79 (by decide) ?_
        exact g_sub [6, 7, 0, 1, 2, 3, 4] rfl (hQ _ hw)
      · refine g_aload_n C dX6_pour_45 rfl (by decide) rfl ?_
        refine gw_X6_32 C dX6_pour_46 kdC_115 wwC_115_6 ?_
        refine g_aload C dX6_pour_49 (by decide) rfl ?_
        refine g_iload C dX6_pour_51 rfl ?_
        refine g_callVi C [(0, v7)] (sim_X7_orZero wirC q3 hw) k_1079 k_1080 k_1081 k_136 k_1082 hdV_X7_orZero rfl rfl (by decide) rfl q3 rfl rfl rfl dX6_pour_53 ?_
        intro x1 h2 hw
        refine g_iload C dX6_pour_56 rfl ?_
        refine g_imul C dX6_pour_58 ?_
        refine g_callVv C [(0, w32 (x1 * p4))] (sim_X7_add wirC kdC_121 hw) k_1083 k_839 k_840 k_136 k_841 hdV_X7_add rfl rfl (by decide) rfl kdC_121 rfl rfl rfl dX6_pour_59 ?_
        intro h3 hw
        refine g_iincN C dX6_pour_62 rfl (by decide) (fun x2 ex2 => ?_)
        replace hw := hw x2 ex2
        refine g_goto C 35 dX6_pour_65 rfl ?_
        exact g_sub [5, 6, 7, 0, 1, 2, 3, 4] rfl (hQ _ hw)
    · show mG (XC z) p l e { frames := 3, cells := 0, slots := 0, locals := 75 } s m args below meth c 8 (mMQ (XC z) (mKv K) below args s) 81 [(6, (2, v6)), (7, (0, v7)), (0, (2, 115)), (1, (0, p1)), (2, (0, p2)), (3, (0, p3)), (4, (0, p4))] [] h
      unfold B_X6_pour_81 at hw
      refine g_iload C dX6_pour_81 rfl ?_
      refine g_aload C dX6_pour_83 (by decide) rfl ?_
      obtain ⟨q4, hw⟩ := hw
      refine gf_X6_103 C dX6_pour_85 q4 (fun z85 => ?_)
      refine g_icmp_ge C 110 dX6_pour_88 rfl hw (fun hw => ?_) (fun hw => ?_)
      · exact g_vret C hr dX6_pour_110 ⟨rfl, hw⟩
      · refine g_aload_n C dX6_pour_91 rfl (by decide) rfl ?_
        refine g_aload C dX6_pour_92 (by decide) rfl ?_
        refine g_iload C dX6_pour_94 rfl ?_
        refine g_callVi C [(0, v7)] (sim_X7_orZero wirC q4 hw) k_1079 k_1080 k_1081 k_136 k_1082 hdV_X7_orZero rfl rfl (by decide) rfl q4 rfl rfl rfl dX6_pour_96 ?_
        intro x1 h1 hw
        refine g_iload_n C dX6_pour_99 rfl rfl ?_
        refine g_iload_n C dX6_pour_100 rfl rfl ?_
        refine g_callVv C [(0, x1), (0, p2), (0, p3)] (sim_X6_pourBy hw) k_1097 k_1099 k_44 k_144 k_1100 hdV_X6_pourBy rfl rfl (by decide) rfl kdC_115 rfl rfl rfl dX6_pour_101 ?_
        intro h2 hw
        refine g_iincN C dX6_pour_104 rfl (by decide) (fun x2 ex2 => ?_)
        replace hw := hw x2 ex2
        refine g_goto C 81 dX6_pour_107 rfl ?_
        exact g_sub [6, 7, 0, 1, 2, 3, 4] rfl (hQ _ hw)
  show mG _ p l e _ s m args below meth c _ _ 0 [(0, (2, 115)), (1, (0, p1)), (2, (0, p2)), (3, (0, p3)), (4, (0, p4))] [] h
  unfold wp_X6_pour at hw
  refine g_aload_n C dX6_pour_0 rfl (by decide) rfl ?_
  refine gw_X6_39 C dX6_pour_1 kdC_115 wwC_115_0 ?_
  refine gf_X6_52 C dX6_pour_4 kdC_53 (fun z4 => ?_)
  refine g_iload_n C dX6_pour_7 rfl rfl ?_
  obtain ⟨q1, hw⟩ := hw
  refine g_callVr C [(0, p1)] (sim_X5_risesOf wirC q1 hw) k_1077 k_847 k_848 k_135 k_849 hdV_X5_risesOf rfl rfl (by decide) rfl q1 rfl rfl rfl dX6_pour_8 ?_
  intro x1 h1 hw
  refine g_astore C dX6_pour_11 (by decide) (by decide) ?_
  refine g_aload_n C dX6_pour_13 rfl (by decide) rfl ?_
  refine gw_X6_39 C dX6_pour_14 kdC_115 wwC_115_0 ?_
  refine gf_X6_52 C dX6_pour_17 kdC_53 (fun z17 => ?_)
  obtain ⟨q2, hw⟩ := hw
  refine gw_X6_97 C dX6_pour_20 q2 (wir_4_4 wirC q2) ?_
  refine g_astore C dX6_pour_23 (by decide) (by decide) ?_
  refine g_aload_n C dX6_pour_25 rfl (by decide) rfl ?_
  refine gw_X6_32 C dX6_pour_26 kdC_115 wwC_115_6 ?_
  refine g_callVv C [] (sim_X7_clear wirC kdC_121 hw) k_1078 k_255 k_256 k_136 k_257 hdV_X7_clear rfl rfl (by decide) rfl kdC_121 rfl rfl rfl dX6_pour_29 ?_
  intro h2 hw
  refine g_iconst C ⟨by decide, by decide⟩ dX6_pour_32 ?_
  refine g_istore C dX6_pour_33 (by decide) ?_
  exact g_sub [5, 6, 7, 0, 1, 2, 3, 4] rfl (hQ _ hw)
set_option maxRecDepth 20000 in
set_option maxHeartbeats 4000000 in
theorem sim_X6_freshenSums {z : Mz} {l : Launch} {h : Mh} {K : Mh → Prop} (hw : wp_X6_freshenSums h K) : mCal (XC z) l yX6_freshenSums cX6_freshenSums 3 none 4 102 [(2, 115)] h (mKv K) := by
  refine m_entry RX6 rfl (by decide) rfl (fun p e s m args below meth c C hr => ?_)
  have hQ : ∀ x, Lfp (F_X6_freshenSums K) x → (match x.1, x.2.1 with | 25, [v1] => mG (XC z) p l e { frames := 4, cells := 0, slots := 0, locals := 102 } s m args below meth c 3 (mMQ (XC z) (mKv K) below args s) 25 [(1, (0, v1)), (0, (2, 115))] [] x.2.2 | 75, [v2] => mG (XC z) p l e { frames := 4, cells := 0, slots := 0, locals := 102 } s m args below meth c 3 (mMQ (XC z) (mKv K) below args s) 75 [(1, (2, 98)), (2, (0, v2)), (0, (2, 115))] [] x.2.2 | _, _ => True) := by
    intro x hx
    refine Lfp.ind (fun x => (match x.1, x.2.1 with | 25, [v1] => mG (XC z) p l e { frames := 4, cells := 0, slots := 0, locals := 102 } s m args below meth c 3 (mMQ (XC z) (mKv K) below args s) 25 [(1, (0, v1)), (0, (2, 115))] [] x.2.2 | 75, [v2] => mG (XC z) p l e { frames := 4, cells := 0, slots := 0, locals := 102 } s m args below meth c 3 (mMQ (XC z) (mKv K) below args s) 75 [(1, (2, 98)), (2, (0, v2)), (0, (2, 115))] [] x.2.2 | _, _ => True)) ?_ hx
    clear hx x
    intro Z x hQ hw
    rcases hw with ⟨v1, h, rfl, hw⟩ | ⟨v2, h, rfl, hw⟩
    · show mG (XC z) p l e { frames := 4, cells := 0, slots := 0, locals := 102 } s m args below meth c 3 (mMQ (XC z) (mKv K) below args s) 25 [(1, (0, v1)), (0, (2, 115))] [] h
      unfold B_X6_freshenSums_25 at hw
      refine g_iload_n C dX6_freshenSums_25 rfl rfl ?_
      refine g_aload_n C dX6_freshenSums_26 rfl (by decide) rfl ?_
      refine gw_X6_39 C dX6_freshenSums_27 kdC_115 wwC_115_0 ?_
      refine gf_X6_52 C dX6_freshenSums_30 kdC_53 (fun z30 => ?_)
      obtain ⟨q1, hw⟩ := hw
      refine g_callVi C [] (sim_X5_cells wirC q1 hw) k_1030 k_1031 k_1032 k_135 k_1033 hdV_X5_cells rfl rfl (by decide) rfl q1 rfl rfl rfl dX6_freshenSums_33 ?_
      intro x1 h1 hw
      refine g_sipush C ⟨by decide, by decide⟩ (by decide) dX6_freshenSums_36 ?_
      refine g_imul C dX6_freshenSums_39 ?_
      refine g_icmp_ge C 65 dX6_freshenSums_40 rfl hw (fun hw => ?_) (fun hw => ?_)
      · refine g_aload_n C dX6_freshenSums_65 rfl (by decide) rfl ?_
        refine gw_X6_39 C dX6_freshenSums_66 kdC_115 wwC_115_0 ?_
        refine gw_X6_71 C dX6_freshenSums_69 kdC_53 wwC_53_2 ?_
        refine g_astore_n C dX6_freshenSums_72 rfl (by decide) (by decide) ?_
        refine g_iconst C ⟨by decide, by decide⟩ dX6_freshenSums_73 ?_
        refine g_istore_n C dX6_freshenSums_74 rfl (by decide) ?_
        exact g_sub [1, 2, 0] rfl (hQ _ hw)
      · refine g_iload_n C dX6_freshenSums_43 rfl rfl ?_
        refine g_aload_n C dX6_freshenSums_44 rfl (by decide) rfl ?_
        refine gw_X6_24 C dX6_freshenSums_45 kdC_115 wwC_115_5 ?_
        refine g_alen C dX6_freshenSums_48 (ci := 14) (by decide) skC_120 (by decide) ?_
        refine g_icmp_ge C 65 dX6_freshenSums_49 rfl hw (fun hw => ?_) (fun hw => ?_)
        · refine g_aload_n C dX6_freshenSums_65 rfl (by decide) rfl ?_
          refine gw_X6_39 C dX6_freshenSums_66 kdC_115 wwC_115_0 ?_
          refine gw_X6_71 C dX6_freshenSums_69 kdC_53 wwC_53_2 ?_
          refine g_astore_n C dX6_freshenSums_72 rfl (by decide) (by decide) ?_
          refine g_iconst C ⟨by decide, by decide⟩ dX6_freshenSums_73 ?_
          refine g_istore_n C dX6_freshenSums_74 rfl (by decide) ?_
          exact g_sub [1, 2, 0] rfl (hQ _ hw)
        · refine g_aload_n C dX6_freshenSums_52 rfl (by decide) rfl ?_
          refine gw_X6_24 C dX6_freshenSums_53 kdC_115 wwC_115_5 ?_
          refine g_iload_n C dX6_freshenSums_56 rfl rfl ?_
          refine g_iconst C ⟨by decide, by decide⟩ dX6_freshenSums_57 ?_
          obtain ⟨⟨b1, b1b⟩, hw⟩ := hw
          refine g_iastore C dX6_freshenSums_58 kdC_120 b1 b1b (fun z => z) ?_
          refine g_heap (fun h2 eh2 => ?_)
          replace hw := hw h2 eh2
          refine g_iincN C dX6_freshenSums_59 rfl (by decide) (fun x2 ex2 => ?_)
          replace hw := hw x2 ex2
          refine g_goto C 25 dX6_freshenSums_62 rfl ?_
          exact g_sub [1, 0] rfl (hQ _ hw)
    · show mG (XC z) p l e { frames := 4, cells := 0, slots := 0, locals := 102 } s m args below meth c 3 (mMQ (XC z) (mKv K) below args s) 75 [(1, (2, 98)), (2, (0, v2)), (0, (2, 115))] [] h
      unfold B_X6_freshenSums_75 at hw
      refine g_iload_n C dX6_freshenSums_75 rfl rfl ?_
      refine g_aload_n C dX6_freshenSums_76 rfl (by decide) rfl ?_
      refine gf_X6_75 C dX6_freshenSums_77 kdC_98 (fun z77 => ?_)
      refine g_icmp_ge C 112 dX6_freshenSums_80 rfl hw (fun hw => ?_) (fun hw => ?_)
      · exact g_vret C hr dX6_freshenSums_112 ⟨rfl, hw⟩
      · refine g_aload_n C dX6_freshenSums_83 rfl (by decide) rfl ?_
        refine g_aload_n C dX6_freshenSums_84 rfl (by decide) rfl ?_
        refine gw_X6_81 C dX6_freshenSums_85 kdC_98 wwC_98_0 ?_
        refine g_iload_n C dX6_freshenSums_88 rfl rfl ?_
        obtain ⟨⟨b2, b2b⟩, hw⟩ := hw
        refine g_iaload C dX6_freshenSums_89 kdC_99 b2 b2b (fun z89 => ?_)
        refine g_aload_n C dX6_freshenSums_90 rfl (by decide) rfl ?_
        refine gw_X6_84 C dX6_freshenSums_91 kdC_98 wwC_98_1 ?_
        refine g_iload_n C dX6_freshenSums_94 rfl rfl ?_
        obtain ⟨⟨b3, b3b⟩, hw⟩ := hw
        refine g_iaload C dX6_freshenSums_95 kdC_100 b3 b3b (fun z95 => ?_)
        refine g_aload_n C dX6_freshenSums_96 rfl (by decide) rfl ?_
        refine gw_X6_86 C dX6_freshenSums_97 kdC_98 wwC_98_2 ?_
        refine g_iload_n C dX6_freshenSums_100 rfl rfl ?_
        obtain ⟨⟨b4, b4b⟩, hw⟩ := hw
        refine g_iaload C dX6_freshenSums_101 kdC_101 b4 b4b (fun z101 => ?_)
        refine g_iconst C ⟨by decide, by decide⟩ dX6_freshenSums_102 ?_
        refine g_callVv C [(0, (h 99 v2)), (0, (h 100 v2)), (0, (h 101 v2)), (0, 1)] (sim_X6_pour hw) k_1073 k_1074 k_1075 k_144 k_1076 hdV_X6_pour rfl rfl (by decide) rfl kdC_115 rfl rfl rfl dX6_freshenSums_103 ?_
        intro h1 hw
        refine g_iincN C dX6_freshenSums_106 rfl (by decide) (fun x1 ex1 => ?_)
        replace hw := hw x1 ex1
        refine g_goto C 75 dX6_freshenSums_109 rfl ?_
        exact g_sub [1, 2, 0] rfl (hQ _ hw)
  show mG _ p l e _ s m args below meth c _ _ 0 [(0, (2, 115))] [] h
  unfold wp_X6_freshenSums at hw
  refine g_aload_n C dX6_freshenSums_0 rfl (by decide) rfl ?_
  refine g_callVv C [] (sim_X6_freshenWays hw) k_1072 k_1018 k_1019 k_144 k_1020 hdV_X6_freshenWays rfl rfl (by decide) rfl kdC_115 rfl rfl rfl dX6_freshenSums_1 ?_
  intro h1 hw
  refine g_aload_n C dX6_freshenSums_4 rfl (by decide) rfl ?_
  refine gw_X6_39 C dX6_freshenSums_5 kdC_115 wwC_115_0 ?_
  refine gf_X6_68 C dX6_freshenSums_8 kdC_53 (fun z8 => ?_)
  refine g_if_ne C 15 dX6_freshenSums_11 rfl hw (fun hw => ?_) (fun hw => ?_)
  · refine g_aload_n C dX6_freshenSums_15 rfl (by decide) rfl ?_
    refine gw_X6_39 C dX6_freshenSums_16 kdC_115 wwC_115_0 ?_
    refine g_iconst C ⟨by decide, by decide⟩ dX6_freshenSums_19 ?_
    refine gp_X6_68 C dX6_freshenSums_20 kdC_53 (fun _ => (Or.inl rfl)) ?_
    refine g_heap (fun h2 eh2 => ?_)
    replace hw := hw h2 eh2
    refine g_iconst C ⟨by decide, by decide⟩ dX6_freshenSums_23 ?_
    refine g_istore_n C dX6_freshenSums_24 rfl (by decide) ?_
    exact g_sub [1, 0] rfl (hQ _ hw)
  · exact g_vret C hr dX6_freshenSums_14 ⟨rfl, hw⟩
set_option maxRecDepth 20000 in
set_option maxHeartbeats 4000000 in
theorem sim_X8_arrivalOnPath {z : Mz} {l : Launch} {p1 : Int} {p2 : Int} {h : Mh} {K : Int → Mh → Prop} (hw : wp_X8_arrivalOnPath p1 p2 h K) : mCal (XC z) l yX8_arrivalOnPath cX8_arrivalOnPath 4 (some Jvm.ClassFile.FieldType.int) 0 0 [(2, 125), (0, p1), (0, p2)] h (mKi K) := by
  refine m_entry RX8 rfl (by decide) rfl (fun p e s m args below meth c C hr => ?_)
  have hQ : ∀ x, Lfp (F_X8_arrivalOnPath p1 p2 K) x → (match x.1, x.2.1 with | 2, [v3] => mG (XC z) p l e { frames := 0, cells := 0, slots := 0, locals := 0 } s m args below meth c 4 (mMQ (XC z) (mKi K) below args s) 2 [(3, (0, v3)), (0, (2, 125)), (1, (0, p1)), (2, (0, p2))] [] x.2.2 | _, _ => True) := by
    intro x hx
    refine Lfp.ind (fun x => (match x.1, x.2.1 with | 2, [v3] => mG (XC z) p l e { frames := 0, cells := 0, slots := 0, locals := 0 } s m args below meth c 4 (mMQ (XC z) (mKi K) below args s) 2 [(3, (0, v3)), (0, (2, 125)), (1, (0, p1)), (2, (0, p2))] [] x.2.2 | _, _ => True)) ?_ hx
    clear hx x
    intro Z x hQ hw
    rcases hw with ⟨v3, h, rfl, hw⟩
    · show mG (XC z) p l e { frames := 0, cells := 0, slots := 0, locals := 0 } s m args below meth c 4 (mMQ (XC z) (mKi K) below args s) 2 [(3, (0, v3)), (0, (2, 125)), (1, (0, p1)), (2, (0, p2))] [] h
      unfold B_X8_arrivalOnPath_2 at hw
      refine g_iload_n C dX8_arrivalOnPath_2 rfl rfl ?_
      refine g_iload_n C dX8_arrivalOnPath_3 rfl rfl ?_
      refine g_icmp_gt C 34 dX8_arrivalOnPath_4 rfl hw (fun hw => ?_) (fun hw => ?_)
      · refine g_bipush C ⟨by decide, by decide⟩ (by decide) dX8_arrivalOnPath_34 ?_
        exact g_iret C hr dX8_arrivalOnPath_36 ⟨_, rfl, hw⟩
      · refine g_iload_n C dX8_arrivalOnPath_7 rfl rfl ?_
        refine g_aload_n C dX8_arrivalOnPath_8 rfl (by decide) rfl ?_
        refine gw_X8_9 C dX8_arrivalOnPath_9 kdC_125 wwC_125_2 ?_
        refine g_alen C dX8_arrivalOnPath_12 (ci := 14) (by decide) skC_126 (by decide) ?_
        refine g_icmp_ge C 34 dX8_arrivalOnPath_13 rfl hw (fun hw => ?_) (fun hw => ?_)
        · refine g_bipush C ⟨by decide, by decide⟩ (by decide) dX8_arrivalOnPath_34 ?_
          exact g_iret C hr dX8_arrivalOnPath_36 ⟨_, rfl, hw⟩
        · refine g_aload_n C dX8_arrivalOnPath_16 rfl (by decide) rfl ?_
          refine gw_X8_9 C dX8_arrivalOnPath_17 kdC_125 wwC_125_2 ?_
          refine g_iload_n C dX8_arrivalOnPath_20 rfl rfl ?_
          obtain ⟨⟨b1, b1b⟩, hw⟩ := hw
          refine g_iaload C dX8_arrivalOnPath_21 kdC_126 b1 b1b (fun z21 => ?_)
          refine g_iload_n C dX8_arrivalOnPath_22 rfl rfl ?_
          refine g_icmp_ne C 28 dX8_arrivalOnPath_23 rfl hw (fun hw => ?_) (fun hw => ?_)
          · refine g_iincN C dX8_arrivalOnPath_28 rfl (by decide) (fun x1 ex1 => ?_)
            replace hw := hw x1 ex1
            refine g_goto C 2 dX8_arrivalOnPath_31 rfl ?_
            exact g_sub [3, 0, 1, 2] rfl (hQ _ hw)
          · refine g_iload_n C dX8_arrivalOnPath_26 rfl rfl ?_
            exact g_iret C hr dX8_arrivalOnPath_27 ⟨_, rfl, hw⟩
  show mG _ p l e _ s m args below meth c _ _ 0 [(0, (2, 125)), (1, (0, p1)), (2, (0, p2))] [] h
  unfold wp_X8_arrivalOnPath at hw
  refine g_iconst C ⟨by decide, by decide⟩ dX8_arrivalOnPath_0 ?_
  refine g_istore_n C dX8_arrivalOnPath_1 rfl (by decide) ?_
  exact g_sub [3, 0, 1, 2] rfl (hQ _ hw)
