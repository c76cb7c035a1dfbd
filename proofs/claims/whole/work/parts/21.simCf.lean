set_option maxRecDepth 20000 in
set_option maxHeartbeats 4000000 in
theorem sim_X13_strike {z : Mz} {l : Launch} {p1 : Int} {h : Mh} {K : Int → Mh → Prop} (hw : wp_X13_strike p1 h K) : mCal (XC z) l yX13_strike cX13_strike 2 (some Jvm.ClassFile.FieldType.int) 1 21 [(2, 0), (0, p1)] h (mKi K) := by
  refine m_entry RX13 rfl (by decide) rfl (fun p e s m args below meth c C hr => ?_)
  show mG _ p l e _ s m args below meth c _ _ 0 [(0, (2, 0)), (1, (0, p1))] [] h
  unfold wp_X13_strike at hw
  refine g_aload_n C dX13_strike_0 rfl (by decide) rfl ?_
  refine gw_X13_43 C dX13_strike_1 kdC_0 wwC_0_5 ?_
  refine g_iload_n C dX13_strike_4 rfl rfl ?_
  refine g_callVi C [(0, p1)] (sim_X4_addStrike hw) k_1264 k_1265 k_1266 k_143 k_1267 hdV_X4_addStrike rfl rfl (by decide) rfl kdC_107 rfl rfl rfl dX13_strike_5 ?_
  intro x1 h1 hw
  exact g_iret C hr dX13_strike_8 ⟨_, rfl, hw⟩
set_option maxRecDepth 20000 in
set_option maxHeartbeats 4000000 in
theorem sim_X13_tale {z : Mz} {l : Launch} {p1 : Int} {p2 : Int} {h : Mh} {K : Int → Mh → Prop} (hw : wp_X13_tale p1 p2 h K) : mCal (XC z) l yX13_tale cX13_tale 3 (some Jvm.ClassFile.FieldType.int) 6 160 [(2, 0), (0, p1), (0, p2)] h (mKi K) := by
  refine m_entry RX13 rfl (by decide) rfl (fun p e s m args below meth c C hr => ?_)
  show mG _ p l e _ s m args below meth c _ _ 0 [(0, (2, 0)), (1, (0, p1)), (2, (0, p2))] [] h
  unfold wp_X13_tale at hw
  refine g_iload_n C dX13_tale_0 rfl rfl ?_
  refine g_if_lt C 13 dX13_tale_1 rfl hw (fun hw => ?_) (fun hw => ?_)
  · refine g_iconst C ⟨by decide, by decide⟩ dX13_tale_13 ?_
    exact g_iret C hr dX13_tale_14 ⟨_, rfl, hw⟩
  · refine g_iload_n C dX13_tale_4 rfl rfl ?_
    refine g_if_lt C 13 dX13_tale_5 rfl hw (fun hw => ?_) (fun hw => ?_)
    · refine g_iconst C ⟨by decide, by decide⟩ dX13_tale_13 ?_
      exact g_iret C hr dX13_tale_14 ⟨_, rfl, hw⟩
    · refine g_iload_n C dX13_tale_8 rfl rfl ?_
      refine g_iconst C ⟨by decide, by decide⟩ dX13_tale_9 ?_
      refine g_icmp_le C 15 dX13_tale_10 rfl hw (fun hw => ?_) (fun hw => ?_)
      · refine g_aload_n C dX13_tale_15 rfl (by decide) rfl ?_
        refine gw_X13_52 C dX13_tale_16 kdC_0 wwC_0_6 ?_
        refine g_callVv C [] (sim_X6_freshenWays hw) k_1017 k_1018 k_1019 k_144 k_1020 hdV_X6_freshenWays rfl rfl (by decide) rfl kdC_115 rfl rfl rfl dX13_tale_19 ?_
        intro h1 hw
        refine g_aload_n C dX13_tale_22 rfl (by decide) rfl ?_
        refine gw_X13_70 C dX13_tale_23 kdC_0 wwC_0_8 ?_
        refine g_iload_n C dX13_tale_26 rfl rfl ?_
        refine g_callVi C [(0, p1)] (sim_X2_walkTales hw) k_1280 k_1281 k_1282 k_146 k_1283 hdV_X2_walkTales rfl rfl (by decide) rfl kdC_127 rfl rfl rfl dX13_tale_27 ?_
        intro x1 h2 hw
        refine g_iload_n C dX13_tale_30 rfl rfl ?_
        refine g_icmp_le C 49 dX13_tale_31 rfl hw (fun hw => ?_) (fun hw => ?_)
        · refine g_bipush C ⟨by decide, by decide⟩ (by decide) dX13_tale_49 ?_
          exact g_iret C hr dX13_tale_51 ⟨_, rfl, hw⟩
        · refine g_aload_n C dX13_tale_34 rfl (by decide) rfl ?_
          refine gw_X13_70 C dX13_tale_35 kdC_0 wwC_0_8 ?_
          refine gw_X13_272 C dX13_tale_38 kdC_127 wwC_127_3 ?_
          refine g_iconst C ⟨by decide, by decide⟩ dX13_tale_41 ?_
          refine g_iload_n C dX13_tale_42 rfl rfl ?_
          refine g_callVi C [(0, 0), (0, p2)] (sim_X1_part wirC kdC_128 hw) k_1009 k_1010 k_1011 k_138 k_1012 hdV_X1_part rfl rfl (by decide) rfl kdC_128 rfl rfl rfl dX13_tale_43 ?_
          intro x2 h3 hw
          refine g_goto C 51 dX13_tale_46 rfl ?_
          exact g_iret C hr dX13_tale_51 ⟨_, rfl, hw⟩
      · refine g_iconst C ⟨by decide, by decide⟩ dX13_tale_13 ?_
        exact g_iret C hr dX13_tale_14 ⟨_, rfl, hw⟩
set_option maxRecDepth 20000 in
set_option maxHeartbeats 4000000 in
theorem sim_X13_tales {z : Mz} {l : Launch} {h : Mh} {K : Int → Mh → Prop} (hw : wp_X13_tales h K) : mCal (XC z) l yX13_tales cX13_tales 1 (some Jvm.ClassFile.FieldType.int) 6 160 [(2, 0)] h (mKi K) := by
  refine m_entry RX13 rfl (by decide) rfl (fun p e s m args below meth c C hr => ?_)
  show mG _ p l e _ s m args below meth c _ _ 0 [(0, (2, 0))] [] h
  unfold wp_X13_tales at hw
  refine g_aload_n C dX13_tales_0 rfl (by decide) rfl ?_
  refine gw_X13_52 C dX13_tales_1 kdC_0 wwC_0_6 ?_
  refine g_callVv C [] (sim_X6_freshenWays hw) k_1017 k_1018 k_1019 k_144 k_1020 hdV_X6_freshenWays rfl rfl (by decide) rfl kdC_115 rfl rfl rfl dX13_tales_4 ?_
  intro h1 hw
  refine g_aload_n C dX13_tales_7 rfl (by decide) rfl ?_
  refine gw_X13_70 C dX13_tales_8 kdC_0 wwC_0_8 ?_
  refine g_iconst C ⟨by decide, by decide⟩ dX13_tales_11 ?_
  refine g_callVi C [(0, (-1))] (sim_X2_walkTales hw) k_1280 k_1281 k_1282 k_146 k_1283 hdV_X2_walkTales rfl rfl (by decide) rfl kdC_127 rfl rfl rfl dX13_tales_12 ?_
  intro x1 h2 hw
  exact g_iret C hr dX13_tales_15 ⟨_, rfl, hw⟩
set_option maxRecDepth 20000 in
set_option maxHeartbeats 4000000 in
theorem sim_X4_clear {z : Mz} {l : Launch} {h : Mh} {K : Mh → Prop} (hw : wp_X4_clear h K) : mCal (XC z) l yX4_clear cX4_clear 1 none 0 0 [(2, 107)] h (mKv K) := by
  refine m_entry RX4 rfl (by decide) rfl (fun p e s m args below meth c C hr => ?_)
  show mG _ p l e _ s m args below meth c _ _ 0 [(0, (2, 107))] [] h
  unfold wp_X4_clear at hw
  refine g_aload_n C dX4_clear_0 rfl (by decide) rfl ?_
  refine g_iconst C ⟨by decide, by decide⟩ dX4_clear_1 ?_
  refine gp_X4_41 C dX4_clear_2 kdC_107 (fun z => z) ?_
  refine g_heap (fun h1 eh1 => ?_)
  replace hw := hw h1 eh1
  refine g_aload_n C dX4_clear_5 rfl (by decide) rfl ?_
  refine g_iconst C ⟨by decide, by decide⟩ dX4_clear_6 ?_
  refine gp_X4_37 C dX4_clear_7 kdC_107 (fun z => z) ?_
  refine g_heap (fun h2 eh2 => ?_)
  replace hw := hw h2 eh2
  exact g_vret C hr dX4_clear_10 ⟨rfl, hw⟩
set_option maxRecDepth 20000 in
set_option maxHeartbeats 4000000 in
theorem sim_X9_refuse {z : Mz} {l : Launch} {p1 : Int} {h : Mh} {K : Int → Mh → Prop} (hw : wp_X9_refuse p1 h K) : mCal (XC z) l yX9_refuse cX9_refuse 2 (some Jvm.ClassFile.FieldType.boolean) 0 0 [(2, 46), (0, p1)] h (mKz K) := by
  refine m_entry RX9 rfl (by decide) rfl (fun p e s m args below meth c C hr => ?_)
  show mG _ p l e _ s m args below meth c _ _ 0 [(0, (2, 46)), (1, (0, p1))] [] h
  unfold wp_X9_refuse at hw
  refine g_aload_n C dX9_refuse_0 rfl (by decide) rfl ?_
  refine g_iload_n C dX9_refuse_1 rfl rfl ?_
  refine gp_X9_40 C dX9_refuse_2 kdC_46 (fun z => z) ?_
  refine g_heap (fun h1 eh1 => ?_)
  replace hw := hw h1 eh1
  refine g_aload_n C dX9_refuse_5 rfl (by decide) rfl ?_
  refine g_aload_n C dX9_refuse_6 rfl (by decide) rfl ?_
  refine gw_X9_27 C dX9_refuse_7 kdC_46 wwC_46_0 ?_
  refine gf_X9_76 C dX9_refuse_10 kdC_49 (fun z10 => ?_)
  refine gp_X9_9 C dX9_refuse_13 kdC_46 (fun z => z) ?_
  refine g_heap (fun h2 eh2 => ?_)
  replace hw := hw h2 eh2
  refine g_iconst C ⟨by decide, by decide⟩ dX9_refuse_16 ?_
  exact g_zret C hr (Or.inl rfl) dX9_refuse_17 ⟨_, rfl, (Or.inl rfl), hw⟩
set_option maxRecDepth 20000 in
set_option maxHeartbeats 4000000 in
theorem sim_X9_lineEnds {z : Mz} {l : Launch} {h : Mh} {K : Int → Mh → Prop} (hw : wp_X9_lineEnds h K) : mCal (XC z) l yX9_lineEnds cX9_lineEnds 1 (some Jvm.ClassFile.FieldType.boolean) 1 21 [(2, 46)] h (mKz K) := by
  refine m_entry RX9 rfl (by decide) rfl (fun p e s m args below meth c C hr => ?_)
  show mG _ p l e _ s m args below meth c _ _ 0 [(0, (2, 46))] [] h
  unfold wp_X9_lineEnds at hw
  refine g_aload_n C dX9_lineEnds_0 rfl (by decide) rfl ?_
  refine gw_X9_27 C dX9_lineEnds_1 kdC_46 wwC_46_0 ?_
  refine g_bipush C ⟨by decide, by decide⟩ (by decide) dX9_lineEnds_4 ?_
  refine g_callVz C [(0, 21)] (sim_X10_isSign hw) k_862 k_863 k_864 k_141 k_865 hdV_X10_isSign rfl rfl (by decide) rfl kdC_49 rfl rfl rfl dX9_lineEnds_6 ?_
  intro x1 h1 zb6 hw
  refine g_if_ne C 18 dX9_lineEnds_9 rfl hw (fun hw => ?_) (fun hw => ?_)
  · refine g_aload_n C dX9_lineEnds_18 rfl (by decide) rfl ?_
    refine gw_X9_27 C dX9_lineEnds_19 kdC_46 wwC_46_0 ?_
    refine g_callVv C [] (sim_X10_advance hw) k_790 k_766 k_767 k_141 k_768 hdV_X10_advance rfl rfl (by decide) rfl kdC_49 rfl rfl rfl dX9_lineEnds_22 ?_
    intro h2 hw
    refine g_iconst C ⟨by decide, by decide⟩ dX9_lineEnds_25 ?_
    exact g_zret C hr (Or.inr rfl) dX9_lineEnds_26 ⟨_, rfl, (Or.inr rfl), hw⟩
  · refine g_aload_n C dX9_lineEnds_12 rfl (by decide) rfl ?_
    refine g_iconst C ⟨by decide, by decide⟩ dX9_lineEnds_13 ?_
    refine g_callVz C [(0, 1)] (sim_X9_refuse hw) k_774 k_776 k_7 k_140 k_777 hdV_X9_refuse rfl rfl (by decide) rfl kdC_46 rfl rfl rfl dX9_lineEnds_14 ?_
    intro x2 h3 zb14 hw
    exact g_zret C hr zb14 dX9_lineEnds_17 ⟨_, rfl, zb14, hw⟩
set_option maxRecDepth 20000 in
set_option maxHeartbeats 4000000 in
theorem sim_X9_beginCells {z : Mz} {l : Launch} {p1 : Int} {h : Mh} {K : Int → Mh → Prop} (hw : wp_X9_beginCells p1 h K) : mCal (XC z) l yX9_beginCells cX9_beginCells 2 (some Jvm.ClassFile.FieldType.boolean) 1 21 [(2, 46), (0, p1)] h (mKz K) := by
  refine m_entry RX9 rfl (by decide) rfl (fun p e s m args below meth c C hr => ?_)
  show mG _ p l e _ s m args below meth c _ _ 0 [(0, (2, 46)), (1, (0, p1))] [] h
  unfold wp_X9_beginCells at hw
  refine g_iload_n C dX9_beginCells_0 rfl rfl ?_
  refine g_if_eq C 10 dX9_beginCells_1 rfl hw (fun hw => ?_) (fun hw => ?_)
  · refine g_aload_n C dX9_beginCells_10 rfl (by decide) rfl ?_
    refine g_iconst C ⟨by decide, by decide⟩ dX9_beginCells_11 ?_
    refine gp_X9_59 C dX9_beginCells_12 kdC_46 (fun _ => (Or.inr rfl)) ?_
    refine g_heap (fun h1 eh1 => ?_)
    replace hw := hw h1 eh1
    refine g_aload_n C dX9_beginCells_15 rfl (by decide) rfl ?_
    refine gw_X9_27 C dX9_beginCells_16 kdC_46 wwC_46_0 ?_
    refine g_callVv C [] (sim_X10_advance hw) k_790 k_766 k_767 k_141 k_768 hdV_X10_advance rfl rfl (by decide) rfl kdC_49 rfl rfl rfl dX9_beginCells_19 ?_
    intro h2 hw
    refine g_iconst C ⟨by decide, by decide⟩ dX9_beginCells_22 ?_
    exact g_zret C hr (Or.inr rfl) dX9_beginCells_23 ⟨_, rfl, (Or.inr rfl), hw⟩
  · refine g_aload_n C dX9_beginCells_4 rfl (by decide) rfl ?_
    refine g_iconst C ⟨by decide, by decide⟩ dX9_beginCells_5 ?_
    refine g_callVz C [(0, 2)] (sim_X9_refuse hw) k_774 k_776 k_7 k_140 k_777 hdV_X9_refuse rfl rfl (by decide) rfl kdC_46 rfl rfl rfl dX9_beginCells_6 ?_
    intro x1 h3 zb6 hw
    exact g_zret C hr zb6 dX9_beginCells_9 ⟨_, rfl, zb6, hw⟩
set_option maxRecDepth 20000 in
set_option maxHeartbeats 4000000 in
theorem sim_X9_readNumber {z : Mz} {l : Launch} {p1 : Int} {p2 : Int} {h : Mh} {K : Int → Mh → Prop} (hw : wp_X9_readNumber p1 p2 h K) : mCal (XC z) l yX9_readNumber cX9_readNumber 4 (some Jvm.ClassFile.FieldType.int) 1 21 [(2, 46), (0, p1), (0, p2)] h (mKi K) := by
  refine m_entry RX9 rfl (by decide) rfl (fun p e s m args below meth c C hr => ?_)
  show mG _ p l e _ s m args below meth c _ _ 0 [(0, (2, 46)), (1, (0, p1)), (2, (0, p2))] [] h
  unfold wp_X9_readNumber at hw
  refine g_aload_n C dX9_readNumber_0 rfl (by decide) rfl ?_
  refine gw_X9_27 C dX9_readNumber_1 kdC_46 wwC_46_0 ?_
  refine gf_X9_66 C dX9_readNumber_4 kdC_49 (fun z4 => ?_)
  refine g_iconst C ⟨by decide, by decide⟩ dX9_readNumber_7 ?_
  refine g_icmp_eq C 19 dX9_readNumber_8 rfl hw (fun hw => ?_) (fun hw => ?_)
  · refine g_aload_n C dX9_readNumber_19 rfl (by decide) rfl ?_
    refine gw_X9_27 C dX9_readNumber_20 kdC_46 wwC_46_0 ?_
    refine gf_X9_89 C dX9_readNumber_23 kdC_49 (fun z23 => ?_)
    refine g_topi (fun x1 ex1 => ?_)
    replace hw := hw x1 ex1
    refine g_istore_n C dX9_readNumber_26 rfl (by decide) ?_
    refine g_iload_n C dX9_readNumber_27 rfl rfl ?_
    refine g_iload_n C dX9_readNumber_28 rfl rfl ?_
    refine g_icmp_lt C 37 dX9_readNumber_29 rfl hw (fun hw => ?_) (fun hw => ?_)
    · refine g_aload_n C dX9_readNumber_37 rfl (by decide) rfl ?_
      refine g_iconst C ⟨by decide, by decide⟩ dX9_readNumber_38 ?_
      refine g_callVz C [(0, 2)] (sim_X9_refuse hw) k_774 k_776 k_7 k_140 k_777 hdV_X9_refuse rfl rfl (by decide) rfl kdC_46 rfl rfl rfl dX9_readNumber_39 ?_
      intro x2 h1 zb39 hw
      refine g_pop C (by show ¬ (0 : Nat) = 1; decide) dX9_readNumber_42 ?_
      refine g_iconst C ⟨by decide, by decide⟩ dX9_readNumber_43 ?_
      exact g_iret C hr dX9_readNumber_44 ⟨_, rfl, hw⟩
    · refine g_iload_n C dX9_readNumber_32 rfl rfl ?_
      refine g_iload_n C dX9_readNumber_33 rfl rfl ?_
      refine g_icmp_le C 45 dX9_readNumber_34 rfl hw (fun hw => ?_) (fun hw => ?_)
      · refine g_aload_n C dX9_readNumber_45 rfl (by decide) rfl ?_
        refine gw_X9_27 C dX9_readNumber_46 kdC_46 wwC_46_0 ?_
        refine g_callVv C [] (sim_X10_advance hw) k_790 k_766 k_767 k_141 k_768 hdV_X10_advance rfl rfl (by decide) rfl kdC_49 rfl rfl rfl dX9_readNumber_49 ?_
        intro h2 hw
        refine g_iload_n C dX9_readNumber_52 rfl rfl ?_
        exact g_iret C hr dX9_readNumber_53 ⟨_, rfl, hw⟩
      · refine g_aload_n C dX9_readNumber_37 rfl (by decide) rfl ?_
        refine g_iconst C ⟨by decide, by decide⟩ dX9_readNumber_38 ?_
        refine g_callVz C [(0, 2)] (sim_X9_refuse hw) k_774 k_776 k_7 k_140 k_777 hdV_X9_refuse rfl rfl (by decide) rfl kdC_46 rfl rfl rfl dX9_readNumber_39 ?_
        intro x3 h3 zb39 hw
        refine g_pop C (by show ¬ (0 : Nat) = 1; decide) dX9_readNumber_42 ?_
        refine g_iconst C ⟨by decide, by decide⟩ dX9_readNumber_43 ?_
        exact g_iret C hr dX9_readNumber_44 ⟨_, rfl, hw⟩
  · refine g_aload_n C dX9_readNumber_11 rfl (by decide) rfl ?_
    refine g_iconst C ⟨by decide, by decide⟩ dX9_readNumber_12 ?_
    refine g_callVz C [(0, 1)] (sim_X9_refuse hw) k_774 k_776 k_7 k_140 k_777 hdV_X9_refuse rfl rfl (by decide) rfl kdC_46 rfl rfl rfl dX9_readNumber_13 ?_
    intro x4 h4 zb13 hw
    refine g_pop C (by show ¬ (0 : Nat) = 1; decide) dX9_readNumber_16 ?_
    refine g_iconst C ⟨by decide, by decide⟩ dX9_readNumber_17 ?_
    exact g_iret C hr dX9_readNumber_18 ⟨_, rfl, hw⟩
set_option maxRecDepth 20000 in
set_option maxHeartbeats 4000000 in
theorem sim_X9_readCell {z : Mz} {l : Launch} {p1 : Int} {h : Mh} {K : Int → Mh → Prop} (hw : wp_X9_readCell p1 h K) : mCal (XC z) l yX9_readCell cX9_readCell 7 (some Jvm.ClassFile.FieldType.int) 2 44 [(2, 46), (1, p1)] h (mKi K) := by
  refine m_entry RX9 rfl (by decide) rfl (fun p e s m args below meth c C hr => ?_)
  have hQ : ∀ x, Lfp (F_X9_readCell p1 K) x → (match x.1, x.2.1 with | 46, [v3, v4, s0] => mG (XC z) p l e { frames := 2, cells := 0, slots := 0, locals := 44 } s m args below meth c 7 (mMQ (XC z) (mKi K) below args s) 46 [(3, (0, v3)), (4, (0, v4)), (0, (2, 46)), (1, (1, p1))] [(0, s0)] x.2.2 | _, _ => True) := by
    intro x hx
    refine Lfp.ind (fun x => (match x.1, x.2.1 with | 46, [v3, v4, s0] => mG (XC z) p l e { frames := 2, cells := 0, slots := 0, locals := 44 } s m args below meth c 7 (mMQ (XC z) (mKi K) below args s) 46 [(3, (0, v3)), (4, (0, v4)), (0, (2, 46)), (1, (1, p1))] [(0, s0)] x.2.2 | _, _ => True)) ?_ hx
    clear hx x
    intro Z x hQ hw
    rcases hw with ⟨v3, v4, s0, h, rfl, hw⟩
    · show mG (XC z) p l e { frames := 2, cells := 0, slots := 0, locals := 44 } s m args below meth c 7 (mMQ (XC z) (mKi K) below args s) 46 [(3, (0, v3)), (4, (0, v4)), (0, (2, 46)), (1, (1, p1))] [(0, s0)] h
      unfold B_X9_readCell_46 at hw
      refine g_istore C dX9_readCell_46 (by decide) ?_
      refine g_iload C dX9_readCell_48 rfl ?_
      refine g_if_ge C 55 dX9_readCell_50 rfl hw (fun hw => ?_) (fun hw => ?_)
      · refine g_iload C dX9_readCell_55 rfl ?_
        refine g_aload_n C dX9_readCell_57 rfl (by decide) rfl ?_
        refine gf_X9_31 C dX9_readCell_58 kdC_46 (fun z58 => ?_)
        obtain ⟨q3, hw⟩ := hw
        refine gf_X9_170 C dX9_readCell_61 q3 (fun z61 => ?_)
        refine g_imul C dX9_readCell_64 ?_
        refine g_iload_n C dX9_readCell_65 rfl rfl ?_
        refine g_iadd C dX9_readCell_66 ?_
        refine g_topi (fun x1 ex1 => ?_)
        replace hw := hw x1 ex1
        refine g_istore C dX9_readCell_67 (by decide) ?_
        refine g_lload_n C dX9_readCell_69 rfl rfl ?_
        refine g_iload C dX9_readCell_70 rfl ?_
        refine g_lushr C dX9_readCell_72 ?_
        refine g_lconst C 1 (Or.inr rfl) rfl dX9_readCell_73 ?_
        refine g_land C dX9_readCell_74 ?_
        refine g_lconst C 0 (Or.inl rfl) rfl dX9_readCell_75 ?_
        refine g_lcmp C dX9_readCell_76 ?_
        refine g_if_eq C 93 dX9_readCell_77 rfl hw (fun hw => ?_) (fun hw => ?_)
        · refine g_iload C dX9_readCell_93 rfl ?_
          exact g_iret C hr dX9_readCell_95 ⟨_, rfl, hw⟩
        · refine g_aload_n C dX9_readCell_80 rfl (by decide) rfl ?_
          refine g_iconst C ⟨by decide, by decide⟩ dX9_readCell_81 ?_
          refine gp_X9_40 C dX9_readCell_82 kdC_46 (fun z => z) ?_
          refine g_heap (fun h1 eh1 => ?_)
          replace hw := hw h1 eh1
          refine g_aload_n C dX9_readCell_85 rfl (by decide) rfl ?_
          refine g_iload C dX9_readCell_86 rfl ?_
          refine gp_X9_9 C dX9_readCell_88 kdC_46 (fun z => z) ?_
          refine g_heap (fun h2 eh2 => ?_)
          replace hw := hw h2 eh2
          refine g_iconst C ⟨by decide, by decide⟩ dX9_readCell_91 ?_
          exact g_iret C hr dX9_readCell_92 ⟨_, rfl, hw⟩
      · refine g_iconst C ⟨by decide, by decide⟩ dX9_readCell_53 ?_
        exact g_iret C hr dX9_readCell_54 ⟨_, rfl, hw⟩
  show mG _ p l e _ s m args below meth c _ _ 0 [(0, (2, 46)), (1, (1, p1))] [] h
  unfold wp_X9_readCell at hw
  refine g_aload_n C dX9_readCell_0 rfl (by decide) rfl ?_
  refine g_iconst C ⟨by decide, by decide⟩ dX9_readCell_1 ?_
  refine g_aload_n C dX9_readCell_2 rfl (by decide) rfl ?_
  refine gf_X9_31 C dX9_readCell_3 kdC_46 (fun z3 => ?_)
  obtain ⟨q1, hw⟩ := hw
  refine gf_X9_170 C dX9_readCell_6 q1 (fun z6 => ?_)
  refine g_iconst C ⟨by decide, by decide⟩ dX9_readCell_9 ?_
  refine g_isub C dX9_readCell_10 ?_
  refine g_callVi C [(0, 0), (0, w32 ((h (h 46 1) 0) - 1))] (sim_X9_readNumber hw) k_791 k_793 k_9 k_140 k_794 hdV_X9_readNumber rfl rfl (by decide) rfl kdC_46 rfl rfl rfl dX9_readCell_11 ?_
  intro x1 h1 hw
  refine g_istore_n C dX9_readCell_14 rfl (by decide) ?_
  refine g_aload_n C dX9_readCell_15 rfl (by decide) rfl ?_
  refine gw_X9_27 C dX9_readCell_16 kdC_46 wwC_46_0 ?_
  refine gf_X9_76 C dX9_readCell_19 kdC_49 (fun z19 => ?_)
  refine g_topi (fun x2 ex2 => ?_)
  replace hw := hw x2 ex2
  refine g_istore C dX9_readCell_22 (by decide) ?_
  refine g_iload_n C dX9_readCell_24 rfl rfl ?_
  refine g_if_ge C 32 dX9_readCell_25 rfl hw (fun hw => ?_) (fun hw => ?_)
  · refine g_aload_n C dX9_readCell_32 rfl (by decide) rfl ?_
    refine g_iconst C ⟨by decide, by decide⟩ dX9_readCell_33 ?_
    refine g_aload_n C dX9_readCell_34 rfl (by decide) rfl ?_
    refine gf_X9_31 C dX9_readCell_35 kdC_46 (fun z35 => ?_)
    obtain ⟨q2, hw⟩ := hw
    refine gf_X9_177 C dX9_readCell_38 q2 (fun z38 => ?_)
    refine g_iconst C ⟨by decide, by decide⟩ dX9_readCell_41 ?_
    refine g_isub C dX9_readCell_42 ?_
    refine g_callVi C [(0, 0), (0, w32 ((h1 (h1 46 1) 1) - 1))] (sim_X9_readNumber hw) k_791 k_793 k_9 k_140 k_794 hdV_X9_readNumber rfl rfl (by decide) rfl kdC_46 rfl rfl rfl dX9_readCell_43 ?_
    intro x3 h2 hw
    exact g_sub [3, 4, 0, 1] rfl (hQ _ hw)
  · refine g_iconst C ⟨by decide, by decide⟩ dX9_readCell_28 ?_
    refine g_goto C 46 dX9_readCell_29 rfl ?_
    exact g_sub [3, 4, 0, 1] rfl (hQ _ hw)
set_option maxRecDepth 20000 in
set_option maxHeartbeats 4000000 in
theorem sim_X9_readDrop {z : Mz} {l : Launch} {h : Mh} {K : Int → Mh → Prop} (hw : wp_X9_readDrop h K) : mCal (XC z) l yX9_readDrop cX9_readDrop 4 (some Jvm.ClassFile.FieldType.boolean) 3 70 [(2, 46)] h (mKz K) := by
  refine m_entry RX9 rfl (by decide) rfl (fun p e s m args below meth c C hr => ?_)
  show mG _ p l e _ s m args below meth c _ _ 0 [(0, (2, 46))] [] h
  unfold wp_X9_readDrop at hw
  refine g_aload_n C dX9_readDrop_0 rfl (by decide) rfl ?_
  refine g_aload_n C dX9_readDrop_1 rfl (by decide) rfl ?_
  refine gf_X9_31 C dX9_readDrop_2 kdC_46 (fun z2 => ?_)
  obtain ⟨q1, hw⟩ := hw
  refine gw_X9_237 C dX9_readDrop_5 q1 (wir_4_14 wirC q1) ?_
  refine g_callVz C [] (sim_X1_isFull wirC (kid_4_14 wirC q1) hw) k_880 k_881 k_882 k_138 k_883 hdV_X1_isFull rfl rfl (by decide) rfl (kid_4_14 wirC q1) rfl rfl rfl dX9_readDrop_8 ?_
  intro x1 h1 zb8 hw
  refine g_callVz C [(0, x1)] (sim_X9_beginCells hw) k_805 k_807 k_11 k_140 k_808 hdV_X9_beginCells rfl rfl (by decide) rfl kdC_46 rfl rfl rfl dX9_readDrop_11 ?_
  intro x2 h2 zb11 hw
  refine g_if_ne C 19 dX9_readDrop_14 rfl hw (fun hw => ?_) (fun hw => ?_)
  · refine g_aload_n C dX9_readDrop_19 rfl (by decide) rfl ?_
    refine gw_X9_27 C dX9_readDrop_20 kdC_46 wwC_46_0 ?_
    refine gf_X9_66 C dX9_readDrop_23 kdC_49 (fun z23 => ?_)
    refine g_iconst C ⟨by decide, by decide⟩ dX9_readDrop_26 ?_
    refine g_icmp_eq C 36 dX9_readDrop_27 rfl hw (fun hw => ?_) (fun hw => ?_)
    · refine g_aload_n C dX9_readDrop_36 rfl (by decide) rfl ?_
      refine gf_X9_31 C dX9_readDrop_37 kdC_46 (fun z37 => ?_)
      obtain ⟨q2, hw⟩ := hw
      refine gw_X9_210 C dX9_readDrop_40 q2 (wir_4_7 wirC q2) ?_
      refine g_aload_n C dX9_readDrop_43 rfl (by decide) rfl ?_
      refine gw_X9_27 C dX9_readDrop_44 kdC_46 wwC_46_0 ?_
      refine gf_X9_89 C dX9_readDrop_47 kdC_49 (fun z47 => ?_)
      refine g_callVi C [(0, (h2 49 10))] (sim_X7_indexOf wirC (kid_4_7 wirC q2) hw) k_854 k_855 k_856 k_136 k_857 hdV_X7_indexOf rfl rfl (by decide) rfl (kid_4_7 wirC q2) rfl rfl rfl dX9_readDrop_50 ?_
      intro x3 h3 hw
      refine g_istore_n C dX9_readDrop_53 rfl (by decide) ?_
      refine g_iload_n C dX9_readDrop_54 rfl rfl ?_
      refine g_if_ge C 64 dX9_readDrop_55 rfl hw (fun hw => ?_) (fun hw => ?_)
      · refine g_aload_n C dX9_readDrop_64 rfl (by decide) rfl ?_
        refine gw_X9_27 C dX9_readDrop_65 kdC_46 wwC_46_0 ?_
        refine g_callVv C [] (sim_X10_advance hw) k_790 k_766 k_767 k_141 k_768 hdV_X10_advance rfl rfl (by decide) rfl kdC_49 rfl rfl rfl dX9_readDrop_68 ?_
        intro h4 hw
        refine g_aload_n C dX9_readDrop_71 rfl (by decide) rfl ?_
        refine g_aload_n C dX9_readDrop_72 rfl (by decide) rfl ?_
        refine gf_X9_31 C dX9_readDrop_73 kdC_46 (fun z73 => ?_)
        obtain ⟨q3, hw⟩ := hw
        refine gf_X9_187 C dX9_readDrop_76 q3 (fun z76 => ?_)
        refine g_callVi C [(1, (h4 (h4 46 1) 2))] (sim_X9_readCell hw) k_821 k_823 k_12 k_140 k_824 hdV_X9_readCell rfl rfl (by decide) rfl kdC_46 rfl rfl rfl dX9_readDrop_79 ?_
        intro x4 h5 hw
        refine g_istore_n C dX9_readDrop_82 rfl (by decide) ?_
        refine g_iload_n C dX9_readDrop_83 rfl rfl ?_
        refine g_if_ge C 91 dX9_readDrop_84 rfl hw (fun hw => ?_) (fun hw => ?_)
        · refine g_aload_n C dX9_readDrop_91 rfl (by decide) rfl ?_
          refine g_iconst C ⟨by decide, by decide⟩ dX9_readDrop_92 ?_
          refine g_bipush C ⟨by decide, by decide⟩ (by decide) dX9_readDrop_93 ?_
          refine g_callVi C [(0, 0), (0, 99)] (sim_X9_readNumber hw) k_791 k_793 k_9 k_140 k_794 hdV_X9_readNumber rfl rfl (by decide) rfl kdC_46 rfl rfl rfl dX9_readDrop_95 ?_
          intro x5 h6 hw
          refine g_istore_n C dX9_readDrop_98 rfl (by decide) ?_
          refine g_iload_n C dX9_readDrop_99 rfl rfl ?_
          refine g_if_ge C 105 dX9_readDrop_100 rfl hw (fun hw => ?_) (fun hw => ?_)
          · refine g_aload_n C dX9_readDrop_105 rfl (by decide) rfl ?_
            refine gf_X9_31 C dX9_readDrop_106 kdC_46 (fun z106 => ?_)
            obtain ⟨q4, hw⟩ := hw
            refine gw_X9_237 C dX9_readDrop_109 q4 (wir_4_14 wirC q4) ?_
            refine g_iload_n C dX9_readDrop_112 rfl rfl ?_
            refine g_iload_n C dX9_readDrop_113 rfl rfl ?_
            refine g_iload_n C dX9_readDrop_114 rfl rfl ?_
            refine g_callVv C [(0, x3), (0, x4), (0, x5)] (sim_X1_add wirC (kid_4_14 wirC q4) hw) k_884 k_491 k_492 k_138 k_493 hdV_X1_add rfl rfl (by decide) rfl (kid_4_14 wirC q4) rfl rfl rfl dX9_readDrop_115 ?_
            intro h7 hw
            refine g_iconst C ⟨by decide, by decide⟩ dX9_readDrop_118 ?_
            exact g_zret C hr (Or.inr rfl) dX9_readDrop_119 ⟨_, rfl, (Or.inr rfl), hw⟩
          · refine g_iconst C ⟨by decide, by decide⟩ dX9_readDrop_103 ?_
            exact g_zret C hr (Or.inl rfl) dX9_readDrop_104 ⟨_, rfl, (Or.inl rfl), hw⟩
        · refine g_iconst C ⟨by decide, by decide⟩ dX9_readDrop_87 ?_
          refine g_goto C 98 dX9_readDrop_88 rfl ?_
          refine g_istore_n C dX9_readDrop_98 rfl (by decide) ?_
          refine g_iload_n C dX9_readDrop_99 rfl rfl ?_
          refine g_if_ge C 105 dX9_readDrop_100 rfl hw (fun hw => ?_) (fun hw => ?_)
          · refine g_aload_n C dX9_readDrop_105 rfl (by decide) rfl ?_
            refine gf_X9_31 C dX9_readDrop_106 kdC_46 (fun z106 => ?_)
            obtain ⟨q5, hw⟩ := hw
            refine gw_X9_237 C dX9_readDrop_109 q5 (wir_4_14 wirC q5) ?_
            refine g_iload_n C dX9_readDrop_112 rfl rfl ?_
            refine g_iload_n C dX9_readDrop_113 rfl rfl ?_
            refine g_iload_n C dX9_readDrop_114 rfl rfl ?_
            refine g_callVv C [(0, x3), (0, x4), (0, (-1))] (sim_X1_add wirC (kid_4_14 wirC q5) hw) k_884 k_491 k_492 k_138 k_493 hdV_X1_add rfl rfl (by decide) rfl (kid_4_14 wirC q5) rfl rfl rfl dX9_readDrop_115 ?_
            intro h8 hw
            refine g_iconst C ⟨by decide, by decide⟩ dX9_readDrop_118 ?_
            exact g_zret C hr (Or.inr rfl) dX9_readDrop_119 ⟨_, rfl, (Or.inr rfl), hw⟩
          · refine g_iconst C ⟨by decide, by decide⟩ dX9_readDrop_103 ?_
            exact g_zret C hr (Or.inl rfl) dX9_readDrop_104 ⟨_, rfl, (Or.inl rfl), hw⟩
      · refine g_aload_n C dX9_readDrop_58 rfl (by decide) rfl ?_
        refine g_iconst C ⟨by decide, by decide⟩ dX9_readDrop_59 ?_
        refine g_callVz C [(0, 4)] (sim_X9_refuse hw) k_774 k_776 k_7 k_140 k_777 hdV_X9_refuse rfl rfl (by decide) rfl kdC_46 rfl rfl rfl dX9_readDrop_60 ?_
        intro x6 h9 zb60 hw
        exact g_zret C hr zb60 dX9_readDrop_63 ⟨_, rfl, zb60, hw⟩
    · refine g_aload_n C dX9_readDrop_30 rfl (by decide) rfl ?_
      refine g_iconst C ⟨by decide, by decide⟩ dX9_readDrop_31 ?_
      refine g_callVz C [(0, 1)] (sim_X9_refuse hw) k_774 k_776 k_7 k_140 k_777 hdV_X9_refuse rfl rfl (by decide) rfl kdC_46 rfl rfl rfl dX9_readDrop_32 ?_
      intro x7 h10 zb32 hw
      exact g_zret C hr zb32 dX9_readDrop_35 ⟨_, rfl, zb32, hw⟩
  · refine g_iconst C ⟨by decide, by decide⟩ dX9_readDrop_17 ?_
    exact g_zret C hr (Or.inl rfl) dX9_readDrop_18 ⟨_, rfl, (Or.inl rfl), hw⟩
set_option maxRecDepth 20000 in
set_option maxHeartbeats 4000000 in
theorem sim_X9_readNewName {z : Mz} {l : Launch} {p1 : Int} {h : Mh} {K : Int → Mh → Prop} (hw : wp_X9_readNewName p1 h K) : mCal (XC z) l yX9_readNewName cX9_readNewName 2 (some Jvm.ClassFile.FieldType.boolean) 1 22 [(2, 46), (2, p1)] h (mKz K) := by
  refine m_entry RX9 rfl (by decide) rfl (fun p e s m args below meth c C hr => ?_)
  show mG _ p l e _ s m args below meth c _ _ 0 [(0, (2, 46)), (1, (2, p1))] [] h
  unfold wp_X9_readNewName at hw
  refine g_aload_n C dX9_readNewName_0 rfl (by decide) rfl ?_
  refine gw_X9_27 C dX9_readNewName_1 kdC_46 wwC_46_0 ?_
  refine gf_X9_66 C dX9_readNewName_4 kdC_49 (fun z4 => ?_)
  refine g_iconst C ⟨by decide, by decide⟩ dX9_readNewName_7 ?_
  refine g_icmp_eq C 17 dX9_readNewName_8 rfl hw (fun hw => ?_) (fun hw => ?_)
  · refine g_aload_n C dX9_readNewName_17 rfl (by decide) rfl ?_
    refine g_aload_n C dX9_readNewName_18 rfl (by decide) rfl ?_
    refine gw_X9_27 C dX9_readNewName_19 kdC_46 wwC_46_0 ?_
    refine gf_X9_89 C dX9_readNewName_22 kdC_49 (fun z22 => ?_)
    obtain ⟨q1, hw⟩ := hw
    refine g_callVi C [(0, (h 49 10))] (sim_X7_indexOf wirC q1 hw) k_854 k_855 k_856 k_136 k_857 hdV_X7_indexOf rfl rfl (by decide) rfl q1 rfl rfl rfl dX9_readNewName_25 ?_
    intro x1 h1 hw
    refine g_if_lt C 37 dX9_readNewName_28 rfl hw (fun hw => ?_) (fun hw => ?_)
    · refine g_aload_n C dX9_readNewName_37 rfl (by decide) rfl ?_
      refine g_aload_n C dX9_readNewName_38 rfl (by decide) rfl ?_
      refine gw_X9_27 C dX9_readNewName_39 kdC_46 wwC_46_0 ?_
      refine gf_X9_89 C dX9_readNewName_42 kdC_49 (fun z42 => ?_)
      refine g_callVv C [(0, (h1 49 10))] (sim_X7_add wirC q1 hw) k_838 k_839 k_840 k_136 k_841 hdV_X7_add rfl rfl (by decide) rfl q1 rfl rfl rfl dX9_readNewName_45 ?_
      intro h2 hw
      refine g_aload_n C dX9_readNewName_48 rfl (by decide) rfl ?_
      refine gw_X9_27 C dX9_readNewName_49 kdC_46 wwC_46_0 ?_
      refine g_callVv C [] (sim_X10_advance hw) k_790 k_766 k_767 k_141 k_768 hdV_X10_advance rfl rfl (by decide) rfl kdC_49 rfl rfl rfl dX9_readNewName_52 ?_
      intro h3 hw
      refine g_iconst C ⟨by decide, by decide⟩ dX9_readNewName_55 ?_
      exact g_zret C hr (Or.inr rfl) dX9_readNewName_56 ⟨_, rfl, (Or.inr rfl), hw⟩
    · refine g_aload_n C dX9_readNewName_31 rfl (by decide) rfl ?_
      refine g_iconst C ⟨by decide, by decide⟩ dX9_readNewName_32 ?_
      refine g_callVz C [(0, 3)] (sim_X9_refuse hw) k_774 k_776 k_7 k_140 k_777 hdV_X9_refuse rfl rfl (by decide) rfl kdC_46 rfl rfl rfl dX9_readNewName_33 ?_
      intro x2 h4 zb33 hw
      exact g_zret C hr zb33 dX9_readNewName_36 ⟨_, rfl, zb33, hw⟩
  · refine g_aload_n C dX9_readNewName_11 rfl (by decide) rfl ?_
    refine g_iconst C ⟨by decide, by decide⟩ dX9_readNewName_12 ?_
    refine g_callVz C [(0, 1)] (sim_X9_refuse hw) k_774 k_776 k_7 k_140 k_777 hdV_X9_refuse rfl rfl (by decide) rfl kdC_46 rfl rfl rfl dX9_readNewName_13 ?_
    intro x3 h5 zb13 hw
    exact g_zret C hr zb13 dX9_readNewName_16 ⟨_, rfl, zb13, hw⟩
set_option maxRecDepth 20000 in
set_option maxHeartbeats 4000000 in
theorem sim_X9_readRises {z : Mz} {l : Launch} {p1 : Int} {h : Mh} {K : Int → Mh → Prop} (hw : wp_X9_readRises p1 h K) : mCal (XC z) l yX9_readRises cX9_readRises 5 (some Jvm.ClassFile.FieldType.boolean) 2 44 [(2, 46), (2, p1)] h (mKz K) := by
  refine m_entry RX9 rfl (by decide) rfl (fun p e s m args below meth c C hr => ?_)
  have hQ : ∀ x, Lfp (F_X9_readRises p1 K) x → (match x.1, x.2.1 with | 2, [v2] => mG (XC z) p l e { frames := 2, cells := 0, slots := 0, locals := 44 } s m args below meth c 5 (mMQ (XC z) (mKz K) below args s) 2 [(2, (0, v2)), (0, (2, 46)), (1, (2, p1))] [] x.2.2 | 51, [v2, v3] => mG (XC z) p l e { frames := 2, cells := 0, slots := 0, locals := 44 } s m args below meth c 5 (mMQ (XC z) (mKz K) below args s) 51 [(2, (0, v2)), (3, (0, v3)), (0, (2, 46)), (1, (2, p1))] [] x.2.2 | 74, [v2, v3] => mG (XC z) p l e { frames := 2, cells := 0, slots := 0, locals := 44 } s m args below meth c 5 (mMQ (XC z) (mKz K) below args s) 74 [(2, (0, v2)), (3, (0, v3)), (0, (2, 46)), (1, (2, p1))] [] x.2.2 | _, _ => True) := by
    intro x hx
    refine Lfp.ind (fun x => (match x.1, x.2.1 with | 2, [v2] => mG (XC z) p l e { frames := 2, cells := 0, slots := 0, locals := 44 } s m args below meth c 5 (mMQ (XC z) (mKz K) below args s) 2 [(2, (0, v2)), (0, (2, 46)), (1, (2, p1))] [] x.2.2 | 51, [v2, v3] => mG (XC z) p l e { frames := 2, cells := 0, slots := 0, locals := 44 } s m args below meth c 5 (mMQ (XC z) (mKz K) below args s) 51 [(2, (0, v2)), (3, (0, v3)), (0, (2, 46)), (1, (2, p1))] [] x.2.2 | 74, [v2, v3] => mG (XC z) p l e { frames := 2, cells := 0, slots := 0, locals := 44 } s m args below meth c 5 (mMQ (XC z) (mKz K) below args s) 74 [(2, (0, v2)), (3, (0, v3)), (0, (2, 46)), (1, (2, p1))] [] x.2.2 | _, _ => True)) ?_ hx
    clear hx x
    intro Z x hQ hw
    rcases hw with ⟨v2, h, rfl, hw⟩ | ⟨v2, v3, h, rfl, hw⟩ | ⟨v2, v3, h, rfl, hw⟩
    · show mG (XC z) p l e { frames := 2, cells := 0, slots := 0, locals := 44 } s m args below meth c 5 (mMQ (XC z) (mKz K) below args s) 2 [(2, (0, v2)), (0, (2, 46)), (1, (2, p1))] [] h
      unfold B_X9_readRises_2 at hw
      refine g_iload_n C dX9_readRises_2 rfl rfl ?_
      refine g_bipush C ⟨by decide, by decide⟩ (by decide) dX9_readRises_3 ?_
      refine g_icmp_gt C 112 dX9_readRises_5 rfl hw (fun hw => ?_) (fun hw => ?_)
      · refine g_iconst C ⟨by decide, by decide⟩ dX9_readRises_112 ?_
        exact g_zret C hr (Or.inr rfl) dX9_readRises_113 ⟨_, rfl, (Or.inr rfl), hw⟩
      · refine g_aload_n C dX9_readRises_8 rfl (by decide) rfl ?_
        refine gw_X9_27 C dX9_readRises_9 kdC_46 wwC_46_0 ?_
        refine g_bipush C ⟨by decide, by decide⟩ (by decide) dX9_readRises_12 ?_
        refine g_callVz C [(0, 16)] (sim_X10_isSign hw) k_862 k_863 k_864 k_141 k_865 hdV_X10_isSign rfl rfl (by decide) rfl kdC_49 rfl rfl rfl dX9_readRises_14 ?_
        intro x1 h1 zb14 hw
        refine g_istore_n C dX9_readRises_17 rfl (by decide) ?_
        refine g_iload_n C dX9_readRises_18 rfl rfl ?_
        refine g_if_ne C 51 dX9_readRises_19 rfl hw (fun hw => ?_) (fun hw => ?_)
        · exact g_sub [2, 3, 0, 1] rfl (hQ _ hw)
        · refine g_aload_n C dX9_readRises_22 rfl (by decide) rfl ?_
          refine gw_X9_27 C dX9_readRises_23 kdC_46 wwC_46_0 ?_
          refine gf_X9_66 C dX9_readRises_26 kdC_49 (fun z26 => ?_)
          refine g_iconst C ⟨by decide, by decide⟩ dX9_readRises_29 ?_
          refine g_icmp_eq C 51 dX9_readRises_30 rfl hw (fun hw => ?_) (fun hw => ?_)
          · exact g_sub [2, 3, 0, 1] rfl (hQ _ hw)
          · refine g_iload_n C dX9_readRises_33 rfl rfl ?_
            refine g_if_gt C 45 dX9_readRises_34 rfl hw (fun hw => ?_) (fun hw => ?_)
            · refine g_iconst C ⟨by decide, by decide⟩ dX9_readRises_45 ?_
              refine g_goto C 50 dX9_readRises_46 rfl ?_
              exact g_zret C hr (Or.inr rfl) dX9_readRises_50 ⟨_, rfl, (Or.inr rfl), hw⟩
            · refine g_aload_n C dX9_readRises_37 rfl (by decide) rfl ?_
              refine g_iconst C ⟨by decide, by decide⟩ dX9_readRises_38 ?_
              refine g_callVz C [(0, 1)] (sim_X9_refuse hw) k_774 k_776 k_7 k_140 k_777 hdV_X9_refuse rfl rfl (by decide) rfl kdC_46 rfl rfl rfl dX9_readRises_39 ?_
              intro x2 h2 zb39 hw
              refine g_if_eq C 49 dX9_readRises_42 rfl hw (fun hw => ?_) (fun hw => ?_)
              · refine g_iconst C ⟨by decide, by decide⟩ dX9_readRises_49 ?_
                exact g_zret C hr (Or.inl rfl) dX9_readRises_50 ⟨_, rfl, (Or.inl rfl), hw⟩
              · refine g_iconst C ⟨by decide, by decide⟩ dX9_readRises_45 ?_
                refine g_goto C 50 dX9_readRises_46 rfl ?_
                exact g_zret C hr (Or.inr rfl) dX9_readRises_50 ⟨_, rfl, (Or.inr rfl), hw⟩
    · show mG (XC z) p l e { frames := 2, cells := 0, slots := 0, locals := 44 } s m args below meth c 5 (mMQ (XC z) (mKz K) below args s) 51 [(2, (0, v2)), (3, (0, v3)), (0, (2, 46)), (1, (2, p1))] [] h
      unfold B_X9_readRises_51 at hw
      refine g_iload_n C dX9_readRises_51 rfl rfl ?_
      refine g_bipush C ⟨by decide, by decide⟩ (by decide) dX9_readRises_52 ?_
      refine g_icmp_ne C 63 dX9_readRises_54 rfl hw (fun hw => ?_) (fun hw => ?_)
      · refine g_iload_n C dX9_readRises_63 rfl rfl ?_
        refine g_if_eq C 74 dX9_readRises_64 rfl hw (fun hw => ?_) (fun hw => ?_)
        · exact g_sub [2, 3, 0, 1] rfl (hQ _ hw)
        · refine g_aload_n C dX9_readRises_67 rfl (by decide) rfl ?_
          refine gw_X9_27 C dX9_readRises_68 kdC_46 wwC_46_0 ?_
          refine g_callVv C [] (sim_X10_advance hw) k_790 k_766 k_767 k_141 k_768 hdV_X10_advance rfl rfl (by decide) rfl kdC_49 rfl rfl rfl dX9_readRises_71 ?_
          intro h1 hw
          exact g_sub [2, 3, 0, 1] rfl (hQ _ hw)
      · refine g_aload_n C dX9_readRises_57 rfl (by decide) rfl ?_
        refine g_iconst C ⟨by decide, by decide⟩ dX9_readRises_58 ?_
        refine g_callVz C [(0, 2)] (sim_X9_refuse hw) k_774 k_776 k_7 k_140 k_777 hdV_X9_refuse rfl rfl (by decide) rfl kdC_46 rfl rfl rfl dX9_readRises_59 ?_
        intro x1 h2 zb59 hw
        exact g_zret C hr zb59 dX9_readRises_62 ⟨_, rfl, zb59, hw⟩
    · show mG (XC z) p l e { frames := 2, cells := 0, slots := 0, locals := 44 } s m args below meth c 5 (mMQ (XC z) (mKz K) below args s) 74 [(2, (0, v2)), (3, (0, v3)), (0, (2, 46)), (1, (2, p1))] [] h
      unfold B_X9_readRises_74 at hw
      refine g_aload_n C dX9_readRises_74 rfl (by decide) rfl ?_
      refine g_iconst C ⟨by decide, by decide⟩ dX9_readRises_75 ?_
      refine g_bipush C ⟨by decide, by decide⟩ (by decide) dX9_readRises_76 ?_
      refine g_callVi C [(0, 0), (0, 99)] (sim_X9_readNumber hw) k_791 k_793 k_9 k_140 k_794 hdV_X9_readNumber rfl rfl (by decide) rfl kdC_46 rfl rfl rfl dX9_readRises_78 ?_
      intro x1 h1 hw
      refine g_istore C dX9_readRises_81 (by decide) ?_
      refine g_iload C dX9_readRises_83 rfl ?_
      refine g_if_ge C 90 dX9_readRises_85 rfl hw (fun hw => ?_) (fun hw => ?_)
      · refine g_aload_n C dX9_readRises_90 rfl (by decide) rfl ?_
        refine g_iload_n C dX9_readRises_91 rfl rfl ?_
        refine g_if_eq C 101 dX9_readRises_92 rfl hw (fun hw => ?_) (fun hw => ?_)
        · refine g_iload C dX9_readRises_101 rfl ?_
          obtain ⟨q1, hw⟩ := hw
          refine g_callVv C [(0, x1)] (sim_X7_add wirC q1 hw) k_838 k_839 k_840 k_136 k_841 hdV_X7_add rfl rfl (by decide) rfl q1 rfl rfl rfl dX9_readRises_103 ?_
          intro h2 hw
          refine g_iincN C dX9_readRises_106 rfl (by decide) (fun x2 ex2 => ?_)
          replace hw := hw x2 ex2
          refine g_goto C 2 dX9_readRises_109 rfl ?_
          exact g_sub [2, 0, 1] rfl (hQ _ hw)
        · refine g_iload C dX9_readRises_95 rfl ?_
          refine g_ineg C dX9_readRises_97 ?_
          refine g_goto C 103 dX9_readRises_98 rfl ?_
          obtain ⟨q2, hw⟩ := hw
          refine g_callVv C [(0, w32 (-x1))] (sim_X7_add wirC q2 hw) k_838 k_839 k_840 k_136 k_841 hdV_X7_add rfl rfl (by decide) rfl q2 rfl rfl rfl dX9_readRises_103 ?_
          intro h3 hw
          refine g_iincN C dX9_readRises_106 rfl (by decide) (fun x3 ex3 => ?_)
          replace hw := hw x3 ex3
          refine g_goto C 2 dX9_readRises_109 rfl ?_
          exact g_sub [2, 0, 1] rfl (hQ _ hw)
      · refine g_iconst C ⟨by decide, by decide⟩ dX9_readRises_88 ?_
        exact g_zret C hr (Or.inl rfl) dX9_readRises_89 ⟨_, rfl, (Or.inl rfl), hw⟩
  show mG _ p l e _ s m args below meth c _ _ 0 [(0, (2, 46)), (1, (2, p1))] [] h
  unfold wp_X9_readRises at hw
  refine g_iconst C ⟨by decide, by decide⟩ dX9_readRises_0 ?_
  refine g_istore_n C dX9_readRises_1 rfl (by decide) ?_
  exact g_sub [2, 0, 1] rfl (hQ _ hw)
set_option maxRecDepth 20000 in
set_option maxHeartbeats 4000000 in
theorem sim_X9_readKind {z : Mz} {l : Launch} {h : Mh} {K : Int → Mh → Prop} (hw : wp_X9_readKind h K) : mCal (XC z) l yX9_readKind cX9_readKind 3 (some Jvm.ClassFile.FieldType.boolean) 3 68 [(2, 46)] h (mKz K) := by
  refine m_entry RX9 rfl (by decide) rfl (fun p e s m args below meth c C hr => ?_)
  show mG _ p l e _ s m args below meth c _ _ 0 [(0, (2, 46))] [] h
  unfold wp_X9_readKind at hw
  refine g_aload_n C dX9_readKind_0 rfl (by decide) rfl ?_
  refine gf_X9_31 C dX9_readKind_1 kdC_46 (fun z1 => ?_)
  obtain ⟨q1, hw⟩ := hw
  refine gw_X9_210 C dX9_readKind_4 q1 (wir_4_7 wirC q1) ?_
  refine g_callVz C [] (sim_X7_isFull wirC (kid_4_7 wirC q1) hw) k_829 k_830 k_831 k_136 k_832 hdV_X7_isFull rfl rfl (by decide) rfl (kid_4_7 wirC q1) rfl rfl rfl dX9_readKind_7 ?_
  intro x1 h1 zb7 hw
  refine g_if_eq C 19 dX9_readKind_10 rfl hw (fun hw => ?_) (fun hw => ?_)
  · refine g_aload_n C dX9_readKind_19 rfl (by decide) rfl ?_
    refine gw_X9_27 C dX9_readKind_20 kdC_46 wwC_46_0 ?_
    refine g_callVv C [] (sim_X10_advance hw) k_790 k_766 k_767 k_141 k_768 hdV_X10_advance rfl rfl (by decide) rfl kdC_49 rfl rfl rfl dX9_readKind_23 ?_
    intro h2 hw
    refine g_aload_n C dX9_readKind_26 rfl (by decide) rfl ?_
    refine gf_X9_31 C dX9_readKind_27 kdC_46 (fun z27 => ?_)
    refine g_aload_n C dX9_readKind_30 rfl (by decide) rfl ?_
    refine gf_X9_31 C dX9_readKind_31 kdC_46 (fun z31 => ?_)
    obtain ⟨q2, hw⟩ := hw
    refine gw_X9_210 C dX9_readKind_34 q2 (wir_4_7 wirC q2) ?_
    refine gf_X9_213 C dX9_readKind_37 (kid_4_7 wirC q2) (fun z37 => ?_)
    refine g_callVr C [(0, (h2 ((h2 46 1) + 12) 1))] (sim_X5_risesOf wirC q2 hw) k_846 k_847 k_848 k_135 k_849 hdV_X5_risesOf rfl rfl (by decide) rfl q2 rfl rfl rfl dX9_readKind_40 ?_
    intro x2 h3 hw
    refine g_astore_n C dX9_readKind_43 rfl (by decide) (by decide) ?_
    refine g_aload_n C dX9_readKind_44 rfl (by decide) rfl ?_
    refine g_aload_n C dX9_readKind_45 rfl (by decide) rfl ?_
    refine gf_X9_31 C dX9_readKind_46 kdC_46 (fun z46 => ?_)
    obtain ⟨q3, hw⟩ := hw
    refine gw_X9_210 C dX9_readKind_49 q3 (wir_4_7 wirC q3) ?_
    refine g_callVz C [(2, ((h3 46 1) + 12))] (sim_X9_readNewName hw) k_850 k_852 k_16 k_140 k_853 hdV_X9_readNewName rfl rfl (by decide) rfl kdC_46 rfl rfl rfl dX9_readKind_52 ?_
    intro x3 h4 zb52 hw
    refine g_if_eq C 66 dX9_readKind_55 rfl hw (fun hw => ?_) (fun hw => ?_)
    · refine g_iconst C ⟨by decide, by decide⟩ dX9_readKind_66 ?_
      exact g_zret C hr (Or.inl rfl) dX9_readKind_67 ⟨_, rfl, (Or.inl rfl), hw⟩
    · refine g_aload_n C dX9_readKind_58 rfl (by decide) rfl ?_
      refine g_aload_n C dX9_readKind_59 rfl (by decide) rfl ?_
      refine g_callVz C [(2, x2)] (sim_X9_readRises hw) k_858 k_860 k_17 k_140 k_861 hdV_X9_readRises rfl rfl (by decide) rfl kdC_46 rfl rfl rfl dX9_readKind_60 ?_
      intro x4 h5 zb60 hw
      refine g_if_ne C 68 dX9_readKind_63 rfl hw (fun hw => ?_) (fun hw => ?_)
      · refine g_iconst C ⟨by decide, by decide⟩ dX9_readKind_68 ?_
        refine g_istore_n C dX9_readKind_69 rfl (by decide) ?_
        refine g_aload_n C dX9_readKind_70 rfl (by decide) rfl ?_
        refine gw_X9_27 C dX9_readKind_71 kdC_46 wwC_46_0 ?_
        refine g_getsW C 5 (by decide) k_866 dX9_readKind_74 ?_
        refine g_callVz C [(3, 5)] (sim_X10_isWord hw) k_868 k_869 k_870 k_141 k_871 hdV_X10_isWord rfl rfl (by decide) rfl kdC_49 rfl rfl rfl dX9_readKind_77 ?_
        intro x5 h6 zb77 hw
        refine g_if_eq C 98 dX9_readKind_80 rfl hw (fun hw => ?_) (fun hw => ?_)
        · refine g_aload_n C dX9_readKind_98 rfl (by decide) rfl ?_
          refine gf_X9_31 C dX9_readKind_99 kdC_46 (fun z99 => ?_)
          obtain ⟨q4, hw⟩ := hw
          refine gw_X9_234 C dX9_readKind_102 q4 (wir_4_9 wirC q4) ?_
          refine g_iload_n C dX9_readKind_105 rfl rfl ?_
          refine g_callVv C [(0, 1)] (sim_X7_add wirC (kid_4_9 wirC q4) hw) k_838 k_839 k_840 k_136 k_841 hdV_X7_add rfl rfl (by decide) rfl (kid_4_9 wirC q4) rfl rfl rfl dX9_readKind_106 ?_
          intro h7 hw
          refine g_iload_n C dX9_readKind_109 rfl rfl ?_
          refine g_if_le C 117 dX9_readKind_110 rfl hw (fun hw => ?_) (fun hw => ?_)
          · refine g_iconst C ⟨by decide, by decide⟩ dX9_readKind_117 ?_
            exact g_zret C hr (Or.inl rfl) dX9_readKind_118 ⟨_, rfl, (Or.inl rfl), hw⟩
          · refine g_iconst C ⟨by decide, by decide⟩ dX9_readKind_113 ?_
            refine g_goto C 118 dX9_readKind_114 rfl ?_
            exact g_zret C hr (Or.inr rfl) dX9_readKind_118 ⟨_, rfl, (Or.inr rfl), hw⟩
        · refine g_aload_n C dX9_readKind_83 rfl (by decide) rfl ?_
          refine gw_X9_27 C dX9_readKind_84 kdC_46 wwC_46_0 ?_
          refine g_callVv C [] (sim_X10_advance hw) k_790 k_766 k_767 k_141 k_768 hdV_X10_advance rfl rfl (by decide) rfl kdC_49 rfl rfl rfl dX9_readKind_87 ?_
          intro h8 hw
          refine g_aload_n C dX9_readKind_90 rfl (by decide) rfl ?_
          refine g_iconst C ⟨by decide, by decide⟩ dX9_readKind_91 ?_
          refine g_bipush C ⟨by decide, by decide⟩ (by decide) dX9_readKind_92 ?_
          refine g_callVi C [(0, 1), (0, 99)] (sim_X9_readNumber hw) k_791 k_793 k_9 k_140 k_794 hdV_X9_readNumber rfl rfl (by decide) rfl kdC_46 rfl rfl rfl dX9_readKind_94 ?_
          intro x6 h9 hw
          refine g_istore_n C dX9_readKind_97 rfl (by decide) ?_
          refine g_aload_n C dX9_readKind_98 rfl (by decide) rfl ?_
          refine gf_X9_31 C dX9_readKind_99 kdC_46 (fun z99 => ?_)
          obtain ⟨q5, hw⟩ := hw
          refine gw_X9_234 C dX9_readKind_102 q5 (wir_4_9 wirC q5) ?_
          refine g_iload_n C dX9_readKind_105 rfl rfl ?_
          refine g_callVv C [(0, x6)] (sim_X7_add wirC (kid_4_9 wirC q5) hw) k_838 k_839 k_840 k_136 k_841 hdV_X7_add rfl rfl (by decide) rfl (kid_4_9 wirC q5) rfl rfl rfl dX9_readKind_106 ?_
          intro h10 hw
          refine g_iload_n C dX9_readKind_109 rfl rfl ?_
          refine g_if_le C 117 dX9_readKind_110 rfl hw (fun hw => ?_) (fun hw => ?_)
          · refine g_iconst C ⟨by decide, by decide⟩ dX9_readKind_117 ?_
            exact g_zret C hr (Or.inl rfl) dX9_readKind_118 ⟨_, rfl, (Or.inl rfl), hw⟩
          · refine g_iconst C ⟨by decide, by decide⟩ dX9_readKind_113 ?_
            refine g_goto C 118 dX9_readKind_114 rfl ?_
            exact g_zret C hr (Or.inr rfl) dX9_readKind_118 ⟨_, rfl, (Or.inr rfl), hw⟩
      · refine g_iconst C ⟨by decide, by decide⟩ dX9_readKind_66 ?_
        exact g_zret C hr (Or.inl rfl) dX9_readKind_67 ⟨_, rfl, (Or.inl rfl), hw⟩
  · refine g_aload_n C dX9_readKind_13 rfl (by decide) rfl ?_
    refine g_iconst C ⟨by decide, by decide⟩ dX9_readKind_14 ?_
    refine g_callVz C [(0, 2)] (sim_X9_refuse hw) k_774 k_776 k_7 k_140 k_777 hdV_X9_refuse rfl rfl (by decide) rfl kdC_46 rfl rfl rfl dX9_readKind_15 ?_
    intro x7 h11 zb15 hw
    exact g_zret C hr zb15 dX9_readKind_18 ⟨_, rfl, zb15, hw⟩
set_option maxRecDepth 20000 in
set_option maxHeartbeats 4000000 in
theorem sim_X9_readLand {z : Mz} {l : Launch} {h : Mh} {K : Int → Mh → Prop} (hw : wp_X9_readLand h K) : mCal (XC z) l yX9_readLand cX9_readLand 2 (some Jvm.ClassFile.FieldType.boolean) 3 70 [(2, 46)] h (mKz K) := by
  refine m_entry RX9 rfl (by decide) rfl (fun p e s m args below meth c C hr => ?_)
  have hQ : ∀ x, Lfp (F_X9_readLand K) x → (match x.1, x.2.1 with | 21, [s1] => mG (XC z) p l e { frames := 3, cells := 0, slots := 0, locals := 70 } s m args below meth c 2 (mMQ (XC z) (mKz K) below args s) 21 [(0, (2, 46))] [(0, s1), (2, 46)] x.2.2 | _, _ => True) := by
    intro x hx
    refine Lfp.ind (fun x => (match x.1, x.2.1 with | 21, [s1] => mG (XC z) p l e { frames := 3, cells := 0, slots := 0, locals := 70 } s m args below meth c 2 (mMQ (XC z) (mKz K) below args s) 21 [(0, (2, 46))] [(0, s1), (2, 46)] x.2.2 | _, _ => True)) ?_ hx
    clear hx x
    intro Z x hQ hw
    rcases hw with ⟨s1, h, rfl, hw⟩
    · show mG (XC z) p l e { frames := 3, cells := 0, slots := 0, locals := 70 } s m args below meth c 2 (mMQ (XC z) (mKz K) below args s) 21 [(0, (2, 46))] [(0, s1), (2, 46)] h
      unfold B_X9_readLand_21 at hw
      refine g_callVz C [(0, s1)] (sim_X9_beginCells hw) k_805 k_807 k_11 k_140 k_808 hdV_X9_beginCells rfl rfl (by decide) rfl kdC_46 rfl rfl rfl dX9_readLand_21 ?_
      intro x1 h1 zb21 hw
      refine g_if_ne C 29 dX9_readLand_24 rfl hw (fun hw => ?_) (fun hw => ?_)
      · refine g_aload_n C dX9_readLand_29 rfl (by decide) rfl ?_
        refine g_aload_n C dX9_readLand_30 rfl (by decide) rfl ?_
        refine gf_X9_31 C dX9_readLand_31 kdC_46 (fun z31 => ?_)
        obtain ⟨q2, hw⟩ := hw
        refine gf_X9_187 C dX9_readLand_34 q2 (fun z34 => ?_)
        refine g_aload_n C dX9_readLand_37 rfl (by decide) rfl ?_
        refine gf_X9_31 C dX9_readLand_38 kdC_46 (fun z38 => ?_)
        refine g_callVl C [] (sim_X5_usedCells wirC q2 hw) k_809 k_810 k_811 k_135 k_812 hdV_X5_usedCells rfl rfl (by decide) rfl q2 rfl rfl rfl dX9_readLand_41 ?_
        intro x2 h2 hw
        refine g_lor C dX9_readLand_44 ?_
        refine g_callVi C [(1, j_lor (h1 (h1 46 1) 2) x2)] (sim_X9_readCell hw) k_821 k_823 k_12 k_140 k_824 hdV_X9_readCell rfl rfl (by decide) rfl kdC_46 rfl rfl rfl dX9_readLand_45 ?_
        intro x3 h3 hw
        refine g_istore_n C dX9_readLand_48 rfl (by decide) ?_
        refine g_iload_n C dX9_readLand_49 rfl rfl ?_
        refine g_if_ge C 55 dX9_readLand_50 rfl hw (fun hw => ?_) (fun hw => ?_)
        · refine g_aload_n C dX9_readLand_55 rfl (by decide) rfl ?_
          refine gf_X9_31 C dX9_readLand_56 kdC_46 (fun z56 => ?_)
          refine g_dup C (by show ¬ (2 : Nat) = 1; decide) dX9_readLand_59 ?_
          obtain ⟨q3, hw⟩ := hw
          refine gf_X9_187 C dX9_readLand_60 q3 (fun z60 => ?_)
          refine g_lconst C 1 (Or.inr rfl) rfl dX9_readLand_63 ?_
          refine g_iload_n C dX9_readLand_64 rfl rfl ?_
          refine g_lshl C dX9_readLand_65 ?_
          refine g_lor C dX9_readLand_66 ?_
          refine gp_X9_187 C dX9_readLand_67 q3 (fun z => z) ?_
          refine g_heap (fun h4 eh4 => ?_)
          replace hw := hw h4 eh4
          refine g_iconst C ⟨by decide, by decide⟩ dX9_readLand_70 ?_
          exact g_zret C hr (Or.inr rfl) dX9_readLand_71 ⟨_, rfl, (Or.inr rfl), hw⟩
        · refine g_iconst C ⟨by decide, by decide⟩ dX9_readLand_53 ?_
          exact g_zret C hr (Or.inl rfl) dX9_readLand_54 ⟨_, rfl, (Or.inl rfl), hw⟩
      · refine g_iconst C ⟨by decide, by decide⟩ dX9_readLand_27 ?_
        exact g_zret C hr (Or.inl rfl) dX9_readLand_28 ⟨_, rfl, (Or.inl rfl), hw⟩
  show mG _ p l e _ s m args below meth c _ _ 0 [(0, (2, 46))] [] h
  unfold wp_X9_readLand at hw
  refine g_aload_n C dX9_readLand_0 rfl (by decide) rfl ?_
  refine g_aload_n C dX9_readLand_1 rfl (by decide) rfl ?_
  refine gf_X9_31 C dX9_readLand_2 kdC_46 (fun z2 => ?_)
  obtain ⟨q1, hw⟩ := hw
  refine gf_X9_187 C dX9_readLand_5 q1 (fun z5 => ?_)
  refine g_callSi C [(1, (h (h 46 1) 2))] (sim_J13_bitCount_95d88 hw) k_799 k_800 k_151 k_801 hdS_J13_bitCount_95d88 rfl rfl rfl rfl rfl dX9_readLand_8 ?_
  intro x1 h1 hw
  refine g_bipush C ⟨by decide, by decide⟩ (by decide) dX9_readLand_11 ?_
  refine g_icmp_lt C 20 dX9_readLand_13 rfl hw (fun hw => ?_) (fun hw => ?_)
  · refine g_iconst C ⟨by decide, by decide⟩ dX9_readLand_20 ?_
    exact g_sub [0] rfl (hQ _ hw)
  · refine g_iconst C ⟨by decide, by decide⟩ dX9_readLand_16 ?_
    refine g_goto C 21 dX9_readLand_17 rfl ?_
    exact g_sub [0] rfl (hQ _ hw)
set_option maxRecDepth 20000 in
set_option maxHeartbeats 4000000 in
theorem sim_X9_lawEnds {z : Mz} {l : Launch} {h : Mh} {K : Int → Mh → Prop} (hw : wp_X9_lawEnds h K) : mCal (XC z) l yX9_lawEnds cX9_lawEnds 1 (some Jvm.ClassFile.FieldType.boolean) 1 21 [(2, 46)] h (mKz K) := by
  refine m_entry RX9 rfl (by decide) rfl (fun p e s m args below meth c C hr => ?_)
  show mG _ p l e _ s m args below meth c _ _ 0 [(0, (2, 46))] [] h
  unfold wp_X9_lawEnds at hw
  refine g_aload_n C dX9_lawEnds_0 rfl (by decide) rfl ?_
  refine gf_X9_292 C dX9_lawEnds_1 kdC_46 (fun z1 => ?_)
  refine g_if_eq C 30 dX9_lawEnds_4 rfl hw (fun hw => ?_) (fun hw => ?_)
  · refine g_iconst C ⟨by decide, by decide⟩ dX9_lawEnds_30 ?_
    exact g_zret C hr (Or.inl rfl) dX9_lawEnds_31 ⟨_, rfl, (Or.inl rfl), hw⟩
  · refine g_aload_n C dX9_lawEnds_7 rfl (by decide) rfl ?_
    refine gf_X9_286 C dX9_lawEnds_8 kdC_46 (fun z8 => ?_)
    refine g_if_ne C 30 dX9_lawEnds_11 rfl hw (fun hw => ?_) (fun hw => ?_)
    · refine g_iconst C ⟨by decide, by decide⟩ dX9_lawEnds_30 ?_
      exact g_zret C hr (Or.inl rfl) dX9_lawEnds_31 ⟨_, rfl, (Or.inl rfl), hw⟩
    · refine g_aload_n C dX9_lawEnds_14 rfl (by decide) rfl ?_
      refine gw_X9_27 C dX9_lawEnds_15 kdC_46 wwC_46_0 ?_
      refine g_bipush C ⟨by decide, by decide⟩ (by decide) dX9_lawEnds_18 ?_
      refine g_callVz C [(0, 21)] (sim_X10_isSign hw) k_862 k_863 k_864 k_141 k_865 hdV_X10_isSign rfl rfl (by decide) rfl kdC_49 rfl rfl rfl dX9_lawEnds_20 ?_
      intro x1 h1 zb20 hw
      refine g_if_eq C 30 dX9_lawEnds_23 rfl hw (fun hw => ?_) (fun hw => ?_)
      · refine g_iconst C ⟨by decide, by decide⟩ dX9_lawEnds_30 ?_
        exact g_zret C hr (Or.inl rfl) dX9_lawEnds_31 ⟨_, rfl, (Or.inl rfl), hw⟩
      · refine g_iconst C ⟨by decide, by decide⟩ dX9_lawEnds_26 ?_
        refine g_goto C 31 dX9_lawEnds_27 rfl ?_
        exact g_zret C hr (Or.inr rfl) dX9_lawEnds_31 ⟨_, rfl, (Or.inr rfl), hw⟩
set_option maxRecDepth 20000 in
set_option maxHeartbeats 4000000 in
theorem sim_X9_hold {z : Mz} {l : Launch} {p1 : Int} {p2 : Int} {h : Mh} {K : Int → Mh → Prop} (hw : wp_X9_hold p1 p2 h K) : mCal (XC z) l yX9_hold cX9_hold 3 (some Jvm.ClassFile.FieldType.boolean) 1 21 [(2, 46), (0, p1), (0, p2)] h (mKz K) := by
  refine m_entry RX9 rfl (by decide) rfl (fun p e s m args below meth c C hr => ?_)
  show mG _ p l e _ s m args below meth c _ _ 0 [(0, (2, 46)), (1, (0, p1)), (2, (0, p2))] [] h
  unfold wp_X9_hold at hw
  refine g_aload_n C dX9_hold_0 rfl (by decide) rfl ?_
  refine gf_X9_283 C dX9_hold_1 kdC_46 (fun z1 => ?_)
  refine g_if_lt C 19 dX9_hold_4 rfl hw (fun hw => ?_) (fun hw => ?_)
  · refine g_aload_n C dX9_hold_19 rfl (by decide) rfl ?_
    refine g_iconst C ⟨by decide, by decide⟩ dX9_hold_20 ?_
    refine g_callVz C [(0, 2)] (sim_X9_refuse hw) k_774 k_776 k_7 k_140 k_777 hdV_X9_refuse rfl rfl (by decide) rfl kdC_46 rfl rfl rfl dX9_hold_21 ?_
    intro x1 h1 zb21 hw
    exact g_zret C hr zb21 dX9_hold_24 ⟨_, rfl, zb21, hw⟩
  · refine g_aload_n C dX9_hold_7 rfl (by decide) rfl ?_
    refine gf_X9_283 C dX9_hold_8 kdC_46 (fun z8 => ?_)
    refine g_aload_n C dX9_hold_11 rfl (by decide) rfl ?_
    refine gw_X9_15 C dX9_hold_12 kdC_46 wwC_46_10 ?_
    refine g_alen C dX9_hold_15 (ci := 14) (by decide) skC_47 (by decide) ?_
    refine g_icmp_lt C 25 dX9_hold_16 rfl hw (fun hw => ?_) (fun hw => ?_)
    · refine g_aload_n C dX9_hold_25 rfl (by decide) rfl ?_
      refine gw_X9_15 C dX9_hold_26 kdC_46 wwC_46_10 ?_
      refine g_aload_n C dX9_hold_29 rfl (by decide) rfl ?_
      refine gf_X9_283 C dX9_hold_30 kdC_46 (fun z30 => ?_)
      refine g_iload_n C dX9_hold_33 rfl rfl ?_
      obtain ⟨⟨b1, b1b⟩, hw⟩ := hw
      refine g_iastore C dX9_hold_34 kdC_47 b1 b1b (fun z => z) ?_
      refine g_heap (fun h2 eh2 => ?_)
      replace hw := hw h2 eh2
      refine g_aload_n C dX9_hold_35 rfl (by decide) rfl ?_
      refine gw_X9_19 C dX9_hold_36 kdC_46 wwC_46_11 ?_
      refine g_aload_n C dX9_hold_39 rfl (by decide) rfl ?_
      refine gf_X9_283 C dX9_hold_40 kdC_46 (fun z40 => ?_)
      refine g_iload_n C dX9_hold_43 rfl rfl ?_
      obtain ⟨⟨b2, b2b⟩, hw⟩ := hw
      refine g_iastore C dX9_hold_44 kdC_48 b2 b2b (fun z => z) ?_
      refine g_heap (fun h3 eh3 => ?_)
      replace hw := hw h3 eh3
      refine g_aload_n C dX9_hold_45 rfl (by decide) rfl ?_
      refine g_dup C (by show ¬ (2 : Nat) = 1; decide) dX9_hold_46 ?_
      refine gf_X9_283 C dX9_hold_47 kdC_46 (fun z47 => ?_)
      refine g_iconst C ⟨by decide, by decide⟩ dX9_hold_50 ?_
      refine g_iadd C dX9_hold_51 ?_
      refine gp_X9_283 C dX9_hold_52 kdC_46 (fun z => z) ?_
      refine g_heap (fun h4 eh4 => ?_)
      replace hw := hw h4 eh4
      refine g_iconst C ⟨by decide, by decide⟩ dX9_hold_55 ?_
      exact g_zret C hr (Or.inr rfl) dX9_hold_56 ⟨_, rfl, (Or.inr rfl), hw⟩
    · refine g_aload_n C dX9_hold_19 rfl (by decide) rfl ?_
      refine g_iconst C ⟨by decide, by decide⟩ dX9_hold_20 ?_
      refine g_callVz C [(0, 2)] (sim_X9_refuse hw) k_774 k_776 k_7 k_140 k_777 hdV_X9_refuse rfl rfl (by decide) rfl kdC_46 rfl rfl rfl dX9_hold_21 ?_
      intro x2 h5 zb21 hw
      exact g_zret C hr zb21 dX9_hold_24 ⟨_, rfl, zb21, hw⟩
set_option maxRecDepth 20000 in
set_option maxHeartbeats 4000000 in
theorem sim_X9_isRoomForKnot {z : Mz} {l : Launch} {h : Mh} {K : Int → Mh → Prop} (hw : wp_X9_isRoomForKnot h K) : mCal (XC z) l yX9_isRoomForKnot cX9_isRoomForKnot 1 (some Jvm.ClassFile.FieldType.boolean) 1 21 [(2, 46)] h (mKz K) := by
  refine m_entry RX9 rfl (by decide) rfl (fun p e s m args below meth c C hr => ?_)
  show mG _ p l e _ s m args below meth c _ _ 0 [(0, (2, 46))] [] h
  unfold wp_X9_isRoomForKnot at hw
  refine g_aload_n C dX9_isRoomForKnot_0 rfl (by decide) rfl ?_
  refine gf_X9_289 C dX9_isRoomForKnot_1 kdC_46 (fun z1 => ?_)
  refine g_bipush C ⟨by decide, by decide⟩ (by decide) dX9_isRoomForKnot_4 ?_
  refine g_icmp_lt C 15 dX9_isRoomForKnot_6 rfl hw (fun hw => ?_) (fun hw => ?_)
  · refine g_aload_n C dX9_isRoomForKnot_15 rfl (by decide) rfl ?_
    refine g_dup C (by show ¬ (2 : Nat) = 1; decide) dX9_isRoomForKnot_16 ?_
    refine gf_X9_289 C dX9_isRoomForKnot_17 kdC_46 (fun z17 => ?_)
    refine g_iconst C ⟨by decide, by decide⟩ dX9_isRoomForKnot_20 ?_
    refine g_iadd C dX9_isRoomForKnot_21 ?_
    refine gp_X9_289 C dX9_isRoomForKnot_22 kdC_46 (fun z => z) ?_
    refine g_heap (fun h1 eh1 => ?_)
    replace hw := hw h1 eh1
    refine g_iconst C ⟨by decide, by decide⟩ dX9_isRoomForKnot_25 ?_
    exact g_zret C hr (Or.inr rfl) dX9_isRoomForKnot_26 ⟨_, rfl, (Or.inr rfl), hw⟩
  · refine g_aload_n C dX9_isRoomForKnot_9 rfl (by decide) rfl ?_
    refine g_iconst C ⟨by decide, by decide⟩ dX9_isRoomForKnot_10 ?_
    refine g_callVz C [(0, 2)] (sim_X9_refuse hw) k_774 k_776 k_7 k_140 k_777 hdV_X9_refuse rfl rfl (by decide) rfl kdC_46 rfl rfl rfl dX9_isRoomForKnot_11 ?_
    intro x1 h2 zb11 hw
    exact g_zret C hr zb11 dX9_isRoomForKnot_14 ⟨_, rfl, zb11, hw⟩
set_option maxRecDepth 20000 in
set_option maxHeartbeats 4000000 in
theorem sim_X9_rankOf {z : Mz} {l : Launch} {p0 : Int} {h : Mh} {K : Int → Mh → Prop} (hw : wp_X9_rankOf p0 h K) : mCal (XC z) l yX9_rankOf cX9_rankOf 1 (some Jvm.ClassFile.FieldType.int) 0 0 [(0, p0)] h (mKi K) := by
  refine m_entry RX9 rfl (by decide) rfl (fun p e s m args below meth c C hr => ?_)
  show mG _ p l e _ s m args below meth c _ _ 0 [(0, (0, p0))] [] h
  unfold wp_X9_rankOf at hw
  refine g_iload_n C dX9_rankOf_0 rfl rfl ?_
  by_cases c0 : p0 = 7
  · rw [if_pos c0] at hw
    refine g_tabIn C 64 7 dX9_rankOf_1 c0 (by decide) (by decide) rfl rfl ?_
    refine g_iconst C ⟨by decide, by decide⟩ dX9_rankOf_64 ?_
    exact g_iret C hr dX9_rankOf_65 ⟨_, rfl, hw⟩
  rw [if_neg c0] at hw
  by_cases c1 : p0 = 8
  · rw [if_pos c1] at hw
    refine g_tabIn C 66 8 dX9_rankOf_1 c1 (by decide) (by decide) rfl rfl ?_
    refine g_iconst C ⟨by decide, by decide⟩ dX9_rankOf_66 ?_
    exact g_iret C hr dX9_rankOf_67 ⟨_, rfl, hw⟩
  rw [if_neg c1] at hw
  by_cases c2 : p0 = 9
  · rw [if_pos c2] at hw
    refine g_tabIn C 73 9 dX9_rankOf_1 c2 (by decide) (by decide) rfl rfl ?_
    refine g_iconst C ⟨by decide, by decide⟩ dX9_rankOf_73 ?_
    exact g_iret C hr dX9_rankOf_74 ⟨_, rfl, hw⟩
  rw [if_neg c2] at hw
  by_cases c3 : p0 = 10
  · rw [if_pos c3] at hw
    refine g_tabIn C 73 10 dX9_rankOf_1 c3 (by decide) (by decide) rfl rfl ?_
    refine g_iconst C ⟨by decide, by decide⟩ dX9_rankOf_73 ?_
    exact g_iret C hr dX9_rankOf_74 ⟨_, rfl, hw⟩
  rw [if_neg c3] at hw
  by_cases c4 : p0 = 11
  · rw [if_pos c4] at hw
    refine g_tabIn C 73 11 dX9_rankOf_1 c4 (by decide) (by decide) rfl rfl ?_
    refine g_iconst C ⟨by decide, by decide⟩ dX9_rankOf_73 ?_
    exact g_iret C hr dX9_rankOf_74 ⟨_, rfl, hw⟩
  rw [if_neg c4] at hw
  by_cases c5 : p0 = 12
  · rw [if_pos c5] at hw
    refine g_tabIn C 73 12 dX9_rankOf_1 c5 (by decide) (by decide) rfl rfl ?_
    refine g_iconst C ⟨by decide, by decide⟩ dX9_rankOf_73 ?_
    exact g_iret C hr dX9_rankOf_74 ⟨_, rfl, hw⟩
  rw [if_neg c5] at hw
  by_cases c6 : p0 = 13
  · rw [if_pos c6] at hw
    refine g_tabIn C 73 13 dX9_rankOf_1 c6 (by decide) (by decide) rfl rfl ?_
    refine g_iconst C ⟨by decide, by decide⟩ dX9_rankOf_73 ?_
    exact g_iret C hr dX9_rankOf_74 ⟨_, rfl, hw⟩
  rw [if_neg c6] at hw
  by_cases c7 : p0 = 14
  · rw [if_pos c7] at hw
    refine g_tabIn C 73 14 dX9_rankOf_1 c7 (by decide) (by decide) rfl rfl ?_
    refine g_iconst C ⟨by decide, by decide⟩ dX9_rankOf_73 ?_
    exact g_iret C hr dX9_rankOf_74 ⟨_, rfl, hw⟩
  rw [if_neg c7] at hw
  by_cases c8 : p0 = 15
  · rw [if_pos c8] at hw
    refine g_tabIn C 68 15 dX9_rankOf_1 c8 (by decide) (by decide) rfl rfl ?_
    refine g_iconst C ⟨by decide, by decide⟩ dX9_rankOf_68 ?_
    exact g_iret C hr dX9_rankOf_69 ⟨_, rfl, hw⟩
  rw [if_neg c8] at hw
  by_cases c9 : p0 = 16
  · rw [if_pos c9] at hw
    refine g_tabIn C 68 16 dX9_rankOf_1 c9 (by decide) (by decide) rfl rfl ?_
    refine g_iconst C ⟨by decide, by decide⟩ dX9_rankOf_68 ?_
    exact g_iret C hr dX9_rankOf_69 ⟨_, rfl, hw⟩
  rw [if_neg c9] at hw
  by_cases c10 : p0 = 17
  · rw [if_pos c10] at hw
    refine g_tabIn C 70 17 dX9_rankOf_1 c10 (by decide) (by decide) rfl rfl ?_
    refine g_bipush C ⟨by decide, by decide⟩ (by decide) dX9_rankOf_70 ?_
    exact g_iret C hr dX9_rankOf_72 ⟨_, rfl, hw⟩
  rw [if_neg c10] at hw
  by_cases c11 : p0 = 18
  · rw [if_pos c11] at hw
    refine g_tabIn C 70 18 dX9_rankOf_1 c11 (by decide) (by decide) rfl rfl ?_
    refine g_bipush C ⟨by decide, by decide⟩ (by decide) dX9_rankOf_70 ?_
    exact g_iret C hr dX9_rankOf_72 ⟨_, rfl, hw⟩
  rw [if_neg c11] at hw
  refine g_tabOut C 73 dX9_rankOf_1 (by omega) rfl ?_
  refine g_iconst C ⟨by decide, by decide⟩ dX9_rankOf_73 ?_
  exact g_iret C hr dX9_rankOf_74 ⟨_, rfl, hw⟩
set_option maxRecDepth 20000 in
set_option maxHeartbeats 4000000 in
theorem sim_X9_topRank {z : Mz} {l : Launch} {h : Mh} {K : Int → Mh → Prop} (hw : wp_X9_topRank h K) : mCal (XC z) l yX9_topRank cX9_topRank 2 (some Jvm.ClassFile.FieldType.int) 0 0 [(2, 46)] h (mKi K) := by
  refine m_entry RX9 rfl (by decide) rfl (fun p e s m args below meth c C hr => ?_)
  show mG _ p l e _ s m args below meth c _ _ 0 [(0, (2, 46))] [] h
  unfold wp_X9_topRank at hw
  refine g_aload_n C dX9_topRank_0 rfl (by decide) rfl ?_
  refine gf_X9_283 C dX9_topRank_1 kdC_46 (fun z1 => ?_)
  refine g_if_le C 23 dX9_topRank_4 rfl hw (fun hw => ?_) (fun hw => ?_)
  · refine g_iconst C ⟨by decide, by decide⟩ dX9_topRank_23 ?_
    refine g_istore_n C dX9_topRank_24 rfl (by decide) ?_
    refine g_iload_n C dX9_topRank_25 rfl rfl ?_
    refine g_if_eq C 43 dX9_topRank_26 rfl hw (fun hw => ?_) (fun hw => ?_)
    · refine g_iconst C ⟨by decide, by decide⟩ dX9_topRank_43 ?_
      exact g_iret C hr dX9_topRank_44 ⟨_, rfl, hw⟩
    · refine g_aload_n C dX9_topRank_29 rfl (by decide) rfl ?_
      refine gw_X9_19 C dX9_topRank_30 kdC_46 wwC_46_11 ?_
      refine g_aload_n C dX9_topRank_33 rfl (by decide) rfl ?_
      refine gf_X9_283 C dX9_topRank_34 kdC_46 (fun z34 => ?_)
      refine g_iconst C ⟨by decide, by decide⟩ dX9_topRank_37 ?_
      refine g_isub C dX9_topRank_38 ?_
      obtain ⟨⟨b1, b1b⟩, hw⟩ := hw
      refine g_iaload C dX9_topRank_39 kdC_48 b1 b1b (fun z39 => ?_)
      refine g_goto C 44 dX9_topRank_40 rfl ?_
      exact g_iret C hr dX9_topRank_44 ⟨_, rfl, hw⟩
  · refine g_aload_n C dX9_topRank_7 rfl (by decide) rfl ?_
    refine gf_X9_283 C dX9_topRank_8 kdC_46 (fun z8 => ?_)
    refine g_aload_n C dX9_topRank_11 rfl (by decide) rfl ?_
    refine gw_X9_19 C dX9_topRank_12 kdC_46 wwC_46_11 ?_
    refine g_alen C dX9_topRank_15 (ci := 14) (by decide) skC_48 (by decide) ?_
    refine g_icmp_gt C 23 dX9_topRank_16 rfl hw (fun hw => ?_) (fun hw => ?_)
    · refine g_iconst C ⟨by decide, by decide⟩ dX9_topRank_23 ?_
      refine g_istore_n C dX9_topRank_24 rfl (by decide) ?_
      refine g_iload_n C dX9_topRank_25 rfl rfl ?_
      refine g_if_eq C 43 dX9_topRank_26 rfl hw (fun hw => ?_) (fun hw => ?_)
      · refine g_iconst C ⟨by decide, by decide⟩ dX9_topRank_43 ?_
        exact g_iret C hr dX9_topRank_44 ⟨_, rfl, hw⟩
      · refine g_aload_n C dX9_topRank_29 rfl (by decide) rfl ?_
        refine gw_X9_19 C dX9_topRank_30 kdC_46 wwC_46_11 ?_
        refine g_aload_n C dX9_topRank_33 rfl (by decide) rfl ?_
        refine gf_X9_283 C dX9_topRank_34 kdC_46 (fun z34 => ?_)
        refine g_iconst C ⟨by decide, by decide⟩ dX9_topRank_37 ?_
        refine g_isub C dX9_topRank_38 ?_
        obtain ⟨⟨b2, b2b⟩, hw⟩ := hw
        refine g_iaload C dX9_topRank_39 kdC_48 b2 b2b (fun z39 => ?_)
        refine g_goto C 44 dX9_topRank_40 rfl ?_
        exact g_iret C hr dX9_topRank_44 ⟨_, rfl, hw⟩
    · refine g_iconst C ⟨by decide, by decide⟩ dX9_topRank_19 ?_
      refine g_goto C 24 dX9_topRank_20 rfl ?_
      refine g_istore_n C dX9_topRank_24 rfl (by decide) ?_
      refine g_iload_n C dX9_topRank_25 rfl rfl ?_
      refine g_if_eq C 43 dX9_topRank_26 rfl hw (fun hw => ?_) (fun hw => ?_)
      · refine g_iconst C ⟨by decide, by decide⟩ dX9_topRank_43 ?_
        exact g_iret C hr dX9_topRank_44 ⟨_, rfl, hw⟩
      · refine g_aload_n C dX9_topRank_29 rfl (by decide) rfl ?_
        refine gw_X9_19 C dX9_topRank_30 kdC_46 wwC_46_11 ?_
        refine g_aload_n C dX9_topRank_33 rfl (by decide) rfl ?_
        refine gf_X9_283 C dX9_topRank_34 kdC_46 (fun z34 => ?_)
        refine g_iconst C ⟨by decide, by decide⟩ dX9_topRank_37 ?_
        refine g_isub C dX9_topRank_38 ?_
        obtain ⟨⟨b3, b3b⟩, hw⟩ := hw
        refine g_iaload C dX9_topRank_39 kdC_48 b3 b3b (fun z39 => ?_)
        refine g_goto C 44 dX9_topRank_40 rfl ?_
        exact g_iret C hr dX9_topRank_44 ⟨_, rfl, hw⟩
set_option maxRecDepth 20000 in
set_option maxHeartbeats 4000000 in
theorem sim_X9_release {z : Mz} {l : Launch} {p1 : Int} {h : Mh} {K : Mh → Prop} (hw : wp_X9_release p1 h K) : mCal (XC z) l yX9_release cX9_release 2 none 1 22 [(2, 46), (0, p1)] h (mKv K) := by
  refine m_entry RX9 rfl (by decide) rfl (fun p e s m args below meth c C hr => ?_)
  have hQ : ∀ x, Lfp (F_X9_release p1 K) x → (match x.1, x.2.1 with | 0, [] => mG (XC z) p l e { frames := 1, cells := 0, slots := 0, locals := 22 } s m args below meth c 2 (mMQ (XC z) (mKv K) below args s) 0 [(0, (2, 46)), (1, (0, p1))] [] x.2.2 | _, _ => True) := by
    intro x hx
    refine Lfp.ind (fun x => (match x.1, x.2.1 with | 0, [] => mG (XC z) p l e { frames := 1, cells := 0, slots := 0, locals := 22 } s m args below meth c 2 (mMQ (XC z) (mKv K) below args s) 0 [(0, (2, 46)), (1, (0, p1))] [] x.2.2 | _, _ => True)) ?_ hx
    clear hx x
    intro Z x hQ hw
    rcases hw with ⟨h, rfl, hw⟩
    · show mG (XC z) p l e { frames := 1, cells := 0, slots := 0, locals := 22 } s m args below meth c 2 (mMQ (XC z) (mKv K) below args s) 0 [(0, (2, 46)), (1, (0, p1))] [] h
      unfold B_X9_release_0 at hw
      refine g_aload_n C dX9_release_0 rfl (by decide) rfl ?_
      refine gf_X9_283 C dX9_release_1 kdC_46 (fun z1 => ?_)
      refine g_if_le C 60 dX9_release_4 rfl hw (fun hw => ?_) (fun hw => ?_)
      · exact g_vret C hr dX9_release_60 ⟨rfl, hw⟩
      · refine g_aload_n C dX9_release_7 rfl (by decide) rfl ?_
        refine gf_X9_283 C dX9_release_8 kdC_46 (fun z8 => ?_)
        refine g_aload_n C dX9_release_11 rfl (by decide) rfl ?_
        refine gw_X9_15 C dX9_release_12 kdC_46 wwC_46_10 ?_
        refine g_alen C dX9_release_15 (ci := 14) (by decide) skC_47 (by decide) ?_
        refine g_icmp_gt C 60 dX9_release_16 rfl hw (fun hw => ?_) (fun hw => ?_)
        · exact g_vret C hr dX9_release_60 ⟨rfl, hw⟩
        · refine g_aload_n C dX9_release_19 rfl (by decide) rfl ?_
          refine g_callVi C [] (sim_X9_topRank hw) k_926 k_928 k_29 k_140 k_929 hdV_X9_topRank rfl rfl (by decide) rfl kdC_46 rfl rfl rfl dX9_release_20 ?_
          intro x1 h1 hw
          refine g_iload_n C dX9_release_23 rfl rfl ?_
          refine g_icmp_lt C 60 dX9_release_24 rfl hw (fun hw => ?_) (fun hw => ?_)
          · exact g_vret C hr dX9_release_60 ⟨rfl, hw⟩
          · refine g_aload_n C dX9_release_27 rfl (by decide) rfl ?_
            refine g_dup C (by show ¬ (2 : Nat) = 1; decide) dX9_release_28 ?_
            refine gf_X9_283 C dX9_release_29 kdC_46 (fun z29 => ?_)
            refine g_iconst C ⟨by decide, by decide⟩ dX9_release_32 ?_
            refine g_isub C dX9_release_33 ?_
            refine gp_X9_283 C dX9_release_34 kdC_46 (fun z => z) ?_
            refine g_heap (fun h2 eh2 => ?_)
            replace hw := hw h2 eh2
            refine g_aload_n C dX9_release_37 rfl (by decide) rfl ?_
            refine gf_X9_31 C dX9_release_38 kdC_46 (fun z38 => ?_)
            obtain ⟨q2, hw⟩ := hw
            refine gw_X9_274 C dX9_release_41 q2 (wir_4_15 wirC q2) ?_
            refine g_aload_n C dX9_release_44 rfl (by decide) rfl ?_
            refine gw_X9_15 C dX9_release_45 kdC_46 wwC_46_10 ?_
            refine g_aload_n C dX9_release_48 rfl (by decide) rfl ?_
            refine gf_X9_283 C dX9_release_49 kdC_46 (fun z49 => ?_)
            obtain ⟨⟨b2, b2b⟩, hw⟩ := hw
            refine g_iaload C dX9_release_52 kdC_47 b2 b2b (fun z52 => ?_)
            refine g_iconst C ⟨by decide, by decide⟩ dX9_release_53 ?_
            refine g_callVv C [(0, (h2 47 (h2 46 12))), (0, 0)] (sim_X3_add wirC (kid_4_15 wirC q2) hw) k_930 k_931 k_932 k_139 k_933 hdV_X3_add rfl rfl (by decide) rfl (kid_4_15 wirC q2) rfl rfl rfl dX9_release_54 ?_
            intro h3 hw
            refine g_goto C 0 dX9_release_57 rfl ?_
            exact g_sub [0, 1] rfl (hQ _ hw)
  show mG _ p l e _ s m args below meth c _ _ 0 [(0, (2, 46)), (1, (0, p1))] [] h
  unfold wp_X9_release at hw
  refine g_aload_n C dX9_release_0 rfl (by decide) rfl ?_
  refine gf_X9_283 C dX9_release_1 kdC_46 (fun z1 => ?_)
  refine g_if_le C 60 dX9_release_4 rfl hw (fun hw => ?_) (fun hw => ?_)
  · exact g_vret C hr dX9_release_60 ⟨rfl, hw⟩
  · refine g_aload_n C dX9_release_7 rfl (by decide) rfl ?_
    refine gf_X9_283 C dX9_release_8 kdC_46 (fun z8 => ?_)
    refine g_aload_n C dX9_release_11 rfl (by decide) rfl ?_
    refine gw_X9_15 C dX9_release_12 kdC_46 wwC_46_10 ?_
    refine g_alen C dX9_release_15 (ci := 14) (by decide) skC_47 (by decide) ?_
    refine g_icmp_gt C 60 dX9_release_16 rfl hw (fun hw => ?_) (fun hw => ?_)
    · exact g_vret C hr dX9_release_60 ⟨rfl, hw⟩
    · refine g_aload_n C dX9_release_19 rfl (by decide) rfl ?_
      refine g_callVi C [] (sim_X9_topRank hw) k_926 k_928 k_29 k_140 k_929 hdV_X9_topRank rfl rfl (by decide) rfl kdC_46 rfl rfl rfl dX9_release_20 ?_
      intro x1 h1 hw
      refine g_iload_n C dX9_release_23 rfl rfl ?_
      refine g_icmp_lt C 60 dX9_release_24 rfl hw (fun hw => ?_) (fun hw => ?_)
      · exact g_vret C hr dX9_release_60 ⟨rfl, hw⟩
      · refine g_aload_n C dX9_release_27 rfl (by decide) rfl ?_
        refine g_dup C (by show ¬ (2 : Nat) = 1; decide) dX9_release_28 ?_
        refine gf_X9_283 C dX9_release_29 kdC_46 (fun z29 => ?_)
        refine g_iconst C ⟨by decide, by decide⟩ dX9_release_32 ?_
        refine g_isub C dX9_release_33 ?_
        refine gp_X9_283 C dX9_release_34 kdC_46 (fun z => z) ?_
        refine g_heap (fun h2 eh2 => ?_)
        replace hw := hw h2 eh2
        refine g_aload_n C dX9_release_37 rfl (by decide) rfl ?_
        refine gf_X9_31 C dX9_release_38 kdC_46 (fun z38 => ?_)
        obtain ⟨q1, hw⟩ := hw
        refine gw_X9_274 C dX9_release_41 q1 (wir_4_15 wirC q1) ?_
        refine g_aload_n C dX9_release_44 rfl (by decide) rfl ?_
        refine gw_X9_15 C dX9_release_45 kdC_46 wwC_46_10 ?_
        refine g_aload_n C dX9_release_48 rfl (by decide) rfl ?_
        refine gf_X9_283 C dX9_release_49 kdC_46 (fun z49 => ?_)
        obtain ⟨⟨b1, b1b⟩, hw⟩ := hw
        refine g_iaload C dX9_release_52 kdC_47 b1 b1b (fun z52 => ?_)
        refine g_iconst C ⟨by decide, by decide⟩ dX9_release_53 ?_
        refine g_callVv C [(0, (h2 47 (h2 46 12))), (0, 0)] (sim_X3_add wirC (kid_4_15 wirC q1) hw) k_930 k_931 k_932 k_139 k_933 hdV_X3_add rfl rfl (by decide) rfl (kid_4_15 wirC q1) rfl rfl rfl dX9_release_54 ?_
        intro h3 hw
        refine g_goto C 0 dX9_release_57 rfl ?_
        exact g_sub [0, 1] rfl (hQ _ hw)
set_option maxRecDepth 20000 in
set_option maxHeartbeats 4000000 in
theorem sim_X9_readClose {z : Mz} {l : Launch} {h : Mh} {K : Int → Mh → Prop} (hw : wp_X9_readClose h K) : mCal (XC z) l yX9_readClose cX9_readClose 1 (some Jvm.ClassFile.FieldType.boolean) 2 43 [(2, 46)] h (mKz K) := by
  refine m_entry RX9 rfl (by decide) rfl (fun p e s m args below meth c C hr => ?_)
  show mG _ p l e _ s m args below meth c _ _ 0 [(0, (2, 46))] [] h
  unfold wp_X9_readClose at hw
  refine g_aload_n C dX9_readClose_0 rfl (by decide) rfl ?_
  refine gf_X9_286 C dX9_readClose_1 kdC_46 (fun z1 => ?_)
  refine g_if_gt C 13 dX9_readClose_4 rfl hw (fun hw => ?_) (fun hw => ?_)
  · refine g_aload_n C dX9_readClose_13 rfl (by decide) rfl ?_
    refine g_iconst C ⟨by decide, by decide⟩ dX9_readClose_14 ?_
    refine g_callVv C [(0, 1)] (sim_X9_release hw) k_922 k_924 k_28 k_140 k_925 hdV_X9_release rfl rfl (by decide) rfl kdC_46 rfl rfl rfl dX9_readClose_15 ?_
    intro h1 hw
    refine g_aload_n C dX9_readClose_18 rfl (by decide) rfl ?_
    refine g_dup C (by show ¬ (2 : Nat) = 1; decide) dX9_readClose_19 ?_
    refine gf_X9_286 C dX9_readClose_20 kdC_46 (fun z20 => ?_)
    refine g_iconst C ⟨by decide, by decide⟩ dX9_readClose_23 ?_
    refine g_isub C dX9_readClose_24 ?_
    refine gp_X9_286 C dX9_readClose_25 kdC_46 (fun z => z) ?_
    refine g_heap (fun h2 eh2 => ?_)
    replace hw := hw h2 eh2
    refine g_aload_n C dX9_readClose_28 rfl (by decide) rfl ?_
    refine g_aload_n C dX9_readClose_29 rfl (by decide) rfl ?_
    refine gf_X9_283 C dX9_readClose_30 kdC_46 (fun z30 => ?_)
    refine g_iconst C ⟨by decide, by decide⟩ dX9_readClose_33 ?_
    refine g_isub C dX9_readClose_34 ?_
    refine g_iconst C ⟨by decide, by decide⟩ dX9_readClose_35 ?_
    refine g_mmax C k_893 k_179 k_137 k_180 rfl rfl rfl dX9_readClose_36 ?_
    refine gp_X9_283 C dX9_readClose_39 kdC_46 (fun z => z) ?_
    refine g_heap (fun h3 eh3 => ?_)
    replace hw := hw h3 eh3
    refine g_iconst C ⟨by decide, by decide⟩ dX9_readClose_42 ?_
    exact g_zret C hr (Or.inr rfl) dX9_readClose_43 ⟨_, rfl, (Or.inr rfl), hw⟩
  · refine g_aload_n C dX9_readClose_7 rfl (by decide) rfl ?_
    refine g_iconst C ⟨by decide, by decide⟩ dX9_readClose_8 ?_
    refine g_callVz C [(0, 1)] (sim_X9_refuse hw) k_774 k_776 k_7 k_140 k_777 hdV_X9_refuse rfl rfl (by decide) rfl kdC_46 rfl rfl rfl dX9_readClose_9 ?_
    intro x1 h4 zb9 hw
    exact g_zret C hr zb9 dX9_readClose_12 ⟨_, rfl, zb9, hw⟩
set_option maxRecDepth 20000 in
set_option maxHeartbeats 4000000 in
theorem sim_X9_wordCode {z : Mz} {l : Launch} {h : Mh} {K : Int → Mh → Prop} (hw : wp_X9_wordCode h K) : mCal (XC z) l yX9_wordCode cX9_wordCode 2 (some Jvm.ClassFile.FieldType.int) 1 21 [(2, 46)] h (mKi K) := by
  refine m_entry RX9 rfl (by decide) rfl (fun p e s m args below meth c C hr => ?_)
  show mG _ p l e _ s m args below meth c _ _ 0 [(0, (2, 46))] [] h
  unfold wp_X9_wordCode at hw
  refine g_aload_n C dX9_wordCode_0 rfl (by decide) rfl ?_
  refine gw_X9_27 C dX9_wordCode_1 kdC_46 wwC_46_0 ?_
  refine gf_X9_66 C dX9_wordCode_4 kdC_49 (fun z4 => ?_)
  refine g_iconst C ⟨by decide, by decide⟩ dX9_wordCode_7 ?_
  refine g_icmp_ne C 24 dX9_wordCode_8 rfl hw (fun hw => ?_) (fun hw => ?_)
  · refine g_anull C 3 (by decide) dX9_wordCode_24 ?_
    refine g_astore_n C dX9_wordCode_25 rfl (by decide) (by decide) ?_
    refine g_aload_n C dX9_wordCode_26 rfl (by decide) rfl ?_
    refine g_ifnonnull C 34 (by decide) dX9_wordCode_27 rfl hw (fun hw => ?_) (fun hw => ?_)
    · refine g_aload_n C dX9_wordCode_34 rfl (by decide) rfl ?_
      obtain ⟨⟨b1, b1b⟩, hw⟩ := hw
      refine g_wcN C k_2307 dX9_wordCode_35 b1 b1b ?_
      exact g_iret C hr dX9_wordCode_38 ⟨_, rfl, hw⟩
    · refine g_iconst C ⟨by decide, by decide⟩ dX9_wordCode_30 ?_
      refine g_goto C 38 dX9_wordCode_31 rfl ?_
      exact g_iret C hr dX9_wordCode_38 ⟨_, rfl, hw⟩
  · refine g_aload_n C dX9_wordCode_11 rfl (by decide) rfl ?_
    refine gw_X9_27 C dX9_wordCode_12 kdC_46 wwC_46_0 ?_
    refine gf_X9_89 C dX9_wordCode_15 kdC_49 (fun z15 => ?_)
    refine g_callSNe C [(0, (h 49 10))] (sim_X12_of hw) k_773 k_742 k_149 k_743 hdS_X12_of rfl rfl rfl rfl rfl dX9_wordCode_18 ?_
    intro x1 h1 hw
    refine g_goto C 25 dX9_wordCode_21 rfl ?_
    refine g_astore_n C dX9_wordCode_25 rfl (by decide) (by decide) ?_
    refine g_aload_n C dX9_wordCode_26 rfl (by decide) rfl ?_
    refine g_ifnonnull C 34 (by decide) dX9_wordCode_27 rfl hw (fun hw => ?_) (fun hw => ?_)
    · refine g_aload_n C dX9_wordCode_34 rfl (by decide) rfl ?_
      obtain ⟨⟨b2, b2b⟩, hw⟩ := hw
      refine g_wcN C k_2307 dX9_wordCode_35 b2 b2b ?_
      exact g_iret C hr dX9_wordCode_38 ⟨_, rfl, hw⟩
    · refine g_iconst C ⟨by decide, by decide⟩ dX9_wordCode_30 ?_
      refine g_goto C 38 dX9_wordCode_31 rfl ?_
      exact g_iret C hr dX9_wordCode_38 ⟨_, rfl, hw⟩
set_option maxRecDepth 20000 in
set_option maxHeartbeats 4000000 in
theorem sim_X9_readBehindOperand {z : Mz} {l : Launch} {h : Mh} {K : Int → Mh → Prop} (hw : wp_X9_readBehindOperand h K) : mCal (XC z) l yX9_readBehindOperand cX9_readBehindOperand 3 (some Jvm.ClassFile.FieldType.boolean) 3 63 [(2, 46)] h (mKz K) := by
  refine m_entry RX9 rfl (by decide) rfl (fun p e s m args below meth c C hr => ?_)
  have hQ : ∀ x, Lfp (F_X9_readBehindOperand K) x → (match x.1, x.2.1 with | 42, [s0] => mG (XC z) p l e { frames := 3, cells := 0, slots := 0, locals := 63 } s m args below meth c 3 (mMQ (XC z) (mKz K) below args s) 42 [(0, (2, 46))] [(0, s0)] x.2.2 | 77, [v1, v2, s1] => mG (XC z) p l e { frames := 3, cells := 0, slots := 0, locals := 63 } s m args below meth c 3 (mMQ (XC z) (mKz K) below args s) 77 [(1, (0, v1)), (2, (0, v2)), (0, (2, 46))] [(0, s1), (2, 46)] x.2.2 | 99, [v1, v2] => mG (XC z) p l e { frames := 3, cells := 0, slots := 0, locals := 63 } s m args below meth c 3 (mMQ (XC z) (mKz K) below args s) 99 [(1, (0, v1)), (2, (0, v2)), (0, (2, 46))] [] x.2.2 | _, _ => True) := by
    intro x hx
    refine Lfp.ind (fun x => (match x.1, x.2.1 with | 42, [s0] => mG (XC z) p l e { frames := 3, cells := 0, slots := 0, locals := 63 } s m args below meth c 3 (mMQ (XC z) (mKz K) below args s) 42 [(0, (2, 46))] [(0, s0)] x.2.2 | 77, [v1, v2, s1] => mG (XC z) p l e { frames := 3, cells := 0, slots := 0, locals := 63 } s m args below meth c 3 (mMQ (XC z) (mKz K) below args s) 77 [(1, (0, v1)), (2, (0, v2)), (0, (2, 46))] [(0, s1), (2, 46)] x.2.2 | 99, [v1, v2] => mG (XC z) p l e { frames := 3, cells := 0, slots := 0, locals := 63 } s m args below meth c 3 (mMQ (XC z) (mKz K) below args s) 99 [(1, (0, v1)), (2, (0, v2)), (0, (2, 46))] [] x.2.2 | _, _ => True)) ?_ hx
    clear hx x
    intro Z x hQ hw
    rcases hw with ⟨s0, h, rfl, hw⟩ | ⟨v1, v2, s1, h, rfl, hw⟩ | ⟨v1, v2, h, rfl, hw⟩
    · show mG (XC z) p l e { frames := 3, cells := 0, slots := 0, locals := 63 } s m args below meth c 3 (mMQ (XC z) (mKz K) below args s) 42 [(0, (2, 46))] [(0, s0)] h
      unfold B_X9_readBehindOperand_42 at hw
      refine g_istore_n C dX9_readBehindOperand_42 rfl (by decide) ?_
      refine g_iload_n C dX9_readBehindOperand_43 rfl rfl ?_
      refine g_bipush C ⟨by decide, by decide⟩ (by decide) dX9_readBehindOperand_44 ?_
      refine g_icmp_lt C 55 dX9_readBehindOperand_46 rfl hw (fun hw => ?_) (fun hw => ?_)
      · refine g_aload_n C dX9_readBehindOperand_55 rfl (by decide) rfl ?_
        refine g_iconst C ⟨by decide, by decide⟩ dX9_readBehindOperand_56 ?_
        refine g_callVz C [(0, 1)] (sim_X9_refuse hw) k_774 k_776 k_7 k_140 k_777 hdV_X9_refuse rfl rfl (by decide) rfl kdC_46 rfl rfl rfl dX9_readBehindOperand_57 ?_
        intro x1 h1 zb57 hw
        exact g_zret C hr zb57 dX9_readBehindOperand_60 ⟨_, rfl, zb57, hw⟩
      · refine g_iload_n C dX9_readBehindOperand_49 rfl rfl ?_
        refine g_bipush C ⟨by decide, by decide⟩ (by decide) dX9_readBehindOperand_50 ?_
        refine g_icmp_le C 61 dX9_readBehindOperand_52 rfl hw (fun hw => ?_) (fun hw => ?_)
        · refine g_iload_n C dX9_readBehindOperand_61 rfl rfl ?_
          refine g_callSi C [(0, s0)] (sim_X9_rankOf hw) k_938 k_939 k_140 k_940 hdS_X9_rankOf rfl rfl rfl rfl rfl dX9_readBehindOperand_62 ?_
          intro x2 h2 hw
          refine g_istore_n C dX9_readBehindOperand_65 rfl (by decide) ?_
          refine g_aload_n C dX9_readBehindOperand_66 rfl (by decide) rfl ?_
          refine g_iload_n C dX9_readBehindOperand_67 rfl rfl ?_
          refine g_iconst C ⟨by decide, by decide⟩ dX9_readBehindOperand_68 ?_
          refine g_icmp_ne C 76 dX9_readBehindOperand_69 rfl hw (fun hw => ?_) (fun hw => ?_)
          · refine g_iload_n C dX9_readBehindOperand_76 rfl rfl ?_
            exact g_sub [1, 2, 0] rfl (hQ _ hw)
          · refine g_iconst C ⟨by decide, by decide⟩ dX9_readBehindOperand_72 ?_
            refine g_goto C 77 dX9_readBehindOperand_73 rfl ?_
            exact g_sub [1, 2, 0] rfl (hQ _ hw)
        · refine g_aload_n C dX9_readBehindOperand_55 rfl (by decide) rfl ?_
          refine g_iconst C ⟨by decide, by decide⟩ dX9_readBehindOperand_56 ?_
          refine g_callVz C [(0, 1)] (sim_X9_refuse hw) k_774 k_776 k_7 k_140 k_777 hdV_X9_refuse rfl rfl (by decide) rfl kdC_46 rfl rfl rfl dX9_readBehindOperand_57 ?_
          intro x3 h3 zb57 hw
          exact g_zret C hr zb57 dX9_readBehindOperand_60 ⟨_, rfl, zb57, hw⟩
    · show mG (XC z) p l e { frames := 3, cells := 0, slots := 0, locals := 63 } s m args below meth c 3 (mMQ (XC z) (mKz K) below args s) 77 [(1, (0, v1)), (2, (0, v2)), (0, (2, 46))] [(0, s1), (2, 46)] h
      unfold B_X9_readBehindOperand_77 at hw
      refine g_callVv C [(0, s1)] (sim_X9_release hw) k_922 k_924 k_28 k_140 k_925 hdV_X9_release rfl rfl (by decide) rfl kdC_46 rfl rfl rfl dX9_readBehindOperand_77 ?_
      intro h1 hw
      refine g_iload_n C dX9_readBehindOperand_80 rfl rfl ?_
      refine g_iconst C ⟨by decide, by decide⟩ dX9_readBehindOperand_81 ?_
      refine g_icmp_ne C 99 dX9_readBehindOperand_82 rfl hw (fun hw => ?_) (fun hw => ?_)
      · exact g_sub [1, 2, 0] rfl (hQ _ hw)
      · refine g_aload_n C dX9_readBehindOperand_85 rfl (by decide) rfl ?_
        refine g_callVi C [] (sim_X9_topRank hw) k_926 k_928 k_29 k_140 k_929 hdV_X9_topRank rfl rfl (by decide) rfl kdC_46 rfl rfl rfl dX9_readBehindOperand_86 ?_
        intro x1 h2 hw
        refine g_iconst C ⟨by decide, by decide⟩ dX9_readBehindOperand_89 ?_
        refine g_icmp_ne C 99 dX9_readBehindOperand_90 rfl hw (fun hw => ?_) (fun hw => ?_)
        · exact g_sub [1, 2, 0] rfl (hQ _ hw)
        · refine g_aload_n C dX9_readBehindOperand_93 rfl (by decide) rfl ?_
          refine g_iconst C ⟨by decide, by decide⟩ dX9_readBehindOperand_94 ?_
          refine g_callVz C [(0, 1)] (sim_X9_refuse hw) k_774 k_776 k_7 k_140 k_777 hdV_X9_refuse rfl rfl (by decide) rfl kdC_46 rfl rfl rfl dX9_readBehindOperand_95 ?_
          intro x2 h3 zb95 hw
          exact g_zret C hr zb95 dX9_readBehindOperand_98 ⟨_, rfl, zb95, hw⟩
    · show mG (XC z) p l e { frames := 3, cells := 0, slots := 0, locals := 63 } s m args below meth c 3 (mMQ (XC z) (mKz K) below args s) 99 [(1, (0, v1)), (2, (0, v2)), (0, (2, 46))] [] h
      unfold B_X9_readBehindOperand_99 at hw
      refine g_aload_n C dX9_readBehindOperand_99 rfl (by decide) rfl ?_
      refine g_iconst C ⟨by decide, by decide⟩ dX9_readBehindOperand_100 ?_
      refine gp_X9_292 C dX9_readBehindOperand_101 kdC_46 (fun _ => (Or.inl rfl)) ?_
      refine g_heap (fun h1 eh1 => ?_)
      replace hw := hw h1 eh1
      refine g_aload_n C dX9_readBehindOperand_104 rfl (by decide) rfl ?_
      refine g_callVz C [] (sim_X9_isRoomForKnot hw) k_941 k_943 k_31 k_140 k_944 hdV_X9_isRoomForKnot rfl rfl (by decide) rfl kdC_46 rfl rfl rfl dX9_readBehindOperand_105 ?_
      intro x1 h2 zb105 hw
      refine g_if_eq C 124 dX9_readBehindOperand_108 rfl hw (fun hw => ?_) (fun hw => ?_)
      · refine g_iconst C ⟨by decide, by decide⟩ dX9_readBehindOperand_124 ?_
        exact g_zret C hr (Or.inl rfl) dX9_readBehindOperand_125 ⟨_, rfl, (Or.inl rfl), hw⟩
      · refine g_aload_n C dX9_readBehindOperand_111 rfl (by decide) rfl ?_
        refine g_iload_n C dX9_readBehindOperand_112 rfl rfl ?_
        refine g_iload_n C dX9_readBehindOperand_113 rfl rfl ?_
        refine g_callVz C [(0, v1), (0, v2)] (sim_X9_hold hw) k_945 k_947 k_32 k_140 k_948 hdV_X9_hold rfl rfl (by decide) rfl kdC_46 rfl rfl rfl dX9_readBehindOperand_114 ?_
        intro x2 h3 zb114 hw
        refine g_if_eq C 124 dX9_readBehindOperand_117 rfl hw (fun hw => ?_) (fun hw => ?_)
        · refine g_iconst C ⟨by decide, by decide⟩ dX9_readBehindOperand_124 ?_
          exact g_zret C hr (Or.inl rfl) dX9_readBehindOperand_125 ⟨_, rfl, (Or.inl rfl), hw⟩
        · refine g_iconst C ⟨by decide, by decide⟩ dX9_readBehindOperand_120 ?_
          refine g_goto C 125 dX9_readBehindOperand_121 rfl ?_
          exact g_zret C hr (Or.inr rfl) dX9_readBehindOperand_125 ⟨_, rfl, (Or.inr rfl), hw⟩
  show mG _ p l e _ s m args below meth c _ _ 0 [(0, (2, 46))] [] h
  unfold wp_X9_readBehindOperand at hw
  refine g_aload_n C dX9_readBehindOperand_0 rfl (by decide) rfl ?_
  refine gw_X9_27 C dX9_readBehindOperand_1 kdC_46 wwC_46_0 ?_
  refine g_bipush C ⟨by decide, by decide⟩ (by decide) dX9_readBehindOperand_4 ?_
  refine g_callVz C [(0, 20)] (sim_X10_isSign hw) k_862 k_863 k_864 k_141 k_865 hdV_X10_isSign rfl rfl (by decide) rfl kdC_49 rfl rfl rfl dX9_readBehindOperand_6 ?_
  intro x1 h1 zb6 hw
  refine g_if_eq C 17 dX9_readBehindOperand_9 rfl hw (fun hw => ?_) (fun hw => ?_)
  · refine g_aload_n C dX9_readBehindOperand_17 rfl (by decide) rfl ?_
    refine gw_X9_27 C dX9_readBehindOperand_18 kdC_46 wwC_46_0 ?_
    refine gf_X9_66 C dX9_readBehindOperand_21 kdC_49 (fun z21 => ?_)
    refine g_iconst C ⟨by decide, by decide⟩ dX9_readBehindOperand_24 ?_
    refine g_icmp_ne C 38 dX9_readBehindOperand_25 rfl hw (fun hw => ?_) (fun hw => ?_)
    · refine g_aload_n C dX9_readBehindOperand_38 rfl (by decide) rfl ?_
      refine g_callVi C [] (sim_X9_wordCode hw) k_934 k_936 k_30 k_140 k_937 hdV_X9_wordCode rfl rfl (by decide) rfl kdC_46 rfl rfl rfl dX9_readBehindOperand_39 ?_
      intro x2 h2 hw
      exact g_sub [0] rfl (hQ _ hw)
    · refine g_aload_n C dX9_readBehindOperand_28 rfl (by decide) rfl ?_
      refine gw_X9_27 C dX9_readBehindOperand_29 kdC_46 wwC_46_0 ?_
      refine gf_X9_89 C dX9_readBehindOperand_32 kdC_49 (fun z32 => ?_)
      refine g_goto C 42 dX9_readBehindOperand_35 rfl ?_
      exact g_sub [0] rfl (hQ _ hw)
  · refine g_aload_n C dX9_readBehindOperand_12 rfl (by decide) rfl ?_
    refine g_callVz C [] (sim_X9_readClose hw) k_918 k_920 k_27 k_140 k_921 hdV_X9_readClose rfl rfl (by decide) rfl kdC_46 rfl rfl rfl dX9_readBehindOperand_13 ?_
    intro x3 h3 zb13 hw
    exact g_zret C hr zb13 dX9_readBehindOperand_16 ⟨_, rfl, zb13, hw⟩
set_option maxRecDepth 20000 in
set_option maxHeartbeats 4000000 in
theorem sim_X9_readLeaf {z : Mz} {l : Launch} {p1 : Int} {h : Mh} {K : Int → Mh → Prop} (hw : wp_X9_readLeaf p1 h K) : mCal (XC z) l yX9_readLeaf cX9_readLeaf 2 (some Jvm.ClassFile.FieldType.boolean) 2 41 [(2, 46), (0, p1)] h (mKz K) := by
  refine m_entry RX9 rfl (by decide) rfl (fun p e s m args below meth c C hr => ?_)
  show mG _ p l e _ s m args below meth c _ _ 0 [(0, (2, 46)), (1, (0, p1))] [] h
  unfold wp_X9_readLeaf at hw
  refine g_aload_n C dX9_readLeaf_0 rfl (by decide) rfl ?_
  refine g_callVz C [] (sim_X9_isRoomForKnot hw) k_941 k_943 k_31 k_140 k_944 hdV_X9_isRoomForKnot rfl rfl (by decide) rfl kdC_46 rfl rfl rfl dX9_readLeaf_1 ?_
  intro x1 h1 zb1 hw
  refine g_if_ne C 9 dX9_readLeaf_4 rfl hw (fun hw => ?_) (fun hw => ?_)
  · refine g_aload_n C dX9_readLeaf_9 rfl (by decide) rfl ?_
    refine gf_X9_31 C dX9_readLeaf_10 kdC_46 (fun z10 => ?_)
    obtain ⟨q1, hw⟩ := hw
    refine gw_X9_274 C dX9_readLeaf_13 q1 (wir_4_15 wirC q1) ?_
    refine g_iload_n C dX9_readLeaf_16 rfl rfl ?_
    refine g_aload_n C dX9_readLeaf_17 rfl (by decide) rfl ?_
    refine gw_X9_27 C dX9_readLeaf_18 kdC_46 wwC_46_0 ?_
    refine gf_X9_89 C dX9_readLeaf_21 kdC_49 (fun z21 => ?_)
    refine g_callVv C [(0, p1), (0, (h1 49 10))] (sim_X3_add wirC (kid_4_15 wirC q1) hw) k_930 k_931 k_932 k_139 k_933 hdV_X3_add rfl rfl (by decide) rfl (kid_4_15 wirC q1) rfl rfl rfl dX9_readLeaf_24 ?_
    intro h2 hw
    refine g_aload_n C dX9_readLeaf_27 rfl (by decide) rfl ?_
    refine g_iconst C ⟨by decide, by decide⟩ dX9_readLeaf_28 ?_
    refine gp_X9_292 C dX9_readLeaf_29 kdC_46 (fun _ => (Or.inr rfl)) ?_
    refine g_heap (fun h3 eh3 => ?_)
    replace hw := hw h3 eh3
    refine g_iconst C ⟨by decide, by decide⟩ dX9_readLeaf_32 ?_
    exact g_zret C hr (Or.inr rfl) dX9_readLeaf_33 ⟨_, rfl, (Or.inr rfl), hw⟩
  · refine g_iconst C ⟨by decide, by decide⟩ dX9_readLeaf_7 ?_
    exact g_zret C hr (Or.inl rfl) dX9_readLeaf_8 ⟨_, rfl, (Or.inl rfl), hw⟩
set_option maxRecDepth 20000 in
set_option maxHeartbeats 4000000 in
theorem sim_X9_readOperand {z : Mz} {l : Launch} {h : Mh} {K : Int → Mh → Prop} (hw : wp_X9_readOperand h K) : mCal (XC z) l yX9_readOperand cX9_readOperand 2 (some Jvm.ClassFile.FieldType.boolean) 3 62 [(2, 46)] h (mKz K) := by
  refine m_entry RX9 rfl (by decide) rfl (fun p e s m args below meth c C hr => ?_)
  have hQ : ∀ x, Lfp (F_X9_readOperand K) x → (match x.1, x.2.1 with | 102, [v1] => mG (XC z) p l e { frames := 3, cells := 0, slots := 0, locals := 62 } s m args below meth c 2 (mMQ (XC z) (mKz K) below args s) 102 [(1, (0, v1)), (0, (2, 46))] [] x.2.2 | _, _ => True) := by
    intro x hx
    refine Lfp.ind (fun x => (match x.1, x.2.1 with | 102, [v1] => mG (XC z) p l e { frames := 3, cells := 0, slots := 0, locals := 62 } s m args below meth c 2 (mMQ (XC z) (mKz K) below args s) 102 [(1, (0, v1)), (0, (2, 46))] [] x.2.2 | _, _ => True)) ?_ hx
    clear hx x
    intro Z x hQ hw
    rcases hw with ⟨v1, h, rfl, hw⟩
    · show mG (XC z) p l e { frames := 3, cells := 0, slots := 0, locals := 62 } s m args below meth c 2 (mMQ (XC z) (mKz K) below args s) 102 [(1, (0, v1)), (0, (2, 46))] [] h
      unfold B_X9_readOperand_102 at hw
      refine g_iload_n C dX9_readOperand_102 rfl rfl ?_
      refine g_bipush C ⟨by decide, by decide⟩ (by decide) dX9_readOperand_103 ?_
      refine g_icmp_ne C 138 dX9_readOperand_105 rfl hw (fun hw => ?_) (fun hw => ?_)
      · refine g_aload_n C dX9_readOperand_138 rfl (by decide) rfl ?_
        refine g_iconst C ⟨by decide, by decide⟩ dX9_readOperand_139 ?_
        refine g_callVz C [(0, 1)] (sim_X9_refuse hw) k_774 k_776 k_7 k_140 k_777 hdV_X9_refuse rfl rfl (by decide) rfl kdC_46 rfl rfl rfl dX9_readOperand_140 ?_
        intro x1 h1 zb140 hw
        exact g_zret C hr zb140 dX9_readOperand_143 ⟨_, rfl, zb140, hw⟩
      · refine g_aload_n C dX9_readOperand_108 rfl (by decide) rfl ?_
        refine g_callVi C [] (sim_X9_topRank hw) k_926 k_928 k_29 k_140 k_929 hdV_X9_topRank rfl rfl (by decide) rfl kdC_46 rfl rfl rfl dX9_readOperand_109 ?_
        intro x2 h2 hw
        refine g_iconst C ⟨by decide, by decide⟩ dX9_readOperand_112 ?_
        refine g_icmp_gt C 138 dX9_readOperand_113 rfl hw (fun hw => ?_) (fun hw => ?_)
        · refine g_aload_n C dX9_readOperand_138 rfl (by decide) rfl ?_
          refine g_iconst C ⟨by decide, by decide⟩ dX9_readOperand_139 ?_
          refine g_callVz C [(0, 1)] (sim_X9_refuse hw) k_774 k_776 k_7 k_140 k_777 hdV_X9_refuse rfl rfl (by decide) rfl kdC_46 rfl rfl rfl dX9_readOperand_140 ?_
          intro x3 h3 zb140 hw
          exact g_zret C hr zb140 dX9_readOperand_143 ⟨_, rfl, zb140, hw⟩
        · refine g_aload_n C dX9_readOperand_116 rfl (by decide) rfl ?_
          refine g_callVz C [] (sim_X9_isRoomForKnot hw) k_941 k_943 k_31 k_140 k_944 hdV_X9_isRoomForKnot rfl rfl (by decide) rfl kdC_46 rfl rfl rfl dX9_readOperand_117 ?_
          intro x4 h4 zb117 hw
          refine g_if_eq C 136 dX9_readOperand_120 rfl hw (fun hw => ?_) (fun hw => ?_)
          · refine g_iconst C ⟨by decide, by decide⟩ dX9_readOperand_136 ?_
            exact g_zret C hr (Or.inl rfl) dX9_readOperand_137 ⟨_, rfl, (Or.inl rfl), hw⟩
          · refine g_aload_n C dX9_readOperand_123 rfl (by decide) rfl ?_
            refine g_iload_n C dX9_readOperand_124 rfl rfl ?_
            refine g_iconst C ⟨by decide, by decide⟩ dX9_readOperand_125 ?_
            refine g_callVz C [(0, v1), (0, 3)] (sim_X9_hold hw) k_945 k_947 k_32 k_140 k_948 hdV_X9_hold rfl rfl (by decide) rfl kdC_46 rfl rfl rfl dX9_readOperand_126 ?_
            intro x5 h5 zb126 hw
            refine g_if_eq C 136 dX9_readOperand_129 rfl hw (fun hw => ?_) (fun hw => ?_)
            · refine g_iconst C ⟨by decide, by decide⟩ dX9_readOperand_136 ?_
              exact g_zret C hr (Or.inl rfl) dX9_readOperand_137 ⟨_, rfl, (Or.inl rfl), hw⟩
            · refine g_iconst C ⟨by decide, by decide⟩ dX9_readOperand_132 ?_
              refine g_goto C 137 dX9_readOperand_133 rfl ?_
              exact g_zret C hr (Or.inr rfl) dX9_readOperand_137 ⟨_, rfl, (Or.inr rfl), hw⟩
  show mG _ p l e _ s m args below meth c _ _ 0 [(0, (2, 46))] [] h
  unfold wp_X9_readOperand at hw
  refine g_aload_n C dX9_readOperand_0 rfl (by decide) rfl ?_
  refine gw_X9_27 C dX9_readOperand_1 kdC_46 wwC_46_0 ?_
  refine gf_X9_66 C dX9_readOperand_4 kdC_49 (fun z4 => ?_)
  refine g_iconst C ⟨by decide, by decide⟩ dX9_readOperand_7 ?_
  refine g_icmp_ne C 36 dX9_readOperand_8 rfl hw (fun hw => ?_) (fun hw => ?_)
  · refine g_aload_n C dX9_readOperand_36 rfl (by decide) rfl ?_
    refine gw_X9_27 C dX9_readOperand_37 kdC_46 wwC_46_0 ?_
    refine g_bipush C ⟨by decide, by decide⟩ (by decide) dX9_readOperand_40 ?_
    refine g_callVz C [(0, 19)] (sim_X10_isSign hw) k_862 k_863 k_864 k_141 k_865 hdV_X10_isSign rfl rfl (by decide) rfl kdC_49 rfl rfl rfl dX9_readOperand_42 ?_
    intro x1 h1 zb42 hw
    refine g_if_eq C 81 dX9_readOperand_45 rfl hw (fun hw => ?_) (fun hw => ?_)
    · refine g_aload_n C dX9_readOperand_81 rfl (by decide) rfl ?_
      refine g_callVi C [] (sim_X9_wordCode hw) k_934 k_936 k_30 k_140 k_937 hdV_X9_wordCode rfl rfl (by decide) rfl kdC_46 rfl rfl rfl dX9_readOperand_82 ?_
      intro x2 h2 hw
      refine g_istore_n C dX9_readOperand_85 rfl (by decide) ?_
      refine g_iload_n C dX9_readOperand_86 rfl rfl ?_
      refine g_iconst C ⟨by decide, by decide⟩ dX9_readOperand_87 ?_
      refine g_icmp_lt C 102 dX9_readOperand_88 rfl hw (fun hw => ?_) (fun hw => ?_)
      · exact g_sub [1, 0] rfl (hQ _ hw)
      · refine g_iload_n C dX9_readOperand_91 rfl rfl ?_
        refine g_iconst C ⟨by decide, by decide⟩ dX9_readOperand_92 ?_
        refine g_icmp_gt C 102 dX9_readOperand_93 rfl hw (fun hw => ?_) (fun hw => ?_)
        · exact g_sub [1, 0] rfl (hQ _ hw)
        · refine g_aload_n C dX9_readOperand_96 rfl (by decide) rfl ?_
          refine g_iload_n C dX9_readOperand_97 rfl rfl ?_
          refine g_callVz C [(0, x2)] (sim_X9_readLeaf hw) k_953 k_955 k_34 k_140 k_956 hdV_X9_readLeaf rfl rfl (by decide) rfl kdC_46 rfl rfl rfl dX9_readOperand_98 ?_
          intro x3 h3 zb98 hw
          exact g_zret C hr zb98 dX9_readOperand_101 ⟨_, rfl, zb98, hw⟩
    · refine g_aload_n C dX9_readOperand_48 rfl (by decide) rfl ?_
      refine gf_X9_286 C dX9_readOperand_49 kdC_46 (fun z49 => ?_)
      refine g_bipush C ⟨by decide, by decide⟩ (by decide) dX9_readOperand_52 ?_
      refine g_icmp_lt C 63 dX9_readOperand_54 rfl hw (fun hw => ?_) (fun hw => ?_)
      · refine g_aload_n C dX9_readOperand_63 rfl (by decide) rfl ?_
        refine g_dup C (by show ¬ (2 : Nat) = 1; decide) dX9_readOperand_64 ?_
        refine gf_X9_286 C dX9_readOperand_65 kdC_46 (fun z65 => ?_)
        refine g_iconst C ⟨by decide, by decide⟩ dX9_readOperand_68 ?_
        refine g_iadd C dX9_readOperand_69 ?_
        refine gp_X9_286 C dX9_readOperand_70 kdC_46 (fun z => z) ?_
        refine g_heap (fun h4 eh4 => ?_)
        replace hw := hw h4 eh4
        refine g_aload_n C dX9_readOperand_73 rfl (by decide) rfl ?_
        refine g_bipush C ⟨by decide, by decide⟩ (by decide) dX9_readOperand_74 ?_
        refine g_iconst C ⟨by decide, by decide⟩ dX9_readOperand_76 ?_
        refine g_callVz C [(0, 19), (0, 0)] (sim_X9_hold hw) k_945 k_947 k_32 k_140 k_948 hdV_X9_hold rfl rfl (by decide) rfl kdC_46 rfl rfl rfl dX9_readOperand_77 ?_
        intro x4 h5 zb77 hw
        exact g_zret C hr zb77 dX9_readOperand_80 ⟨_, rfl, zb77, hw⟩
      · refine g_aload_n C dX9_readOperand_57 rfl (by decide) rfl ?_
        refine g_iconst C ⟨by decide, by decide⟩ dX9_readOperand_58 ?_
        refine g_callVz C [(0, 2)] (sim_X9_refuse hw) k_774 k_776 k_7 k_140 k_777 hdV_X9_refuse rfl rfl (by decide) rfl kdC_46 rfl rfl rfl dX9_readOperand_59 ?_
        intro x5 h6 zb59 hw
        exact g_zret C hr zb59 dX9_readOperand_62 ⟨_, rfl, zb59, hw⟩
  · refine g_aload_n C dX9_readOperand_11 rfl (by decide) rfl ?_
    refine gw_X9_27 C dX9_readOperand_12 kdC_46 wwC_46_0 ?_
    refine gf_X9_89 C dX9_readOperand_15 kdC_49 (fun z15 => ?_)
    refine g_sipush C ⟨by decide, by decide⟩ (by decide) dX9_readOperand_18 ?_
    refine g_icmp_le C 30 dX9_readOperand_21 rfl hw (fun hw => ?_) (fun hw => ?_)
    · refine g_aload_n C dX9_readOperand_30 rfl (by decide) rfl ?_
      refine g_iconst C ⟨by decide, by decide⟩ dX9_readOperand_31 ?_
      refine g_callVz C [(0, 0)] (sim_X9_readLeaf hw) k_953 k_955 k_34 k_140 k_956 hdV_X9_readLeaf rfl rfl (by decide) rfl kdC_46 rfl rfl rfl dX9_readOperand_32 ?_
      intro x6 h7 zb32 hw
      exact g_zret C hr zb32 dX9_readOperand_35 ⟨_, rfl, zb32, hw⟩
    · refine g_aload_n C dX9_readOperand_24 rfl (by decide) rfl ?_
      refine g_iconst C ⟨by decide, by decide⟩ dX9_readOperand_25 ?_
      refine g_callVz C [(0, 2)] (sim_X9_refuse hw) k_774 k_776 k_7 k_140 k_777 hdV_X9_refuse rfl rfl (by decide) rfl kdC_46 rfl rfl rfl dX9_readOperand_26 ?_
      intro x7 h8 zb26 hw
      exact g_zret C hr zb26 dX9_readOperand_29 ⟨_, rfl, zb26, hw⟩
