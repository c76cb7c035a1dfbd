set_option maxRecDepth 20000 in
set_option maxHeartbeats 4000000 in
theorem sim_X6_sumAt {z : Mz} {l : Launch} {p1 : Int} {p2 : Int} {h : Mh} {K : Int → Mh → Prop} (hw : wp_X6_sumAt p1 p2 h K) : mCal (XC z) l yX6_sumAt cX6_sumAt 4 (some Jvm.ClassFile.FieldType.int) 0 0 [(2, 115), (0, p1), (0, p2)] h (mKi K) := by
  refine m_entry RX6 rfl (by decide) rfl (fun p e s m args below meth c C hr => ?_)
  have hQ : ∀ x, Lfp (F_X6_sumAt p1 p2 K) x → (match x.1, x.2.1 with | 25, [] => mG (XC z) p l e { frames := 0, cells := 0, slots := 0, locals := 0 } s m args below meth c 4 (mMQ (XC z) (mKi K) below args s) 25 [(0, (2, 115)), (1, (0, p1)), (2, (0, p2))] [] x.2.2 | _, _ => True) := by
    intro x hx
    refine Lfp.ind (fun x => (match x.1, x.2.1 with | 25, [] => mG (XC z) p l e { frames := 0, cells := 0, slots := 0, locals := 0 } s m args below meth c 4 (mMQ (XC z) (mKi K) below args s) 25 [(0, (2, 115)), (1, (0, p1)), (2, (0, p2))] [] x.2.2 | _, _ => True)) ?_ hx
    clear hx x
    intro Z x hQ hw
    rcases hw with ⟨h, rfl, hw⟩
    · show mG (XC z) p l e { frames := 0, cells := 0, slots := 0, locals := 0 } s m args below meth c 4 (mMQ (XC z) (mKi K) below args s) 25 [(0, (2, 115)), (1, (0, p1)), (2, (0, p2))] [] h
      unfold B_X6_sumAt_25 at hw
      refine g_iconst C ⟨by decide, by decide⟩ dX6_sumAt_25 ?_
      refine g_istore_n C dX6_sumAt_26 rfl (by decide) ?_
      refine g_iload_n C dX6_sumAt_27 rfl rfl ?_
      refine g_if_eq C 46 dX6_sumAt_28 rfl hw (fun hw => ?_) (fun hw => ?_)
      · refine g_iconst C ⟨by decide, by decide⟩ dX6_sumAt_46 ?_
        exact g_iret C hr dX6_sumAt_47 ⟨_, rfl, hw⟩
      · refine g_aload_n C dX6_sumAt_31 rfl (by decide) rfl ?_
        refine gw_X6_24 C dX6_sumAt_32 kdC_115 wwC_115_5 ?_
        refine g_iload_n C dX6_sumAt_35 rfl rfl ?_
        refine g_sipush C ⟨by decide, by decide⟩ (by decide) dX6_sumAt_36 ?_
        refine g_imul C dX6_sumAt_39 ?_
        refine g_iload_n C dX6_sumAt_40 rfl rfl ?_
        refine g_iadd C dX6_sumAt_41 ?_
        obtain ⟨⟨b2, b2b⟩, hw⟩ := hw
        refine g_iaload C dX6_sumAt_42 kdC_120 b2 b2b (fun z42 => ?_)
        refine g_goto C 47 dX6_sumAt_43 rfl ?_
        exact g_iret C hr dX6_sumAt_47 ⟨_, rfl, hw⟩
  show mG _ p l e _ s m args below meth c _ _ 0 [(0, (2, 115)), (1, (0, p1)), (2, (0, p2))] [] h
  unfold wp_X6_sumAt at hw
  refine g_iload_n C dX6_sumAt_0 rfl rfl ?_
  refine g_if_lt C 25 dX6_sumAt_1 rfl hw (fun hw => ?_) (fun hw => ?_)
  · exact g_sub [0, 1, 2] rfl (hQ _ hw)
  · refine g_iload_n C dX6_sumAt_4 rfl rfl ?_
    refine g_bipush C ⟨by decide, by decide⟩ (by decide) dX6_sumAt_5 ?_
    refine g_icmp_ge C 25 dX6_sumAt_7 rfl hw (fun hw => ?_) (fun hw => ?_)
    · exact g_sub [0, 1, 2] rfl (hQ _ hw)
    · refine g_iload_n C dX6_sumAt_10 rfl rfl ?_
      refine g_if_lt C 25 dX6_sumAt_11 rfl hw (fun hw => ?_) (fun hw => ?_)
      · exact g_sub [0, 1, 2] rfl (hQ _ hw)
      · refine g_iload_n C dX6_sumAt_14 rfl rfl ?_
        refine g_sipush C ⟨by decide, by decide⟩ (by decide) dX6_sumAt_15 ?_
        refine g_icmp_ge C 25 dX6_sumAt_18 rfl hw (fun hw => ?_) (fun hw => ?_)
        · exact g_sub [0, 1, 2] rfl (hQ _ hw)
        · refine g_iconst C ⟨by decide, by decide⟩ dX6_sumAt_21 ?_
          refine g_goto C 26 dX6_sumAt_22 rfl ?_
          refine g_istore_n C dX6_sumAt_26 rfl (by decide) ?_
          refine g_iload_n C dX6_sumAt_27 rfl rfl ?_
          refine g_if_eq C 46 dX6_sumAt_28 rfl hw (fun hw => ?_) (fun hw => ?_)
          · refine g_iconst C ⟨by decide, by decide⟩ dX6_sumAt_46 ?_
            exact g_iret C hr dX6_sumAt_47 ⟨_, rfl, hw⟩
          · refine g_aload_n C dX6_sumAt_31 rfl (by decide) rfl ?_
            refine gw_X6_24 C dX6_sumAt_32 kdC_115 wwC_115_5 ?_
            refine g_iload_n C dX6_sumAt_35 rfl rfl ?_
            refine g_sipush C ⟨by decide, by decide⟩ (by decide) dX6_sumAt_36 ?_
            refine g_imul C dX6_sumAt_39 ?_
            refine g_iload_n C dX6_sumAt_40 rfl rfl ?_
            refine g_iadd C dX6_sumAt_41 ?_
            obtain ⟨⟨b1, b1b⟩, hw⟩ := hw
            refine g_iaload C dX6_sumAt_42 kdC_120 b1 b1b (fun z42 => ?_)
            refine g_goto C 47 dX6_sumAt_43 rfl ?_
            exact g_iret C hr dX6_sumAt_47 ⟨_, rfl, hw⟩
set_option maxRecDepth 20000 in
set_option maxHeartbeats 4000000 in
theorem sim_X8_drive {z : Mz} {l : Launch} {p1 : Int} {p2 : Int} {p3 : Int} {h : Mh} {K : Int → Mh → Prop} (hw : wp_X8_drive p1 p2 p3 h K) : mCal (XC z) l yX8_drive cX8_drive 7 (some Jvm.ClassFile.FieldType.long) 3 77 [(2, 125), (0, p1), (0, p2), (0, p3)] h (mKl K) := by
  refine m_entry RX8 rfl (by decide) rfl (fun p e s m args below meth c C hr => ?_)
  have hQ : ∀ x, Lfp (F_X8_drive p1 p2 p3 K) x → (match x.1, x.2.1 with | 69, [v5, s0] => mG (XC z) p l e { frames := 3, cells := 0, slots := 0, locals := 77 } s m args below meth c 7 (mMQ (XC z) (mKl K) below args s) 69 [(5, (0, v5)), (0, (2, 125)), (1, (0, p1)), (2, (0, p2)), (3, (0, p3))] [(0, s0)] x.2.2 | _, _ => True) := by
    intro x hx
    refine Lfp.ind (fun x => (match x.1, x.2.1 with | 69, [v5, s0] => mG (XC z) p l e { frames := 3, cells := 0, slots := 0, locals := 77 } s m args below meth c 7 (mMQ (XC z) (mKl K) below args s) 69 [(5, (0, v5)), (0, (2, 125)), (1, (0, p1)), (2, (0, p2)), (3, (0, p3))] [(0, s0)] x.2.2 | _, _ => True)) ?_ hx
    clear hx x
    intro Z x hQ hw
    rcases hw with ⟨v5, s0, h, rfl, hw⟩
    · show mG (XC z) p l e { frames := 3, cells := 0, slots := 0, locals := 77 } s m args below meth c 7 (mMQ (XC z) (mKl K) below args s) 69 [(5, (0, v5)), (0, (2, 125)), (1, (0, p1)), (2, (0, p2)), (3, (0, p3))] [(0, s0)] h
      unfold B_X8_drive_69 at hw
      refine g_istore C dX8_drive_69 (by decide) ?_
      refine g_aload_n C dX8_drive_71 rfl (by decide) rfl ?_
      refine gw_X8_15 C dX8_drive_72 kdC_125 wwC_125_0 ?_
      refine gf_X8_31 C dX8_drive_75 kdC_53 (fun z75 => ?_)
      obtain ⟨q2, hw⟩ := hw
      refine gw_X8_98 C dX8_drive_78 q2 (wir_4_15 wirC q2) ?_
      refine g_iload C dX8_drive_81 rfl ?_
      refine g_aload_n C dX8_drive_83 rfl (by decide) rfl ?_
      refine gw_X8_19 C dX8_drive_84 kdC_125 wwC_125_1 ?_
      refine g_iload_n C dX8_drive_87 rfl rfl ?_
      refine g_iload_n C dX8_drive_88 rfl rfl ?_
      refine g_callVi C [(0, p1), (0, p3)] (sim_X6_sumAt hw) k_1140 k_1106 k_1107 k_144 k_1108 hdV_X6_sumAt rfl rfl (by decide) rfl kdC_115 rfl rfl rfl dX8_drive_89 ?_
      intro x1 h1 hw
      refine g_iload C dX8_drive_92 rfl ?_
      refine g_iload_n C dX8_drive_94 rfl rfl ?_
      refine g_iload_n C dX8_drive_95 rfl rfl ?_
      refine g_callVl C [(0, v5), (0, x1), (0, s0), (0, p2), (0, p3)] (sim_X3_worth wirC (kid_4_15 wirC q2) hw) k_1143 k_1144 k_1145 k_139 k_1146 hdV_X3_worth rfl rfl (by decide) rfl (kid_4_15 wirC q2) rfl rfl rfl dX8_drive_96 ?_
      intro x2 h2 hw
      exact g_lret C hr dX8_drive_99 ⟨_, rfl, hw⟩
  show mG _ p l e _ s m args below meth c _ _ 0 [(0, (2, 125)), (1, (0, p1)), (2, (0, p2)), (3, (0, p3))] [] h
  unfold wp_X8_drive at hw
  refine g_aload_n C dX8_drive_0 rfl (by decide) rfl ?_
  refine gw_X8_19 C dX8_drive_1 kdC_125 wwC_125_1 ?_
  refine g_iload_n C dX8_drive_4 rfl rfl ?_
  refine g_iload_n C dX8_drive_5 rfl rfl ?_
  refine g_callVi C [(0, p1), (0, p2)] (sim_X6_nearOf hw) k_1138 k_1039 k_1040 k_144 k_1041 hdV_X6_nearOf rfl rfl (by decide) rfl kdC_115 rfl rfl rfl dX8_drive_6 ?_
  intro x1 h1 hw
  refine g_istore C dX8_drive_9 (by decide) ?_
  refine g_iload C dX8_drive_11 rfl ?_
  refine g_if_ge C 20 dX8_drive_13 rfl hw (fun hw => ?_) (fun hw => ?_)
  · refine g_aload_n C dX8_drive_20 rfl (by decide) rfl ?_
    refine gw_X8_19 C dX8_drive_21 kdC_125 wwC_125_1 ?_
    refine g_iload C dX8_drive_24 rfl ?_
    refine g_iload_n C dX8_drive_26 rfl rfl ?_
    refine g_callVi C [(0, x1), (0, p3)] (sim_X6_sumAt hw) k_1140 k_1106 k_1107 k_144 k_1108 hdV_X6_sumAt rfl rfl (by decide) rfl kdC_115 rfl rfl rfl dX8_drive_27 ?_
    intro x2 h2 hw
    refine g_istore C dX8_drive_30 (by decide) ?_
    refine g_aload_n C dX8_drive_32 rfl (by decide) rfl ?_
    refine gw_X8_15 C dX8_drive_33 kdC_125 wwC_125_0 ?_
    refine gf_X8_31 C dX8_drive_36 kdC_53 (fun z36 => ?_)
    obtain ⟨q1, hw⟩ := hw
    refine gw_X8_98 C dX8_drive_39 q1 (wir_4_15 wirC q1) ?_
    refine g_callVz C [] (sim_X3_isEmpty wirC (kid_4_15 wirC q1) hw) k_1141 k_907 k_908 k_139 k_909 hdV_X3_isEmpty rfl rfl (by decide) rfl (kid_4_15 wirC q1) rfl rfl rfl dX8_drive_42 ?_
    intro x3 h3 zb42 hw
    refine g_if_eq C 52 dX8_drive_45 rfl hw (fun hw => ?_) (fun hw => ?_)
    · refine g_aload_n C dX8_drive_52 rfl (by decide) rfl ?_
      refine gw_X8_15 C dX8_drive_53 kdC_125 wwC_125_0 ?_
      refine g_iload C dX8_drive_56 rfl ?_
      refine g_callVz C [(0, x1)] (sim_X11_hasReeds hw) k_1142 k_998 k_999 k_142 k_1000 hdV_X11_hasReeds rfl rfl (by decide) rfl kdC_53 rfl rfl rfl dX8_drive_58 ?_
      intro x4 h4 zb58 hw
      refine g_if_eq C 68 dX8_drive_61 rfl hw (fun hw => ?_) (fun hw => ?_)
      · refine g_iconst C ⟨by decide, by decide⟩ dX8_drive_68 ?_
        exact g_sub [5, 0, 1, 2, 3] rfl (hQ _ hw)
      · refine g_iconst C ⟨by decide, by decide⟩ dX8_drive_64 ?_
        refine g_goto C 69 dX8_drive_65 rfl ?_
        exact g_sub [5, 0, 1, 2, 3] rfl (hQ _ hw)
    · refine g_iload C dX8_drive_48 rfl ?_
      refine g_i2l C dX8_drive_50 ?_
      exact g_lret C hr dX8_drive_51 ⟨_, rfl, hw⟩
  · refine g_ldc2 C ⟨by decide, by decide⟩ k_1139 dX8_drive_16 ?_
    exact g_lret C hr dX8_drive_19 ⟨_, rfl, hw⟩
set_option maxRecDepth 20000 in
set_option maxHeartbeats 4000000 in
theorem sim_X8_next {z : Mz} {l : Launch} {p1 : Int} {p2 : Int} {h : Mh} {K : Int → Mh → Prop} (hw : wp_X8_next p1 p2 h K) : mCal (XC z) l yX8_next cX8_next 12 (some Jvm.ClassFile.FieldType.int) 4 103 [(2, 125), (0, p1), (0, p2)] h (mKi K) := by
  refine m_entry RX8 rfl (by decide) rfl (fun p e s m args below meth c C hr => ?_)
  have hQ : ∀ x, Lfp (F_X8_next p1 p2 K) x → (match x.1, x.2.1 with | 8, [v3, v4, v6] => mG (XC z) p l e { frames := 4, cells := 0, slots := 0, locals := 103 } s m args below meth c 12 (mMQ (XC z) (mKi K) below args s) 8 [(3, (0, v3)), (4, (1, v4)), (6, (0, v6)), (0, (2, 125)), (1, (0, p1)), (2, (0, p2))] [] x.2.2 | _, _ => True) := by
    intro x hx
    refine Lfp.ind (fun x => (match x.1, x.2.1 with | 8, [v3, v4, v6] => mG (XC z) p l e { frames := 4, cells := 0, slots := 0, locals := 103 } s m args below meth c 12 (mMQ (XC z) (mKi K) below args s) 8 [(3, (0, v3)), (4, (1, v4)), (6, (0, v6)), (0, (2, 125)), (1, (0, p1)), (2, (0, p2))] [] x.2.2 | _, _ => True)) ?_ hx
    clear hx x
    intro Z x hQ hw
    rcases hw with ⟨v3, v4, v6, h, rfl, hw⟩
    · show mG (XC z) p l e { frames := 4, cells := 0, slots := 0, locals := 103 } s m args below meth c 12 (mMQ (XC z) (mKi K) below args s) 8 [(3, (0, v3)), (4, (1, v4)), (6, (0, v6)), (0, (2, 125)), (1, (0, p1)), (2, (0, p2))] [] h
      unfold B_X8_next_8 at hw
      refine g_iload C dX8_next_8 rfl ?_
      refine g_iconst C ⟨by decide, by decide⟩ dX8_next_10 ?_
      refine g_icmp_ge C 84 dX8_next_11 rfl hw (fun hw => ?_) (fun hw => ?_)
      · refine g_iload_n C dX8_next_84 rfl rfl ?_
        exact g_iret C hr dX8_next_85 ⟨_, rfl, hw⟩
      · refine g_aload_n C dX8_next_14 rfl (by decide) rfl ?_
        refine gw_X8_19 C dX8_next_15 kdC_125 wwC_125_1 ?_
        refine g_iload_n C dX8_next_18 rfl rfl ?_
        refine g_iload C dX8_next_19 rfl ?_
        refine g_callVi C [(0, p1), (0, v6)] (sim_X6_nearOf hw) k_1138 k_1039 k_1040 k_144 k_1041 hdV_X6_nearOf rfl rfl (by decide) rfl kdC_115 rfl rfl rfl dX8_next_21 ?_
        intro x1 h1 hw
        refine g_istore C dX8_next_24 (by decide) ?_
        refine g_iload C dX8_next_26 rfl ?_
        refine g_if_lt C 78 dX8_next_28 rfl hw (fun hw => ?_) (fun hw => ?_)
        · refine g_iincN C dX8_next_78 rfl (by decide) (fun x2 ex2 => ?_)
          replace hw := hw x2 ex2
          refine g_goto C 8 dX8_next_81 rfl ?_
          exact g_sub [3, 4, 6, 0, 1, 2] rfl (hQ _ hw)
        · refine g_aload_n C dX8_next_31 rfl (by decide) rfl ?_
          refine g_iload_n C dX8_next_32 rfl rfl ?_
          refine g_iload C dX8_next_33 rfl ?_
          refine g_iload_n C dX8_next_35 rfl rfl ?_
          refine g_callVl C [(0, p1), (0, v6), (0, p2)] (sim_X8_drive hw) k_1173 k_1135 k_1136 k_145 k_1137 hdV_X8_drive rfl rfl (by decide) rfl kdC_125 rfl rfl rfl dX8_next_36 ?_
          intro x3 h2 hw
          refine g_lstore C dX8_next_39 (by decide) ?_
          refine g_lload C dX8_next_41 rfl ?_
          refine g_ldc2 C ⟨by decide, by decide⟩ k_1139 dX8_next_43 ?_
          refine g_lcmp C dX8_next_46 ?_
          refine g_if_ne C 54 dX8_next_47 rfl hw (fun hw => ?_) (fun hw => ?_)
          · refine g_lload C dX8_next_54 rfl ?_
            refine g_lstore C dX8_next_56 (by decide) ?_
            refine g_iload C dX8_next_58 rfl ?_
            refine g_if_eq C 71 dX8_next_60 rfl hw (fun hw => ?_) (fun hw => ?_)
            · refine g_iload C dX8_next_71 rfl ?_
              refine g_istore_n C dX8_next_73 rfl (by decide) ?_
              refine g_lload C dX8_next_74 rfl ?_
              refine g_lstore C dX8_next_76 (by decide) ?_
              refine g_iincN C dX8_next_78 rfl (by decide) (fun x4 ex4 => ?_)
              replace hw := hw x4 ex4
              refine g_goto C 8 dX8_next_81 rfl ?_
              exact g_sub [3, 4, 6, 0, 1, 2] rfl (hQ _ hw)
            · refine g_lload C dX8_next_63 rfl ?_
              refine g_lload C dX8_next_65 rfl ?_
              refine g_lcmp C dX8_next_67 ?_
              refine g_if_le C 78 dX8_next_68 rfl hw (fun hw => ?_) (fun hw => ?_)
              · refine g_iincN C dX8_next_78 rfl (by decide) (fun x5 ex5 => ?_)
                replace hw := hw x5 ex5
                refine g_goto C 8 dX8_next_81 rfl ?_
                exact g_sub [3, 4, 6, 0, 1, 2] rfl (hQ _ hw)
              · refine g_iload C dX8_next_71 rfl ?_
                refine g_istore_n C dX8_next_73 rfl (by decide) ?_
                refine g_lload C dX8_next_74 rfl ?_
                refine g_lstore C dX8_next_76 (by decide) ?_
                refine g_iincN C dX8_next_78 rfl (by decide) (fun x6 ex6 => ?_)
                replace hw := hw x6 ex6
                refine g_goto C 8 dX8_next_81 rfl ?_
                exact g_sub [3, 4, 6, 0, 1, 2] rfl (hQ _ hw)
          · refine g_lconst C 0 (Or.inl rfl) rfl dX8_next_50 ?_
            refine g_goto C 56 dX8_next_51 rfl ?_
            refine g_lstore C dX8_next_56 (by decide) ?_
            refine g_iload C dX8_next_58 rfl ?_
            refine g_if_eq C 71 dX8_next_60 rfl hw (fun hw => ?_) (fun hw => ?_)
            · refine g_iload C dX8_next_71 rfl ?_
              refine g_istore_n C dX8_next_73 rfl (by decide) ?_
              refine g_lload C dX8_next_74 rfl ?_
              refine g_lstore C dX8_next_76 (by decide) ?_
              refine g_iincN C dX8_next_78 rfl (by decide) (fun x7 ex7 => ?_)
              replace hw := hw x7 ex7
              refine g_goto C 8 dX8_next_81 rfl ?_
              exact g_sub [3, 4, 6, 0, 1, 2] rfl (hQ _ hw)
            · refine g_lload C dX8_next_63 rfl ?_
              refine g_lload C dX8_next_65 rfl ?_
              refine g_lcmp C dX8_next_67 ?_
              refine g_if_le C 78 dX8_next_68 rfl hw (fun hw => ?_) (fun hw => ?_)
              · refine g_iincN C dX8_next_78 rfl (by decide) (fun x8 ex8 => ?_)
                replace hw := hw x8 ex8
                refine g_goto C 8 dX8_next_81 rfl ?_
                exact g_sub [3, 4, 6, 0, 1, 2] rfl (hQ _ hw)
              · refine g_iload C dX8_next_71 rfl ?_
                refine g_istore_n C dX8_next_73 rfl (by decide) ?_
                refine g_lload C dX8_next_74 rfl ?_
                refine g_lstore C dX8_next_76 (by decide) ?_
                refine g_iincN C dX8_next_78 rfl (by decide) (fun x9 ex9 => ?_)
                replace hw := hw x9 ex9
                refine g_goto C 8 dX8_next_81 rfl ?_
                exact g_sub [3, 4, 6, 0, 1, 2] rfl (hQ _ hw)
  show mG _ p l e _ s m args below meth c _ _ 0 [(0, (2, 125)), (1, (0, p1)), (2, (0, p2))] [] h
  unfold wp_X8_next at hw
  refine g_iload_n C dX8_next_0 rfl rfl ?_
  refine g_istore_n C dX8_next_1 rfl (by decide) ?_
  refine g_lconst C 0 (Or.inl rfl) rfl dX8_next_2 ?_
  refine g_lstore C dX8_next_3 (by decide) ?_
  refine g_iconst C ⟨by decide, by decide⟩ dX8_next_5 ?_
  refine g_istore C dX8_next_6 (by decide) ?_
  exact g_sub [3, 4, 6, 0, 1, 2] rfl (hQ _ hw)
set_option maxRecDepth 20000 in
set_option maxHeartbeats 4000000 in
theorem sim_X8_follow {z : Mz} {l : Launch} {p1 : Int} {p2 : Int} {h : Mh} {K : Mh → Prop} (hw : wp_X8_follow p1 p2 h K) : mCal (XC z) l yX8_follow cX8_follow 5 none 5 134 [(2, 125), (0, p1), (0, p2)] h (mKv K) := by
  refine m_entry RX8 rfl (by decide) rfl (fun p e s m args below meth c C hr => ?_)
  have hQ : ∀ x, Lfp (F_X8_follow p1 p2 K) x → (match x.1, x.2.1 with | 25, [v3, v4] => mG (XC z) p l e { frames := 5, cells := 0, slots := 0, locals := 134 } s m args below meth c 5 (mMQ (XC z) (mKv K) below args s) 25 [(3, (0, v3)), (4, (0, v4)), (0, (2, 125)), (1, (0, p1)), (2, (0, p2))] [] x.2.2 | _, _ => True) := by
    intro x hx
    refine Lfp.ind (fun x => (match x.1, x.2.1 with | 25, [v3, v4] => mG (XC z) p l e { frames := 5, cells := 0, slots := 0, locals := 134 } s m args below meth c 5 (mMQ (XC z) (mKv K) below args s) 25 [(3, (0, v3)), (4, (0, v4)), (0, (2, 125)), (1, (0, p1)), (2, (0, p2))] [] x.2.2 | _, _ => True)) ?_ hx
    clear hx x
    intro Z x hQ hw
    rcases hw with ⟨v3, v4, h, rfl, hw⟩
    · show mG (XC z) p l e { frames := 5, cells := 0, slots := 0, locals := 134 } s m args below meth c 5 (mMQ (XC z) (mKv K) below args s) 25 [(3, (0, v3)), (4, (0, v4)), (0, (2, 125)), (1, (0, p1)), (2, (0, p2))] [] h
      unfold B_X8_follow_25 at hw
      refine g_iload C dX8_follow_25 rfl ?_
      refine g_iload_n C dX8_follow_27 rfl rfl ?_
      refine g_icmp_ge C 67 dX8_follow_28 rfl hw (fun hw => ?_) (fun hw => ?_)
      · exact g_vret C hr dX8_follow_67 ⟨rfl, hw⟩
      · refine g_iload C dX8_follow_31 rfl ?_
        refine g_iconst C ⟨by decide, by decide⟩ dX8_follow_33 ?_
        refine g_iadd C dX8_follow_34 ?_
        refine g_aload_n C dX8_follow_35 rfl (by decide) rfl ?_
        refine gw_X8_9 C dX8_follow_36 kdC_125 wwC_125_2 ?_
        refine g_alen C dX8_follow_39 (ci := 14) (by decide) skC_126 (by decide) ?_
        refine g_icmp_ge C 67 dX8_follow_40 rfl hw (fun hw => ?_) (fun hw => ?_)
        · exact g_vret C hr dX8_follow_67 ⟨rfl, hw⟩
        · refine g_aload_n C dX8_follow_43 rfl (by decide) rfl ?_
          refine g_iload_n C dX8_follow_44 rfl rfl ?_
          refine g_iload C dX8_follow_45 rfl ?_
          refine g_callVi C [(0, v3), (0, v4)] (sim_X8_next hw) k_1169 k_1171 k_47 k_145 k_1172 hdV_X8_next rfl rfl (by decide) rfl kdC_125 rfl rfl rfl dX8_follow_47 ?_
          intro x1 h1 hw
          refine g_istore_n C dX8_follow_50 rfl (by decide) ?_
          refine g_aload_n C dX8_follow_51 rfl (by decide) rfl ?_
          refine gw_X8_9 C dX8_follow_52 kdC_125 wwC_125_2 ?_
          refine g_iload C dX8_follow_55 rfl ?_
          refine g_iconst C ⟨by decide, by decide⟩ dX8_follow_57 ?_
          refine g_iadd C dX8_follow_58 ?_
          refine g_iload_n C dX8_follow_59 rfl rfl ?_
          obtain ⟨⟨b1, b1b⟩, hw⟩ := hw
          refine g_iastore C dX8_follow_60 kdC_126 b1 b1b (fun z => z) ?_
          refine g_heap (fun h2 eh2 => ?_)
          replace hw := hw h2 eh2
          refine g_iincN C dX8_follow_61 rfl (by decide) (fun x2 ex2 => ?_)
          replace hw := hw x2 ex2
          refine g_goto C 25 dX8_follow_64 rfl ?_
          exact g_sub [3, 4, 0, 1, 2] rfl (hQ _ hw)
  show mG _ p l e _ s m args below meth c _ _ 0 [(0, (2, 125)), (1, (0, p1)), (2, (0, p2))] [] h
  unfold wp_X8_follow at hw
  refine g_aload_n C dX8_follow_0 rfl (by decide) rfl ?_
  refine gw_X8_15 C dX8_follow_1 kdC_125 wwC_125_0 ?_
  refine gf_X8_31 C dX8_follow_4 kdC_53 (fun z4 => ?_)
  obtain ⟨q1, hw⟩ := hw
  refine gw_X8_79 C dX8_follow_7 q1 (wir_4_13 wirC q1) ?_
  refine g_iload_n C dX8_follow_10 rfl rfl ?_
  refine g_callVi C [(0, p1)] (sim_X7_orZero wirC (kid_4_13 wirC q1) hw) k_1168 k_1080 k_1081 k_136 k_1082 hdV_X7_orZero rfl rfl (by decide) rfl (kid_4_13 wirC q1) rfl rfl rfl dX8_follow_11 ?_
  intro x1 h1 hw
  refine g_istore_n C dX8_follow_14 rfl (by decide) ?_
  refine g_aload_n C dX8_follow_15 rfl (by decide) rfl ?_
  refine gw_X8_9 C dX8_follow_16 kdC_125 wwC_125_2 ?_
  refine g_iconst C ⟨by decide, by decide⟩ dX8_follow_19 ?_
  refine g_iload_n C dX8_follow_20 rfl rfl ?_
  refine g_iastore C dX8_follow_21 kdC_126 (by decide) (show (0 : Int) < ((101 : Nat) : Int) from by decide) (fun z => z) ?_
  refine g_heap (fun h2 eh2 => ?_)
  replace hw := hw h2 eh2
  refine g_iconst C ⟨by decide, by decide⟩ dX8_follow_22 ?_
  refine g_istore C dX8_follow_23 (by decide) ?_
  exact g_sub [3, 4, 0, 1, 2] rfl (hQ _ hw)
set_option maxRecDepth 20000 in
set_option maxHeartbeats 4000000 in
theorem sim_X8_firstSkater {z : Mz} {l : Launch} {p1 : Int} {h : Mh} {K : Int → Mh → Prop} (hw : wp_X8_firstSkater p1 h K) : mCal (XC z) l yX8_firstSkater cX8_firstSkater 6 (some Jvm.ClassFile.FieldType.int) 6 158 [(2, 125), (0, p1)] h (mKi K) := by
  refine m_entry RX8 rfl (by decide) rfl (fun p e s m args below meth c C hr => ?_)
  have hQ : ∀ x, Lfp (F_X8_firstSkater p1 K) x → (match x.1, x.2.1 with | 9, [v2, v3, v4] => mG (XC z) p l e { frames := 6, cells := 0, slots := 0, locals := 158 } s m args below meth c 6 (mMQ (XC z) (mKi K) below args s) 9 [(2, (0, v2)), (3, (0, v3)), (4, (0, v4)), (0, (2, 125)), (1, (0, p1))] [] x.2.2 | _, _ => True) := by
    intro x hx
    refine Lfp.ind (fun x => (match x.1, x.2.1 with | 9, [v2, v3, v4] => mG (XC z) p l e { frames := 6, cells := 0, slots := 0, locals := 158 } s m args below meth c 6 (mMQ (XC z) (mKi K) below args s) 9 [(2, (0, v2)), (3, (0, v3)), (4, (0, v4)), (0, (2, 125)), (1, (0, p1))] [] x.2.2 | _, _ => True)) ?_ hx
    clear hx x
    intro Z x hQ hw
    rcases hw with ⟨v2, v3, v4, h, rfl, hw⟩
    · show mG (XC z) p l e { frames := 6, cells := 0, slots := 0, locals := 158 } s m args below meth c 6 (mMQ (XC z) (mKi K) below args s) 9 [(2, (0, v2)), (3, (0, v3)), (4, (0, v4)), (0, (2, 125)), (1, (0, p1))] [] h
      unfold B_X8_firstSkater_9 at hw
      refine g_iload C dX8_firstSkater_9 rfl ?_
      refine g_aload_n C dX8_firstSkater_11 rfl (by decide) rfl ?_
      refine gw_X8_15 C dX8_firstSkater_12 kdC_125 wwC_125_0 ?_
      refine gf_X8_31 C dX8_firstSkater_15 kdC_53 (fun z15 => ?_)
      obtain ⟨q1, hw⟩ := hw
      refine gw_X8_37 C dX8_firstSkater_18 q1 (wir_4_12 wirC q1) ?_
      refine gf_X8_43 C dX8_firstSkater_21 (kid_4_12 wirC q1) (fun z21 => ?_)
      refine g_icmp_ge C 67 dX8_firstSkater_24 rfl hw (fun hw => ?_) (fun hw => ?_)
      · refine g_iload_n C dX8_firstSkater_67 rfl rfl ?_
        exact g_iret C hr dX8_firstSkater_68 ⟨_, rfl, hw⟩
      · refine g_aload_n C dX8_firstSkater_27 rfl (by decide) rfl ?_
        refine g_iload C dX8_firstSkater_28 rfl ?_
        refine g_bipush C ⟨by decide, by decide⟩ (by decide) dX8_firstSkater_30 ?_
        refine g_callVv C [(0, v4), (0, 100)] (sim_X8_follow hw) k_1164 k_1166 k_46 k_145 k_1167 hdV_X8_follow rfl rfl (by decide) rfl kdC_125 rfl rfl rfl dX8_firstSkater_32 ?_
        intro h1 hw
        refine g_aload_n C dX8_firstSkater_35 rfl (by decide) rfl ?_
        refine g_iload_n C dX8_firstSkater_36 rfl rfl ?_
        refine g_bipush C ⟨by decide, by decide⟩ (by decide) dX8_firstSkater_37 ?_
        refine g_callVi C [(0, p1), (0, 100)] (sim_X8_arrivalOnPath hw) k_1182 k_1184 k_48 k_145 k_1185 hdV_X8_arrivalOnPath rfl rfl (by decide) rfl kdC_125 rfl rfl rfl dX8_firstSkater_39 ?_
        intro x1 h2 hw
        refine g_istore C dX8_firstSkater_42 (by decide) ?_
        refine g_iload C dX8_firstSkater_44 rfl ?_
        refine g_if_lt C 61 dX8_firstSkater_46 rfl hw (fun hw => ?_) (fun hw => ?_)
        · refine g_iincN C dX8_firstSkater_61 rfl (by decide) (fun x2 ex2 => ?_)
          replace hw := hw x2 ex2
          refine g_goto C 9 dX8_firstSkater_64 rfl ?_
          exact g_sub [2, 3, 4, 0, 1] rfl (hQ _ hw)
        · refine g_iload C dX8_firstSkater_49 rfl ?_
          refine g_iload_n C dX8_firstSkater_51 rfl rfl ?_
          refine g_icmp_ge C 61 dX8_firstSkater_52 rfl hw (fun hw => ?_) (fun hw => ?_)
          · refine g_iincN C dX8_firstSkater_61 rfl (by decide) (fun x3 ex3 => ?_)
            replace hw := hw x3 ex3
            refine g_goto C 9 dX8_firstSkater_64 rfl ?_
            exact g_sub [2, 3, 4, 0, 1] rfl (hQ _ hw)
          · refine g_iload C dX8_firstSkater_55 rfl ?_
            refine g_istore_n C dX8_firstSkater_57 rfl (by decide) ?_
            refine g_iload C dX8_firstSkater_58 rfl ?_
            refine g_istore_n C dX8_firstSkater_60 rfl (by decide) ?_
            refine g_iincN C dX8_firstSkater_61 rfl (by decide) (fun x4 ex4 => ?_)
            replace hw := hw x4 ex4
            refine g_goto C 9 dX8_firstSkater_64 rfl ?_
            exact g_sub [2, 3, 4, 0, 1] rfl (hQ _ hw)
  show mG _ p l e _ s m args below meth c _ _ 0 [(0, (2, 125)), (1, (0, p1))] [] h
  unfold wp_X8_firstSkater at hw
  refine g_bipush C ⟨by decide, by decide⟩ (by decide) dX8_firstSkater_0 ?_
  refine g_istore_n C dX8_firstSkater_2 rfl (by decide) ?_
  refine g_bipush C ⟨by decide, by decide⟩ (by decide) dX8_firstSkater_3 ?_
  refine g_istore_n C dX8_firstSkater_5 rfl (by decide) ?_
  refine g_iconst C ⟨by decide, by decide⟩ dX8_firstSkater_6 ?_
  refine g_istore C dX8_firstSkater_7 (by decide) ?_
  exact g_sub [2, 3, 4, 0, 1] rfl (hQ _ hw)
set_option maxRecDepth 20000 in
set_option maxHeartbeats 4000000 in
theorem sim_X13_first {z : Mz} {l : Launch} {p1 : Int} {h : Mh} {K : Int → Mh → Prop} (hw : wp_X13_first p1 h K) : mCal (XC z) l yX13_first cX13_first 2 (some Jvm.ClassFile.FieldType.int) 7 183 [(2, 0), (0, p1)] h (mKi K) := by
  refine m_entry RX13 rfl (by decide) rfl (fun p e s m args below meth c C hr => ?_)
  show mG _ p l e _ s m args below meth c _ _ 0 [(0, (2, 0)), (1, (0, p1))] [] h
  unfold wp_X13_first at hw
  refine g_aload_n C dX13_first_0 rfl (by decide) rfl ?_
  refine gw_X13_36 C dX13_first_1 kdC_0 wwC_0_4 ?_
  refine gf_X13_86 C dX13_first_4 kdC_53 (fun z4 => ?_)
  refine g_iload_n C dX13_first_7 rfl rfl ?_
  obtain ⟨q1, hw⟩ := hw
  refine g_callVz C [(0, p1)] (sim_X5_isCell wirC q1 hw) k_989 k_990 k_991 k_135 k_992 hdV_X5_isCell rfl rfl (by decide) rfl q1 rfl rfl rfl dX13_first_8 ?_
  intro x1 h1 zb8 hw
  refine g_if_ne C 16 dX13_first_11 rfl hw (fun hw => ?_) (fun hw => ?_)
  · refine g_aload_n C dX13_first_16 rfl (by decide) rfl ?_
    refine gw_X13_52 C dX13_first_17 kdC_0 wwC_0_6 ?_
    refine g_callVv C [] (sim_X6_freshenSums hw) k_1068 k_1069 k_1070 k_144 k_1071 hdV_X6_freshenSums rfl rfl (by decide) rfl kdC_115 rfl rfl rfl dX13_first_20 ?_
    intro h2 hw
    refine g_aload_n C dX13_first_23 rfl (by decide) rfl ?_
    refine gw_X13_61 C dX13_first_24 kdC_0 wwC_0_7 ?_
    refine g_iload_n C dX13_first_27 rfl rfl ?_
    refine g_callVi C [(0, p1)] (sim_X8_firstSkater hw) k_1190 k_1191 k_1192 k_145 k_1193 hdV_X8_firstSkater rfl rfl (by decide) rfl kdC_125 rfl rfl rfl dX13_first_28 ?_
    intro x2 h3 hw
    exact g_iret C hr dX13_first_31 ⟨_, rfl, hw⟩
  · refine g_iconst C ⟨by decide, by decide⟩ dX13_first_14 ?_
    exact g_iret C hr dX13_first_15 ⟨_, rfl, hw⟩
set_option maxRecDepth 20000 in
set_option maxHeartbeats 4000000 in
theorem sim_X2_riseBy {z : Mz} {l : Launch} {p1 : Int} {p2 : Int} {p3 : Int} {h : Mh} {K : Int → Mh → Prop} (hw : wp_X2_riseBy p1 p2 p3 h K) : mCal (XC z) l yX2_riseBy cX2_riseBy 7 (some Jvm.ClassFile.FieldType.int) 3 78 [(2, 127), (2, p1), (0, p2), (0, p3)] h (mKi K) := by
  refine m_entry RX2 rfl (by decide) rfl (fun p e s m args below meth c C hr => ?_)
  have hQ : ∀ x, Lfp (F_X2_riseBy p1 p2 p3 K) x → (match x.1, x.2.1 with | 15, [v5, v6] => mG (XC z) p l e { frames := 3, cells := 0, slots := 0, locals := 78 } s m args below meth c 7 (mMQ (XC z) (mKi K) below args s) 15 [(4, (2, 98)), (5, (0, v5)), (6, (0, v6)), (0, (2, 127)), (1, (2, p1)), (2, (0, p2)), (3, (0, p3))] [] x.2.2 | _, _ => True) := by
    intro x hx
    refine Lfp.ind (fun x => (match x.1, x.2.1 with | 15, [v5, v6] => mG (XC z) p l e { frames := 3, cells := 0, slots := 0, locals := 78 } s m args below meth c 7 (mMQ (XC z) (mKi K) below args s) 15 [(4, (2, 98)), (5, (0, v5)), (6, (0, v6)), (0, (2, 127)), (1, (2, p1)), (2, (0, p2)), (3, (0, p3))] [] x.2.2 | _, _ => True)) ?_ hx
    clear hx x
    intro Z x hQ hw
    rcases hw with ⟨v5, v6, h, rfl, hw⟩
    · show mG (XC z) p l e { frames := 3, cells := 0, slots := 0, locals := 78 } s m args below meth c 7 (mMQ (XC z) (mKi K) below args s) 15 [(4, (2, 98)), (5, (0, v5)), (6, (0, v6)), (0, (2, 127)), (1, (2, p1)), (2, (0, p2)), (3, (0, p3))] [] h
      unfold B_X2_riseBy_15 at hw
      refine g_iload C dX2_riseBy_15 rfl ?_
      refine g_aload C dX2_riseBy_17 (by decide) rfl ?_
      refine gf_X2_148 C dX2_riseBy_19 kdC_98 (fun z19 => ?_)
      refine g_icmp_ge C 71 dX2_riseBy_22 rfl hw (fun hw => ?_) (fun hw => ?_)
      · refine g_iload C dX2_riseBy_71 rfl ?_
        exact g_iret C hr dX2_riseBy_73 ⟨_, rfl, hw⟩
      · refine g_iload C dX2_riseBy_25 rfl ?_
        refine g_aload_n C dX2_riseBy_27 rfl (by decide) rfl ?_
        refine gw_X2_37 C dX2_riseBy_28 kdC_127 wwC_127_1 ?_
        refine g_aload C dX2_riseBy_31 (by decide) rfl ?_
        refine gw_X2_149 C dX2_riseBy_33 kdC_98 wwC_98_0 ?_
        refine g_iload C dX2_riseBy_36 rfl ?_
        obtain ⟨⟨b1, b1b⟩, hw⟩ := hw
        refine g_iaload C dX2_riseBy_38 kdC_99 b1 b1b (fun z38 => ?_)
        refine g_aload C dX2_riseBy_39 (by decide) rfl ?_
        refine gw_X2_151 C dX2_riseBy_41 kdC_98 wwC_98_1 ?_
        refine g_iload C dX2_riseBy_44 rfl ?_
        obtain ⟨⟨b2, b2b⟩, hw⟩ := hw
        refine g_iaload C dX2_riseBy_46 kdC_100 b2 b2b (fun z46 => ?_)
        refine g_iload_n C dX2_riseBy_47 rfl rfl ?_
        refine g_iload_n C dX2_riseBy_48 rfl rfl ?_
        refine g_aload C dX2_riseBy_49 (by decide) rfl ?_
        refine gw_X2_153 C dX2_riseBy_51 kdC_98 wwC_98_2 ?_
        refine g_iload C dX2_riseBy_54 rfl ?_
        obtain ⟨⟨b3, b3b⟩, hw⟩ := hw
        refine g_iaload C dX2_riseBy_56 kdC_101 b3 b3b (fun z56 => ?_)
        refine g_isub C dX2_riseBy_57 ?_
        refine g_aload_n C dX2_riseBy_58 rfl (by decide) rfl ?_
        refine g_callVi C [(0, (h 99 v6)), (0, (h 100 v6)), (0, p2), (0, w32 (p3 - (h 101 v6))), (2, p1)] (sim_X6_alone hw) k_1308 k_1309 k_1310 k_144 k_1311 hdV_X6_alone rfl rfl (by decide) rfl kdC_115 rfl rfl rfl dX2_riseBy_59 ?_
        intro x1 h1 hw
        refine g_iadd C dX2_riseBy_62 ?_
        refine g_topi (fun x2 ex2 => ?_)
        replace hw := hw x2 ex2
        refine g_istore C dX2_riseBy_63 (by decide) ?_
        refine g_iincN C dX2_riseBy_65 rfl (by decide) (fun x3 ex3 => ?_)
        replace hw := hw x3 ex3
        refine g_goto C 15 dX2_riseBy_68 rfl ?_
        exact g_sub [4, 5, 6, 0, 1, 2, 3] rfl (hQ _ hw)
  show mG _ p l e _ s m args below meth c _ _ 0 [(0, (2, 127)), (1, (2, p1)), (2, (0, p2)), (3, (0, p3))] [] h
  unfold wp_X2_riseBy at hw
  refine g_aload_n C dX2_riseBy_0 rfl (by decide) rfl ?_
  refine gw_X2_33 C dX2_riseBy_1 kdC_127 wwC_127_0 ?_
  refine gw_X2_145 C dX2_riseBy_4 kdC_53 wwC_53_2 ?_
  refine g_astore C dX2_riseBy_7 (by decide) (by decide) ?_
  refine g_iconst C ⟨by decide, by decide⟩ dX2_riseBy_9 ?_
  refine g_istore C dX2_riseBy_10 (by decide) ?_
  refine g_iconst C ⟨by decide, by decide⟩ dX2_riseBy_12 ?_
  refine g_istore C dX2_riseBy_13 (by decide) ?_
  exact g_sub [4, 5, 6, 0, 1, 2, 3] rfl (hQ _ hw)
set_option maxRecDepth 20000 in
set_option maxHeartbeats 4000000 in
theorem sim_X2_fitsBy {z : Mz} {l : Launch} {p1 : Int} {p2 : Int} {h : Mh} {K : Int → Mh → Prop} (hw : wp_X2_fitsBy p1 p2 h K) : mCal (XC z) l yX2_fitsBy cX2_fitsBy 6 (some Jvm.ClassFile.FieldType.boolean) 4 104 [(2, 127), (2, p1), (2, p2)] h (mKz K) := by
  refine m_entry RX2 rfl (by decide) rfl (fun p e s m args below meth c C hr => ?_)
  have hQ : ∀ x, Lfp (F_X2_fitsBy p1 p2 K) x → (match x.1, x.2.1 with | 2, [v3] => mG (XC z) p l e { frames := 4, cells := 0, slots := 0, locals := 104 } s m args below meth c 6 (mMQ (XC z) (mKz K) below args s) 2 [(3, (0, v3)), (0, (2, 127)), (1, (2, p1)), (2, (2, p2))] [] x.2.2 | _, _ => True) := by
    intro x hx
    refine Lfp.ind (fun x => (match x.1, x.2.1 with | 2, [v3] => mG (XC z) p l e { frames := 4, cells := 0, slots := 0, locals := 104 } s m args below meth c 6 (mMQ (XC z) (mKz K) below args s) 2 [(3, (0, v3)), (0, (2, 127)), (1, (2, p1)), (2, (2, p2))] [] x.2.2 | _, _ => True)) ?_ hx
    clear hx x
    intro Z x hQ hw
    rcases hw with ⟨v3, h, rfl, hw⟩
    · show mG (XC z) p l e { frames := 4, cells := 0, slots := 0, locals := 104 } s m args below meth c 6 (mMQ (XC z) (mKz K) below args s) 2 [(3, (0, v3)), (0, (2, 127)), (1, (2, p1)), (2, (2, p2))] [] h
      unfold B_X2_fitsBy_2 at hw
      refine g_iload_n C dX2_fitsBy_2 rfl rfl ?_
      refine g_aload_n C dX2_fitsBy_3 rfl (by decide) rfl ?_
      obtain ⟨q1, hw⟩ := hw
      refine gf_X2_66 C dX2_fitsBy_4 q1 (fun z4 => ?_)
      refine g_icmp_ge C 85 dX2_fitsBy_7 rfl hw (fun hw => ?_) (fun hw => ?_)
      · refine g_iconst C ⟨by decide, by decide⟩ dX2_fitsBy_85 ?_
        exact g_zret C hr (Or.inr rfl) dX2_fitsBy_86 ⟨_, rfl, (Or.inr rfl), hw⟩
      · refine g_aload_n C dX2_fitsBy_10 rfl (by decide) rfl ?_
        refine g_iload_n C dX2_fitsBy_11 rfl rfl ?_
        refine g_callVi C [(0, v3)] (sim_X7_orZero wirC q1 hw) k_1306 k_1080 k_1081 k_136 k_1082 hdV_X7_orZero rfl rfl (by decide) rfl q1 rfl rfl rfl dX2_fitsBy_12 ?_
        intro x1 h1 hw
        refine g_bipush C ⟨by decide, by decide⟩ (by decide) dX2_fitsBy_15 ?_
        refine g_mmin C k_1307 k_727 k_137 k_728 rfl rfl rfl dX2_fitsBy_17 ?_
        refine g_topi (fun x2 ex2 => ?_)
        replace hw := hw x2 ex2
        refine g_istore C dX2_fitsBy_20 (by decide) ?_
        refine g_aload_n C dX2_fitsBy_22 rfl (by decide) rfl ?_
        refine gw_X2_33 C dX2_fitsBy_23 kdC_127 wwC_127_0 ?_
        refine gf_X2_54 C dX2_fitsBy_26 kdC_53 (fun z26 => ?_)
        obtain ⟨q2, hw⟩ := hw
        refine gw_X2_109 C dX2_fitsBy_29 q2 (wir_4_11 wirC q2) ?_
        refine g_aload_n C dX2_fitsBy_32 rfl (by decide) rfl ?_
        refine gw_X2_41 C dX2_fitsBy_33 kdC_127 wwC_127_2 ?_
        refine gw_X2_112 C dX2_fitsBy_36 kdC_107 wwC_107_0 ?_
        refine g_iload C dX2_fitsBy_39 rfl ?_
        obtain ⟨⟨b1, b1b⟩, hw⟩ := hw
        refine g_iaload C dX2_fitsBy_41 kdC_108 b1 b1b (fun z41 => ?_)
        refine g_callVi C [(0, (h1 108 x2))] (sim_X7_orZero wirC (kid_4_11 wirC q2) hw) k_1306 k_1080 k_1081 k_136 k_1082 hdV_X7_orZero rfl rfl (by decide) rfl (kid_4_11 wirC q2) rfl rfl rfl dX2_fitsBy_42 ?_
        intro x3 h2 hw
        refine g_istore C dX2_fitsBy_45 (by decide) ?_
        refine g_aload_n C dX2_fitsBy_47 rfl (by decide) rfl ?_
        refine g_aload_n C dX2_fitsBy_48 rfl (by decide) rfl ?_
        refine g_iload C dX2_fitsBy_49 rfl ?_
        refine g_aload_n C dX2_fitsBy_51 rfl (by decide) rfl ?_
        refine gw_X2_41 C dX2_fitsBy_52 kdC_127 wwC_127_2 ?_
        refine gw_X2_115 C dX2_fitsBy_55 kdC_107 wwC_107_1 ?_
        refine g_iload C dX2_fitsBy_58 rfl ?_
        obtain ⟨⟨b2, b2b⟩, hw⟩ := hw
        refine g_iaload C dX2_fitsBy_60 kdC_109 b2 b2b (fun z60 => ?_)
        refine g_callVi C [(2, p1), (0, x3), (0, (h2 109 x2))] (sim_X2_riseBy hw) k_1338 k_1340 k_57 k_146 k_1341 hdV_X2_riseBy rfl rfl (by decide) rfl kdC_127 rfl rfl rfl dX2_fitsBy_61 ?_
        intro x4 h3 hw
        refine g_aload_n C dX2_fitsBy_64 rfl (by decide) rfl ?_
        refine gw_X2_41 C dX2_fitsBy_65 kdC_127 wwC_127_2 ?_
        refine gw_X2_127 C dX2_fitsBy_68 kdC_107 wwC_107_2 ?_
        refine g_iload C dX2_fitsBy_71 rfl ?_
        obtain ⟨⟨b3, b3b⟩, hw⟩ := hw
        refine g_iaload C dX2_fitsBy_73 kdC_110 b3 b3b (fun z73 => ?_)
        refine g_icmp_eq C 79 dX2_fitsBy_74 rfl hw (fun hw => ?_) (fun hw => ?_)
        · refine g_iincN C dX2_fitsBy_79 rfl (by decide) (fun x5 ex5 => ?_)
          replace hw := hw x5 ex5
          refine g_goto C 2 dX2_fitsBy_82 rfl ?_
          exact g_sub [3, 0, 1, 2] rfl (hQ _ hw)
        · refine g_iconst C ⟨by decide, by decide⟩ dX2_fitsBy_77 ?_
          exact g_zret C hr (Or.inl rfl) dX2_fitsBy_78 ⟨_, rfl, (Or.inl rfl), hw⟩
  show mG _ p l e _ s m args below meth c _ _ 0 [(0, (2, 127)), (1, (2, p1)), (2, (2, p2))] [] h
  unfold wp_X2_fitsBy at hw
  refine g_iconst C ⟨by decide, by decide⟩ dX2_fitsBy_0 ?_
  refine g_istore_n C dX2_fitsBy_1 rfl (by decide) ?_
  exact g_sub [3, 0, 1, 2] rfl (hQ _ hw)
set_option maxRecDepth 20000 in
set_option maxHeartbeats 4000000 in
theorem sim_X4_knownSights {z : Mz} {l : Launch} {h : Mh} {K : Int → Mh → Prop} (hw : wp_X4_knownSights h K) : mCal (XC z) l yX4_knownSights cX4_knownSights 3 (some (Jvm.ClassFile.FieldType.object "PondReader$Row")) 1 21 [(2, 107)] h (mKr K) := by
  refine m_entry RX4 rfl (by decide) rfl (fun p e s m args below meth c C hr => ?_)
  have hQ : ∀ x, Lfp (F_X4_knownSights K) x → (match x.1, x.2.1 with | 12, [v1, v2] => mG (XC z) p l e { frames := 1, cells := 0, slots := 0, locals := 21 } s m args below meth c 3 (mMQ (XC z) (mKr K) below args s) 12 [(1, (0, v1)), (2, (0, v2)), (0, (2, 107))] [] x.2.2 | 34, [v1, v2] => mG (XC z) p l e { frames := 1, cells := 0, slots := 0, locals := 21 } s m args below meth c 3 (mMQ (XC z) (mKr K) below args s) 34 [(1, (0, v1)), (2, (0, v2)), (0, (2, 107))] [] x.2.2 | 93, [v1, v2] => mG (XC z) p l e { frames := 1, cells := 0, slots := 0, locals := 21 } s m args below meth c 3 (mMQ (XC z) (mKr K) below args s) 93 [(1, (0, v1)), (2, (0, v2)), (0, (2, 107))] [] x.2.2 | _, _ => True) := by
    intro x hx
    refine Lfp.ind (fun x => (match x.1, x.2.1 with | 12, [v1, v2] => mG (XC z) p l e { frames := 1, cells := 0, slots := 0, locals := 21 } s m args below meth c 3 (mMQ (XC z) (mKr K) below args s) 12 [(1, (0, v1)), (2, (0, v2)), (0, (2, 107))] [] x.2.2 | 34, [v1, v2] => mG (XC z) p l e { frames := 1, cells := 0, slots := 0, locals := 21 } s m args below meth c 3 (mMQ (XC z) (mKr K) below args s) 34 [(1, (0, v1)), (2, (0, v2)), (0, (2, 107))] [] x.2.2 | 93, [v1, v2] => mG (XC z) p l e { frames := 1, cells := 0, slots := 0, locals := 21 } s m args below meth c 3 (mMQ (XC z) (mKr K) below args s) 93 [(1, (0, v1)), (2, (0, v2)), (0, (2, 107))] [] x.2.2 | _, _ => True)) ?_ hx
    clear hx x
    intro Z x hQ hw
    rcases hw with ⟨v1, v2, h, rfl, hw⟩ | ⟨v1, v2, h, rfl, hw⟩ | ⟨v1, v2, h, rfl, hw⟩
    · show mG (XC z) p l e { frames := 1, cells := 0, slots := 0, locals := 21 } s m args below meth c 3 (mMQ (XC z) (mKr K) below args s) 12 [(1, (0, v1)), (2, (0, v2)), (0, (2, 107))] [] h
      unfold B_X4_knownSights_12 at hw
      refine g_iload_n C dX4_knownSights_12 rfl rfl ?_
      refine g_iload_n C dX4_knownSights_13 rfl rfl ?_
      refine g_icmp_ge C 30 dX4_knownSights_14 rfl hw (fun hw => ?_) (fun hw => ?_)
      · refine g_iload_n C dX4_knownSights_30 rfl rfl ?_
        refine g_iconst C ⟨by decide, by decide⟩ dX4_knownSights_31 ?_
        refine g_isub C dX4_knownSights_32 ?_
        refine g_topi (fun x1 ex1 => ?_)
        replace hw := hw x1 ex1
        refine g_istore_n C dX4_knownSights_33 rfl (by decide) ?_
        exact g_sub [1, 2, 0] rfl (hQ _ hw)
      · refine g_aload_n C dX4_knownSights_17 rfl (by decide) rfl ?_
        refine gw_X4_24 C dX4_knownSights_18 kdC_107 wwC_107_4 ?_
        refine g_iload_n C dX4_knownSights_21 rfl rfl ?_
        refine g_iconst C ⟨by decide, by decide⟩ dX4_knownSights_22 ?_
        obtain ⟨⟨b1, b1b⟩, hw⟩ := hw
        refine g_zastore C dX4_knownSights_23 kdC_112 b1 b1b (fun _ => (Or.inl rfl)) ?_
        refine g_heap (fun h1 eh1 => ?_)
        replace hw := hw h1 eh1
        refine g_iincN C dX4_knownSights_24 rfl (by decide) (fun x2 ex2 => ?_)
        replace hw := hw x2 ex2
        refine g_goto C 12 dX4_knownSights_27 rfl ?_
        exact g_sub [1, 2, 0] rfl (hQ _ hw)
    · show mG (XC z) p l e { frames := 1, cells := 0, slots := 0, locals := 21 } s m args below meth c 3 (mMQ (XC z) (mKr K) below args s) 34 [(1, (0, v1)), (2, (0, v2)), (0, (2, 107))] [] h
      unfold B_X4_knownSights_34 at hw
      refine g_iload_n C dX4_knownSights_34 rfl rfl ?_
      refine g_if_lt C 84 dX4_knownSights_35 rfl hw (fun hw => ?_) (fun hw => ?_)
      · refine g_aload_n C dX4_knownSights_84 rfl (by decide) rfl ?_
        refine gw_X4_33 C dX4_knownSights_85 kdC_107 wwC_107_5 ?_
        refine g_callVv C [] (sim_X7_clear wirC kdC_113 hw) k_1293 k_255 k_256 k_136 k_257 hdV_X7_clear rfl rfl (by decide) rfl kdC_113 rfl rfl rfl dX4_knownSights_88 ?_
        intro h1 hw
        refine g_iconst C ⟨by decide, by decide⟩ dX4_knownSights_91 ?_
        refine g_istore_n C dX4_knownSights_92 rfl (by decide) ?_
        exact g_sub [1, 2, 0] rfl (hQ _ hw)
      · refine g_aload_n C dX4_knownSights_38 rfl (by decide) rfl ?_
        refine gw_X4_24 C dX4_knownSights_39 kdC_107 wwC_107_4 ?_
        refine g_iload_n C dX4_knownSights_42 rfl rfl ?_
        obtain ⟨⟨b2, b2b⟩, hw⟩ := hw
        refine g_zaload C dX4_knownSights_43 kdC_112 b2 b2b (fun z43 => ?_)
        refine g_if_ne C 78 dX4_knownSights_44 rfl hw (fun hw => ?_) (fun hw => ?_)
        · refine g_iincN C dX4_knownSights_78 rfl (by decide) (fun x1 ex1 => ?_)
          replace hw := hw x1 ex1
          refine g_goto C 34 dX4_knownSights_81 rfl ?_
          exact g_sub [1, 2, 0] rfl (hQ _ hw)
        · refine g_aload_n C dX4_knownSights_47 rfl (by decide) rfl ?_
          refine gw_X4_21 C dX4_knownSights_48 kdC_107 wwC_107_3 ?_
          refine g_iload_n C dX4_knownSights_51 rfl rfl ?_
          obtain ⟨⟨b3, b3b⟩, hw⟩ := hw
          refine g_iaload C dX4_knownSights_52 kdC_111 b3 b3b (fun z52 => ?_)
          refine g_if_lt C 78 dX4_knownSights_53 rfl hw (fun hw => ?_) (fun hw => ?_)
          · refine g_iincN C dX4_knownSights_78 rfl (by decide) (fun x2 ex2 => ?_)
            replace hw := hw x2 ex2
            refine g_goto C 34 dX4_knownSights_81 rfl ?_
            exact g_sub [1, 2, 0] rfl (hQ _ hw)
          · refine g_aload_n C dX4_knownSights_56 rfl (by decide) rfl ?_
            refine gw_X4_21 C dX4_knownSights_57 kdC_107 wwC_107_3 ?_
            refine g_iload_n C dX4_knownSights_60 rfl rfl ?_
            obtain ⟨⟨b4, b4b⟩, hw⟩ := hw
            refine g_iaload C dX4_knownSights_61 kdC_111 b4 b4b (fun z61 => ?_)
            refine g_iload_n C dX4_knownSights_62 rfl rfl ?_
            refine g_icmp_ge C 78 dX4_knownSights_63 rfl hw (fun hw => ?_) (fun hw => ?_)
            · refine g_iincN C dX4_knownSights_78 rfl (by decide) (fun x3 ex3 => ?_)
              replace hw := hw x3 ex3
              refine g_goto C 34 dX4_knownSights_81 rfl ?_
              exact g_sub [1, 2, 0] rfl (hQ _ hw)
            · refine g_aload_n C dX4_knownSights_66 rfl (by decide) rfl ?_
              refine gw_X4_24 C dX4_knownSights_67 kdC_107 wwC_107_4 ?_
              refine g_aload_n C dX4_knownSights_70 rfl (by decide) rfl ?_
              refine gw_X4_21 C dX4_knownSights_71 kdC_107 wwC_107_3 ?_
              refine g_iload_n C dX4_knownSights_74 rfl rfl ?_
              obtain ⟨⟨b5, b5b⟩, hw⟩ := hw
              refine g_iaload C dX4_knownSights_75 kdC_111 b5 b5b (fun z75 => ?_)
              refine g_iconst C ⟨by decide, by decide⟩ dX4_knownSights_76 ?_
              obtain ⟨⟨b6, b6b⟩, hw⟩ := hw
              refine g_zastore C dX4_knownSights_77 kdC_112 b6 b6b (fun _ => (Or.inr rfl)) ?_
              refine g_heap (fun h2 eh2 => ?_)
              replace hw := hw h2 eh2
              refine g_iincN C dX4_knownSights_78 rfl (by decide) (fun x4 ex4 => ?_)
              replace hw := hw x4 ex4
              refine g_goto C 34 dX4_knownSights_81 rfl ?_
              exact g_sub [1, 2, 0] rfl (hQ _ hw)
    · show mG (XC z) p l e { frames := 1, cells := 0, slots := 0, locals := 21 } s m args below meth c 3 (mMQ (XC z) (mKr K) below args s) 93 [(1, (0, v1)), (2, (0, v2)), (0, (2, 107))] [] h
      unfold B_X4_knownSights_93 at hw
      refine g_iload_n C dX4_knownSights_93 rfl rfl ?_
      refine g_iload_n C dX4_knownSights_94 rfl rfl ?_
      refine g_icmp_ge C 131 dX4_knownSights_95 rfl hw (fun hw => ?_) (fun hw => ?_)
      · refine g_aload_n C dX4_knownSights_131 rfl (by decide) rfl ?_
        refine gw_X4_33 C dX4_knownSights_132 kdC_107 wwC_107_5 ?_
        exact g_aret C (by decide) hr (Or.inl ⟨_, rfl⟩) dX4_knownSights_135 ⟨_, rfl, hw⟩
      · refine g_aload_n C dX4_knownSights_98 rfl (by decide) rfl ?_
        refine gw_X4_24 C dX4_knownSights_99 kdC_107 wwC_107_4 ?_
        refine g_iload_n C dX4_knownSights_102 rfl rfl ?_
        obtain ⟨⟨b7, b7b⟩, hw⟩ := hw
        refine g_zaload C dX4_knownSights_103 kdC_112 b7 b7b (fun z103 => ?_)
        refine g_if_ne C 125 dX4_knownSights_104 rfl hw (fun hw => ?_) (fun hw => ?_)
        · refine g_iincN C dX4_knownSights_125 rfl (by decide) (fun x1 ex1 => ?_)
          replace hw := hw x1 ex1
          refine g_goto C 93 dX4_knownSights_128 rfl ?_
          exact g_sub [1, 2, 0] rfl (hQ _ hw)
        · refine g_aload_n C dX4_knownSights_107 rfl (by decide) rfl ?_
          refine gw_X4_21 C dX4_knownSights_108 kdC_107 wwC_107_3 ?_
          refine g_iload_n C dX4_knownSights_111 rfl rfl ?_
          obtain ⟨⟨b8, b8b⟩, hw⟩ := hw
          refine g_iaload C dX4_knownSights_112 kdC_111 b8 b8b (fun z112 => ?_)
          refine g_iconst C ⟨by decide, by decide⟩ dX4_knownSights_113 ?_
          refine g_icmp_ne C 125 dX4_knownSights_114 rfl hw (fun hw => ?_) (fun hw => ?_)
          · refine g_iincN C dX4_knownSights_125 rfl (by decide) (fun x2 ex2 => ?_)
            replace hw := hw x2 ex2
            refine g_goto C 93 dX4_knownSights_128 rfl ?_
            exact g_sub [1, 2, 0] rfl (hQ _ hw)
          · refine g_aload_n C dX4_knownSights_117 rfl (by decide) rfl ?_
            refine gw_X4_33 C dX4_knownSights_118 kdC_107 wwC_107_5 ?_
            refine g_iload_n C dX4_knownSights_121 rfl rfl ?_
            refine g_callVv C [(0, v2)] (sim_X7_add wirC kdC_113 hw) k_1294 k_839 k_840 k_136 k_841 hdV_X7_add rfl rfl (by decide) rfl kdC_113 rfl rfl rfl dX4_knownSights_122 ?_
            intro h1 hw
            refine g_iincN C dX4_knownSights_125 rfl (by decide) (fun x3 ex3 => ?_)
            replace hw := hw x3 ex3
            refine g_goto C 93 dX4_knownSights_128 rfl ?_
            exact g_sub [1, 2, 0] rfl (hQ _ hw)
  show mG _ p l e _ s m args below meth c _ _ 0 [(0, (2, 107))] [] h
  unfold wp_X4_knownSights at hw
  refine g_aload_n C dX4_knownSights_0 rfl (by decide) rfl ?_
  refine g_callVi C [] (sim_X4_knownBy hw) k_1288 k_1289 k_1290 k_143 k_1291 hdV_X4_knownBy rfl rfl (by decide) rfl kdC_107 rfl rfl rfl dX4_knownSights_1 ?_
  intro x1 h1 hw
  refine g_bipush C ⟨by decide, by decide⟩ (by decide) dX4_knownSights_4 ?_
  refine g_mmin C k_1292 k_727 k_137 k_728 rfl rfl rfl dX4_knownSights_6 ?_
  refine g_topi (fun x2 ex2 => ?_)
  replace hw := hw x2 ex2
  refine g_istore_n C dX4_knownSights_9 rfl (by decide) ?_
  refine g_iconst C ⟨by decide, by decide⟩ dX4_knownSights_10 ?_
  refine g_istore_n C dX4_knownSights_11 rfl (by decide) ?_
  exact g_sub [1, 2, 0] rfl (hQ _ hw)
set_option maxRecDepth 20000 in
set_option maxHeartbeats 4000000 in
theorem sim_X2_fittingShores {z : Mz} {l : Launch} {h : Mh} {K : Int → Mh → Prop} (hw : wp_X2_fittingShores h K) : mCal (XC z) l yX2_fittingShores cX2_fittingShores 5 (some Jvm.ClassFile.FieldType.int) 5 129 [(2, 127)] h (mKi K) := by
  refine m_entry RX2 rfl (by decide) rfl (fun p e s m args below meth c C hr => ?_)
  have hQ : ∀ x, Lfp (F_X2_fittingShores K) x → (match x.1, x.2.1 with | 51, [v1, v2, v3, v4] => mG (XC z) p l e { frames := 5, cells := 0, slots := 0, locals := 129 } s m args below meth c 5 (mMQ (XC z) (mKi K) below args s) 51 [(1, (2, v1)), (2, (0, v2)), (3, (0, v3)), (4, (0, v4)), (0, (2, 127))] [] x.2.2 | _, _ => True) := by
    intro x hx
    refine Lfp.ind (fun x => (match x.1, x.2.1 with | 51, [v1, v2, v3, v4] => mG (XC z) p l e { frames := 5, cells := 0, slots := 0, locals := 129 } s m args below meth c 5 (mMQ (XC z) (mKi K) below args s) 51 [(1, (2, v1)), (2, (0, v2)), (3, (0, v3)), (4, (0, v4)), (0, (2, 127))] [] x.2.2 | _, _ => True)) ?_ hx
    clear hx x
    intro Z x hQ hw
    rcases hw with ⟨v1, v2, v3, v4, h, rfl, hw⟩
    · show mG (XC z) p l e { frames := 5, cells := 0, slots := 0, locals := 129 } s m args below meth c 5 (mMQ (XC z) (mKi K) below args s) 51 [(1, (2, v1)), (2, (0, v2)), (3, (0, v3)), (4, (0, v4)), (0, (2, 127))] [] h
      unfold B_X2_fittingShores_51 at hw
      refine g_iload C dX2_fittingShores_51 rfl ?_
      refine g_iload_n C dX2_fittingShores_53 rfl rfl ?_
      refine g_icmp_ge C 90 dX2_fittingShores_54 rfl hw (fun hw => ?_) (fun hw => ?_)
      · refine g_iload_n C dX2_fittingShores_90 rfl rfl ?_
        exact g_iret C hr dX2_fittingShores_91 ⟨_, rfl, hw⟩
      · refine g_aload_n C dX2_fittingShores_57 rfl (by decide) rfl ?_
        refine g_aload_n C dX2_fittingShores_58 rfl (by decide) rfl ?_
        refine gw_X2_33 C dX2_fittingShores_59 kdC_127 wwC_127_0 ?_
        refine gf_X2_54 C dX2_fittingShores_62 kdC_53 (fun z62 => ?_)
        refine g_iload C dX2_fittingShores_65 rfl ?_
        obtain ⟨q2, hw⟩ := hw
        refine g_callVr C [(0, v4)] (sim_X5_shoresOf wirC q2 hw) k_1342 k_962 k_963 k_135 k_964 hdV_X5_shoresOf rfl rfl (by decide) rfl q2 rfl rfl rfl dX2_fittingShores_67 ?_
        intro x1 h1 hw
        refine g_aload_n C dX2_fittingShores_70 rfl (by decide) rfl ?_
        refine g_callVz C [(2, x1), (2, v1)] (sim_X2_fitsBy hw) k_1334 k_1336 k_56 k_146 k_1337 hdV_X2_fitsBy rfl rfl (by decide) rfl kdC_127 rfl rfl rfl dX2_fittingShores_71 ?_
        intro x2 h2 zb71 hw
        refine g_if_eq C 84 dX2_fittingShores_74 rfl hw (fun hw => ?_) (fun hw => ?_)
        · refine g_iincN C dX2_fittingShores_84 rfl (by decide) (fun x3 ex3 => ?_)
          replace hw := hw x3 ex3
          refine g_goto C 51 dX2_fittingShores_87 rfl ?_
          exact g_sub [1, 2, 3, 4, 0] rfl (hQ _ hw)
        · refine g_iload_n C dX2_fittingShores_77 rfl rfl ?_
          refine g_iconst C ⟨by decide, by decide⟩ dX2_fittingShores_78 ?_
          refine g_iload C dX2_fittingShores_79 rfl ?_
          refine g_ishl C dX2_fittingShores_81 ?_
          refine g_ior C dX2_fittingShores_82 ?_
          refine g_topi (fun x4 ex4 => ?_)
          replace hw := hw x4 ex4
          refine g_istore_n C dX2_fittingShores_83 rfl (by decide) ?_
          refine g_iincN C dX2_fittingShores_84 rfl (by decide) (fun x5 ex5 => ?_)
          replace hw := hw x5 ex5
          refine g_goto C 51 dX2_fittingShores_87 rfl ?_
          exact g_sub [1, 2, 3, 4, 0] rfl (hQ _ hw)
  show mG _ p l e _ s m args below meth c _ _ 0 [(0, (2, 127))] [] h
  unfold wp_X2_fittingShores at hw
  refine g_aload_n C dX2_fittingShores_0 rfl (by decide) rfl ?_
  refine gw_X2_41 C dX2_fittingShores_1 kdC_127 wwC_127_2 ?_
  refine g_callVr C [] (sim_X4_knownSights hw) k_1284 k_1285 k_1286 k_143 k_1287 hdV_X4_knownSights rfl rfl (by decide) rfl kdC_107 rfl rfl rfl dX2_fittingShores_4 ?_
  intro x1 h1 hw
  refine g_astore_n C dX2_fittingShores_7 rfl (by decide) (by decide) ?_
  refine g_aload_n C dX2_fittingShores_8 rfl (by decide) rfl ?_
  refine gw_X2_33 C dX2_fittingShores_9 kdC_127 wwC_127_0 ?_
  refine gf_X2_54 C dX2_fittingShores_12 kdC_53 (fun z12 => ?_)
  obtain ⟨q1, hw⟩ := hw
  refine gw_X2_130 C dX2_fittingShores_15 q1 (wir_4_6 wirC q1) ?_
  refine gf_X2_66 C dX2_fittingShores_18 (kid_4_6 wirC q1) (fun z18 => ?_)
  refine g_topi (fun x2 ex2 => ?_)
  replace hw := hw x2 ex2
  refine g_istore_n C dX2_fittingShores_21 rfl (by decide) ?_
  refine g_aload_n C dX2_fittingShores_22 rfl (by decide) rfl ?_
  refine g_aload_n C dX2_fittingShores_23 rfl (by decide) rfl ?_
  refine gw_X2_33 C dX2_fittingShores_24 kdC_127 wwC_127_0 ?_
  refine gf_X2_54 C dX2_fittingShores_27 kdC_53 (fun z27 => ?_)
  refine gw_X2_118 C dX2_fittingShores_30 q1 (wir_4_4 wirC q1) ?_
  refine g_aload_n C dX2_fittingShores_33 rfl (by decide) rfl ?_
  refine g_callVz C [(2, ((h1 53 0) + 1)), (2, x1)] (sim_X2_fitsBy hw) k_1334 k_1336 k_56 k_146 k_1337 hdV_X2_fitsBy rfl rfl (by decide) rfl kdC_127 rfl rfl rfl dX2_fittingShores_34 ?_
  intro x3 h2 zb34 hw
  refine g_if_eq C 46 dX2_fittingShores_37 rfl hw (fun hw => ?_) (fun hw => ?_)
  · refine g_iconst C ⟨by decide, by decide⟩ dX2_fittingShores_46 ?_
    refine g_istore_n C dX2_fittingShores_47 rfl (by decide) ?_
    refine g_iconst C ⟨by decide, by decide⟩ dX2_fittingShores_48 ?_
    refine g_istore C dX2_fittingShores_49 (by decide) ?_
    exact g_sub [1, 2, 3, 4, 0] rfl (hQ _ hw)
  · refine g_iconst C ⟨by decide, by decide⟩ dX2_fittingShores_40 ?_
    refine g_iload_n C dX2_fittingShores_41 rfl rfl ?_
    refine g_ishl C dX2_fittingShores_42 ?_
    refine g_goto C 47 dX2_fittingShores_43 rfl ?_
    refine g_topi (fun x4 ex4 => ?_)
    replace hw := hw x4 ex4
    refine g_istore_n C dX2_fittingShores_47 rfl (by decide) ?_
    refine g_iconst C ⟨by decide, by decide⟩ dX2_fittingShores_48 ?_
    refine g_istore C dX2_fittingShores_49 (by decide) ?_
    exact g_sub [1, 2, 3, 4, 0] rfl (hQ _ hw)
set_option maxRecDepth 20000 in
set_option maxHeartbeats 4000000 in
theorem sim_X13_fits {z : Mz} {l : Launch} {h : Mh} {K : Int → Mh → Prop} (hw : wp_X13_fits h K) : mCal (XC z) l yX13_fits cX13_fits 1 (some Jvm.ClassFile.FieldType.int) 6 153 [(2, 0)] h (mKi K) := by
  refine m_entry RX13 rfl (by decide) rfl (fun p e s m args below meth c C hr => ?_)
  show mG _ p l e _ s m args below meth c _ _ 0 [(0, (2, 0))] [] h
  unfold wp_X13_fits at hw
  refine g_aload_n C dX13_fits_0 rfl (by decide) rfl ?_
  refine gw_X13_52 C dX13_fits_1 kdC_0 wwC_0_6 ?_
  refine g_callVv C [] (sim_X6_freshenWays hw) k_1017 k_1018 k_1019 k_144 k_1020 hdV_X6_freshenWays rfl rfl (by decide) rfl kdC_115 rfl rfl rfl dX13_fits_4 ?_
  intro h1 hw
  refine g_aload_n C dX13_fits_7 rfl (by decide) rfl ?_
  refine gw_X13_70 C dX13_fits_8 kdC_0 wwC_0_8 ?_
  refine g_callVi C [] (sim_X2_fittingShores hw) k_1330 k_1331 k_1332 k_146 k_1333 hdV_X2_fittingShores rfl rfl (by decide) rfl kdC_127 rfl rfl rfl dX13_fits_11 ?_
  intro x1 h2 hw
  exact g_iret C hr dX13_fits_14 ⟨_, rfl, hw⟩
set_option maxRecDepth 20000 in
set_option maxHeartbeats 4000000 in
theorem sim_X13_keep {z : Mz} {l : Launch} {h : Mh} {K : Int → Mh → Prop} (hw : wp_X13_keep h K) : mCal (XC z) l yX13_keep cX13_keep 1 (some Jvm.ClassFile.FieldType.int) 3 65 [(2, 0)] h (mKi K) := by
  refine m_entry RX13 rfl (by decide) rfl (fun p e s m args below meth c C hr => ?_)
  show mG _ p l e _ s m args below meth c _ _ 0 [(0, (2, 0))] [] h
  unfold wp_X13_keep at hw
  refine g_aload_n C dX13_keep_0 rfl (by decide) rfl ?_
  refine gw_X13_36 C dX13_keep_1 kdC_0 wwC_0_4 ?_
  refine g_callVi C [] (sim_X11_keepImage hw) k_1430 k_1431 k_1432 k_142 k_1433 hdV_X11_keepImage rfl rfl (by decide) rfl kdC_53 rfl rfl rfl dX13_keep_4 ?_
  intro x1 h1 hw
  exact g_iret C hr dX13_keep_7 ⟨_, rfl, hw⟩
set_option maxRecDepth 20000 in
set_option maxHeartbeats 4000000 in
theorem sim_X4_limitTo {z : Mz} {l : Launch} {p1 : Int} {h : Mh} {K : Int → Mh → Prop} (hw : wp_X4_limitTo p1 h K) : mCal (XC z) l yX4_limitTo cX4_limitTo 2 (some Jvm.ClassFile.FieldType.boolean) 0 0 [(2, 107), (0, p1)] h (mKz K) := by
  refine m_entry RX4 rfl (by decide) rfl (fun p e s m args below meth c C hr => ?_)
  show mG _ p l e _ s m args below meth c _ _ 0 [(0, (2, 107)), (1, (0, p1))] [] h
  unfold wp_X4_limitTo at hw
  refine g_iload_n C dX4_limitTo_0 rfl rfl ?_
  refine g_iconst C ⟨by decide, by decide⟩ dX4_limitTo_1 ?_
  refine g_icmp_lt C 13 dX4_limitTo_2 rfl hw (fun hw => ?_) (fun hw => ?_)
  · refine g_iconst C ⟨by decide, by decide⟩ dX4_limitTo_13 ?_
    exact g_zret C hr (Or.inl rfl) dX4_limitTo_14 ⟨_, rfl, (Or.inl rfl), hw⟩
  · refine g_iload_n C dX4_limitTo_5 rfl rfl ?_
    refine g_aload_n C dX4_limitTo_6 rfl (by decide) rfl ?_
    refine gf_X4_41 C dX4_limitTo_7 kdC_107 (fun z7 => ?_)
    refine g_icmp_le C 15 dX4_limitTo_10 rfl hw (fun hw => ?_) (fun hw => ?_)
    · refine g_aload_n C dX4_limitTo_15 rfl (by decide) rfl ?_
      refine g_iload_n C dX4_limitTo_16 rfl rfl ?_
      refine gp_X4_37 C dX4_limitTo_17 kdC_107 (fun z => z) ?_
      refine g_heap (fun h1 eh1 => ?_)
      replace hw := hw h1 eh1
      refine g_iconst C ⟨by decide, by decide⟩ dX4_limitTo_20 ?_
      exact g_zret C hr (Or.inr rfl) dX4_limitTo_21 ⟨_, rfl, (Or.inr rfl), hw⟩
    · refine g_iconst C ⟨by decide, by decide⟩ dX4_limitTo_13 ?_
      exact g_zret C hr (Or.inl rfl) dX4_limitTo_14 ⟨_, rfl, (Or.inl rfl), hw⟩
set_option maxRecDepth 20000 in
set_option maxHeartbeats 4000000 in
theorem sim_X13_known {z : Mz} {l : Launch} {p1 : Int} {h : Mh} {K : Int → Mh → Prop} (hw : wp_X13_known p1 h K) : mCal (XC z) l yX13_known cX13_known 2 (some Jvm.ClassFile.FieldType.boolean) 1 21 [(2, 0), (0, p1)] h (mKz K) := by
  refine m_entry RX13 rfl (by decide) rfl (fun p e s m args below meth c C hr => ?_)
  show mG _ p l e _ s m args below meth c _ _ 0 [(0, (2, 0)), (1, (0, p1))] [] h
  unfold wp_X13_known at hw
  refine g_aload_n C dX13_known_0 rfl (by decide) rfl ?_
  refine gw_X13_43 C dX13_known_1 kdC_0 wwC_0_5 ?_
  refine g_iload_n C dX13_known_4 rfl rfl ?_
  refine g_callVz C [(0, p1)] (sim_X4_limitTo hw) k_1272 k_1273 k_1274 k_143 k_1275 hdV_X4_limitTo rfl rfl (by decide) rfl kdC_107 rfl rfl rfl dX13_known_5 ?_
  intro x1 h1 zb5 hw
  exact g_zret C hr zb5 dX13_known_8 ⟨_, rfl, zb5, hw⟩
set_option maxRecDepth 20000 in
set_option maxHeartbeats 4000000 in
theorem sim_X13_law {z : Mz} {l : Launch} {p1 : Int} {p2 : Int} {h : Mh} {K : Int → Mh → Prop} (hw : wp_X13_law p1 p2 h K) : mCal (XC z) l yX13_law cX13_law 3 (some Jvm.ClassFile.FieldType.long) 5 124 [(2, 0), (0, p1), (0, p2)] h (mKl K) := by
  refine m_entry RX13 rfl (by decide) rfl (fun p e s m args below meth c C hr => ?_)
  show mG _ p l e _ s m args below meth c _ _ 0 [(0, (2, 0)), (1, (0, p1)), (2, (0, p2))] [] h
  unfold wp_X13_law at hw
  refine g_aload_n C dX13_law_0 rfl (by decide) rfl ?_
  refine gw_X13_36 C dX13_law_1 kdC_0 wwC_0_4 ?_
  refine gf_X13_86 C dX13_law_4 kdC_53 (fun z4 => ?_)
  obtain ⟨q1, hw⟩ := hw
  refine gw_X13_117 C dX13_law_7 q1 (wir_4_12 wirC q1) ?_
  refine g_iload_n C dX13_law_10 rfl rfl ?_
  refine g_callVz C [(0, p1)] (sim_X7_has wirC (kid_4_12 wirC q1) hw) k_1113 k_1114 k_1115 k_136 k_1116 hdV_X7_has rfl rfl (by decide) rfl (kid_4_12 wirC q1) rfl rfl rfl dX13_law_11 ?_
  intro x1 h1 zb11 hw
  refine g_if_eq C 42 dX13_law_14 rfl hw (fun hw => ?_) (fun hw => ?_)
  · refine g_ldc2 C ⟨by decide, by decide⟩ k_1133 dX13_law_42 ?_
    exact g_lret C hr dX13_law_45 ⟨_, rfl, hw⟩
  · refine g_iload_n C dX13_law_17 rfl rfl ?_
    refine g_if_lt C 42 dX13_law_18 rfl hw (fun hw => ?_) (fun hw => ?_)
    · refine g_ldc2 C ⟨by decide, by decide⟩ k_1133 dX13_law_42 ?_
      exact g_lret C hr dX13_law_45 ⟨_, rfl, hw⟩
    · refine g_iload_n C dX13_law_21 rfl rfl ?_
      refine g_iconst C ⟨by decide, by decide⟩ dX13_law_22 ?_
      refine g_icmp_ge C 42 dX13_law_23 rfl hw (fun hw => ?_) (fun hw => ?_)
      · refine g_ldc2 C ⟨by decide, by decide⟩ k_1133 dX13_law_42 ?_
        exact g_lret C hr dX13_law_45 ⟨_, rfl, hw⟩
      · refine g_aload_n C dX13_law_26 rfl (by decide) rfl ?_
        refine gw_X13_36 C dX13_law_27 kdC_0 wwC_0_4 ?_
        refine gf_X13_86 C dX13_law_30 kdC_53 (fun z30 => ?_)
        obtain ⟨q2, hw⟩ := hw
        refine gw_X13_208 C dX13_law_33 q2 (wir_4_15 wirC q2) ?_
        refine g_callVz C [] (sim_X3_isEmpty wirC (kid_4_15 wirC q2) hw) k_1132 k_907 k_908 k_139 k_909 hdV_X3_isEmpty rfl rfl (by decide) rfl (kid_4_15 wirC q2) rfl rfl rfl dX13_law_36 ?_
        intro x2 h2 zb36 hw
        refine g_if_eq C 46 dX13_law_39 rfl hw (fun hw => ?_) (fun hw => ?_)
        · refine g_aload_n C dX13_law_46 rfl (by decide) rfl ?_
          refine gw_X13_52 C dX13_law_47 kdC_0 wwC_0_6 ?_
          refine g_callVv C [] (sim_X6_freshenSums hw) k_1068 k_1069 k_1070 k_144 k_1071 hdV_X6_freshenSums rfl rfl (by decide) rfl kdC_115 rfl rfl rfl dX13_law_50 ?_
          intro h3 hw
          refine g_aload_n C dX13_law_53 rfl (by decide) rfl ?_
          refine gw_X13_61 C dX13_law_54 kdC_0 wwC_0_7 ?_
          refine g_aload_n C dX13_law_57 rfl (by decide) rfl ?_
          refine gw_X13_36 C dX13_law_58 kdC_0 wwC_0_4 ?_
          refine gf_X13_86 C dX13_law_61 kdC_53 (fun z61 => ?_)
          obtain ⟨q3, hw⟩ := hw
          refine gw_X13_220 C dX13_law_64 q3 (wir_4_13 wirC q3) ?_
          refine g_iload_n C dX13_law_67 rfl rfl ?_
          refine g_callVi C [(0, p1)] (sim_X7_orZero wirC (kid_4_13 wirC q3) hw) k_1117 k_1080 k_1081 k_136 k_1082 hdV_X7_orZero rfl rfl (by decide) rfl (kid_4_13 wirC q3) rfl rfl rfl dX13_law_68 ?_
          intro x3 h4 hw
          refine g_iload_n C dX13_law_71 rfl rfl ?_
          refine g_iconst C ⟨by decide, by decide⟩ dX13_law_72 ?_
          refine g_callVl C [(0, x3), (0, p2), (0, 0)] (sim_X8_drive hw) k_1134 k_1135 k_1136 k_145 k_1137 hdV_X8_drive rfl rfl (by decide) rfl kdC_125 rfl rfl rfl dX13_law_73 ?_
          intro x4 h5 hw
          exact g_lret C hr dX13_law_76 ⟨_, rfl, hw⟩
        · refine g_ldc2 C ⟨by decide, by decide⟩ k_1133 dX13_law_42 ?_
          exact g_lret C hr dX13_law_45 ⟨_, rfl, hw⟩
set_option maxRecDepth 20000 in
set_option maxHeartbeats 4000000 in
theorem sim_X8_firstSeen {z : Mz} {l : Launch} {p1 : Int} {p2 : Int} {p3 : Int} {h : Mh} {K : Int → Mh → Prop} (hw : wp_X8_firstSeen p1 p2 p3 h K) : mCal (XC z) l yX8_firstSeen cX8_firstSeen 6 (some Jvm.ClassFile.FieldType.int) 1 23 [(2, 125), (0, p1), (0, p2), (0, p3)] h (mKi K) := by
  refine m_entry RX8 rfl (by decide) rfl (fun p e s m args below meth c C hr => ?_)
  have hQ : ∀ x, Lfp (F_X8_firstSeen p1 p2 p3 K) x → (match x.1, x.2.1 with | 3, [v4] => mG (XC z) p l e { frames := 1, cells := 0, slots := 0, locals := 23 } s m args below meth c 6 (mMQ (XC z) (mKi K) below args s) 3 [(4, (0, v4)), (0, (2, 125)), (1, (0, p1)), (2, (0, p2)), (3, (0, p3))] [] x.2.2 | _, _ => True) := by
    intro x hx
    refine Lfp.ind (fun x => (match x.1, x.2.1 with | 3, [v4] => mG (XC z) p l e { frames := 1, cells := 0, slots := 0, locals := 23 } s m args below meth c 6 (mMQ (XC z) (mKi K) below args s) 3 [(4, (0, v4)), (0, (2, 125)), (1, (0, p1)), (2, (0, p2)), (3, (0, p3))] [] x.2.2 | _, _ => True)) ?_ hx
    clear hx x
    intro Z x hQ hw
    rcases hw with ⟨v4, h, rfl, hw⟩
    · show mG (XC z) p l e { frames := 1, cells := 0, slots := 0, locals := 23 } s m args below meth c 6 (mMQ (XC z) (mKi K) below args s) 3 [(4, (0, v4)), (0, (2, 125)), (1, (0, p1)), (2, (0, p2)), (3, (0, p3))] [] h
      unfold B_X8_firstSeen_3 at hw
      refine g_iload C dX8_firstSeen_3 rfl ?_
      refine g_iload_n C dX8_firstSeen_5 rfl rfl ?_
      refine g_icmp_ge C 71 dX8_firstSeen_6 rfl hw (fun hw => ?_) (fun hw => ?_)
      · refine g_iconst C ⟨by decide, by decide⟩ dX8_firstSeen_71 ?_
        exact g_iret C hr dX8_firstSeen_72 ⟨_, rfl, hw⟩
      · refine g_iload C dX8_firstSeen_9 rfl ?_
        refine g_aload_n C dX8_firstSeen_11 rfl (by decide) rfl ?_
        refine gw_X8_9 C dX8_firstSeen_12 kdC_125 wwC_125_2 ?_
        refine g_alen C dX8_firstSeen_15 (ci := 14) (by decide) skC_126 (by decide) ?_
        refine g_icmp_ge C 71 dX8_firstSeen_16 rfl hw (fun hw => ?_) (fun hw => ?_)
        · refine g_iconst C ⟨by decide, by decide⟩ dX8_firstSeen_71 ?_
          exact g_iret C hr dX8_firstSeen_72 ⟨_, rfl, hw⟩
        · refine g_iload C dX8_firstSeen_19 rfl ?_
          refine g_if_ge C 29 dX8_firstSeen_21 rfl hw (fun hw => ?_) (fun hw => ?_)
          · refine g_aload_n C dX8_firstSeen_29 rfl (by decide) rfl ?_
            refine gw_X8_19 C dX8_firstSeen_30 kdC_125 wwC_125_1 ?_
            refine g_iload_n C dX8_firstSeen_33 rfl rfl ?_
            refine g_aload_n C dX8_firstSeen_34 rfl (by decide) rfl ?_
            refine gw_X8_9 C dX8_firstSeen_35 kdC_125 wwC_125_2 ?_
            refine g_iload C dX8_firstSeen_38 rfl ?_
            obtain ⟨⟨b1, b1b⟩, hw⟩ := hw
            refine g_iaload C dX8_firstSeen_40 kdC_126 b1 b1b (fun z40 => ?_)
            refine g_callVi C [(0, p1), (0, (h 126 v4))] (sim_X6_farOf hw) k_1207 k_1049 k_1050 k_144 k_1051 hdV_X6_farOf rfl rfl (by decide) rfl kdC_115 rfl rfl rfl dX8_firstSeen_41 ?_
            intro x1 h1 hw
            refine g_istore C dX8_firstSeen_44 (by decide) ?_
            refine g_iload C dX8_firstSeen_46 rfl ?_
            refine g_if_lt C 65 dX8_firstSeen_48 rfl hw (fun hw => ?_) (fun hw => ?_)
            · refine g_iincN C dX8_firstSeen_65 rfl (by decide) (fun x2 ex2 => ?_)
              replace hw := hw x2 ex2
              refine g_goto C 3 dX8_firstSeen_68 rfl ?_
              exact g_sub [4, 0, 1, 2, 3] rfl (hQ _ hw)
            · refine g_iload_n C dX8_firstSeen_51 rfl rfl ?_
              refine g_iload C dX8_firstSeen_52 rfl ?_
              refine g_iadd C dX8_firstSeen_54 ?_
              refine g_iconst C ⟨by decide, by decide⟩ dX8_firstSeen_55 ?_
              refine g_isub C dX8_firstSeen_56 ?_
              refine g_iload C dX8_firstSeen_57 rfl ?_
              refine g_icmp_gt C 65 dX8_firstSeen_59 rfl hw (fun hw => ?_) (fun hw => ?_)
              · refine g_iincN C dX8_firstSeen_65 rfl (by decide) (fun x3 ex3 => ?_)
                replace hw := hw x3 ex3
                refine g_goto C 3 dX8_firstSeen_68 rfl ?_
                exact g_sub [4, 0, 1, 2, 3] rfl (hQ _ hw)
              · refine g_iload C dX8_firstSeen_62 rfl ?_
                exact g_iret C hr dX8_firstSeen_64 ⟨_, rfl, hw⟩
          · refine g_bipush C ⟨by decide, by decide⟩ (by decide) dX8_firstSeen_24 ?_
            refine g_goto C 44 dX8_firstSeen_26 rfl ?_
            refine g_istore C dX8_firstSeen_44 (by decide) ?_
            refine g_iload C dX8_firstSeen_46 rfl ?_
            refine g_if_lt C 65 dX8_firstSeen_48 rfl hw (fun hw => ?_) (fun hw => ?_)
            · refine g_iincN C dX8_firstSeen_65 rfl (by decide) (fun x4 ex4 => ?_)
              replace hw := hw x4 ex4
              refine g_goto C 3 dX8_firstSeen_68 rfl ?_
              exact g_sub [4, 0, 1, 2, 3] rfl (hQ _ hw)
            · refine g_iload_n C dX8_firstSeen_51 rfl rfl ?_
              refine g_iload C dX8_firstSeen_52 rfl ?_
              refine g_iadd C dX8_firstSeen_54 ?_
              refine g_iconst C ⟨by decide, by decide⟩ dX8_firstSeen_55 ?_
              refine g_isub C dX8_firstSeen_56 ?_
              refine g_iload C dX8_firstSeen_57 rfl ?_
              refine g_icmp_gt C 65 dX8_firstSeen_59 rfl hw (fun hw => ?_) (fun hw => ?_)
              · refine g_iincN C dX8_firstSeen_65 rfl (by decide) (fun x5 ex5 => ?_)
                replace hw := hw x5 ex5
                refine g_goto C 3 dX8_firstSeen_68 rfl ?_
                exact g_sub [4, 0, 1, 2, 3] rfl (hQ _ hw)
              · refine g_iload C dX8_firstSeen_62 rfl ?_
                exact g_iret C hr dX8_firstSeen_64 ⟨_, rfl, hw⟩
  show mG _ p l e _ s m args below meth c _ _ 0 [(0, (2, 125)), (1, (0, p1)), (2, (0, p2)), (3, (0, p3))] [] h
  unfold wp_X8_firstSeen at hw
  refine g_iload_n C dX8_firstSeen_0 rfl rfl ?_
  refine g_istore C dX8_firstSeen_1 (by decide) ?_
  exact g_sub [4, 0, 1, 2, 3] rfl (hQ _ hw)
set_option maxRecDepth 20000 in
set_option maxHeartbeats 4000000 in
theorem sim_X8_isLie {z : Mz} {l : Launch} {p1 : Int} {p2 : Int} {p3 : Int} {p4 : Int} {p5 : Int} {p6 : Int} {h : Mh} {K : Int → Mh → Prop} (hw : wp_X8_isLie p1 p2 p3 p4 p5 p6 h K) : mCal (XC z) l yX8_isLie cX8_isLie 9 (some Jvm.ClassFile.FieldType.boolean) 5 134 [(2, 125), (0, p1), (0, p2), (0, p3), (0, p4), (0, p5), (0, p6)] h (mKz K) := by
  refine m_entry RX8 rfl (by decide) rfl (fun p e s m args below meth c C hr => ?_)
  have hQ : ∀ x, Lfp (F_X8_isLie p1 p2 p3 p4 p5 p6 K) x → (match x.1, x.2.1 with | 44, [v7, v8] => mG (XC z) p l e { frames := 5, cells := 0, slots := 0, locals := 134 } s m args below meth c 9 (mMQ (XC z) (mKz K) below args s) 44 [(7, (0, v7)), (8, (0, v8)), (0, (2, 125)), (1, (0, p1)), (2, (0, p2)), (3, (0, p3)), (4, (0, p4)), (5, (0, p5)), (6, (0, p6))] [] x.2.2 | _, _ => True) := by
    intro x hx
    refine Lfp.ind (fun x => (match x.1, x.2.1 with | 44, [v7, v8] => mG (XC z) p l e { frames := 5, cells := 0, slots := 0, locals := 134 } s m args below meth c 9 (mMQ (XC z) (mKz K) below args s) 44 [(7, (0, v7)), (8, (0, v8)), (0, (2, 125)), (1, (0, p1)), (2, (0, p2)), (3, (0, p3)), (4, (0, p4)), (5, (0, p5)), (6, (0, p6))] [] x.2.2 | _, _ => True)) ?_ hx
    clear hx x
    intro Z x hQ hw
    rcases hw with ⟨v7, v8, h, rfl, hw⟩
    · show mG (XC z) p l e { frames := 5, cells := 0, slots := 0, locals := 134 } s m args below meth c 9 (mMQ (XC z) (mKz K) below args s) 44 [(7, (0, v7)), (8, (0, v8)), (0, (2, 125)), (1, (0, p1)), (2, (0, p2)), (3, (0, p3)), (4, (0, p4)), (5, (0, p5)), (6, (0, p6))] [] h
      unfold B_X8_isLie_44 at hw
      refine g_iload C dX8_isLie_44 rfl ?_
      refine g_iload C dX8_isLie_46 rfl ?_
      refine g_icmp_ge C 74 dX8_isLie_48 rfl hw (fun hw => ?_) (fun hw => ?_)
      · refine g_aload_n C dX8_isLie_74 rfl (by decide) rfl ?_
        refine gw_X8_19 C dX8_isLie_75 kdC_125 wwC_125_1 ?_
        refine g_iload_n C dX8_isLie_78 rfl rfl ?_
        refine g_iload_n C dX8_isLie_79 rfl rfl ?_
        refine g_iload_n C dX8_isLie_80 rfl rfl ?_
        refine g_iconst C ⟨by decide, by decide⟩ dX8_isLie_81 ?_
        refine g_callVv C [(0, p1), (0, p2), (0, p3), (0, (-1))] (sim_X6_pour hw) k_1212 k_1074 k_1075 k_144 k_1076 hdV_X6_pour rfl rfl (by decide) rfl kdC_115 rfl rfl rfl dX8_isLie_82 ?_
        intro h1 hw
        refine g_iload C dX8_isLie_85 rfl ?_
        refine g_iload C dX8_isLie_87 rfl ?_
        refine g_icmp_eq C 96 dX8_isLie_89 rfl hw (fun hw => ?_) (fun hw => ?_)
        · refine g_iconst C ⟨by decide, by decide⟩ dX8_isLie_96 ?_
          exact g_zret C hr (Or.inl rfl) dX8_isLie_97 ⟨_, rfl, (Or.inl rfl), hw⟩
        · refine g_iconst C ⟨by decide, by decide⟩ dX8_isLie_92 ?_
          refine g_goto C 97 dX8_isLie_93 rfl ?_
          exact g_zret C hr (Or.inr rfl) dX8_isLie_97 ⟨_, rfl, (Or.inr rfl), hw⟩
      · refine g_iload C dX8_isLie_51 rfl ?_
        refine g_iload C dX8_isLie_53 rfl ?_
        refine g_icmp_eq C 74 dX8_isLie_55 rfl hw (fun hw => ?_) (fun hw => ?_)
        · refine g_aload_n C dX8_isLie_74 rfl (by decide) rfl ?_
          refine gw_X8_19 C dX8_isLie_75 kdC_125 wwC_125_1 ?_
          refine g_iload_n C dX8_isLie_78 rfl rfl ?_
          refine g_iload_n C dX8_isLie_79 rfl rfl ?_
          refine g_iload_n C dX8_isLie_80 rfl rfl ?_
          refine g_iconst C ⟨by decide, by decide⟩ dX8_isLie_81 ?_
          refine g_callVv C [(0, p1), (0, p2), (0, p3), (0, (-1))] (sim_X6_pour hw) k_1212 k_1074 k_1075 k_144 k_1076 hdV_X6_pour rfl rfl (by decide) rfl kdC_115 rfl rfl rfl dX8_isLie_82 ?_
          intro h2 hw
          refine g_iload C dX8_isLie_85 rfl ?_
          refine g_iload C dX8_isLie_87 rfl ?_
          refine g_icmp_eq C 96 dX8_isLie_89 rfl hw (fun hw => ?_) (fun hw => ?_)
          · refine g_iconst C ⟨by decide, by decide⟩ dX8_isLie_96 ?_
            exact g_zret C hr (Or.inl rfl) dX8_isLie_97 ⟨_, rfl, (Or.inl rfl), hw⟩
          · refine g_iconst C ⟨by decide, by decide⟩ dX8_isLie_92 ?_
            refine g_goto C 97 dX8_isLie_93 rfl ?_
            exact g_zret C hr (Or.inr rfl) dX8_isLie_97 ⟨_, rfl, (Or.inr rfl), hw⟩
        · refine g_aload_n C dX8_isLie_58 rfl (by decide) rfl ?_
          refine g_iload C dX8_isLie_59 rfl ?_
          refine g_iload C dX8_isLie_61 rfl ?_
          refine g_callVi C [(0, v7), (0, v8)] (sim_X8_next hw) k_1169 k_1171 k_47 k_145 k_1172 hdV_X8_next rfl rfl (by decide) rfl kdC_125 rfl rfl rfl dX8_isLie_63 ?_
          intro x1 h3 hw
          refine g_istore C dX8_isLie_66 (by decide) ?_
          refine g_iincN C dX8_isLie_68 rfl (by decide) (fun x2 ex2 => ?_)
          replace hw := hw x2 ex2
          refine g_goto C 44 dX8_isLie_71 rfl ?_
          exact g_sub [7, 8, 0, 1, 2, 3, 4, 5, 6] rfl (hQ _ hw)
  show mG _ p l e _ s m args below meth c _ _ 0 [(0, (2, 125)), (1, (0, p1)), (2, (0, p2)), (3, (0, p3)), (4, (0, p4)), (5, (0, p5)), (6, (0, p6))] [] h
  unfold wp_X8_isLie at hw
  refine g_aload_n C dX8_isLie_0 rfl (by decide) rfl ?_
  refine gw_X8_19 C dX8_isLie_1 kdC_125 wwC_125_1 ?_
  refine g_iload_n C dX8_isLie_4 rfl rfl ?_
  refine g_iload_n C dX8_isLie_5 rfl rfl ?_
  refine g_iload_n C dX8_isLie_6 rfl rfl ?_
  refine g_iconst C ⟨by decide, by decide⟩ dX8_isLie_7 ?_
  refine g_callVv C [(0, p1), (0, p2), (0, p3), (0, 1)] (sim_X6_pour hw) k_1212 k_1074 k_1075 k_144 k_1076 hdV_X6_pour rfl rfl (by decide) rfl kdC_115 rfl rfl rfl dX8_isLie_8 ?_
  intro h1 hw
  refine g_iload C dX8_isLie_11 rfl ?_
  refine g_if_lt C 36 dX8_isLie_13 rfl hw (fun hw => ?_) (fun hw => ?_)
  · refine g_iload C dX8_isLie_36 rfl ?_
    refine g_istore C dX8_isLie_38 (by decide) ?_
    refine g_iload C dX8_isLie_40 rfl ?_
    refine g_istore C dX8_isLie_42 (by decide) ?_
    exact g_sub [7, 8, 0, 1, 2, 3, 4, 5, 6] rfl (hQ _ hw)
  · refine g_iload C dX8_isLie_16 rfl ?_
    refine g_aload_n C dX8_isLie_18 rfl (by decide) rfl ?_
    refine gw_X8_9 C dX8_isLie_19 kdC_125 wwC_125_2 ?_
    refine g_alen C dX8_isLie_22 (ci := 14) (by decide) skC_126 (by decide) ?_
    refine g_icmp_ge C 36 dX8_isLie_23 rfl hw (fun hw => ?_) (fun hw => ?_)
    · refine g_iload C dX8_isLie_36 rfl ?_
      refine g_istore C dX8_isLie_38 (by decide) ?_
      refine g_iload C dX8_isLie_40 rfl ?_
      refine g_istore C dX8_isLie_42 (by decide) ?_
      exact g_sub [7, 8, 0, 1, 2, 3, 4, 5, 6] rfl (hQ _ hw)
    · refine g_aload_n C dX8_isLie_26 rfl (by decide) rfl ?_
      refine gw_X8_9 C dX8_isLie_27 kdC_125 wwC_125_2 ?_
      refine g_iload C dX8_isLie_30 rfl ?_
      obtain ⟨⟨b1, b1b⟩, hw⟩ := hw
      refine g_iaload C dX8_isLie_32 kdC_126 b1 b1b (fun z32 => ?_)
      refine g_goto C 38 dX8_isLie_33 rfl ?_
      refine g_topi (fun x1 ex1 => ?_)
      replace hw := hw x1 ex1
      refine g_istore C dX8_isLie_38 (by decide) ?_
      refine g_iload C dX8_isLie_40 rfl ?_
      refine g_istore C dX8_isLie_42 (by decide) ?_
      exact g_sub [7, 8, 0, 1, 2, 3, 4, 5, 6] rfl (hQ _ hw)
set_option maxRecDepth 20000 in
set_option maxHeartbeats 4000000 in
theorem sim_X8_seekLie {z : Mz} {l : Launch} {p1 : Int} {p2 : Int} {p3 : Int} {p4 : Int} {h : Mh} {K : Int → Mh → Prop} (hw : wp_X8_seekLie p1 p2 p3 p4 h K) : mCal (XC z) l yX8_seekLie cX8_seekLie 9 (some Jvm.ClassFile.FieldType.int) 6 162 [(2, 125), (0, p1), (0, p2), (0, p3), (0, p4)] h (mKi K) := by
  refine m_entry RX8 rfl (by decide) rfl (fun p e s m args below meth c C hr => ?_)
  have hQ : ∀ x, Lfp (F_X8_seekLie p1 p2 p3 p4 K) x → (match x.1, x.2.1 with | 27, [v5, v6] => mG (XC z) p l e { frames := 6, cells := 0, slots := 0, locals := 162 } s m args below meth c 9 (mMQ (XC z) (mKi K) below args s) 27 [(5, (0, v5)), (6, (0, v6)), (0, (2, 125)), (1, (0, p1)), (2, (0, p2)), (3, (0, p3)), (4, (0, p4))] [] x.2.2 | 44, [v5, v6, v7] => mG (XC z) p l e { frames := 6, cells := 0, slots := 0, locals := 162 } s m args below meth c 9 (mMQ (XC z) (mKi K) below args s) 44 [(5, (0, v5)), (6, (0, v6)), (7, (0, v7)), (0, (2, 125)), (1, (0, p1)), (2, (0, p2)), (3, (0, p3)), (4, (0, p4))] [] x.2.2 | _, _ => True) := by
    intro x hx
    refine Lfp.ind (fun x => (match x.1, x.2.1 with | 27, [v5, v6] => mG (XC z) p l e { frames := 6, cells := 0, slots := 0, locals := 162 } s m args below meth c 9 (mMQ (XC z) (mKi K) below args s) 27 [(5, (0, v5)), (6, (0, v6)), (0, (2, 125)), (1, (0, p1)), (2, (0, p2)), (3, (0, p3)), (4, (0, p4))] [] x.2.2 | 44, [v5, v6, v7] => mG (XC z) p l e { frames := 6, cells := 0, slots := 0, locals := 162 } s m args below meth c 9 (mMQ (XC z) (mKi K) below args s) 44 [(5, (0, v5)), (6, (0, v6)), (7, (0, v7)), (0, (2, 125)), (1, (0, p1)), (2, (0, p2)), (3, (0, p3)), (4, (0, p4))] [] x.2.2 | _, _ => True)) ?_ hx
    clear hx x
    intro Z x hQ hw
    rcases hw with ⟨v5, v6, h, rfl, hw⟩ | ⟨v5, v6, v7, h, rfl, hw⟩
    · show mG (XC z) p l e { frames := 6, cells := 0, slots := 0, locals := 162 } s m args below meth c 9 (mMQ (XC z) (mKi K) below args s) 27 [(5, (0, v5)), (6, (0, v6)), (0, (2, 125)), (1, (0, p1)), (2, (0, p2)), (3, (0, p3)), (4, (0, p4))] [] h
      unfold B_X8_seekLie_27 at hw
      refine g_iload C dX8_seekLie_27 rfl ?_
      refine g_bipush C ⟨by decide, by decide⟩ (by decide) dX8_seekLie_29 ?_
      refine g_icmp_gt C 119 dX8_seekLie_31 rfl hw (fun hw => ?_) (fun hw => ?_)
      · refine g_bipush C ⟨by decide, by decide⟩ (by decide) dX8_seekLie_119 ?_
        exact g_iret C hr dX8_seekLie_121 ⟨_, rfl, hw⟩
      · refine g_iload C dX8_seekLie_34 rfl ?_
        refine g_iload C dX8_seekLie_36 rfl ?_
        refine g_icmp_ge C 119 dX8_seekLie_38 rfl hw (fun hw => ?_) (fun hw => ?_)
        · refine g_bipush C ⟨by decide, by decide⟩ (by decide) dX8_seekLie_119 ?_
          exact g_iret C hr dX8_seekLie_121 ⟨_, rfl, hw⟩
        · refine g_iconst C ⟨by decide, by decide⟩ dX8_seekLie_41 ?_
          refine g_istore C dX8_seekLie_42 (by decide) ?_
          exact g_sub [5, 6, 7, 0, 1, 2, 3, 4] rfl (hQ _ hw)
    · show mG (XC z) p l e { frames := 6, cells := 0, slots := 0, locals := 162 } s m args below meth c 9 (mMQ (XC z) (mKi K) below args s) 44 [(5, (0, v5)), (6, (0, v6)), (7, (0, v7)), (0, (2, 125)), (1, (0, p1)), (2, (0, p2)), (3, (0, p3)), (4, (0, p4))] [] h
      unfold B_X8_seekLie_44 at hw
      refine g_iload C dX8_seekLie_44 rfl ?_
      refine g_aload_n C dX8_seekLie_46 rfl (by decide) rfl ?_
      refine gw_X8_15 C dX8_seekLie_47 kdC_125 wwC_125_0 ?_
      refine gf_X8_31 C dX8_seekLie_50 kdC_53 (fun z50 => ?_)
      obtain ⟨q1, hw⟩ := hw
      refine g_callVi C [] (sim_X5_cells wirC q1 hw) k_1202 k_1031 k_1032 k_135 k_1033 hdV_X5_cells rfl rfl (by decide) rfl q1 rfl rfl rfl dX8_seekLie_53 ?_
      intro x1 h1 hw
      refine g_icmp_ge C 113 dX8_seekLie_56 rfl hw (fun hw => ?_) (fun hw => ?_)
      · refine g_iincN C dX8_seekLie_113 rfl (by decide) (fun x2 ex2 => ?_)
        replace hw := hw x2 ex2
        refine g_goto C 27 dX8_seekLie_116 rfl ?_
        exact g_sub [5, 6, 0, 1, 2, 3, 4] rfl (hQ _ hw)
      · refine g_aload_n C dX8_seekLie_59 rfl (by decide) rfl ?_
        refine g_iload C dX8_seekLie_60 rfl ?_
        refine g_iload C dX8_seekLie_62 rfl ?_
        refine g_iload C dX8_seekLie_64 rfl ?_
        refine g_callVi C [(0, v7), (0, v6), (0, v5)] (sim_X8_firstSeen hw) k_1203 k_1205 k_49 k_145 k_1206 hdV_X8_firstSeen rfl rfl (by decide) rfl kdC_125 rfl rfl rfl dX8_seekLie_66 ?_
        intro x3 h2 hw
        refine g_istore C dX8_seekLie_69 (by decide) ?_
        refine g_iload C dX8_seekLie_71 rfl ?_
        refine g_if_lt C 107 dX8_seekLie_73 rfl hw (fun hw => ?_) (fun hw => ?_)
        · refine g_iincN C dX8_seekLie_107 rfl (by decide) (fun x4 ex4 => ?_)
          replace hw := hw x4 ex4
          refine g_goto C 44 dX8_seekLie_110 rfl ?_
          exact g_sub [5, 6, 7, 0, 1, 2, 3, 4] rfl (hQ _ hw)
        · refine g_aload_n C dX8_seekLie_76 rfl (by decide) rfl ?_
          refine g_iload_n C dX8_seekLie_77 rfl rfl ?_
          refine g_iload C dX8_seekLie_78 rfl ?_
          refine g_iload C dX8_seekLie_80 rfl ?_
          refine g_iload C dX8_seekLie_82 rfl ?_
          refine g_iload_n C dX8_seekLie_84 rfl rfl ?_
          refine g_iload C dX8_seekLie_85 rfl ?_
          refine g_callVz C [(0, p3), (0, v7), (0, v6), (0, x3), (0, p2), (0, p4)] (sim_X8_isLie hw) k_1208 k_1210 k_50 k_145 k_1211 hdV_X8_isLie rfl rfl (by decide) rfl kdC_125 rfl rfl rfl dX8_seekLie_87 ?_
          intro x5 h3 zb87 hw
          refine g_if_eq C 107 dX8_seekLie_90 rfl hw (fun hw => ?_) (fun hw => ?_)
          · refine g_iincN C dX8_seekLie_107 rfl (by decide) (fun x6 ex6 => ?_)
            replace hw := hw x6 ex6
            refine g_goto C 44 dX8_seekLie_110 rfl ?_
            exact g_sub [5, 6, 7, 0, 1, 2, 3, 4] rfl (hQ _ hw)
          · refine g_aload_n C dX8_seekLie_93 rfl (by decide) rfl ?_
            refine g_iload C dX8_seekLie_94 rfl ?_
            refine gp_X8_61 C dX8_seekLie_96 kdC_125 (fun z => z) ?_
            refine g_heap (fun h4 eh4 => ?_)
            replace hw := hw h4 eh4
            refine g_aload_n C dX8_seekLie_99 rfl (by decide) rfl ?_
            refine g_iload C dX8_seekLie_100 rfl ?_
            refine gp_X8_64 C dX8_seekLie_102 kdC_125 (fun z => z) ?_
            refine g_heap (fun h5 eh5 => ?_)
            replace hw := hw h5 eh5
            refine g_iconst C ⟨by decide, by decide⟩ dX8_seekLie_105 ?_
            exact g_iret C hr dX8_seekLie_106 ⟨_, rfl, hw⟩
  show mG _ p l e _ s m args below meth c _ _ 0 [(0, (2, 125)), (1, (0, p1)), (2, (0, p2)), (3, (0, p3)), (4, (0, p4))] [] h
  unfold wp_X8_seekLie at hw
  refine g_aload_n C dX8_seekLie_0 rfl (by decide) rfl ?_
  refine g_iload_n C dX8_seekLie_1 rfl rfl ?_
  refine g_iload C dX8_seekLie_2 rfl ?_
  refine g_callVv C [(0, p1), (0, p4)] (sim_X8_follow hw) k_1164 k_1166 k_46 k_145 k_1167 hdV_X8_follow rfl rfl (by decide) rfl kdC_125 rfl rfl rfl dX8_seekLie_4 ?_
  intro h1 hw
  refine g_aload_n C dX8_seekLie_7 rfl (by decide) rfl ?_
  refine g_iload_n C dX8_seekLie_8 rfl rfl ?_
  refine g_iload C dX8_seekLie_9 rfl ?_
  refine g_callVi C [(0, p2), (0, p4)] (sim_X8_arrivalOnPath hw) k_1182 k_1184 k_48 k_145 k_1185 hdV_X8_arrivalOnPath rfl rfl (by decide) rfl kdC_125 rfl rfl rfl dX8_seekLie_11 ?_
  intro x1 h2 hw
  refine g_istore C dX8_seekLie_14 (by decide) ?_
  refine g_iload C dX8_seekLie_16 rfl ?_
  refine g_if_ge C 24 dX8_seekLie_18 rfl hw (fun hw => ?_) (fun hw => ?_)
  · refine g_iconst C ⟨by decide, by decide⟩ dX8_seekLie_24 ?_
    refine g_istore C dX8_seekLie_25 (by decide) ?_
    exact g_sub [5, 6, 0, 1, 2, 3, 4] rfl (hQ _ hw)
  · refine g_bipush C ⟨by decide, by decide⟩ (by decide) dX8_seekLie_21 ?_
    exact g_iret C hr dX8_seekLie_23 ⟨_, rfl, hw⟩
set_option maxRecDepth 20000 in
set_option maxHeartbeats 4000000 in
theorem sim_X13_lie {z : Mz} {l : Launch} {p1 : Int} {p2 : Int} {p3 : Int} {p4 : Int} {p5 : Int} {h : Mh} {K : Int → Mh → Prop} (hw : wp_X13_lie p1 p2 p3 p4 p5 h K) : mCal (XC z) l yX13_lie cX13_lie 9 (some Jvm.ClassFile.FieldType.int) 7 190 [(2, 0), (0, p1), (0, p2), (0, p3), (0, p4), (0, p5)] h (mKi K) := by
  refine m_entry RX13 rfl (by decide) rfl (fun p e s m args below meth c C hr => ?_)
  have hQ : ∀ x, Lfp (F_X13_lie p1 p2 p3 p4 p5 K) x → (match x.1, x.2.1 with | 46, [] => mG (XC z) p l e { frames := 7, cells := 0, slots := 0, locals := 190 } s m args below meth c 9 (mMQ (XC z) (mKi K) below args s) 46 [(0, (2, 0)), (1, (0, p1)), (2, (0, p2)), (3, (0, p3)), (4, (0, p4)), (5, (0, p5))] [] x.2.2 | 47, [s0] => mG (XC z) p l e { frames := 7, cells := 0, slots := 0, locals := 190 } s m args below meth c 9 (mMQ (XC z) (mKi K) below args s) 47 [(0, (2, 0)), (1, (0, p1)), (2, (0, p2)), (3, (0, p3)), (4, (0, p4)), (5, (0, p5))] [(0, s0)] x.2.2 | _, _ => True) := by
    intro x hx
    refine Lfp.ind (fun x => (match x.1, x.2.1 with | 46, [] => mG (XC z) p l e { frames := 7, cells := 0, slots := 0, locals := 190 } s m args below meth c 9 (mMQ (XC z) (mKi K) below args s) 46 [(0, (2, 0)), (1, (0, p1)), (2, (0, p2)), (3, (0, p3)), (4, (0, p4)), (5, (0, p5))] [] x.2.2 | 47, [s0] => mG (XC z) p l e { frames := 7, cells := 0, slots := 0, locals := 190 } s m args below meth c 9 (mMQ (XC z) (mKi K) below args s) 47 [(0, (2, 0)), (1, (0, p1)), (2, (0, p2)), (3, (0, p3)), (4, (0, p4)), (5, (0, p5))] [(0, s0)] x.2.2 | _, _ => True)) ?_ hx
    clear hx x
    intro Z x hQ hw
    rcases hw with ⟨h, rfl, hw⟩ | ⟨s0, h, rfl, hw⟩
    · show mG (XC z) p l e { frames := 7, cells := 0, slots := 0, locals := 190 } s m args below meth c 9 (mMQ (XC z) (mKi K) below args s) 46 [(0, (2, 0)), (1, (0, p1)), (2, (0, p2)), (3, (0, p3)), (4, (0, p4)), (5, (0, p5))] [] h
      unfold B_X13_lie_46 at hw
      refine g_iconst C ⟨by decide, by decide⟩ dX13_lie_46 ?_
      exact g_sub [0, 1, 2, 3, 4, 5] rfl (hQ _ hw)
    · show mG (XC z) p l e { frames := 7, cells := 0, slots := 0, locals := 190 } s m args below meth c 9 (mMQ (XC z) (mKi K) below args s) 47 [(0, (2, 0)), (1, (0, p1)), (2, (0, p2)), (3, (0, p3)), (4, (0, p4)), (5, (0, p5))] [(0, s0)] h
      unfold B_X13_lie_47 at hw
      refine g_istore C dX13_lie_47 (by decide) ?_
      refine g_iload C dX13_lie_49 rfl ?_
      refine g_if_eq C 75 dX13_lie_51 rfl hw (fun hw => ?_) (fun hw => ?_)
      · refine g_iconst C ⟨by decide, by decide⟩ dX13_lie_75 ?_
        exact g_iret C hr dX13_lie_76 ⟨_, rfl, hw⟩
      · refine g_iload C dX13_lie_54 rfl ?_
        refine g_bipush C ⟨by decide, by decide⟩ (by decide) dX13_lie_56 ?_
        refine g_callSz C [(0, p4), (0, 60)] (sim_X13_isStep hw) k_1064 k_1065 k_134 k_1066 hdS_X13_isStep rfl rfl rfl rfl rfl dX13_lie_58 ?_
        intro x1 h1 zb58 hw
        refine g_if_eq C 75 dX13_lie_61 rfl hw (fun hw => ?_) (fun hw => ?_)
        · refine g_iconst C ⟨by decide, by decide⟩ dX13_lie_75 ?_
          exact g_iret C hr dX13_lie_76 ⟨_, rfl, hw⟩
        · refine g_iload C dX13_lie_64 rfl ?_
          refine g_if_lt C 75 dX13_lie_66 rfl hw (fun hw => ?_) (fun hw => ?_)
          · refine g_iconst C ⟨by decide, by decide⟩ dX13_lie_75 ?_
            exact g_iret C hr dX13_lie_76 ⟨_, rfl, hw⟩
          · refine g_iload C dX13_lie_69 rfl ?_
            refine g_iconst C ⟨by decide, by decide⟩ dX13_lie_71 ?_
            refine g_icmp_le C 77 dX13_lie_72 rfl hw (fun hw => ?_) (fun hw => ?_)
            · refine g_aload_n C dX13_lie_77 rfl (by decide) rfl ?_
              refine gw_X13_52 C dX13_lie_78 kdC_0 wwC_0_6 ?_
              refine g_callVv C [] (sim_X6_freshenSums hw) k_1068 k_1069 k_1070 k_144 k_1071 hdV_X6_freshenSums rfl rfl (by decide) rfl kdC_115 rfl rfl rfl dX13_lie_81 ?_
              intro h2 hw
              refine g_aload_n C dX13_lie_84 rfl (by decide) rfl ?_
              refine gw_X13_61 C dX13_lie_85 kdC_0 wwC_0_7 ?_
              refine g_iload_n C dX13_lie_88 rfl rfl ?_
              refine g_iload_n C dX13_lie_89 rfl rfl ?_
              refine g_iload_n C dX13_lie_90 rfl rfl ?_
              refine g_iload C dX13_lie_91 rfl ?_
              refine g_callVi C [(0, p1), (0, p2), (0, p3), (0, p4)] (sim_X8_seekLie hw) k_1198 k_1199 k_1200 k_145 k_1201 hdV_X8_seekLie rfl rfl (by decide) rfl kdC_125 rfl rfl rfl dX13_lie_93 ?_
              intro x2 h3 hw
              refine g_istore C dX13_lie_96 (by decide) ?_
              refine g_iload C dX13_lie_98 rfl ?_
              refine g_if_ge C 106 dX13_lie_100 rfl hw (fun hw => ?_) (fun hw => ?_)
              · refine g_iload C dX13_lie_106 rfl ?_
                refine g_if_ne C 121 dX13_lie_108 rfl hw (fun hw => ?_) (fun hw => ?_)
                · refine g_aload_n C dX13_lie_121 rfl (by decide) rfl ?_
                  refine gw_X13_61 C dX13_lie_122 kdC_0 wwC_0_7 ?_
                  refine gf_X13_243 C dX13_lie_125 kdC_125 (fun z125 => ?_)
                  exact g_iret C hr dX13_lie_128 ⟨_, rfl, hw⟩
                · refine g_aload_n C dX13_lie_111 rfl (by decide) rfl ?_
                  refine gw_X13_61 C dX13_lie_112 kdC_0 wwC_0_7 ?_
                  refine gf_X13_240 C dX13_lie_115 kdC_125 (fun z115 => ?_)
                  refine g_goto C 128 dX13_lie_118 rfl ?_
                  exact g_iret C hr dX13_lie_128 ⟨_, rfl, hw⟩
              · refine g_iload C dX13_lie_103 rfl ?_
                exact g_iret C hr dX13_lie_105 ⟨_, rfl, hw⟩
            · refine g_iconst C ⟨by decide, by decide⟩ dX13_lie_75 ?_
              exact g_iret C hr dX13_lie_76 ⟨_, rfl, hw⟩
  show mG _ p l e _ s m args below meth c _ _ 0 [(0, (2, 0)), (1, (0, p1)), (2, (0, p2)), (3, (0, p3)), (4, (0, p4)), (5, (0, p5))] [] h
  unfold wp_X13_lie at hw
  refine g_aload_n C dX13_lie_0 rfl (by decide) rfl ?_
  refine gw_X13_36 C dX13_lie_1 kdC_0 wwC_0_4 ?_
  refine gf_X13_86 C dX13_lie_4 kdC_53 (fun z4 => ?_)
  refine g_astore C dX13_lie_7 (by decide) (by decide) ?_
  refine g_aload C dX13_lie_9 (by decide) rfl ?_
  obtain ⟨q1, hw⟩ := hw
  refine gw_X13_117 C dX13_lie_11 q1 (wir_4_12 wirC q1) ?_
  refine g_iload_n C dX13_lie_14 rfl rfl ?_
  refine g_callVz C [(0, p1)] (sim_X7_has wirC (kid_4_12 wirC q1) hw) k_1113 k_1114 k_1115 k_136 k_1116 hdV_X7_has rfl rfl (by decide) rfl (kid_4_12 wirC q1) rfl rfl rfl dX13_lie_15 ?_
  intro x1 h1 zb15 hw
  refine g_if_eq C 46 dX13_lie_18 rfl hw (fun hw => ?_) (fun hw => ?_)
  · exact g_sub [0, 1, 2, 3, 4, 5] rfl (hQ _ hw)
  · refine g_aload C dX13_lie_21 (by decide) rfl ?_
    refine g_iload_n C dX13_lie_23 rfl rfl ?_
    refine g_callVz C [(0, p2)] (sim_X5_isCell wirC q1 hw) k_989 k_990 k_991 k_135 k_992 hdV_X5_isCell rfl rfl (by decide) rfl q1 rfl rfl rfl dX13_lie_24 ?_
    intro x2 h2 zb24 hw
    refine g_if_eq C 46 dX13_lie_27 rfl hw (fun hw => ?_) (fun hw => ?_)
    · exact g_sub [0, 1, 2, 3, 4, 5] rfl (hQ _ hw)
    · refine g_aload C dX13_lie_30 (by decide) rfl ?_
      refine gw_X13_104 C dX13_lie_32 q1 (wir_4_7 wirC q1) ?_
      refine g_iload_n C dX13_lie_35 rfl rfl ?_
      refine g_callVz C [(0, p3)] (sim_X7_has wirC (kid_4_7 wirC q1) hw) k_1113 k_1114 k_1115 k_136 k_1116 hdV_X7_has rfl rfl (by decide) rfl (kid_4_7 wirC q1) rfl rfl rfl dX13_lie_36 ?_
      intro x3 h3 zb36 hw
      refine g_if_eq C 46 dX13_lie_39 rfl hw (fun hw => ?_) (fun hw => ?_)
      · exact g_sub [0, 1, 2, 3, 4, 5] rfl (hQ _ hw)
      · refine g_iconst C ⟨by decide, by decide⟩ dX13_lie_42 ?_
        refine g_goto C 47 dX13_lie_43 rfl ?_
        exact g_sub [0, 1, 2, 3, 4, 5] rfl (hQ _ hw)
set_option maxRecDepth 20000 in
set_option maxHeartbeats 4000000 in
theorem sim_X2_isTale {z : Mz} {l : Launch} {p1 : Int} {p2 : Int} {p3 : Int} {p4 : Int} {h : Mh} {K : Int → Mh → Prop} (hw : wp_X2_isTale p1 p2 p3 p4 h K) : mCal (XC z) l yX2_isTale cX2_isTale 9 (some Jvm.ClassFile.FieldType.boolean) 3 78 [(2, 127), (0, p1), (0, p2), (0, p3), (2, p4)] h (mKz K) := by
  refine m_entry RX2 rfl (by decide) rfl (fun p e s m args below meth c C hr => ?_)
  have hQ : ∀ x, Lfp (F_X2_isTale p1 p2 p3 p4 K) x → (match x.1, x.2.1 with | 3, [v5] => mG (XC z) p l e { frames := 3, cells := 0, slots := 0, locals := 78 } s m args below meth c 9 (mMQ (XC z) (mKz K) below args s) 3 [(5, (0, v5)), (0, (2, 127)), (1, (0, p1)), (2, (0, p2)), (3, (0, p3)), (4, (2, p4))] [] x.2.2 | _, _ => True) := by
    intro x hx
    refine Lfp.ind (fun x => (match x.1, x.2.1 with | 3, [v5] => mG (XC z) p l e { frames := 3, cells := 0, slots := 0, locals := 78 } s m args below meth c 9 (mMQ (XC z) (mKz K) below args s) 3 [(5, (0, v5)), (0, (2, 127)), (1, (0, p1)), (2, (0, p2)), (3, (0, p3)), (4, (2, p4))] [] x.2.2 | _, _ => True)) ?_ hx
    clear hx x
    intro Z x hQ hw
    rcases hw with ⟨v5, h, rfl, hw⟩
    · show mG (XC z) p l e { frames := 3, cells := 0, slots := 0, locals := 78 } s m args below meth c 9 (mMQ (XC z) (mKz K) below args s) 3 [(5, (0, v5)), (0, (2, 127)), (1, (0, p1)), (2, (0, p2)), (3, (0, p3)), (4, (2, p4))] [] h
      unfold B_X2_isTale_3 at hw
      refine g_iload C dX2_isTale_3 rfl ?_
      refine g_aload C dX2_isTale_5 (by decide) rfl ?_
      obtain ⟨q1, hw⟩ := hw
      refine gf_X2_66 C dX2_isTale_7 q1 (fun z7 => ?_)
      refine g_icmp_ge C 110 dX2_isTale_10 rfl hw (fun hw => ?_) (fun hw => ?_)
      · refine g_iconst C ⟨by decide, by decide⟩ dX2_isTale_110 ?_
        exact g_zret C hr (Or.inr rfl) dX2_isTale_111 ⟨_, rfl, (Or.inr rfl), hw⟩
      · refine g_aload C dX2_isTale_13 (by decide) rfl ?_
        refine g_iload C dX2_isTale_15 rfl ?_
        refine g_callVi C [(0, v5)] (sim_X7_orZero wirC q1 hw) k_1306 k_1080 k_1081 k_136 k_1082 hdV_X7_orZero rfl rfl (by decide) rfl q1 rfl rfl rfl dX2_isTale_17 ?_
        intro x1 h1 hw
        refine g_bipush C ⟨by decide, by decide⟩ (by decide) dX2_isTale_20 ?_
        refine g_mmin C k_1307 k_727 k_137 k_728 rfl rfl rfl dX2_isTale_22 ?_
        refine g_topi (fun x2 ex2 => ?_)
        replace hw := hw x2 ex2
        refine g_istore C dX2_isTale_25 (by decide) ?_
        refine g_aload_n C dX2_isTale_27 rfl (by decide) rfl ?_
        refine gw_X2_33 C dX2_isTale_28 kdC_127 wwC_127_0 ?_
        refine gf_X2_54 C dX2_isTale_31 kdC_53 (fun z31 => ?_)
        obtain ⟨q2, hw⟩ := hw
        refine gw_X2_109 C dX2_isTale_34 q2 (wir_4_11 wirC q2) ?_
        refine g_aload_n C dX2_isTale_37 rfl (by decide) rfl ?_
        refine gw_X2_41 C dX2_isTale_38 kdC_127 wwC_127_2 ?_
        refine gw_X2_112 C dX2_isTale_41 kdC_107 wwC_107_0 ?_
        refine g_iload C dX2_isTale_44 rfl ?_
        obtain ⟨⟨b1, b1b⟩, hw⟩ := hw
        refine g_iaload C dX2_isTale_46 kdC_108 b1 b1b (fun z46 => ?_)
        refine g_callVi C [(0, (h1 108 x2))] (sim_X7_orZero wirC (kid_4_11 wirC q2) hw) k_1306 k_1080 k_1081 k_136 k_1082 hdV_X7_orZero rfl rfl (by decide) rfl (kid_4_11 wirC q2) rfl rfl rfl dX2_isTale_47 ?_
        intro x3 h2 hw
        refine g_istore C dX2_isTale_50 (by decide) ?_
        refine g_aload_n C dX2_isTale_52 rfl (by decide) rfl ?_
        refine gw_X2_41 C dX2_isTale_53 kdC_127 wwC_127_2 ?_
        refine gw_X2_115 C dX2_isTale_56 kdC_107 wwC_107_1 ?_
        refine g_iload C dX2_isTale_59 rfl ?_
        obtain ⟨⟨b2, b2b⟩, hw⟩ := hw
        refine g_iaload C dX2_isTale_61 kdC_109 b2 b2b (fun z61 => ?_)
        refine g_iload_n C dX2_isTale_62 rfl rfl ?_
        refine g_isub C dX2_isTale_63 ?_
        refine g_topi (fun x4 ex4 => ?_)
        replace hw := hw x4 ex4
        refine g_istore C dX2_isTale_64 (by decide) ?_
        refine g_aload_n C dX2_isTale_66 rfl (by decide) rfl ?_
        refine gw_X2_37 C dX2_isTale_67 kdC_127 wwC_127_1 ?_
        refine g_iload_n C dX2_isTale_70 rfl rfl ?_
        refine g_iload_n C dX2_isTale_71 rfl rfl ?_
        refine g_iload C dX2_isTale_72 rfl ?_
        refine g_iload C dX2_isTale_74 rfl ?_
        refine g_aload_n C dX2_isTale_76 rfl (by decide) rfl ?_
        refine gw_X2_33 C dX2_isTale_77 kdC_127 wwC_127_0 ?_
        refine gf_X2_54 C dX2_isTale_80 kdC_53 (fun z80 => ?_)
        obtain ⟨q3, hw⟩ := hw
        refine gw_X2_118 C dX2_isTale_83 q3 (wir_4_4 wirC q3) ?_
        refine g_callVi C [(0, p1), (0, p2), (0, x3), (0, x4), (2, ((h2 53 0) + 1))] (sim_X6_alone hw) k_1308 k_1309 k_1310 k_144 k_1311 hdV_X6_alone rfl rfl (by decide) rfl kdC_115 rfl rfl rfl dX2_isTale_86 ?_
        intro x5 h3 hw
        refine g_aload_n C dX2_isTale_89 rfl (by decide) rfl ?_
        refine gw_X2_41 C dX2_isTale_90 kdC_127 wwC_127_2 ?_
        refine gw_X2_127 C dX2_isTale_93 kdC_107 wwC_107_2 ?_
        refine g_iload C dX2_isTale_96 rfl ?_
        obtain ⟨⟨b3, b3b⟩, hw⟩ := hw
        refine g_iaload C dX2_isTale_98 kdC_110 b3 b3b (fun z98 => ?_)
        refine g_icmp_eq C 104 dX2_isTale_99 rfl hw (fun hw => ?_) (fun hw => ?_)
        · refine g_iincN C dX2_isTale_104 rfl (by decide) (fun x6 ex6 => ?_)
          replace hw := hw x6 ex6
          refine g_goto C 3 dX2_isTale_107 rfl ?_
          exact g_sub [5, 0, 1, 2, 3, 4] rfl (hQ _ hw)
        · refine g_iconst C ⟨by decide, by decide⟩ dX2_isTale_102 ?_
          exact g_zret C hr (Or.inl rfl) dX2_isTale_103 ⟨_, rfl, (Or.inl rfl), hw⟩
  show mG _ p l e _ s m args below meth c _ _ 0 [(0, (2, 127)), (1, (0, p1)), (2, (0, p2)), (3, (0, p3)), (4, (2, p4))] [] h
  unfold wp_X2_isTale at hw
  refine g_iconst C ⟨by decide, by decide⟩ dX2_isTale_0 ?_
  refine g_istore C dX2_isTale_1 (by decide) ?_
  exact g_sub [5, 0, 1, 2, 3, 4] rfl (hQ _ hw)
