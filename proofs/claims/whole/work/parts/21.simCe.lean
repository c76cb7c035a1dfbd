set_option maxRecDepth 20000 in
set_option maxHeartbeats 4000000 in
theorem sim_X13_looks {z : Mz} {l : Launch} {p1 : Int} {p2 : Int} {p3 : Int} {p4 : Int} {h : Mh} {K : Int → Mh → Prop} (hw : wp_X13_looks p1 p2 p3 p4 h K) : mCal (XC z) l yX13_looks cX13_looks 7 (some Jvm.ClassFile.FieldType.int) 5 132 [(2, 0), (0, p1), (0, p2), (0, p3), (0, p4)] h (mKi K) := by
  refine m_entry RX13 rfl (by decide) rfl (fun p e s m args below meth c C hr => ?_)
  have hQ : ∀ x, Lfp (F_X13_looks p1 p2 p3 p4 K) x → (match x.1, x.2.1 with | 46, [] => mG (XC z) p l e { frames := 5, cells := 0, slots := 0, locals := 132 } s m args below meth c 7 (mMQ (XC z) (mKi K) below args s) 46 [(0, (2, 0)), (1, (0, p1)), (2, (0, p2)), (3, (0, p3)), (4, (0, p4))] [] x.2.2 | 47, [s0] => mG (XC z) p l e { frames := 5, cells := 0, slots := 0, locals := 132 } s m args below meth c 7 (mMQ (XC z) (mKi K) below args s) 47 [(0, (2, 0)), (1, (0, p1)), (2, (0, p2)), (3, (0, p3)), (4, (0, p4))] [(0, s0)] x.2.2 | _, _ => True) := by
    intro x hx
    refine Lfp.ind (fun x => (match x.1, x.2.1 with | 46, [] => mG (XC z) p l e { frames := 5, cells := 0, slots := 0, locals := 132 } s m args below meth c 7 (mMQ (XC z) (mKi K) below args s) 46 [(0, (2, 0)), (1, (0, p1)), (2, (0, p2)), (3, (0, p3)), (4, (0, p4))] [] x.2.2 | 47, [s0] => mG (XC z) p l e { frames := 5, cells := 0, slots := 0, locals := 132 } s m args below meth c 7 (mMQ (XC z) (mKi K) below args s) 47 [(0, (2, 0)), (1, (0, p1)), (2, (0, p2)), (3, (0, p3)), (4, (0, p4))] [(0, s0)] x.2.2 | _, _ => True)) ?_ hx
    clear hx x
    intro Z x hQ hw
    rcases hw with ⟨h, rfl, hw⟩ | ⟨s0, h, rfl, hw⟩
    · show mG (XC z) p l e { frames := 5, cells := 0, slots := 0, locals := 132 } s m args below meth c 7 (mMQ (XC z) (mKi K) below args s) 46 [(0, (2, 0)), (1, (0, p1)), (2, (0, p2)), (3, (0, p3)), (4, (0, p4))] [] h
      unfold B_X13_looks_46 at hw
      refine g_iconst C ⟨by decide, by decide⟩ dX13_looks_46 ?_
      exact g_sub [0, 1, 2, 3, 4] rfl (hQ _ hw)
    · show mG (XC z) p l e { frames := 5, cells := 0, slots := 0, locals := 132 } s m args below meth c 7 (mMQ (XC z) (mKi K) below args s) 47 [(0, (2, 0)), (1, (0, p1)), (2, (0, p2)), (3, (0, p3)), (4, (0, p4))] [(0, s0)] h
      unfold B_X13_looks_47 at hw
      refine g_istore C dX13_looks_47 (by decide) ?_
      refine g_iload C dX13_looks_49 rfl ?_
      refine g_if_eq C 65 dX13_looks_51 rfl hw (fun hw => ?_) (fun hw => ?_)
      · refine g_iconst C ⟨by decide, by decide⟩ dX13_looks_65 ?_
        exact g_iret C hr dX13_looks_66 ⟨_, rfl, hw⟩
      · refine g_iload C dX13_looks_54 rfl ?_
        refine g_if_lt C 65 dX13_looks_56 rfl hw (fun hw => ?_) (fun hw => ?_)
        · refine g_iconst C ⟨by decide, by decide⟩ dX13_looks_65 ?_
          exact g_iret C hr dX13_looks_66 ⟨_, rfl, hw⟩
        · refine g_iload C dX13_looks_59 rfl ?_
          refine g_iconst C ⟨by decide, by decide⟩ dX13_looks_61 ?_
          refine g_icmp_le C 67 dX13_looks_62 rfl hw (fun hw => ?_) (fun hw => ?_)
          · refine g_aload_n C dX13_looks_67 rfl (by decide) rfl ?_
            refine gw_X13_52 C dX13_looks_68 kdC_0 wwC_0_6 ?_
            refine g_callVv C [] (sim_X6_freshenWays hw) k_1009 k_1010 k_1011 k_144 k_1012 hdV_X6_freshenWays rfl rfl (by decide) rfl kdC_115 rfl rfl rfl dX13_looks_71 ?_
            intro h1 hw
            refine g_aload_n C dX13_looks_74 rfl (by decide) rfl ?_
            refine gw_X13_70 C dX13_looks_75 kdC_0 wwC_0_8 ?_
            refine g_iload_n C dX13_looks_78 rfl rfl ?_
            refine g_iload_n C dX13_looks_79 rfl rfl ?_
            refine g_iload_n C dX13_looks_80 rfl rfl ?_
            refine g_callVv C [(0, p1), (0, p2), (0, p3)] (sim_X2_seekNearest hw) k_1376 k_1377 k_1378 k_146 k_1379 hdV_X2_seekNearest rfl rfl (by decide) rfl kdC_123 rfl rfl rfl dX13_looks_81 ?_
            intro h2 hw
            refine g_iload C dX13_looks_84 rfl ?_
            refine g_if_ne C 99 dX13_looks_86 rfl hw (fun hw => ?_) (fun hw => ?_)
            · refine g_aload_n C dX13_looks_99 rfl (by decide) rfl ?_
              refine gw_X13_70 C dX13_looks_100 kdC_0 wwC_0_8 ?_
              refine gf_X13_292 C dX13_looks_103 kdC_123 (fun z103 => ?_)
              exact g_iret C hr dX13_looks_106 ⟨_, rfl, hw⟩
            · refine g_aload_n C dX13_looks_89 rfl (by decide) rfl ?_
              refine gw_X13_70 C dX13_looks_90 kdC_0 wwC_0_8 ?_
              refine gf_X13_289 C dX13_looks_93 kdC_123 (fun z93 => ?_)
              refine g_goto C 106 dX13_looks_96 rfl ?_
              exact g_iret C hr dX13_looks_106 ⟨_, rfl, hw⟩
          · refine g_iconst C ⟨by decide, by decide⟩ dX13_looks_65 ?_
            exact g_iret C hr dX13_looks_66 ⟨_, rfl, hw⟩
  show mG _ p l e _ s m args below meth c _ _ 0 [(0, (2, 0)), (1, (0, p1)), (2, (0, p2)), (3, (0, p3)), (4, (0, p4))] [] h
  unfold wp_X13_looks at hw
  replace hw := id hw
  refine g_aload_n C dX13_looks_0 rfl (by decide) rfl ?_
  refine gw_X13_36 C dX13_looks_1 kdC_0 wwC_0_4 ?_
  refine gf_X13_86 C dX13_looks_4 kdC_53 (fun z4 => ?_)
  refine g_astore C dX13_looks_7 (by decide) (by decide) ?_
  refine g_aload C dX13_looks_9 (by decide) rfl ?_
  obtain ⟨q1, hw⟩ := hw
  refine gw_X13_104 C dX13_looks_11 q1 (wir_4_7 wirC q1) ?_
  refine g_iload_n C dX13_looks_14 rfl rfl ?_
  refine g_callVz C [(0, p1)] (sim_X7_has wirC (kid_4_7 wirC q1) hw) k_1107 k_1108 k_1109 k_136 k_1110 hdV_X7_has rfl rfl (by decide) rfl (kid_4_7 wirC q1) rfl rfl rfl dX13_looks_15 ?_
  intro x1 h1 zb15 hw
  refine g_if_eq C 46 dX13_looks_18 rfl hw (fun hw => ?_) (fun hw => ?_)
  · exact g_sub [0, 1, 2, 3, 4] rfl (hQ _ hw)
  · refine g_aload C dX13_looks_21 (by decide) rfl ?_
    refine gw_X13_104 C dX13_looks_23 q1 (wir_4_7 wirC q1) ?_
    refine g_iload_n C dX13_looks_26 rfl rfl ?_
    refine g_callVz C [(0, p2)] (sim_X7_has wirC (kid_4_7 wirC q1) hw) k_1107 k_1108 k_1109 k_136 k_1110 hdV_X7_has rfl rfl (by decide) rfl (kid_4_7 wirC q1) rfl rfl rfl dX13_looks_27 ?_
    intro x2 h2 zb27 hw
    refine g_if_eq C 46 dX13_looks_30 rfl hw (fun hw => ?_) (fun hw => ?_)
    · exact g_sub [0, 1, 2, 3, 4] rfl (hQ _ hw)
    · refine g_aload C dX13_looks_33 (by decide) rfl ?_
      refine g_iload_n C dX13_looks_35 rfl rfl ?_
      refine g_callVz C [(0, p3)] (sim_X5_isWet wirC q1 hw) k_985 k_986 k_987 k_135 k_988 hdV_X5_isWet rfl rfl (by decide) rfl q1 rfl rfl rfl dX13_looks_36 ?_
      intro x3 h3 zb36 hw
      refine g_if_eq C 46 dX13_looks_39 rfl hw (fun hw => ?_) (fun hw => ?_)
      · exact g_sub [0, 1, 2, 3, 4] rfl (hQ _ hw)
      · refine g_iconst C ⟨by decide, by decide⟩ dX13_looks_42 ?_
        refine g_goto C 47 dX13_looks_43 rfl ?_
        exact g_sub [0, 1, 2, 3, 4] rfl (hQ _ hw)
set_option maxRecDepth 20000 in
set_option maxHeartbeats 4000000 in
theorem sim_X6_peakStep {z : Mz} {l : Launch} {p1 : Int} {p2 : Int} {h : Mh} {K : Int → Mh → Prop} (hw : wp_X6_peakStep p1 p2 h K) : mCal (XC z) l yX6_peakStep cX6_peakStep 5 (some Jvm.ClassFile.FieldType.int) 1 23 [(2, 115), (0, p1), (0, p2)] h (mKi K) := by
  refine m_entry RX6 rfl (by decide) rfl (fun p e s m args below meth c C hr => ?_)
  have hQ : ∀ x, Lfp (F_X6_peakStep p1 p2 K) x → (match x.1, x.2.1 with | 5, [v3, v4] => mG (XC z) p l e { frames := 1, cells := 0, slots := 0, locals := 23 } s m args below meth c 5 (mMQ (XC z) (mKi K) below args s) 5 [(3, (0, v3)), (4, (0, v4)), (0, (2, 115)), (1, (0, p1)), (2, (0, p2))] [] x.2.2 | _, _ => True) := by
    intro x hx
    refine Lfp.ind (fun x => (match x.1, x.2.1 with | 5, [v3, v4] => mG (XC z) p l e { frames := 1, cells := 0, slots := 0, locals := 23 } s m args below meth c 5 (mMQ (XC z) (mKi K) below args s) 5 [(3, (0, v3)), (4, (0, v4)), (0, (2, 115)), (1, (0, p1)), (2, (0, p2))] [] x.2.2 | _, _ => True)) ?_ hx
    clear hx x
    intro Z x hQ hw
    rcases hw with ⟨v3, v4, h, rfl, hw⟩
    · show mG (XC z) p l e { frames := 1, cells := 0, slots := 0, locals := 23 } s m args below meth c 5 (mMQ (XC z) (mKi K) below args s) 5 [(3, (0, v3)), (4, (0, v4)), (0, (2, 115)), (1, (0, p1)), (2, (0, p2))] [] h
      unfold B_X6_peakStep_5 at hw
      refine g_iload C dX6_peakStep_5 rfl ?_
      refine g_sipush C ⟨by decide, by decide⟩ (by decide) dX6_peakStep_7 ?_
      refine g_icmp_ge C 42 dX6_peakStep_10 rfl hw (fun hw => ?_) (fun hw => ?_)
      · refine g_iload_n C dX6_peakStep_42 rfl rfl ?_
        exact g_iret C hr dX6_peakStep_43 ⟨_, rfl, hw⟩
      · refine g_iload_n C dX6_peakStep_13 rfl rfl ?_
        refine g_aload_n C dX6_peakStep_14 rfl (by decide) rfl ?_
        refine g_iload_n C dX6_peakStep_15 rfl rfl ?_
        refine g_iload C dX6_peakStep_16 rfl ?_
        refine g_callVi C [(0, p1), (0, v4)] (sim_X6_sumAt hw) k_1121 k_1100 k_1101 k_144 k_1102 hdV_X6_sumAt rfl rfl (by decide) rfl kdC_115 rfl rfl rfl dX6_peakStep_18 ?_
        intro x1 h1 hw
        refine g_imul C dX6_peakStep_21 ?_
        refine g_iload_n C dX6_peakStep_22 rfl rfl ?_
        refine g_aload_n C dX6_peakStep_23 rfl (by decide) rfl ?_
        refine g_iload_n C dX6_peakStep_24 rfl rfl ?_
        refine g_iload_n C dX6_peakStep_25 rfl rfl ?_
        refine g_callVi C [(0, p1), (0, v3)] (sim_X6_sumAt hw) k_1121 k_1100 k_1101 k_144 k_1102 hdV_X6_sumAt rfl rfl (by decide) rfl kdC_115 rfl rfl rfl dX6_peakStep_26 ?_
        intro x2 h2 hw
        refine g_imul C dX6_peakStep_29 ?_
        refine g_icmp_le C 36 dX6_peakStep_30 rfl hw (fun hw => ?_) (fun hw => ?_)
        · refine g_iincN C dX6_peakStep_36 rfl (by decide) (fun x3 ex3 => ?_)
          replace hw := hw x3 ex3
          refine g_goto C 5 dX6_peakStep_39 rfl ?_
          exact g_sub [3, 4, 0, 1, 2] rfl (hQ _ hw)
        · refine g_iload C dX6_peakStep_33 rfl ?_
          refine g_istore_n C dX6_peakStep_35 rfl (by decide) ?_
          refine g_iincN C dX6_peakStep_36 rfl (by decide) (fun x4 ex4 => ?_)
          replace hw := hw x4 ex4
          refine g_goto C 5 dX6_peakStep_39 rfl ?_
          exact g_sub [3, 4, 0, 1, 2] rfl (hQ _ hw)
  show mG _ p l e _ s m args below meth c _ _ 0 [(0, (2, 115)), (1, (0, p1)), (2, (0, p2))] [] h
  unfold wp_X6_peakStep at hw
  replace hw := id hw
  refine g_iconst C ⟨by decide, by decide⟩ dX6_peakStep_0 ?_
  refine g_istore_n C dX6_peakStep_1 rfl (by decide) ?_
  refine g_iconst C ⟨by decide, by decide⟩ dX6_peakStep_2 ?_
  refine g_istore C dX6_peakStep_3 (by decide) ?_
  exact g_sub [3, 4, 0, 1, 2] rfl (hQ _ hw)
set_option maxRecDepth 20000 in
set_option maxHeartbeats 4000000 in
theorem sim_X13_most {z : Mz} {l : Launch} {p1 : Int} {p2 : Int} {h : Mh} {K : Int → Mh → Prop} (hw : wp_X13_most p1 p2 h K) : mCal (XC z) l yX13_most cX13_most 5 (some Jvm.ClassFile.FieldType.int) 5 126 [(2, 0), (0, p1), (0, p2)] h (mKi K) := by
  refine m_entry RX13 rfl (by decide) rfl (fun p e s m args below meth c C hr => ?_)
  have hQ : ∀ x, Lfp (F_X13_most p1 p2 K) x → (match x.1, x.2.1 with | 43, [s0] => mG (XC z) p l e { frames := 5, cells := 0, slots := 0, locals := 126 } s m args below meth c 5 (mMQ (XC z) (mKi K) below args s) 43 [(0, (2, 0)), (1, (0, p1)), (2, (0, p2))] [(0, s0)] x.2.2 | _, _ => True) := by
    intro x hx
    refine Lfp.ind (fun x => (match x.1, x.2.1 with | 43, [s0] => mG (XC z) p l e { frames := 5, cells := 0, slots := 0, locals := 126 } s m args below meth c 5 (mMQ (XC z) (mKi K) below args s) 43 [(0, (2, 0)), (1, (0, p1)), (2, (0, p2))] [(0, s0)] x.2.2 | _, _ => True)) ?_ hx
    clear hx x
    intro Z x hQ hw
    rcases hw with ⟨s0, h, rfl, hw⟩
    · show mG (XC z) p l e { frames := 5, cells := 0, slots := 0, locals := 126 } s m args below meth c 5 (mMQ (XC z) (mKi K) below args s) 43 [(0, (2, 0)), (1, (0, p1)), (2, (0, p2))] [(0, s0)] h
      unfold B_X13_most_43 at hw
      refine g_istore_n C dX13_most_43 rfl (by decide) ?_
      refine g_aload_n C dX13_most_44 rfl (by decide) rfl ?_
      refine gw_X13_52 C dX13_most_45 kdC_0 wwC_0_6 ?_
      refine g_iload_n C dX13_most_48 rfl rfl ?_
      refine g_iload_n C dX13_most_49 rfl rfl ?_
      refine g_callVi C [(0, p1), (0, s0)] (sim_X6_peakStep hw) k_1117 k_1118 k_1119 k_144 k_1120 hdV_X6_peakStep rfl rfl (by decide) rfl kdC_115 rfl rfl rfl dX13_most_50 ?_
      intro x1 h1 hw
      refine g_istore C dX13_most_53 (by decide) ?_
      refine g_iload_n C dX13_most_55 rfl rfl ?_
      refine g_if_eq C 64 dX13_most_56 rfl hw (fun hw => ?_) (fun hw => ?_)
      · refine g_aload_n C dX13_most_64 rfl (by decide) rfl ?_
        refine gw_X13_52 C dX13_most_65 kdC_0 wwC_0_6 ?_
        refine g_iload_n C dX13_most_68 rfl rfl ?_
        refine g_iload C dX13_most_69 rfl ?_
        refine g_callVi C [(0, p1), (0, x1)] (sim_X6_sumAt hw) k_1099 k_1100 k_1101 k_144 k_1102 hdV_X6_sumAt rfl rfl (by decide) rfl kdC_115 rfl rfl rfl dX13_most_71 ?_
        intro x2 h2 hw
        refine g_goto C 79 dX13_most_74 rfl ?_
        exact g_iret C hr dX13_most_79 ⟨_, rfl, hw⟩
      · refine g_iload_n C dX13_most_59 rfl rfl ?_
        refine g_iconst C ⟨by decide, by decide⟩ dX13_most_60 ?_
        refine g_icmp_ne C 77 dX13_most_61 rfl hw (fun hw => ?_) (fun hw => ?_)
        · refine g_iload C dX13_most_77 rfl ?_
          exact g_iret C hr dX13_most_79 ⟨_, rfl, hw⟩
        · refine g_aload_n C dX13_most_64 rfl (by decide) rfl ?_
          refine gw_X13_52 C dX13_most_65 kdC_0 wwC_0_6 ?_
          refine g_iload_n C dX13_most_68 rfl rfl ?_
          refine g_iload C dX13_most_69 rfl ?_
          refine g_callVi C [(0, p1), (0, x1)] (sim_X6_sumAt hw) k_1099 k_1100 k_1101 k_144 k_1102 hdV_X6_sumAt rfl rfl (by decide) rfl kdC_115 rfl rfl rfl dX13_most_71 ?_
          intro x3 h3 hw
          refine g_goto C 79 dX13_most_74 rfl ?_
          exact g_iret C hr dX13_most_79 ⟨_, rfl, hw⟩
  show mG _ p l e _ s m args below meth c _ _ 0 [(0, (2, 0)), (1, (0, p1)), (2, (0, p2))] [] h
  unfold wp_X13_most at hw
  replace hw := id hw
  refine g_aload_n C dX13_most_0 rfl (by decide) rfl ?_
  refine gw_X13_36 C dX13_most_1 kdC_0 wwC_0_4 ?_
  refine gf_X13_86 C dX13_most_4 kdC_53 (fun z4 => ?_)
  refine g_iload_n C dX13_most_7 rfl rfl ?_
  obtain ⟨q1, hw⟩ := hw
  refine g_callVz C [(0, p1)] (sim_X5_isWet wirC q1 hw) k_985 k_986 k_987 k_135 k_988 hdV_X5_isWet rfl rfl (by decide) rfl q1 rfl rfl rfl dX13_most_8 ?_
  intro x1 h1 zb8 hw
  refine g_if_eq C 23 dX13_most_11 rfl hw (fun hw => ?_) (fun hw => ?_)
  · refine g_ldc C ⟨by decide, by decide⟩ k_1055 dX13_most_23 ?_
    exact g_iret C hr dX13_most_25 ⟨_, rfl, hw⟩
  · refine g_iload_n C dX13_most_14 rfl rfl ?_
    refine g_if_lt C 23 dX13_most_15 rfl hw (fun hw => ?_) (fun hw => ?_)
    · refine g_ldc C ⟨by decide, by decide⟩ k_1055 dX13_most_23 ?_
      exact g_iret C hr dX13_most_25 ⟨_, rfl, hw⟩
    · refine g_iload_n C dX13_most_18 rfl rfl ?_
      refine g_iconst C ⟨by decide, by decide⟩ dX13_most_19 ?_
      refine g_icmp_le C 26 dX13_most_20 rfl hw (fun hw => ?_) (fun hw => ?_)
      · refine g_aload_n C dX13_most_26 rfl (by decide) rfl ?_
        refine gw_X13_52 C dX13_most_27 kdC_0 wwC_0_6 ?_
        refine g_callVv C [] (sim_X6_freshenSums hw) k_1056 k_1057 k_1058 k_144 k_1059 hdV_X6_freshenSums rfl rfl (by decide) rfl kdC_115 rfl rfl rfl dX13_most_30 ?_
        intro h2 hw
        refine g_iload_n C dX13_most_33 rfl rfl ?_
        refine g_iconst C ⟨by decide, by decide⟩ dX13_most_34 ?_
        refine g_icmp_ge C 42 dX13_most_35 rfl hw (fun hw => ?_) (fun hw => ?_)
        · refine g_iconst C ⟨by decide, by decide⟩ dX13_most_42 ?_
          exact g_sub [0, 1, 2] rfl (hQ _ hw)
        · refine g_iconst C ⟨by decide, by decide⟩ dX13_most_38 ?_
          refine g_goto C 43 dX13_most_39 rfl ?_
          exact g_sub [0, 1, 2] rfl (hQ _ hw)
      · refine g_ldc C ⟨by decide, by decide⟩ k_1055 dX13_most_23 ?_
        exact g_iret C hr dX13_most_25 ⟨_, rfl, hw⟩
set_option maxRecDepth 20000 in
set_option maxHeartbeats 4000000 in
theorem sim_X13_named {z : Mz} {l : Launch} {p1 : Int} {p2 : Int} {h : Mh} {K : Int → Mh → Prop} (hw : wp_X13_named p1 p2 h K) : mCal (XC z) l yX13_named cX13_named 4 (some Jvm.ClassFile.FieldType.int) 1 22 [(2, 0), (0, p1), (0, p2)] h (mKi K) := by
  refine m_entry RX13 rfl (by decide) rfl (fun p e s m args below meth c C hr => ?_)
  show mG _ p l e _ s m args below meth c _ _ 0 [(0, (2, 0)), (1, (0, p1)), (2, (0, p2))] [] h
  unfold wp_X13_named at hw
  refine g_aload_n C dX13_named_0 rfl (by decide) rfl ?_
  refine gw_X13_36 C dX13_named_1 kdC_0 wwC_0_4 ?_
  refine gf_X13_86 C dX13_named_4 kdC_53 (fun z4 => ?_)
  refine g_astore_n C dX13_named_7 rfl (by decide) (by decide) ?_
  refine g_iload_n C dX13_named_8 rfl rfl ?_
  by_cases c0 : p1 = 0
  · rw [if_pos c0] at hw
    refine g_tabIn C 40 0 dX13_named_9 c0 (by decide) (by decide) rfl rfl ?_
    refine g_aload_n C dX13_named_40 rfl (by decide) rfl ?_
    obtain ⟨q1, hw⟩ := hw
    refine gw_X13_104 C dX13_named_41 q1 (wir_4_7 wirC q1) ?_
    refine g_iload_n C dX13_named_44 rfl rfl ?_
    refine g_callVi C [(0, p2)] (sim_X7_indexOf wirC (kid_4_7 wirC q1) hw) k_976 k_847 k_848 k_136 k_849 hdV_X7_indexOf rfl rfl (by decide) rfl (kid_4_7 wirC q1) rfl rfl rfl dX13_named_45 ?_
    intro x1 h1 hw
    exact g_iret C hr dX13_named_48 ⟨_, rfl, hw⟩
  rw [if_neg c0] at hw
  by_cases c1 : p1 = 1
  · rw [if_pos c1] at hw
    refine g_tabIn C 49 1 dX13_named_9 c1 (by decide) (by decide) rfl rfl ?_
    refine g_aload_n C dX13_named_49 rfl (by decide) rfl ?_
    obtain ⟨q2, hw⟩ := hw
    refine gw_X13_114 C dX13_named_50 q2 (wir_4_10 wirC q2) ?_
    refine g_iload_n C dX13_named_53 rfl rfl ?_
    refine g_callVi C [(0, p2)] (sim_X7_indexOf wirC (kid_4_10 wirC q2) hw) k_976 k_847 k_848 k_136 k_849 hdV_X7_indexOf rfl rfl (by decide) rfl (kid_4_10 wirC q2) rfl rfl rfl dX13_named_54 ?_
    intro x2 h2 hw
    exact g_iret C hr dX13_named_57 ⟨_, rfl, hw⟩
  rw [if_neg c1] at hw
  by_cases c2 : p1 = 2
  · rw [if_pos c2] at hw
    refine g_tabIn C 58 2 dX13_named_9 c2 (by decide) (by decide) rfl rfl ?_
    refine g_aload_n C dX13_named_58 rfl (by decide) rfl ?_
    obtain ⟨q3, hw⟩ := hw
    refine gw_X13_117 C dX13_named_59 q3 (wir_4_12 wirC q3) ?_
    refine g_iload_n C dX13_named_62 rfl rfl ?_
    refine g_callVi C [(0, p2)] (sim_X7_indexOf wirC (kid_4_12 wirC q3) hw) k_976 k_847 k_848 k_136 k_849 hdV_X7_indexOf rfl rfl (by decide) rfl (kid_4_12 wirC q3) rfl rfl rfl dX13_named_63 ?_
    intro x3 h3 hw
    exact g_iret C hr dX13_named_66 ⟨_, rfl, hw⟩
  rw [if_neg c2] at hw
  by_cases c3 : p1 = 3
  · rw [if_pos c3] at hw
    refine g_tabIn C 67 3 dX13_named_9 c3 (by decide) (by decide) rfl rfl ?_
    refine g_aload_n C dX13_named_67 rfl (by decide) rfl ?_
    obtain ⟨q4, hw⟩ := hw
    refine gw_X13_120 C dX13_named_68 q4 (wir_4_6 wirC q4) ?_
    refine g_iload_n C dX13_named_71 rfl rfl ?_
    refine g_callVi C [(0, p2)] (sim_X7_indexOf wirC (kid_4_6 wirC q4) hw) k_976 k_847 k_848 k_136 k_849 hdV_X7_indexOf rfl rfl (by decide) rfl (kid_4_6 wirC q4) rfl rfl rfl dX13_named_72 ?_
    intro x4 h4 hw
    exact g_iret C hr dX13_named_75 ⟨_, rfl, hw⟩
  rw [if_neg c3] at hw
  refine g_tabOut C 76 dX13_named_9 (by omega) rfl ?_
  refine g_iconst C ⟨by decide, by decide⟩ dX13_named_76 ?_
  exact g_iret C hr dX13_named_77 ⟨_, rfl, hw⟩
set_option maxRecDepth 20000 in
set_option maxHeartbeats 4000000 in
theorem sim_X4_addSight {z : Mz} {l : Launch} {p1 : Int} {p2 : Int} {p3 : Int} {h : Mh} {K : Int → Mh → Prop} (hw : wp_X4_addSight p1 p2 p3 h K) : mCal (XC z) l yX4_addSight cX4_addSight 4 (some Jvm.ClassFile.FieldType.int) 0 0 [(2, 107), (0, p1), (0, p2), (0, p3)] h (mKi K) := by
  refine m_entry RX4 rfl (by decide) rfl (fun p e s m args below meth c C hr => ?_)
  show mG _ p l e _ s m args below meth c _ _ 0 [(0, (2, 107)), (1, (0, p1)), (2, (0, p2)), (3, (0, p3))] [] h
  unfold wp_X4_addSight at hw
  refine g_aload_n C dX4_addSight_0 rfl (by decide) rfl ?_
  refine gf_X4_41 C dX4_addSight_1 kdC_107 (fun z1 => ?_)
  refine g_if_lt C 16 dX4_addSight_4 rfl hw (fun hw => ?_) (fun hw => ?_)
  · refine g_iconst C ⟨by decide, by decide⟩ dX4_addSight_16 ?_
    exact g_iret C hr dX4_addSight_17 ⟨_, rfl, hw⟩
  · refine g_aload_n C dX4_addSight_7 rfl (by decide) rfl ?_
    refine gf_X4_41 C dX4_addSight_8 kdC_107 (fun z8 => ?_)
    refine g_bipush C ⟨by decide, by decide⟩ (by decide) dX4_addSight_11 ?_
    refine g_icmp_lt C 18 dX4_addSight_13 rfl hw (fun hw => ?_) (fun hw => ?_)
    · refine g_aload_n C dX4_addSight_18 rfl (by decide) rfl ?_
      refine gw_X4_9 C dX4_addSight_19 kdC_107 wwC_107_0 ?_
      refine g_aload_n C dX4_addSight_22 rfl (by decide) rfl ?_
      refine gf_X4_41 C dX4_addSight_23 kdC_107 (fun z23 => ?_)
      refine g_iload_n C dX4_addSight_26 rfl rfl ?_
      obtain ⟨⟨b1, b1b⟩, hw⟩ := hw
      refine g_iastore C dX4_addSight_27 kdC_108 b1 b1b (fun z => z) ?_
      refine g_heap (fun h1 eh1 => ?_)
      replace hw := hw h1 eh1
      refine g_aload_n C dX4_addSight_28 rfl (by decide) rfl ?_
      refine gw_X4_15 C dX4_addSight_29 kdC_107 wwC_107_1 ?_
      refine g_aload_n C dX4_addSight_32 rfl (by decide) rfl ?_
      refine gf_X4_41 C dX4_addSight_33 kdC_107 (fun z33 => ?_)
      refine g_iload_n C dX4_addSight_36 rfl rfl ?_
      obtain ⟨⟨b2, b2b⟩, hw⟩ := hw
      refine g_iastore C dX4_addSight_37 kdC_109 b2 b2b (fun z => z) ?_
      refine g_heap (fun h2 eh2 => ?_)
      replace hw := hw h2 eh2
      refine g_aload_n C dX4_addSight_38 rfl (by decide) rfl ?_
      refine gw_X4_18 C dX4_addSight_39 kdC_107 wwC_107_2 ?_
      refine g_aload_n C dX4_addSight_42 rfl (by decide) rfl ?_
      refine gf_X4_41 C dX4_addSight_43 kdC_107 (fun z43 => ?_)
      refine g_iload_n C dX4_addSight_46 rfl rfl ?_
      obtain ⟨⟨b3, b3b⟩, hw⟩ := hw
      refine g_iastore C dX4_addSight_47 kdC_110 b3 b3b (fun z => z) ?_
      refine g_heap (fun h3 eh3 => ?_)
      replace hw := hw h3 eh3
      refine g_aload_n C dX4_addSight_48 rfl (by decide) rfl ?_
      refine gw_X4_21 C dX4_addSight_49 kdC_107 wwC_107_3 ?_
      refine g_aload_n C dX4_addSight_52 rfl (by decide) rfl ?_
      refine gf_X4_41 C dX4_addSight_53 kdC_107 (fun z53 => ?_)
      refine g_iconst C ⟨by decide, by decide⟩ dX4_addSight_56 ?_
      obtain ⟨⟨b4, b4b⟩, hw⟩ := hw
      refine g_iastore C dX4_addSight_57 kdC_111 b4 b4b (fun z => z) ?_
      refine g_heap (fun h4 eh4 => ?_)
      replace hw := hw h4 eh4
      refine g_aload_n C dX4_addSight_58 rfl (by decide) rfl ?_
      refine g_dup C (by show ¬ (2 : Nat) = 1; decide) dX4_addSight_59 ?_
      refine gf_X4_41 C dX4_addSight_60 kdC_107 (fun z60 => ?_)
      refine g_iconst C ⟨by decide, by decide⟩ dX4_addSight_63 ?_
      refine g_iadd C dX4_addSight_64 ?_
      refine gp_X4_41 C dX4_addSight_65 kdC_107 (fun z => z) ?_
      refine g_heap (fun h5 eh5 => ?_)
      replace hw := hw h5 eh5
      refine g_aload_n C dX4_addSight_68 rfl (by decide) rfl ?_
      refine gf_X4_41 C dX4_addSight_69 kdC_107 (fun z69 => ?_)
      refine g_iconst C ⟨by decide, by decide⟩ dX4_addSight_72 ?_
      refine g_isub C dX4_addSight_73 ?_
      exact g_iret C hr dX4_addSight_74 ⟨_, rfl, hw⟩
    · refine g_iconst C ⟨by decide, by decide⟩ dX4_addSight_16 ?_
      exact g_iret C hr dX4_addSight_17 ⟨_, rfl, hw⟩
set_option maxRecDepth 20000 in
set_option maxHeartbeats 4000000 in
theorem sim_X13_note {z : Mz} {l : Launch} {p1 : Int} {p2 : Int} {p3 : Int} {h : Mh} {K : Int → Mh → Prop} (hw : wp_X13_note p1 p2 p3 h K) : mCal (XC z) l yX13_note cX13_note 5 (some Jvm.ClassFile.FieldType.int) 1 23 [(2, 0), (0, p1), (0, p2), (0, p3)] h (mKi K) := by
  refine m_entry RX13 rfl (by decide) rfl (fun p e s m args below meth c C hr => ?_)
  have hQ : ∀ x, Lfp (F_X13_note p1 p2 p3 K) x → (match x.1, x.2.1 with | 31, [] => mG (XC z) p l e { frames := 1, cells := 0, slots := 0, locals := 23 } s m args below meth c 5 (mMQ (XC z) (mKi K) below args s) 31 [(0, (2, 0)), (1, (0, p1)), (2, (0, p2)), (3, (0, p3))] [] x.2.2 | 32, [s0] => mG (XC z) p l e { frames := 1, cells := 0, slots := 0, locals := 23 } s m args below meth c 5 (mMQ (XC z) (mKi K) below args s) 32 [(0, (2, 0)), (1, (0, p1)), (2, (0, p2)), (3, (0, p3))] [(0, s0)] x.2.2 | _, _ => True) := by
    intro x hx
    refine Lfp.ind (fun x => (match x.1, x.2.1 with | 31, [] => mG (XC z) p l e { frames := 1, cells := 0, slots := 0, locals := 23 } s m args below meth c 5 (mMQ (XC z) (mKi K) below args s) 31 [(0, (2, 0)), (1, (0, p1)), (2, (0, p2)), (3, (0, p3))] [] x.2.2 | 32, [s0] => mG (XC z) p l e { frames := 1, cells := 0, slots := 0, locals := 23 } s m args below meth c 5 (mMQ (XC z) (mKi K) below args s) 32 [(0, (2, 0)), (1, (0, p1)), (2, (0, p2)), (3, (0, p3))] [(0, s0)] x.2.2 | _, _ => True)) ?_ hx
    clear hx x
    intro Z x hQ hw
    rcases hw with ⟨h, rfl, hw⟩ | ⟨s0, h, rfl, hw⟩
    · show mG (XC z) p l e { frames := 1, cells := 0, slots := 0, locals := 23 } s m args below meth c 5 (mMQ (XC z) (mKi K) below args s) 31 [(0, (2, 0)), (1, (0, p1)), (2, (0, p2)), (3, (0, p3))] [] h
      unfold B_X13_note_31 at hw
      refine g_iconst C ⟨by decide, by decide⟩ dX13_note_31 ?_
      exact g_sub [0, 1, 2, 3] rfl (hQ _ hw)
    · show mG (XC z) p l e { frames := 1, cells := 0, slots := 0, locals := 23 } s m args below meth c 5 (mMQ (XC z) (mKi K) below args s) 32 [(0, (2, 0)), (1, (0, p1)), (2, (0, p2)), (3, (0, p3))] [(0, s0)] h
      unfold B_X13_note_32 at hw
      refine g_istore C dX13_note_32 (by decide) ?_
      refine g_iload C dX13_note_34 rfl ?_
      refine g_if_eq C 53 dX13_note_36 rfl hw (fun hw => ?_) (fun hw => ?_)
      · refine g_iconst C ⟨by decide, by decide⟩ dX13_note_53 ?_
        exact g_iret C hr dX13_note_54 ⟨_, rfl, hw⟩
      · refine g_iload_n C dX13_note_39 rfl rfl ?_
        refine g_sipush C ⟨by decide, by decide⟩ (by decide) dX13_note_40 ?_
        refine g_icmp_lt C 53 dX13_note_43 rfl hw (fun hw => ?_) (fun hw => ?_)
        · refine g_iconst C ⟨by decide, by decide⟩ dX13_note_53 ?_
          exact g_iret C hr dX13_note_54 ⟨_, rfl, hw⟩
        · refine g_iload_n C dX13_note_46 rfl rfl ?_
          refine g_sipush C ⟨by decide, by decide⟩ (by decide) dX13_note_47 ?_
          refine g_icmp_le C 55 dX13_note_50 rfl hw (fun hw => ?_) (fun hw => ?_)
          · refine g_aload_n C dX13_note_55 rfl (by decide) rfl ?_
            refine gw_X13_43 C dX13_note_56 kdC_0 wwC_0_5 ?_
            refine g_iload_n C dX13_note_59 rfl rfl ?_
            refine g_iload_n C dX13_note_60 rfl rfl ?_
            refine g_iload_n C dX13_note_61 rfl rfl ?_
            refine g_callVi C [(0, p1), (0, p2), (0, p3)] (sim_X4_addSight hw) k_1250 k_1251 k_1252 k_143 k_1253 hdV_X4_addSight rfl rfl (by decide) rfl kdC_107 rfl rfl rfl dX13_note_62 ?_
            intro x1 h1 hw
            exact g_iret C hr dX13_note_65 ⟨_, rfl, hw⟩
          · refine g_iconst C ⟨by decide, by decide⟩ dX13_note_53 ?_
            exact g_iret C hr dX13_note_54 ⟨_, rfl, hw⟩
  show mG _ p l e _ s m args below meth c _ _ 0 [(0, (2, 0)), (1, (0, p1)), (2, (0, p2)), (3, (0, p3))] [] h
  unfold wp_X13_note at hw
  replace hw := id hw
  refine g_aload_n C dX13_note_0 rfl (by decide) rfl ?_
  refine gw_X13_36 C dX13_note_1 kdC_0 wwC_0_4 ?_
  refine gf_X13_86 C dX13_note_4 kdC_53 (fun z4 => ?_)
  obtain ⟨q1, hw⟩ := hw
  refine gw_X13_114 C dX13_note_7 q1 (wir_4_10 wirC q1) ?_
  refine g_iload_n C dX13_note_10 rfl rfl ?_
  refine g_callVz C [(0, p1)] (sim_X7_has wirC (kid_4_10 wirC q1) hw) k_1107 k_1108 k_1109 k_136 k_1110 hdV_X7_has rfl rfl (by decide) rfl (kid_4_10 wirC q1) rfl rfl rfl dX13_note_11 ?_
  intro x1 h1 zb11 hw
  refine g_if_eq C 31 dX13_note_14 rfl hw (fun hw => ?_) (fun hw => ?_)
  · exact g_sub [0, 1, 2, 3] rfl (hQ _ hw)
  · refine g_iload_n C dX13_note_17 rfl rfl ?_
    refine g_sipush C ⟨by decide, by decide⟩ (by decide) dX13_note_18 ?_
    refine g_callSz C [(0, p2), (0, 199)] (sim_X13_isStep hw) k_1052 k_1053 k_134 k_1054 hdS_X13_isStep rfl rfl rfl rfl rfl dX13_note_21 ?_
    intro x2 h2 zb21 hw
    refine g_if_eq C 31 dX13_note_24 rfl hw (fun hw => ?_) (fun hw => ?_)
    · exact g_sub [0, 1, 2, 3] rfl (hQ _ hw)
    · refine g_iconst C ⟨by decide, by decide⟩ dX13_note_27 ?_
      refine g_goto C 32 dX13_note_28 rfl ?_
      exact g_sub [0, 1, 2, 3] rfl (hQ _ hw)
set_option maxRecDepth 20000 in
set_option maxHeartbeats 4000000 in
theorem sim_X8_arrival {z : Mz} {l : Launch} {p1 : Int} {p2 : Int} {h : Mh} {K : Int → Mh → Prop} (hw : wp_X8_arrival p1 p2 h K) : mCal (XC z) l yX8_arrival cX8_arrival 3 (some Jvm.ClassFile.FieldType.int) 6 158 [(2, 121), (0, p1), (0, p2)] h (mKi K) := by
  refine m_entry RX8 rfl (by decide) rfl (fun p e s m args below meth c C hr => ?_)
  show mG _ p l e _ s m args below meth c _ _ 0 [(0, (2, 121)), (1, (0, p1)), (2, (0, p2))] [] h
  unfold wp_X8_arrival at hw
  refine g_aload_n C dX8_arrival_0 rfl (by decide) rfl ?_
  refine g_iload_n C dX8_arrival_1 rfl rfl ?_
  refine g_bipush C ⟨by decide, by decide⟩ (by decide) dX8_arrival_2 ?_
  refine g_callVv C [(0, p1), (0, 100)] (sim_X8_follow hw) k_1158 k_1160 k_47 k_145 k_1161 hdV_X8_follow rfl rfl (by decide) rfl kdC_121 rfl rfl rfl dX8_arrival_4 ?_
  intro h1 hw
  refine g_aload_n C dX8_arrival_7 rfl (by decide) rfl ?_
  refine g_iload_n C dX8_arrival_8 rfl rfl ?_
  refine g_bipush C ⟨by decide, by decide⟩ (by decide) dX8_arrival_9 ?_
  refine g_callVi C [(0, p2), (0, 100)] (sim_X8_arrivalOnPath hw) k_1176 k_1178 k_49 k_145 k_1179 hdV_X8_arrivalOnPath rfl rfl (by decide) rfl kdC_121 rfl rfl rfl dX8_arrival_11 ?_
  intro x1 h2 hw
  exact g_iret C hr dX8_arrival_14 ⟨_, rfl, hw⟩
set_option maxRecDepth 20000 in
set_option maxHeartbeats 4000000 in
theorem sim_X13_reaches {z : Mz} {l : Launch} {p1 : Int} {p2 : Int} {h : Mh} {K : Int → Mh → Prop} (hw : wp_X13_reaches p1 p2 h K) : mCal (XC z) l yX13_reaches cX13_reaches 3 (some Jvm.ClassFile.FieldType.int) 7 180 [(2, 0), (0, p1), (0, p2)] h (mKi K) := by
  refine m_entry RX13 rfl (by decide) rfl (fun p e s m args below meth c C hr => ?_)
  show mG _ p l e _ s m args below meth c _ _ 0 [(0, (2, 0)), (1, (0, p1)), (2, (0, p2))] [] h
  unfold wp_X13_reaches at hw
  refine g_aload_n C dX13_reaches_0 rfl (by decide) rfl ?_
  refine gw_X13_36 C dX13_reaches_1 kdC_0 wwC_0_4 ?_
  refine gf_X13_86 C dX13_reaches_4 kdC_53 (fun z4 => ?_)
  obtain ⟨q1, hw⟩ := hw
  refine gw_X13_117 C dX13_reaches_7 q1 (wir_4_12 wirC q1) ?_
  refine g_iload_n C dX13_reaches_10 rfl rfl ?_
  refine g_callVz C [(0, p1)] (sim_X7_has wirC (kid_4_12 wirC q1) hw) k_1107 k_1108 k_1109 k_136 k_1110 hdV_X7_has rfl rfl (by decide) rfl (kid_4_12 wirC q1) rfl rfl rfl dX13_reaches_11 ?_
  intro x1 h1 zb11 hw
  refine g_if_eq C 31 dX13_reaches_14 rfl hw (fun hw => ?_) (fun hw => ?_)
  · refine g_iconst C ⟨by decide, by decide⟩ dX13_reaches_31 ?_
    exact g_iret C hr dX13_reaches_32 ⟨_, rfl, hw⟩
  · refine g_aload_n C dX13_reaches_17 rfl (by decide) rfl ?_
    refine gw_X13_36 C dX13_reaches_18 kdC_0 wwC_0_4 ?_
    refine gf_X13_86 C dX13_reaches_21 kdC_53 (fun z21 => ?_)
    refine g_iload_n C dX13_reaches_24 rfl rfl ?_
    obtain ⟨q2, hw⟩ := hw
    refine g_callVz C [(0, p2)] (sim_X5_isCell wirC q2 hw) k_981 k_982 k_983 k_135 k_984 hdV_X5_isCell rfl rfl (by decide) rfl q2 rfl rfl rfl dX13_reaches_25 ?_
    intro x2 h2 zb25 hw
    refine g_if_ne C 33 dX13_reaches_28 rfl hw (fun hw => ?_) (fun hw => ?_)
    · refine g_aload_n C dX13_reaches_33 rfl (by decide) rfl ?_
      refine gw_X13_52 C dX13_reaches_34 kdC_0 wwC_0_6 ?_
      refine g_callVv C [] (sim_X6_freshenSums hw) k_1056 k_1057 k_1058 k_144 k_1059 hdV_X6_freshenSums rfl rfl (by decide) rfl kdC_115 rfl rfl rfl dX13_reaches_37 ?_
      intro h3 hw
      refine g_aload_n C dX13_reaches_40 rfl (by decide) rfl ?_
      refine gw_X13_61 C dX13_reaches_41 kdC_0 wwC_0_7 ?_
      refine g_iload_n C dX13_reaches_44 rfl rfl ?_
      refine g_iload_n C dX13_reaches_45 rfl rfl ?_
      refine g_callVi C [(0, p1), (0, p2)] (sim_X8_arrival hw) k_1172 k_1173 k_1174 k_145 k_1175 hdV_X8_arrival rfl rfl (by decide) rfl kdC_121 rfl rfl rfl dX13_reaches_46 ?_
      intro x3 h4 hw
      exact g_iret C hr dX13_reaches_49 ⟨_, rfl, hw⟩
    · refine g_iconst C ⟨by decide, by decide⟩ dX13_reaches_31 ?_
      exact g_iret C hr dX13_reaches_32 ⟨_, rfl, hw⟩
set_option maxRecDepth 20000 in
set_option maxHeartbeats 4000000 in
theorem sim_X13_rise {z : Mz} {l : Launch} {p1 : Int} {p2 : Int} {h : Mh} {K : Int → Mh → Prop} (hw : wp_X13_rise p1 p2 h K) : mCal (XC z) l yX13_rise cX13_rise 3 (some Jvm.ClassFile.FieldType.int) 5 126 [(2, 0), (0, p1), (0, p2)] h (mKi K) := by
  refine m_entry RX13 rfl (by decide) rfl (fun p e s m args below meth c C hr => ?_)
  show mG _ p l e _ s m args below meth c _ _ 0 [(0, (2, 0)), (1, (0, p1)), (2, (0, p2))] [] h
  unfold wp_X13_rise at hw
  refine g_aload_n C dX13_rise_0 rfl (by decide) rfl ?_
  refine gw_X13_36 C dX13_rise_1 kdC_0 wwC_0_4 ?_
  refine gf_X13_86 C dX13_rise_4 kdC_53 (fun z4 => ?_)
  refine g_iload_n C dX13_rise_7 rfl rfl ?_
  obtain ⟨q1, hw⟩ := hw
  refine g_callVz C [(0, p1)] (sim_X5_isWet wirC q1 hw) k_985 k_986 k_987 k_135 k_988 hdV_X5_isWet rfl rfl (by decide) rfl q1 rfl rfl rfl dX13_rise_8 ?_
  intro x1 h1 zb8 hw
  refine g_if_eq C 24 dX13_rise_11 rfl hw (fun hw => ?_) (fun hw => ?_)
  · refine g_ldc C ⟨by decide, by decide⟩ k_1055 dX13_rise_24 ?_
    exact g_iret C hr dX13_rise_26 ⟨_, rfl, hw⟩
  · refine g_iload_n C dX13_rise_14 rfl rfl ?_
    refine g_sipush C ⟨by decide, by decide⟩ (by decide) dX13_rise_15 ?_
    refine g_callSz C [(0, p2), (0, 199)] (sim_X13_isStep hw) k_1052 k_1053 k_134 k_1054 hdS_X13_isStep rfl rfl rfl rfl rfl dX13_rise_18 ?_
    intro x2 h2 zb18 hw
    refine g_if_ne C 27 dX13_rise_21 rfl hw (fun hw => ?_) (fun hw => ?_)
    · refine g_aload_n C dX13_rise_27 rfl (by decide) rfl ?_
      refine gw_X13_52 C dX13_rise_28 kdC_0 wwC_0_6 ?_
      refine g_callVv C [] (sim_X6_freshenSums hw) k_1056 k_1057 k_1058 k_144 k_1059 hdV_X6_freshenSums rfl rfl (by decide) rfl kdC_115 rfl rfl rfl dX13_rise_31 ?_
      intro h3 hw
      refine g_aload_n C dX13_rise_34 rfl (by decide) rfl ?_
      refine gw_X13_52 C dX13_rise_35 kdC_0 wwC_0_6 ?_
      refine g_iload_n C dX13_rise_38 rfl rfl ?_
      refine g_iload_n C dX13_rise_39 rfl rfl ?_
      refine g_callVi C [(0, p1), (0, p2)] (sim_X6_sumAt hw) k_1099 k_1100 k_1101 k_144 k_1102 hdV_X6_sumAt rfl rfl (by decide) rfl kdC_115 rfl rfl rfl dX13_rise_40 ?_
      intro x3 h4 hw
      exact g_iret C hr dX13_rise_43 ⟨_, rfl, hw⟩
    · refine g_ldc C ⟨by decide, by decide⟩ k_1055 dX13_rise_24 ?_
      exact g_iret C hr dX13_rise_26 ⟨_, rfl, hw⟩
set_option maxRecDepth 20000 in
set_option maxHeartbeats 4000000 in
theorem sim_X13_shows {z : Mz} {l : Launch} {p1 : Int} {p2 : Int} {h : Mh} {K : Int → Mh → Prop} (hw : wp_X13_shows p1 p2 h K) : mCal (XC z) l yX13_shows cX13_shows 3 (some Jvm.ClassFile.FieldType.int) 6 148 [(2, 0), (0, p1), (0, p2)] h (mKi K) := by
  refine m_entry RX13 rfl (by decide) rfl (fun p e s m args below meth c C hr => ?_)
  show mG _ p l e _ s m args below meth c _ _ 0 [(0, (2, 0)), (1, (0, p1)), (2, (0, p2))] [] h
  unfold wp_X13_shows at hw
  refine g_aload_n C dX13_shows_0 rfl (by decide) rfl ?_
  refine gw_X13_36 C dX13_shows_1 kdC_0 wwC_0_4 ?_
  refine gf_X13_86 C dX13_shows_4 kdC_53 (fun z4 => ?_)
  obtain ⟨q1, hw⟩ := hw
  refine gw_X13_114 C dX13_shows_7 q1 (wir_4_10 wirC q1) ?_
  refine g_iload_n C dX13_shows_10 rfl rfl ?_
  refine g_callVz C [(0, p1)] (sim_X7_has wirC (kid_4_10 wirC q1) hw) k_1107 k_1108 k_1109 k_136 k_1110 hdV_X7_has rfl rfl (by decide) rfl (kid_4_10 wirC q1) rfl rfl rfl dX13_shows_11 ?_
  intro x1 h1 zb11 hw
  refine g_if_ne C 20 dX13_shows_14 rfl hw (fun hw => ?_) (fun hw => ?_)
  · refine g_aload_n C dX13_shows_20 rfl (by decide) rfl ?_
    refine g_aload_n C dX13_shows_21 rfl (by decide) rfl ?_
    refine gw_X13_36 C dX13_shows_22 kdC_0 wwC_0_4 ?_
    refine gf_X13_86 C dX13_shows_25 kdC_53 (fun z25 => ?_)
    obtain ⟨q2, hw⟩ := hw
    refine gw_X13_164 C dX13_shows_28 q2 (wir_4_11 wirC q2) ?_
    refine g_iload_n C dX13_shows_31 rfl rfl ?_
    refine g_callVi C [(0, p1)] (sim_X7_orZero wirC (kid_4_11 wirC q2) hw) k_1111 k_1071 k_1072 k_136 k_1073 hdV_X7_orZero rfl rfl (by decide) rfl (kid_4_11 wirC q2) rfl rfl rfl dX13_shows_32 ?_
    intro x2 h2 hw
    refine g_iload_n C dX13_shows_35 rfl rfl ?_
    refine g_callVi C [(0, x2), (0, p2)] (sim_X13_rise hw) k_1112 k_1049 k_1050 k_134 k_1051 hdV_X13_rise rfl rfl (by decide) rfl kdC_0 rfl rfl rfl dX13_shows_36 ?_
    intro x3 h3 hw
    exact g_iret C hr dX13_shows_39 ⟨_, rfl, hw⟩
  · refine g_ldc C ⟨by decide, by decide⟩ k_1055 dX13_shows_17 ?_
    exact g_iret C hr dX13_shows_19 ⟨_, rfl, hw⟩
set_option maxRecDepth 20000 in
set_option maxHeartbeats 4000000 in
theorem sim_X2_stillCells {z : Mz} {l : Launch} {p1 : Int} {p2 : Int} {p3 : Int} {p4 : Int} {p5 : Int} {h : Mh} {K : Int → Mh → Prop} (hw : wp_X2_stillCells p1 p2 p3 p4 p5 h K) : mCal (XC z) l yX2_stillCells cX2_stillCells 13 (some Jvm.ClassFile.FieldType.long) 3 78 [(2, 123), (0, p1), (0, p2), (0, p3), (0, p4), (0, p5)] h (mKl K) := by
  refine m_entry RX2 rfl (by decide) rfl (fun p e s m args below meth c C hr => ?_)
  have hQ : ∀ x, Lfp (F_X2_stillCells p1 p2 p3 p4 p5 K) x → (match x.1, x.2.1 with | 18, [v6, v8, v9] => mG (XC z) p l e { frames := 3, cells := 0, slots := 0, locals := 78 } s m args below meth c 13 (mMQ (XC z) (mKl K) below args s) 18 [(6, (1, v6)), (8, (2, v8)), (9, (0, v9)), (0, (2, 123)), (1, (0, p1)), (2, (0, p2)), (3, (0, p3)), (4, (0, p4)), (5, (0, p5))] [] x.2.2 | 50, [v6, v8, v9, v10, v11] => mG (XC z) p l e { frames := 3, cells := 0, slots := 0, locals := 78 } s m args below meth c 13 (mMQ (XC z) (mKl K) below args s) 50 [(6, (1, v6)), (8, (2, v8)), (9, (0, v9)), (10, (0, v10)), (11, (0, v11)), (0, (2, 123)), (1, (0, p1)), (2, (0, p2)), (3, (0, p3)), (4, (0, p4)), (5, (0, p5))] [] x.2.2 | _, _ => True) := by
    intro x hx
    refine Lfp.ind (fun x => (match x.1, x.2.1 with | 18, [v6, v8, v9] => mG (XC z) p l e { frames := 3, cells := 0, slots := 0, locals := 78 } s m args below meth c 13 (mMQ (XC z) (mKl K) below args s) 18 [(6, (1, v6)), (8, (2, v8)), (9, (0, v9)), (0, (2, 123)), (1, (0, p1)), (2, (0, p2)), (3, (0, p3)), (4, (0, p4)), (5, (0, p5))] [] x.2.2 | 50, [v6, v8, v9, v10, v11] => mG (XC z) p l e { frames := 3, cells := 0, slots := 0, locals := 78 } s m args below meth c 13 (mMQ (XC z) (mKl K) below args s) 50 [(6, (1, v6)), (8, (2, v8)), (9, (0, v9)), (10, (0, v10)), (11, (0, v11)), (0, (2, 123)), (1, (0, p1)), (2, (0, p2)), (3, (0, p3)), (4, (0, p4)), (5, (0, p5))] [] x.2.2 | _, _ => True)) ?_ hx
    clear hx x
    intro Z x hQ hw
    rcases hw with ⟨v6, v8, v9, h, rfl, hw⟩ | ⟨v6, v8, v9, v10, v11, h, rfl, hw⟩
    · show mG (XC z) p l e { frames := 3, cells := 0, slots := 0, locals := 78 } s m args below meth c 13 (mMQ (XC z) (mKl K) below args s) 18 [(6, (1, v6)), (8, (2, v8)), (9, (0, v9)), (0, (2, 123)), (1, (0, p1)), (2, (0, p2)), (3, (0, p3)), (4, (0, p4)), (5, (0, p5))] [] h
      unfold B_X2_stillCells_18 at hw
      refine g_iload C dX2_stillCells_18 rfl ?_
      refine g_aload_n C dX2_stillCells_20 rfl (by decide) rfl ?_
      refine gw_X2_33 C dX2_stillCells_21 kdC_123 wwC_123_0 ?_
      refine gf_X2_54 C dX2_stillCells_24 kdC_53 (fun z24 => ?_)
      obtain ⟨q2, hw⟩ := hw
      refine g_callVi C [] (sim_X5_cells wirC q2 hw) k_1294 k_1067 k_1068 k_135 k_1069 hdV_X5_cells rfl rfl (by decide) rfl q2 rfl rfl rfl dX2_stillCells_27 ?_
      intro x1 h1 hw
      refine g_icmp_ge C 134 dX2_stillCells_30 rfl hw (fun hw => ?_) (fun hw => ?_)
      · refine g_lload C dX2_stillCells_134 rfl ?_
        exact g_lret C hr dX2_stillCells_136 ⟨_, rfl, hw⟩
      · refine g_aload_n C dX2_stillCells_33 rfl (by decide) rfl ?_
        refine gw_X2_33 C dX2_stillCells_34 kdC_123 wwC_123_0 ?_
        refine gf_X2_54 C dX2_stillCells_37 kdC_53 (fun z37 => ?_)
        refine g_iload C dX2_stillCells_40 rfl ?_
        obtain ⟨q3, hw⟩ := hw
        refine g_callVz C [(0, v9)] (sim_X5_isWet wirC q3 hw) k_1295 k_986 k_987 k_135 k_988 hdV_X5_isWet rfl rfl (by decide) rfl q3 rfl rfl rfl dX2_stillCells_42 ?_
        intro x2 h2 zb42 hw
        refine g_istore C dX2_stillCells_45 (by decide) ?_
        refine g_iconst C ⟨by decide, by decide⟩ dX2_stillCells_47 ?_
        refine g_istore C dX2_stillCells_48 (by decide) ?_
        exact g_sub [6, 8, 9, 10, 11, 0, 1, 2, 3, 4, 5] rfl (hQ _ hw)
    · show mG (XC z) p l e { frames := 3, cells := 0, slots := 0, locals := 78 } s m args below meth c 13 (mMQ (XC z) (mKl K) below args s) 50 [(6, (1, v6)), (8, (2, v8)), (9, (0, v9)), (10, (0, v10)), (11, (0, v11)), (0, (2, 123)), (1, (0, p1)), (2, (0, p2)), (3, (0, p3)), (4, (0, p4)), (5, (0, p5))] [] h
      unfold B_X2_stillCells_50 at hw
      refine g_iload C dX2_stillCells_50 rfl ?_
      refine g_iload C dX2_stillCells_52 rfl ?_
      refine g_icmp_gt C 114 dX2_stillCells_54 rfl hw (fun hw => ?_) (fun hw => ?_)
      · refine g_iload C dX2_stillCells_114 rfl ?_
        refine g_if_eq C 128 dX2_stillCells_116 rfl hw (fun hw => ?_) (fun hw => ?_)
        · refine g_iincN C dX2_stillCells_128 rfl (by decide) (fun x1 ex1 => ?_)
          replace hw := hw x1 ex1
          refine g_goto C 18 dX2_stillCells_131 rfl ?_
          exact g_sub [6, 8, 9, 0, 1, 2, 3, 4, 5] rfl (hQ _ hw)
        · refine g_lload C dX2_stillCells_119 rfl ?_
          refine g_lconst C 1 (Or.inr rfl) rfl dX2_stillCells_121 ?_
          refine g_iload C dX2_stillCells_122 rfl ?_
          refine g_lshl C dX2_stillCells_124 ?_
          refine g_lor C dX2_stillCells_125 ?_
          refine g_topi (fun x2 ex2 => ?_)
          replace hw := hw x2 ex2
          refine g_lstore C dX2_stillCells_126 (by decide) ?_
          refine g_iincN C dX2_stillCells_128 rfl (by decide) (fun x3 ex3 => ?_)
          replace hw := hw x3 ex3
          refine g_goto C 18 dX2_stillCells_131 rfl ?_
          exact g_sub [6, 8, 9, 0, 1, 2, 3, 4, 5] rfl (hQ _ hw)
      · refine g_iload C dX2_stillCells_57 rfl ?_
        refine g_if_eq C 114 dX2_stillCells_59 rfl hw (fun hw => ?_) (fun hw => ?_)
        · refine g_iload C dX2_stillCells_114 rfl ?_
          refine g_if_eq C 128 dX2_stillCells_116 rfl hw (fun hw => ?_) (fun hw => ?_)
          · refine g_iincN C dX2_stillCells_128 rfl (by decide) (fun x4 ex4 => ?_)
            replace hw := hw x4 ex4
            refine g_goto C 18 dX2_stillCells_131 rfl ?_
            exact g_sub [6, 8, 9, 0, 1, 2, 3, 4, 5] rfl (hQ _ hw)
          · refine g_lload C dX2_stillCells_119 rfl ?_
            refine g_lconst C 1 (Or.inr rfl) rfl dX2_stillCells_121 ?_
            refine g_iload C dX2_stillCells_122 rfl ?_
            refine g_lshl C dX2_stillCells_124 ?_
            refine g_lor C dX2_stillCells_125 ?_
            refine g_topi (fun x5 ex5 => ?_)
            replace hw := hw x5 ex5
            refine g_lstore C dX2_stillCells_126 (by decide) ?_
            refine g_iincN C dX2_stillCells_128 rfl (by decide) (fun x6 ex6 => ?_)
            replace hw := hw x6 ex6
            refine g_goto C 18 dX2_stillCells_131 rfl ?_
            exact g_sub [6, 8, 9, 0, 1, 2, 3, 4, 5] rfl (hQ _ hw)
        · refine g_aload_n C dX2_stillCells_62 rfl (by decide) rfl ?_
          refine gw_X2_37 C dX2_stillCells_63 kdC_123 wwC_123_1 ?_
          refine g_iload_n C dX2_stillCells_66 rfl rfl ?_
          refine g_iload_n C dX2_stillCells_67 rfl rfl ?_
          refine g_iload C dX2_stillCells_68 rfl ?_
          refine g_iload C dX2_stillCells_70 rfl ?_
          refine g_aload C dX2_stillCells_72 (by decide) rfl ?_
          refine g_callVi C [(0, p1), (0, p2), (0, v9), (0, v11), (2, v8)] (sim_X6_alone hw) k_1302 k_1303 k_1304 k_144 k_1305 hdV_X6_alone rfl rfl (by decide) rfl kdC_115 rfl rfl rfl dX2_stillCells_74 ?_
          intro x7 h1 hw
          refine g_istore C dX2_stillCells_77 (by decide) ?_
          refine g_iload C dX2_stillCells_79 rfl ?_
          refine g_aload_n C dX2_stillCells_81 rfl (by decide) rfl ?_
          refine gw_X2_37 C dX2_stillCells_82 kdC_123 wwC_123_1 ?_
          refine g_iload_n C dX2_stillCells_85 rfl rfl ?_
          refine g_iload C dX2_stillCells_86 rfl ?_
          refine g_iload C dX2_stillCells_88 rfl ?_
          refine g_iload C dX2_stillCells_90 rfl ?_
          refine g_aload C dX2_stillCells_92 (by decide) rfl ?_
          refine g_callVi C [(0, p3), (0, p4), (0, v9), (0, v11), (2, v8)] (sim_X6_alone hw) k_1302 k_1303 k_1304 k_144 k_1305 hdV_X6_alone rfl rfl (by decide) rfl kdC_115 rfl rfl rfl dX2_stillCells_94 ?_
          intro x8 h2 hw
          refine g_iadd C dX2_stillCells_97 ?_
          refine g_if_ne C 105 dX2_stillCells_98 rfl hw (fun hw => ?_) (fun hw => ?_)
          · refine g_iconst C ⟨by decide, by decide⟩ dX2_stillCells_105 ?_
            refine g_istore C dX2_stillCells_106 (by decide) ?_
            refine g_iincN C dX2_stillCells_108 rfl (by decide) (fun x9 ex9 => ?_)
            replace hw := hw x9 ex9
            refine g_goto C 50 dX2_stillCells_111 rfl ?_
            exact g_sub [6, 8, 9, 10, 11, 0, 1, 2, 3, 4, 5] rfl (hQ _ hw)
          · refine g_iconst C ⟨by decide, by decide⟩ dX2_stillCells_101 ?_
            refine g_goto C 106 dX2_stillCells_102 rfl ?_
            refine g_istore C dX2_stillCells_106 (by decide) ?_
            refine g_iincN C dX2_stillCells_108 rfl (by decide) (fun x10 ex10 => ?_)
            replace hw := hw x10 ex10
            refine g_goto C 50 dX2_stillCells_111 rfl ?_
            exact g_sub [6, 8, 9, 10, 11, 0, 1, 2, 3, 4, 5] rfl (hQ _ hw)
  show mG _ p l e _ s m args below meth c _ _ 0 [(0, (2, 123)), (1, (0, p1)), (2, (0, p2)), (3, (0, p3)), (4, (0, p4)), (5, (0, p5))] [] h
  unfold wp_X2_stillCells at hw
  replace hw := id hw
  refine g_lconst C 0 (Or.inl rfl) rfl dX2_stillCells_0 ?_
  refine g_lstore C dX2_stillCells_1 (by decide) ?_
  refine g_aload_n C dX2_stillCells_3 rfl (by decide) rfl ?_
  refine gw_X2_33 C dX2_stillCells_4 kdC_123 wwC_123_0 ?_
  refine gf_X2_54 C dX2_stillCells_7 kdC_53 (fun z7 => ?_)
  obtain ⟨q1, hw⟩ := hw
  refine gw_X2_118 C dX2_stillCells_10 q1 (wir_4_4 wirC q1) ?_
  refine g_astore C dX2_stillCells_13 (by decide) (by decide) ?_
  refine g_iconst C ⟨by decide, by decide⟩ dX2_stillCells_15 ?_
  refine g_istore C dX2_stillCells_16 (by decide) ?_
  exact g_sub [6, 8, 9, 0, 1, 2, 3, 4, 5] rfl (hQ _ hw)
set_option maxRecDepth 20000 in
set_option maxHeartbeats 4000000 in
theorem sim_X13_still {z : Mz} {l : Launch} {p1 : Int} {p2 : Int} {p3 : Int} {p4 : Int} {p5 : Int} {h : Mh} {K : Int → Mh → Prop} (hw : wp_X13_still p1 p2 p3 p4 p5 h K) : mCal (XC z) l yX13_still cX13_still 8 (some Jvm.ClassFile.FieldType.long) 4 110 [(2, 0), (0, p1), (0, p2), (0, p3), (0, p4), (0, p5)] h (mKl K) := by
  refine m_entry RX13 rfl (by decide) rfl (fun p e s m args below meth c C hr => ?_)
  have hQ : ∀ x, Lfp (F_X13_still p1 p2 p3 p4 p5 K) x → (match x.1, x.2.1 with | 56, [] => mG (XC z) p l e { frames := 4, cells := 0, slots := 0, locals := 110 } s m args below meth c 8 (mMQ (XC z) (mKl K) below args s) 56 [(0, (2, 0)), (1, (0, p1)), (2, (0, p2)), (3, (0, p3)), (4, (0, p4)), (5, (0, p5))] [] x.2.2 | 57, [s0] => mG (XC z) p l e { frames := 4, cells := 0, slots := 0, locals := 110 } s m args below meth c 8 (mMQ (XC z) (mKl K) below args s) 57 [(0, (2, 0)), (1, (0, p1)), (2, (0, p2)), (3, (0, p3)), (4, (0, p4)), (5, (0, p5))] [(0, s0)] x.2.2 | _, _ => True) := by
    intro x hx
    refine Lfp.ind (fun x => (match x.1, x.2.1 with | 56, [] => mG (XC z) p l e { frames := 4, cells := 0, slots := 0, locals := 110 } s m args below meth c 8 (mMQ (XC z) (mKl K) below args s) 56 [(0, (2, 0)), (1, (0, p1)), (2, (0, p2)), (3, (0, p3)), (4, (0, p4)), (5, (0, p5))] [] x.2.2 | 57, [s0] => mG (XC z) p l e { frames := 4, cells := 0, slots := 0, locals := 110 } s m args below meth c 8 (mMQ (XC z) (mKl K) below args s) 57 [(0, (2, 0)), (1, (0, p1)), (2, (0, p2)), (3, (0, p3)), (4, (0, p4)), (5, (0, p5))] [(0, s0)] x.2.2 | _, _ => True)) ?_ hx
    clear hx x
    intro Z x hQ hw
    rcases hw with ⟨h, rfl, hw⟩ | ⟨s0, h, rfl, hw⟩
    · show mG (XC z) p l e { frames := 4, cells := 0, slots := 0, locals := 110 } s m args below meth c 8 (mMQ (XC z) (mKl K) below args s) 56 [(0, (2, 0)), (1, (0, p1)), (2, (0, p2)), (3, (0, p3)), (4, (0, p4)), (5, (0, p5))] [] h
      unfold B_X13_still_56 at hw
      refine g_iconst C ⟨by decide, by decide⟩ dX13_still_56 ?_
      exact g_sub [0, 1, 2, 3, 4, 5] rfl (hQ _ hw)
    · show mG (XC z) p l e { frames := 4, cells := 0, slots := 0, locals := 110 } s m args below meth c 8 (mMQ (XC z) (mKl K) below args s) 57 [(0, (2, 0)), (1, (0, p1)), (2, (0, p2)), (3, (0, p3)), (4, (0, p4)), (5, (0, p5))] [(0, s0)] h
      unfold B_X13_still_57 at hw
      refine g_istore C dX13_still_57 (by decide) ?_
      refine g_iload C dX13_still_59 rfl ?_
      refine g_if_eq C 74 dX13_still_61 rfl hw (fun hw => ?_) (fun hw => ?_)
      · refine g_ldc2 C ⟨by decide, by decide⟩ k_1391 dX13_still_74 ?_
        exact g_lret C hr dX13_still_77 ⟨_, rfl, hw⟩
      · refine g_iload C dX13_still_64 rfl ?_
        refine g_bipush C ⟨by decide, by decide⟩ (by decide) dX13_still_66 ?_
        refine g_callSz C [(0, p5), (0, 60)] (sim_X13_isStep hw) k_1052 k_1053 k_134 k_1054 hdS_X13_isStep rfl rfl rfl rfl rfl dX13_still_68 ?_
        intro x1 h1 zb68 hw
        refine g_if_ne C 78 dX13_still_71 rfl hw (fun hw => ?_) (fun hw => ?_)
        · refine g_aload_n C dX13_still_78 rfl (by decide) rfl ?_
          refine gw_X13_52 C dX13_still_79 kdC_0 wwC_0_6 ?_
          refine g_callVv C [] (sim_X6_freshenWays hw) k_1009 k_1010 k_1011 k_144 k_1012 hdV_X6_freshenWays rfl rfl (by decide) rfl kdC_115 rfl rfl rfl dX13_still_82 ?_
          intro h2 hw
          refine g_aload_n C dX13_still_85 rfl (by decide) rfl ?_
          refine gw_X13_70 C dX13_still_86 kdC_0 wwC_0_8 ?_
          refine g_iload_n C dX13_still_89 rfl rfl ?_
          refine g_iload_n C dX13_still_90 rfl rfl ?_
          refine g_iload_n C dX13_still_91 rfl rfl ?_
          refine g_iload C dX13_still_92 rfl ?_
          refine g_iload C dX13_still_94 rfl ?_
          refine g_callVl C [(0, p1), (0, p2), (0, p3), (0, p4), (0, p5)] (sim_X2_stillCells hw) k_1392 k_1393 k_1394 k_146 k_1395 hdV_X2_stillCells rfl rfl (by decide) rfl kdC_123 rfl rfl rfl dX13_still_96 ?_
          intro x2 h3 hw
          exact g_lret C hr dX13_still_99 ⟨_, rfl, hw⟩
        · refine g_ldc2 C ⟨by decide, by decide⟩ k_1391 dX13_still_74 ?_
          exact g_lret C hr dX13_still_77 ⟨_, rfl, hw⟩
  show mG _ p l e _ s m args below meth c _ _ 0 [(0, (2, 0)), (1, (0, p1)), (2, (0, p2)), (3, (0, p3)), (4, (0, p4)), (5, (0, p5))] [] h
  unfold wp_X13_still at hw
  replace hw := id hw
  refine g_aload_n C dX13_still_0 rfl (by decide) rfl ?_
  refine gw_X13_36 C dX13_still_1 kdC_0 wwC_0_4 ?_
  refine gf_X13_86 C dX13_still_4 kdC_53 (fun z4 => ?_)
  refine g_astore C dX13_still_7 (by decide) (by decide) ?_
  refine g_aload C dX13_still_9 (by decide) rfl ?_
  obtain ⟨q1, hw⟩ := hw
  refine gw_X13_104 C dX13_still_11 q1 (wir_4_7 wirC q1) ?_
  refine g_iload_n C dX13_still_14 rfl rfl ?_
  refine g_callVz C [(0, p1)] (sim_X7_has wirC (kid_4_7 wirC q1) hw) k_1107 k_1108 k_1109 k_136 k_1110 hdV_X7_has rfl rfl (by decide) rfl (kid_4_7 wirC q1) rfl rfl rfl dX13_still_15 ?_
  intro x1 h1 zb15 hw
  refine g_if_eq C 56 dX13_still_18 rfl hw (fun hw => ?_) (fun hw => ?_)
  · exact g_sub [0, 1, 2, 3, 4, 5] rfl (hQ _ hw)
  · refine g_aload C dX13_still_21 (by decide) rfl ?_
    refine g_iload_n C dX13_still_23 rfl rfl ?_
    refine g_callVz C [(0, p2)] (sim_X5_isWet wirC q1 hw) k_985 k_986 k_987 k_135 k_988 hdV_X5_isWet rfl rfl (by decide) rfl q1 rfl rfl rfl dX13_still_24 ?_
    intro x2 h2 zb24 hw
    refine g_if_eq C 56 dX13_still_27 rfl hw (fun hw => ?_) (fun hw => ?_)
    · exact g_sub [0, 1, 2, 3, 4, 5] rfl (hQ _ hw)
    · refine g_aload C dX13_still_30 (by decide) rfl ?_
      refine gw_X13_104 C dX13_still_32 q1 (wir_4_7 wirC q1) ?_
      refine g_iload_n C dX13_still_35 rfl rfl ?_
      refine g_callVz C [(0, p3)] (sim_X7_has wirC (kid_4_7 wirC q1) hw) k_1107 k_1108 k_1109 k_136 k_1110 hdV_X7_has rfl rfl (by decide) rfl (kid_4_7 wirC q1) rfl rfl rfl dX13_still_36 ?_
      intro x3 h3 zb36 hw
      refine g_if_eq C 56 dX13_still_39 rfl hw (fun hw => ?_) (fun hw => ?_)
      · exact g_sub [0, 1, 2, 3, 4, 5] rfl (hQ _ hw)
      · refine g_aload C dX13_still_42 (by decide) rfl ?_
        refine g_iload C dX13_still_44 rfl ?_
        refine g_callVz C [(0, p4)] (sim_X5_isWet wirC q1 hw) k_985 k_986 k_987 k_135 k_988 hdV_X5_isWet rfl rfl (by decide) rfl q1 rfl rfl rfl dX13_still_46 ?_
        intro x4 h4 zb46 hw
        refine g_if_eq C 56 dX13_still_49 rfl hw (fun hw => ?_) (fun hw => ?_)
        · exact g_sub [0, 1, 2, 3, 4, 5] rfl (hQ _ hw)
        · refine g_iconst C ⟨by decide, by decide⟩ dX13_still_52 ?_
          refine g_goto C 57 dX13_still_53 rfl ?_
          exact g_sub [0, 1, 2, 3, 4, 5] rfl (hQ _ hw)
set_option maxRecDepth 20000 in
set_option maxHeartbeats 4000000 in
theorem sim_X4_addStrike {z : Mz} {l : Launch} {p1 : Int} {h : Mh} {K : Int → Mh → Prop} (hw : wp_X4_addStrike p1 h K) : mCal (XC z) l yX4_addStrike cX4_addStrike 2 (some Jvm.ClassFile.FieldType.int) 0 0 [(2, 107), (0, p1)] h (mKi K) := by
  refine m_entry RX4 rfl (by decide) rfl (fun p e s m args below meth c C hr => ?_)
  show mG _ p l e _ s m args below meth c _ _ 0 [(0, (2, 107)), (1, (0, p1))] [] h
  unfold wp_X4_addStrike at hw
  refine g_iload_n C dX4_addStrike_0 rfl rfl ?_
  refine g_if_lt C 21 dX4_addStrike_1 rfl hw (fun hw => ?_) (fun hw => ?_)
  · refine g_iconst C ⟨by decide, by decide⟩ dX4_addStrike_21 ?_
    exact g_iret C hr dX4_addStrike_22 ⟨_, rfl, hw⟩
  · refine g_iload_n C dX4_addStrike_4 rfl rfl ?_
    refine g_aload_n C dX4_addStrike_5 rfl (by decide) rfl ?_
    refine gf_X4_41 C dX4_addStrike_6 kdC_107 (fun z6 => ?_)
    refine g_icmp_ge C 21 dX4_addStrike_9 rfl hw (fun hw => ?_) (fun hw => ?_)
    · refine g_iconst C ⟨by decide, by decide⟩ dX4_addStrike_21 ?_
      exact g_iret C hr dX4_addStrike_22 ⟨_, rfl, hw⟩
    · refine g_aload_n C dX4_addStrike_12 rfl (by decide) rfl ?_
      refine gf_X4_41 C dX4_addStrike_13 kdC_107 (fun z13 => ?_)
      refine g_bipush C ⟨by decide, by decide⟩ (by decide) dX4_addStrike_16 ?_
      refine g_icmp_lt C 23 dX4_addStrike_18 rfl hw (fun hw => ?_) (fun hw => ?_)
      · refine g_aload_n C dX4_addStrike_23 rfl (by decide) rfl ?_
        refine gw_X4_21 C dX4_addStrike_24 kdC_107 wwC_107_3 ?_
        refine g_aload_n C dX4_addStrike_27 rfl (by decide) rfl ?_
        refine gf_X4_41 C dX4_addStrike_28 kdC_107 (fun z28 => ?_)
        refine g_iload_n C dX4_addStrike_31 rfl rfl ?_
        obtain ⟨⟨b1, b1b⟩, hw⟩ := hw
        refine g_iastore C dX4_addStrike_32 kdC_111 b1 b1b (fun z => z) ?_
        refine g_heap (fun h1 eh1 => ?_)
        replace hw := hw h1 eh1
        refine g_aload_n C dX4_addStrike_33 rfl (by decide) rfl ?_
        refine g_dup C (by show ¬ (2 : Nat) = 1; decide) dX4_addStrike_34 ?_
        refine gf_X4_41 C dX4_addStrike_35 kdC_107 (fun z35 => ?_)
        refine g_iconst C ⟨by decide, by decide⟩ dX4_addStrike_38 ?_
        refine g_iadd C dX4_addStrike_39 ?_
        refine gp_X4_41 C dX4_addStrike_40 kdC_107 (fun z => z) ?_
        refine g_heap (fun h2 eh2 => ?_)
        replace hw := hw h2 eh2
        refine g_aload_n C dX4_addStrike_43 rfl (by decide) rfl ?_
        refine gf_X4_41 C dX4_addStrike_44 kdC_107 (fun z44 => ?_)
        refine g_iconst C ⟨by decide, by decide⟩ dX4_addStrike_47 ?_
        refine g_isub C dX4_addStrike_48 ?_
        exact g_iret C hr dX4_addStrike_49 ⟨_, rfl, hw⟩
      · refine g_iconst C ⟨by decide, by decide⟩ dX4_addStrike_21 ?_
        exact g_iret C hr dX4_addStrike_22 ⟨_, rfl, hw⟩
set_option maxRecDepth 20000 in
set_option maxHeartbeats 4000000 in
theorem sim_X13_strike {z : Mz} {l : Launch} {p1 : Int} {h : Mh} {K : Int → Mh → Prop} (hw : wp_X13_strike p1 h K) : mCal (XC z) l yX13_strike cX13_strike 2 (some Jvm.ClassFile.FieldType.int) 1 21 [(2, 0), (0, p1)] h (mKi K) := by
  refine m_entry RX13 rfl (by decide) rfl (fun p e s m args below meth c C hr => ?_)
  show mG _ p l e _ s m args below meth c _ _ 0 [(0, (2, 0)), (1, (0, p1))] [] h
  unfold wp_X13_strike at hw
  refine g_aload_n C dX13_strike_0 rfl (by decide) rfl ?_
  refine gw_X13_43 C dX13_strike_1 kdC_0 wwC_0_5 ?_
  refine g_iload_n C dX13_strike_4 rfl rfl ?_
  refine g_callVi C [(0, p1)] (sim_X4_addStrike hw) k_1258 k_1259 k_1260 k_143 k_1261 hdV_X4_addStrike rfl rfl (by decide) rfl kdC_107 rfl rfl rfl dX13_strike_5 ?_
  intro x1 h1 hw
  exact g_iret C hr dX13_strike_8 ⟨_, rfl, hw⟩
set_option maxRecDepth 20000 in
set_option maxHeartbeats 4000000 in
theorem sim_X13_tale {z : Mz} {l : Launch} {p1 : Int} {p2 : Int} {h : Mh} {K : Int → Mh → Prop} (hw : wp_X13_tale p1 p2 h K) : mCal (XC z) l yX13_tale cX13_tale 3 (some Jvm.ClassFile.FieldType.int) 6 160 [(2, 0), (0, p1), (0, p2)] h (mKi K) := by
  refine m_entry RX13 rfl (by decide) rfl (fun p e s m args below meth c C hr => ?_)
  show mG _ p l e _ s m args below meth c _ _ 0 [(0, (2, 0)), (1, (0, p1)), (2, (0, p2))] [] h
  unfold wp_X13_tale at hw
  refine g_iload_n C dX13_tale_0 rfl rfl ?_
  refine g_if_lt C 13 dX13_tale_1 rfl hw (fun hw => ?_) (fun hw => ?_)
  · refine g_iconst C ⟨by decide, by decide⟩ dX13_tale_13 ?_
    exact g_iret C hr dX13_tale_14 ⟨_, rfl, hw⟩
  · refine g_iload_n C dX13_tale_4 rfl rfl ?_
    refine g_if_lt C 13 dX13_tale_5 rfl hw (fun hw => ?_) (fun hw => ?_)
    · refine g_iconst C ⟨by decide, by decide⟩ dX13_tale_13 ?_
      exact g_iret C hr dX13_tale_14 ⟨_, rfl, hw⟩
    · refine g_iload_n C dX13_tale_8 rfl rfl ?_
      refine g_iconst C ⟨by decide, by decide⟩ dX13_tale_9 ?_
      refine g_icmp_le C 15 dX13_tale_10 rfl hw (fun hw => ?_) (fun hw => ?_)
      · refine g_aload_n C dX13_tale_15 rfl (by decide) rfl ?_
        refine gw_X13_52 C dX13_tale_16 kdC_0 wwC_0_6 ?_
        refine g_callVv C [] (sim_X6_freshenWays hw) k_1009 k_1010 k_1011 k_144 k_1012 hdV_X6_freshenWays rfl rfl (by decide) rfl kdC_115 rfl rfl rfl dX13_tale_19 ?_
        intro h1 hw
        refine g_aload_n C dX13_tale_22 rfl (by decide) rfl ?_
        refine gw_X13_70 C dX13_tale_23 kdC_0 wwC_0_8 ?_
        refine g_iload_n C dX13_tale_26 rfl rfl ?_
        refine g_callVi C [(0, p1)] (sim_X2_walkTales hw) k_1274 k_1275 k_1276 k_146 k_1277 hdV_X2_walkTales rfl rfl (by decide) rfl kdC_123 rfl rfl rfl dX13_tale_27 ?_
        intro x1 h2 hw
        refine g_iload_n C dX13_tale_30 rfl rfl ?_
        refine g_icmp_le C 49 dX13_tale_31 rfl hw (fun hw => ?_) (fun hw => ?_)
        · refine g_bipush C ⟨by decide, by decide⟩ (by decide) dX13_tale_49 ?_
          exact g_iret C hr dX13_tale_51 ⟨_, rfl, hw⟩
        · refine g_aload_n C dX13_tale_34 rfl (by decide) rfl ?_
          refine gw_X13_70 C dX13_tale_35 kdC_0 wwC_0_8 ?_
          refine gw_X13_272 C dX13_tale_38 kdC_123 wwC_123_3 ?_
          refine g_iconst C ⟨by decide, by decide⟩ dX13_tale_41 ?_
          refine g_iload_n C dX13_tale_42 rfl rfl ?_
          refine g_callVi C [(0, 0), (0, p2)] (sim_X1_part wirC kdC_124 hw) k_1001 k_1002 k_1003 k_138 k_1004 hdV_X1_part rfl rfl (by decide) rfl kdC_124 rfl rfl rfl dX13_tale_43 ?_
          intro x2 h3 hw
          refine g_goto C 51 dX13_tale_46 rfl ?_
          exact g_iret C hr dX13_tale_51 ⟨_, rfl, hw⟩
      · refine g_iconst C ⟨by decide, by decide⟩ dX13_tale_13 ?_
        exact g_iret C hr dX13_tale_14 ⟨_, rfl, hw⟩
set_option maxRecDepth 20000 in
set_option maxHeartbeats 4000000 in
theorem sim_X13_tales {z : Mz} {l : Launch} {h : Mh} {K : Int → Mh → Prop} (hw : wp_X13_tales h K) : mCal (XC z) l yX13_tales cX13_tales 1 (some Jvm.ClassFile.FieldType.int) 6 160 [(2, 0)] h (mKi K) := by
  refine m_entry RX13 rfl (by decide) rfl (fun p e s m args below meth c C hr => ?_)
  show mG _ p l e _ s m args below meth c _ _ 0 [(0, (2, 0))] [] h
  unfold wp_X13_tales at hw
  refine g_aload_n C dX13_tales_0 rfl (by decide) rfl ?_
  refine gw_X13_52 C dX13_tales_1 kdC_0 wwC_0_6 ?_
  refine g_callVv C [] (sim_X6_freshenWays hw) k_1009 k_1010 k_1011 k_144 k_1012 hdV_X6_freshenWays rfl rfl (by decide) rfl kdC_115 rfl rfl rfl dX13_tales_4 ?_
  intro h1 hw
  refine g_aload_n C dX13_tales_7 rfl (by decide) rfl ?_
  refine gw_X13_70 C dX13_tales_8 kdC_0 wwC_0_8 ?_
  refine g_iconst C ⟨by decide, by decide⟩ dX13_tales_11 ?_
  refine g_callVi C [(0, (-1))] (sim_X2_walkTales hw) k_1274 k_1275 k_1276 k_146 k_1277 hdV_X2_walkTales rfl rfl (by decide) rfl kdC_123 rfl rfl rfl dX13_tales_12 ?_
  intro x1 h2 hw
  exact g_iret C hr dX13_tales_15 ⟨_, rfl, hw⟩
set_option maxRecDepth 20000 in
set_option maxHeartbeats 4000000 in
theorem sim_X13_undo {z : Mz} {l : Launch} {h : Mh} {K : Int → Mh → Prop} (hw : wp_X13_undo h K) : mCal (XC z) l yX13_undo cX13_undo 1 (some Jvm.ClassFile.FieldType.int) 2 43 [(2, 0)] h (mKi K) := by
  refine m_entry RX13 rfl (by decide) rfl (fun p e s m args below meth c C hr => ?_)
  show mG _ p l e _ s m args below meth c _ _ 0 [(0, (2, 0))] [] h
  unfold wp_X13_undo at hw
  refine g_aload_n C dX13_undo_0 rfl (by decide) rfl ?_
  refine gw_X13_36 C dX13_undo_1 kdC_0 wwC_0_4 ?_
  refine g_callVi C [] (sim_X11_undoLatest hw) k_1238 k_1239 k_1240 k_142 k_1241 hdV_X11_undoLatest rfl rfl (by decide) rfl kdC_53 rfl rfl rfl dX13_undo_4 ?_
  intro x1 h1 hw
  exact g_iret C hr dX13_undo_7 ⟨_, rfl, hw⟩
set_option maxRecDepth 20000 in
set_option maxHeartbeats 4000000 in
theorem sim_X6_weakOf {z : Mz} {l : Launch} {p1 : Int} {p2 : Int} {h : Mh} {K : Int → Mh → Prop} (hw : wp_X6_weakOf p1 p2 h K) : mCal (XC z) l yX6_weakOf cX6_weakOf 4 (some Jvm.ClassFile.FieldType.int) 0 0 [(2, 115), (0, p1), (0, p2)] h (mKi K) := by
  refine m_entry RX6 rfl (by decide) rfl (fun p e s m args below meth c C hr => ?_)
  have hQ : ∀ x, Lfp (F_X6_weakOf p1 p2 K) x → (match x.1, x.2.1 with | 24, [] => mG (XC z) p l e { frames := 0, cells := 0, slots := 0, locals := 0 } s m args below meth c 4 (mMQ (XC z) (mKi K) below args s) 24 [(0, (2, 115)), (1, (0, p1)), (2, (0, p2))] [] x.2.2 | _, _ => True) := by
    intro x hx
    refine Lfp.ind (fun x => (match x.1, x.2.1 with | 24, [] => mG (XC z) p l e { frames := 0, cells := 0, slots := 0, locals := 0 } s m args below meth c 4 (mMQ (XC z) (mKi K) below args s) 24 [(0, (2, 115)), (1, (0, p1)), (2, (0, p2))] [] x.2.2 | _, _ => True)) ?_ hx
    clear hx x
    intro Z x hQ hw
    rcases hw with ⟨h, rfl, hw⟩
    · show mG (XC z) p l e { frames := 0, cells := 0, slots := 0, locals := 0 } s m args below meth c 4 (mMQ (XC z) (mKi K) below args s) 24 [(0, (2, 115)), (1, (0, p1)), (2, (0, p2))] [] h
      unfold B_X6_weakOf_24 at hw
      refine g_iconst C ⟨by decide, by decide⟩ dX6_weakOf_24 ?_
      refine g_istore_n C dX6_weakOf_25 rfl (by decide) ?_
      refine g_iload_n C dX6_weakOf_26 rfl rfl ?_
      refine g_if_eq C 44 dX6_weakOf_27 rfl hw (fun hw => ?_) (fun hw => ?_)
      · refine g_bipush C ⟨by decide, by decide⟩ (by decide) dX6_weakOf_44 ?_
        exact g_iret C hr dX6_weakOf_46 ⟨_, rfl, hw⟩
      · refine g_aload_n C dX6_weakOf_30 rfl (by decide) rfl ?_
        refine gw_X6_18 C dX6_weakOf_31 kdC_115 wwC_115_3 ?_
        refine g_iload_n C dX6_weakOf_34 rfl rfl ?_
        refine g_bipush C ⟨by decide, by decide⟩ (by decide) dX6_weakOf_35 ?_
        refine g_imul C dX6_weakOf_37 ?_
        refine g_iload_n C dX6_weakOf_38 rfl rfl ?_
        refine g_iadd C dX6_weakOf_39 ?_
        obtain ⟨⟨b2, b2b⟩, hw⟩ := hw
        refine g_iaload C dX6_weakOf_40 kdC_118 b2 b2b (fun z40 => ?_)
        refine g_goto C 46 dX6_weakOf_41 rfl ?_
        exact g_iret C hr dX6_weakOf_46 ⟨_, rfl, hw⟩
  show mG _ p l e _ s m args below meth c _ _ 0 [(0, (2, 115)), (1, (0, p1)), (2, (0, p2))] [] h
  unfold wp_X6_weakOf at hw
  replace hw := id hw
  refine g_iload_n C dX6_weakOf_0 rfl rfl ?_
  refine g_if_lt C 24 dX6_weakOf_1 rfl hw (fun hw => ?_) (fun hw => ?_)
  · exact g_sub [0, 1, 2] rfl (hQ _ hw)
  · refine g_iload_n C dX6_weakOf_4 rfl rfl ?_
    refine g_bipush C ⟨by decide, by decide⟩ (by decide) dX6_weakOf_5 ?_
    refine g_icmp_ge C 24 dX6_weakOf_7 rfl hw (fun hw => ?_) (fun hw => ?_)
    · exact g_sub [0, 1, 2] rfl (hQ _ hw)
    · refine g_iload_n C dX6_weakOf_10 rfl rfl ?_
      refine g_if_lt C 24 dX6_weakOf_11 rfl hw (fun hw => ?_) (fun hw => ?_)
      · exact g_sub [0, 1, 2] rfl (hQ _ hw)
      · refine g_iload_n C dX6_weakOf_14 rfl rfl ?_
        refine g_bipush C ⟨by decide, by decide⟩ (by decide) dX6_weakOf_15 ?_
        refine g_icmp_ge C 24 dX6_weakOf_17 rfl hw (fun hw => ?_) (fun hw => ?_)
        · exact g_sub [0, 1, 2] rfl (hQ _ hw)
        · refine g_iconst C ⟨by decide, by decide⟩ dX6_weakOf_20 ?_
          refine g_goto C 25 dX6_weakOf_21 rfl ?_
          refine g_istore_n C dX6_weakOf_25 rfl (by decide) ?_
          refine g_iload_n C dX6_weakOf_26 rfl rfl ?_
          refine g_if_eq C 44 dX6_weakOf_27 rfl hw (fun hw => ?_) (fun hw => ?_)
          · refine g_bipush C ⟨by decide, by decide⟩ (by decide) dX6_weakOf_44 ?_
            exact g_iret C hr dX6_weakOf_46 ⟨_, rfl, hw⟩
          · refine g_aload_n C dX6_weakOf_30 rfl (by decide) rfl ?_
            refine gw_X6_18 C dX6_weakOf_31 kdC_115 wwC_115_3 ?_
            refine g_iload_n C dX6_weakOf_34 rfl rfl ?_
            refine g_bipush C ⟨by decide, by decide⟩ (by decide) dX6_weakOf_35 ?_
            refine g_imul C dX6_weakOf_37 ?_
            refine g_iload_n C dX6_weakOf_38 rfl rfl ?_
            refine g_iadd C dX6_weakOf_39 ?_
            obtain ⟨⟨b1, b1b⟩, hw⟩ := hw
            refine g_iaload C dX6_weakOf_40 kdC_118 b1 b1b (fun z40 => ?_)
            refine g_goto C 46 dX6_weakOf_41 rfl ?_
            exact g_iret C hr dX6_weakOf_46 ⟨_, rfl, hw⟩
set_option maxRecDepth 20000 in
set_option maxHeartbeats 4000000 in
theorem sim_X13_weak {z : Mz} {l : Launch} {p1 : Int} {p2 : Int} {h : Mh} {K : Int → Mh → Prop} (hw : wp_X13_weak p1 p2 h K) : mCal (XC z) l yX13_weak cX13_weak 3 (some Jvm.ClassFile.FieldType.int) 4 94 [(2, 0), (0, p1), (0, p2)] h (mKi K) := by
  refine m_entry RX13 rfl (by decide) rfl (fun p e s m args below meth c C hr => ?_)
  show mG _ p l e _ s m args below meth c _ _ 0 [(0, (2, 0)), (1, (0, p1)), (2, (0, p2))] [] h
  unfold wp_X13_weak at hw
  refine g_aload_n C dX13_weak_0 rfl (by decide) rfl ?_
  refine gw_X13_36 C dX13_weak_1 kdC_0 wwC_0_4 ?_
  refine gf_X13_86 C dX13_weak_4 kdC_53 (fun z4 => ?_)
  refine g_iload_n C dX13_weak_7 rfl rfl ?_
  obtain ⟨q1, hw⟩ := hw
  refine g_callVz C [(0, p1)] (sim_X5_isWet wirC q1 hw) k_985 k_986 k_987 k_135 k_988 hdV_X5_isWet rfl rfl (by decide) rfl q1 rfl rfl rfl dX13_weak_8 ?_
  intro x1 h1 zb8 hw
  refine g_if_eq C 28 dX13_weak_11 rfl hw (fun hw => ?_) (fun hw => ?_)
  · refine g_iconst C ⟨by decide, by decide⟩ dX13_weak_28 ?_
    exact g_iret C hr dX13_weak_29 ⟨_, rfl, hw⟩
  · refine g_aload_n C dX13_weak_14 rfl (by decide) rfl ?_
    refine gw_X13_36 C dX13_weak_15 kdC_0 wwC_0_4 ?_
    refine gf_X13_86 C dX13_weak_18 kdC_53 (fun z18 => ?_)
    refine g_iload_n C dX13_weak_21 rfl rfl ?_
    obtain ⟨q2, hw⟩ := hw
    refine g_callVz C [(0, p2)] (sim_X5_isWet wirC q2 hw) k_985 k_986 k_987 k_135 k_988 hdV_X5_isWet rfl rfl (by decide) rfl q2 rfl rfl rfl dX13_weak_22 ?_
    intro x2 h2 zb22 hw
    refine g_if_ne C 30 dX13_weak_25 rfl hw (fun hw => ?_) (fun hw => ?_)
    · refine g_aload_n C dX13_weak_30 rfl (by decide) rfl ?_
      refine gw_X13_52 C dX13_weak_31 kdC_0 wwC_0_6 ?_
      refine g_callVv C [] (sim_X6_freshenWays hw) k_1009 k_1010 k_1011 k_144 k_1012 hdV_X6_freshenWays rfl rfl (by decide) rfl kdC_115 rfl rfl rfl dX13_weak_34 ?_
      intro h3 hw
      refine g_aload_n C dX13_weak_37 rfl (by decide) rfl ?_
      refine gw_X13_52 C dX13_weak_38 kdC_0 wwC_0_6 ?_
      refine g_iload_n C dX13_weak_41 rfl rfl ?_
      refine g_iload_n C dX13_weak_42 rfl rfl ?_
      refine g_callVi C [(0, p1), (0, p2)] (sim_X6_weakOf hw) k_1044 k_1045 k_1046 k_144 k_1047 hdV_X6_weakOf rfl rfl (by decide) rfl kdC_115 rfl rfl rfl dX13_weak_43 ?_
      intro x3 h4 hw
      exact g_iret C hr dX13_weak_46 ⟨_, rfl, hw⟩
    · refine g_iconst C ⟨by decide, by decide⟩ dX13_weak_28 ?_
      exact g_iret C hr dX13_weak_29 ⟨_, rfl, hw⟩
set_option maxRecDepth 20000 in
set_option maxHeartbeats 4000000 in
theorem sim_X8_cellAhead {z : Mz} {l : Launch} {p1 : Int} {p2 : Int} {h : Mh} {K : Int → Mh → Prop} (hw : wp_X8_cellAhead p1 p2 h K) : mCal (XC z) l yX8_cellAhead cX8_cellAhead 3 (some Jvm.ClassFile.FieldType.int) 6 158 [(2, 121), (0, p1), (0, p2)] h (mKi K) := by
  refine m_entry RX8 rfl (by decide) rfl (fun p e s m args below meth c C hr => ?_)
  show mG _ p l e _ s m args below meth c _ _ 0 [(0, (2, 121)), (1, (0, p1)), (2, (0, p2))] [] h
  unfold wp_X8_cellAhead at hw
  refine g_aload_n C dX8_cellAhead_0 rfl (by decide) rfl ?_
  refine g_iload_n C dX8_cellAhead_1 rfl rfl ?_
  refine g_iload_n C dX8_cellAhead_2 rfl rfl ?_
  refine g_callVv C [(0, p1), (0, p2)] (sim_X8_follow hw) k_1158 k_1160 k_47 k_145 k_1161 hdV_X8_follow rfl rfl (by decide) rfl kdC_121 rfl rfl rfl dX8_cellAhead_3 ?_
  intro h1 hw
  refine g_iload_n C dX8_cellAhead_6 rfl rfl ?_
  refine g_if_lt C 28 dX8_cellAhead_7 rfl hw (fun hw => ?_) (fun hw => ?_)
  · refine g_iconst C ⟨by decide, by decide⟩ dX8_cellAhead_28 ?_
    exact g_iret C hr dX8_cellAhead_29 ⟨_, rfl, hw⟩
  · refine g_iload_n C dX8_cellAhead_10 rfl rfl ?_
    refine g_aload_n C dX8_cellAhead_11 rfl (by decide) rfl ?_
    refine gw_X8_9 C dX8_cellAhead_12 kdC_121 wwC_121_2 ?_
    refine g_alen C dX8_cellAhead_15 (ci := 14) (by decide) skC_122 (by decide) ?_
    refine g_icmp_ge C 28 dX8_cellAhead_16 rfl hw (fun hw => ?_) (fun hw => ?_)
    · refine g_iconst C ⟨by decide, by decide⟩ dX8_cellAhead_28 ?_
      exact g_iret C hr dX8_cellAhead_29 ⟨_, rfl, hw⟩
    · refine g_aload_n C dX8_cellAhead_19 rfl (by decide) rfl ?_
      refine gw_X8_9 C dX8_cellAhead_20 kdC_121 wwC_121_2 ?_
      refine g_iload_n C dX8_cellAhead_23 rfl rfl ?_
      obtain ⟨⟨b1, b1b⟩, hw⟩ := hw
      refine g_iaload C dX8_cellAhead_24 kdC_122 b1 b1b (fun z24 => ?_)
      refine g_goto C 29 dX8_cellAhead_25 rfl ?_
      exact g_iret C hr dX8_cellAhead_29 ⟨_, rfl, hw⟩
set_option maxRecDepth 20000 in
set_option maxHeartbeats 4000000 in
theorem sim_X13_where {z : Mz} {l : Launch} {p1 : Int} {p2 : Int} {h : Mh} {K : Int → Mh → Prop} (hw : wp_X13_where p1 p2 h K) : mCal (XC z) l yX13_where cX13_where 3 (some Jvm.ClassFile.FieldType.int) 7 180 [(2, 0), (0, p1), (0, p2)] h (mKi K) := by
  refine m_entry RX13 rfl (by decide) rfl (fun p e s m args below meth c C hr => ?_)
  show mG _ p l e _ s m args below meth c _ _ 0 [(0, (2, 0)), (1, (0, p1)), (2, (0, p2))] [] h
  unfold wp_X13_where at hw
  refine g_aload_n C dX13_where_0 rfl (by decide) rfl ?_
  refine gw_X13_36 C dX13_where_1 kdC_0 wwC_0_4 ?_
  refine gf_X13_86 C dX13_where_4 kdC_53 (fun z4 => ?_)
  obtain ⟨q1, hw⟩ := hw
  refine gw_X13_117 C dX13_where_7 q1 (wir_4_12 wirC q1) ?_
  refine g_iload_n C dX13_where_10 rfl rfl ?_
  refine g_callVz C [(0, p1)] (sim_X7_has wirC (kid_4_12 wirC q1) hw) k_1107 k_1108 k_1109 k_136 k_1110 hdV_X7_has rfl rfl (by decide) rfl (kid_4_12 wirC q1) rfl rfl rfl dX13_where_11 ?_
  intro x1 h1 zb11 hw
  refine g_if_eq C 26 dX13_where_14 rfl hw (fun hw => ?_) (fun hw => ?_)
  · refine g_iconst C ⟨by decide, by decide⟩ dX13_where_26 ?_
    exact g_iret C hr dX13_where_27 ⟨_, rfl, hw⟩
  · refine g_iload_n C dX13_where_17 rfl rfl ?_
    refine g_bipush C ⟨by decide, by decide⟩ (by decide) dX13_where_18 ?_
    refine g_callSz C [(0, p2), (0, 100)] (sim_X13_isStep hw) k_1052 k_1053 k_134 k_1054 hdS_X13_isStep rfl rfl rfl rfl rfl dX13_where_20 ?_
    intro x2 h2 zb20 hw
    refine g_if_ne C 28 dX13_where_23 rfl hw (fun hw => ?_) (fun hw => ?_)
    · refine g_aload_n C dX13_where_28 rfl (by decide) rfl ?_
      refine gw_X13_52 C dX13_where_29 kdC_0 wwC_0_6 ?_
      refine g_callVv C [] (sim_X6_freshenSums hw) k_1056 k_1057 k_1058 k_144 k_1059 hdV_X6_freshenSums rfl rfl (by decide) rfl kdC_115 rfl rfl rfl dX13_where_32 ?_
      intro h3 hw
      refine g_aload_n C dX13_where_35 rfl (by decide) rfl ?_
      refine gw_X13_61 C dX13_where_36 kdC_0 wwC_0_7 ?_
      refine g_iload_n C dX13_where_39 rfl rfl ?_
      refine g_iload_n C dX13_where_40 rfl rfl ?_
      refine g_callVi C [(0, p1), (0, p2)] (sim_X8_cellAhead hw) k_1154 k_1155 k_1156 k_145 k_1157 hdV_X8_cellAhead rfl rfl (by decide) rfl kdC_121 rfl rfl rfl dX13_where_41 ?_
      intro x3 h4 hw
      exact g_iret C hr dX13_where_44 ⟨_, rfl, hw⟩
    · refine g_iconst C ⟨by decide, by decide⟩ dX13_where_26 ?_
      exact g_iret C hr dX13_where_27 ⟨_, rfl, hw⟩
set_option maxRecDepth 20000 in
set_option maxHeartbeats 4000000 in
theorem sim_X4_clear {z : Mz} {l : Launch} {h : Mh} {K : Mh → Prop} (hw : wp_X4_clear h K) : mCal (XC z) l yX4_clear cX4_clear 1 none 0 0 [(2, 107)] h (mKv K) := by
  refine m_entry RX4 rfl (by decide) rfl (fun p e s m args below meth c C hr => ?_)
  show mG _ p l e _ s m args below meth c _ _ 0 [(0, (2, 107))] [] h
  unfold wp_X4_clear at hw
  refine g_aload_n C dX4_clear_0 rfl (by decide) rfl ?_
  refine g_iconst C ⟨by decide, by decide⟩ dX4_clear_1 ?_
  refine gp_X4_41 C dX4_clear_2 kdC_107 (fun z => z) ?_
  refine g_heap (fun h1 eh1 => ?_)
  replace hw := hw h1 eh1
  refine g_aload_n C dX4_clear_5 rfl (by decide) rfl ?_
  refine g_iconst C ⟨by decide, by decide⟩ dX4_clear_6 ?_
  refine gp_X4_37 C dX4_clear_7 kdC_107 (fun z => z) ?_
  refine g_heap (fun h2 eh2 => ?_)
  replace hw := hw h2 eh2
  exact g_vret C hr dX4_clear_10 ⟨rfl, hw⟩
set_option maxRecDepth 20000 in
set_option maxHeartbeats 4000000 in
theorem sim_X9_refuse {z : Mz} {l : Launch} {p1 : Int} {h : Mh} {K : Int → Mh → Prop} (hw : wp_X9_refuse p1 h K) : mCal (XC z) l yX9_refuse cX9_refuse 2 (some Jvm.ClassFile.FieldType.boolean) 0 0 [(2, 46), (0, p1)] h (mKz K) := by
  refine m_entry RX9 rfl (by decide) rfl (fun p e s m args below meth c C hr => ?_)
  show mG _ p l e _ s m args below meth c _ _ 0 [(0, (2, 46)), (1, (0, p1))] [] h
  unfold wp_X9_refuse at hw
  refine g_aload_n C dX9_refuse_0 rfl (by decide) rfl ?_
  refine g_iload_n C dX9_refuse_1 rfl rfl ?_
  refine gp_X9_40 C dX9_refuse_2 kdC_46 (fun z => z) ?_
  refine g_heap (fun h1 eh1 => ?_)
  replace hw := hw h1 eh1
  refine g_aload_n C dX9_refuse_5 rfl (by decide) rfl ?_
  refine g_aload_n C dX9_refuse_6 rfl (by decide) rfl ?_
  refine gw_X9_27 C dX9_refuse_7 kdC_46 wwC_46_0 ?_
  refine gf_X9_76 C dX9_refuse_10 kdC_49 (fun z10 => ?_)
  refine gp_X9_9 C dX9_refuse_13 kdC_46 (fun z => z) ?_
  refine g_heap (fun h2 eh2 => ?_)
  replace hw := hw h2 eh2
  refine g_iconst C ⟨by decide, by decide⟩ dX9_refuse_16 ?_
  exact g_zret C hr (Or.inl rfl) dX9_refuse_17 ⟨_, rfl, (Or.inl rfl), hw⟩
set_option maxRecDepth 20000 in
set_option maxHeartbeats 4000000 in
theorem sim_X9_beginCells {z : Mz} {l : Launch} {p1 : Int} {h : Mh} {K : Int → Mh → Prop} (hw : wp_X9_beginCells p1 h K) : mCal (XC z) l yX9_beginCells cX9_beginCells 2 (some Jvm.ClassFile.FieldType.boolean) 2 42 [(2, 46), (0, p1)] h (mKz K) := by
  refine m_entry RX9 rfl (by decide) rfl (fun p e s m args below meth c C hr => ?_)
  show mG _ p l e _ s m args below meth c _ _ 0 [(0, (2, 46)), (1, (0, p1))] [] h
  unfold wp_X9_beginCells at hw
  refine g_iload_n C dX9_beginCells_0 rfl rfl ?_
  refine g_if_eq C 10 dX9_beginCells_1 rfl hw (fun hw => ?_) (fun hw => ?_)
  · refine g_aload_n C dX9_beginCells_10 rfl (by decide) rfl ?_
    refine g_iconst C ⟨by decide, by decide⟩ dX9_beginCells_11 ?_
    refine gp_X9_59 C dX9_beginCells_12 kdC_46 (fun _ => (Or.inr rfl)) ?_
    refine g_heap (fun h1 eh1 => ?_)
    replace hw := hw h1 eh1
    refine g_aload_n C dX9_beginCells_15 rfl (by decide) rfl ?_
    refine gw_X9_27 C dX9_beginCells_16 kdC_46 wwC_46_0 ?_
    refine g_callVv C [] (sim_X10_advance hw) k_782 k_758 k_759 k_141 k_760 hdV_X10_advance rfl rfl (by decide) rfl kdC_49 rfl rfl rfl dX9_beginCells_19 ?_
    intro h2 hw
    refine g_iconst C ⟨by decide, by decide⟩ dX9_beginCells_22 ?_
    exact g_zret C hr (Or.inr rfl) dX9_beginCells_23 ⟨_, rfl, (Or.inr rfl), hw⟩
  · refine g_aload_n C dX9_beginCells_4 rfl (by decide) rfl ?_
    refine g_iconst C ⟨by decide, by decide⟩ dX9_beginCells_5 ?_
    refine g_callVz C [(0, 2)] (sim_X9_refuse hw) k_766 k_768 k_7 k_140 k_769 hdV_X9_refuse rfl rfl (by decide) rfl kdC_46 rfl rfl rfl dX9_beginCells_6 ?_
    intro x1 h3 zb6 hw
    exact g_zret C hr zb6 dX9_beginCells_9 ⟨_, rfl, zb6, hw⟩
set_option maxRecDepth 20000 in
set_option maxHeartbeats 4000000 in
theorem sim_X9_hold {z : Mz} {l : Launch} {p1 : Int} {p2 : Int} {h : Mh} {K : Int → Mh → Prop} (hw : wp_X9_hold p1 p2 h K) : mCal (XC z) l yX9_hold cX9_hold 3 (some Jvm.ClassFile.FieldType.boolean) 1 21 [(2, 46), (0, p1), (0, p2)] h (mKz K) := by
  refine m_entry RX9 rfl (by decide) rfl (fun p e s m args below meth c C hr => ?_)
  show mG _ p l e _ s m args below meth c _ _ 0 [(0, (2, 46)), (1, (0, p1)), (2, (0, p2))] [] h
  unfold wp_X9_hold at hw
  refine g_aload_n C dX9_hold_0 rfl (by decide) rfl ?_
  refine gf_X9_283 C dX9_hold_1 kdC_46 (fun z1 => ?_)
  refine g_if_lt C 19 dX9_hold_4 rfl hw (fun hw => ?_) (fun hw => ?_)
  · refine g_aload_n C dX9_hold_19 rfl (by decide) rfl ?_
    refine g_iconst C ⟨by decide, by decide⟩ dX9_hold_20 ?_
    refine g_callVz C [(0, 2)] (sim_X9_refuse hw) k_766 k_768 k_7 k_140 k_769 hdV_X9_refuse rfl rfl (by decide) rfl kdC_46 rfl rfl rfl dX9_hold_21 ?_
    intro x1 h1 zb21 hw
    exact g_zret C hr zb21 dX9_hold_24 ⟨_, rfl, zb21, hw⟩
  · refine g_aload_n C dX9_hold_7 rfl (by decide) rfl ?_
    refine gf_X9_283 C dX9_hold_8 kdC_46 (fun z8 => ?_)
    refine g_aload_n C dX9_hold_11 rfl (by decide) rfl ?_
    refine gw_X9_15 C dX9_hold_12 kdC_46 wwC_46_10 ?_
    refine g_alen C dX9_hold_15 (ci := 14) (by decide) skC_47 (by decide) ?_
    refine g_icmp_lt C 25 dX9_hold_16 rfl hw (fun hw => ?_) (fun hw => ?_)
    · refine g_aload_n C dX9_hold_25 rfl (by decide) rfl ?_
      refine gw_X9_15 C dX9_hold_26 kdC_46 wwC_46_10 ?_
      refine g_aload_n C dX9_hold_29 rfl (by decide) rfl ?_
      refine gf_X9_283 C dX9_hold_30 kdC_46 (fun z30 => ?_)
      refine g_iload_n C dX9_hold_33 rfl rfl ?_
      obtain ⟨⟨b1, b1b⟩, hw⟩ := hw
      refine g_iastore C dX9_hold_34 kdC_47 b1 b1b (fun z => z) ?_
      refine g_heap (fun h2 eh2 => ?_)
      replace hw := hw h2 eh2
      refine g_aload_n C dX9_hold_35 rfl (by decide) rfl ?_
      refine gw_X9_19 C dX9_hold_36 kdC_46 wwC_46_11 ?_
      refine g_aload_n C dX9_hold_39 rfl (by decide) rfl ?_
      refine gf_X9_283 C dX9_hold_40 kdC_46 (fun z40 => ?_)
      refine g_iload_n C dX9_hold_43 rfl rfl ?_
      obtain ⟨⟨b2, b2b⟩, hw⟩ := hw
      refine g_iastore C dX9_hold_44 kdC_48 b2 b2b (fun z => z) ?_
      refine g_heap (fun h3 eh3 => ?_)
      replace hw := hw h3 eh3
      refine g_aload_n C dX9_hold_45 rfl (by decide) rfl ?_
      refine g_dup C (by show ¬ (2 : Nat) = 1; decide) dX9_hold_46 ?_
      refine gf_X9_283 C dX9_hold_47 kdC_46 (fun z47 => ?_)
      refine g_iconst C ⟨by decide, by decide⟩ dX9_hold_50 ?_
      refine g_iadd C dX9_hold_51 ?_
      refine gp_X9_283 C dX9_hold_52 kdC_46 (fun z => z) ?_
      refine g_heap (fun h4 eh4 => ?_)
      replace hw := hw h4 eh4
      refine g_iconst C ⟨by decide, by decide⟩ dX9_hold_55 ?_
      exact g_zret C hr (Or.inr rfl) dX9_hold_56 ⟨_, rfl, (Or.inr rfl), hw⟩
    · refine g_aload_n C dX9_hold_19 rfl (by decide) rfl ?_
      refine g_iconst C ⟨by decide, by decide⟩ dX9_hold_20 ?_
      refine g_callVz C [(0, 2)] (sim_X9_refuse hw) k_766 k_768 k_7 k_140 k_769 hdV_X9_refuse rfl rfl (by decide) rfl kdC_46 rfl rfl rfl dX9_hold_21 ?_
      intro x2 h5 zb21 hw
      exact g_zret C hr zb21 dX9_hold_24 ⟨_, rfl, zb21, hw⟩
set_option maxRecDepth 20000 in
set_option maxHeartbeats 4000000 in
theorem sim_X9_isRoomForKnot {z : Mz} {l : Launch} {h : Mh} {K : Int → Mh → Prop} (hw : wp_X9_isRoomForKnot h K) : mCal (XC z) l yX9_isRoomForKnot cX9_isRoomForKnot 1 (some Jvm.ClassFile.FieldType.boolean) 1 21 [(2, 46)] h (mKz K) := by
  refine m_entry RX9 rfl (by decide) rfl (fun p e s m args below meth c C hr => ?_)
  show mG _ p l e _ s m args below meth c _ _ 0 [(0, (2, 46))] [] h
  unfold wp_X9_isRoomForKnot at hw
  refine g_aload_n C dX9_isRoomForKnot_0 rfl (by decide) rfl ?_
  refine gf_X9_289 C dX9_isRoomForKnot_1 kdC_46 (fun z1 => ?_)
  refine g_bipush C ⟨by decide, by decide⟩ (by decide) dX9_isRoomForKnot_4 ?_
  refine g_icmp_lt C 15 dX9_isRoomForKnot_6 rfl hw (fun hw => ?_) (fun hw => ?_)
  · refine g_aload_n C dX9_isRoomForKnot_15 rfl (by decide) rfl ?_
    refine g_dup C (by show ¬ (2 : Nat) = 1; decide) dX9_isRoomForKnot_16 ?_
    refine gf_X9_289 C dX9_isRoomForKnot_17 kdC_46 (fun z17 => ?_)
    refine g_iconst C ⟨by decide, by decide⟩ dX9_isRoomForKnot_20 ?_
    refine g_iadd C dX9_isRoomForKnot_21 ?_
    refine gp_X9_289 C dX9_isRoomForKnot_22 kdC_46 (fun z => z) ?_
    refine g_heap (fun h1 eh1 => ?_)
    replace hw := hw h1 eh1
    refine g_iconst C ⟨by decide, by decide⟩ dX9_isRoomForKnot_25 ?_
    exact g_zret C hr (Or.inr rfl) dX9_isRoomForKnot_26 ⟨_, rfl, (Or.inr rfl), hw⟩
  · refine g_aload_n C dX9_isRoomForKnot_9 rfl (by decide) rfl ?_
    refine g_iconst C ⟨by decide, by decide⟩ dX9_isRoomForKnot_10 ?_
    refine g_callVz C [(0, 2)] (sim_X9_refuse hw) k_766 k_768 k_7 k_140 k_769 hdV_X9_refuse rfl rfl (by decide) rfl kdC_46 rfl rfl rfl dX9_isRoomForKnot_11 ?_
    intro x1 h2 zb11 hw
    exact g_zret C hr zb11 dX9_isRoomForKnot_14 ⟨_, rfl, zb11, hw⟩
set_option maxRecDepth 20000 in
set_option maxHeartbeats 4000000 in
theorem sim_X9_lawEnds {z : Mz} {l : Launch} {h : Mh} {K : Int → Mh → Prop} (hw : wp_X9_lawEnds h K) : mCal (XC z) l yX9_lawEnds cX9_lawEnds 1 (some Jvm.ClassFile.FieldType.boolean) 1 21 [(2, 46)] h (mKz K) := by
  refine m_entry RX9 rfl (by decide) rfl (fun p e s m args below meth c C hr => ?_)
  show mG _ p l e _ s m args below meth c _ _ 0 [(0, (2, 46))] [] h
  unfold wp_X9_lawEnds at hw
  refine g_aload_n C dX9_lawEnds_0 rfl (by decide) rfl ?_
  refine gf_X9_292 C dX9_lawEnds_1 kdC_46 (fun z1 => ?_)
  refine g_if_eq C 30 dX9_lawEnds_4 rfl hw (fun hw => ?_) (fun hw => ?_)
  · refine g_iconst C ⟨by decide, by decide⟩ dX9_lawEnds_30 ?_
    exact g_zret C hr (Or.inl rfl) dX9_lawEnds_31 ⟨_, rfl, (Or.inl rfl), hw⟩
  · refine g_aload_n C dX9_lawEnds_7 rfl (by decide) rfl ?_
    refine gf_X9_286 C dX9_lawEnds_8 kdC_46 (fun z8 => ?_)
    refine g_if_ne C 30 dX9_lawEnds_11 rfl hw (fun hw => ?_) (fun hw => ?_)
    · refine g_iconst C ⟨by decide, by decide⟩ dX9_lawEnds_30 ?_
      exact g_zret C hr (Or.inl rfl) dX9_lawEnds_31 ⟨_, rfl, (Or.inl rfl), hw⟩
    · refine g_aload_n C dX9_lawEnds_14 rfl (by decide) rfl ?_
      refine gw_X9_27 C dX9_lawEnds_15 kdC_46 wwC_46_0 ?_
      refine g_bipush C ⟨by decide, by decide⟩ (by decide) dX9_lawEnds_18 ?_
      refine g_callVz C [(0, 21)] (sim_X10_isSign hw) k_854 k_855 k_856 k_141 k_857 hdV_X10_isSign rfl rfl (by decide) rfl kdC_49 rfl rfl rfl dX9_lawEnds_20 ?_
      intro x1 h1 zb20 hw
      refine g_if_eq C 30 dX9_lawEnds_23 rfl hw (fun hw => ?_) (fun hw => ?_)
      · refine g_iconst C ⟨by decide, by decide⟩ dX9_lawEnds_30 ?_
        exact g_zret C hr (Or.inl rfl) dX9_lawEnds_31 ⟨_, rfl, (Or.inl rfl), hw⟩
      · refine g_iconst C ⟨by decide, by decide⟩ dX9_lawEnds_26 ?_
        refine g_goto C 31 dX9_lawEnds_27 rfl ?_
        exact g_zret C hr (Or.inr rfl) dX9_lawEnds_31 ⟨_, rfl, (Or.inr rfl), hw⟩
set_option maxRecDepth 20000 in
set_option maxHeartbeats 4000000 in
theorem sim_X9_lineEnds {z : Mz} {l : Launch} {h : Mh} {K : Int → Mh → Prop} (hw : wp_X9_lineEnds h K) : mCal (XC z) l yX9_lineEnds cX9_lineEnds 1 (some Jvm.ClassFile.FieldType.boolean) 2 42 [(2, 46)] h (mKz K) := by
  refine m_entry RX9 rfl (by decide) rfl (fun p e s m args below meth c C hr => ?_)
  show mG _ p l e _ s m args below meth c _ _ 0 [(0, (2, 46))] [] h
  unfold wp_X9_lineEnds at hw
  refine g_aload_n C dX9_lineEnds_0 rfl (by decide) rfl ?_
  refine gw_X9_27 C dX9_lineEnds_1 kdC_46 wwC_46_0 ?_
  refine g_bipush C ⟨by decide, by decide⟩ (by decide) dX9_lineEnds_4 ?_
  refine g_callVz C [(0, 21)] (sim_X10_isSign hw) k_854 k_855 k_856 k_141 k_857 hdV_X10_isSign rfl rfl (by decide) rfl kdC_49 rfl rfl rfl dX9_lineEnds_6 ?_
  intro x1 h1 zb6 hw
  refine g_if_ne C 18 dX9_lineEnds_9 rfl hw (fun hw => ?_) (fun hw => ?_)
  · refine g_aload_n C dX9_lineEnds_18 rfl (by decide) rfl ?_
    refine gw_X9_27 C dX9_lineEnds_19 kdC_46 wwC_46_0 ?_
    refine g_callVv C [] (sim_X10_advance hw) k_782 k_758 k_759 k_141 k_760 hdV_X10_advance rfl rfl (by decide) rfl kdC_49 rfl rfl rfl dX9_lineEnds_22 ?_
    intro h2 hw
    refine g_iconst C ⟨by decide, by decide⟩ dX9_lineEnds_25 ?_
    exact g_zret C hr (Or.inr rfl) dX9_lineEnds_26 ⟨_, rfl, (Or.inr rfl), hw⟩
  · refine g_aload_n C dX9_lineEnds_12 rfl (by decide) rfl ?_
    refine g_iconst C ⟨by decide, by decide⟩ dX9_lineEnds_13 ?_
    refine g_callVz C [(0, 1)] (sim_X9_refuse hw) k_766 k_768 k_7 k_140 k_769 hdV_X9_refuse rfl rfl (by decide) rfl kdC_46 rfl rfl rfl dX9_lineEnds_14 ?_
    intro x2 h3 zb14 hw
    exact g_zret C hr zb14 dX9_lineEnds_17 ⟨_, rfl, zb14, hw⟩
set_option maxRecDepth 20000 in
set_option maxHeartbeats 4000000 in
theorem sim_X9_rankOf {z : Mz} {l : Launch} {p0 : Int} {h : Mh} {K : Int → Mh → Prop} (hw : wp_X9_rankOf p0 h K) : mCal (XC z) l yX9_rankOf cX9_rankOf 1 (some Jvm.ClassFile.FieldType.int) 0 0 [(0, p0)] h (mKi K) := by
  refine m_entry RX9 rfl (by decide) rfl (fun p e s m args below meth c C hr => ?_)
  show mG _ p l e _ s m args below meth c _ _ 0 [(0, (0, p0))] [] h
  unfold wp_X9_rankOf at hw
  refine g_iload_n C dX9_rankOf_0 rfl rfl ?_
  by_cases c0 : p0 = 7
  · rw [if_pos c0] at hw
    refine g_tabIn C 64 7 dX9_rankOf_1 c0 (by decide) (by decide) rfl rfl ?_
    refine g_iconst C ⟨by decide, by decide⟩ dX9_rankOf_64 ?_
    exact g_iret C hr dX9_rankOf_65 ⟨_, rfl, hw⟩
  rw [if_neg c0] at hw
  by_cases c1 : p0 = 8
  · rw [if_pos c1] at hw
    refine g_tabIn C 66 8 dX9_rankOf_1 c1 (by decide) (by decide) rfl rfl ?_
    refine g_iconst C ⟨by decide, by decide⟩ dX9_rankOf_66 ?_
    exact g_iret C hr dX9_rankOf_67 ⟨_, rfl, hw⟩
  rw [if_neg c1] at hw
  by_cases c2 : p0 = 9
  · rw [if_pos c2] at hw
    refine g_tabIn C 73 9 dX9_rankOf_1 c2 (by decide) (by decide) rfl rfl ?_
    refine g_iconst C ⟨by decide, by decide⟩ dX9_rankOf_73 ?_
    exact g_iret C hr dX9_rankOf_74 ⟨_, rfl, hw⟩
  rw [if_neg c2] at hw
  by_cases c3 : p0 = 10
  · rw [if_pos c3] at hw
    refine g_tabIn C 73 10 dX9_rankOf_1 c3 (by decide) (by decide) rfl rfl ?_
    refine g_iconst C ⟨by decide, by decide⟩ dX9_rankOf_73 ?_
    exact g_iret C hr dX9_rankOf_74 ⟨_, rfl, hw⟩
  rw [if_neg c3] at hw
  by_cases c4 : p0 = 11
  · rw [if_pos c4] at hw
    refine g_tabIn C 73 11 dX9_rankOf_1 c4 (by decide) (by decide) rfl rfl ?_
    refine g_iconst C ⟨by decide, by decide⟩ dX9_rankOf_73 ?_
    exact g_iret C hr dX9_rankOf_74 ⟨_, rfl, hw⟩
  rw [if_neg c4] at hw
  by_cases c5 : p0 = 12
  · rw [if_pos c5] at hw
    refine g_tabIn C 73 12 dX9_rankOf_1 c5 (by decide) (by decide) rfl rfl ?_
    refine g_iconst C ⟨by decide, by decide⟩ dX9_rankOf_73 ?_
    exact g_iret C hr dX9_rankOf_74 ⟨_, rfl, hw⟩
  rw [if_neg c5] at hw
  by_cases c6 : p0 = 13
  · rw [if_pos c6] at hw
    refine g_tabIn C 73 13 dX9_rankOf_1 c6 (by decide) (by decide) rfl rfl ?_
    refine g_iconst C ⟨by decide, by decide⟩ dX9_rankOf_73 ?_
    exact g_iret C hr dX9_rankOf_74 ⟨_, rfl, hw⟩
  rw [if_neg c6] at hw
  by_cases c7 : p0 = 14
  · rw [if_pos c7] at hw
    refine g_tabIn C 73 14 dX9_rankOf_1 c7 (by decide) (by decide) rfl rfl ?_
    refine g_iconst C ⟨by decide, by decide⟩ dX9_rankOf_73 ?_
    exact g_iret C hr dX9_rankOf_74 ⟨_, rfl, hw⟩
  rw [if_neg c7] at hw
  by_cases c8 : p0 = 15
  · rw [if_pos c8] at hw
    refine g_tabIn C 68 15 dX9_rankOf_1 c8 (by decide) (by decide) rfl rfl ?_
    refine g_iconst C ⟨by decide, by decide⟩ dX9_rankOf_68 ?_
    exact g_iret C hr dX9_rankOf_69 ⟨_, rfl, hw⟩
  rw [if_neg c8] at hw
  by_cases c9 : p0 = 16
  · rw [if_pos c9] at hw
    refine g_tabIn C 68 16 dX9_rankOf_1 c9 (by decide) (by decide) rfl rfl ?_
    refine g_iconst C ⟨by decide, by decide⟩ dX9_rankOf_68 ?_
    exact g_iret C hr dX9_rankOf_69 ⟨_, rfl, hw⟩
  rw [if_neg c9] at hw
  by_cases c10 : p0 = 17
  · rw [if_pos c10] at hw
    refine g_tabIn C 70 17 dX9_rankOf_1 c10 (by decide) (by decide) rfl rfl ?_
    refine g_bipush C ⟨by decide, by decide⟩ (by decide) dX9_rankOf_70 ?_
    exact g_iret C hr dX9_rankOf_72 ⟨_, rfl, hw⟩
  rw [if_neg c10] at hw
  by_cases c11 : p0 = 18
  · rw [if_pos c11] at hw
    refine g_tabIn C 70 18 dX9_rankOf_1 c11 (by decide) (by decide) rfl rfl ?_
    refine g_bipush C ⟨by decide, by decide⟩ (by decide) dX9_rankOf_70 ?_
    exact g_iret C hr dX9_rankOf_72 ⟨_, rfl, hw⟩
  rw [if_neg c11] at hw
  refine g_tabOut C 73 dX9_rankOf_1 (by omega) rfl ?_
  refine g_iconst C ⟨by decide, by decide⟩ dX9_rankOf_73 ?_
  exact g_iret C hr dX9_rankOf_74 ⟨_, rfl, hw⟩
set_option maxRecDepth 20000 in
set_option maxHeartbeats 4000000 in
theorem sim_X9_readNumber {z : Mz} {l : Launch} {p1 : Int} {p2 : Int} {h : Mh} {K : Int → Mh → Prop} (hw : wp_X9_readNumber p1 p2 h K) : mCal (XC z) l yX9_readNumber cX9_readNumber 4 (some Jvm.ClassFile.FieldType.int) 2 42 [(2, 46), (0, p1), (0, p2)] h (mKi K) := by
  refine m_entry RX9 rfl (by decide) rfl (fun p e s m args below meth c C hr => ?_)
  show mG _ p l e _ s m args below meth c _ _ 0 [(0, (2, 46)), (1, (0, p1)), (2, (0, p2))] [] h
  unfold wp_X9_readNumber at hw
  refine g_aload_n C dX9_readNumber_0 rfl (by decide) rfl ?_
  refine gw_X9_27 C dX9_readNumber_1 kdC_46 wwC_46_0 ?_
  refine gf_X9_66 C dX9_readNumber_4 kdC_49 (fun z4 => ?_)
  refine g_iconst C ⟨by decide, by decide⟩ dX9_readNumber_7 ?_
  refine g_icmp_eq C 19 dX9_readNumber_8 rfl hw (fun hw => ?_) (fun hw => ?_)
  · refine g_aload_n C dX9_readNumber_19 rfl (by decide) rfl ?_
    refine gw_X9_27 C dX9_readNumber_20 kdC_46 wwC_46_0 ?_
    refine gf_X9_89 C dX9_readNumber_23 kdC_49 (fun z23 => ?_)
    refine g_topi (fun x1 ex1 => ?_)
    replace hw := hw x1 ex1
    refine g_istore_n C dX9_readNumber_26 rfl (by decide) ?_
    refine g_iload_n C dX9_readNumber_27 rfl rfl ?_
    refine g_iload_n C dX9_readNumber_28 rfl rfl ?_
    refine g_icmp_lt C 37 dX9_readNumber_29 rfl hw (fun hw => ?_) (fun hw => ?_)
    · refine g_aload_n C dX9_readNumber_37 rfl (by decide) rfl ?_
      refine g_iconst C ⟨by decide, by decide⟩ dX9_readNumber_38 ?_
      refine g_callVz C [(0, 2)] (sim_X9_refuse hw) k_766 k_768 k_7 k_140 k_769 hdV_X9_refuse rfl rfl (by decide) rfl kdC_46 rfl rfl rfl dX9_readNumber_39 ?_
      intro x2 h1 zb39 hw
      refine g_pop C (by show ¬ (0 : Nat) = 1; decide) dX9_readNumber_42 ?_
      refine g_iconst C ⟨by decide, by decide⟩ dX9_readNumber_43 ?_
      exact g_iret C hr dX9_readNumber_44 ⟨_, rfl, hw⟩
    · refine g_iload_n C dX9_readNumber_32 rfl rfl ?_
      refine g_iload_n C dX9_readNumber_33 rfl rfl ?_
      refine g_icmp_le C 45 dX9_readNumber_34 rfl hw (fun hw => ?_) (fun hw => ?_)
      · refine g_aload_n C dX9_readNumber_45 rfl (by decide) rfl ?_
        refine gw_X9_27 C dX9_readNumber_46 kdC_46 wwC_46_0 ?_
        refine g_callVv C [] (sim_X10_advance hw) k_782 k_758 k_759 k_141 k_760 hdV_X10_advance rfl rfl (by decide) rfl kdC_49 rfl rfl rfl dX9_readNumber_49 ?_
        intro h2 hw
        refine g_iload_n C dX9_readNumber_52 rfl rfl ?_
        exact g_iret C hr dX9_readNumber_53 ⟨_, rfl, hw⟩
      · refine g_aload_n C dX9_readNumber_37 rfl (by decide) rfl ?_
        refine g_iconst C ⟨by decide, by decide⟩ dX9_readNumber_38 ?_
        refine g_callVz C [(0, 2)] (sim_X9_refuse hw) k_766 k_768 k_7 k_140 k_769 hdV_X9_refuse rfl rfl (by decide) rfl kdC_46 rfl rfl rfl dX9_readNumber_39 ?_
        intro x3 h3 zb39 hw
        refine g_pop C (by show ¬ (0 : Nat) = 1; decide) dX9_readNumber_42 ?_
        refine g_iconst C ⟨by decide, by decide⟩ dX9_readNumber_43 ?_
        exact g_iret C hr dX9_readNumber_44 ⟨_, rfl, hw⟩
  · refine g_aload_n C dX9_readNumber_11 rfl (by decide) rfl ?_
    refine g_iconst C ⟨by decide, by decide⟩ dX9_readNumber_12 ?_
    refine g_callVz C [(0, 1)] (sim_X9_refuse hw) k_766 k_768 k_7 k_140 k_769 hdV_X9_refuse rfl rfl (by decide) rfl kdC_46 rfl rfl rfl dX9_readNumber_13 ?_
    intro x4 h4 zb13 hw
    refine g_pop C (by show ¬ (0 : Nat) = 1; decide) dX9_readNumber_16 ?_
    refine g_iconst C ⟨by decide, by decide⟩ dX9_readNumber_17 ?_
    exact g_iret C hr dX9_readNumber_18 ⟨_, rfl, hw⟩
