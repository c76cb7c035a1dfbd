set_option maxRecDepth 20000 in
set_option maxHeartbeats 4000000 in
theorem sim_X2_walkCells {z : Mz} {l : Launch} {p1 : Int} {p2 : Int} {p3 : Int} {p4 : Int} {h : Mh} {K : Int → Mh → Prop} (hw : wp_X2_walkCells p1 p2 p3 p4 h K) : mCal (XC z) l yX2_walkCells cX2_walkCells 8 (some Jvm.ClassFile.FieldType.int) 4 106 [(2, 127), (0, p1), (0, p2), (0, p3), (2, p4)] h (mKi K) := by
  refine m_entry RX2 rfl (by decide) rfl (fun p e s m args below meth c C hr => ?_)
  have hQ : ∀ x, Lfp (F_X2_walkCells p1 p2 p3 p4 K) x → (match x.1, x.2.1 with | 13, [v5, v6] => mG (XC z) p l e { frames := 4, cells := 0, slots := 0, locals := 106 } s m args below meth c 8 (mMQ (XC z) (mKi K) below args s) 13 [(5, (0, v5)), (6, (0, v6)), (0, (2, 127)), (1, (0, p1)), (2, (0, p2)), (3, (0, p3)), (4, (2, p4))] [] x.2.2 | 31, [v5, v6, v7] => mG (XC z) p l e { frames := 4, cells := 0, slots := 0, locals := 106 } s m args below meth c 8 (mMQ (XC z) (mKi K) below args s) 31 [(5, (0, v5)), (6, (0, v6)), (7, (0, v7)), (0, (2, 127)), (1, (0, p1)), (2, (0, p2)), (3, (0, p3)), (4, (2, p4))] [] x.2.2 | _, _ => True) := by
    intro x hx
    refine Lfp.ind (fun x => (match x.1, x.2.1 with | 13, [v5, v6] => mG (XC z) p l e { frames := 4, cells := 0, slots := 0, locals := 106 } s m args below meth c 8 (mMQ (XC z) (mKi K) below args s) 13 [(5, (0, v5)), (6, (0, v6)), (0, (2, 127)), (1, (0, p1)), (2, (0, p2)), (3, (0, p3)), (4, (2, p4))] [] x.2.2 | 31, [v5, v6, v7] => mG (XC z) p l e { frames := 4, cells := 0, slots := 0, locals := 106 } s m args below meth c 8 (mMQ (XC z) (mKi K) below args s) 31 [(5, (0, v5)), (6, (0, v6)), (7, (0, v7)), (0, (2, 127)), (1, (0, p1)), (2, (0, p2)), (3, (0, p3)), (4, (2, p4))] [] x.2.2 | _, _ => True)) ?_ hx
    clear hx x
    intro Z x hQ hw
    rcases hw with ⟨v5, v6, h, rfl, hw⟩ | ⟨v5, v6, v7, h, rfl, hw⟩
    · show mG (XC z) p l e { frames := 4, cells := 0, slots := 0, locals := 106 } s m args below meth c 8 (mMQ (XC z) (mKi K) below args s) 13 [(5, (0, v5)), (6, (0, v6)), (0, (2, 127)), (1, (0, p1)), (2, (0, p2)), (3, (0, p3)), (4, (2, p4))] [] h
      unfold B_X2_walkCells_13 at hw
      refine g_iload C dX2_walkCells_13 rfl ?_
      refine g_aload_n C dX2_walkCells_15 rfl (by decide) rfl ?_
      refine gw_X2_33 C dX2_walkCells_16 kdC_127 wwC_127_0 ?_
      refine gf_X2_54 C dX2_walkCells_19 kdC_53 (fun z19 => ?_)
      obtain ⟨q1, hw⟩ := hw
      refine g_callVi C [] (sim_X5_cells wirC q1 hw) k_1300 k_1031 k_1032 k_135 k_1033 hdV_X5_cells rfl rfl (by decide) rfl q1 rfl rfl rfl dX2_walkCells_22 ?_
      intro x1 h1 hw
      refine g_icmp_ge C 121 dX2_walkCells_25 rfl hw (fun hw => ?_) (fun hw => ?_)
      · refine g_iload C dX2_walkCells_121 rfl ?_
        exact g_iret C hr dX2_walkCells_123 ⟨_, rfl, hw⟩
      · refine g_iconst C ⟨by decide, by decide⟩ dX2_walkCells_28 ?_
        refine g_istore C dX2_walkCells_29 (by decide) ?_
        exact g_sub [5, 6, 7, 0, 1, 2, 3, 4] rfl (hQ _ hw)
    · show mG (XC z) p l e { frames := 4, cells := 0, slots := 0, locals := 106 } s m args below meth c 8 (mMQ (XC z) (mKi K) below args s) 31 [(5, (0, v5)), (6, (0, v6)), (7, (0, v7)), (0, (2, 127)), (1, (0, p1)), (2, (0, p2)), (3, (0, p3)), (4, (2, p4))] [] h
      unfold B_X2_walkCells_31 at hw
      refine g_iload C dX2_walkCells_31 rfl ?_
      refine g_bipush C ⟨by decide, by decide⟩ (by decide) dX2_walkCells_33 ?_
      refine g_icmp_gt C 115 dX2_walkCells_35 rfl hw (fun hw => ?_) (fun hw => ?_)
      · refine g_iincN C dX2_walkCells_115 rfl (by decide) (fun x1 ex1 => ?_)
        replace hw := hw x1 ex1
        refine g_goto C 13 dX2_walkCells_118 rfl ?_
        exact g_sub [5, 6, 0, 1, 2, 3, 4] rfl (hQ _ hw)
      · refine g_aload_n C dX2_walkCells_38 rfl (by decide) rfl ?_
        refine gw_X2_33 C dX2_walkCells_39 kdC_127 wwC_127_0 ?_
        refine gf_X2_54 C dX2_walkCells_42 kdC_53 (fun z42 => ?_)
        refine g_iload C dX2_walkCells_45 rfl ?_
        obtain ⟨q2, hw⟩ := hw
        refine g_callVz C [(0, v6)] (sim_X5_isWet wirC q2 hw) k_1301 k_994 k_995 k_135 k_996 hdV_X5_isWet rfl rfl (by decide) rfl q2 rfl rfl rfl dX2_walkCells_47 ?_
        intro x2 h1 zb47 hw
        refine g_if_eq C 115 dX2_walkCells_50 rfl hw (fun hw => ?_) (fun hw => ?_)
        · refine g_iincN C dX2_walkCells_115 rfl (by decide) (fun x3 ex3 => ?_)
          replace hw := hw x3 ex3
          refine g_goto C 13 dX2_walkCells_118 rfl ?_
          exact g_sub [5, 6, 0, 1, 2, 3, 4] rfl (hQ _ hw)
        · refine g_aload_n C dX2_walkCells_53 rfl (by decide) rfl ?_
          refine g_iload_n C dX2_walkCells_54 rfl rfl ?_
          refine g_iload C dX2_walkCells_55 rfl ?_
          refine g_iload C dX2_walkCells_57 rfl ?_
          refine g_aload C dX2_walkCells_59 (by decide) rfl ?_
          refine g_callVz C [(0, p1), (0, v6), (0, v7), (2, p4)] (sim_X2_isTale hw) k_1302 k_1304 k_54 k_146 k_1305 hdV_X2_isTale rfl rfl (by decide) rfl kdC_127 rfl rfl rfl dX2_walkCells_61 ?_
          intro x4 h2 zb61 hw
          refine g_if_ne C 70 dX2_walkCells_64 rfl hw (fun hw => ?_) (fun hw => ?_)
          · refine g_iload C dX2_walkCells_70 rfl ?_
            refine g_iload_n C dX2_walkCells_72 rfl rfl ?_
            refine g_icmp_ne C 88 dX2_walkCells_73 rfl hw (fun hw => ?_) (fun hw => ?_)
            · refine g_iload C dX2_walkCells_88 rfl ?_
              refine g_iload_n C dX2_walkCells_90 rfl rfl ?_
              refine g_icmp_ne C 106 dX2_walkCells_91 rfl hw (fun hw => ?_) (fun hw => ?_)
              · refine g_iincN C dX2_walkCells_106 rfl (by decide) (fun x5 ex5 => ?_)
                replace hw := hw x5 ex5
                refine g_iincN C dX2_walkCells_109 rfl (by decide) (fun x6 ex6 => ?_)
                replace hw := hw x6 ex6
                refine g_goto C 31 dX2_walkCells_112 rfl ?_
                exact g_sub [5, 6, 7, 0, 1, 2, 3, 4] rfl (hQ _ hw)
              · refine g_aload_n C dX2_walkCells_94 rfl (by decide) rfl ?_
                refine gw_X2_14 C dX2_walkCells_95 kdC_127 wwC_127_3 ?_
                refine g_iload_n C dX2_walkCells_98 rfl rfl ?_
                refine g_iload C dX2_walkCells_99 rfl ?_
                refine g_iload C dX2_walkCells_101 rfl ?_
                refine g_callVv C [(0, p1), (0, v6), (0, v7)] (sim_X1_add wirC kdC_128 hw) k_1316 k_491 k_492 k_138 k_493 hdV_X1_add rfl rfl (by decide) rfl kdC_128 rfl rfl rfl dX2_walkCells_103 ?_
                intro h3 hw
                refine g_iincN C dX2_walkCells_106 rfl (by decide) (fun x7 ex7 => ?_)
                replace hw := hw x7 ex7
                refine g_iincN C dX2_walkCells_109 rfl (by decide) (fun x8 ex8 => ?_)
                replace hw := hw x8 ex8
                refine g_goto C 31 dX2_walkCells_112 rfl ?_
                exact g_sub [5, 6, 7, 0, 1, 2, 3, 4] rfl (hQ _ hw)
            · refine g_aload_n C dX2_walkCells_76 rfl (by decide) rfl ?_
              refine gw_X2_30 C dX2_walkCells_77 kdC_127 wwC_127_7 ?_
              refine g_iload_n C dX2_walkCells_80 rfl rfl ?_
              refine g_iload C dX2_walkCells_81 rfl ?_
              refine g_iload C dX2_walkCells_83 rfl ?_
              refine g_callVv C [(0, p1), (0, v6), (0, v7)] (sim_X1_add wirC kdC_138 hw) k_1316 k_491 k_492 k_138 k_493 hdV_X1_add rfl rfl (by decide) rfl kdC_138 rfl rfl rfl dX2_walkCells_85 ?_
              intro h4 hw
              refine g_iload C dX2_walkCells_88 rfl ?_
              refine g_iload_n C dX2_walkCells_90 rfl rfl ?_
              refine g_icmp_ne C 106 dX2_walkCells_91 rfl hw (fun hw => ?_) (fun hw => ?_)
              · refine g_iincN C dX2_walkCells_106 rfl (by decide) (fun x9 ex9 => ?_)
                replace hw := hw x9 ex9
                refine g_iincN C dX2_walkCells_109 rfl (by decide) (fun x10 ex10 => ?_)
                replace hw := hw x10 ex10
                refine g_goto C 31 dX2_walkCells_112 rfl ?_
                exact g_sub [5, 6, 7, 0, 1, 2, 3, 4] rfl (hQ _ hw)
              · refine g_aload_n C dX2_walkCells_94 rfl (by decide) rfl ?_
                refine gw_X2_14 C dX2_walkCells_95 kdC_127 wwC_127_3 ?_
                refine g_iload_n C dX2_walkCells_98 rfl rfl ?_
                refine g_iload C dX2_walkCells_99 rfl ?_
                refine g_iload C dX2_walkCells_101 rfl ?_
                refine g_callVv C [(0, p1), (0, v6), (0, v7)] (sim_X1_add wirC kdC_128 hw) k_1316 k_491 k_492 k_138 k_493 hdV_X1_add rfl rfl (by decide) rfl kdC_128 rfl rfl rfl dX2_walkCells_103 ?_
                intro h5 hw
                refine g_iincN C dX2_walkCells_106 rfl (by decide) (fun x11 ex11 => ?_)
                replace hw := hw x11 ex11
                refine g_iincN C dX2_walkCells_109 rfl (by decide) (fun x12 ex12 => ?_)
                replace hw := hw x12 ex12
                refine g_goto C 31 dX2_walkCells_112 rfl ?_
                exact g_sub [5, 6, 7, 0, 1, 2, 3, 4] rfl (hQ _ hw)
          · refine g_goto C 109 dX2_walkCells_67 rfl ?_
            refine g_iincN C dX2_walkCells_109 rfl (by decide) (fun x13 ex13 => ?_)
            replace hw := hw x13 ex13
            refine g_goto C 31 dX2_walkCells_112 rfl ?_
            exact g_sub [5, 6, 7, 0, 1, 2, 3, 4] rfl (hQ _ hw)
  show mG _ p l e _ s m args below meth c _ _ 0 [(0, (2, 127)), (1, (0, p1)), (2, (0, p2)), (3, (0, p3)), (4, (2, p4))] [] h
  unfold wp_X2_walkCells at hw
  refine g_iload_n C dX2_walkCells_0 rfl rfl ?_
  refine g_istore C dX2_walkCells_1 (by decide) ?_
  refine g_aload_n C dX2_walkCells_3 rfl (by decide) rfl ?_
  refine gw_X2_30 C dX2_walkCells_4 kdC_127 wwC_127_7 ?_
  refine g_callVv C [] (sim_X1_clear wirC kdC_138 hw) k_1295 k_259 k_260 k_138 k_261 hdV_X1_clear rfl rfl (by decide) rfl kdC_138 rfl rfl rfl dX2_walkCells_7 ?_
  intro h1 hw
  refine g_iconst C ⟨by decide, by decide⟩ dX2_walkCells_10 ?_
  refine g_istore C dX2_walkCells_11 (by decide) ?_
  exact g_sub [5, 6, 0, 1, 2, 3, 4] rfl (hQ _ hw)
set_option maxRecDepth 20000 in
set_option maxHeartbeats 4000000 in
theorem sim_X2_walkTales {z : Mz} {l : Launch} {p1 : Int} {h : Mh} {K : Int → Mh → Prop} (hw : wp_X2_walkTales p1 h K) : mCal (XC z) l yX2_walkTales cX2_walkTales 8 (some Jvm.ClassFile.FieldType.int) 5 133 [(2, 127), (0, p1)] h (mKi K) := by
  refine m_entry RX2 rfl (by decide) rfl (fun p e s m args below meth c C hr => ?_)
  have hQ : ∀ x, Lfp (F_X2_walkTales p1 K) x → (match x.1, x.2.1 with | 30, [v2, v3, v4, v5] => mG (XC z) p l e { frames := 5, cells := 0, slots := 0, locals := 133 } s m args below meth c 8 (mMQ (XC z) (mKi K) below args s) 30 [(2, (2, v2)), (3, (0, v3)), (4, (0, v4)), (5, (0, v5)), (0, (2, 127)), (1, (0, p1))] [] x.2.2 | _, _ => True) := by
    intro x hx
    refine Lfp.ind (fun x => (match x.1, x.2.1 with | 30, [v2, v3, v4, v5] => mG (XC z) p l e { frames := 5, cells := 0, slots := 0, locals := 133 } s m args below meth c 8 (mMQ (XC z) (mKi K) below args s) 30 [(2, (2, v2)), (3, (0, v3)), (4, (0, v4)), (5, (0, v5)), (0, (2, 127)), (1, (0, p1))] [] x.2.2 | _, _ => True)) ?_ hx
    clear hx x
    intro Z x hQ hw
    rcases hw with ⟨v2, v3, v4, v5, h, rfl, hw⟩
    · show mG (XC z) p l e { frames := 5, cells := 0, slots := 0, locals := 133 } s m args below meth c 8 (mMQ (XC z) (mKi K) below args s) 30 [(2, (2, v2)), (3, (0, v3)), (4, (0, v4)), (5, (0, v5)), (0, (2, 127)), (1, (0, p1))] [] h
      unfold B_X2_walkTales_30 at hw
      refine g_iload C dX2_walkTales_30 rfl ?_
      refine g_aload_n C dX2_walkTales_32 rfl (by decide) rfl ?_
      refine gw_X2_33 C dX2_walkTales_33 kdC_127 wwC_127_0 ?_
      refine gf_X2_54 C dX2_walkTales_36 kdC_53 (fun z36 => ?_)
      obtain ⟨q1, hw⟩ := hw
      refine gw_X2_60 C dX2_walkTales_39 q1 (wir_4_7 wirC q1) ?_
      refine gf_X2_66 C dX2_walkTales_42 (kid_4_7 wirC q1) (fun z42 => ?_)
      refine g_icmp_ge C 114 dX2_walkTales_45 rfl hw (fun hw => ?_) (fun hw => ?_)
      · refine g_iload C dX2_walkTales_114 rfl ?_
        exact g_iret C hr dX2_walkTales_116 ⟨_, rfl, hw⟩
      · refine g_iload C dX2_walkTales_48 rfl ?_
        refine g_istore C dX2_walkTales_50 (by decide) ?_
        refine g_aload_n C dX2_walkTales_52 rfl (by decide) rfl ?_
        refine g_iload C dX2_walkTales_53 rfl ?_
        refine g_iload C dX2_walkTales_55 rfl ?_
        refine g_iload_n C dX2_walkTales_57 rfl rfl ?_
        refine g_aload_n C dX2_walkTales_58 rfl (by decide) rfl ?_
        refine g_callVi C [(0, v5), (0, v4), (0, p1), (2, v2)] (sim_X2_walkCells hw) k_1296 k_1298 k_53 k_146 k_1299 hdV_X2_walkCells rfl rfl (by decide) rfl kdC_127 rfl rfl rfl dX2_walkTales_59 ?_
        intro x1 h1 hw
        refine g_istore C dX2_walkTales_62 (by decide) ?_
        refine g_aload_n C dX2_walkTales_64 rfl (by decide) rfl ?_
        refine gw_X2_33 C dX2_walkTales_65 kdC_127 wwC_127_0 ?_
        refine gf_X2_54 C dX2_walkTales_68 kdC_53 (fun z68 => ?_)
        obtain ⟨q2, hw⟩ := hw
        refine gw_X2_76 C dX2_walkTales_71 q2 (wir_4_9 wirC q2) ?_
        refine g_iload C dX2_walkTales_74 rfl ?_
        refine g_callVi C [(0, v5)] (sim_X7_orZero wirC (kid_4_9 wirC q2) hw) k_1306 k_1080 k_1081 k_136 k_1082 hdV_X7_orZero rfl rfl (by decide) rfl (kid_4_9 wirC q2) rfl rfl rfl dX2_walkTales_76 ?_
        intro x2 h2 hw
        refine g_istore C dX2_walkTales_79 (by decide) ?_
        refine g_iload C dX2_walkTales_81 rfl ?_
        refine g_iload C dX2_walkTales_83 rfl ?_
        refine g_icmp_le C 108 dX2_walkTales_85 rfl hw (fun hw => ?_) (fun hw => ?_)
        · refine g_iincN C dX2_walkTales_108 rfl (by decide) (fun x3 ex3 => ?_)
          replace hw := hw x3 ex3
          refine g_goto C 30 dX2_walkTales_111 rfl ?_
          exact g_sub [2, 3, 4, 5, 0, 1] rfl (hQ _ hw)
        · refine g_iload C dX2_walkTales_88 rfl ?_
          refine g_iload_n C dX2_walkTales_90 rfl rfl ?_
          refine g_icmp_le C 108 dX2_walkTales_91 rfl hw (fun hw => ?_) (fun hw => ?_)
          · refine g_iincN C dX2_walkTales_108 rfl (by decide) (fun x4 ex4 => ?_)
            replace hw := hw x4 ex4
            refine g_goto C 30 dX2_walkTales_111 rfl ?_
            exact g_sub [2, 3, 4, 5, 0, 1] rfl (hQ _ hw)
          · refine g_iload C dX2_walkTales_94 rfl ?_
            refine g_istore_n C dX2_walkTales_96 rfl (by decide) ?_
            refine g_aload_n C dX2_walkTales_97 rfl (by decide) rfl ?_
            refine gw_X2_20 C dX2_walkTales_98 kdC_127 wwC_127_4 ?_
            refine g_aload_n C dX2_walkTales_101 rfl (by decide) rfl ?_
            refine gw_X2_30 C dX2_walkTales_102 kdC_127 wwC_127_7 ?_
            refine g_callVv C [(2, 138)] (sim_X1_copyOf wirC kdC_132 hw) k_1317 k_486 k_487 k_138 k_488 hdV_X1_copyOf rfl rfl (by decide) rfl kdC_132 rfl rfl rfl dX2_walkTales_105 ?_
            intro h3 hw
            refine g_iincN C dX2_walkTales_108 rfl (by decide) (fun x5 ex5 => ?_)
            replace hw := hw x5 ex5
            refine g_goto C 30 dX2_walkTales_111 rfl ?_
            exact g_sub [2, 3, 4, 5, 0, 1] rfl (hQ _ hw)
  show mG _ p l e _ s m args below meth c _ _ 0 [(0, (2, 127)), (1, (0, p1))] [] h
  unfold wp_X2_walkTales at hw
  refine g_aload_n C dX2_walkTales_0 rfl (by decide) rfl ?_
  refine gw_X2_41 C dX2_walkTales_1 kdC_127 wwC_127_2 ?_
  refine g_callVr C [] (sim_X4_knownSights hw) k_1284 k_1285 k_1286 k_143 k_1287 hdV_X4_knownSights rfl rfl (by decide) rfl kdC_107 rfl rfl rfl dX2_walkTales_4 ?_
  intro x1 h1 hw
  refine g_astore_n C dX2_walkTales_7 rfl (by decide) (by decide) ?_
  refine g_iconst C ⟨by decide, by decide⟩ dX2_walkTales_8 ?_
  refine g_istore_n C dX2_walkTales_9 rfl (by decide) ?_
  refine g_iconst C ⟨by decide, by decide⟩ dX2_walkTales_10 ?_
  refine g_istore C dX2_walkTales_11 (by decide) ?_
  refine g_aload_n C dX2_walkTales_13 rfl (by decide) rfl ?_
  refine gw_X2_14 C dX2_walkTales_14 kdC_127 wwC_127_3 ?_
  refine g_callVv C [] (sim_X1_clear wirC kdC_128 hw) k_1295 k_259 k_260 k_138 k_261 hdV_X1_clear rfl rfl (by decide) rfl kdC_128 rfl rfl rfl dX2_walkTales_17 ?_
  intro h2 hw
  refine g_aload_n C dX2_walkTales_20 rfl (by decide) rfl ?_
  refine gw_X2_20 C dX2_walkTales_21 kdC_127 wwC_127_4 ?_
  refine g_callVv C [] (sim_X1_clear wirC kdC_132 hw) k_1295 k_259 k_260 k_138 k_261 hdV_X1_clear rfl rfl (by decide) rfl kdC_132 rfl rfl rfl dX2_walkTales_24 ?_
  intro h3 hw
  refine g_iconst C ⟨by decide, by decide⟩ dX2_walkTales_27 ?_
  refine g_istore C dX2_walkTales_28 (by decide) ?_
  exact g_sub [2, 3, 4, 5, 0, 1] rfl (hQ _ hw)
set_option maxRecDepth 20000 in
set_option maxHeartbeats 4000000 in
theorem sim_X13_likeliest {z : Mz} {l : Launch} {p1 : Int} {h : Mh} {K : Int → Mh → Prop} (hw : wp_X13_likeliest p1 h K) : mCal (XC z) l yX13_likeliest cX13_likeliest 2 (some Jvm.ClassFile.FieldType.int) 6 160 [(2, 0), (0, p1)] h (mKi K) := by
  refine m_entry RX13 rfl (by decide) rfl (fun p e s m args below meth c C hr => ?_)
  show mG _ p l e _ s m args below meth c _ _ 0 [(0, (2, 0)), (1, (0, p1))] [] h
  unfold wp_X13_likeliest at hw
  refine g_iload_n C dX13_likeliest_0 rfl rfl ?_
  refine g_if_lt C 9 dX13_likeliest_1 rfl hw (fun hw => ?_) (fun hw => ?_)
  · refine g_iconst C ⟨by decide, by decide⟩ dX13_likeliest_9 ?_
    exact g_iret C hr dX13_likeliest_10 ⟨_, rfl, hw⟩
  · refine g_iload_n C dX13_likeliest_4 rfl rfl ?_
    refine g_iconst C ⟨by decide, by decide⟩ dX13_likeliest_5 ?_
    refine g_icmp_le C 11 dX13_likeliest_6 rfl hw (fun hw => ?_) (fun hw => ?_)
    · refine g_aload_n C dX13_likeliest_11 rfl (by decide) rfl ?_
      refine gw_X13_52 C dX13_likeliest_12 kdC_0 wwC_0_6 ?_
      refine g_callVv C [] (sim_X6_freshenWays hw) k_1017 k_1018 k_1019 k_144 k_1020 hdV_X6_freshenWays rfl rfl (by decide) rfl kdC_115 rfl rfl rfl dX13_likeliest_15 ?_
      intro h1 hw
      refine g_aload_n C dX13_likeliest_18 rfl (by decide) rfl ?_
      refine gw_X13_70 C dX13_likeliest_19 kdC_0 wwC_0_8 ?_
      refine g_iconst C ⟨by decide, by decide⟩ dX13_likeliest_22 ?_
      refine g_callVi C [(0, (-1))] (sim_X2_walkTales hw) k_1280 k_1281 k_1282 k_146 k_1283 hdV_X2_walkTales rfl rfl (by decide) rfl kdC_127 rfl rfl rfl dX13_likeliest_23 ?_
      intro x1 h2 hw
      refine g_if_le C 44 dX13_likeliest_26 rfl hw (fun hw => ?_) (fun hw => ?_)
      · refine g_bipush C ⟨by decide, by decide⟩ (by decide) dX13_likeliest_44 ?_
        exact g_iret C hr dX13_likeliest_46 ⟨_, rfl, hw⟩
      · refine g_aload_n C dX13_likeliest_29 rfl (by decide) rfl ?_
        refine gw_X13_70 C dX13_likeliest_30 kdC_0 wwC_0_8 ?_
        refine gw_X13_275 C dX13_likeliest_33 kdC_127 wwC_127_4 ?_
        refine g_iconst C ⟨by decide, by decide⟩ dX13_likeliest_36 ?_
        refine g_iload_n C dX13_likeliest_37 rfl rfl ?_
        refine g_callVi C [(0, 0), (0, p1)] (sim_X1_part wirC kdC_132 hw) k_1009 k_1010 k_1011 k_138 k_1012 hdV_X1_part rfl rfl (by decide) rfl kdC_132 rfl rfl rfl dX13_likeliest_38 ?_
        intro x2 h3 hw
        refine g_goto C 46 dX13_likeliest_41 rfl ?_
        exact g_iret C hr dX13_likeliest_46 ⟨_, rfl, hw⟩
    · refine g_iconst C ⟨by decide, by decide⟩ dX13_likeliest_9 ?_
      exact g_iret C hr dX13_likeliest_10 ⟨_, rfl, hw⟩
set_option maxRecDepth 20000 in
set_option maxHeartbeats 4000000 in
theorem sim_X2_differenceFrom {z : Mz} {l : Launch} {p1 : Int} {p2 : Int} {h : Mh} {K : Int → Mh → Prop} (hw : wp_X2_differenceFrom p1 p2 h K) : mCal (XC z) l yX2_differenceFrom cX2_differenceFrom 8 (some Jvm.ClassFile.FieldType.int) 3 78 [(2, 127), (0, p1), (0, p2)] h (mKi K) := by
  refine m_entry RX2 rfl (by decide) rfl (fun p e s m args below meth c C hr => ?_)
  have hQ : ∀ x, Lfp (F_X2_differenceFrom p1 p2 K) x → (match x.1, x.2.1 with | 5, [v3, v4] => mG (XC z) p l e { frames := 3, cells := 0, slots := 0, locals := 78 } s m args below meth c 8 (mMQ (XC z) (mKi K) below args s) 5 [(3, (0, v3)), (4, (0, v4)), (0, (2, 127)), (1, (0, p1)), (2, (0, p2))] [] x.2.2 | 43, [v3, v4, v5, v6] => mG (XC z) p l e { frames := 3, cells := 0, slots := 0, locals := 78 } s m args below meth c 8 (mMQ (XC z) (mKi K) below args s) 43 [(3, (0, v3)), (4, (0, v4)), (5, (0, v5)), (6, (0, v6)), (0, (2, 127)), (1, (0, p1)), (2, (0, p2))] [] x.2.2 | _, _ => True) := by
    intro x hx
    refine Lfp.ind (fun x => (match x.1, x.2.1 with | 5, [v3, v4] => mG (XC z) p l e { frames := 3, cells := 0, slots := 0, locals := 78 } s m args below meth c 8 (mMQ (XC z) (mKi K) below args s) 5 [(3, (0, v3)), (4, (0, v4)), (0, (2, 127)), (1, (0, p1)), (2, (0, p2))] [] x.2.2 | 43, [v3, v4, v5, v6] => mG (XC z) p l e { frames := 3, cells := 0, slots := 0, locals := 78 } s m args below meth c 8 (mMQ (XC z) (mKi K) below args s) 43 [(3, (0, v3)), (4, (0, v4)), (5, (0, v5)), (6, (0, v6)), (0, (2, 127)), (1, (0, p1)), (2, (0, p2))] [] x.2.2 | _, _ => True)) ?_ hx
    clear hx x
    intro Z x hQ hw
    rcases hw with ⟨v3, v4, h, rfl, hw⟩ | ⟨v3, v4, v5, v6, h, rfl, hw⟩
    · show mG (XC z) p l e { frames := 3, cells := 0, slots := 0, locals := 78 } s m args below meth c 8 (mMQ (XC z) (mKi K) below args s) 5 [(3, (0, v3)), (4, (0, v4)), (0, (2, 127)), (1, (0, p1)), (2, (0, p2))] [] h
      unfold B_X2_differenceFrom_5 at hw
      refine g_iload C dX2_differenceFrom_5 rfl ?_
      refine g_aload_n C dX2_differenceFrom_7 rfl (by decide) rfl ?_
      refine gw_X2_33 C dX2_differenceFrom_8 kdC_127 wwC_127_0 ?_
      refine gf_X2_54 C dX2_differenceFrom_11 kdC_53 (fun z11 => ?_)
      obtain ⟨q1, hw⟩ := hw
      refine gw_X2_158 C dX2_differenceFrom_14 q1 (wir_4_10 wirC q1) ?_
      refine gf_X2_66 C dX2_differenceFrom_17 (kid_4_10 wirC q1) (fun z17 => ?_)
      refine g_icmp_ge C 109 dX2_differenceFrom_20 rfl hw (fun hw => ?_) (fun hw => ?_)
      · refine g_iload_n C dX2_differenceFrom_109 rfl rfl ?_
        exact g_iret C hr dX2_differenceFrom_110 ⟨_, rfl, hw⟩
      · refine g_aload_n C dX2_differenceFrom_23 rfl (by decide) rfl ?_
        refine gw_X2_33 C dX2_differenceFrom_24 kdC_127 wwC_127_0 ?_
        refine gf_X2_54 C dX2_differenceFrom_27 kdC_53 (fun z27 => ?_)
        refine gw_X2_109 C dX2_differenceFrom_30 q1 (wir_4_11 wirC q1) ?_
        refine g_iload C dX2_differenceFrom_33 rfl ?_
        refine g_callVi C [(0, v4)] (sim_X7_orZero wirC (kid_4_11 wirC q1) hw) k_1306 k_1080 k_1081 k_136 k_1082 hdV_X7_orZero rfl rfl (by decide) rfl (kid_4_11 wirC q1) rfl rfl rfl dX2_differenceFrom_35 ?_
        intro x1 h1 hw
        refine g_istore C dX2_differenceFrom_38 (by decide) ?_
        refine g_iconst C ⟨by decide, by decide⟩ dX2_differenceFrom_40 ?_
        refine g_istore C dX2_differenceFrom_41 (by decide) ?_
        exact g_sub [3, 4, 5, 6, 0, 1, 2] rfl (hQ _ hw)
    · show mG (XC z) p l e { frames := 3, cells := 0, slots := 0, locals := 78 } s m args below meth c 8 (mMQ (XC z) (mKi K) below args s) 43 [(3, (0, v3)), (4, (0, v4)), (5, (0, v5)), (6, (0, v6)), (0, (2, 127)), (1, (0, p1)), (2, (0, p2))] [] h
      unfold B_X2_differenceFrom_43 at hw
      refine g_iload C dX2_differenceFrom_43 rfl ?_
      refine g_bipush C ⟨by decide, by decide⟩ (by decide) dX2_differenceFrom_45 ?_
      refine g_icmp_ge C 103 dX2_differenceFrom_47 rfl hw (fun hw => ?_) (fun hw => ?_)
      · refine g_iincN C dX2_differenceFrom_103 rfl (by decide) (fun x1 ex1 => ?_)
        replace hw := hw x1 ex1
        refine g_goto C 5 dX2_differenceFrom_106 rfl ?_
        exact g_sub [3, 4, 0, 1, 2] rfl (hQ _ hw)
      · refine g_aload_n C dX2_differenceFrom_50 rfl (by decide) rfl ?_
        refine gw_X2_37 C dX2_differenceFrom_51 kdC_127 wwC_127_1 ?_
        refine g_iload_n C dX2_differenceFrom_54 rfl rfl ?_
        refine g_iload_n C dX2_differenceFrom_55 rfl rfl ?_
        refine g_iload C dX2_differenceFrom_56 rfl ?_
        refine g_iload C dX2_differenceFrom_58 rfl ?_
        refine g_aload_n C dX2_differenceFrom_60 rfl (by decide) rfl ?_
        refine gw_X2_33 C dX2_differenceFrom_61 kdC_127 wwC_127_0 ?_
        refine gf_X2_54 C dX2_differenceFrom_64 kdC_53 (fun z64 => ?_)
        obtain ⟨q2, hw⟩ := hw
        refine gw_X2_118 C dX2_differenceFrom_67 q2 (wir_4_4 wirC q2) ?_
        refine g_callVi C [(0, p1), (0, p2), (0, v5), (0, v6), (2, ((h 53 0) + 1))] (sim_X6_alone hw) k_1308 k_1309 k_1310 k_144 k_1311 hdV_X6_alone rfl rfl (by decide) rfl kdC_115 rfl rfl rfl dX2_differenceFrom_70 ?_
        intro x2 h1 hw
        refine g_istore C dX2_differenceFrom_73 (by decide) ?_
        refine g_iload_n C dX2_differenceFrom_75 rfl rfl ?_
        refine g_iload C dX2_differenceFrom_76 rfl ?_
        refine g_aload_n C dX2_differenceFrom_78 rfl (by decide) rfl ?_
        refine gw_X2_23 C dX2_differenceFrom_79 kdC_127 wwC_127_5 ?_
        refine g_iload C dX2_differenceFrom_82 rfl ?_
        refine g_bipush C ⟨by decide, by decide⟩ (by decide) dX2_differenceFrom_84 ?_
        refine g_imul C dX2_differenceFrom_86 ?_
        refine g_iload C dX2_differenceFrom_87 rfl ?_
        refine g_iadd C dX2_differenceFrom_89 ?_
        obtain ⟨⟨b1, b1b⟩, hw⟩ := hw
        refine g_iaload C dX2_differenceFrom_90 kdC_136 b1 b1b (fun z90 => ?_)
        refine g_isub C dX2_differenceFrom_91 ?_
        refine g_mabs C k_1394 k_1395 k_137 k_1396 rfl rfl rfl dX2_differenceFrom_92 ?_
        refine g_iadd C dX2_differenceFrom_95 ?_
        refine g_topi (fun x3 ex3 => ?_)
        replace hw := hw x3 ex3
        refine g_istore_n C dX2_differenceFrom_96 rfl (by decide) ?_
        refine g_iincN C dX2_differenceFrom_97 rfl (by decide) (fun x4 ex4 => ?_)
        replace hw := hw x4 ex4
        refine g_goto C 43 dX2_differenceFrom_100 rfl ?_
        exact g_sub [3, 4, 5, 6, 0, 1, 2] rfl (hQ _ hw)
  show mG _ p l e _ s m args below meth c _ _ 0 [(0, (2, 127)), (1, (0, p1)), (2, (0, p2))] [] h
  unfold wp_X2_differenceFrom at hw
  refine g_iconst C ⟨by decide, by decide⟩ dX2_differenceFrom_0 ?_
  refine g_istore_n C dX2_differenceFrom_1 rfl (by decide) ?_
  refine g_iconst C ⟨by decide, by decide⟩ dX2_differenceFrom_2 ?_
  refine g_istore C dX2_differenceFrom_3 (by decide) ?_
  exact g_sub [3, 4, 0, 1, 2] rfl (hQ _ hw)
set_option maxRecDepth 20000 in
set_option maxHeartbeats 4000000 in
theorem sim_X2_seekNearest {z : Mz} {l : Launch} {p1 : Int} {p2 : Int} {p3 : Int} {h : Mh} {K : Mh → Prop} (hw : wp_X2_seekNearest p1 p2 p3 h K) : mCal (XC z) l yX2_seekNearest cX2_seekNearest 8 none 4 105 [(2, 127), (0, p1), (0, p2), (0, p3)] h (mKv K) := by
  refine m_entry RX2 rfl (by decide) rfl (fun p e s m args below meth c C hr => ?_)
  have hQ : ∀ x, Lfp (F_X2_seekNearest p1 p2 p3 K) x → (match x.1, x.2.1 with | 18, [v4, v5] => mG (XC z) p l e { frames := 4, cells := 0, slots := 0, locals := 105 } s m args below meth c 8 (mMQ (XC z) (mKv K) below args s) 18 [(4, (0, v4)), (5, (0, v5)), (0, (2, 127)), (1, (0, p1)), (2, (0, p2)), (3, (0, p3))] [] x.2.2 | 67, [v5] => mG (XC z) p l e { frames := 4, cells := 0, slots := 0, locals := 105 } s m args below meth c 8 (mMQ (XC z) (mKv K) below args s) 67 [(5, (0, v5)), (0, (2, 127)), (1, (0, p1)), (2, (0, p2)), (3, (0, p3))] [] x.2.2 | 122, [v5, v6] => mG (XC z) p l e { frames := 4, cells := 0, slots := 0, locals := 105 } s m args below meth c 8 (mMQ (XC z) (mKv K) below args s) 122 [(5, (0, v5)), (6, (0, v6)), (0, (2, 127)), (1, (0, p1)), (2, (0, p2)), (3, (0, p3))] [] x.2.2 | 127, [v5, v6, s0] => mG (XC z) p l e { frames := 4, cells := 0, slots := 0, locals := 105 } s m args below meth c 8 (mMQ (XC z) (mKv K) below args s) 127 [(5, (0, v5)), (6, (0, v6)), (0, (2, 127)), (1, (0, p1)), (2, (0, p2)), (3, (0, p3))] [(0, s0)] x.2.2 | _, _ => True) := by
    intro x hx
    refine Lfp.ind (fun x => (match x.1, x.2.1 with | 18, [v4, v5] => mG (XC z) p l e { frames := 4, cells := 0, slots := 0, locals := 105 } s m args below meth c 8 (mMQ (XC z) (mKv K) below args s) 18 [(4, (0, v4)), (5, (0, v5)), (0, (2, 127)), (1, (0, p1)), (2, (0, p2)), (3, (0, p3))] [] x.2.2 | 67, [v5] => mG (XC z) p l e { frames := 4, cells := 0, slots := 0, locals := 105 } s m args below meth c 8 (mMQ (XC z) (mKv K) below args s) 67 [(5, (0, v5)), (0, (2, 127)), (1, (0, p1)), (2, (0, p2)), (3, (0, p3))] [] x.2.2 | 122, [v5, v6] => mG (XC z) p l e { frames := 4, cells := 0, slots := 0, locals := 105 } s m args below meth c 8 (mMQ (XC z) (mKv K) below args s) 122 [(5, (0, v5)), (6, (0, v6)), (0, (2, 127)), (1, (0, p1)), (2, (0, p2)), (3, (0, p3))] [] x.2.2 | 127, [v5, v6, s0] => mG (XC z) p l e { frames := 4, cells := 0, slots := 0, locals := 105 } s m args below meth c 8 (mMQ (XC z) (mKv K) below args s) 127 [(5, (0, v5)), (6, (0, v6)), (0, (2, 127)), (1, (0, p1)), (2, (0, p2)), (3, (0, p3))] [(0, s0)] x.2.2 | _, _ => True)) ?_ hx
    clear hx x
    intro Z x hQ hw
    rcases hw with ⟨v4, v5, h, rfl, hw⟩ | ⟨v5, h, rfl, hw⟩ | ⟨v5, v6, h, rfl, hw⟩ | ⟨v5, v6, s0, h, rfl, hw⟩
    · show mG (XC z) p l e { frames := 4, cells := 0, slots := 0, locals := 105 } s m args below meth c 8 (mMQ (XC z) (mKv K) below args s) 18 [(4, (0, v4)), (5, (0, v5)), (0, (2, 127)), (1, (0, p1)), (2, (0, p2)), (3, (0, p3))] [] h
      unfold B_X2_seekNearest_18 at hw
      refine g_iload C dX2_seekNearest_18 rfl ?_
      refine g_iload C dX2_seekNearest_20 rfl ?_
      refine g_icmp_ge C 54 dX2_seekNearest_22 rfl hw (fun hw => ?_) (fun hw => ?_)
      · refine g_aload_n C dX2_seekNearest_54 rfl (by decide) rfl ?_
        refine g_iconst C ⟨by decide, by decide⟩ dX2_seekNearest_55 ?_
        refine gp_X2_184 C dX2_seekNearest_56 kdC_127 (fun z => z) ?_
        refine g_heap (fun h1 eh1 => ?_)
        replace hw := hw h1 eh1
        refine g_aload_n C dX2_seekNearest_59 rfl (by decide) rfl ?_
        refine g_iconst C ⟨by decide, by decide⟩ dX2_seekNearest_60 ?_
        refine gp_X2_187 C dX2_seekNearest_61 kdC_127 (fun z => z) ?_
        refine g_heap (fun h2 eh2 => ?_)
        replace hw := hw h2 eh2
        refine g_iconst C ⟨by decide, by decide⟩ dX2_seekNearest_64 ?_
        refine g_istore C dX2_seekNearest_65 (by decide) ?_
        exact g_sub [5, 0, 1, 2, 3] rfl (hQ _ hw)
      · refine g_aload_n C dX2_seekNearest_25 rfl (by decide) rfl ?_
        refine g_iload C dX2_seekNearest_26 rfl ?_
        refine g_iload_n C dX2_seekNearest_28 rfl rfl ?_
        refine g_iload_n C dX2_seekNearest_29 rfl rfl ?_
        refine g_aload_n C dX2_seekNearest_30 rfl (by decide) rfl ?_
        refine gw_X2_33 C dX2_seekNearest_31 kdC_127 wwC_127_0 ?_
        refine gf_X2_54 C dX2_seekNearest_34 kdC_53 (fun z34 => ?_)
        obtain ⟨q2, hw⟩ := hw
        refine gw_X2_109 C dX2_seekNearest_37 q2 (wir_4_11 wirC q2) ?_
        refine g_iload C dX2_seekNearest_40 rfl ?_
        refine g_callVi C [(0, v5)] (sim_X7_orZero wirC (kid_4_11 wirC q2) hw) k_1306 k_1080 k_1081 k_136 k_1082 hdV_X7_orZero rfl rfl (by decide) rfl (kid_4_11 wirC q2) rfl rfl rfl dX2_seekNearest_42 ?_
        intro x1 h3 hw
        refine g_callVv C [(0, v5), (0, p2), (0, p3), (0, x1)] (sim_X2_showRow hw) k_1360 k_1362 k_60 k_146 k_1363 hdV_X2_showRow rfl rfl (by decide) rfl kdC_127 rfl rfl rfl dX2_seekNearest_45 ?_
        intro h4 hw
        refine g_iincN C dX2_seekNearest_48 rfl (by decide) (fun x2 ex2 => ?_)
        replace hw := hw x2 ex2
        refine g_goto C 18 dX2_seekNearest_51 rfl ?_
        exact g_sub [4, 5, 0, 1, 2, 3] rfl (hQ _ hw)
    · show mG (XC z) p l e { frames := 4, cells := 0, slots := 0, locals := 105 } s m args below meth c 8 (mMQ (XC z) (mKv K) below args s) 67 [(5, (0, v5)), (0, (2, 127)), (1, (0, p1)), (2, (0, p2)), (3, (0, p3))] [] h
      unfold B_X2_seekNearest_67 at hw
      refine g_iload C dX2_seekNearest_67 rfl ?_
      refine g_aload_n C dX2_seekNearest_69 rfl (by decide) rfl ?_
      refine gw_X2_33 C dX2_seekNearest_70 kdC_127 wwC_127_0 ?_
      refine gf_X2_54 C dX2_seekNearest_73 kdC_53 (fun z73 => ?_)
      obtain ⟨q3, hw⟩ := hw
      refine g_callVi C [] (sim_X5_cells wirC q3 hw) k_1300 k_1031 k_1032 k_135 k_1033 hdV_X5_cells rfl rfl (by decide) rfl q3 rfl rfl rfl dX2_seekNearest_76 ?_
      intro x1 h1 hw
      refine g_icmp_ge C 171 dX2_seekNearest_79 rfl hw (fun hw => ?_) (fun hw => ?_)
      · exact g_vret C hr dX2_seekNearest_171 ⟨rfl, hw⟩
      · refine g_aload_n C dX2_seekNearest_82 rfl (by decide) rfl ?_
        refine gw_X2_33 C dX2_seekNearest_83 kdC_127 wwC_127_0 ?_
        refine gf_X2_54 C dX2_seekNearest_86 kdC_53 (fun z86 => ?_)
        refine g_iload C dX2_seekNearest_89 rfl ?_
        obtain ⟨q4, hw⟩ := hw
        refine g_callVz C [(0, v5)] (sim_X5_isWet wirC q4 hw) k_1301 k_994 k_995 k_135 k_996 hdV_X5_isWet rfl rfl (by decide) rfl q4 rfl rfl rfl dX2_seekNearest_91 ?_
        intro x2 h2 zb91 hw
        refine g_if_eq C 165 dX2_seekNearest_94 rfl hw (fun hw => ?_) (fun hw => ?_)
        · refine g_iincN C dX2_seekNearest_165 rfl (by decide) (fun x3 ex3 => ?_)
          replace hw := hw x3 ex3
          refine g_goto C 67 dX2_seekNearest_168 rfl ?_
          exact g_sub [5, 0, 1, 2, 3] rfl (hQ _ hw)
        · refine g_aload_n C dX2_seekNearest_97 rfl (by decide) rfl ?_
          refine g_iload_n C dX2_seekNearest_98 rfl rfl ?_
          refine g_iload C dX2_seekNearest_99 rfl ?_
          refine g_callVi C [(0, p1), (0, v5)] (sim_X2_differenceFrom hw) k_1390 k_1392 k_64 k_146 k_1393 hdV_X2_differenceFrom rfl rfl (by decide) rfl kdC_127 rfl rfl rfl dX2_seekNearest_101 ?_
          intro x4 h3 hw
          refine g_istore C dX2_seekNearest_104 (by decide) ?_
          refine g_aload_n C dX2_seekNearest_106 rfl (by decide) rfl ?_
          refine gf_X2_184 C dX2_seekNearest_107 kdC_127 (fun z107 => ?_)
          refine g_if_lt C 122 dX2_seekNearest_110 rfl hw (fun hw => ?_) (fun hw => ?_)
          · exact g_sub [5, 6, 0, 1, 2, 3] rfl (hQ _ hw)
          · refine g_iload C dX2_seekNearest_113 rfl ?_
            refine g_aload_n C dX2_seekNearest_115 rfl (by decide) rfl ?_
            refine gf_X2_187 C dX2_seekNearest_116 kdC_127 (fun z116 => ?_)
            refine g_icmp_ge C 126 dX2_seekNearest_119 rfl hw (fun hw => ?_) (fun hw => ?_)
            · refine g_iconst C ⟨by decide, by decide⟩ dX2_seekNearest_126 ?_
              exact g_sub [5, 6, 0, 1, 2, 3] rfl (hQ _ hw)
            · exact g_sub [5, 6, 0, 1, 2, 3] rfl (hQ _ hw)
    · show mG (XC z) p l e { frames := 4, cells := 0, slots := 0, locals := 105 } s m args below meth c 8 (mMQ (XC z) (mKv K) below args s) 122 [(5, (0, v5)), (6, (0, v6)), (0, (2, 127)), (1, (0, p1)), (2, (0, p2)), (3, (0, p3))] [] h
      unfold B_X2_seekNearest_122 at hw
      refine g_iconst C ⟨by decide, by decide⟩ dX2_seekNearest_122 ?_
      refine g_goto C 127 dX2_seekNearest_123 rfl ?_
      exact g_sub [5, 6, 0, 1, 2, 3] rfl (hQ _ hw)
    · show mG (XC z) p l e { frames := 4, cells := 0, slots := 0, locals := 105 } s m args below meth c 8 (mMQ (XC z) (mKv K) below args s) 127 [(5, (0, v5)), (6, (0, v6)), (0, (2, 127)), (1, (0, p1)), (2, (0, p2)), (3, (0, p3))] [(0, s0)] h
      unfold B_X2_seekNearest_127 at hw
      refine g_istore C dX2_seekNearest_127 (by decide) ?_
      refine g_aload_n C dX2_seekNearest_129 rfl (by decide) rfl ?_
      refine g_iload C dX2_seekNearest_130 rfl ?_
      refine g_if_eq C 140 dX2_seekNearest_132 rfl hw (fun hw => ?_) (fun hw => ?_)
      · refine g_aload_n C dX2_seekNearest_140 rfl (by decide) rfl ?_
        refine gf_X2_184 C dX2_seekNearest_141 kdC_127 (fun z141 => ?_)
        refine gp_X2_184 C dX2_seekNearest_144 kdC_127 (fun z => z) ?_
        refine g_heap (fun h1 eh1 => ?_)
        replace hw := hw h1 eh1
        refine g_aload_n C dX2_seekNearest_147 rfl (by decide) rfl ?_
        refine g_iload C dX2_seekNearest_148 rfl ?_
        refine g_if_eq C 158 dX2_seekNearest_150 rfl hw (fun hw => ?_) (fun hw => ?_)
        · refine g_aload_n C dX2_seekNearest_158 rfl (by decide) rfl ?_
          refine gf_X2_187 C dX2_seekNearest_159 kdC_127 (fun z159 => ?_)
          refine gp_X2_187 C dX2_seekNearest_162 kdC_127 (fun z => z) ?_
          refine g_heap (fun h2 eh2 => ?_)
          replace hw := hw h2 eh2
          refine g_iincN C dX2_seekNearest_165 rfl (by decide) (fun x1 ex1 => ?_)
          replace hw := hw x1 ex1
          refine g_goto C 67 dX2_seekNearest_168 rfl ?_
          exact g_sub [5, 0, 1, 2, 3] rfl (hQ _ hw)
        · refine g_iload C dX2_seekNearest_153 rfl ?_
          refine g_goto C 162 dX2_seekNearest_155 rfl ?_
          refine gp_X2_187 C dX2_seekNearest_162 kdC_127 (fun z => z) ?_
          refine g_heap (fun h3 eh3 => ?_)
          replace hw := hw h3 eh3
          refine g_iincN C dX2_seekNearest_165 rfl (by decide) (fun x2 ex2 => ?_)
          replace hw := hw x2 ex2
          refine g_goto C 67 dX2_seekNearest_168 rfl ?_
          exact g_sub [5, 0, 1, 2, 3] rfl (hQ _ hw)
      · refine g_iload C dX2_seekNearest_135 rfl ?_
        refine g_goto C 144 dX2_seekNearest_137 rfl ?_
        refine gp_X2_184 C dX2_seekNearest_144 kdC_127 (fun z => z) ?_
        refine g_heap (fun h4 eh4 => ?_)
        replace hw := hw h4 eh4
        refine g_aload_n C dX2_seekNearest_147 rfl (by decide) rfl ?_
        refine g_iload C dX2_seekNearest_148 rfl ?_
        refine g_if_eq C 158 dX2_seekNearest_150 rfl hw (fun hw => ?_) (fun hw => ?_)
        · refine g_aload_n C dX2_seekNearest_158 rfl (by decide) rfl ?_
          refine gf_X2_187 C dX2_seekNearest_159 kdC_127 (fun z159 => ?_)
          refine gp_X2_187 C dX2_seekNearest_162 kdC_127 (fun z => z) ?_
          refine g_heap (fun h5 eh5 => ?_)
          replace hw := hw h5 eh5
          refine g_iincN C dX2_seekNearest_165 rfl (by decide) (fun x3 ex3 => ?_)
          replace hw := hw x3 ex3
          refine g_goto C 67 dX2_seekNearest_168 rfl ?_
          exact g_sub [5, 0, 1, 2, 3] rfl (hQ _ hw)
        · refine g_iload C dX2_seekNearest_153 rfl ?_
          refine g_goto C 162 dX2_seekNearest_155 rfl ?_
          refine gp_X2_187 C dX2_seekNearest_162 kdC_127 (fun z => z) ?_
          refine g_heap (fun h6 eh6 => ?_)
          replace hw := hw h6 eh6
          refine g_iincN C dX2_seekNearest_165 rfl (by decide) (fun x4 ex4 => ?_)
          replace hw := hw x4 ex4
          refine g_goto C 67 dX2_seekNearest_168 rfl ?_
          exact g_sub [5, 0, 1, 2, 3] rfl (hQ _ hw)
  show mG _ p l e _ s m args below meth c _ _ 0 [(0, (2, 127)), (1, (0, p1)), (2, (0, p2)), (3, (0, p3))] [] h
  unfold wp_X2_seekNearest at hw
  refine g_aload_n C dX2_seekNearest_0 rfl (by decide) rfl ?_
  refine gw_X2_33 C dX2_seekNearest_1 kdC_127 wwC_127_0 ?_
  refine gf_X2_54 C dX2_seekNearest_4 kdC_53 (fun z4 => ?_)
  obtain ⟨q1, hw⟩ := hw
  refine gw_X2_158 C dX2_seekNearest_7 q1 (wir_4_10 wirC q1) ?_
  refine gf_X2_66 C dX2_seekNearest_10 (kid_4_10 wirC q1) (fun z10 => ?_)
  refine g_topi (fun x1 ex1 => ?_)
  replace hw := hw x1 ex1
  refine g_istore C dX2_seekNearest_13 (by decide) ?_
  refine g_iconst C ⟨by decide, by decide⟩ dX2_seekNearest_15 ?_
  refine g_istore C dX2_seekNearest_16 (by decide) ?_
  exact g_sub [4, 5, 0, 1, 2, 3] rfl (hQ _ hw)
set_option maxRecDepth 20000 in
set_option maxHeartbeats 4000000 in
theorem sim_X13_looks {z : Mz} {l : Launch} {p1 : Int} {p2 : Int} {p3 : Int} {p4 : Int} {h : Mh} {K : Int → Mh → Prop} (hw : wp_X13_looks p1 p2 p3 p4 h K) : mCal (XC z) l yX13_looks cX13_looks 7 (some Jvm.ClassFile.FieldType.int) 5 132 [(2, 0), (0, p1), (0, p2), (0, p3), (0, p4)] h (mKi K) := by
  refine m_entry RX13 rfl (by decide) rfl (fun p e s m args below meth c C hr => ?_)
  have hQ : ∀ x, Lfp (F_X13_looks p1 p2 p3 p4 K) x → (match x.1, x.2.1 with | 46, [] => mG (XC z) p l e { frames := 5, cells := 0, slots := 0, locals := 132 } s m args below meth c 7 (mMQ (XC z) (mKi K) below args s) 46 [(0, (2, 0)), (1, (0, p1)), (2, (0, p2)), (3, (0, p3)), (4, (0, p4))] [] x.2.2 | 47, [s0] => mG (XC z) p l e { frames := 5, cells := 0, slots := 0, locals := 132 } s m args below meth c 7 (mMQ (XC z) (mKi K) below args s) 47 [(0, (2, 0)), (1, (0, p1)), (2, (0, p2)), (3, (0, p3)), (4, (0, p4))] [(0, s0)] x.2.2 | _, _ => True) := by
    intro x hx
    refine Lfp.ind (fun x => (match x.1, x.2.1 with | 46, [] => mG (XC z) p l e { frames := 5, cells := 0, slots := 0, locals := 132 } s m args below meth c 7 (mMQ (XC z) (mKi K) below args s) 46 [(0, (2, 0)), (1, (0, p1)), (2, (0, p2)), (3, (0, p3)), (4, (0, p4))] [] x.2.2 | 47, [s0] => mG (XC z) p l e { frames := 5, cells := 0, slots := 0, locals := 132 } s m args below meth c 7 (mMQ (XC z) (mKi K) below args s) 47 [(0, (2, 0)), (1, (0, p1)), (2, (0, p2)), (3, (0, p3)), (4, (0, p4))] [(0, s0)] x.2.2 | _, _ => True)) ?_ hx
    clear hx x
    intro Z x hQ hw
    rcases hw with ⟨h, rfl, hw⟩ | ⟨s0, h, rfl, hw⟩
    · show mG (XC z) p l e { frames := 5, cells := 0, slots := 0, locals := 132 } s m args below meth c 7 (mMQ (XC z) (mKi K) below args s) 46 [(0, (2, 0)), (1, (0, p1)), (2, (0, p2)), (3, (0, p3)), (4, (0, p4))] [] h
      unfold B_X13_looks_46 at hw
      refine g_iconst C ⟨by decide, by decide⟩ dX13_looks_46 ?_
      exact g_sub [0, 1, 2, 3, 4] rfl (hQ _ hw)
    · show mG (XC z) p l e { frames := 5, cells := 0, slots := 0, locals := 132 } s m args below meth c 7 (mMQ (XC z) (mKi K) below args s) 47 [(0, (2, 0)), (1, (0, p1)), (2, (0, p2)), (3, (0, p3)), (4, (0, p4))] [(0, s0)] h
      unfold B_X13_looks_47 at hw
      refine g_istore C dX13_looks_47 (by decide) ?_
      refine g_iload C dX13_looks_49 rfl ?_
      refine g_if_eq C 65 dX13_looks_51 rfl hw (fun hw => ?_) (fun hw => ?_)
      · refine g_iconst C ⟨by decide, by decide⟩ dX13_looks_65 ?_
        exact g_iret C hr dX13_looks_66 ⟨_, rfl, hw⟩
      · refine g_iload C dX13_looks_54 rfl ?_
        refine g_if_lt C 65 dX13_looks_56 rfl hw (fun hw => ?_) (fun hw => ?_)
        · refine g_iconst C ⟨by decide, by decide⟩ dX13_looks_65 ?_
          exact g_iret C hr dX13_looks_66 ⟨_, rfl, hw⟩
        · refine g_iload C dX13_looks_59 rfl ?_
          refine g_iconst C ⟨by decide, by decide⟩ dX13_looks_61 ?_
          refine g_icmp_le C 67 dX13_looks_62 rfl hw (fun hw => ?_) (fun hw => ?_)
          · refine g_aload_n C dX13_looks_67 rfl (by decide) rfl ?_
            refine gw_X13_52 C dX13_looks_68 kdC_0 wwC_0_6 ?_
            refine g_callVv C [] (sim_X6_freshenWays hw) k_1017 k_1018 k_1019 k_144 k_1020 hdV_X6_freshenWays rfl rfl (by decide) rfl kdC_115 rfl rfl rfl dX13_looks_71 ?_
            intro h1 hw
            refine g_aload_n C dX13_looks_74 rfl (by decide) rfl ?_
            refine gw_X13_70 C dX13_looks_75 kdC_0 wwC_0_8 ?_
            refine g_iload_n C dX13_looks_78 rfl rfl ?_
            refine g_iload_n C dX13_looks_79 rfl rfl ?_
            refine g_iload_n C dX13_looks_80 rfl rfl ?_
            refine g_callVv C [(0, p1), (0, p2), (0, p3)] (sim_X2_seekNearest hw) k_1386 k_1387 k_1388 k_146 k_1389 hdV_X2_seekNearest rfl rfl (by decide) rfl kdC_127 rfl rfl rfl dX13_looks_81 ?_
            intro h2 hw
            refine g_iload C dX13_looks_84 rfl ?_
            refine g_if_ne C 99 dX13_looks_86 rfl hw (fun hw => ?_) (fun hw => ?_)
            · refine g_aload_n C dX13_looks_99 rfl (by decide) rfl ?_
              refine gw_X13_70 C dX13_looks_100 kdC_0 wwC_0_8 ?_
              refine gf_X13_292 C dX13_looks_103 kdC_127 (fun z103 => ?_)
              exact g_iret C hr dX13_looks_106 ⟨_, rfl, hw⟩
            · refine g_aload_n C dX13_looks_89 rfl (by decide) rfl ?_
              refine gw_X13_70 C dX13_looks_90 kdC_0 wwC_0_8 ?_
              refine gf_X13_289 C dX13_looks_93 kdC_127 (fun z93 => ?_)
              refine g_goto C 106 dX13_looks_96 rfl ?_
              exact g_iret C hr dX13_looks_106 ⟨_, rfl, hw⟩
          · refine g_iconst C ⟨by decide, by decide⟩ dX13_looks_65 ?_
            exact g_iret C hr dX13_looks_66 ⟨_, rfl, hw⟩
  show mG _ p l e _ s m args below meth c _ _ 0 [(0, (2, 0)), (1, (0, p1)), (2, (0, p2)), (3, (0, p3)), (4, (0, p4))] [] h
  unfold wp_X13_looks at hw
  refine g_aload_n C dX13_looks_0 rfl (by decide) rfl ?_
  refine gw_X13_36 C dX13_looks_1 kdC_0 wwC_0_4 ?_
  refine gf_X13_86 C dX13_looks_4 kdC_53 (fun z4 => ?_)
  refine g_astore C dX13_looks_7 (by decide) (by decide) ?_
  refine g_aload C dX13_looks_9 (by decide) rfl ?_
  obtain ⟨q1, hw⟩ := hw
  refine gw_X13_104 C dX13_looks_11 q1 (wir_4_7 wirC q1) ?_
  refine g_iload_n C dX13_looks_14 rfl rfl ?_
  refine g_callVz C [(0, p1)] (sim_X7_has wirC (kid_4_7 wirC q1) hw) k_1113 k_1114 k_1115 k_136 k_1116 hdV_X7_has rfl rfl (by decide) rfl (kid_4_7 wirC q1) rfl rfl rfl dX13_looks_15 ?_
  intro x1 h1 zb15 hw
  refine g_if_eq C 46 dX13_looks_18 rfl hw (fun hw => ?_) (fun hw => ?_)
  · exact g_sub [0, 1, 2, 3, 4] rfl (hQ _ hw)
  · refine g_aload C dX13_looks_21 (by decide) rfl ?_
    refine gw_X13_104 C dX13_looks_23 q1 (wir_4_7 wirC q1) ?_
    refine g_iload_n C dX13_looks_26 rfl rfl ?_
    refine g_callVz C [(0, p2)] (sim_X7_has wirC (kid_4_7 wirC q1) hw) k_1113 k_1114 k_1115 k_136 k_1116 hdV_X7_has rfl rfl (by decide) rfl (kid_4_7 wirC q1) rfl rfl rfl dX13_looks_27 ?_
    intro x2 h2 zb27 hw
    refine g_if_eq C 46 dX13_looks_30 rfl hw (fun hw => ?_) (fun hw => ?_)
    · exact g_sub [0, 1, 2, 3, 4] rfl (hQ _ hw)
    · refine g_aload C dX13_looks_33 (by decide) rfl ?_
      refine g_iload_n C dX13_looks_35 rfl rfl ?_
      refine g_callVz C [(0, p3)] (sim_X5_isWet wirC q1 hw) k_993 k_994 k_995 k_135 k_996 hdV_X5_isWet rfl rfl (by decide) rfl q1 rfl rfl rfl dX13_looks_36 ?_
      intro x3 h3 zb36 hw
      refine g_if_eq C 46 dX13_looks_39 rfl hw (fun hw => ?_) (fun hw => ?_)
      · exact g_sub [0, 1, 2, 3, 4] rfl (hQ _ hw)
      · refine g_iconst C ⟨by decide, by decide⟩ dX13_looks_42 ?_
        refine g_goto C 47 dX13_looks_43 rfl ?_
        exact g_sub [0, 1, 2, 3, 4] rfl (hQ _ hw)
set_option maxRecDepth 20000 in
set_option maxHeartbeats 4000000 in
theorem sim_X6_peakStep {z : Mz} {l : Launch} {p1 : Int} {p2 : Int} {h : Mh} {K : Int → Mh → Prop} (hw : wp_X6_peakStep p1 p2 h K) : mCal (XC z) l yX6_peakStep cX6_peakStep 5 (some Jvm.ClassFile.FieldType.int) 1 23 [(2, 115), (0, p1), (0, p2)] h (mKi K) := by
  refine m_entry RX6 rfl (by decide) rfl (fun p e s m args below meth c C hr => ?_)
  have hQ : ∀ x, Lfp (F_X6_peakStep p1 p2 K) x → (match x.1, x.2.1 with | 5, [v3, v4] => mG (XC z) p l e { frames := 1, cells := 0, slots := 0, locals := 23 } s m args below meth c 5 (mMQ (XC z) (mKi K) below args s) 5 [(3, (0, v3)), (4, (0, v4)), (0, (2, 115)), (1, (0, p1)), (2, (0, p2))] [] x.2.2 | _, _ => True) := by
    intro x hx
    refine Lfp.ind (fun x => (match x.1, x.2.1 with | 5, [v3, v4] => mG (XC z) p l e { frames := 1, cells := 0, slots := 0, locals := 23 } s m args below meth c 5 (mMQ (XC z) (mKi K) below args s) 5 [(3, (0, v3)), (4, (0, v4)), (0, (2, 115)), (1, (0, p1)), (2, (0, p2))] [] x.2.2 | _, _ => True)) ?_ hx
    clear hx x
    intro Z x hQ hw
    rcases hw with ⟨v3, v4, h, rfl, hw⟩
    · show mG (XC z) p l e { frames := 1, cells := 0, slots := 0, locals := 23 } s m args below meth c 5 (mMQ (XC z) (mKi K) below args s) 5 [(3, (0, v3)), (4, (0, v4)), (0, (2, 115)), (1, (0, p1)), (2, (0, p2))] [] h
      unfold B_X6_peakStep_5 at hw
      refine g_iload C dX6_peakStep_5 rfl ?_
      refine g_sipush C ⟨by decide, by decide⟩ (by decide) dX6_peakStep_7 ?_
      refine g_icmp_ge C 42 dX6_peakStep_10 rfl hw (fun hw => ?_) (fun hw => ?_)
      · refine g_iload_n C dX6_peakStep_42 rfl rfl ?_
        exact g_iret C hr dX6_peakStep_43 ⟨_, rfl, hw⟩
      · refine g_iload_n C dX6_peakStep_13 rfl rfl ?_
        refine g_aload_n C dX6_peakStep_14 rfl (by decide) rfl ?_
        refine g_iload_n C dX6_peakStep_15 rfl rfl ?_
        refine g_iload C dX6_peakStep_16 rfl ?_
        refine g_callVi C [(0, p1), (0, v4)] (sim_X6_sumAt hw) k_1127 k_1106 k_1107 k_144 k_1108 hdV_X6_sumAt rfl rfl (by decide) rfl kdC_115 rfl rfl rfl dX6_peakStep_18 ?_
        intro x1 h1 hw
        refine g_imul C dX6_peakStep_21 ?_
        refine g_iload_n C dX6_peakStep_22 rfl rfl ?_
        refine g_aload_n C dX6_peakStep_23 rfl (by decide) rfl ?_
        refine g_iload_n C dX6_peakStep_24 rfl rfl ?_
        refine g_iload_n C dX6_peakStep_25 rfl rfl ?_
        refine g_callVi C [(0, p1), (0, v3)] (sim_X6_sumAt hw) k_1127 k_1106 k_1107 k_144 k_1108 hdV_X6_sumAt rfl rfl (by decide) rfl kdC_115 rfl rfl rfl dX6_peakStep_26 ?_
        intro x2 h2 hw
        refine g_imul C dX6_peakStep_29 ?_
        refine g_icmp_le C 36 dX6_peakStep_30 rfl hw (fun hw => ?_) (fun hw => ?_)
        · refine g_iincN C dX6_peakStep_36 rfl (by decide) (fun x3 ex3 => ?_)
          replace hw := hw x3 ex3
          refine g_goto C 5 dX6_peakStep_39 rfl ?_
          exact g_sub [3, 4, 0, 1, 2] rfl (hQ _ hw)
        · refine g_iload C dX6_peakStep_33 rfl ?_
          refine g_istore_n C dX6_peakStep_35 rfl (by decide) ?_
          refine g_iincN C dX6_peakStep_36 rfl (by decide) (fun x4 ex4 => ?_)
          replace hw := hw x4 ex4
          refine g_goto C 5 dX6_peakStep_39 rfl ?_
          exact g_sub [3, 4, 0, 1, 2] rfl (hQ _ hw)
  show mG _ p l e _ s m args below meth c _ _ 0 [(0, (2, 115)), (1, (0, p1)), (2, (0, p2))] [] h
  unfold wp_X6_peakStep at hw
  refine g_iconst C ⟨by decide, by decide⟩ dX6_peakStep_0 ?_
  refine g_istore_n C dX6_peakStep_1 rfl (by decide) ?_
  refine g_iconst C ⟨by decide, by decide⟩ dX6_peakStep_2 ?_
  refine g_istore C dX6_peakStep_3 (by decide) ?_
  exact g_sub [3, 4, 0, 1, 2] rfl (hQ _ hw)
set_option maxRecDepth 20000 in
set_option maxHeartbeats 4000000 in
theorem sim_X13_most {z : Mz} {l : Launch} {p1 : Int} {p2 : Int} {h : Mh} {K : Int → Mh → Prop} (hw : wp_X13_most p1 p2 h K) : mCal (XC z) l yX13_most cX13_most 5 (some Jvm.ClassFile.FieldType.int) 5 124 [(2, 0), (0, p1), (0, p2)] h (mKi K) := by
  refine m_entry RX13 rfl (by decide) rfl (fun p e s m args below meth c C hr => ?_)
  have hQ : ∀ x, Lfp (F_X13_most p1 p2 K) x → (match x.1, x.2.1 with | 43, [s0] => mG (XC z) p l e { frames := 5, cells := 0, slots := 0, locals := 124 } s m args below meth c 5 (mMQ (XC z) (mKi K) below args s) 43 [(0, (2, 0)), (1, (0, p1)), (2, (0, p2))] [(0, s0)] x.2.2 | _, _ => True) := by
    intro x hx
    refine Lfp.ind (fun x => (match x.1, x.2.1 with | 43, [s0] => mG (XC z) p l e { frames := 5, cells := 0, slots := 0, locals := 124 } s m args below meth c 5 (mMQ (XC z) (mKi K) below args s) 43 [(0, (2, 0)), (1, (0, p1)), (2, (0, p2))] [(0, s0)] x.2.2 | _, _ => True)) ?_ hx
    clear hx x
    intro Z x hQ hw
    rcases hw with ⟨s0, h, rfl, hw⟩
    · show mG (XC z) p l e { frames := 5, cells := 0, slots := 0, locals := 124 } s m args below meth c 5 (mMQ (XC z) (mKi K) below args s) 43 [(0, (2, 0)), (1, (0, p1)), (2, (0, p2))] [(0, s0)] h
      unfold B_X13_most_43 at hw
      refine g_istore_n C dX13_most_43 rfl (by decide) ?_
      refine g_aload_n C dX13_most_44 rfl (by decide) rfl ?_
      refine gw_X13_52 C dX13_most_45 kdC_0 wwC_0_6 ?_
      refine g_iload_n C dX13_most_48 rfl rfl ?_
      refine g_iload_n C dX13_most_49 rfl rfl ?_
      refine g_callVi C [(0, p1), (0, s0)] (sim_X6_peakStep hw) k_1123 k_1124 k_1125 k_144 k_1126 hdV_X6_peakStep rfl rfl (by decide) rfl kdC_115 rfl rfl rfl dX13_most_50 ?_
      intro x1 h1 hw
      refine g_istore C dX13_most_53 (by decide) ?_
      refine g_iload_n C dX13_most_55 rfl rfl ?_
      refine g_if_eq C 64 dX13_most_56 rfl hw (fun hw => ?_) (fun hw => ?_)
      · refine g_aload_n C dX13_most_64 rfl (by decide) rfl ?_
        refine gw_X13_52 C dX13_most_65 kdC_0 wwC_0_6 ?_
        refine g_iload_n C dX13_most_68 rfl rfl ?_
        refine g_iload C dX13_most_69 rfl ?_
        refine g_callVi C [(0, p1), (0, x1)] (sim_X6_sumAt hw) k_1105 k_1106 k_1107 k_144 k_1108 hdV_X6_sumAt rfl rfl (by decide) rfl kdC_115 rfl rfl rfl dX13_most_71 ?_
        intro x2 h2 hw
        refine g_goto C 79 dX13_most_74 rfl ?_
        exact g_iret C hr dX13_most_79 ⟨_, rfl, hw⟩
      · refine g_iload_n C dX13_most_59 rfl rfl ?_
        refine g_iconst C ⟨by decide, by decide⟩ dX13_most_60 ?_
        refine g_icmp_ne C 77 dX13_most_61 rfl hw (fun hw => ?_) (fun hw => ?_)
        · refine g_iload C dX13_most_77 rfl ?_
          exact g_iret C hr dX13_most_79 ⟨_, rfl, hw⟩
        · refine g_aload_n C dX13_most_64 rfl (by decide) rfl ?_
          refine gw_X13_52 C dX13_most_65 kdC_0 wwC_0_6 ?_
          refine g_iload_n C dX13_most_68 rfl rfl ?_
          refine g_iload C dX13_most_69 rfl ?_
          refine g_callVi C [(0, p1), (0, x1)] (sim_X6_sumAt hw) k_1105 k_1106 k_1107 k_144 k_1108 hdV_X6_sumAt rfl rfl (by decide) rfl kdC_115 rfl rfl rfl dX13_most_71 ?_
          intro x3 h3 hw
          refine g_goto C 79 dX13_most_74 rfl ?_
          exact g_iret C hr dX13_most_79 ⟨_, rfl, hw⟩
  show mG _ p l e _ s m args below meth c _ _ 0 [(0, (2, 0)), (1, (0, p1)), (2, (0, p2))] [] h
  unfold wp_X13_most at hw
  refine g_aload_n C dX13_most_0 rfl (by decide) rfl ?_
  refine gw_X13_36 C dX13_most_1 kdC_0 wwC_0_4 ?_
  refine gf_X13_86 C dX13_most_4 kdC_53 (fun z4 => ?_)
  refine g_iload_n C dX13_most_7 rfl rfl ?_
  obtain ⟨q1, hw⟩ := hw
  refine g_callVz C [(0, p1)] (sim_X5_isWet wirC q1 hw) k_993 k_994 k_995 k_135 k_996 hdV_X5_isWet rfl rfl (by decide) rfl q1 rfl rfl rfl dX13_most_8 ?_
  intro x1 h1 zb8 hw
  refine g_if_eq C 23 dX13_most_11 rfl hw (fun hw => ?_) (fun hw => ?_)
  · refine g_ldc C ⟨by decide, by decide⟩ k_1067 dX13_most_23 ?_
    exact g_iret C hr dX13_most_25 ⟨_, rfl, hw⟩
  · refine g_iload_n C dX13_most_14 rfl rfl ?_
    refine g_if_lt C 23 dX13_most_15 rfl hw (fun hw => ?_) (fun hw => ?_)
    · refine g_ldc C ⟨by decide, by decide⟩ k_1067 dX13_most_23 ?_
      exact g_iret C hr dX13_most_25 ⟨_, rfl, hw⟩
    · refine g_iload_n C dX13_most_18 rfl rfl ?_
      refine g_iconst C ⟨by decide, by decide⟩ dX13_most_19 ?_
      refine g_icmp_le C 26 dX13_most_20 rfl hw (fun hw => ?_) (fun hw => ?_)
      · refine g_aload_n C dX13_most_26 rfl (by decide) rfl ?_
        refine gw_X13_52 C dX13_most_27 kdC_0 wwC_0_6 ?_
        refine g_callVv C [] (sim_X6_freshenSums hw) k_1068 k_1069 k_1070 k_144 k_1071 hdV_X6_freshenSums rfl rfl (by decide) rfl kdC_115 rfl rfl rfl dX13_most_30 ?_
        intro h2 hw
        refine g_iload_n C dX13_most_33 rfl rfl ?_
        refine g_iconst C ⟨by decide, by decide⟩ dX13_most_34 ?_
        refine g_icmp_ge C 42 dX13_most_35 rfl hw (fun hw => ?_) (fun hw => ?_)
        · refine g_iconst C ⟨by decide, by decide⟩ dX13_most_42 ?_
          exact g_sub [0, 1, 2] rfl (hQ _ hw)
        · refine g_iconst C ⟨by decide, by decide⟩ dX13_most_38 ?_
          refine g_goto C 43 dX13_most_39 rfl ?_
          exact g_sub [0, 1, 2] rfl (hQ _ hw)
      · refine g_ldc C ⟨by decide, by decide⟩ k_1067 dX13_most_23 ?_
        exact g_iret C hr dX13_most_25 ⟨_, rfl, hw⟩
set_option maxRecDepth 20000 in
set_option maxHeartbeats 4000000 in
theorem sim_X13_named {z : Mz} {l : Launch} {p1 : Int} {p2 : Int} {h : Mh} {K : Int → Mh → Prop} (hw : wp_X13_named p1 p2 h K) : mCal (XC z) l yX13_named cX13_named 4 (some Jvm.ClassFile.FieldType.int) 1 22 [(2, 0), (0, p1), (0, p2)] h (mKi K) := by
  refine m_entry RX13 rfl (by decide) rfl (fun p e s m args below meth c C hr => ?_)
  show mG _ p l e _ s m args below meth c _ _ 0 [(0, (2, 0)), (1, (0, p1)), (2, (0, p2))] [] h
  unfold wp_X13_named at hw
  refine g_aload_n C dX13_named_0 rfl (by decide) rfl ?_
  refine gw_X13_36 C dX13_named_1 kdC_0 wwC_0_4 ?_
  refine gf_X13_86 C dX13_named_4 kdC_53 (fun z4 => ?_)
  refine g_astore_n C dX13_named_7 rfl (by decide) (by decide) ?_
  refine g_iload_n C dX13_named_8 rfl rfl ?_
  by_cases c0 : p1 = 0
  · rw [if_pos c0] at hw
    refine g_tabIn C 40 0 dX13_named_9 c0 (by decide) (by decide) rfl rfl ?_
    refine g_aload_n C dX13_named_40 rfl (by decide) rfl ?_
    obtain ⟨q1, hw⟩ := hw
    refine gw_X13_104 C dX13_named_41 q1 (wir_4_7 wirC q1) ?_
    refine g_iload_n C dX13_named_44 rfl rfl ?_
    refine g_callVi C [(0, p2)] (sim_X7_indexOf wirC (kid_4_7 wirC q1) hw) k_984 k_855 k_856 k_136 k_857 hdV_X7_indexOf rfl rfl (by decide) rfl (kid_4_7 wirC q1) rfl rfl rfl dX13_named_45 ?_
    intro x1 h1 hw
    exact g_iret C hr dX13_named_48 ⟨_, rfl, hw⟩
  rw [if_neg c0] at hw
  by_cases c1 : p1 = 1
  · rw [if_pos c1] at hw
    refine g_tabIn C 49 1 dX13_named_9 c1 (by decide) (by decide) rfl rfl ?_
    refine g_aload_n C dX13_named_49 rfl (by decide) rfl ?_
    obtain ⟨q2, hw⟩ := hw
    refine gw_X13_114 C dX13_named_50 q2 (wir_4_10 wirC q2) ?_
    refine g_iload_n C dX13_named_53 rfl rfl ?_
    refine g_callVi C [(0, p2)] (sim_X7_indexOf wirC (kid_4_10 wirC q2) hw) k_984 k_855 k_856 k_136 k_857 hdV_X7_indexOf rfl rfl (by decide) rfl (kid_4_10 wirC q2) rfl rfl rfl dX13_named_54 ?_
    intro x2 h2 hw
    exact g_iret C hr dX13_named_57 ⟨_, rfl, hw⟩
  rw [if_neg c1] at hw
  by_cases c2 : p1 = 2
  · rw [if_pos c2] at hw
    refine g_tabIn C 58 2 dX13_named_9 c2 (by decide) (by decide) rfl rfl ?_
    refine g_aload_n C dX13_named_58 rfl (by decide) rfl ?_
    obtain ⟨q3, hw⟩ := hw
    refine gw_X13_117 C dX13_named_59 q3 (wir_4_12 wirC q3) ?_
    refine g_iload_n C dX13_named_62 rfl rfl ?_
    refine g_callVi C [(0, p2)] (sim_X7_indexOf wirC (kid_4_12 wirC q3) hw) k_984 k_855 k_856 k_136 k_857 hdV_X7_indexOf rfl rfl (by decide) rfl (kid_4_12 wirC q3) rfl rfl rfl dX13_named_63 ?_
    intro x3 h3 hw
    exact g_iret C hr dX13_named_66 ⟨_, rfl, hw⟩
  rw [if_neg c2] at hw
  by_cases c3 : p1 = 3
  · rw [if_pos c3] at hw
    refine g_tabIn C 67 3 dX13_named_9 c3 (by decide) (by decide) rfl rfl ?_
    refine g_aload_n C dX13_named_67 rfl (by decide) rfl ?_
    obtain ⟨q4, hw⟩ := hw
    refine gw_X13_120 C dX13_named_68 q4 (wir_4_6 wirC q4) ?_
    refine g_iload_n C dX13_named_71 rfl rfl ?_
    refine g_callVi C [(0, p2)] (sim_X7_indexOf wirC (kid_4_6 wirC q4) hw) k_984 k_855 k_856 k_136 k_857 hdV_X7_indexOf rfl rfl (by decide) rfl (kid_4_6 wirC q4) rfl rfl rfl dX13_named_72 ?_
    intro x4 h4 hw
    exact g_iret C hr dX13_named_75 ⟨_, rfl, hw⟩
  rw [if_neg c3] at hw
  refine g_tabOut C 76 dX13_named_9 (by omega) rfl ?_
  refine g_iconst C ⟨by decide, by decide⟩ dX13_named_76 ?_
  exact g_iret C hr dX13_named_77 ⟨_, rfl, hw⟩
set_option maxRecDepth 20000 in
set_option maxHeartbeats 4000000 in
theorem sim_X4_addSight {z : Mz} {l : Launch} {p1 : Int} {p2 : Int} {p3 : Int} {h : Mh} {K : Int → Mh → Prop} (hw : wp_X4_addSight p1 p2 p3 h K) : mCal (XC z) l yX4_addSight cX4_addSight 4 (some Jvm.ClassFile.FieldType.int) 0 0 [(2, 107), (0, p1), (0, p2), (0, p3)] h (mKi K) := by
  refine m_entry RX4 rfl (by decide) rfl (fun p e s m args below meth c C hr => ?_)
  show mG _ p l e _ s m args below meth c _ _ 0 [(0, (2, 107)), (1, (0, p1)), (2, (0, p2)), (3, (0, p3))] [] h
  unfold wp_X4_addSight at hw
  refine g_aload_n C dX4_addSight_0 rfl (by decide) rfl ?_
  refine gf_X4_41 C dX4_addSight_1 kdC_107 (fun z1 => ?_)
  refine g_if_lt C 16 dX4_addSight_4 rfl hw (fun hw => ?_) (fun hw => ?_)
  · refine g_iconst C ⟨by decide, by decide⟩ dX4_addSight_16 ?_
    exact g_iret C hr dX4_addSight_17 ⟨_, rfl, hw⟩
  · refine g_aload_n C dX4_addSight_7 rfl (by decide) rfl ?_
    refine gf_X4_41 C dX4_addSight_8 kdC_107 (fun z8 => ?_)
    refine g_bipush C ⟨by decide, by decide⟩ (by decide) dX4_addSight_11 ?_
    refine g_icmp_lt C 18 dX4_addSight_13 rfl hw (fun hw => ?_) (fun hw => ?_)
    · refine g_aload_n C dX4_addSight_18 rfl (by decide) rfl ?_
      refine gw_X4_9 C dX4_addSight_19 kdC_107 wwC_107_0 ?_
      refine g_aload_n C dX4_addSight_22 rfl (by decide) rfl ?_
      refine gf_X4_41 C dX4_addSight_23 kdC_107 (fun z23 => ?_)
      refine g_iload_n C dX4_addSight_26 rfl rfl ?_
      obtain ⟨⟨b1, b1b⟩, hw⟩ := hw
      refine g_iastore C dX4_addSight_27 kdC_108 b1 b1b (fun z => z) ?_
      refine g_heap (fun h1 eh1 => ?_)
      replace hw := hw h1 eh1
      refine g_aload_n C dX4_addSight_28 rfl (by decide) rfl ?_
      refine gw_X4_15 C dX4_addSight_29 kdC_107 wwC_107_1 ?_
      refine g_aload_n C dX4_addSight_32 rfl (by decide) rfl ?_
      refine gf_X4_41 C dX4_addSight_33 kdC_107 (fun z33 => ?_)
      refine g_iload_n C dX4_addSight_36 rfl rfl ?_
      obtain ⟨⟨b2, b2b⟩, hw⟩ := hw
      refine g_iastore C dX4_addSight_37 kdC_109 b2 b2b (fun z => z) ?_
      refine g_heap (fun h2 eh2 => ?_)
      replace hw := hw h2 eh2
      refine g_aload_n C dX4_addSight_38 rfl (by decide) rfl ?_
      refine gw_X4_18 C dX4_addSight_39 kdC_107 wwC_107_2 ?_
      refine g_aload_n C dX4_addSight_42 rfl (by decide) rfl ?_
      refine gf_X4_41 C dX4_addSight_43 kdC_107 (fun z43 => ?_)
      refine g_iload_n C dX4_addSight_46 rfl rfl ?_
      obtain ⟨⟨b3, b3b⟩, hw⟩ := hw
      refine g_iastore C dX4_addSight_47 kdC_110 b3 b3b (fun z => z) ?_
      refine g_heap (fun h3 eh3 => ?_)
      replace hw := hw h3 eh3
      refine g_aload_n C dX4_addSight_48 rfl (by decide) rfl ?_
      refine gw_X4_21 C dX4_addSight_49 kdC_107 wwC_107_3 ?_
      refine g_aload_n C dX4_addSight_52 rfl (by decide) rfl ?_
      refine gf_X4_41 C dX4_addSight_53 kdC_107 (fun z53 => ?_)
      refine g_iconst C ⟨by decide, by decide⟩ dX4_addSight_56 ?_
      obtain ⟨⟨b4, b4b⟩, hw⟩ := hw
      refine g_iastore C dX4_addSight_57 kdC_111 b4 b4b (fun z => z) ?_
      refine g_heap (fun h4 eh4 => ?_)
      replace hw := hw h4 eh4
      refine g_aload_n C dX4_addSight_58 rfl (by decide) rfl ?_
      refine g_dup C (by show ¬ (2 : Nat) = 1; decide) dX4_addSight_59 ?_
      refine gf_X4_41 C dX4_addSight_60 kdC_107 (fun z60 => ?_)
      refine g_iconst C ⟨by decide, by decide⟩ dX4_addSight_63 ?_
      refine g_iadd C dX4_addSight_64 ?_
      refine gp_X4_41 C dX4_addSight_65 kdC_107 (fun z => z) ?_
      refine g_heap (fun h5 eh5 => ?_)
      replace hw := hw h5 eh5
      refine g_aload_n C dX4_addSight_68 rfl (by decide) rfl ?_
      refine gf_X4_41 C dX4_addSight_69 kdC_107 (fun z69 => ?_)
      refine g_iconst C ⟨by decide, by decide⟩ dX4_addSight_72 ?_
      refine g_isub C dX4_addSight_73 ?_
      exact g_iret C hr dX4_addSight_74 ⟨_, rfl, hw⟩
    · refine g_iconst C ⟨by decide, by decide⟩ dX4_addSight_16 ?_
      exact g_iret C hr dX4_addSight_17 ⟨_, rfl, hw⟩
set_option maxRecDepth 20000 in
set_option maxHeartbeats 4000000 in
theorem sim_X13_note {z : Mz} {l : Launch} {p1 : Int} {p2 : Int} {p3 : Int} {h : Mh} {K : Int → Mh → Prop} (hw : wp_X13_note p1 p2 p3 h K) : mCal (XC z) l yX13_note cX13_note 5 (some Jvm.ClassFile.FieldType.int) 1 23 [(2, 0), (0, p1), (0, p2), (0, p3)] h (mKi K) := by
  refine m_entry RX13 rfl (by decide) rfl (fun p e s m args below meth c C hr => ?_)
  have hQ : ∀ x, Lfp (F_X13_note p1 p2 p3 K) x → (match x.1, x.2.1 with | 31, [] => mG (XC z) p l e { frames := 1, cells := 0, slots := 0, locals := 23 } s m args below meth c 5 (mMQ (XC z) (mKi K) below args s) 31 [(0, (2, 0)), (1, (0, p1)), (2, (0, p2)), (3, (0, p3))] [] x.2.2 | 32, [s0] => mG (XC z) p l e { frames := 1, cells := 0, slots := 0, locals := 23 } s m args below meth c 5 (mMQ (XC z) (mKi K) below args s) 32 [(0, (2, 0)), (1, (0, p1)), (2, (0, p2)), (3, (0, p3))] [(0, s0)] x.2.2 | _, _ => True) := by
    intro x hx
    refine Lfp.ind (fun x => (match x.1, x.2.1 with | 31, [] => mG (XC z) p l e { frames := 1, cells := 0, slots := 0, locals := 23 } s m args below meth c 5 (mMQ (XC z) (mKi K) below args s) 31 [(0, (2, 0)), (1, (0, p1)), (2, (0, p2)), (3, (0, p3))] [] x.2.2 | 32, [s0] => mG (XC z) p l e { frames := 1, cells := 0, slots := 0, locals := 23 } s m args below meth c 5 (mMQ (XC z) (mKi K) below args s) 32 [(0, (2, 0)), (1, (0, p1)), (2, (0, p2)), (3, (0, p3))] [(0, s0)] x.2.2 | _, _ => True)) ?_ hx
    clear hx x
    intro Z x hQ hw
    rcases hw with ⟨h, rfl, hw⟩ | ⟨s0, h, rfl, hw⟩
    · show mG (XC z) p l e { frames := 1, cells := 0, slots := 0, locals := 23 } s m args below meth c 5 (mMQ (XC z) (mKi K) below args s) 31 [(0, (2, 0)), (1, (0, p1)), (2, (0, p2)), (3, (0, p3))] [] h
      unfold B_X13_note_31 at hw
      refine g_iconst C ⟨by decide, by decide⟩ dX13_note_31 ?_
      exact g_sub [0, 1, 2, 3] rfl (hQ _ hw)
    · show mG (XC z) p l e { frames := 1, cells := 0, slots := 0, locals := 23 } s m args below meth c 5 (mMQ (XC z) (mKi K) below args s) 32 [(0, (2, 0)), (1, (0, p1)), (2, (0, p2)), (3, (0, p3))] [(0, s0)] h
      unfold B_X13_note_32 at hw
      refine g_istore C dX13_note_32 (by decide) ?_
      refine g_iload C dX13_note_34 rfl ?_
      refine g_if_eq C 53 dX13_note_36 rfl hw (fun hw => ?_) (fun hw => ?_)
      · refine g_iconst C ⟨by decide, by decide⟩ dX13_note_53 ?_
        exact g_iret C hr dX13_note_54 ⟨_, rfl, hw⟩
      · refine g_iload_n C dX13_note_39 rfl rfl ?_
        refine g_sipush C ⟨by decide, by decide⟩ (by decide) dX13_note_40 ?_
        refine g_icmp_lt C 53 dX13_note_43 rfl hw (fun hw => ?_) (fun hw => ?_)
        · refine g_iconst C ⟨by decide, by decide⟩ dX13_note_53 ?_
          exact g_iret C hr dX13_note_54 ⟨_, rfl, hw⟩
        · refine g_iload_n C dX13_note_46 rfl rfl ?_
          refine g_sipush C ⟨by decide, by decide⟩ (by decide) dX13_note_47 ?_
          refine g_icmp_le C 55 dX13_note_50 rfl hw (fun hw => ?_) (fun hw => ?_)
          · refine g_aload_n C dX13_note_55 rfl (by decide) rfl ?_
            refine gw_X13_43 C dX13_note_56 kdC_0 wwC_0_5 ?_
            refine g_iload_n C dX13_note_59 rfl rfl ?_
            refine g_iload_n C dX13_note_60 rfl rfl ?_
            refine g_iload_n C dX13_note_61 rfl rfl ?_
            refine g_callVi C [(0, p1), (0, p2), (0, p3)] (sim_X4_addSight hw) k_1256 k_1257 k_1258 k_143 k_1259 hdV_X4_addSight rfl rfl (by decide) rfl kdC_107 rfl rfl rfl dX13_note_62 ?_
            intro x1 h1 hw
            exact g_iret C hr dX13_note_65 ⟨_, rfl, hw⟩
          · refine g_iconst C ⟨by decide, by decide⟩ dX13_note_53 ?_
            exact g_iret C hr dX13_note_54 ⟨_, rfl, hw⟩
  show mG _ p l e _ s m args below meth c _ _ 0 [(0, (2, 0)), (1, (0, p1)), (2, (0, p2)), (3, (0, p3))] [] h
  unfold wp_X13_note at hw
  refine g_aload_n C dX13_note_0 rfl (by decide) rfl ?_
  refine gw_X13_36 C dX13_note_1 kdC_0 wwC_0_4 ?_
  refine gf_X13_86 C dX13_note_4 kdC_53 (fun z4 => ?_)
  obtain ⟨q1, hw⟩ := hw
  refine gw_X13_114 C dX13_note_7 q1 (wir_4_10 wirC q1) ?_
  refine g_iload_n C dX13_note_10 rfl rfl ?_
  refine g_callVz C [(0, p1)] (sim_X7_has wirC (kid_4_10 wirC q1) hw) k_1113 k_1114 k_1115 k_136 k_1116 hdV_X7_has rfl rfl (by decide) rfl (kid_4_10 wirC q1) rfl rfl rfl dX13_note_11 ?_
  intro x1 h1 zb11 hw
  refine g_if_eq C 31 dX13_note_14 rfl hw (fun hw => ?_) (fun hw => ?_)
  · exact g_sub [0, 1, 2, 3] rfl (hQ _ hw)
  · refine g_iload_n C dX13_note_17 rfl rfl ?_
    refine g_sipush C ⟨by decide, by decide⟩ (by decide) dX13_note_18 ?_
    refine g_callSz C [(0, p2), (0, 199)] (sim_X13_isStep hw) k_1064 k_1065 k_134 k_1066 hdS_X13_isStep rfl rfl rfl rfl rfl dX13_note_21 ?_
    intro x2 h2 zb21 hw
    refine g_if_eq C 31 dX13_note_24 rfl hw (fun hw => ?_) (fun hw => ?_)
    · exact g_sub [0, 1, 2, 3] rfl (hQ _ hw)
    · refine g_iconst C ⟨by decide, by decide⟩ dX13_note_27 ?_
      refine g_goto C 32 dX13_note_28 rfl ?_
      exact g_sub [0, 1, 2, 3] rfl (hQ _ hw)
set_option maxRecDepth 20000 in
set_option maxHeartbeats 4000000 in
theorem sim_X8_arrival {z : Mz} {l : Launch} {p1 : Int} {p2 : Int} {h : Mh} {K : Int → Mh → Prop} (hw : wp_X8_arrival p1 p2 h K) : mCal (XC z) l yX8_arrival cX8_arrival 3 (some Jvm.ClassFile.FieldType.int) 6 158 [(2, 125), (0, p1), (0, p2)] h (mKi K) := by
  refine m_entry RX8 rfl (by decide) rfl (fun p e s m args below meth c C hr => ?_)
  show mG _ p l e _ s m args below meth c _ _ 0 [(0, (2, 125)), (1, (0, p1)), (2, (0, p2))] [] h
  unfold wp_X8_arrival at hw
  refine g_aload_n C dX8_arrival_0 rfl (by decide) rfl ?_
  refine g_iload_n C dX8_arrival_1 rfl rfl ?_
  refine g_bipush C ⟨by decide, by decide⟩ (by decide) dX8_arrival_2 ?_
  refine g_callVv C [(0, p1), (0, 100)] (sim_X8_follow hw) k_1164 k_1166 k_46 k_145 k_1167 hdV_X8_follow rfl rfl (by decide) rfl kdC_125 rfl rfl rfl dX8_arrival_4 ?_
  intro h1 hw
  refine g_aload_n C dX8_arrival_7 rfl (by decide) rfl ?_
  refine g_iload_n C dX8_arrival_8 rfl rfl ?_
  refine g_bipush C ⟨by decide, by decide⟩ (by decide) dX8_arrival_9 ?_
  refine g_callVi C [(0, p2), (0, 100)] (sim_X8_arrivalOnPath hw) k_1182 k_1184 k_48 k_145 k_1185 hdV_X8_arrivalOnPath rfl rfl (by decide) rfl kdC_125 rfl rfl rfl dX8_arrival_11 ?_
  intro x1 h2 hw
  exact g_iret C hr dX8_arrival_14 ⟨_, rfl, hw⟩
set_option maxRecDepth 20000 in
set_option maxHeartbeats 4000000 in
theorem sim_X13_reaches {z : Mz} {l : Launch} {p1 : Int} {p2 : Int} {h : Mh} {K : Int → Mh → Prop} (hw : wp_X13_reaches p1 p2 h K) : mCal (XC z) l yX13_reaches cX13_reaches 3 (some Jvm.ClassFile.FieldType.int) 7 180 [(2, 0), (0, p1), (0, p2)] h (mKi K) := by
  refine m_entry RX13 rfl (by decide) rfl (fun p e s m args below meth c C hr => ?_)
  show mG _ p l e _ s m args below meth c _ _ 0 [(0, (2, 0)), (1, (0, p1)), (2, (0, p2))] [] h
  unfold wp_X13_reaches at hw
  refine g_aload_n C dX13_reaches_0 rfl (by decide) rfl ?_
  refine gw_X13_36 C dX13_reaches_1 kdC_0 wwC_0_4 ?_
  refine gf_X13_86 C dX13_reaches_4 kdC_53 (fun z4 => ?_)
  obtain ⟨q1, hw⟩ := hw
  refine gw_X13_117 C dX13_reaches_7 q1 (wir_4_12 wirC q1) ?_
  refine g_iload_n C dX13_reaches_10 rfl rfl ?_
  refine g_callVz C [(0, p1)] (sim_X7_has wirC (kid_4_12 wirC q1) hw) k_1113 k_1114 k_1115 k_136 k_1116 hdV_X7_has rfl rfl (by decide) rfl (kid_4_12 wirC q1) rfl rfl rfl dX13_reaches_11 ?_
  intro x1 h1 zb11 hw
  refine g_if_eq C 31 dX13_reaches_14 rfl hw (fun hw => ?_) (fun hw => ?_)
  · refine g_iconst C ⟨by decide, by decide⟩ dX13_reaches_31 ?_
    exact g_iret C hr dX13_reaches_32 ⟨_, rfl, hw⟩
  · refine g_aload_n C dX13_reaches_17 rfl (by decide) rfl ?_
    refine gw_X13_36 C dX13_reaches_18 kdC_0 wwC_0_4 ?_
    refine gf_X13_86 C dX13_reaches_21 kdC_53 (fun z21 => ?_)
    refine g_iload_n C dX13_reaches_24 rfl rfl ?_
    obtain ⟨q2, hw⟩ := hw
    refine g_callVz C [(0, p2)] (sim_X5_isCell wirC q2 hw) k_989 k_990 k_991 k_135 k_992 hdV_X5_isCell rfl rfl (by decide) rfl q2 rfl rfl rfl dX13_reaches_25 ?_
    intro x2 h2 zb25 hw
    refine g_if_ne C 33 dX13_reaches_28 rfl hw (fun hw => ?_) (fun hw => ?_)
    · refine g_aload_n C dX13_reaches_33 rfl (by decide) rfl ?_
      refine gw_X13_52 C dX13_reaches_34 kdC_0 wwC_0_6 ?_
      refine g_callVv C [] (sim_X6_freshenSums hw) k_1068 k_1069 k_1070 k_144 k_1071 hdV_X6_freshenSums rfl rfl (by decide) rfl kdC_115 rfl rfl rfl dX13_reaches_37 ?_
      intro h3 hw
      refine g_aload_n C dX13_reaches_40 rfl (by decide) rfl ?_
      refine gw_X13_61 C dX13_reaches_41 kdC_0 wwC_0_7 ?_
      refine g_iload_n C dX13_reaches_44 rfl rfl ?_
      refine g_iload_n C dX13_reaches_45 rfl rfl ?_
      refine g_callVi C [(0, p1), (0, p2)] (sim_X8_arrival hw) k_1178 k_1179 k_1180 k_145 k_1181 hdV_X8_arrival rfl rfl (by decide) rfl kdC_125 rfl rfl rfl dX13_reaches_46 ?_
      intro x3 h4 hw
      exact g_iret C hr dX13_reaches_49 ⟨_, rfl, hw⟩
    · refine g_iconst C ⟨by decide, by decide⟩ dX13_reaches_31 ?_
      exact g_iret C hr dX13_reaches_32 ⟨_, rfl, hw⟩
set_option maxRecDepth 20000 in
set_option maxHeartbeats 4000000 in
theorem sim_X13_rise {z : Mz} {l : Launch} {p1 : Int} {p2 : Int} {h : Mh} {K : Int → Mh → Prop} (hw : wp_X13_rise p1 p2 h K) : mCal (XC z) l yX13_rise cX13_rise 3 (some Jvm.ClassFile.FieldType.int) 5 124 [(2, 0), (0, p1), (0, p2)] h (mKi K) := by
  refine m_entry RX13 rfl (by decide) rfl (fun p e s m args below meth c C hr => ?_)
  show mG _ p l e _ s m args below meth c _ _ 0 [(0, (2, 0)), (1, (0, p1)), (2, (0, p2))] [] h
  unfold wp_X13_rise at hw
  refine g_aload_n C dX13_rise_0 rfl (by decide) rfl ?_
  refine gw_X13_36 C dX13_rise_1 kdC_0 wwC_0_4 ?_
  refine gf_X13_86 C dX13_rise_4 kdC_53 (fun z4 => ?_)
  refine g_iload_n C dX13_rise_7 rfl rfl ?_
  obtain ⟨q1, hw⟩ := hw
  refine g_callVz C [(0, p1)] (sim_X5_isWet wirC q1 hw) k_993 k_994 k_995 k_135 k_996 hdV_X5_isWet rfl rfl (by decide) rfl q1 rfl rfl rfl dX13_rise_8 ?_
  intro x1 h1 zb8 hw
  refine g_if_eq C 24 dX13_rise_11 rfl hw (fun hw => ?_) (fun hw => ?_)
  · refine g_ldc C ⟨by decide, by decide⟩ k_1067 dX13_rise_24 ?_
    exact g_iret C hr dX13_rise_26 ⟨_, rfl, hw⟩
  · refine g_iload_n C dX13_rise_14 rfl rfl ?_
    refine g_sipush C ⟨by decide, by decide⟩ (by decide) dX13_rise_15 ?_
    refine g_callSz C [(0, p2), (0, 199)] (sim_X13_isStep hw) k_1064 k_1065 k_134 k_1066 hdS_X13_isStep rfl rfl rfl rfl rfl dX13_rise_18 ?_
    intro x2 h2 zb18 hw
    refine g_if_ne C 27 dX13_rise_21 rfl hw (fun hw => ?_) (fun hw => ?_)
    · refine g_aload_n C dX13_rise_27 rfl (by decide) rfl ?_
      refine gw_X13_52 C dX13_rise_28 kdC_0 wwC_0_6 ?_
      refine g_callVv C [] (sim_X6_freshenSums hw) k_1068 k_1069 k_1070 k_144 k_1071 hdV_X6_freshenSums rfl rfl (by decide) rfl kdC_115 rfl rfl rfl dX13_rise_31 ?_
      intro h3 hw
      refine g_aload_n C dX13_rise_34 rfl (by decide) rfl ?_
      refine gw_X13_52 C dX13_rise_35 kdC_0 wwC_0_6 ?_
      refine g_iload_n C dX13_rise_38 rfl rfl ?_
      refine g_iload_n C dX13_rise_39 rfl rfl ?_
      refine g_callVi C [(0, p1), (0, p2)] (sim_X6_sumAt hw) k_1105 k_1106 k_1107 k_144 k_1108 hdV_X6_sumAt rfl rfl (by decide) rfl kdC_115 rfl rfl rfl dX13_rise_40 ?_
      intro x3 h4 hw
      exact g_iret C hr dX13_rise_43 ⟨_, rfl, hw⟩
    · refine g_ldc C ⟨by decide, by decide⟩ k_1067 dX13_rise_24 ?_
      exact g_iret C hr dX13_rise_26 ⟨_, rfl, hw⟩
set_option maxRecDepth 20000 in
set_option maxHeartbeats 4000000 in
theorem sim_X13_shows {z : Mz} {l : Launch} {p1 : Int} {p2 : Int} {h : Mh} {K : Int → Mh → Prop} (hw : wp_X13_shows p1 p2 h K) : mCal (XC z) l yX13_shows cX13_shows 3 (some Jvm.ClassFile.FieldType.int) 6 146 [(2, 0), (0, p1), (0, p2)] h (mKi K) := by
  refine m_entry RX13 rfl (by decide) rfl (fun p e s m args below meth c C hr => ?_)
  show mG _ p l e _ s m args below meth c _ _ 0 [(0, (2, 0)), (1, (0, p1)), (2, (0, p2))] [] h
  unfold wp_X13_shows at hw
  refine g_aload_n C dX13_shows_0 rfl (by decide) rfl ?_
  refine gw_X13_36 C dX13_shows_1 kdC_0 wwC_0_4 ?_
  refine gf_X13_86 C dX13_shows_4 kdC_53 (fun z4 => ?_)
  obtain ⟨q1, hw⟩ := hw
  refine gw_X13_114 C dX13_shows_7 q1 (wir_4_10 wirC q1) ?_
  refine g_iload_n C dX13_shows_10 rfl rfl ?_
  refine g_callVz C [(0, p1)] (sim_X7_has wirC (kid_4_10 wirC q1) hw) k_1113 k_1114 k_1115 k_136 k_1116 hdV_X7_has rfl rfl (by decide) rfl (kid_4_10 wirC q1) rfl rfl rfl dX13_shows_11 ?_
  intro x1 h1 zb11 hw
  refine g_if_ne C 20 dX13_shows_14 rfl hw (fun hw => ?_) (fun hw => ?_)
  · refine g_aload_n C dX13_shows_20 rfl (by decide) rfl ?_
    refine g_aload_n C dX13_shows_21 rfl (by decide) rfl ?_
    refine gw_X13_36 C dX13_shows_22 kdC_0 wwC_0_4 ?_
    refine gf_X13_86 C dX13_shows_25 kdC_53 (fun z25 => ?_)
    obtain ⟨q2, hw⟩ := hw
    refine gw_X13_164 C dX13_shows_28 q2 (wir_4_11 wirC q2) ?_
    refine g_iload_n C dX13_shows_31 rfl rfl ?_
    refine g_callVi C [(0, p1)] (sim_X7_orZero wirC (kid_4_11 wirC q2) hw) k_1117 k_1080 k_1081 k_136 k_1082 hdV_X7_orZero rfl rfl (by decide) rfl (kid_4_11 wirC q2) rfl rfl rfl dX13_shows_32 ?_
    intro x2 h2 hw
    refine g_iload_n C dX13_shows_35 rfl rfl ?_
    refine g_callVi C [(0, x2), (0, p2)] (sim_X13_rise hw) k_1118 k_1061 k_1062 k_134 k_1063 hdV_X13_rise rfl rfl (by decide) rfl kdC_0 rfl rfl rfl dX13_shows_36 ?_
    intro x3 h3 hw
    exact g_iret C hr dX13_shows_39 ⟨_, rfl, hw⟩
  · refine g_ldc C ⟨by decide, by decide⟩ k_1067 dX13_shows_17 ?_
    exact g_iret C hr dX13_shows_19 ⟨_, rfl, hw⟩
set_option maxRecDepth 20000 in
set_option maxHeartbeats 4000000 in
theorem sim_X2_stillCells {z : Mz} {l : Launch} {p1 : Int} {p2 : Int} {p3 : Int} {p4 : Int} {p5 : Int} {h : Mh} {K : Int → Mh → Prop} (hw : wp_X2_stillCells p1 p2 p3 p4 p5 h K) : mCal (XC z) l yX2_stillCells cX2_stillCells 13 (some Jvm.ClassFile.FieldType.long) 3 78 [(2, 127), (0, p1), (0, p2), (0, p3), (0, p4), (0, p5)] h (mKl K) := by
  refine m_entry RX2 rfl (by decide) rfl (fun p e s m args below meth c C hr => ?_)
  have hQ : ∀ x, Lfp (F_X2_stillCells p1 p2 p3 p4 p5 K) x → (match x.1, x.2.1 with | 18, [v6, v8, v9] => mG (XC z) p l e { frames := 3, cells := 0, slots := 0, locals := 78 } s m args below meth c 13 (mMQ (XC z) (mKl K) below args s) 18 [(6, (1, v6)), (8, (2, v8)), (9, (0, v9)), (0, (2, 127)), (1, (0, p1)), (2, (0, p2)), (3, (0, p3)), (4, (0, p4)), (5, (0, p5))] [] x.2.2 | 50, [v6, v8, v9, v10, v11] => mG (XC z) p l e { frames := 3, cells := 0, slots := 0, locals := 78 } s m args below meth c 13 (mMQ (XC z) (mKl K) below args s) 50 [(6, (1, v6)), (8, (2, v8)), (9, (0, v9)), (10, (0, v10)), (11, (0, v11)), (0, (2, 127)), (1, (0, p1)), (2, (0, p2)), (3, (0, p3)), (4, (0, p4)), (5, (0, p5))] [] x.2.2 | _, _ => True) := by
    intro x hx
    refine Lfp.ind (fun x => (match x.1, x.2.1 with | 18, [v6, v8, v9] => mG (XC z) p l e { frames := 3, cells := 0, slots := 0, locals := 78 } s m args below meth c 13 (mMQ (XC z) (mKl K) below args s) 18 [(6, (1, v6)), (8, (2, v8)), (9, (0, v9)), (0, (2, 127)), (1, (0, p1)), (2, (0, p2)), (3, (0, p3)), (4, (0, p4)), (5, (0, p5))] [] x.2.2 | 50, [v6, v8, v9, v10, v11] => mG (XC z) p l e { frames := 3, cells := 0, slots := 0, locals := 78 } s m args below meth c 13 (mMQ (XC z) (mKl K) below args s) 50 [(6, (1, v6)), (8, (2, v8)), (9, (0, v9)), (10, (0, v10)), (11, (0, v11)), (0, (2, 127)), (1, (0, p1)), (2, (0, p2)), (3, (0, p3)), (4, (0, p4)), (5, (0, p5))] [] x.2.2 | _, _ => True)) ?_ hx
    clear hx x
    intro Z x hQ hw
    rcases hw with ⟨v6, v8, v9, h, rfl, hw⟩ | ⟨v6, v8, v9, v10, v11, h, rfl, hw⟩
    · show mG (XC z) p l e { frames := 3, cells := 0, slots := 0, locals := 78 } s m args below meth c 13 (mMQ (XC z) (mKl K) below args s) 18 [(6, (1, v6)), (8, (2, v8)), (9, (0, v9)), (0, (2, 127)), (1, (0, p1)), (2, (0, p2)), (3, (0, p3)), (4, (0, p4)), (5, (0, p5))] [] h
      unfold B_X2_stillCells_18 at hw
      refine g_iload C dX2_stillCells_18 rfl ?_
      refine g_aload_n C dX2_stillCells_20 rfl (by decide) rfl ?_
      refine gw_X2_33 C dX2_stillCells_21 kdC_127 wwC_127_0 ?_
      refine gf_X2_54 C dX2_stillCells_24 kdC_53 (fun z24 => ?_)
      obtain ⟨q2, hw⟩ := hw
      refine g_callVi C [] (sim_X5_cells wirC q2 hw) k_1300 k_1031 k_1032 k_135 k_1033 hdV_X5_cells rfl rfl (by decide) rfl q2 rfl rfl rfl dX2_stillCells_27 ?_
      intro x1 h1 hw
      refine g_icmp_ge C 134 dX2_stillCells_30 rfl hw (fun hw => ?_) (fun hw => ?_)
      · refine g_lload C dX2_stillCells_134 rfl ?_
        exact g_lret C hr dX2_stillCells_136 ⟨_, rfl, hw⟩
      · refine g_aload_n C dX2_stillCells_33 rfl (by decide) rfl ?_
        refine gw_X2_33 C dX2_stillCells_34 kdC_127 wwC_127_0 ?_
        refine gf_X2_54 C dX2_stillCells_37 kdC_53 (fun z37 => ?_)
        refine g_iload C dX2_stillCells_40 rfl ?_
        obtain ⟨q3, hw⟩ := hw
        refine g_callVz C [(0, v9)] (sim_X5_isWet wirC q3 hw) k_1301 k_994 k_995 k_135 k_996 hdV_X5_isWet rfl rfl (by decide) rfl q3 rfl rfl rfl dX2_stillCells_42 ?_
        intro x2 h2 zb42 hw
        refine g_istore C dX2_stillCells_45 (by decide) ?_
        refine g_iconst C ⟨by decide, by decide⟩ dX2_stillCells_47 ?_
        refine g_istore C dX2_stillCells_48 (by decide) ?_
        exact g_sub [6, 8, 9, 10, 11, 0, 1, 2, 3, 4, 5] rfl (hQ _ hw)
    · show mG (XC z) p l e { frames := 3, cells := 0, slots := 0, locals := 78 } s m args below meth c 13 (mMQ (XC z) (mKl K) below args s) 50 [(6, (1, v6)), (8, (2, v8)), (9, (0, v9)), (10, (0, v10)), (11, (0, v11)), (0, (2, 127)), (1, (0, p1)), (2, (0, p2)), (3, (0, p3)), (4, (0, p4)), (5, (0, p5))] [] h
      unfold B_X2_stillCells_50 at hw
      refine g_iload C dX2_stillCells_50 rfl ?_
      refine g_iload C dX2_stillCells_52 rfl ?_
      refine g_icmp_gt C 114 dX2_stillCells_54 rfl hw (fun hw => ?_) (fun hw => ?_)
      · refine g_iload C dX2_stillCells_114 rfl ?_
        refine g_if_eq C 128 dX2_stillCells_116 rfl hw (fun hw => ?_) (fun hw => ?_)
        · refine g_iincN C dX2_stillCells_128 rfl (by decide) (fun x1 ex1 => ?_)
          replace hw := hw x1 ex1
          refine g_goto C 18 dX2_stillCells_131 rfl ?_
          exact g_sub [6, 8, 9, 0, 1, 2, 3, 4, 5] rfl (hQ _ hw)
        · refine g_lload C dX2_stillCells_119 rfl ?_
          refine g_lconst C 1 (Or.inr rfl) rfl dX2_stillCells_121 ?_
          refine g_iload C dX2_stillCells_122 rfl ?_
          refine g_lshl C dX2_stillCells_124 ?_
          refine g_lor C dX2_stillCells_125 ?_
          refine g_topi (fun x2 ex2 => ?_)
          replace hw := hw x2 ex2
          refine g_lstore C dX2_stillCells_126 (by decide) ?_
          refine g_iincN C dX2_stillCells_128 rfl (by decide) (fun x3 ex3 => ?_)
          replace hw := hw x3 ex3
          refine g_goto C 18 dX2_stillCells_131 rfl ?_
          exact g_sub [6, 8, 9, 0, 1, 2, 3, 4, 5] rfl (hQ _ hw)
      · refine g_iload C dX2_stillCells_57 rfl ?_
        refine g_if_eq C 114 dX2_stillCells_59 rfl hw (fun hw => ?_) (fun hw => ?_)
        · refine g_iload C dX2_stillCells_114 rfl ?_
          refine g_if_eq C 128 dX2_stillCells_116 rfl hw (fun hw => ?_) (fun hw => ?_)
          · refine g_iincN C dX2_stillCells_128 rfl (by decide) (fun x4 ex4 => ?_)
            replace hw := hw x4 ex4
            refine g_goto C 18 dX2_stillCells_131 rfl ?_
            exact g_sub [6, 8, 9, 0, 1, 2, 3, 4, 5] rfl (hQ _ hw)
          · refine g_lload C dX2_stillCells_119 rfl ?_
            refine g_lconst C 1 (Or.inr rfl) rfl dX2_stillCells_121 ?_
            refine g_iload C dX2_stillCells_122 rfl ?_
            refine g_lshl C dX2_stillCells_124 ?_
            refine g_lor C dX2_stillCells_125 ?_
            refine g_topi (fun x5 ex5 => ?_)
            replace hw := hw x5 ex5
            refine g_lstore C dX2_stillCells_126 (by decide) ?_
            refine g_iincN C dX2_stillCells_128 rfl (by decide) (fun x6 ex6 => ?_)
            replace hw := hw x6 ex6
            refine g_goto C 18 dX2_stillCells_131 rfl ?_
            exact g_sub [6, 8, 9, 0, 1, 2, 3, 4, 5] rfl (hQ _ hw)
        · refine g_aload_n C dX2_stillCells_62 rfl (by decide) rfl ?_
          refine gw_X2_37 C dX2_stillCells_63 kdC_127 wwC_127_1 ?_
          refine g_iload_n C dX2_stillCells_66 rfl rfl ?_
          refine g_iload_n C dX2_stillCells_67 rfl rfl ?_
          refine g_iload C dX2_stillCells_68 rfl ?_
          refine g_iload C dX2_stillCells_70 rfl ?_
          refine g_aload C dX2_stillCells_72 (by decide) rfl ?_
          refine g_callVi C [(0, p1), (0, p2), (0, v9), (0, v11), (2, v8)] (sim_X6_alone hw) k_1308 k_1309 k_1310 k_144 k_1311 hdV_X6_alone rfl rfl (by decide) rfl kdC_115 rfl rfl rfl dX2_stillCells_74 ?_
          intro x7 h1 hw
          refine g_istore C dX2_stillCells_77 (by decide) ?_
          refine g_iload C dX2_stillCells_79 rfl ?_
          refine g_aload_n C dX2_stillCells_81 rfl (by decide) rfl ?_
          refine gw_X2_37 C dX2_stillCells_82 kdC_127 wwC_127_1 ?_
          refine g_iload_n C dX2_stillCells_85 rfl rfl ?_
          refine g_iload C dX2_stillCells_86 rfl ?_
          refine g_iload C dX2_stillCells_88 rfl ?_
          refine g_iload C dX2_stillCells_90 rfl ?_
          refine g_aload C dX2_stillCells_92 (by decide) rfl ?_
          refine g_callVi C [(0, p3), (0, p4), (0, v9), (0, v11), (2, v8)] (sim_X6_alone hw) k_1308 k_1309 k_1310 k_144 k_1311 hdV_X6_alone rfl rfl (by decide) rfl kdC_115 rfl rfl rfl dX2_stillCells_94 ?_
          intro x8 h2 hw
          refine g_iadd C dX2_stillCells_97 ?_
          refine g_if_ne C 105 dX2_stillCells_98 rfl hw (fun hw => ?_) (fun hw => ?_)
          · refine g_iconst C ⟨by decide, by decide⟩ dX2_stillCells_105 ?_
            refine g_istore C dX2_stillCells_106 (by decide) ?_
            refine g_iincN C dX2_stillCells_108 rfl (by decide) (fun x9 ex9 => ?_)
            replace hw := hw x9 ex9
            refine g_goto C 50 dX2_stillCells_111 rfl ?_
            exact g_sub [6, 8, 9, 10, 11, 0, 1, 2, 3, 4, 5] rfl (hQ _ hw)
          · refine g_iconst C ⟨by decide, by decide⟩ dX2_stillCells_101 ?_
            refine g_goto C 106 dX2_stillCells_102 rfl ?_
            refine g_istore C dX2_stillCells_106 (by decide) ?_
            refine g_iincN C dX2_stillCells_108 rfl (by decide) (fun x10 ex10 => ?_)
            replace hw := hw x10 ex10
            refine g_goto C 50 dX2_stillCells_111 rfl ?_
            exact g_sub [6, 8, 9, 10, 11, 0, 1, 2, 3, 4, 5] rfl (hQ _ hw)
  show mG _ p l e _ s m args below meth c _ _ 0 [(0, (2, 127)), (1, (0, p1)), (2, (0, p2)), (3, (0, p3)), (4, (0, p4)), (5, (0, p5))] [] h
  unfold wp_X2_stillCells at hw
  refine g_lconst C 0 (Or.inl rfl) rfl dX2_stillCells_0 ?_
  refine g_lstore C dX2_stillCells_1 (by decide) ?_
  refine g_aload_n C dX2_stillCells_3 rfl (by decide) rfl ?_
  refine gw_X2_33 C dX2_stillCells_4 kdC_127 wwC_127_0 ?_
  refine gf_X2_54 C dX2_stillCells_7 kdC_53 (fun z7 => ?_)
  obtain ⟨q1, hw⟩ := hw
  refine gw_X2_118 C dX2_stillCells_10 q1 (wir_4_4 wirC q1) ?_
  refine g_astore C dX2_stillCells_13 (by decide) (by decide) ?_
  refine g_iconst C ⟨by decide, by decide⟩ dX2_stillCells_15 ?_
  refine g_istore C dX2_stillCells_16 (by decide) ?_
  exact g_sub [6, 8, 9, 0, 1, 2, 3, 4, 5] rfl (hQ _ hw)
set_option maxRecDepth 20000 in
set_option maxHeartbeats 4000000 in
theorem sim_X13_still {z : Mz} {l : Launch} {p1 : Int} {p2 : Int} {p3 : Int} {p4 : Int} {p5 : Int} {h : Mh} {K : Int → Mh → Prop} (hw : wp_X13_still p1 p2 p3 p4 p5 h K) : mCal (XC z) l yX13_still cX13_still 8 (some Jvm.ClassFile.FieldType.long) 4 110 [(2, 0), (0, p1), (0, p2), (0, p3), (0, p4), (0, p5)] h (mKl K) := by
  refine m_entry RX13 rfl (by decide) rfl (fun p e s m args below meth c C hr => ?_)
  have hQ : ∀ x, Lfp (F_X13_still p1 p2 p3 p4 p5 K) x → (match x.1, x.2.1 with | 56, [] => mG (XC z) p l e { frames := 4, cells := 0, slots := 0, locals := 110 } s m args below meth c 8 (mMQ (XC z) (mKl K) below args s) 56 [(0, (2, 0)), (1, (0, p1)), (2, (0, p2)), (3, (0, p3)), (4, (0, p4)), (5, (0, p5))] [] x.2.2 | 57, [s0] => mG (XC z) p l e { frames := 4, cells := 0, slots := 0, locals := 110 } s m args below meth c 8 (mMQ (XC z) (mKl K) below args s) 57 [(0, (2, 0)), (1, (0, p1)), (2, (0, p2)), (3, (0, p3)), (4, (0, p4)), (5, (0, p5))] [(0, s0)] x.2.2 | _, _ => True) := by
    intro x hx
    refine Lfp.ind (fun x => (match x.1, x.2.1 with | 56, [] => mG (XC z) p l e { frames := 4, cells := 0, slots := 0, locals := 110 } s m args below meth c 8 (mMQ (XC z) (mKl K) below args s) 56 [(0, (2, 0)), (1, (0, p1)), (2, (0, p2)), (3, (0, p3)), (4, (0, p4)), (5, (0, p5))] [] x.2.2 | 57, [s0] => mG (XC z) p l e { frames := 4, cells := 0, slots := 0, locals := 110 } s m args below meth c 8 (mMQ (XC z) (mKl K) below args s) 57 [(0, (2, 0)), (1, (0, p1)), (2, (0, p2)), (3, (0, p3)), (4, (0, p4)), (5, (0, p5))] [(0, s0)] x.2.2 | _, _ => True)) ?_ hx
    clear hx x
    intro Z x hQ hw
    rcases hw with ⟨h, rfl, hw⟩ | ⟨s0, h, rfl, hw⟩
    · show mG (XC z) p l e { frames := 4, cells := 0, slots := 0, locals := 110 } s m args below meth c 8 (mMQ (XC z) (mKl K) below args s) 56 [(0, (2, 0)), (1, (0, p1)), (2, (0, p2)), (3, (0, p3)), (4, (0, p4)), (5, (0, p5))] [] h
      unfold B_X13_still_56 at hw
      refine g_iconst C ⟨by decide, by decide⟩ dX13_still_56 ?_
      exact g_sub [0, 1, 2, 3, 4, 5] rfl (hQ _ hw)
    · show mG (XC z) p l e { frames := 4, cells := 0, slots := 0, locals := 110 } s m args below meth c 8 (mMQ (XC z) (mKl K) below args s) 57 [(0, (2, 0)), (1, (0, p1)), (2, (0, p2)), (3, (0, p3)), (4, (0, p4)), (5, (0, p5))] [(0, s0)] h
      unfold B_X13_still_57 at hw
      refine g_istore C dX13_still_57 (by decide) ?_
      refine g_iload C dX13_still_59 rfl ?_
      refine g_if_eq C 74 dX13_still_61 rfl hw (fun hw => ?_) (fun hw => ?_)
      · refine g_ldc2 C ⟨by decide, by decide⟩ k_1401 dX13_still_74 ?_
        exact g_lret C hr dX13_still_77 ⟨_, rfl, hw⟩
      · refine g_iload C dX13_still_64 rfl ?_
        refine g_bipush C ⟨by decide, by decide⟩ (by decide) dX13_still_66 ?_
        refine g_callSz C [(0, p5), (0, 60)] (sim_X13_isStep hw) k_1064 k_1065 k_134 k_1066 hdS_X13_isStep rfl rfl rfl rfl rfl dX13_still_68 ?_
        intro x1 h1 zb68 hw
        refine g_if_ne C 78 dX13_still_71 rfl hw (fun hw => ?_) (fun hw => ?_)
        · refine g_aload_n C dX13_still_78 rfl (by decide) rfl ?_
          refine gw_X13_52 C dX13_still_79 kdC_0 wwC_0_6 ?_
          refine g_callVv C [] (sim_X6_freshenWays hw) k_1017 k_1018 k_1019 k_144 k_1020 hdV_X6_freshenWays rfl rfl (by decide) rfl kdC_115 rfl rfl rfl dX13_still_82 ?_
          intro h2 hw
          refine g_aload_n C dX13_still_85 rfl (by decide) rfl ?_
          refine gw_X13_70 C dX13_still_86 kdC_0 wwC_0_8 ?_
          refine g_iload_n C dX13_still_89 rfl rfl ?_
          refine g_iload_n C dX13_still_90 rfl rfl ?_
          refine g_iload_n C dX13_still_91 rfl rfl ?_
          refine g_iload C dX13_still_92 rfl ?_
          refine g_iload C dX13_still_94 rfl ?_
          refine g_callVl C [(0, p1), (0, p2), (0, p3), (0, p4), (0, p5)] (sim_X2_stillCells hw) k_1402 k_1403 k_1404 k_146 k_1405 hdV_X2_stillCells rfl rfl (by decide) rfl kdC_127 rfl rfl rfl dX13_still_96 ?_
          intro x2 h3 hw
          exact g_lret C hr dX13_still_99 ⟨_, rfl, hw⟩
        · refine g_ldc2 C ⟨by decide, by decide⟩ k_1401 dX13_still_74 ?_
          exact g_lret C hr dX13_still_77 ⟨_, rfl, hw⟩
  show mG _ p l e _ s m args below meth c _ _ 0 [(0, (2, 0)), (1, (0, p1)), (2, (0, p2)), (3, (0, p3)), (4, (0, p4)), (5, (0, p5))] [] h
  unfold wp_X13_still at hw
  refine g_aload_n C dX13_still_0 rfl (by decide) rfl ?_
  refine gw_X13_36 C dX13_still_1 kdC_0 wwC_0_4 ?_
  refine gf_X13_86 C dX13_still_4 kdC_53 (fun z4 => ?_)
  refine g_astore C dX13_still_7 (by decide) (by decide) ?_
  refine g_aload C dX13_still_9 (by decide) rfl ?_
  obtain ⟨q1, hw⟩ := hw
  refine gw_X13_104 C dX13_still_11 q1 (wir_4_7 wirC q1) ?_
  refine g_iload_n C dX13_still_14 rfl rfl ?_
  refine g_callVz C [(0, p1)] (sim_X7_has wirC (kid_4_7 wirC q1) hw) k_1113 k_1114 k_1115 k_136 k_1116 hdV_X7_has rfl rfl (by decide) rfl (kid_4_7 wirC q1) rfl rfl rfl dX13_still_15 ?_
  intro x1 h1 zb15 hw
  refine g_if_eq C 56 dX13_still_18 rfl hw (fun hw => ?_) (fun hw => ?_)
  · exact g_sub [0, 1, 2, 3, 4, 5] rfl (hQ _ hw)
  · refine g_aload C dX13_still_21 (by decide) rfl ?_
    refine g_iload_n C dX13_still_23 rfl rfl ?_
    refine g_callVz C [(0, p2)] (sim_X5_isWet wirC q1 hw) k_993 k_994 k_995 k_135 k_996 hdV_X5_isWet rfl rfl (by decide) rfl q1 rfl rfl rfl dX13_still_24 ?_
    intro x2 h2 zb24 hw
    refine g_if_eq C 56 dX13_still_27 rfl hw (fun hw => ?_) (fun hw => ?_)
    · exact g_sub [0, 1, 2, 3, 4, 5] rfl (hQ _ hw)
    · refine g_aload C dX13_still_30 (by decide) rfl ?_
      refine gw_X13_104 C dX13_still_32 q1 (wir_4_7 wirC q1) ?_
      refine g_iload_n C dX13_still_35 rfl rfl ?_
      refine g_callVz C [(0, p3)] (sim_X7_has wirC (kid_4_7 wirC q1) hw) k_1113 k_1114 k_1115 k_136 k_1116 hdV_X7_has rfl rfl (by decide) rfl (kid_4_7 wirC q1) rfl rfl rfl dX13_still_36 ?_
      intro x3 h3 zb36 hw
      refine g_if_eq C 56 dX13_still_39 rfl hw (fun hw => ?_) (fun hw => ?_)
      · exact g_sub [0, 1, 2, 3, 4, 5] rfl (hQ _ hw)
      · refine g_aload C dX13_still_42 (by decide) rfl ?_
        refine g_iload C dX13_still_44 rfl ?_
        refine g_callVz C [(0, p4)] (sim_X5_isWet wirC q1 hw) k_993 k_994 k_995 k_135 k_996 hdV_X5_isWet rfl rfl (by decide) rfl q1 rfl rfl rfl dX13_still_46 ?_
        intro x4 h4 zb46 hw
        refine g_if_eq C 56 dX13_still_49 rfl hw (fun hw => ?_) (fun hw => ?_)
        · exact g_sub [0, 1, 2, 3, 4, 5] rfl (hQ _ hw)
        · refine g_iconst C ⟨by decide, by decide⟩ dX13_still_52 ?_
          refine g_goto C 57 dX13_still_53 rfl ?_
          exact g_sub [0, 1, 2, 3, 4, 5] rfl (hQ _ hw)
set_option maxRecDepth 20000 in
set_option maxHeartbeats 4000000 in
theorem sim_X4_addStrike {z : Mz} {l : Launch} {p1 : Int} {h : Mh} {K : Int → Mh → Prop} (hw : wp_X4_addStrike p1 h K) : mCal (XC z) l yX4_addStrike cX4_addStrike 2 (some Jvm.ClassFile.FieldType.int) 0 0 [(2, 107), (0, p1)] h (mKi K) := by
  refine m_entry RX4 rfl (by decide) rfl (fun p e s m args below meth c C hr => ?_)
  show mG _ p l e _ s m args below meth c _ _ 0 [(0, (2, 107)), (1, (0, p1))] [] h
  unfold wp_X4_addStrike at hw
  refine g_iload_n C dX4_addStrike_0 rfl rfl ?_
  refine g_if_lt C 21 dX4_addStrike_1 rfl hw (fun hw => ?_) (fun hw => ?_)
  · refine g_iconst C ⟨by decide, by decide⟩ dX4_addStrike_21 ?_
    exact g_iret C hr dX4_addStrike_22 ⟨_, rfl, hw⟩
  · refine g_iload_n C dX4_addStrike_4 rfl rfl ?_
    refine g_aload_n C dX4_addStrike_5 rfl (by decide) rfl ?_
    refine gf_X4_41 C dX4_addStrike_6 kdC_107 (fun z6 => ?_)
    refine g_icmp_ge C 21 dX4_addStrike_9 rfl hw (fun hw => ?_) (fun hw => ?_)
    · refine g_iconst C ⟨by decide, by decide⟩ dX4_addStrike_21 ?_
      exact g_iret C hr dX4_addStrike_22 ⟨_, rfl, hw⟩
    · refine g_aload_n C dX4_addStrike_12 rfl (by decide) rfl ?_
      refine gf_X4_41 C dX4_addStrike_13 kdC_107 (fun z13 => ?_)
      refine g_bipush C ⟨by decide, by decide⟩ (by decide) dX4_addStrike_16 ?_
      refine g_icmp_lt C 23 dX4_addStrike_18 rfl hw (fun hw => ?_) (fun hw => ?_)
      · refine g_aload_n C dX4_addStrike_23 rfl (by decide) rfl ?_
        refine gw_X4_21 C dX4_addStrike_24 kdC_107 wwC_107_3 ?_
        refine g_aload_n C dX4_addStrike_27 rfl (by decide) rfl ?_
        refine gf_X4_41 C dX4_addStrike_28 kdC_107 (fun z28 => ?_)
        refine g_iload_n C dX4_addStrike_31 rfl rfl ?_
        obtain ⟨⟨b1, b1b⟩, hw⟩ := hw
        refine g_iastore C dX4_addStrike_32 kdC_111 b1 b1b (fun z => z) ?_
        refine g_heap (fun h1 eh1 => ?_)
        replace hw := hw h1 eh1
        refine g_aload_n C dX4_addStrike_33 rfl (by decide) rfl ?_
        refine g_dup C (by show ¬ (2 : Nat) = 1; decide) dX4_addStrike_34 ?_
        refine gf_X4_41 C dX4_addStrike_35 kdC_107 (fun z35 => ?_)
        refine g_iconst C ⟨by decide, by decide⟩ dX4_addStrike_38 ?_
        refine g_iadd C dX4_addStrike_39 ?_
        refine gp_X4_41 C dX4_addStrike_40 kdC_107 (fun z => z) ?_
        refine g_heap (fun h2 eh2 => ?_)
        replace hw := hw h2 eh2
        refine g_aload_n C dX4_addStrike_43 rfl (by decide) rfl ?_
        refine gf_X4_41 C dX4_addStrike_44 kdC_107 (fun z44 => ?_)
        refine g_iconst C ⟨by decide, by decide⟩ dX4_addStrike_47 ?_
        refine g_isub C dX4_addStrike_48 ?_
        exact g_iret C hr dX4_addStrike_49 ⟨_, rfl, hw⟩
      · refine g_iconst C ⟨by decide, by decide⟩ dX4_addStrike_21 ?_
        exact g_iret C hr dX4_addStrike_22 ⟨_, rfl, hw⟩
