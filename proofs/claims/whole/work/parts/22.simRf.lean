set_option maxRecDepth 20000 in
set_option maxHeartbeats 4000000 in
theorem sim_X14_lie {z : Mz} {l : Launch} {p1 : Int} {p2 : Int} {p3 : Int} {p4 : Int} {p5 : Int} {h : Mh} {K : Int → Mh → Prop} (hw : wp_X14_lie p1 p2 p3 p4 p5 h K) : mCal (XR z) l yX14_lie cX14_lie 9 (some Jvm.ClassFile.FieldType.int) 6 155 [(2, 0), (0, p1), (0, p2), (0, p3), (0, p4), (0, p5)] h (mKi K) := by
  refine m_entry RX14 rfl (by decide) rfl (fun p e s m args below meth c C hr => ?_)
  have hQ : ∀ x, Lfp (F_X14_lie p1 p2 p3 p4 p5 K) x → (match x.1, x.2.1 with | 72, [v6, v7] => mG (XR z) p l e { frames := 6, cells := 0, slots := 0, locals := 155 } s m args below meth c 9 (mMQ (XR z) (mKi K) below args s) 72 [(6, (0, v6)), (7, (0, v7)), (0, (2, 0)), (1, (0, p1)), (2, (0, p2)), (3, (0, p3)), (4, (0, p4)), (5, (0, p5))] [] x.2.2 | 87, [v6, v7, v8] => mG (XR z) p l e { frames := 6, cells := 0, slots := 0, locals := 155 } s m args below meth c 9 (mMQ (XR z) (mKi K) below args s) 87 [(6, (0, v6)), (7, (0, v7)), (8, (0, v8)), (0, (2, 0)), (1, (0, p1)), (2, (0, p2)), (3, (0, p3)), (4, (0, p4)), (5, (0, p5))] [] x.2.2 | _, _ => True) := by
    intro x hx
    refine Lfp.ind (fun x => (match x.1, x.2.1 with | 72, [v6, v7] => mG (XR z) p l e { frames := 6, cells := 0, slots := 0, locals := 155 } s m args below meth c 9 (mMQ (XR z) (mKi K) below args s) 72 [(6, (0, v6)), (7, (0, v7)), (0, (2, 0)), (1, (0, p1)), (2, (0, p2)), (3, (0, p3)), (4, (0, p4)), (5, (0, p5))] [] x.2.2 | 87, [v6, v7, v8] => mG (XR z) p l e { frames := 6, cells := 0, slots := 0, locals := 155 } s m args below meth c 9 (mMQ (XR z) (mKi K) below args s) 87 [(6, (0, v6)), (7, (0, v7)), (8, (0, v8)), (0, (2, 0)), (1, (0, p1)), (2, (0, p2)), (3, (0, p3)), (4, (0, p4)), (5, (0, p5))] [] x.2.2 | _, _ => True)) ?_ hx
    clear hx x
    intro Z x hQ hw
    rcases hw with ⟨v6, v7, h, rfl, hw⟩ | ⟨v6, v7, v8, h, rfl, hw⟩
    · show mG (XR z) p l e { frames := 6, cells := 0, slots := 0, locals := 155 } s m args below meth c 9 (mMQ (XR z) (mKi K) below args s) 72 [(6, (0, v6)), (7, (0, v7)), (0, (2, 0)), (1, (0, p1)), (2, (0, p2)), (3, (0, p3)), (4, (0, p4)), (5, (0, p5))] [] h
      unfold B_X14_lie_72 at hw
      refine g_iload C dX14_lie_72 rfl ?_
      refine g_bipush C ⟨by decide, by decide⟩ (by decide) dX14_lie_74 ?_
      refine g_icmp_ge C 169 dX14_lie_76 rfl hw (fun hw => ?_) (fun hw => ?_)
      · refine g_aload_n C dX14_lie_169 rfl (by decide) rfl ?_
        refine g_iconst C ⟨by decide, by decide⟩ dX14_lie_170 ?_
        refine gp_X14_112 C dX14_lie_171 kdR_0 (fun z => z) ?_
        refine g_heap (fun h1 eh1 => ?_)
        replace hw := hw h1 eh1
        refine g_iload C dX14_lie_174 rfl ?_
        refine g_if_ge C 184 dX14_lie_176 rfl hw (fun hw => ?_) (fun hw => ?_)
        · refine g_iload C dX14_lie_184 rfl ?_
          refine g_if_ne C 197 dX14_lie_186 rfl hw (fun hw => ?_) (fun hw => ?_)
          · refine g_iload C dX14_lie_197 rfl ?_
            refine g_bipush C ⟨by decide, by decide⟩ (by decide) dX14_lie_199 ?_
            refine g_irem C (by decide) dX14_lie_201 ?_
            exact g_iret C hr dX14_lie_202 ⟨_, rfl, hw⟩
          · refine g_iload C dX14_lie_189 rfl ?_
            refine g_bipush C ⟨by decide, by decide⟩ (by decide) dX14_lie_191 ?_
            refine g_idiv C (by decide) dX14_lie_193 ?_
            refine g_goto C 202 dX14_lie_194 rfl ?_
            exact g_iret C hr dX14_lie_202 ⟨_, rfl, hw⟩
        · refine g_bipush C ⟨by decide, by decide⟩ (by decide) dX14_lie_179 ?_
          refine g_goto C 202 dX14_lie_181 rfl ?_
          exact g_iret C hr dX14_lie_202 ⟨_, rfl, hw⟩
      · refine g_iload C dX14_lie_79 rfl ?_
        refine g_if_ge C 169 dX14_lie_81 rfl hw (fun hw => ?_) (fun hw => ?_)
        · refine g_aload_n C dX14_lie_169 rfl (by decide) rfl ?_
          refine g_iconst C ⟨by decide, by decide⟩ dX14_lie_170 ?_
          refine gp_X14_112 C dX14_lie_171 kdR_0 (fun z => z) ?_
          refine g_heap (fun h2 eh2 => ?_)
          replace hw := hw h2 eh2
          refine g_iload C dX14_lie_174 rfl ?_
          refine g_if_ge C 184 dX14_lie_176 rfl hw (fun hw => ?_) (fun hw => ?_)
          · refine g_iload C dX14_lie_184 rfl ?_
            refine g_if_ne C 197 dX14_lie_186 rfl hw (fun hw => ?_) (fun hw => ?_)
            · refine g_iload C dX14_lie_197 rfl ?_
              refine g_bipush C ⟨by decide, by decide⟩ (by decide) dX14_lie_199 ?_
              refine g_irem C (by decide) dX14_lie_201 ?_
              exact g_iret C hr dX14_lie_202 ⟨_, rfl, hw⟩
            · refine g_iload C dX14_lie_189 rfl ?_
              refine g_bipush C ⟨by decide, by decide⟩ (by decide) dX14_lie_191 ?_
              refine g_idiv C (by decide) dX14_lie_193 ?_
              refine g_goto C 202 dX14_lie_194 rfl ?_
              exact g_iret C hr dX14_lie_202 ⟨_, rfl, hw⟩
          · refine g_bipush C ⟨by decide, by decide⟩ (by decide) dX14_lie_179 ?_
            refine g_goto C 202 dX14_lie_181 rfl ?_
            exact g_iret C hr dX14_lie_202 ⟨_, rfl, hw⟩
        · refine g_iconst C ⟨by decide, by decide⟩ dX14_lie_84 ?_
          refine g_istore C dX14_lie_85 (by decide) ?_
          exact g_sub [6, 7, 8, 0, 1, 2, 3, 4, 5] rfl (hQ _ hw)
    · show mG (XR z) p l e { frames := 6, cells := 0, slots := 0, locals := 155 } s m args below meth c 9 (mMQ (XR z) (mKi K) below args s) 87 [(6, (0, v6)), (7, (0, v7)), (8, (0, v8)), (0, (2, 0)), (1, (0, p1)), (2, (0, p2)), (3, (0, p3)), (4, (0, p4)), (5, (0, p5))] [] h
      unfold B_X14_lie_87 at hw
      refine g_iload C dX14_lie_87 rfl ?_
      refine g_aload_n C dX14_lie_89 rfl (by decide) rfl ?_
      refine g_callVi C [] (sim_X14_cells hw) k_1569 k_1571 k_73 k_147 k_1572 hdV_X14_cells rfl rfl (by decide) rfl kdR_0 rfl rfl rfl dX14_lie_90 ?_
      intro x1 h1 hw
      refine g_icmp_ge C 163 dX14_lie_93 rfl hw (fun hw => ?_) (fun hw => ?_)
      · refine g_iincN C dX14_lie_163 rfl (by decide) (fun x2 ex2 => ?_)
        replace hw := hw x2 ex2
        refine g_goto C 72 dX14_lie_166 rfl ?_
        exact g_sub [6, 7, 0, 1, 2, 3, 4, 5] rfl (hQ _ hw)
      · refine g_iload C dX14_lie_96 rfl ?_
        refine g_if_ge C 163 dX14_lie_98 rfl hw (fun hw => ?_) (fun hw => ?_)
        · refine g_iincN C dX14_lie_163 rfl (by decide) (fun x3 ex3 => ?_)
          replace hw := hw x3 ex3
          refine g_goto C 72 dX14_lie_166 rfl ?_
          exact g_sub [6, 7, 0, 1, 2, 3, 4, 5] rfl (hQ _ hw)
        · refine g_aload_n C dX14_lie_101 rfl (by decide) rfl ?_
          refine gw_X14_27 C dX14_lie_102 kdR_0 wwR_0_41 ?_
          refine g_iload C dX14_lie_105 rfl ?_
          obtain ⟨⟨b1, b1b⟩, hw⟩ := hw
          refine g_iaload C dX14_lie_107 kdR_5 b1 b1b (fun z107 => ?_)
          refine g_iconst C ⟨by decide, by decide⟩ dX14_lie_108 ?_
          refine g_icmp_ne C 115 dX14_lie_109 rfl hw (fun hw => ?_) (fun hw => ?_)
          · refine g_aload_n C dX14_lie_115 rfl (by decide) rfl ?_
            refine g_iload_n C dX14_lie_116 rfl rfl ?_
            refine gp_X14_112 C dX14_lie_117 kdR_0 (fun z => z) ?_
            refine g_heap (fun h2 eh2 => ?_)
            replace hw := hw h2 eh2
            refine g_aload_n C dX14_lie_120 rfl (by decide) rfl ?_
            refine g_iload C dX14_lie_121 rfl ?_
            refine gp_X14_458 C dX14_lie_123 kdR_0 (fun z => z) ?_
            refine g_heap (fun h3 eh3 => ?_)
            replace hw := hw h3 eh3
            refine g_aload_n C dX14_lie_126 rfl (by decide) rfl ?_
            refine g_iload C dX14_lie_127 rfl ?_
            refine gp_X14_461 C dX14_lie_129 kdR_0 (fun z => z) ?_
            refine g_heap (fun h4 eh4 => ?_)
            replace hw := hw h4 eh4
            refine g_aload_n C dX14_lie_132 rfl (by decide) rfl ?_
            refine g_iload_n C dX14_lie_133 rfl rfl ?_
            refine g_iload_n C dX14_lie_134 rfl rfl ?_
            refine g_iload C dX14_lie_135 rfl ?_
            refine g_callVi C [(0, p1), (0, p2), (0, p4)] (sim_X14_comesTo hw) k_2137 k_2139 k_119 k_147 k_2140 hdV_X14_comesTo rfl rfl (by decide) rfl kdR_0 rfl rfl rfl dX14_lie_137 ?_
            intro x4 h5 hw
            refine g_if_ge C 154 dX14_lie_140 rfl hw (fun hw => ?_) (fun hw => ?_)
            · refine g_iconst C ⟨by decide, by decide⟩ dX14_lie_154 ?_
              refine g_istore C dX14_lie_155 (by decide) ?_
              refine g_iincN C dX14_lie_157 rfl (by decide) (fun x5 ex5 => ?_)
              replace hw := hw x5 ex5
              refine g_goto C 87 dX14_lie_160 rfl ?_
              exact g_sub [6, 7, 8, 0, 1, 2, 3, 4, 5] rfl (hQ _ hw)
            · refine g_bipush C ⟨by decide, by decide⟩ (by decide) dX14_lie_143 ?_
              refine g_iload C dX14_lie_145 rfl ?_
              refine g_imul C dX14_lie_147 ?_
              refine g_iload C dX14_lie_148 rfl ?_
              refine g_iadd C dX14_lie_150 ?_
              refine g_goto C 155 dX14_lie_151 rfl ?_
              refine g_topi (fun x6 ex6 => ?_)
              replace hw := hw x6 ex6
              refine g_istore C dX14_lie_155 (by decide) ?_
              refine g_iincN C dX14_lie_157 rfl (by decide) (fun x7 ex7 => ?_)
              replace hw := hw x7 ex7
              refine g_goto C 87 dX14_lie_160 rfl ?_
              exact g_sub [6, 7, 8, 0, 1, 2, 3, 4, 5] rfl (hQ _ hw)
          · refine g_goto C 157 dX14_lie_112 rfl ?_
            refine g_iincN C dX14_lie_157 rfl (by decide) (fun x8 ex8 => ?_)
            replace hw := hw x8 ex8
            refine g_goto C 87 dX14_lie_160 rfl ?_
            exact g_sub [6, 7, 8, 0, 1, 2, 3, 4, 5] rfl (hQ _ hw)
  show mG _ p l e _ s m args below meth c _ _ 0 [(0, (2, 0)), (1, (0, p1)), (2, (0, p2)), (3, (0, p3)), (4, (0, p4)), (5, (0, p5))] [] h
  unfold wp_X14_lie at hw
  refine g_aload_n C dX14_lie_0 rfl (by decide) rfl ?_
  refine g_iconst C ⟨by decide, by decide⟩ dX14_lie_1 ?_
  refine gp_X14_148 C dX14_lie_2 kdR_0 (fun z => z) ?_
  refine g_heap (fun h1 eh1 => ?_)
  replace hw := hw h1 eh1
  refine g_aload_n C dX14_lie_5 rfl (by decide) rfl ?_
  refine g_iload_n C dX14_lie_6 rfl rfl ?_
  refine g_callVz C [(0, p1)] (sim_X14_isSkater hw) k_2099 k_2101 k_113 k_147 k_2102 hdV_X14_isSkater rfl rfl (by decide) rfl kdR_0 rfl rfl rfl dX14_lie_7 ?_
  intro x1 h2 zb7 hw
  refine g_if_eq C 50 dX14_lie_10 rfl hw (fun hw => ?_) (fun hw => ?_)
  · refine g_iconst C ⟨by decide, by decide⟩ dX14_lie_50 ?_
    exact g_iret C hr dX14_lie_51 ⟨_, rfl, hw⟩
  · refine g_aload_n C dX14_lie_13 rfl (by decide) rfl ?_
    refine g_iload_n C dX14_lie_14 rfl rfl ?_
    refine g_callVz C [(0, p2)] (sim_X14_isCell hw) k_1565 k_1567 k_72 k_147 k_1568 hdV_X14_isCell rfl rfl (by decide) rfl kdR_0 rfl rfl rfl dX14_lie_15 ?_
    intro x2 h3 zb15 hw
    refine g_if_eq C 50 dX14_lie_18 rfl hw (fun hw => ?_) (fun hw => ?_)
    · refine g_iconst C ⟨by decide, by decide⟩ dX14_lie_50 ?_
      exact g_iret C hr dX14_lie_51 ⟨_, rfl, hw⟩
    · refine g_aload_n C dX14_lie_21 rfl (by decide) rfl ?_
      refine g_iload_n C dX14_lie_22 rfl rfl ?_
      refine g_callVz C [(0, p3)] (sim_X14_isKind hw) k_2043 k_2045 k_106 k_147 k_2046 hdV_X14_isKind rfl rfl (by decide) rfl kdR_0 rfl rfl rfl dX14_lie_23 ?_
      intro x3 h4 zb23 hw
      refine g_if_eq C 50 dX14_lie_26 rfl hw (fun hw => ?_) (fun hw => ?_)
      · refine g_iconst C ⟨by decide, by decide⟩ dX14_lie_50 ?_
        exact g_iret C hr dX14_lie_51 ⟨_, rfl, hw⟩
      · refine g_iload C dX14_lie_29 rfl ?_
        refine g_iconst C ⟨by decide, by decide⟩ dX14_lie_31 ?_
        refine g_bipush C ⟨by decide, by decide⟩ (by decide) dX14_lie_32 ?_
        refine g_callSz C [(0, p4), (0, 0), (0, 60)] (sim_X14_isIn hw) k_1934 k_1935 k_147 k_1936 hdS_X14_isIn rfl rfl rfl rfl rfl dX14_lie_34 ?_
        intro x4 h5 zb34 hw
        refine g_if_eq C 50 dX14_lie_37 rfl hw (fun hw => ?_) (fun hw => ?_)
        · refine g_iconst C ⟨by decide, by decide⟩ dX14_lie_50 ?_
          exact g_iret C hr dX14_lie_51 ⟨_, rfl, hw⟩
        · refine g_iload C dX14_lie_40 rfl ?_
          refine g_iconst C ⟨by decide, by decide⟩ dX14_lie_42 ?_
          refine g_iconst C ⟨by decide, by decide⟩ dX14_lie_43 ?_
          refine g_callSz C [(0, p5), (0, 0), (0, 1)] (sim_X14_isIn hw) k_1934 k_1935 k_147 k_1936 hdS_X14_isIn rfl rfl rfl rfl rfl dX14_lie_44 ?_
          intro x5 h6 zb44 hw
          refine g_if_ne C 52 dX14_lie_47 rfl hw (fun hw => ?_) (fun hw => ?_)
          · refine g_aload_n C dX14_lie_52 rfl (by decide) rfl ?_
            refine g_iload_n C dX14_lie_53 rfl rfl ?_
            refine g_iload_n C dX14_lie_54 rfl rfl ?_
            refine g_iload C dX14_lie_55 rfl ?_
            refine g_callVi C [(0, p1), (0, p2), (0, p4)] (sim_X14_comesTo hw) k_2137 k_2139 k_119 k_147 k_2140 hdV_X14_comesTo rfl rfl (by decide) rfl kdR_0 rfl rfl rfl dX14_lie_57 ?_
            intro x6 h7 hw
            refine g_if_ge C 66 dX14_lie_60 rfl hw (fun hw => ?_) (fun hw => ?_)
            · refine g_iconst C ⟨by decide, by decide⟩ dX14_lie_66 ?_
              refine g_istore C dX14_lie_67 (by decide) ?_
              refine g_iconst C ⟨by decide, by decide⟩ dX14_lie_69 ?_
              refine g_istore C dX14_lie_70 (by decide) ?_
              exact g_sub [6, 7, 0, 1, 2, 3, 4, 5] rfl (hQ _ hw)
            · refine g_bipush C ⟨by decide, by decide⟩ (by decide) dX14_lie_63 ?_
              exact g_iret C hr dX14_lie_65 ⟨_, rfl, hw⟩
          · refine g_iconst C ⟨by decide, by decide⟩ dX14_lie_50 ?_
            exact g_iret C hr dX14_lie_51 ⟨_, rfl, hw⟩
set_option maxRecDepth 20000 in
set_option maxHeartbeats 4000000 in
theorem sim_X14_told {z : Mz} {l : Launch} {p0 : Int} {p1 : Int} {h : Mh} {K : Int → Mh → Prop} (hw : wp_X14_told p0 p1 h K) : mCal (XR z) l yX14_told cX14_told 2 (some Jvm.ClassFile.FieldType.int) 0 0 [(0, p0), (0, p1)] h (mKi K) := by
  refine m_entry RX14 rfl (by decide) rfl (fun p e s m args below meth c C hr => ?_)
  show mG _ p l e _ s m args below meth c _ _ 0 [(0, (0, p0)), (1, (0, p1))] [] h
  unfold wp_X14_told at hw
  refine g_iload_n C dX14_told_0 rfl rfl ?_
  refine g_if_ge C 9 dX14_told_1 rfl hw (fun hw => ?_) (fun hw => ?_)
  · refine g_iload_n C dX14_told_9 rfl rfl ?_
    refine g_if_ne C 21 dX14_told_10 rfl hw (fun hw => ?_) (fun hw => ?_)
    · refine g_iload_n C dX14_told_21 rfl rfl ?_
      refine g_iconst C ⟨by decide, by decide⟩ dX14_told_22 ?_
      refine g_icmp_ne C 36 dX14_told_23 rfl hw (fun hw => ?_) (fun hw => ?_)
      · refine g_iload_n C dX14_told_36 rfl rfl ?_
        refine g_bipush C ⟨by decide, by decide⟩ (by decide) dX14_told_37 ?_
        refine g_irem C (by decide) dX14_told_39 ?_
        exact g_iret C hr dX14_told_40 ⟨_, rfl, hw⟩
      · refine g_iload_n C dX14_told_26 rfl rfl ?_
        refine g_bipush C ⟨by decide, by decide⟩ (by decide) dX14_told_27 ?_
        refine g_idiv C (by decide) dX14_told_29 ?_
        refine g_bipush C ⟨by decide, by decide⟩ (by decide) dX14_told_30 ?_
        refine g_irem C (by decide) dX14_told_32 ?_
        refine g_goto C 40 dX14_told_33 rfl ?_
        exact g_iret C hr dX14_told_40 ⟨_, rfl, hw⟩
    · refine g_iload_n C dX14_told_13 rfl rfl ?_
      refine g_sipush C ⟨by decide, by decide⟩ (by decide) dX14_told_14 ?_
      refine g_idiv C (by decide) dX14_told_17 ?_
      refine g_goto C 40 dX14_told_18 rfl ?_
      exact g_iret C hr dX14_told_40 ⟨_, rfl, hw⟩
  · refine g_bipush C ⟨by decide, by decide⟩ (by decide) dX14_told_4 ?_
    refine g_goto C 40 dX14_told_6 rfl ?_
    exact g_iret C hr dX14_told_40 ⟨_, rfl, hw⟩
set_option maxRecDepth 20000 in
set_option maxHeartbeats 4000000 in
theorem sim_X14_likeliest {z : Mz} {l : Launch} {p1 : Int} {h : Mh} {K : Int → Mh → Prop} (hw : wp_X14_likeliest p1 h K) : mCal (XR z) l yX14_likeliest cX14_likeliest 2 (some Jvm.ClassFile.FieldType.int) 4 101 [(2, 0), (0, p1)] h (mKi K) := by
  refine m_entry RX14 rfl (by decide) rfl (fun p e s m args below meth c C hr => ?_)
  show mG _ p l e _ s m args below meth c _ _ 0 [(0, (2, 0)), (1, (0, p1))] [] h
  unfold wp_X14_likeliest at hw
  refine g_aload_n C dX14_likeliest_0 rfl (by decide) rfl ?_
  refine g_iconst C ⟨by decide, by decide⟩ dX14_likeliest_1 ?_
  refine gp_X14_148 C dX14_likeliest_2 kdR_0 (fun z => z) ?_
  refine g_heap (fun h1 eh1 => ?_)
  replace hw := hw h1 eh1
  refine g_iload_n C dX14_likeliest_5 rfl rfl ?_
  refine g_iconst C ⟨by decide, by decide⟩ dX14_likeliest_6 ?_
  refine g_iconst C ⟨by decide, by decide⟩ dX14_likeliest_7 ?_
  refine g_callSz C [(0, p1), (0, 0), (0, 2)] (sim_X14_isIn hw) k_1934 k_1935 k_147 k_1936 hdS_X14_isIn rfl rfl rfl rfl rfl dX14_likeliest_8 ?_
  intro x1 h2 zb8 hw
  refine g_if_ne C 16 dX14_likeliest_11 rfl hw (fun hw => ?_) (fun hw => ?_)
  · refine g_aload_n C dX14_likeliest_16 rfl (by decide) rfl ?_
    refine g_iconst C ⟨by decide, by decide⟩ dX14_likeliest_17 ?_
    refine g_callVv C [(0, (-1))] (sim_X14_layTales hw) k_2185 k_2187 k_122 k_147 k_2188 hdV_X14_layTales rfl rfl (by decide) rfl kdR_0 rfl rfl rfl dX14_likeliest_18 ?_
    intro h3 hw
    refine g_aload_n C dX14_likeliest_21 rfl (by decide) rfl ?_
    refine gf_X14_515 C dX14_likeliest_22 kdR_0 (fun z22 => ?_)
    refine g_iload_n C dX14_likeliest_25 rfl rfl ?_
    refine g_callSi C [(0, (h3 0 90)), (0, p1)] (sim_X14_told hw) k_2205 k_2206 k_147 k_2207 hdS_X14_told rfl rfl rfl rfl rfl dX14_likeliest_26 ?_
    intro x2 h4 hw
    exact g_iret C hr dX14_likeliest_29 ⟨_, rfl, hw⟩
  · refine g_iconst C ⟨by decide, by decide⟩ dX14_likeliest_14 ?_
    exact g_iret C hr dX14_likeliest_15 ⟨_, rfl, hw⟩
set_option maxRecDepth 20000 in
set_option maxHeartbeats 4000000 in
theorem sim_X14_mayLine {z : Mz} {l : Launch} {h : Mh} {K : Int → Mh → Prop} (hw : wp_X14_mayLine h K) : mCal (XR z) l yX14_mayLine cX14_mayLine 3 (some Jvm.ClassFile.FieldType.boolean) 5 110 [(2, 0)] h (mKz K) := by
  refine m_entry RX14 rfl (by decide) rfl (fun p e s m args below meth c C hr => ?_)
  have hQ : ∀ x, Lfp (F_X14_mayLine K) x → (match x.1, x.2.1 with | 55, [v1] => mG (XR z) p l e { frames := 5, cells := 0, slots := 0, locals := 110 } s m args below meth c 3 (mMQ (XR z) (mKz K) below args s) 55 [(1, (0, v1)), (0, (2, 0))] [] x.2.2 | 94, [v1, v2] => mG (XR z) p l e { frames := 5, cells := 0, slots := 0, locals := 110 } s m args below meth c 3 (mMQ (XR z) (mKz K) below args s) 94 [(1, (0, v1)), (2, (0, v2)), (0, (2, 0))] [] x.2.2 | _, _ => True) := by
    intro x hx
    refine Lfp.ind (fun x => (match x.1, x.2.1 with | 55, [v1] => mG (XR z) p l e { frames := 5, cells := 0, slots := 0, locals := 110 } s m args below meth c 3 (mMQ (XR z) (mKz K) below args s) 55 [(1, (0, v1)), (0, (2, 0))] [] x.2.2 | 94, [v1, v2] => mG (XR z) p l e { frames := 5, cells := 0, slots := 0, locals := 110 } s m args below meth c 3 (mMQ (XR z) (mKz K) below args s) 94 [(1, (0, v1)), (2, (0, v2)), (0, (2, 0))] [] x.2.2 | _, _ => True)) ?_ hx
    clear hx x
    intro Z x hQ hw
    rcases hw with ⟨v1, h, rfl, hw⟩ | ⟨v1, v2, h, rfl, hw⟩
    · show mG (XR z) p l e { frames := 5, cells := 0, slots := 0, locals := 110 } s m args below meth c 3 (mMQ (XR z) (mKz K) below args s) 55 [(1, (0, v1)), (0, (2, 0))] [] h
      unfold B_X14_mayLine_55 at hw
      refine g_aload_n C dX14_mayLine_55 rfl (by decide) rfl ?_
      refine g_iconst C ⟨by decide, by decide⟩ dX14_mayLine_56 ?_
      refine g_callVz C [(0, 3)] (sim_X14_isKey hw) k_1968 k_1970 k_93 k_147 k_1971 hdV_X14_isKey rfl rfl (by decide) rfl kdR_0 rfl rfl rfl dX14_mayLine_57 ?_
      intro x1 h1 zb57 hw
      refine g_if_eq C 164 dX14_mayLine_60 rfl hw (fun hw => ?_) (fun hw => ?_)
      · refine g_aload_n C dX14_mayLine_164 rfl (by decide) rfl ?_
        refine g_dup C (by show ¬ (2 : Nat) = 1; decide) dX14_mayLine_165 ?_
        refine gf_X14_230 C dX14_mayLine_166 kdR_0 (fun z166 => ?_)
        refine g_iconst C ⟨by decide, by decide⟩ dX14_mayLine_169 ?_
        refine g_iadd C dX14_mayLine_170 ?_
        refine gp_X14_230 C dX14_mayLine_171 kdR_0 (fun z => z) ?_
        refine g_heap (fun h2 eh2 => ?_)
        replace hw := hw h2 eh2
        refine g_iconst C ⟨by decide, by decide⟩ dX14_mayLine_174 ?_
        exact g_zret C hr (Or.inr rfl) dX14_mayLine_175 ⟨_, rfl, (Or.inr rfl), hw⟩
      · refine g_aload_n C dX14_mayLine_63 rfl (by decide) rfl ?_
        refine gw_X14_75 C dX14_mayLine_64 kdR_0 wwR_0_57 ?_
        refine g_iload_n C dX14_mayLine_67 rfl rfl ?_
        obtain ⟨⟨b2, b2b⟩, hw⟩ := hw
        refine g_iaload C dX14_mayLine_68 kdR_21 b2 b2b (fun z68 => ?_)
        refine g_iconst C ⟨by decide, by decide⟩ dX14_mayLine_69 ?_
        refine g_icmp_ne C 79 dX14_mayLine_70 rfl hw (fun hw => ?_) (fun hw => ?_)
        · refine g_aload_n C dX14_mayLine_79 rfl (by decide) rfl ?_
          refine g_callVv C [] (sim_X14_token hw) k_1898 k_1900 k_77 k_147 k_1901 hdV_X14_token rfl rfl (by decide) rfl kdR_0 rfl rfl rfl dX14_mayLine_80 ?_
          intro h3 hw
          refine g_aload_n C dX14_mayLine_83 rfl (by decide) rfl ?_
          refine g_callVz C [] (sim_X14_waterRead hw) k_1972 k_1974 k_94 k_147 k_1975 hdV_X14_waterRead rfl rfl (by decide) rfl kdR_0 rfl rfl rfl dX14_mayLine_84 ?_
          intro x2 h4 zb84 hw
          refine g_if_ne C 92 dX14_mayLine_87 rfl hw (fun hw => ?_) (fun hw => ?_)
          · refine g_iconst C ⟨by decide, by decide⟩ dX14_mayLine_92 ?_
            refine g_istore_n C dX14_mayLine_93 rfl (by decide) ?_
            exact g_sub [1, 2, 0] rfl (hQ _ hw)
          · refine g_iconst C ⟨by decide, by decide⟩ dX14_mayLine_90 ?_
            exact g_zret C hr (Or.inl rfl) dX14_mayLine_91 ⟨_, rfl, (Or.inl rfl), hw⟩
        · refine g_aload_n C dX14_mayLine_73 rfl (by decide) rfl ?_
          refine g_iconst C ⟨by decide, by decide⟩ dX14_mayLine_74 ?_
          refine g_callVz C [(0, 2)] (sim_X14_wrong hw) k_1926 k_1928 k_84 k_147 k_1929 hdV_X14_wrong rfl rfl (by decide) rfl kdR_0 rfl rfl rfl dX14_mayLine_75 ?_
          intro x3 h5 zb75 hw
          exact g_zret C hr zb75 dX14_mayLine_78 ⟨_, rfl, zb75, hw⟩
    · show mG (XR z) p l e { frames := 5, cells := 0, slots := 0, locals := 110 } s m args below meth c 3 (mMQ (XR z) (mKz K) below args s) 94 [(1, (0, v1)), (2, (0, v2)), (0, (2, 0))] [] h
      unfold B_X14_mayLine_94 at hw
      refine g_iload_n C dX14_mayLine_94 rfl rfl ?_
      refine g_aload_n C dX14_mayLine_95 rfl (by decide) rfl ?_
      refine gw_X14_75 C dX14_mayLine_96 kdR_0 wwR_0_57 ?_
      refine g_iload_n C dX14_mayLine_99 rfl rfl ?_
      obtain ⟨⟨b3, b3b⟩, hw⟩ := hw
      refine g_iaload C dX14_mayLine_100 kdR_21 b3 b3b (fun z100 => ?_)
      refine g_icmp_ge C 132 dX14_mayLine_101 rfl hw (fun hw => ?_) (fun hw => ?_)
      · refine g_aload_n C dX14_mayLine_132 rfl (by decide) rfl ?_
        refine gw_X14_78 C dX14_mayLine_133 kdR_0 wwR_0_58 ?_
        refine g_iconst C ⟨by decide, by decide⟩ dX14_mayLine_136 ?_
        refine g_iload_n C dX14_mayLine_137 rfl rfl ?_
        refine g_imul C dX14_mayLine_138 ?_
        refine g_aload_n C dX14_mayLine_139 rfl (by decide) rfl ?_
        refine gw_X14_75 C dX14_mayLine_140 kdR_0 wwR_0_57 ?_
        refine g_iload_n C dX14_mayLine_143 rfl rfl ?_
        obtain ⟨⟨b4, b4b⟩, hw⟩ := hw
        refine g_iaload C dX14_mayLine_144 kdR_21 b4 b4b (fun z144 => ?_)
        refine g_iadd C dX14_mayLine_145 ?_
        refine g_aload_n C dX14_mayLine_146 rfl (by decide) rfl ?_
        refine gf_X14_196 C dX14_mayLine_147 kdR_0 (fun z147 => ?_)
        obtain ⟨⟨b5, b5b⟩, hw⟩ := hw
        refine g_iastore C dX14_mayLine_150 kdR_22 b5 b5b (fun z => z) ?_
        refine g_heap (fun h1 eh1 => ?_)
        replace hw := hw h1 eh1
        refine g_aload_n C dX14_mayLine_151 rfl (by decide) rfl ?_
        refine gw_X14_75 C dX14_mayLine_152 kdR_0 wwR_0_57 ?_
        refine g_iload_n C dX14_mayLine_155 rfl rfl ?_
        refine g_dup2 C (by show ¬ (0 : Nat) = 1; decide) (by show ¬ (2 : Nat) = 1; decide) dX14_mayLine_156 ?_
        obtain ⟨⟨b6, b6b⟩, hw⟩ := hw
        refine g_iaload C dX14_mayLine_157 kdR_21 b6 b6b (fun z157 => ?_)
        refine g_iconst C ⟨by decide, by decide⟩ dX14_mayLine_158 ?_
        refine g_iadd C dX14_mayLine_159 ?_
        obtain ⟨⟨b7, b7b⟩, hw⟩ := hw
        refine g_iastore C dX14_mayLine_160 kdR_21 b7 b7b (fun z => z) ?_
        refine g_heap (fun h2 eh2 => ?_)
        replace hw := hw h2 eh2
        refine g_goto C 55 dX14_mayLine_161 rfl ?_
        exact g_sub [1, 0] rfl (hQ _ hw)
      · refine g_aload_n C dX14_mayLine_104 rfl (by decide) rfl ?_
        refine gw_X14_78 C dX14_mayLine_105 kdR_0 wwR_0_58 ?_
        refine g_iconst C ⟨by decide, by decide⟩ dX14_mayLine_108 ?_
        refine g_iload_n C dX14_mayLine_109 rfl rfl ?_
        refine g_imul C dX14_mayLine_110 ?_
        refine g_iload_n C dX14_mayLine_111 rfl rfl ?_
        refine g_iadd C dX14_mayLine_112 ?_
        obtain ⟨⟨b8, b8b⟩, hw⟩ := hw
        refine g_iaload C dX14_mayLine_113 kdR_22 b8 b8b (fun z113 => ?_)
        refine g_aload_n C dX14_mayLine_114 rfl (by decide) rfl ?_
        refine gf_X14_196 C dX14_mayLine_115 kdR_0 (fun z115 => ?_)
        refine g_icmp_ne C 126 dX14_mayLine_118 rfl hw (fun hw => ?_) (fun hw => ?_)
        · refine g_iincN C dX14_mayLine_126 rfl (by decide) (fun x1 ex1 => ?_)
          replace hw := hw x1 ex1
          refine g_goto C 94 dX14_mayLine_129 rfl ?_
          exact g_sub [1, 2, 0] rfl (hQ _ hw)
        · refine g_aload_n C dX14_mayLine_121 rfl (by decide) rfl ?_
          refine g_callVz C [] (sim_X14_wrongCell hw) k_1945 k_1947 k_88 k_147 k_1948 hdV_X14_wrongCell rfl rfl (by decide) rfl kdR_0 rfl rfl rfl dX14_mayLine_122 ?_
          intro x2 h3 zb122 hw
          exact g_zret C hr zb122 dX14_mayLine_125 ⟨_, rfl, zb122, hw⟩
  show mG _ p l e _ s m args below meth c _ _ 0 [(0, (2, 0))] [] h
  unfold wp_X14_mayLine at hw
  refine g_aload_n C dX14_mayLine_0 rfl (by decide) rfl ?_
  refine gf_X14_230 C dX14_mayLine_1 kdR_0 (fun z1 => ?_)
  refine g_iconst C ⟨by decide, by decide⟩ dX14_mayLine_4 ?_
  refine g_icmp_ne C 14 dX14_mayLine_5 rfl hw (fun hw => ?_) (fun hw => ?_)
  · refine g_aload_n C dX14_mayLine_14 rfl (by decide) rfl ?_
    refine g_iconst C ⟨by decide, by decide⟩ dX14_mayLine_15 ?_
    refine gp_X14_249 C dX14_mayLine_16 kdR_0 (fun _ => (Or.inr rfl)) ?_
    refine g_heap (fun h1 eh1 => ?_)
    replace hw := hw h1 eh1
    refine g_aload_n C dX14_mayLine_19 rfl (by decide) rfl ?_
    refine g_callVv C [] (sim_X14_token hw) k_1898 k_1900 k_77 k_147 k_1901 hdV_X14_token rfl rfl (by decide) rfl kdR_0 rfl rfl rfl dX14_mayLine_20 ?_
    intro h2 hw
    refine g_aload_n C dX14_mayLine_23 rfl (by decide) rfl ?_
    refine g_aload_n C dX14_mayLine_24 rfl (by decide) rfl ?_
    refine gw_X14_72 C dX14_mayLine_25 kdR_0 wwR_0_56 ?_
    refine g_iconst C ⟨by decide, by decide⟩ dX14_mayLine_28 ?_
    refine g_aload_n C dX14_mayLine_29 rfl (by decide) rfl ?_
    refine gf_X14_230 C dX14_mayLine_30 kdR_0 (fun z30 => ?_)
    refine g_callVz C [(2, 20), (0, 3), (0, (h2 0 32))] (sim_X14_newName hw) k_1953 k_1955 k_90 k_147 k_1956 hdV_X14_newName rfl rfl (by decide) rfl kdR_0 rfl rfl rfl dX14_mayLine_33 ?_
    intro x1 h3 zb33 hw
    refine g_if_ne C 41 dX14_mayLine_36 rfl hw (fun hw => ?_) (fun hw => ?_)
    · refine g_iconst C ⟨by decide, by decide⟩ dX14_mayLine_41 ?_
      refine g_aload_n C dX14_mayLine_42 rfl (by decide) rfl ?_
      refine gf_X14_230 C dX14_mayLine_43 kdR_0 (fun z43 => ?_)
      refine g_iadd C dX14_mayLine_46 ?_
      refine g_topi (fun x2 ex2 => ?_)
      replace hw := hw x2 ex2
      refine g_istore_n C dX14_mayLine_47 rfl (by decide) ?_
      refine g_aload_n C dX14_mayLine_48 rfl (by decide) rfl ?_
      refine gw_X14_75 C dX14_mayLine_49 kdR_0 wwR_0_57 ?_
      refine g_iload_n C dX14_mayLine_52 rfl rfl ?_
      refine g_iconst C ⟨by decide, by decide⟩ dX14_mayLine_53 ?_
      obtain ⟨⟨b1, b1b⟩, hw⟩ := hw
      refine g_iastore C dX14_mayLine_54 kdR_21 b1 b1b (fun z => z) ?_
      refine g_heap (fun h4 eh4 => ?_)
      replace hw := hw h4 eh4
      exact g_sub [1, 0] rfl (hQ _ hw)
    · refine g_iconst C ⟨by decide, by decide⟩ dX14_mayLine_39 ?_
      exact g_zret C hr (Or.inl rfl) dX14_mayLine_40 ⟨_, rfl, (Or.inl rfl), hw⟩
  · refine g_aload_n C dX14_mayLine_8 rfl (by decide) rfl ?_
    refine g_iconst C ⟨by decide, by decide⟩ dX14_mayLine_9 ?_
    refine g_callVz C [(0, 2)] (sim_X14_wrong hw) k_1926 k_1928 k_84 k_147 k_1929 hdV_X14_wrong rfl rfl (by decide) rfl kdR_0 rfl rfl rfl dX14_mayLine_10 ?_
    intro x3 h5 zb10 hw
    exact g_zret C hr zb10 dX14_mayLine_13 ⟨_, rfl, zb10, hw⟩
set_option maxRecDepth 20000 in
set_option maxHeartbeats 4000000 in
theorem sim_X14_signs {z : Mz} {l : Launch} {h : Mh} {K : Int → Mh → Prop} (hw : wp_X14_signs h K) : mCal (XR z) l yX14_signs cX14_signs 2 (some Jvm.ClassFile.FieldType.boolean) 2 47 [(2, 0)] h (mKz K) := by
  refine m_entry RX14 rfl (by decide) rfl (fun p e s m args below meth c C hr => ?_)
  have hQ : ∀ x, Lfp (F_X14_signs K) x → (match x.1, x.2.1 with | 47, [] => mG (XR z) p l e { frames := 2, cells := 0, slots := 0, locals := 47 } s m args below meth c 2 (mMQ (XR z) (mKz K) below args s) 47 [(0, (2, 0))] [] x.2.2 | 147, [s0] => mG (XR z) p l e { frames := 2, cells := 0, slots := 0, locals := 47 } s m args below meth c 2 (mMQ (XR z) (mKz K) below args s) 147 [(0, (2, 0))] [(0, s0)] x.2.2 | 175, [v1, s1] => mG (XR z) p l e { frames := 2, cells := 0, slots := 0, locals := 47 } s m args below meth c 2 (mMQ (XR z) (mKz K) below args s) 175 [(1, (0, v1)), (0, (2, 0))] [(0, s1), (2, 0)] x.2.2 | 217, [v1] => mG (XR z) p l e { frames := 2, cells := 0, slots := 0, locals := 47 } s m args below meth c 2 (mMQ (XR z) (mKz K) below args s) 217 [(1, (0, v1)), (0, (2, 0))] [] x.2.2 | _, _ => True) := by
    intro x hx
    refine Lfp.ind (fun x => (match x.1, x.2.1 with | 47, [] => mG (XR z) p l e { frames := 2, cells := 0, slots := 0, locals := 47 } s m args below meth c 2 (mMQ (XR z) (mKz K) below args s) 47 [(0, (2, 0))] [] x.2.2 | 147, [s0] => mG (XR z) p l e { frames := 2, cells := 0, slots := 0, locals := 47 } s m args below meth c 2 (mMQ (XR z) (mKz K) below args s) 147 [(0, (2, 0))] [(0, s0)] x.2.2 | 175, [v1, s1] => mG (XR z) p l e { frames := 2, cells := 0, slots := 0, locals := 47 } s m args below meth c 2 (mMQ (XR z) (mKz K) below args s) 175 [(1, (0, v1)), (0, (2, 0))] [(0, s1), (2, 0)] x.2.2 | 217, [v1] => mG (XR z) p l e { frames := 2, cells := 0, slots := 0, locals := 47 } s m args below meth c 2 (mMQ (XR z) (mKz K) below args s) 217 [(1, (0, v1)), (0, (2, 0))] [] x.2.2 | _, _ => True)) ?_ hx
    clear hx x
    intro Z x hQ hw
    rcases hw with ⟨h, rfl, hw⟩ | ⟨s0, h, rfl, hw⟩ | ⟨v1, s1, h, rfl, hw⟩ | ⟨v1, h, rfl, hw⟩
    · show mG (XR z) p l e { frames := 2, cells := 0, slots := 0, locals := 47 } s m args below meth c 2 (mMQ (XR z) (mKz K) below args s) 47 [(0, (2, 0))] [] h
      unfold B_X14_signs_47 at hw
      refine g_aload_n C dX14_signs_47 rfl (by decide) rfl ?_
      refine g_bipush C ⟨by decide, by decide⟩ (by decide) dX14_signs_48 ?_
      refine g_callVz C [(0, 14)] (sim_X14_isKey hw) k_1968 k_1970 k_93 k_147 k_1971 hdV_X14_isKey rfl rfl (by decide) rfl kdR_0 rfl rfl rfl dX14_signs_50 ?_
      intro x1 h1 zb50 hw
      refine g_if_eq C 60 dX14_signs_53 rfl hw (fun hw => ?_) (fun hw => ?_)
      · refine g_aload_n C dX14_signs_60 rfl (by decide) rfl ?_
        refine g_bipush C ⟨by decide, by decide⟩ (by decide) dX14_signs_61 ?_
        refine g_callVz C [(0, 15)] (sim_X14_isKey hw) k_1968 k_1970 k_93 k_147 k_1971 hdV_X14_isKey rfl rfl (by decide) rfl kdR_0 rfl rfl rfl dX14_signs_63 ?_
        intro x2 h2 zb63 hw
        refine g_if_eq C 73 dX14_signs_66 rfl hw (fun hw => ?_) (fun hw => ?_)
        · refine g_aload_n C dX14_signs_73 rfl (by decide) rfl ?_
          refine gf_X14_166 C dX14_signs_74 kdR_0 (fun z74 => ?_)
          refine g_iconst C ⟨by decide, by decide⟩ dX14_signs_77 ?_
          refine g_icmp_ne C 90 dX14_signs_78 rfl hw (fun hw => ?_) (fun hw => ?_)
          · refine g_aload_n C dX14_signs_90 rfl (by decide) rfl ?_
            refine g_bipush C ⟨by decide, by decide⟩ (by decide) dX14_signs_91 ?_
            refine g_callVz C [(0, 43)] (sim_X14_isSign hw) k_1964 k_1966 k_92 k_147 k_1967 hdV_X14_isSign rfl rfl (by decide) rfl kdR_0 rfl rfl rfl dX14_signs_93 ?_
            intro x3 h3 zb93 hw
            refine g_if_eq C 104 dX14_signs_96 rfl hw (fun hw => ?_) (fun hw => ?_)
            · refine g_aload_n C dX14_signs_104 rfl (by decide) rfl ?_
              refine g_bipush C ⟨by decide, by decide⟩ (by decide) dX14_signs_105 ?_
              refine g_callVz C [(0, 45)] (sim_X14_isSign hw) k_1964 k_1966 k_92 k_147 k_1967 hdV_X14_isSign rfl rfl (by decide) rfl kdR_0 rfl rfl rfl dX14_signs_107 ?_
              intro x4 h4 zb107 hw
              refine g_if_eq C 118 dX14_signs_110 rfl hw (fun hw => ?_) (fun hw => ?_)
              · refine g_aload_n C dX14_signs_118 rfl (by decide) rfl ?_
                refine g_bipush C ⟨by decide, by decide⟩ (by decide) dX14_signs_119 ?_
                refine g_callVz C [(0, 42)] (sim_X14_isSign hw) k_1964 k_1966 k_92 k_147 k_1967 hdV_X14_isSign rfl rfl (by decide) rfl kdR_0 rfl rfl rfl dX14_signs_121 ?_
                intro x5 h5 zb121 hw
                refine g_if_eq C 132 dX14_signs_124 rfl hw (fun hw => ?_) (fun hw => ?_)
                · refine g_aload_n C dX14_signs_132 rfl (by decide) rfl ?_
                  refine g_bipush C ⟨by decide, by decide⟩ (by decide) dX14_signs_133 ?_
                  refine g_callVz C [(0, 47)] (sim_X14_isSign hw) k_1964 k_1966 k_92 k_147 k_1967 hdV_X14_isSign rfl rfl (by decide) rfl kdR_0 rfl rfl rfl dX14_signs_135 ?_
                  intro x6 h6 zb135 hw
                  refine g_if_eq C 146 dX14_signs_138 rfl hw (fun hw => ?_) (fun hw => ?_)
                  · refine g_iconst C ⟨by decide, by decide⟩ dX14_signs_146 ?_
                    exact g_sub [0] rfl (hQ _ hw)
                  · refine g_bipush C ⟨by decide, by decide⟩ (by decide) dX14_signs_141 ?_
                    refine g_goto C 147 dX14_signs_143 rfl ?_
                    exact g_sub [0] rfl (hQ _ hw)
                · refine g_bipush C ⟨by decide, by decide⟩ (by decide) dX14_signs_127 ?_
                  refine g_goto C 147 dX14_signs_129 rfl ?_
                  exact g_sub [0] rfl (hQ _ hw)
              · refine g_bipush C ⟨by decide, by decide⟩ (by decide) dX14_signs_113 ?_
                refine g_goto C 147 dX14_signs_115 rfl ?_
                exact g_sub [0] rfl (hQ _ hw)
            · refine g_bipush C ⟨by decide, by decide⟩ (by decide) dX14_signs_99 ?_
              refine g_goto C 147 dX14_signs_101 rfl ?_
              exact g_sub [0] rfl (hQ _ hw)
          · refine g_iconst C ⟨by decide, by decide⟩ dX14_signs_81 ?_
            refine g_aload_n C dX14_signs_82 rfl (by decide) rfl ?_
            refine gf_X14_177 C dX14_signs_83 kdR_0 (fun z83 => ?_)
            refine g_iadd C dX14_signs_86 ?_
            refine g_goto C 147 dX14_signs_87 rfl ?_
            exact g_sub [0] rfl (hQ _ hw)
        · refine g_iconst C ⟨by decide, by decide⟩ dX14_signs_69 ?_
          refine g_goto C 147 dX14_signs_70 rfl ?_
          exact g_sub [0] rfl (hQ _ hw)
      · refine g_iconst C ⟨by decide, by decide⟩ dX14_signs_56 ?_
        refine g_goto C 147 dX14_signs_57 rfl ?_
        exact g_sub [0] rfl (hQ _ hw)
    · show mG (XR z) p l e { frames := 2, cells := 0, slots := 0, locals := 47 } s m args below meth c 2 (mMQ (XR z) (mKz K) below args s) 147 [(0, (2, 0))] [(0, s0)] h
      unfold B_X14_signs_147 at hw
      refine g_istore_n C dX14_signs_147 rfl (by decide) ?_
      refine g_iload_n C dX14_signs_148 rfl rfl ?_
      refine g_if_ne C 158 dX14_signs_149 rfl hw (fun hw => ?_) (fun hw => ?_)
      · refine g_aload_n C dX14_signs_158 rfl (by decide) rfl ?_
        refine g_iload_n C dX14_signs_159 rfl rfl ?_
        refine g_callSi C [(0, s0)] (sim_X14_rank hw) k_2012 k_2013 k_147 k_2014 hdS_X14_rank rfl rfl rfl rfl rfl dX14_signs_160 ?_
        intro x1 h1 hw
        refine g_iconst C ⟨by decide, by decide⟩ dX14_signs_163 ?_
        refine g_icmp_ne C 171 dX14_signs_164 rfl hw (fun hw => ?_) (fun hw => ?_)
        · refine g_iload_n C dX14_signs_171 rfl rfl ?_
          refine g_callSi C [(0, s0)] (sim_X14_rank hw) k_2012 k_2013 k_147 k_2014 hdS_X14_rank rfl rfl rfl rfl rfl dX14_signs_172 ?_
          intro x2 h2 hw
          exact g_sub [1, 0] rfl (hQ _ hw)
        · refine g_iconst C ⟨by decide, by decide⟩ dX14_signs_167 ?_
          refine g_goto C 175 dX14_signs_168 rfl ?_
          exact g_sub [1, 0] rfl (hQ _ hw)
      · refine g_aload_n C dX14_signs_152 rfl (by decide) rfl ?_
        refine g_iconst C ⟨by decide, by decide⟩ dX14_signs_153 ?_
        refine g_callVz C [(0, 1)] (sim_X14_wrong hw) k_1926 k_1928 k_84 k_147 k_1929 hdV_X14_wrong rfl rfl (by decide) rfl kdR_0 rfl rfl rfl dX14_signs_154 ?_
        intro x3 h3 zb154 hw
        exact g_zret C hr zb154 dX14_signs_157 ⟨_, rfl, zb154, hw⟩
    · show mG (XR z) p l e { frames := 2, cells := 0, slots := 0, locals := 47 } s m args below meth c 2 (mMQ (XR z) (mKz K) below args s) 175 [(1, (0, v1)), (0, (2, 0))] [(0, s1), (2, 0)] h
      unfold B_X14_signs_175 at hw
      refine g_callVv C [(0, s1)] (sim_X14_bind hw) k_2008 k_2010 k_103 k_147 k_2011 hdV_X14_bind rfl rfl (by decide) rfl kdR_0 rfl rfl rfl dX14_signs_175 ?_
      intro h1 hw
      refine g_iload_n C dX14_signs_178 rfl rfl ?_
      refine g_callSi C [(0, v1)] (sim_X14_rank hw) k_2012 k_2013 k_147 k_2014 hdS_X14_rank rfl rfl rfl rfl rfl dX14_signs_179 ?_
      intro x1 h2 hw
      refine g_iconst C ⟨by decide, by decide⟩ dX14_signs_182 ?_
      refine g_icmp_ne C 217 dX14_signs_183 rfl hw (fun hw => ?_) (fun hw => ?_)
      · exact g_sub [1, 0] rfl (hQ _ hw)
      · refine g_aload_n C dX14_signs_186 rfl (by decide) rfl ?_
        refine gf_X14_364 C dX14_signs_187 kdR_0 (fun z187 => ?_)
        refine g_if_le C 217 dX14_signs_190 rfl hw (fun hw => ?_) (fun hw => ?_)
        · exact g_sub [1, 0] rfl (hQ _ hw)
        · refine g_aload_n C dX14_signs_193 rfl (by decide) rfl ?_
          refine gw_X14_90 C dX14_signs_194 kdR_0 wwR_0_63 ?_
          refine g_aload_n C dX14_signs_197 rfl (by decide) rfl ?_
          refine gf_X14_364 C dX14_signs_198 kdR_0 (fun z198 => ?_)
          refine g_iconst C ⟨by decide, by decide⟩ dX14_signs_201 ?_
          refine g_isub C dX14_signs_202 ?_
          obtain ⟨⟨b1, b1b⟩, hw⟩ := hw
          refine g_iaload C dX14_signs_203 kdR_26 b1 b1b (fun z203 => ?_)
          refine g_callSi C [(0, (h2 26 (w32 ((h2 0 65) - 1))))] (sim_X14_rank hw) k_2012 k_2013 k_147 k_2014 hdS_X14_rank rfl rfl rfl rfl rfl dX14_signs_204 ?_
          intro x2 h3 hw
          refine g_iconst C ⟨by decide, by decide⟩ dX14_signs_207 ?_
          refine g_icmp_ne C 217 dX14_signs_208 rfl hw (fun hw => ?_) (fun hw => ?_)
          · exact g_sub [1, 0] rfl (hQ _ hw)
          · refine g_aload_n C dX14_signs_211 rfl (by decide) rfl ?_
            refine g_iconst C ⟨by decide, by decide⟩ dX14_signs_212 ?_
            refine g_callVz C [(0, 1)] (sim_X14_wrong hw) k_1926 k_1928 k_84 k_147 k_1929 hdV_X14_wrong rfl rfl (by decide) rfl kdR_0 rfl rfl rfl dX14_signs_213 ?_
            intro x3 h4 zb213 hw
            exact g_zret C hr zb213 dX14_signs_216 ⟨_, rfl, zb213, hw⟩
    · show mG (XR z) p l e { frames := 2, cells := 0, slots := 0, locals := 47 } s m args below meth c 2 (mMQ (XR z) (mKz K) below args s) 217 [(1, (0, v1)), (0, (2, 0))] [] h
      unfold B_X14_signs_217 at hw
      refine g_aload_n C dX14_signs_217 rfl (by decide) rfl ?_
      refine g_callVz C [] (sim_X14_isCounted hw) k_1992 k_1994 k_99 k_147 k_1995 hdV_X14_isCounted rfl rfl (by decide) rfl kdR_0 rfl rfl rfl dX14_signs_218 ?_
      intro x1 h1 zb218 hw
      refine g_if_ne C 226 dX14_signs_221 rfl hw (fun hw => ?_) (fun hw => ?_)
      · refine g_aload_n C dX14_signs_226 rfl (by decide) rfl ?_
        refine g_iload_n C dX14_signs_227 rfl rfl ?_
        refine g_callVv C [(0, v1)] (sim_X14_waitsFor hw) k_1988 k_1990 k_98 k_147 k_1991 hdV_X14_waitsFor rfl rfl (by decide) rfl kdR_0 rfl rfl rfl dX14_signs_228 ?_
        intro h2 hw
        refine g_aload_n C dX14_signs_231 rfl (by decide) rfl ?_
        refine g_iconst C ⟨by decide, by decide⟩ dX14_signs_232 ?_
        refine gp_X14_395 C dX14_signs_233 kdR_0 (fun _ => (Or.inr rfl)) ?_
        refine g_heap (fun h3 eh3 => ?_)
        replace hw := hw h3 eh3
        refine g_aload_n C dX14_signs_236 rfl (by decide) rfl ?_
        refine g_iload_n C dX14_signs_237 rfl rfl ?_
        refine g_callSi C [(0, v1)] (sim_X14_rank hw) k_2012 k_2013 k_147 k_2014 hdS_X14_rank rfl rfl rfl rfl rfl dX14_signs_238 ?_
        intro x2 h4 hw
        refine g_iconst C ⟨by decide, by decide⟩ dX14_signs_241 ?_
        refine g_icmp_ge C 249 dX14_signs_242 rfl hw (fun hw => ?_) (fun hw => ?_)
        · refine g_iconst C ⟨by decide, by decide⟩ dX14_signs_249 ?_
          refine gp_X14_386 C dX14_signs_250 kdR_0 (fun _ => (Or.inl rfl)) ?_
          refine g_heap (fun h5 eh5 => ?_)
          replace hw := hw h5 eh5
          refine g_aload_n C dX14_signs_253 rfl (by decide) rfl ?_
          refine g_callVv C [] (sim_X14_token hw) k_1898 k_1900 k_77 k_147 k_1901 hdV_X14_token rfl rfl (by decide) rfl kdR_0 rfl rfl rfl dX14_signs_254 ?_
          intro h6 hw
          refine g_iconst C ⟨by decide, by decide⟩ dX14_signs_257 ?_
          exact g_zret C hr (Or.inr rfl) dX14_signs_258 ⟨_, rfl, (Or.inr rfl), hw⟩
        · refine g_iconst C ⟨by decide, by decide⟩ dX14_signs_245 ?_
          refine g_goto C 250 dX14_signs_246 rfl ?_
          refine gp_X14_386 C dX14_signs_250 kdR_0 (fun _ => (Or.inr rfl)) ?_
          refine g_heap (fun h7 eh7 => ?_)
          replace hw := hw h7 eh7
          refine g_aload_n C dX14_signs_253 rfl (by decide) rfl ?_
          refine g_callVv C [] (sim_X14_token hw) k_1898 k_1900 k_77 k_147 k_1901 hdV_X14_token rfl rfl (by decide) rfl kdR_0 rfl rfl rfl dX14_signs_254 ?_
          intro h8 hw
          refine g_iconst C ⟨by decide, by decide⟩ dX14_signs_257 ?_
          exact g_zret C hr (Or.inr rfl) dX14_signs_258 ⟨_, rfl, (Or.inr rfl), hw⟩
      · refine g_iconst C ⟨by decide, by decide⟩ dX14_signs_224 ?_
        exact g_zret C hr (Or.inl rfl) dX14_signs_225 ⟨_, rfl, (Or.inl rfl), hw⟩
  show mG _ p l e _ s m args below meth c _ _ 0 [(0, (2, 0))] [] h
  unfold wp_X14_signs at hw
  refine g_aload_n C dX14_signs_0 rfl (by decide) rfl ?_
  refine g_bipush C ⟨by decide, by decide⟩ (by decide) dX14_signs_1 ?_
  refine g_callVz C [(0, 41)] (sim_X14_isSign hw) k_1964 k_1966 k_92 k_147 k_1967 hdV_X14_isSign rfl rfl (by decide) rfl kdR_0 rfl rfl rfl dX14_signs_3 ?_
  intro x1 h1 zb3 hw
  refine g_if_eq C 47 dX14_signs_6 rfl hw (fun hw => ?_) (fun hw => ?_)
  · exact g_sub [0] rfl (hQ _ hw)
  · refine g_aload_n C dX14_signs_9 rfl (by decide) rfl ?_
    refine gf_X14_379 C dX14_signs_10 kdR_0 (fun z10 => ?_)
    refine g_if_le C 47 dX14_signs_13 rfl hw (fun hw => ?_) (fun hw => ?_)
    · exact g_sub [0] rfl (hQ _ hw)
    · refine g_aload_n C dX14_signs_16 rfl (by decide) rfl ?_
      refine g_iconst C ⟨by decide, by decide⟩ dX14_signs_17 ?_
      refine g_callVv C [(0, 1)] (sim_X14_bind hw) k_2008 k_2010 k_103 k_147 k_2011 hdV_X14_bind rfl rfl (by decide) rfl kdR_0 rfl rfl rfl dX14_signs_18 ?_
      intro h2 hw
      refine g_aload_n C dX14_signs_21 rfl (by decide) rfl ?_
      refine g_dup C (by show ¬ (2 : Nat) = 1; decide) dX14_signs_22 ?_
      refine gf_X14_364 C dX14_signs_23 kdR_0 (fun z23 => ?_)
      refine g_iconst C ⟨by decide, by decide⟩ dX14_signs_26 ?_
      refine g_isub C dX14_signs_27 ?_
      refine gp_X14_364 C dX14_signs_28 kdR_0 (fun z => z) ?_
      refine g_heap (fun h3 eh3 => ?_)
      replace hw := hw h3 eh3
      refine g_aload_n C dX14_signs_31 rfl (by decide) rfl ?_
      refine g_dup C (by show ¬ (2 : Nat) = 1; decide) dX14_signs_32 ?_
      refine gf_X14_379 C dX14_signs_33 kdR_0 (fun z33 => ?_)
      refine g_iconst C ⟨by decide, by decide⟩ dX14_signs_36 ?_
      refine g_isub C dX14_signs_37 ?_
      refine gp_X14_379 C dX14_signs_38 kdR_0 (fun z => z) ?_
      refine g_heap (fun h4 eh4 => ?_)
      replace hw := hw h4 eh4
      refine g_aload_n C dX14_signs_41 rfl (by decide) rfl ?_
      refine g_callVv C [] (sim_X14_token hw) k_1898 k_1900 k_77 k_147 k_1901 hdV_X14_token rfl rfl (by decide) rfl kdR_0 rfl rfl rfl dX14_signs_42 ?_
      intro h5 hw
      refine g_iconst C ⟨by decide, by decide⟩ dX14_signs_45 ?_
      exact g_zret C hr (Or.inr rfl) dX14_signs_46 ⟨_, rfl, (Or.inr rfl), hw⟩
set_option maxRecDepth 20000 in
set_option maxHeartbeats 4000000 in
theorem sim_X14_sumRead {z : Mz} {l : Launch} {h : Mh} {K : Int → Mh → Prop} (hw : wp_X14_sumRead h K) : mCal (XR z) l yX14_sumRead cX14_sumRead 1 (some Jvm.ClassFile.FieldType.boolean) 3 68 [(2, 0)] h (mKz K) := by
  refine m_entry RX14 rfl (by decide) rfl (fun p e s m args below meth c C hr => ?_)
  have hQ : ∀ x, Lfp (F_X14_sumRead K) x → (match x.1, x.2.1 with | 25, [] => mG (XR z) p l e { frames := 3, cells := 0, slots := 0, locals := 68 } s m args below meth c 1 (mMQ (XR z) (mKz K) below args s) 25 [(0, (2, 0))] [] x.2.2 | 48, [] => mG (XR z) p l e { frames := 3, cells := 0, slots := 0, locals := 68 } s m args below meth c 1 (mMQ (XR z) (mKz K) below args s) 48 [(0, (2, 0))] [] x.2.2 | _, _ => True) := by
    intro x hx
    refine Lfp.ind (fun x => (match x.1, x.2.1 with | 25, [] => mG (XR z) p l e { frames := 3, cells := 0, slots := 0, locals := 68 } s m args below meth c 1 (mMQ (XR z) (mKz K) below args s) 25 [(0, (2, 0))] [] x.2.2 | 48, [] => mG (XR z) p l e { frames := 3, cells := 0, slots := 0, locals := 68 } s m args below meth c 1 (mMQ (XR z) (mKz K) below args s) 48 [(0, (2, 0))] [] x.2.2 | _, _ => True)) ?_ hx
    clear hx x
    intro Z x hQ hw
    rcases hw with ⟨h, rfl, hw⟩ | ⟨h, rfl, hw⟩
    · show mG (XR z) p l e { frames := 3, cells := 0, slots := 0, locals := 68 } s m args below meth c 1 (mMQ (XR z) (mKz K) below args s) 25 [(0, (2, 0))] [] h
      unfold B_X14_sumRead_25 at hw
      refine g_aload_n C dX14_sumRead_25 rfl (by decide) rfl ?_
      refine g_bipush C ⟨by decide, by decide⟩ (by decide) dX14_sumRead_26 ?_
      refine g_callVz C [(0, 59)] (sim_X14_isSign hw) k_1964 k_1966 k_92 k_147 k_1967 hdV_X14_isSign rfl rfl (by decide) rfl kdR_0 rfl rfl rfl dX14_sumRead_28 ?_
      intro x1 h1 zb28 hw
      refine g_if_eq C 48 dX14_sumRead_31 rfl hw (fun hw => ?_) (fun hw => ?_)
      · exact g_sub [0] rfl (hQ _ hw)
      · refine g_aload_n C dX14_sumRead_34 rfl (by decide) rfl ?_
        refine gf_X14_395 C dX14_sumRead_35 kdR_0 (fun z35 => ?_)
        refine g_if_ne C 48 dX14_sumRead_38 rfl hw (fun hw => ?_) (fun hw => ?_)
        · exact g_sub [0] rfl (hQ _ hw)
        · refine g_aload_n C dX14_sumRead_41 rfl (by decide) rfl ?_
          refine gf_X14_379 C dX14_sumRead_42 kdR_0 (fun z42 => ?_)
          refine g_if_le C 74 dX14_sumRead_45 rfl hw (fun hw => ?_) (fun hw => ?_)
          · refine g_aload_n C dX14_sumRead_74 rfl (by decide) rfl ?_
            refine g_iconst C ⟨by decide, by decide⟩ dX14_sumRead_75 ?_
            refine g_callVv C [(0, 1)] (sim_X14_bind hw) k_2008 k_2010 k_103 k_147 k_2011 hdV_X14_bind rfl rfl (by decide) rfl kdR_0 rfl rfl rfl dX14_sumRead_76 ?_
            intro h2 hw
            refine g_iconst C ⟨by decide, by decide⟩ dX14_sumRead_79 ?_
            exact g_zret C hr (Or.inr rfl) dX14_sumRead_80 ⟨_, rfl, (Or.inr rfl), hw⟩
          · exact g_sub [0] rfl (hQ _ hw)
    · show mG (XR z) p l e { frames := 3, cells := 0, slots := 0, locals := 68 } s m args below meth c 1 (mMQ (XR z) (mKz K) below args s) 48 [(0, (2, 0))] [] h
      unfold B_X14_sumRead_48 at hw
      refine g_aload_n C dX14_sumRead_48 rfl (by decide) rfl ?_
      refine gf_X14_395 C dX14_sumRead_49 kdR_0 (fun z49 => ?_)
      refine g_if_eq C 65 dX14_sumRead_52 rfl hw (fun hw => ?_) (fun hw => ?_)
      · refine g_aload_n C dX14_sumRead_65 rfl (by decide) rfl ?_
        refine g_callVz C [] (sim_X14_signs hw) k_2004 k_2006 k_102 k_147 k_2007 hdV_X14_signs rfl rfl (by decide) rfl kdR_0 rfl rfl rfl dX14_sumRead_66 ?_
        intro x1 h1 zb66 hw
        refine g_if_ne C 25 dX14_sumRead_69 rfl hw (fun hw => ?_) (fun hw => ?_)
        · exact g_sub [0] rfl (hQ _ hw)
        · refine g_iconst C ⟨by decide, by decide⟩ dX14_sumRead_72 ?_
          exact g_zret C hr (Or.inl rfl) dX14_sumRead_73 ⟨_, rfl, (Or.inl rfl), hw⟩
      · refine g_aload_n C dX14_sumRead_55 rfl (by decide) rfl ?_
        refine g_callVz C [] (sim_X14_leafRead hw) k_1984 k_1986 k_97 k_147 k_1987 hdV_X14_leafRead rfl rfl (by decide) rfl kdR_0 rfl rfl rfl dX14_sumRead_56 ?_
        intro x2 h2 zb56 hw
        refine g_if_eq C 72 dX14_sumRead_59 rfl hw (fun hw => ?_) (fun hw => ?_)
        · refine g_iconst C ⟨by decide, by decide⟩ dX14_sumRead_72 ?_
          exact g_zret C hr (Or.inl rfl) dX14_sumRead_73 ⟨_, rfl, (Or.inl rfl), hw⟩
        · refine g_goto C 25 dX14_sumRead_62 rfl ?_
          exact g_sub [0] rfl (hQ _ hw)
  show mG _ p l e _ s m args below meth c _ _ 0 [(0, (2, 0))] [] h
  unfold wp_X14_sumRead at hw
  refine g_aload_n C dX14_sumRead_0 rfl (by decide) rfl ?_
  refine g_iconst C ⟨by decide, by decide⟩ dX14_sumRead_1 ?_
  refine gp_X14_364 C dX14_sumRead_2 kdR_0 (fun z => z) ?_
  refine g_heap (fun h1 eh1 => ?_)
  replace hw := hw h1 eh1
  refine g_aload_n C dX14_sumRead_5 rfl (by decide) rfl ?_
  refine g_iconst C ⟨by decide, by decide⟩ dX14_sumRead_6 ?_
  refine gp_X14_361 C dX14_sumRead_7 kdR_0 (fun z => z) ?_
  refine g_heap (fun h2 eh2 => ?_)
  replace hw := hw h2 eh2
  refine g_aload_n C dX14_sumRead_10 rfl (by decide) rfl ?_
  refine g_iconst C ⟨by decide, by decide⟩ dX14_sumRead_11 ?_
  refine gp_X14_379 C dX14_sumRead_12 kdR_0 (fun z => z) ?_
  refine g_heap (fun h3 eh3 => ?_)
  replace hw := hw h3 eh3
  refine g_aload_n C dX14_sumRead_15 rfl (by decide) rfl ?_
  refine g_iconst C ⟨by decide, by decide⟩ dX14_sumRead_16 ?_
  refine gp_X14_395 C dX14_sumRead_17 kdR_0 (fun _ => (Or.inr rfl)) ?_
  refine g_heap (fun h4 eh4 => ?_)
  replace hw := hw h4 eh4
  refine g_aload_n C dX14_sumRead_20 rfl (by decide) rfl ?_
  refine g_iconst C ⟨by decide, by decide⟩ dX14_sumRead_21 ?_
  refine gp_X14_386 C dX14_sumRead_22 kdR_0 (fun _ => (Or.inr rfl)) ?_
  refine g_heap (fun h5 eh5 => ?_)
  replace hw := hw h5 eh5
  exact g_sub [0] rfl (hQ _ hw)
set_option maxRecDepth 20000 in
set_option maxHeartbeats 4000000 in
theorem sim_X14_lineRead {z : Mz} {l : Launch} {h : Mh} {K : Int → Mh → Prop} (hw : wp_X14_lineRead h K) : mCal (XR z) l yX14_lineRead cX14_lineRead 3 (some Jvm.ClassFile.FieldType.boolean) 6 132 [(2, 0)] h (mKz K) := by
  refine m_entry RX14 rfl (by decide) rfl (fun p e s m args below meth c C hr => ?_)
  have hQ : ∀ x, Lfp (F_X14_lineRead K) x → (match x.1, x.2.1 with | 458, [v1] => mG (XR z) p l e { frames := 6, cells := 0, slots := 0, locals := 132 } s m args below meth c 3 (mMQ (XR z) (mKz K) below args s) 458 [(1, (0, v1)), (0, (2, 0))] [] x.2.2 | 162, [] => mG (XR z) p l e { frames := 6, cells := 0, slots := 0, locals := 132 } s m args below meth c 3 (mMQ (XR z) (mKz K) below args s) 162 [(0, (2, 0))] [] x.2.2 | 229, [] => mG (XR z) p l e { frames := 6, cells := 0, slots := 0, locals := 132 } s m args below meth c 3 (mMQ (XR z) (mKz K) below args s) 229 [(0, (2, 0))] [] x.2.2 | 230, [s0] => mG (XR z) p l e { frames := 6, cells := 0, slots := 0, locals := 132 } s m args below meth c 3 (mMQ (XR z) (mKz K) below args s) 230 [(0, (2, 0))] [(0, s0)] x.2.2 | 313, [] => mG (XR z) p l e { frames := 6, cells := 0, slots := 0, locals := 132 } s m args below meth c 3 (mMQ (XR z) (mKz K) below args s) 313 [(0, (2, 0))] [] x.2.2 | 314, [s0] => mG (XR z) p l e { frames := 6, cells := 0, slots := 0, locals := 132 } s m args below meth c 3 (mMQ (XR z) (mKz K) below args s) 314 [(0, (2, 0))] [(0, s0)] x.2.2 | 359, [] => mG (XR z) p l e { frames := 6, cells := 0, slots := 0, locals := 132 } s m args below meth c 3 (mMQ (XR z) (mKz K) below args s) 359 [(0, (2, 0))] [] x.2.2 | 261, [v1, s1, s2] => mG (XR z) p l e { frames := 6, cells := 0, slots := 0, locals := 132 } s m args below meth c 3 (mMQ (XR z) (mKz K) below args s) 261 [(1, (0, v1)), (0, (2, 0))] [(0, s2), (0, s1), (2, 0)] x.2.2 | 344, [v1, s1, s2] => mG (XR z) p l e { frames := 6, cells := 0, slots := 0, locals := 132 } s m args below meth c 3 (mMQ (XR z) (mKz K) below args s) 344 [(1, (0, v1)), (0, (2, 0))] [(0, s2), (0, s1), (2, 0)] x.2.2 | 406, [v2, s1, s2] => mG (XR z) p l e { frames := 6, cells := 0, slots := 0, locals := 132 } s m args below meth c 3 (mMQ (XR z) (mKz K) below args s) 406 [(2, (0, v2)), (0, (2, 0))] [(0, s2), (0, s1), (2, 0)] x.2.2 | _, _ => True) := by
    intro x hx
    refine Lfp.ind (fun x => (match x.1, x.2.1 with | 458, [v1] => mG (XR z) p l e { frames := 6, cells := 0, slots := 0, locals := 132 } s m args below meth c 3 (mMQ (XR z) (mKz K) below args s) 458 [(1, (0, v1)), (0, (2, 0))] [] x.2.2 | 162, [] => mG (XR z) p l e { frames := 6, cells := 0, slots := 0, locals := 132 } s m args below meth c 3 (mMQ (XR z) (mKz K) below args s) 162 [(0, (2, 0))] [] x.2.2 | 229, [] => mG (XR z) p l e { frames := 6, cells := 0, slots := 0, locals := 132 } s m args below meth c 3 (mMQ (XR z) (mKz K) below args s) 229 [(0, (2, 0))] [] x.2.2 | 230, [s0] => mG (XR z) p l e { frames := 6, cells := 0, slots := 0, locals := 132 } s m args below meth c 3 (mMQ (XR z) (mKz K) below args s) 230 [(0, (2, 0))] [(0, s0)] x.2.2 | 313, [] => mG (XR z) p l e { frames := 6, cells := 0, slots := 0, locals := 132 } s m args below meth c 3 (mMQ (XR z) (mKz K) below args s) 313 [(0, (2, 0))] [] x.2.2 | 314, [s0] => mG (XR z) p l e { frames := 6, cells := 0, slots := 0, locals := 132 } s m args below meth c 3 (mMQ (XR z) (mKz K) below args s) 314 [(0, (2, 0))] [(0, s0)] x.2.2 | 359, [] => mG (XR z) p l e { frames := 6, cells := 0, slots := 0, locals := 132 } s m args below meth c 3 (mMQ (XR z) (mKz K) below args s) 359 [(0, (2, 0))] [] x.2.2 | 261, [v1, s1, s2] => mG (XR z) p l e { frames := 6, cells := 0, slots := 0, locals := 132 } s m args below meth c 3 (mMQ (XR z) (mKz K) below args s) 261 [(1, (0, v1)), (0, (2, 0))] [(0, s2), (0, s1), (2, 0)] x.2.2 | 344, [v1, s1, s2] => mG (XR z) p l e { frames := 6, cells := 0, slots := 0, locals := 132 } s m args below meth c 3 (mMQ (XR z) (mKz K) below args s) 344 [(1, (0, v1)), (0, (2, 0))] [(0, s2), (0, s1), (2, 0)] x.2.2 | 406, [v2, s1, s2] => mG (XR z) p l e { frames := 6, cells := 0, slots := 0, locals := 132 } s m args below meth c 3 (mMQ (XR z) (mKz K) below args s) 406 [(2, (0, v2)), (0, (2, 0))] [(0, s2), (0, s1), (2, 0)] x.2.2 | _, _ => True)) ?_ hx
    clear hx x
    intro Z x hQ hw
    rcases hw with ⟨v1, h, rfl, hw⟩ | ⟨h, rfl, hw⟩ | ⟨h, rfl, hw⟩ | ⟨s0, h, rfl, hw⟩ | ⟨h, rfl, hw⟩ | ⟨s0, h, rfl, hw⟩ | ⟨h, rfl, hw⟩ | ⟨v1, s1, s2, h, rfl, hw⟩ | ⟨v1, s1, s2, h, rfl, hw⟩ | ⟨v2, s1, s2, h, rfl, hw⟩
    · show mG (XR z) p l e { frames := 6, cells := 0, slots := 0, locals := 132 } s m args below meth c 3 (mMQ (XR z) (mKz K) below args s) 458 [(1, (0, v1)), (0, (2, 0))] [] h
      unfold B_X14_lineRead_458 at hw
      refine g_iload_n C dX14_lineRead_458 rfl rfl ?_
      refine g_if_ne C 464 dX14_lineRead_459 rfl hw (fun hw => ?_) (fun hw => ?_)
      · refine g_aload_n C dX14_lineRead_464 rfl (by decide) rfl ?_
        refine g_bipush C ⟨by decide, by decide⟩ (by decide) dX14_lineRead_465 ?_
        refine g_callVz C [(0, 59)] (sim_X14_isSign hw) k_1964 k_1966 k_92 k_147 k_1967 hdV_X14_isSign rfl rfl (by decide) rfl kdR_0 rfl rfl rfl dX14_lineRead_467 ?_
        intro x1 h1 zb467 hw
        refine g_if_ne C 479 dX14_lineRead_470 rfl hw (fun hw => ?_) (fun hw => ?_)
        · refine g_aload_n C dX14_lineRead_479 rfl (by decide) rfl ?_
          refine g_callVv C [] (sim_X14_token hw) k_1898 k_1900 k_77 k_147 k_1901 hdV_X14_token rfl rfl (by decide) rfl kdR_0 rfl rfl rfl dX14_lineRead_480 ?_
          intro h2 hw
          refine g_iconst C ⟨by decide, by decide⟩ dX14_lineRead_483 ?_
          exact g_zret C hr (Or.inr rfl) dX14_lineRead_484 ⟨_, rfl, (Or.inr rfl), hw⟩
        · refine g_aload_n C dX14_lineRead_473 rfl (by decide) rfl ?_
          refine g_iconst C ⟨by decide, by decide⟩ dX14_lineRead_474 ?_
          refine g_callVz C [(0, 1)] (sim_X14_wrong hw) k_1926 k_1928 k_84 k_147 k_1929 hdV_X14_wrong rfl rfl (by decide) rfl kdR_0 rfl rfl rfl dX14_lineRead_475 ?_
          intro x2 h3 zb475 hw
          exact g_zret C hr zb475 dX14_lineRead_478 ⟨_, rfl, zb475, hw⟩
      · refine g_iconst C ⟨by decide, by decide⟩ dX14_lineRead_462 ?_
        exact g_zret C hr (Or.inl rfl) dX14_lineRead_463 ⟨_, rfl, (Or.inl rfl), hw⟩
    · show mG (XR z) p l e { frames := 6, cells := 0, slots := 0, locals := 132 } s m args below meth c 3 (mMQ (XR z) (mKz K) below args s) 162 [(0, (2, 0))] [] h
      unfold B_X14_lineRead_162 at hw
      refine g_aload_n C dX14_lineRead_162 rfl (by decide) rfl ?_
      refine g_aload_n C dX14_lineRead_163 rfl (by decide) rfl ?_
      refine gf_X14_177 C dX14_lineRead_164 kdR_0 (fun z164 => ?_)
      refine g_callVz C [(0, (h 0 9))] (sim_X14_groundLine hw) k_1937 k_1939 k_86 k_147 k_1940 hdV_X14_groundLine rfl rfl (by decide) rfl kdR_0 rfl rfl rfl dX14_lineRead_167 ?_
      intro x1 h1 zb167 hw
      refine g_istore_n C dX14_lineRead_170 rfl (by decide) ?_
      refine g_goto C 458 dX14_lineRead_171 rfl ?_
      exact g_sub [1, 0] rfl (hQ _ hw)
    · show mG (XR z) p l e { frames := 6, cells := 0, slots := 0, locals := 132 } s m args below meth c 3 (mMQ (XR z) (mKz K) below args s) 229 [(0, (2, 0))] [] h
      unfold B_X14_lineRead_229 at hw
      refine g_iconst C ⟨by decide, by decide⟩ dX14_lineRead_229 ?_
      exact g_sub [0] rfl (hQ _ hw)
    · show mG (XR z) p l e { frames := 6, cells := 0, slots := 0, locals := 132 } s m args below meth c 3 (mMQ (XR z) (mKz K) below args s) 230 [(0, (2, 0))] [(0, s0)] h
      unfold B_X14_lineRead_230 at hw
      refine g_istore_n C dX14_lineRead_230 rfl (by decide) ?_
      refine g_aload_n C dX14_lineRead_231 rfl (by decide) rfl ?_
      refine gw_X14_54 C dX14_lineRead_232 kdR_0 wwR_0_50 ?_
      refine g_bipush C ⟨by decide, by decide⟩ (by decide) dX14_lineRead_235 ?_
      refine g_aload_n C dX14_lineRead_237 rfl (by decide) rfl ?_
      refine gf_X14_218 C dX14_lineRead_238 kdR_0 (fun z238 => ?_)
      refine g_iadd C dX14_lineRead_241 ?_
      refine g_aload_n C dX14_lineRead_242 rfl (by decide) rfl ?_
      refine gf_X14_196 C dX14_lineRead_243 kdR_0 (fun z243 => ?_)
      obtain ⟨⟨b1, b1b⟩, hw⟩ := hw
      refine g_iastore C dX14_lineRead_246 kdR_14 b1 b1b (fun z => z) ?_
      refine g_heap (fun h1 eh1 => ?_)
      replace hw := hw h1 eh1
      refine g_aload_n C dX14_lineRead_247 rfl (by decide) rfl ?_
      refine g_dup C (by show ¬ (2 : Nat) = 1; decide) dX14_lineRead_248 ?_
      refine gf_X14_218 C dX14_lineRead_249 kdR_0 (fun z249 => ?_)
      refine g_iload_n C dX14_lineRead_252 rfl rfl ?_
      refine g_if_eq C 260 dX14_lineRead_253 rfl hw (fun hw => ?_) (fun hw => ?_)
      · refine g_iconst C ⟨by decide, by decide⟩ dX14_lineRead_260 ?_
        exact g_sub [1, 0] rfl (hQ _ hw)
      · refine g_iconst C ⟨by decide, by decide⟩ dX14_lineRead_256 ?_
        refine g_goto C 261 dX14_lineRead_257 rfl ?_
        exact g_sub [1, 0] rfl (hQ _ hw)
    · show mG (XR z) p l e { frames := 6, cells := 0, slots := 0, locals := 132 } s m args below meth c 3 (mMQ (XR z) (mKz K) below args s) 313 [(0, (2, 0))] [] h
      unfold B_X14_lineRead_313 at hw
      refine g_iconst C ⟨by decide, by decide⟩ dX14_lineRead_313 ?_
      exact g_sub [0] rfl (hQ _ hw)
    · show mG (XR z) p l e { frames := 6, cells := 0, slots := 0, locals := 132 } s m args below meth c 3 (mMQ (XR z) (mKz K) below args s) 314 [(0, (2, 0))] [(0, s0)] h
      unfold B_X14_lineRead_314 at hw
      refine g_istore_n C dX14_lineRead_314 rfl (by decide) ?_
      refine g_aload_n C dX14_lineRead_315 rfl (by decide) rfl ?_
      refine gw_X14_60 C dX14_lineRead_316 kdR_0 wwR_0_52 ?_
      refine g_iconst C ⟨by decide, by decide⟩ dX14_lineRead_319 ?_
      refine g_aload_n C dX14_lineRead_320 rfl (by decide) rfl ?_
      refine gf_X14_221 C dX14_lineRead_321 kdR_0 (fun z321 => ?_)
      refine g_iadd C dX14_lineRead_324 ?_
      refine g_aload_n C dX14_lineRead_325 rfl (by decide) rfl ?_
      refine gf_X14_196 C dX14_lineRead_326 kdR_0 (fun z326 => ?_)
      obtain ⟨⟨b2, b2b⟩, hw⟩ := hw
      refine g_iastore C dX14_lineRead_329 kdR_16 b2 b2b (fun z => z) ?_
      refine g_heap (fun h1 eh1 => ?_)
      replace hw := hw h1 eh1
      refine g_aload_n C dX14_lineRead_330 rfl (by decide) rfl ?_
      refine g_dup C (by show ¬ (2 : Nat) = 1; decide) dX14_lineRead_331 ?_
      refine gf_X14_221 C dX14_lineRead_332 kdR_0 (fun z332 => ?_)
      refine g_iload_n C dX14_lineRead_335 rfl rfl ?_
      refine g_if_eq C 343 dX14_lineRead_336 rfl hw (fun hw => ?_) (fun hw => ?_)
      · refine g_iconst C ⟨by decide, by decide⟩ dX14_lineRead_343 ?_
        exact g_sub [1, 0] rfl (hQ _ hw)
      · refine g_iconst C ⟨by decide, by decide⟩ dX14_lineRead_339 ?_
        refine g_goto C 344 dX14_lineRead_340 rfl ?_
        exact g_sub [1, 0] rfl (hQ _ hw)
    · show mG (XR z) p l e { frames := 6, cells := 0, slots := 0, locals := 132 } s m args below meth c 3 (mMQ (XR z) (mKz K) below args s) 359 [(0, (2, 0))] [] h
      unfold B_X14_lineRead_359 at hw
      refine g_aload_n C dX14_lineRead_359 rfl (by decide) rfl ?_
      refine gf_X14_177 C dX14_lineRead_360 kdR_0 (fun z360 => ?_)
      refine g_bipush C ⟨by decide, by decide⟩ (by decide) dX14_lineRead_363 ?_
      refine g_isub C dX14_lineRead_365 ?_
      refine g_topi (fun x1 ex1 => ?_)
      replace hw := hw x1 ex1
      refine g_istore_n C dX14_lineRead_366 rfl (by decide) ?_
      refine g_aload_n C dX14_lineRead_367 rfl (by decide) rfl ?_
      refine gw_X14_23 C dX14_lineRead_368 kdR_0 wwR_0_40 ?_
      refine g_iload_n C dX14_lineRead_371 rfl rfl ?_
      obtain ⟨⟨b3, b3b⟩, hw⟩ := hw
      refine g_zaload C dX14_lineRead_372 kdR_4 b3 b3b (fun z372 => ?_)
      refine g_if_eq C 382 dX14_lineRead_373 rfl hw (fun hw => ?_) (fun hw => ?_)
      · refine g_aload_n C dX14_lineRead_382 rfl (by decide) rfl ?_
        refine gw_X14_23 C dX14_lineRead_383 kdR_0 wwR_0_40 ?_
        refine g_iload_n C dX14_lineRead_386 rfl rfl ?_
        refine g_iconst C ⟨by decide, by decide⟩ dX14_lineRead_387 ?_
        obtain ⟨⟨b4, b4b⟩, hw⟩ := hw
        refine g_zastore C dX14_lineRead_388 kdR_4 b4 b4b (fun _ => (Or.inr rfl)) ?_
        refine g_heap (fun h1 eh1 => ?_)
        replace hw := hw h1 eh1
        refine g_aload_n C dX14_lineRead_389 rfl (by decide) rfl ?_
        refine g_callVv C [] (sim_X14_token hw) k_1898 k_1900 k_77 k_147 k_1901 hdV_X14_token rfl rfl (by decide) rfl kdR_0 rfl rfl rfl dX14_lineRead_390 ?_
        intro h2 hw
        refine g_aload_n C dX14_lineRead_393 rfl (by decide) rfl ?_
        refine g_iconst C ⟨by decide, by decide⟩ dX14_lineRead_394 ?_
        refine g_iload_n C dX14_lineRead_395 rfl rfl ?_
        refine g_if_ne C 404 dX14_lineRead_396 rfl hw (fun hw => ?_) (fun hw => ?_)
        · refine g_bipush C ⟨by decide, by decide⟩ (by decide) dX14_lineRead_404 ?_
          exact g_sub [2, 0] rfl (hQ _ hw)
        · refine g_bipush C ⟨by decide, by decide⟩ (by decide) dX14_lineRead_399 ?_
          refine g_goto C 406 dX14_lineRead_401 rfl ?_
          exact g_sub [2, 0] rfl (hQ _ hw)
      · refine g_aload_n C dX14_lineRead_376 rfl (by decide) rfl ?_
        refine g_iconst C ⟨by decide, by decide⟩ dX14_lineRead_377 ?_
        refine g_callVz C [(0, 3)] (sim_X14_wrong hw) k_1926 k_1928 k_84 k_147 k_1929 hdV_X14_wrong rfl rfl (by decide) rfl kdR_0 rfl rfl rfl dX14_lineRead_378 ?_
        intro x2 h3 zb378 hw
        exact g_zret C hr zb378 dX14_lineRead_381 ⟨_, rfl, zb378, hw⟩
    · show mG (XR z) p l e { frames := 6, cells := 0, slots := 0, locals := 132 } s m args below meth c 3 (mMQ (XR z) (mKz K) below args s) 261 [(1, (0, v1)), (0, (2, 0))] [(0, s2), (0, s1), (2, 0)] h
      unfold B_X14_lineRead_261 at hw
      refine g_iadd C dX14_lineRead_261 ?_
      refine gp_X14_218 C dX14_lineRead_262 kdR_0 (fun z => z) ?_
      refine g_heap (fun h1 eh1 => ?_)
      replace hw := hw h1 eh1
      refine g_goto C 458 dX14_lineRead_265 rfl ?_
      exact g_sub [1, 0] rfl (hQ _ hw)
    · show mG (XR z) p l e { frames := 6, cells := 0, slots := 0, locals := 132 } s m args below meth c 3 (mMQ (XR z) (mKz K) below args s) 344 [(1, (0, v1)), (0, (2, 0))] [(0, s2), (0, s1), (2, 0)] h
      unfold B_X14_lineRead_344 at hw
      refine g_iadd C dX14_lineRead_344 ?_
      refine gp_X14_221 C dX14_lineRead_345 kdR_0 (fun z => z) ?_
      refine g_heap (fun h1 eh1 => ?_)
      replace hw := hw h1 eh1
      refine g_goto C 458 dX14_lineRead_348 rfl ?_
      exact g_sub [1, 0] rfl (hQ _ hw)
    · show mG (XR z) p l e { frames := 6, cells := 0, slots := 0, locals := 132 } s m args below meth c 3 (mMQ (XR z) (mKz K) below args s) 406 [(2, (0, v2)), (0, (2, 0))] [(0, s2), (0, s1), (2, 0)] h
      unfold B_X14_lineRead_406 at hw
      refine g_callVz C [(0, s1), (0, s2)] (sim_X14_number hw) k_1930 k_1932 k_85 k_147 k_1933 hdV_X14_number rfl rfl (by decide) rfl kdR_0 rfl rfl rfl dX14_lineRead_406 ?_
      intro x1 h1 zb406 hw
      refine g_istore_n C dX14_lineRead_409 rfl (by decide) ?_
      refine g_aload_n C dX14_lineRead_410 rfl (by decide) rfl ?_
      refine gw_X14_20 C dX14_lineRead_411 kdR_0 wwR_0_39 ?_
      refine g_iload_n C dX14_lineRead_414 rfl rfl ?_
      refine g_aload_n C dX14_lineRead_415 rfl (by decide) rfl ?_
      refine gf_X14_196 C dX14_lineRead_416 kdR_0 (fun z416 => ?_)
      obtain ⟨⟨b5, b5b⟩, hw⟩ := hw
      refine g_iastore C dX14_lineRead_419 kdR_3 b5 b5b (fun z => z) ?_
      refine g_heap (fun h2 eh2 => ?_)
      replace hw := hw h2 eh2
      refine g_goto C 458 dX14_lineRead_420 rfl ?_
      exact g_sub [1, 0] rfl (hQ _ hw)
  show mG _ p l e _ s m args below meth c _ _ 0 [(0, (2, 0))] [] h
  unfold wp_X14_lineRead at hw
  refine g_aload_n C dX14_lineRead_0 rfl (by decide) rfl ?_
  refine gf_X14_166 C dX14_lineRead_1 kdR_0 (fun z1 => ?_)
  refine g_iconst C ⟨by decide, by decide⟩ dX14_lineRead_4 ?_
  refine g_icmp_ne C 17 dX14_lineRead_5 rfl hw (fun hw => ?_) (fun hw => ?_)
  · refine g_aload_n C dX14_lineRead_17 rfl (by decide) rfl ?_
    refine g_iconst C ⟨by decide, by decide⟩ dX14_lineRead_18 ?_
    refine g_callVz C [(0, 1)] (sim_X14_wrong hw) k_1926 k_1928 k_84 k_147 k_1929 hdV_X14_wrong rfl rfl (by decide) rfl kdR_0 rfl rfl rfl dX14_lineRead_19 ?_
    intro x1 h1 zb19 hw
    exact g_zret C hr zb19 dX14_lineRead_22 ⟨_, rfl, zb19, hw⟩
  · refine g_aload_n C dX14_lineRead_8 rfl (by decide) rfl ?_
    refine gf_X14_177 C dX14_lineRead_9 kdR_0 (fun z9 => ?_)
    refine g_bipush C ⟨by decide, by decide⟩ (by decide) dX14_lineRead_12 ?_
    refine g_icmp_le C 23 dX14_lineRead_14 rfl hw (fun hw => ?_) (fun hw => ?_)
    · refine g_aload_n C dX14_lineRead_23 rfl (by decide) rfl ?_
      refine gf_X14_177 C dX14_lineRead_24 kdR_0 (fun z24 => ?_)
      by_cases c0 : (h 0 9) = 0
      · rw [if_pos c0] at hw
        refine g_tabIn C 88 0 dX14_lineRead_27 c0 (by decide) (by decide) rfl rfl ?_
        refine g_aload_n C dX14_lineRead_88 rfl (by decide) rfl ?_
        refine gf_X14_245 C dX14_lineRead_89 kdR_0 (fun z89 => ?_)
        refine g_if_eq C 101 dX14_lineRead_92 rfl hw (fun hw => ?_) (fun hw => ?_)
        · refine g_aload_n C dX14_lineRead_101 rfl (by decide) rfl ?_
          refine gf_X14_249 C dX14_lineRead_102 kdR_0 (fun z102 => ?_)
          refine g_if_eq C 114 dX14_lineRead_105 rfl hw (fun hw => ?_) (fun hw => ?_)
          · refine g_aload_n C dX14_lineRead_114 rfl (by decide) rfl ?_
            refine g_iconst C ⟨by decide, by decide⟩ dX14_lineRead_115 ?_
            refine gp_X14_245 C dX14_lineRead_116 kdR_0 (fun _ => (Or.inr rfl)) ?_
            refine g_heap (fun h2 eh2 => ?_)
            replace hw := hw h2 eh2
            refine g_aload_n C dX14_lineRead_119 rfl (by decide) rfl ?_
            refine g_callVv C [] (sim_X14_token hw) k_1898 k_1900 k_77 k_147 k_1901 hdV_X14_token rfl rfl (by decide) rfl kdR_0 rfl rfl rfl dX14_lineRead_120 ?_
            intro h3 hw
            refine g_aload_n C dX14_lineRead_123 rfl (by decide) rfl ?_
            refine g_iconst C ⟨by decide, by decide⟩ dX14_lineRead_124 ?_
            refine g_bipush C ⟨by decide, by decide⟩ (by decide) dX14_lineRead_125 ?_
            refine g_callVz C [(0, 1), (0, 8)] (sim_X14_number hw) k_1930 k_1932 k_85 k_147 k_1933 hdV_X14_number rfl rfl (by decide) rfl kdR_0 rfl rfl rfl dX14_lineRead_127 ?_
            intro x2 h4 zb127 hw
            refine g_if_ne C 135 dX14_lineRead_130 rfl hw (fun hw => ?_) (fun hw => ?_)
            · refine g_aload_n C dX14_lineRead_135 rfl (by decide) rfl ?_
              refine g_aload_n C dX14_lineRead_136 rfl (by decide) rfl ?_
              refine gf_X14_196 C dX14_lineRead_137 kdR_0 (fun z137 => ?_)
              refine gp_X14_209 C dX14_lineRead_140 kdR_0 (fun z => z) ?_
              refine g_heap (fun h5 eh5 => ?_)
              replace hw := hw h5 eh5
              refine g_aload_n C dX14_lineRead_143 rfl (by decide) rfl ?_
              refine g_iconst C ⟨by decide, by decide⟩ dX14_lineRead_144 ?_
              refine g_bipush C ⟨by decide, by decide⟩ (by decide) dX14_lineRead_145 ?_
              refine g_callVz C [(0, 1), (0, 6)] (sim_X14_number hw) k_1930 k_1932 k_85 k_147 k_1933 hdV_X14_number rfl rfl (by decide) rfl kdR_0 rfl rfl rfl dX14_lineRead_147 ?_
              intro x3 h6 zb147 hw
              refine g_istore_n C dX14_lineRead_150 rfl (by decide) ?_
              refine g_aload_n C dX14_lineRead_151 rfl (by decide) rfl ?_
              refine g_aload_n C dX14_lineRead_152 rfl (by decide) rfl ?_
              refine gf_X14_196 C dX14_lineRead_153 kdR_0 (fun z153 => ?_)
              refine gp_X14_212 C dX14_lineRead_156 kdR_0 (fun z => z) ?_
              refine g_heap (fun h7 eh7 => ?_)
              replace hw := hw h7 eh7
              refine g_goto C 458 dX14_lineRead_159 rfl ?_
              exact g_sub [1, 0] rfl (hQ _ hw)
            · refine g_iconst C ⟨by decide, by decide⟩ dX14_lineRead_133 ?_
              exact g_zret C hr (Or.inl rfl) dX14_lineRead_134 ⟨_, rfl, (Or.inl rfl), hw⟩
          · refine g_aload_n C dX14_lineRead_108 rfl (by decide) rfl ?_
            refine g_iconst C ⟨by decide, by decide⟩ dX14_lineRead_109 ?_
            refine g_callVz C [(0, 4)] (sim_X14_wrong hw) k_1926 k_1928 k_84 k_147 k_1929 hdV_X14_wrong rfl rfl (by decide) rfl kdR_0 rfl rfl rfl dX14_lineRead_110 ?_
            intro x4 h8 zb110 hw
            exact g_zret C hr zb110 dX14_lineRead_113 ⟨_, rfl, zb110, hw⟩
        · refine g_aload_n C dX14_lineRead_95 rfl (by decide) rfl ?_
          refine g_iconst C ⟨by decide, by decide⟩ dX14_lineRead_96 ?_
          refine g_callVz C [(0, 3)] (sim_X14_wrong hw) k_1926 k_1928 k_84 k_147 k_1929 hdV_X14_wrong rfl rfl (by decide) rfl kdR_0 rfl rfl rfl dX14_lineRead_97 ?_
          intro x5 h9 zb97 hw
          exact g_zret C hr zb97 dX14_lineRead_100 ⟨_, rfl, zb97, hw⟩
      rw [if_neg c0] at hw
      by_cases c1 : (h 0 9) = 1
      · rw [if_pos c1] at hw
        refine g_tabIn C 162 1 dX14_lineRead_27 c1 (by decide) (by decide) rfl rfl ?_
        exact g_sub [0] rfl (hQ _ hw)
      rw [if_neg c1] at hw
      by_cases c2 : (h 0 9) = 2
      · rw [if_pos c2] at hw
        refine g_tabIn C 162 2 dX14_lineRead_27 c2 (by decide) (by decide) rfl rfl ?_
        exact g_sub [0] rfl (hQ _ hw)
      rw [if_neg c2] at hw
      by_cases c3 : (h 0 9) = 3
      · rw [if_pos c3] at hw
        refine g_tabIn C 162 3 dX14_lineRead_27 c3 (by decide) (by decide) rfl rfl ?_
        exact g_sub [0] rfl (hQ _ hw)
      rw [if_neg c3] at hw
      by_cases c4 : (h 0 9) = 4
      · rw [if_pos c4] at hw
        refine g_tabIn C 174 4 dX14_lineRead_27 c4 (by decide) (by decide) rfl rfl ?_
        refine g_aload_n C dX14_lineRead_174 rfl (by decide) rfl ?_
        refine g_callVz C [] (sim_X14_kindLine hw) k_1949 k_1951 k_89 k_147 k_1952 hdV_X14_kindLine rfl rfl (by decide) rfl kdR_0 rfl rfl rfl dX14_lineRead_175 ?_
        intro x6 h10 zb175 hw
        refine g_istore_n C dX14_lineRead_178 rfl (by decide) ?_
        refine g_goto C 458 dX14_lineRead_179 rfl ?_
        exact g_sub [1, 0] rfl (hQ _ hw)
      rw [if_neg c4] at hw
      by_cases c5 : (h 0 9) = 5
      · rw [if_pos c5] at hw
        refine g_tabIn C 182 5 dX14_lineRead_27 c5 (by decide) (by decide) rfl rfl ?_
        refine g_aload_n C dX14_lineRead_182 rfl (by decide) rfl ?_
        refine gf_X14_218 C dX14_lineRead_183 kdR_0 (fun z183 => ?_)
        refine g_bipush C ⟨by decide, by decide⟩ (by decide) dX14_lineRead_186 ?_
        refine g_icmp_ne C 197 dX14_lineRead_188 rfl hw (fun hw => ?_) (fun hw => ?_)
        · refine g_aload_n C dX14_lineRead_197 rfl (by decide) rfl ?_
          refine g_callVv C [] (sim_X14_token hw) k_1898 k_1900 k_77 k_147 k_1901 hdV_X14_token rfl rfl (by decide) rfl kdR_0 rfl rfl rfl dX14_lineRead_198 ?_
          intro h11 hw
          refine g_aload_n C dX14_lineRead_201 rfl (by decide) rfl ?_
          refine g_aload_n C dX14_lineRead_202 rfl (by decide) rfl ?_
          refine gw_X14_51 C dX14_lineRead_203 kdR_0 wwR_0_49 ?_
          refine g_bipush C ⟨by decide, by decide⟩ (by decide) dX14_lineRead_206 ?_
          refine g_aload_n C dX14_lineRead_208 rfl (by decide) rfl ?_
          refine gf_X14_218 C dX14_lineRead_209 kdR_0 (fun z209 => ?_)
          refine g_callVz C [(2, 13), (0, 6), (0, (h11 0 28))] (sim_X14_newName hw) k_1953 k_1955 k_90 k_147 k_1956 hdV_X14_newName rfl rfl (by decide) rfl kdR_0 rfl rfl rfl dX14_lineRead_212 ?_
          intro x7 h12 zb212 hw
          refine g_if_eq C 229 dX14_lineRead_215 rfl hw (fun hw => ?_) (fun hw => ?_)
          · exact g_sub [0] rfl (hQ _ hw)
          · refine g_aload_n C dX14_lineRead_218 rfl (by decide) rfl ?_
            refine g_callVz C [] (sim_X14_waterRead hw) k_1972 k_1974 k_94 k_147 k_1975 hdV_X14_waterRead rfl rfl (by decide) rfl kdR_0 rfl rfl rfl dX14_lineRead_219 ?_
            intro x8 h13 zb219 hw
            refine g_if_eq C 229 dX14_lineRead_222 rfl hw (fun hw => ?_) (fun hw => ?_)
            · exact g_sub [0] rfl (hQ _ hw)
            · refine g_iconst C ⟨by decide, by decide⟩ dX14_lineRead_225 ?_
              refine g_goto C 230 dX14_lineRead_226 rfl ?_
              exact g_sub [0] rfl (hQ _ hw)
        · refine g_aload_n C dX14_lineRead_191 rfl (by decide) rfl ?_
          refine g_iconst C ⟨by decide, by decide⟩ dX14_lineRead_192 ?_
          refine g_callVz C [(0, 2)] (sim_X14_wrong hw) k_1926 k_1928 k_84 k_147 k_1929 hdV_X14_wrong rfl rfl (by decide) rfl kdR_0 rfl rfl rfl dX14_lineRead_193 ?_
          intro x9 h14 zb193 hw
          exact g_zret C hr zb193 dX14_lineRead_196 ⟨_, rfl, zb193, hw⟩
      rw [if_neg c5] at hw
      by_cases c6 : (h 0 9) = 6
      · rw [if_pos c6] at hw
        refine g_tabIn C 268 6 dX14_lineRead_27 c6 (by decide) (by decide) rfl rfl ?_
        refine g_aload_n C dX14_lineRead_268 rfl (by decide) rfl ?_
        refine gf_X14_221 C dX14_lineRead_269 kdR_0 (fun z269 => ?_)
        refine g_iconst C ⟨by decide, by decide⟩ dX14_lineRead_272 ?_
        refine g_icmp_ne C 282 dX14_lineRead_273 rfl hw (fun hw => ?_) (fun hw => ?_)
        · refine g_aload_n C dX14_lineRead_282 rfl (by decide) rfl ?_
          refine g_callVv C [] (sim_X14_token hw) k_1898 k_1900 k_77 k_147 k_1901 hdV_X14_token rfl rfl (by decide) rfl kdR_0 rfl rfl rfl dX14_lineRead_283 ?_
          intro h15 hw
          refine g_aload_n C dX14_lineRead_286 rfl (by decide) rfl ?_
          refine g_aload_n C dX14_lineRead_287 rfl (by decide) rfl ?_
          refine gw_X14_57 C dX14_lineRead_288 kdR_0 wwR_0_51 ?_
          refine g_iconst C ⟨by decide, by decide⟩ dX14_lineRead_291 ?_
          refine g_aload_n C dX14_lineRead_292 rfl (by decide) rfl ?_
          refine gf_X14_221 C dX14_lineRead_293 kdR_0 (fun z293 => ?_)
          refine g_callVz C [(2, 15), (0, 3), (0, (h15 0 29))] (sim_X14_newName hw) k_1953 k_1955 k_90 k_147 k_1956 hdV_X14_newName rfl rfl (by decide) rfl kdR_0 rfl rfl rfl dX14_lineRead_296 ?_
          intro x10 h16 zb296 hw
          refine g_if_eq C 313 dX14_lineRead_299 rfl hw (fun hw => ?_) (fun hw => ?_)
          · exact g_sub [0] rfl (hQ _ hw)
          · refine g_aload_n C dX14_lineRead_302 rfl (by decide) rfl ?_
            refine g_callVz C [] (sim_X14_waterRead hw) k_1972 k_1974 k_94 k_147 k_1975 hdV_X14_waterRead rfl rfl (by decide) rfl kdR_0 rfl rfl rfl dX14_lineRead_303 ?_
            intro x11 h17 zb303 hw
            refine g_if_eq C 313 dX14_lineRead_306 rfl hw (fun hw => ?_) (fun hw => ?_)
            · exact g_sub [0] rfl (hQ _ hw)
            · refine g_iconst C ⟨by decide, by decide⟩ dX14_lineRead_309 ?_
              refine g_goto C 314 dX14_lineRead_310 rfl ?_
              exact g_sub [0] rfl (hQ _ hw)
        · refine g_aload_n C dX14_lineRead_276 rfl (by decide) rfl ?_
          refine g_iconst C ⟨by decide, by decide⟩ dX14_lineRead_277 ?_
          refine g_callVz C [(0, 2)] (sim_X14_wrong hw) k_1926 k_1928 k_84 k_147 k_1929 hdV_X14_wrong rfl rfl (by decide) rfl kdR_0 rfl rfl rfl dX14_lineRead_278 ?_
          intro x12 h18 zb278 hw
          exact g_zret C hr zb278 dX14_lineRead_281 ⟨_, rfl, zb278, hw⟩
      rw [if_neg c6] at hw
      by_cases c7 : (h 0 9) = 7
      · rw [if_pos c7] at hw
        refine g_tabIn C 351 7 dX14_lineRead_27 c7 (by decide) (by decide) rfl rfl ?_
        refine g_aload_n C dX14_lineRead_351 rfl (by decide) rfl ?_
        refine g_callVz C [] (sim_X14_dropLine hw) k_1976 k_1978 k_95 k_147 k_1979 hdV_X14_dropLine rfl rfl (by decide) rfl kdR_0 rfl rfl rfl dX14_lineRead_352 ?_
        intro x13 h19 zb352 hw
        refine g_istore_n C dX14_lineRead_355 rfl (by decide) ?_
        refine g_goto C 458 dX14_lineRead_356 rfl ?_
        exact g_sub [1, 0] rfl (hQ _ hw)
      rw [if_neg c7] at hw
      by_cases c8 : (h 0 9) = 8
      · rw [if_pos c8] at hw
        refine g_tabIn C 359 8 dX14_lineRead_27 c8 (by decide) (by decide) rfl rfl ?_
        exact g_sub [0] rfl (hQ _ hw)
      rw [if_neg c8] at hw
      by_cases c9 : (h 0 9) = 9
      · rw [if_pos c9] at hw
        refine g_tabIn C 359 9 dX14_lineRead_27 c9 (by decide) (by decide) rfl rfl ?_
        exact g_sub [0] rfl (hQ _ hw)
      rw [if_neg c9] at hw
      by_cases c10 : (h 0 9) = 10
      · rw [if_pos c10] at hw
        refine g_tabIn C 359 10 dX14_lineRead_27 c10 (by decide) (by decide) rfl rfl ?_
        exact g_sub [0] rfl (hQ _ hw)
      rw [if_neg c10] at hw
      by_cases c11 : (h 0 9) = 11
      · rw [if_pos c11] at hw
        refine g_tabIn C 423 11 dX14_lineRead_27 c11 (by decide) (by decide) rfl rfl ?_
        refine g_aload_n C dX14_lineRead_423 rfl (by decide) rfl ?_
        refine gf_X14_252 C dX14_lineRead_424 kdR_0 (fun z424 => ?_)
        refine g_if_eq C 436 dX14_lineRead_427 rfl hw (fun hw => ?_) (fun hw => ?_)
        · refine g_aload_n C dX14_lineRead_436 rfl (by decide) rfl ?_
          refine g_iconst C ⟨by decide, by decide⟩ dX14_lineRead_437 ?_
          refine gp_X14_252 C dX14_lineRead_438 kdR_0 (fun _ => (Or.inr rfl)) ?_
          refine g_heap (fun h20 eh20 => ?_)
          replace hw := hw h20 eh20
          refine g_aload_n C dX14_lineRead_441 rfl (by decide) rfl ?_
          refine g_callVv C [] (sim_X14_token hw) k_1898 k_1900 k_77 k_147 k_1901 hdV_X14_token rfl rfl (by decide) rfl kdR_0 rfl rfl rfl dX14_lineRead_442 ?_
          intro h21 hw
          refine g_aload_n C dX14_lineRead_445 rfl (by decide) rfl ?_
          refine g_callVz C [] (sim_X14_sumRead hw) k_1980 k_1982 k_96 k_147 k_1983 hdV_X14_sumRead rfl rfl (by decide) rfl kdR_0 rfl rfl rfl dX14_lineRead_446 ?_
          intro x14 h22 zb446 hw
          refine g_istore_n C dX14_lineRead_449 rfl (by decide) ?_
          refine g_goto C 458 dX14_lineRead_450 rfl ?_
          exact g_sub [1, 0] rfl (hQ _ hw)
        · refine g_aload_n C dX14_lineRead_430 rfl (by decide) rfl ?_
          refine g_iconst C ⟨by decide, by decide⟩ dX14_lineRead_431 ?_
          refine g_callVz C [(0, 3)] (sim_X14_wrong hw) k_1926 k_1928 k_84 k_147 k_1929 hdV_X14_wrong rfl rfl (by decide) rfl kdR_0 rfl rfl rfl dX14_lineRead_432 ?_
          intro x15 h23 zb432 hw
          exact g_zret C hr zb432 dX14_lineRead_435 ⟨_, rfl, zb432, hw⟩
      rw [if_neg c11] at hw
      refine g_tabOut C 453 dX14_lineRead_27 (by omega) rfl ?_
      refine g_aload_n C dX14_lineRead_453 rfl (by decide) rfl ?_
      refine g_callVz C [] (sim_X14_mayLine hw) k_2019 k_2021 k_105 k_147 k_2022 hdV_X14_mayLine rfl rfl (by decide) rfl kdR_0 rfl rfl rfl dX14_lineRead_454 ?_
      intro x16 h24 zb454 hw
      refine g_istore_n C dX14_lineRead_457 rfl (by decide) ?_
      exact g_sub [1, 0] rfl (hQ _ hw)
    · refine g_aload_n C dX14_lineRead_17 rfl (by decide) rfl ?_
      refine g_iconst C ⟨by decide, by decide⟩ dX14_lineRead_18 ?_
      refine g_callVz C [(0, 1)] (sim_X14_wrong hw) k_1926 k_1928 k_84 k_147 k_1929 hdV_X14_wrong rfl rfl (by decide) rfl kdR_0 rfl rfl rfl dX14_lineRead_19 ?_
      intro x17 h25 zb19 hw
      exact g_zret C hr zb19 dX14_lineRead_22 ⟨_, rfl, zb19, hw⟩
set_option maxRecDepth 20000 in
set_option maxHeartbeats 4000000 in
theorem sim_X14_look {z : Mz} {l : Launch} {p1 : Int} {p2 : Int} {h : Mh} {K : Int → Mh → Prop} (hw : wp_X14_look p1 p2 h K) : mCal (XR z) l yX14_look cX14_look 3 (some Jvm.ClassFile.FieldType.int) 1 21 [(2, 0), (0, p1), (0, p2)] h (mKi K) := by
  refine m_entry RX14 rfl (by decide) rfl (fun p e s m args below meth c C hr => ?_)
  show mG _ p l e _ s m args below meth c _ _ 0 [(0, (2, 0)), (1, (0, p1)), (2, (0, p2))] [] h
  unfold wp_X14_look at hw
  refine g_aload_n C dX14_look_0 rfl (by decide) rfl ?_
  refine g_iconst C ⟨by decide, by decide⟩ dX14_look_1 ?_
  refine gp_X14_148 C dX14_look_2 kdR_0 (fun z => z) ?_
  refine g_heap (fun h1 eh1 => ?_)
  replace hw := hw h1 eh1
  refine g_aload_n C dX14_look_5 rfl (by decide) rfl ?_
  refine g_iload_n C dX14_look_6 rfl rfl ?_
  refine g_callVz C [(0, p1)] (sim_X14_isKind hw) k_2043 k_2045 k_106 k_147 k_2046 hdV_X14_isKind rfl rfl (by decide) rfl kdR_0 rfl rfl rfl dX14_look_7 ?_
  intro x1 h2 zb7 hw
  refine g_if_ne C 19 dX14_look_10 rfl hw (fun hw => ?_) (fun hw => ?_)
  · refine g_iload_n C dX14_look_19 rfl rfl ?_
    refine g_if_ne C 32 dX14_look_20 rfl hw (fun hw => ?_) (fun hw => ?_)
    · refine g_iload_n C dX14_look_32 rfl rfl ?_
      refine g_iconst C ⟨by decide, by decide⟩ dX14_look_33 ?_
      refine g_icmp_ne C 46 dX14_look_34 rfl hw (fun hw => ?_) (fun hw => ?_)
      · refine g_aload_n C dX14_look_46 rfl (by decide) rfl ?_
        refine g_iconst C ⟨by decide, by decide⟩ dX14_look_47 ?_
        refine g_callVi C [(0, 2)] (sim_X14_fails hw) k_2047 k_2049 k_107 k_147 k_2050 hdV_X14_fails rfl rfl (by decide) rfl kdR_0 rfl rfl rfl dX14_look_48 ?_
        intro x2 h3 hw
        exact g_iret C hr dX14_look_51 ⟨_, rfl, hw⟩
      · refine g_aload_n C dX14_look_37 rfl (by decide) rfl ?_
        refine gw_X14_45 C dX14_look_38 kdR_0 wwR_0_47 ?_
        refine g_iload_n C dX14_look_41 rfl rfl ?_
        obtain ⟨⟨b1, b1b⟩, hw⟩ := hw
        refine g_iaload C dX14_look_42 kdR_11 b1 b1b (fun z42 => ?_)
        refine g_goto C 51 dX14_look_43 rfl ?_
        exact g_iret C hr dX14_look_51 ⟨_, rfl, hw⟩
    · refine g_aload_n C dX14_look_23 rfl (by decide) rfl ?_
      refine gw_X14_42 C dX14_look_24 kdR_0 wwR_0_46 ?_
      refine g_iload_n C dX14_look_27 rfl rfl ?_
      obtain ⟨⟨b2, b2b⟩, hw⟩ := hw
      refine g_iaload C dX14_look_28 kdR_10 b2 b2b (fun z28 => ?_)
      refine g_goto C 51 dX14_look_29 rfl ?_
      exact g_iret C hr dX14_look_51 ⟨_, rfl, hw⟩
  · refine g_aload_n C dX14_look_13 rfl (by decide) rfl ?_
    refine g_iconst C ⟨by decide, by decide⟩ dX14_look_14 ?_
    refine g_callVi C [(0, 1)] (sim_X14_fails hw) k_2047 k_2049 k_107 k_147 k_2050 hdV_X14_fails rfl rfl (by decide) rfl kdR_0 rfl rfl rfl dX14_look_15 ?_
    intro x3 h4 hw
    exact g_iret C hr dX14_look_18 ⟨_, rfl, hw⟩
set_option maxRecDepth 20000 in
set_option maxHeartbeats 4000000 in
theorem sim_X14_looks {z : Mz} {l : Launch} {p1 : Int} {p2 : Int} {p3 : Int} {p4 : Int} {h : Mh} {K : Int → Mh → Prop} (hw : wp_X14_looks p1 p2 p3 p4 h K) : mCal (XR z) l yX14_looks cX14_looks 11 (some Jvm.ClassFile.FieldType.int) 3 75 [(2, 0), (0, p1), (0, p2), (0, p3), (0, p4)] h (mKi K) := by
  refine m_entry RX14 rfl (by decide) rfl (fun p e s m args below meth c C hr => ?_)
  have hQ : ∀ x, Lfp (F_X14_looks p1 p2 p3 p4 K) x → (match x.1, x.2.1 with | 69, [v5, v6, v7] => mG (XR z) p l e { frames := 3, cells := 0, slots := 0, locals := 75 } s m args below meth c 11 (mMQ (XR z) (mKi K) below args s) 69 [(5, (0, v5)), (6, (0, v6)), (7, (0, v7)), (0, (2, 0)), (1, (0, p1)), (2, (0, p2)), (3, (0, p3)), (4, (0, p4))] [] x.2.2 | 118, [v5, v6, v7, v8, v9] => mG (XR z) p l e { frames := 3, cells := 0, slots := 0, locals := 75 } s m args below meth c 11 (mMQ (XR z) (mKi K) below args s) 118 [(5, (0, v5)), (6, (0, v6)), (7, (0, v7)), (8, (0, v8)), (9, (0, v9)), (0, (2, 0)), (1, (0, p1)), (2, (0, p2)), (3, (0, p3)), (4, (0, p4))] [] x.2.2 | _, _ => True) := by
    intro x hx
    refine Lfp.ind (fun x => (match x.1, x.2.1 with | 69, [v5, v6, v7] => mG (XR z) p l e { frames := 3, cells := 0, slots := 0, locals := 75 } s m args below meth c 11 (mMQ (XR z) (mKi K) below args s) 69 [(5, (0, v5)), (6, (0, v6)), (7, (0, v7)), (0, (2, 0)), (1, (0, p1)), (2, (0, p2)), (3, (0, p3)), (4, (0, p4))] [] x.2.2 | 118, [v5, v6, v7, v8, v9] => mG (XR z) p l e { frames := 3, cells := 0, slots := 0, locals := 75 } s m args below meth c 11 (mMQ (XR z) (mKi K) below args s) 118 [(5, (0, v5)), (6, (0, v6)), (7, (0, v7)), (8, (0, v8)), (9, (0, v9)), (0, (2, 0)), (1, (0, p1)), (2, (0, p2)), (3, (0, p3)), (4, (0, p4))] [] x.2.2 | _, _ => True)) ?_ hx
    clear hx x
    intro Z x hQ hw
    rcases hw with ⟨v5, v6, v7, h, rfl, hw⟩ | ⟨v5, v6, v7, v8, v9, h, rfl, hw⟩
    · show mG (XR z) p l e { frames := 3, cells := 0, slots := 0, locals := 75 } s m args below meth c 11 (mMQ (XR z) (mKi K) below args s) 69 [(5, (0, v5)), (6, (0, v6)), (7, (0, v7)), (0, (2, 0)), (1, (0, p1)), (2, (0, p2)), (3, (0, p3)), (4, (0, p4))] [] h
      unfold B_X14_looks_69 at hw
      refine g_iload C dX14_looks_69 rfl ?_
      refine g_aload_n C dX14_looks_71 rfl (by decide) rfl ?_
      refine g_callVi C [] (sim_X14_cells hw) k_1569 k_1571 k_73 k_147 k_1572 hdV_X14_cells rfl rfl (by decide) rfl kdR_0 rfl rfl rfl dX14_looks_72 ?_
      intro x1 h1 hw
      refine g_icmp_ge C 204 dX14_looks_75 rfl hw (fun hw => ?_) (fun hw => ?_)
      · refine g_iload C dX14_looks_204 rfl ?_
        refine g_if_ne C 214 dX14_looks_206 rfl hw (fun hw => ?_) (fun hw => ?_)
        · refine g_iload C dX14_looks_214 rfl ?_
          exact g_iret C hr dX14_looks_216 ⟨_, rfl, hw⟩
        · refine g_iload C dX14_looks_209 rfl ?_
          refine g_goto C 216 dX14_looks_211 rfl ?_
          exact g_iret C hr dX14_looks_216 ⟨_, rfl, hw⟩
      · refine g_aload_n C dX14_looks_78 rfl (by decide) rfl ?_
        refine gw_X14_27 C dX14_looks_79 kdR_0 wwR_0_41 ?_
        refine g_iload C dX14_looks_82 rfl ?_
        obtain ⟨⟨b1, b1b⟩, hw⟩ := hw
        refine g_iaload C dX14_looks_84 kdR_5 b1 b1b (fun z84 => ?_)
        refine g_iconst C ⟨by decide, by decide⟩ dX14_looks_85 ?_
        refine g_icmp_ne C 92 dX14_looks_86 rfl hw (fun hw => ?_) (fun hw => ?_)
        · refine g_aload_n C dX14_looks_92 rfl (by decide) rfl ?_
          refine gw_X14_130 C dX14_looks_93 kdR_0 wwR_0_92 ?_
          refine g_iconst C ⟨by decide, by decide⟩ dX14_looks_96 ?_
          refine g_iload_n C dX14_looks_97 rfl rfl ?_
          refine g_iastore C dX14_looks_98 kdR_37 (by decide) (show (1 : Int) < ((24 : Nat) : Int) from by decide) (fun z => z) ?_
          refine g_heap (fun h2 eh2 => ?_)
          replace hw := hw h2 eh2
          refine g_aload_n C dX14_looks_99 rfl (by decide) rfl ?_
          refine gw_X14_133 C dX14_looks_100 kdR_0 wwR_0_93 ?_
          refine g_iconst C ⟨by decide, by decide⟩ dX14_looks_103 ?_
          refine g_iload C dX14_looks_104 rfl ?_
          refine g_iastore C dX14_looks_106 kdR_38 (by decide) (show (1 : Int) < ((24 : Nat) : Int) from by decide) (fun z => z) ?_
          refine g_heap (fun h3 eh3 => ?_)
          replace hw := hw h3 eh3
          refine g_aload_n C dX14_looks_107 rfl (by decide) rfl ?_
          refine g_iconst C ⟨by decide, by decide⟩ dX14_looks_108 ?_
          refine g_callVv C [(0, 1)] (sim_X14_layShown hw) k_2232 k_2234 k_128 k_147 k_2235 hdV_X14_layShown rfl rfl (by decide) rfl kdR_0 rfl rfl rfl dX14_looks_109 ?_
          intro h4 hw
          refine g_iconst C ⟨by decide, by decide⟩ dX14_looks_112 ?_
          refine g_istore C dX14_looks_113 (by decide) ?_
          refine g_iconst C ⟨by decide, by decide⟩ dX14_looks_115 ?_
          refine g_istore C dX14_looks_116 (by decide) ?_
          exact g_sub [5, 6, 7, 8, 9, 0, 1, 2, 3, 4] rfl (hQ _ hw)
        · refine g_goto C 198 dX14_looks_89 rfl ?_
          refine g_iincN C dX14_looks_198 rfl (by decide) (fun x2 ex2 => ?_)
          replace hw := hw x2 ex2
          refine g_goto C 69 dX14_looks_201 rfl ?_
          exact g_sub [5, 6, 7, 0, 1, 2, 3, 4] rfl (hQ _ hw)
    · show mG (XR z) p l e { frames := 3, cells := 0, slots := 0, locals := 75 } s m args below meth c 11 (mMQ (XR z) (mKi K) below args s) 118 [(5, (0, v5)), (6, (0, v6)), (7, (0, v7)), (8, (0, v8)), (9, (0, v9)), (0, (2, 0)), (1, (0, p1)), (2, (0, p2)), (3, (0, p3)), (4, (0, p4))] [] h
      unfold B_X14_looks_118 at hw
      refine g_iload C dX14_looks_118 rfl ?_
      refine g_bipush C ⟨by decide, by decide⟩ (by decide) dX14_looks_120 ?_
      refine g_aload_n C dX14_looks_122 rfl (by decide) rfl ?_
      refine gf_X14_264 C dX14_looks_123 kdR_0 (fun z123 => ?_)
      refine g_imul C dX14_looks_126 ?_
      refine g_icmp_ge C 175 dX14_looks_127 rfl hw (fun hw => ?_) (fun hw => ?_)
      · refine g_iload C dX14_looks_175 rfl ?_
        refine g_if_lt C 190 dX14_looks_177 rfl hw (fun hw => ?_) (fun hw => ?_)
        · refine g_iload C dX14_looks_190 rfl ?_
          refine g_istore C dX14_looks_192 (by decide) ?_
          refine g_iload C dX14_looks_194 rfl ?_
          refine g_istore C dX14_looks_196 (by decide) ?_
          refine g_iincN C dX14_looks_198 rfl (by decide) (fun x1 ex1 => ?_)
          replace hw := hw x1 ex1
          refine g_goto C 69 dX14_looks_201 rfl ?_
          exact g_sub [5, 6, 7, 0, 1, 2, 3, 4] rfl (hQ _ hw)
        · refine g_iload C dX14_looks_180 rfl ?_
          refine g_iload C dX14_looks_182 rfl ?_
          refine g_icmp_lt C 190 dX14_looks_184 rfl hw (fun hw => ?_) (fun hw => ?_)
          · refine g_iload C dX14_looks_190 rfl ?_
            refine g_istore C dX14_looks_192 (by decide) ?_
            refine g_iload C dX14_looks_194 rfl ?_
            refine g_istore C dX14_looks_196 (by decide) ?_
            refine g_iincN C dX14_looks_198 rfl (by decide) (fun x2 ex2 => ?_)
            replace hw := hw x2 ex2
            refine g_goto C 69 dX14_looks_201 rfl ?_
            exact g_sub [5, 6, 7, 0, 1, 2, 3, 4] rfl (hQ _ hw)
          · refine g_goto C 198 dX14_looks_187 rfl ?_
            refine g_iincN C dX14_looks_198 rfl (by decide) (fun x3 ex3 => ?_)
            replace hw := hw x3 ex3
            refine g_goto C 69 dX14_looks_201 rfl ?_
            exact g_sub [5, 6, 7, 0, 1, 2, 3, 4] rfl (hQ _ hw)
      · refine g_aload_n C dX14_looks_130 rfl (by decide) rfl ?_
        refine gw_X14_127 C dX14_looks_131 kdR_0 wwR_0_91 ?_
        refine g_iload C dX14_looks_134 rfl ?_
        obtain ⟨⟨b2, b2b⟩, hw⟩ := hw
        refine g_iaload C dX14_looks_136 kdR_36 b2 b2b (fun z136 => ?_)
        refine g_aload_n C dX14_looks_137 rfl (by decide) rfl ?_
        refine gw_X14_127 C dX14_looks_138 kdR_0 wwR_0_91 ?_
        refine g_sipush C ⟨by decide, by decide⟩ (by decide) dX14_looks_141 ?_
        refine g_iload C dX14_looks_144 rfl ?_
        refine g_iadd C dX14_looks_146 ?_
        obtain ⟨⟨b3, b3b⟩, hw⟩ := hw
        refine g_iaload C dX14_looks_147 kdR_36 b3 b3b (fun z147 => ?_)
        refine g_isub C dX14_looks_148 ?_
        refine g_topi (fun x4 ex4 => ?_)
        replace hw := hw x4 ex4
        refine g_istore C dX14_looks_149 (by decide) ?_
        refine g_iload C dX14_looks_151 rfl ?_
        refine g_iload C dX14_looks_153 rfl ?_
        refine g_if_ge C 164 dX14_looks_155 rfl hw (fun hw => ?_) (fun hw => ?_)
        · refine g_iload C dX14_looks_164 rfl ?_
          refine g_iadd C dX14_looks_166 ?_
          refine g_topi (fun x5 ex5 => ?_)
          replace hw := hw x5 ex5
          refine g_istore C dX14_looks_167 (by decide) ?_
          refine g_iincN C dX14_looks_169 rfl (by decide) (fun x6 ex6 => ?_)
          replace hw := hw x6 ex6
          refine g_goto C 118 dX14_looks_172 rfl ?_
          exact g_sub [5, 6, 7, 8, 9, 0, 1, 2, 3, 4] rfl (hQ _ hw)
        · refine g_iload C dX14_looks_158 rfl ?_
          refine g_ineg C dX14_looks_160 ?_
          refine g_goto C 166 dX14_looks_161 rfl ?_
          refine g_iadd C dX14_looks_166 ?_
          refine g_topi (fun x7 ex7 => ?_)
          replace hw := hw x7 ex7
          refine g_istore C dX14_looks_167 (by decide) ?_
          refine g_iincN C dX14_looks_169 rfl (by decide) (fun x8 ex8 => ?_)
          replace hw := hw x8 ex8
          refine g_goto C 118 dX14_looks_172 rfl ?_
          exact g_sub [5, 6, 7, 8, 9, 0, 1, 2, 3, 4] rfl (hQ _ hw)
  show mG _ p l e _ s m args below meth c _ _ 0 [(0, (2, 0)), (1, (0, p1)), (2, (0, p2)), (3, (0, p3)), (4, (0, p4))] [] h
  unfold wp_X14_looks at hw
  refine g_aload_n C dX14_looks_0 rfl (by decide) rfl ?_
  refine g_iconst C ⟨by decide, by decide⟩ dX14_looks_1 ?_
  refine gp_X14_148 C dX14_looks_2 kdR_0 (fun z => z) ?_
  refine g_heap (fun h1 eh1 => ?_)
  replace hw := hw h1 eh1
  refine g_aload_n C dX14_looks_5 rfl (by decide) rfl ?_
  refine g_iload_n C dX14_looks_6 rfl rfl ?_
  refine g_callVz C [(0, p1)] (sim_X14_isKind hw) k_2043 k_2045 k_106 k_147 k_2046 hdV_X14_isKind rfl rfl (by decide) rfl kdR_0 rfl rfl rfl dX14_looks_7 ?_
  intro x1 h2 zb7 hw
  refine g_if_eq C 39 dX14_looks_10 rfl hw (fun hw => ?_) (fun hw => ?_)
  · refine g_iconst C ⟨by decide, by decide⟩ dX14_looks_39 ?_
    exact g_iret C hr dX14_looks_40 ⟨_, rfl, hw⟩
  · refine g_aload_n C dX14_looks_13 rfl (by decide) rfl ?_
    refine g_iload_n C dX14_looks_14 rfl rfl ?_
    refine g_callVz C [(0, p2)] (sim_X14_isKind hw) k_2043 k_2045 k_106 k_147 k_2046 hdV_X14_isKind rfl rfl (by decide) rfl kdR_0 rfl rfl rfl dX14_looks_15 ?_
    intro x2 h3 zb15 hw
    refine g_if_eq C 39 dX14_looks_18 rfl hw (fun hw => ?_) (fun hw => ?_)
    · refine g_iconst C ⟨by decide, by decide⟩ dX14_looks_39 ?_
      exact g_iret C hr dX14_looks_40 ⟨_, rfl, hw⟩
    · refine g_aload_n C dX14_looks_21 rfl (by decide) rfl ?_
      refine g_iload_n C dX14_looks_22 rfl rfl ?_
      refine g_callVz C [(0, p3)] (sim_X14_isWater hw) k_1561 k_1563 k_71 k_147 k_1564 hdV_X14_isWater rfl rfl (by decide) rfl kdR_0 rfl rfl rfl dX14_looks_23 ?_
      intro x3 h4 zb23 hw
      refine g_if_eq C 39 dX14_looks_26 rfl hw (fun hw => ?_) (fun hw => ?_)
      · refine g_iconst C ⟨by decide, by decide⟩ dX14_looks_39 ?_
        exact g_iret C hr dX14_looks_40 ⟨_, rfl, hw⟩
      · refine g_iload C dX14_looks_29 rfl ?_
        refine g_iconst C ⟨by decide, by decide⟩ dX14_looks_31 ?_
        refine g_iconst C ⟨by decide, by decide⟩ dX14_looks_32 ?_
        refine g_callSz C [(0, p4), (0, 0), (0, 1)] (sim_X14_isIn hw) k_1934 k_1935 k_147 k_1936 hdS_X14_isIn rfl rfl rfl rfl rfl dX14_looks_33 ?_
        intro x4 h5 zb33 hw
        refine g_if_ne C 41 dX14_looks_36 rfl hw (fun hw => ?_) (fun hw => ?_)
        · refine g_aload_n C dX14_looks_41 rfl (by decide) rfl ?_
          refine gw_X14_130 C dX14_looks_42 kdR_0 wwR_0_92 ?_
          refine g_iconst C ⟨by decide, by decide⟩ dX14_looks_45 ?_
          refine g_iload_n C dX14_looks_46 rfl rfl ?_
          refine g_iastore C dX14_looks_47 kdR_37 (by decide) (show (0 : Int) < ((24 : Nat) : Int) from by decide) (fun z => z) ?_
          refine g_heap (fun h6 eh6 => ?_)
          replace hw := hw h6 eh6
          refine g_aload_n C dX14_looks_48 rfl (by decide) rfl ?_
          refine gw_X14_133 C dX14_looks_49 kdR_0 wwR_0_93 ?_
          refine g_iconst C ⟨by decide, by decide⟩ dX14_looks_52 ?_
          refine g_iload_n C dX14_looks_53 rfl rfl ?_
          refine g_iastore C dX14_looks_54 kdR_38 (by decide) (show (0 : Int) < ((24 : Nat) : Int) from by decide) (fun z => z) ?_
          refine g_heap (fun h7 eh7 => ?_)
          replace hw := hw h7 eh7
          refine g_aload_n C dX14_looks_55 rfl (by decide) rfl ?_
          refine g_iconst C ⟨by decide, by decide⟩ dX14_looks_56 ?_
          refine g_callVv C [(0, 0)] (sim_X14_layShown hw) k_2232 k_2234 k_128 k_147 k_2235 hdV_X14_layShown rfl rfl (by decide) rfl kdR_0 rfl rfl rfl dX14_looks_57 ?_
          intro h8 hw
          refine g_iconst C ⟨by decide, by decide⟩ dX14_looks_60 ?_
          refine g_istore C dX14_looks_61 (by decide) ?_
          refine g_iconst C ⟨by decide, by decide⟩ dX14_looks_63 ?_
          refine g_istore C dX14_looks_64 (by decide) ?_
          refine g_iconst C ⟨by decide, by decide⟩ dX14_looks_66 ?_
          refine g_istore C dX14_looks_67 (by decide) ?_
          exact g_sub [5, 6, 7, 0, 1, 2, 3, 4] rfl (hQ _ hw)
        · refine g_iconst C ⟨by decide, by decide⟩ dX14_looks_39 ?_
          exact g_iret C hr dX14_looks_40 ⟨_, rfl, hw⟩
