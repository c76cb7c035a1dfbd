set_option maxRecDepth 20000 in
set_option maxHeartbeats 4000000 in
theorem sim_X14_wrong {z : Mz} {l : Launch} {p1 : Int} {h : Mh} {K : Int → Mh → Prop} (hw : wp_X14_wrong p1 h K) : mCal (XR z) l yX14_wrong cX14_wrong 2 (some Jvm.ClassFile.FieldType.boolean) 0 0 [(2, 0), (0, p1)] h (mKz K) := by
  refine m_entry RX14 rfl (by decide) rfl (fun p e s m args below meth c C hr => ?_)
  show mG _ p l e _ s m args below meth c _ _ 0 [(0, (2, 0)), (1, (0, p1))] [] h
  unfold wp_X14_wrong at hw
  refine g_aload_n C dX14_wrong_0 rfl (by decide) rfl ?_
  refine g_iload_n C dX14_wrong_1 rfl rfl ?_
  refine gp_X14_154 C dX14_wrong_2 kdR_0 (fun z => z) ?_
  refine g_heap (fun h1 eh1 => ?_)
  replace hw := hw h1 eh1
  refine g_aload_n C dX14_wrong_5 rfl (by decide) rfl ?_
  refine g_aload_n C dX14_wrong_6 rfl (by decide) rfl ?_
  refine gf_X14_157 C dX14_wrong_7 kdR_0 (fun z7 => ?_)
  refine gp_X14_16 C dX14_wrong_10 kdR_0 (fun z => z) ?_
  refine g_heap (fun h2 eh2 => ?_)
  replace hw := hw h2 eh2
  refine g_iconst C ⟨by decide, by decide⟩ dX14_wrong_13 ?_
  exact g_zret C hr (Or.inl rfl) dX14_wrong_14 ⟨_, rfl, (Or.inl rfl), hw⟩
set_option maxRecDepth 20000 in
set_option maxHeartbeats 4000000 in
theorem sim_X14_number {z : Mz} {l : Launch} {p1 : Int} {p2 : Int} {h : Mh} {K : Int → Mh → Prop} (hw : wp_X14_number p1 p2 h K) : mCal (XR z) l yX14_number cX14_number 3 (some Jvm.ClassFile.FieldType.boolean) 2 47 [(2, 0), (0, p1), (0, p2)] h (mKz K) := by
  refine m_entry RX14 rfl (by decide) rfl (fun p e s m args below meth c C hr => ?_)
  show mG _ p l e _ s m args below meth c _ _ 0 [(0, (2, 0)), (1, (0, p1)), (2, (0, p2))] [] h
  unfold wp_X14_number at hw
  refine g_aload_n C dX14_number_0 rfl (by decide) rfl ?_
  refine gf_X14_166 C dX14_number_1 kdR_0 (fun z1 => ?_)
  refine g_iconst C ⟨by decide, by decide⟩ dX14_number_4 ?_
  refine g_icmp_eq C 14 dX14_number_5 rfl hw (fun hw => ?_) (fun hw => ?_)
  · refine g_aload_n C dX14_number_14 rfl (by decide) rfl ?_
    refine gf_X14_177 C dX14_number_15 kdR_0 (fun z15 => ?_)
    refine g_iload_n C dX14_number_18 rfl rfl ?_
    refine g_iload_n C dX14_number_19 rfl rfl ?_
    refine g_callSz C [(0, (h 0 9)), (0, p1), (0, p2)] (sim_X14_isIn hw) k_1934 k_1935 k_147 k_1936 hdS_X14_isIn rfl rfl rfl rfl rfl dX14_number_20 ?_
    intro x1 h1 zb20 hw
    refine g_if_ne C 32 dX14_number_23 rfl hw (fun hw => ?_) (fun hw => ?_)
    · refine g_aload_n C dX14_number_32 rfl (by decide) rfl ?_
      refine g_aload_n C dX14_number_33 rfl (by decide) rfl ?_
      refine gf_X14_177 C dX14_number_34 kdR_0 (fun z34 => ?_)
      refine gp_X14_196 C dX14_number_37 kdR_0 (fun z => z) ?_
      refine g_heap (fun h2 eh2 => ?_)
      replace hw := hw h2 eh2
      refine g_aload_n C dX14_number_40 rfl (by decide) rfl ?_
      refine g_callVv C [] (sim_X14_token hw) k_1898 k_1900 k_77 k_147 k_1901 hdV_X14_token rfl rfl (by decide) rfl kdR_0 rfl rfl rfl dX14_number_41 ?_
      intro h3 hw
      refine g_iconst C ⟨by decide, by decide⟩ dX14_number_44 ?_
      exact g_zret C hr (Or.inr rfl) dX14_number_45 ⟨_, rfl, (Or.inr rfl), hw⟩
    · refine g_aload_n C dX14_number_26 rfl (by decide) rfl ?_
      refine g_iconst C ⟨by decide, by decide⟩ dX14_number_27 ?_
      refine g_callVz C [(0, 2)] (sim_X14_wrong hw) k_1926 k_1928 k_84 k_147 k_1929 hdV_X14_wrong rfl rfl (by decide) rfl kdR_0 rfl rfl rfl dX14_number_28 ?_
      intro x2 h4 zb28 hw
      exact g_zret C hr zb28 dX14_number_31 ⟨_, rfl, zb28, hw⟩
  · refine g_aload_n C dX14_number_8 rfl (by decide) rfl ?_
    refine g_iconst C ⟨by decide, by decide⟩ dX14_number_9 ?_
    refine g_callVz C [(0, 1)] (sim_X14_wrong hw) k_1926 k_1928 k_84 k_147 k_1929 hdV_X14_wrong rfl rfl (by decide) rfl kdR_0 rfl rfl rfl dX14_number_10 ?_
    intro x3 h5 zb10 hw
    exact g_zret C hr zb10 dX14_number_13 ⟨_, rfl, zb10, hw⟩
set_option maxRecDepth 20000 in
set_option maxHeartbeats 4000000 in
theorem sim_X14_cellRead {z : Mz} {l : Launch} {h : Mh} {K : Int → Mh → Prop} (hw : wp_X14_cellRead h K) : mCal (XR z) l yX14_cellRead cX14_cellRead 2 (some Jvm.ClassFile.FieldType.boolean) 3 69 [(2, 0)] h (mKz K) := by
  refine m_entry RX14 rfl (by decide) rfl (fun p e s m args below meth c C hr => ?_)
  show mG _ p l e _ s m args below meth c _ _ 0 [(0, (2, 0))] [] h
  unfold wp_X14_cellRead at hw
  refine g_aload_n C dX14_cellRead_0 rfl (by decide) rfl ?_
  refine g_iconst C ⟨by decide, by decide⟩ dX14_cellRead_1 ?_
  refine gp_X14_249 C dX14_cellRead_2 kdR_0 (fun _ => (Or.inr rfl)) ?_
  refine g_heap (fun h1 eh1 => ?_)
  replace hw := hw h1 eh1
  refine g_aload_n C dX14_cellRead_5 rfl (by decide) rfl ?_
  refine g_iconst C ⟨by decide, by decide⟩ dX14_cellRead_6 ?_
  refine g_aload_n C dX14_cellRead_7 rfl (by decide) rfl ?_
  refine gf_X14_209 C dX14_cellRead_8 kdR_0 (fun z8 => ?_)
  refine g_iconst C ⟨by decide, by decide⟩ dX14_cellRead_11 ?_
  refine g_isub C dX14_cellRead_12 ?_
  refine g_callVz C [(0, 0), (0, w32 ((h1 0 25) - 1))] (sim_X14_number hw) k_1930 k_1932 k_85 k_147 k_1933 hdV_X14_number rfl rfl (by decide) rfl kdR_0 rfl rfl rfl dX14_cellRead_13 ?_
  intro x1 h2 zb13 hw
  refine g_if_ne C 21 dX14_cellRead_16 rfl hw (fun hw => ?_) (fun hw => ?_)
  · refine g_aload_n C dX14_cellRead_21 rfl (by decide) rfl ?_
    refine gf_X14_196 C dX14_cellRead_22 kdR_0 (fun z22 => ?_)
    refine g_topi (fun x2 ex2 => ?_)
    replace hw := hw x2 ex2
    refine g_istore_n C dX14_cellRead_25 rfl (by decide) ?_
    refine g_aload_n C dX14_cellRead_26 rfl (by decide) rfl ?_
    refine g_aload_n C dX14_cellRead_27 rfl (by decide) rfl ?_
    refine gf_X14_157 C dX14_cellRead_28 kdR_0 (fun z28 => ?_)
    refine gp_X14_320 C dX14_cellRead_31 kdR_0 (fun z => z) ?_
    refine g_heap (fun h3 eh3 => ?_)
    replace hw := hw h3 eh3
    refine g_aload_n C dX14_cellRead_34 rfl (by decide) rfl ?_
    refine g_iconst C ⟨by decide, by decide⟩ dX14_cellRead_35 ?_
    refine g_aload_n C dX14_cellRead_36 rfl (by decide) rfl ?_
    refine gf_X14_212 C dX14_cellRead_37 kdR_0 (fun z37 => ?_)
    refine g_iconst C ⟨by decide, by decide⟩ dX14_cellRead_40 ?_
    refine g_isub C dX14_cellRead_41 ?_
    refine g_callVz C [(0, 0), (0, w32 ((h3 0 26) - 1))] (sim_X14_number hw) k_1930 k_1932 k_85 k_147 k_1933 hdV_X14_number rfl rfl (by decide) rfl kdR_0 rfl rfl rfl dX14_cellRead_42 ?_
    intro x3 h4 zb42 hw
    refine g_if_ne C 50 dX14_cellRead_45 rfl hw (fun hw => ?_) (fun hw => ?_)
    · refine g_aload_n C dX14_cellRead_50 rfl (by decide) rfl ?_
      refine g_aload_n C dX14_cellRead_51 rfl (by decide) rfl ?_
      refine gf_X14_209 C dX14_cellRead_52 kdR_0 (fun z52 => ?_)
      refine g_aload_n C dX14_cellRead_55 rfl (by decide) rfl ?_
      refine gf_X14_196 C dX14_cellRead_56 kdR_0 (fun z56 => ?_)
      refine g_imul C dX14_cellRead_59 ?_
      refine g_iload_n C dX14_cellRead_60 rfl rfl ?_
      refine g_iadd C dX14_cellRead_61 ?_
      refine gp_X14_196 C dX14_cellRead_62 kdR_0 (fun z => z) ?_
      refine g_heap (fun h5 eh5 => ?_)
      replace hw := hw h5 eh5
      refine g_iconst C ⟨by decide, by decide⟩ dX14_cellRead_65 ?_
      exact g_zret C hr (Or.inr rfl) dX14_cellRead_66 ⟨_, rfl, (Or.inr rfl), hw⟩
    · refine g_iconst C ⟨by decide, by decide⟩ dX14_cellRead_48 ?_
      exact g_zret C hr (Or.inl rfl) dX14_cellRead_49 ⟨_, rfl, (Or.inl rfl), hw⟩
  · refine g_iconst C ⟨by decide, by decide⟩ dX14_cellRead_19 ?_
    exact g_zret C hr (Or.inl rfl) dX14_cellRead_20 ⟨_, rfl, (Or.inl rfl), hw⟩
set_option maxRecDepth 20000 in
set_option maxHeartbeats 4000000 in
theorem sim_X14_drawn1 {z : Mz} {l : Launch} {p1 : Int} {h : Mh} {K : Int → Mh → Prop} (hw : wp_X14_drawn1 p1 h K) : mCal (XR z) l yX14_drawn1 cX14_drawn1 2 (some Jvm.ClassFile.FieldType.int) 0 0 [(2, 0), (0, p1)] h (mKi K) := by
  refine m_entry RX14 rfl (by decide) rfl (fun p e s m args below meth c C hr => ?_)
  show mG _ p l e _ s m args below meth c _ _ 0 [(0, (2, 0)), (1, (0, p1))] [] h
  unfold wp_X14_drawn1 at hw
  refine g_aload_n C dX14_drawn1_0 rfl (by decide) rfl ?_
  refine g_aload_n C dX14_drawn1_1 rfl (by decide) rfl ?_
  refine gf_X14_556 C dX14_drawn1_2 kdR_0 (fun z2 => ?_)
  refine g_ldc2 C ⟨by decide, by decide⟩ k_2264 dX14_drawn1_5 ?_
  refine g_lmul C dX14_drawn1_8 ?_
  refine g_ldc2 C ⟨by decide, by decide⟩ k_2265 dX14_drawn1_9 ?_
  refine g_ladd C dX14_drawn1_12 ?_
  refine g_ldc2 C ⟨by decide, by decide⟩ k_2266 dX14_drawn1_13 ?_
  refine g_land C dX14_drawn1_16 ?_
  refine gp_X14_556 C dX14_drawn1_17 kdR_0 (fun z => z) ?_
  refine g_heap (fun h1 eh1 => ?_)
  replace hw := hw h1 eh1
  refine g_aload_n C dX14_drawn1_20 rfl (by decide) rfl ?_
  refine gf_X14_556 C dX14_drawn1_21 kdR_0 (fun z21 => ?_)
  refine g_ldc2 C ⟨by decide, by decide⟩ k_2267 dX14_drawn1_24 ?_
  refine g_ldiv C (by decide) dX14_drawn1_27 ?_
  refine g_iload_n C dX14_drawn1_28 rfl rfl ?_
  refine g_i2l C dX14_drawn1_29 ?_
  obtain ⟨z0, hw⟩ := hw
  refine g_lrem C z0 dX14_drawn1_30 ?_
  refine g_l2i C dX14_drawn1_31 ?_
  exact g_iret C hr dX14_drawn1_32 ⟨_, rfl, hw⟩
set_option maxRecDepth 20000 in
set_option maxHeartbeats 4000000 in
theorem sim_X14_isCork {z : Mz} {l : Launch} {p1 : Int} {h : Mh} {K : Int → Mh → Prop} (hw : wp_X14_isCork p1 h K) : mCal (XR z) l yX14_isCork cX14_isCork 2 (some Jvm.ClassFile.FieldType.boolean) 0 0 [(2, 0), (0, p1)] h (mKz K) := by
  refine m_entry RX14 rfl (by decide) rfl (fun p e s m args below meth c C hr => ?_)
  show mG _ p l e _ s m args below meth c _ _ 0 [(0, (2, 0)), (1, (0, p1))] [] h
  unfold wp_X14_isCork at hw
  refine g_iload_n C dX14_isCork_0 rfl rfl ?_
  refine g_if_lt C 16 dX14_isCork_1 rfl hw (fun hw => ?_) (fun hw => ?_)
  · refine g_iconst C ⟨by decide, by decide⟩ dX14_isCork_16 ?_
    exact g_zret C hr (Or.inl rfl) dX14_isCork_17 ⟨_, rfl, (Or.inl rfl), hw⟩
  · refine g_iload_n C dX14_isCork_4 rfl rfl ?_
    refine g_aload_n C dX14_isCork_5 rfl (by decide) rfl ?_
    refine gf_X14_264 C dX14_isCork_6 kdR_0 (fun z6 => ?_)
    refine g_icmp_ge C 16 dX14_isCork_9 rfl hw (fun hw => ?_) (fun hw => ?_)
    · refine g_iconst C ⟨by decide, by decide⟩ dX14_isCork_16 ?_
      exact g_zret C hr (Or.inl rfl) dX14_isCork_17 ⟨_, rfl, (Or.inl rfl), hw⟩
    · refine g_iconst C ⟨by decide, by decide⟩ dX14_isCork_12 ?_
      refine g_goto C 17 dX14_isCork_13 rfl ?_
      exact g_zret C hr (Or.inr rfl) dX14_isCork_17 ⟨_, rfl, (Or.inr rfl), hw⟩
set_option maxRecDepth 20000 in
set_option maxHeartbeats 4000000 in
theorem sim_X14_isKind {z : Mz} {l : Launch} {p1 : Int} {h : Mh} {K : Int → Mh → Prop} (hw : wp_X14_isKind p1 h K) : mCal (XR z) l yX14_isKind cX14_isKind 2 (some Jvm.ClassFile.FieldType.boolean) 0 0 [(2, 0), (0, p1)] h (mKz K) := by
  refine m_entry RX14 rfl (by decide) rfl (fun p e s m args below meth c C hr => ?_)
  show mG _ p l e _ s m args below meth c _ _ 0 [(0, (2, 0)), (1, (0, p1))] [] h
  unfold wp_X14_isKind at hw
  refine g_iload_n C dX14_isKind_0 rfl rfl ?_
  refine g_if_lt C 16 dX14_isKind_1 rfl hw (fun hw => ?_) (fun hw => ?_)
  · refine g_iconst C ⟨by decide, by decide⟩ dX14_isKind_16 ?_
    exact g_zret C hr (Or.inl rfl) dX14_isKind_17 ⟨_, rfl, (Or.inl rfl), hw⟩
  · refine g_iload_n C dX14_isKind_4 rfl rfl ?_
    refine g_aload_n C dX14_isKind_5 rfl (by decide) rfl ?_
    refine gf_X14_261 C dX14_isKind_6 kdR_0 (fun z6 => ?_)
    refine g_icmp_ge C 16 dX14_isKind_9 rfl hw (fun hw => ?_) (fun hw => ?_)
    · refine g_iconst C ⟨by decide, by decide⟩ dX14_isKind_16 ?_
      exact g_zret C hr (Or.inl rfl) dX14_isKind_17 ⟨_, rfl, (Or.inl rfl), hw⟩
    · refine g_iconst C ⟨by decide, by decide⟩ dX14_isKind_12 ?_
      refine g_goto C 17 dX14_isKind_13 rfl ?_
      exact g_zret C hr (Or.inr rfl) dX14_isKind_17 ⟨_, rfl, (Or.inr rfl), hw⟩
set_option maxRecDepth 20000 in
set_option maxHeartbeats 4000000 in
theorem sim_X14_chance {z : Mz} {l : Launch} {p1 : Int} {p2 : Int} {p3 : Int} {p4 : Int} {p5 : Int} {h : Mh} {K : Int → Mh → Prop} (hw : wp_X14_chance p1 p2 p3 p4 p5 h K) : mCal (XR z) l yX14_chance cX14_chance 11 (some Jvm.ClassFile.FieldType.int) 2 52 [(2, 0), (0, p1), (0, p2), (0, p3), (0, p4), (0, p5)] h (mKi K) := by
  refine m_entry RX14 rfl (by decide) rfl (fun p e s m args below meth c C hr => ?_)
  have hQ : ∀ x, Lfp (F_X14_chance p1 p2 p3 p4 p5 K) x → (match x.1, x.2.1 with | 61, [v6, v7] => mG (XR z) p l e { frames := 2, cells := 0, slots := 0, locals := 52 } s m args below meth c 11 (mMQ (XR z) (mKi K) below args s) 61 [(6, (0, v6)), (7, (0, v7)), (0, (2, 0)), (1, (0, p1)), (2, (0, p2)), (3, (0, p3)), (4, (0, p4)), (5, (0, p5))] [] x.2.2 | 74, [v6, v7, v8, v9] => mG (XR z) p l e { frames := 2, cells := 0, slots := 0, locals := 52 } s m args below meth c 11 (mMQ (XR z) (mKi K) below args s) 74 [(6, (0, v6)), (7, (0, v7)), (8, (0, v8)), (9, (0, v9)), (0, (2, 0)), (1, (0, p1)), (2, (0, p2)), (3, (0, p3)), (4, (0, p4)), (5, (0, p5))] [] x.2.2 | _, _ => True) := by
    intro x hx
    refine Lfp.ind (fun x => (match x.1, x.2.1 with | 61, [v6, v7] => mG (XR z) p l e { frames := 2, cells := 0, slots := 0, locals := 52 } s m args below meth c 11 (mMQ (XR z) (mKi K) below args s) 61 [(6, (0, v6)), (7, (0, v7)), (0, (2, 0)), (1, (0, p1)), (2, (0, p2)), (3, (0, p3)), (4, (0, p4)), (5, (0, p5))] [] x.2.2 | 74, [v6, v7, v8, v9] => mG (XR z) p l e { frames := 2, cells := 0, slots := 0, locals := 52 } s m args below meth c 11 (mMQ (XR z) (mKi K) below args s) 74 [(6, (0, v6)), (7, (0, v7)), (8, (0, v8)), (9, (0, v9)), (0, (2, 0)), (1, (0, p1)), (2, (0, p2)), (3, (0, p3)), (4, (0, p4)), (5, (0, p5))] [] x.2.2 | _, _ => True)) ?_ hx
    clear hx x
    intro Z x hQ hw
    rcases hw with ⟨v6, v7, h, rfl, hw⟩ | ⟨v6, v7, v8, v9, h, rfl, hw⟩
    · show mG (XR z) p l e { frames := 2, cells := 0, slots := 0, locals := 52 } s m args below meth c 11 (mMQ (XR z) (mKi K) below args s) 61 [(6, (0, v6)), (7, (0, v7)), (0, (2, 0)), (1, (0, p1)), (2, (0, p2)), (3, (0, p3)), (4, (0, p4)), (5, (0, p5))] [] h
      unfold B_X14_chance_61 at hw
      refine g_iload C dX14_chance_61 rfl ?_
      refine g_bipush C ⟨by decide, by decide⟩ (by decide) dX14_chance_63 ?_
      refine g_icmp_ge C 159 dX14_chance_65 rfl hw (fun hw => ?_) (fun hw => ?_)
      · refine g_iload C dX14_chance_159 rfl ?_
        exact g_iret C hr dX14_chance_161 ⟨_, rfl, hw⟩
      · refine g_iconst C ⟨by decide, by decide⟩ dX14_chance_68 ?_
        refine g_istore C dX14_chance_69 (by decide) ?_
        refine g_iconst C ⟨by decide, by decide⟩ dX14_chance_71 ?_
        refine g_istore C dX14_chance_72 (by decide) ?_
        exact g_sub [6, 7, 8, 9, 0, 1, 2, 3, 4, 5] rfl (hQ _ hw)
    · show mG (XR z) p l e { frames := 2, cells := 0, slots := 0, locals := 52 } s m args below meth c 11 (mMQ (XR z) (mKi K) below args s) 74 [(6, (0, v6)), (7, (0, v7)), (8, (0, v8)), (9, (0, v9)), (0, (2, 0)), (1, (0, p1)), (2, (0, p2)), (3, (0, p3)), (4, (0, p4)), (5, (0, p5))] [] h
      unfold B_X14_chance_74 at hw
      refine g_iload C dX14_chance_74 rfl ?_
      refine g_iload_n C dX14_chance_76 rfl rfl ?_
      refine g_icmp_ge C 138 dX14_chance_77 rfl hw (fun hw => ?_) (fun hw => ?_)
      · refine g_iload C dX14_chance_138 rfl ?_
        refine g_iload C dX14_chance_140 rfl ?_
        refine g_if_le C 149 dX14_chance_142 rfl hw (fun hw => ?_) (fun hw => ?_)
        · refine g_iconst C ⟨by decide, by decide⟩ dX14_chance_149 ?_
          refine g_iadd C dX14_chance_150 ?_
          refine g_topi (fun x1 ex1 => ?_)
          replace hw := hw x1 ex1
          refine g_istore C dX14_chance_151 (by decide) ?_
          refine g_iincN C dX14_chance_153 rfl (by decide) (fun x2 ex2 => ?_)
          replace hw := hw x2 ex2
          refine g_goto C 61 dX14_chance_156 rfl ?_
          exact g_sub [6, 7, 0, 1, 2, 3, 4, 5] rfl (hQ _ hw)
        · refine g_iconst C ⟨by decide, by decide⟩ dX14_chance_145 ?_
          refine g_goto C 150 dX14_chance_146 rfl ?_
          refine g_iadd C dX14_chance_150 ?_
          refine g_topi (fun x3 ex3 => ?_)
          replace hw := hw x3 ex3
          refine g_istore C dX14_chance_151 (by decide) ?_
          refine g_iincN C dX14_chance_153 rfl (by decide) (fun x4 ex4 => ?_)
          replace hw := hw x4 ex4
          refine g_goto C 61 dX14_chance_156 rfl ?_
          exact g_sub [6, 7, 0, 1, 2, 3, 4, 5] rfl (hQ _ hw)
      · refine g_aload_n C dX14_chance_80 rfl (by decide) rfl ?_
        refine g_aload_n C dX14_chance_81 rfl (by decide) rfl ?_
        refine g_callVi C [] (sim_X14_cells hw) k_1569 k_1571 k_73 k_147 k_1572 hdV_X14_cells rfl rfl (by decide) rfl kdR_0 rfl rfl rfl dX14_chance_82 ?_
        intro x5 h1 hw
        refine g_callVi C [(0, x5)] (sim_X14_drawn1 hw) k_2260 k_2262 k_131 k_147 k_2263 hdV_X14_drawn1 rfl rfl (by decide) rfl kdR_0 rfl rfl rfl dX14_chance_85 ?_
        intro x6 h2 hw
        refine g_istore C dX14_chance_88 (by decide) ?_
        refine g_aload_n C dX14_chance_90 rfl (by decide) rfl ?_
        refine gw_X14_27 C dX14_chance_91 kdR_0 wwR_0_41 ?_
        refine g_iload C dX14_chance_94 rfl ?_
        obtain ⟨⟨b1, b1b⟩, hw⟩ := hw
        refine g_iaload C dX14_chance_96 kdR_5 b1 b1b (fun z96 => ?_)
        refine g_iconst C ⟨by decide, by decide⟩ dX14_chance_97 ?_
        refine g_icmp_ne C 104 dX14_chance_98 rfl hw (fun hw => ?_) (fun hw => ?_)
        · refine g_iload C dX14_chance_104 rfl ?_
          refine g_aload_n C dX14_chance_106 rfl (by decide) rfl ?_
          refine g_iload_n C dX14_chance_107 rfl rfl ?_
          refine g_iload C dX14_chance_108 rfl ?_
          refine g_aload_n C dX14_chance_110 rfl (by decide) rfl ?_
          refine gw_X14_54 C dX14_chance_111 kdR_0 wwR_0_50 ?_
          refine g_iload C dX14_chance_114 rfl ?_
          obtain ⟨⟨b2, b2b⟩, hw⟩ := hw
          refine g_iaload C dX14_chance_116 kdR_14 b2 b2b (fun z116 => ?_)
          refine g_iload C dX14_chance_117 rfl ?_
          refine g_aload_n C dX14_chance_119 rfl (by decide) rfl ?_
          refine g_bipush C ⟨by decide, by decide⟩ (by decide) dX14_chance_120 ?_
          refine g_callVi C [(0, 16)] (sim_X14_drawn1 hw) k_2260 k_2262 k_131 k_147 k_2263 hdV_X14_drawn1 rfl rfl (by decide) rfl kdR_0 rfl rfl rfl dX14_chance_122 ?_
          intro x7 h3 hw
          refine g_isub C dX14_chance_125 ?_
          refine g_callVi C [(0, p2), (0, x6), (0, (h2 14 p4)), (0, w32 (p5 - x7))] (sim_X14_gives hw) k_2070 k_2072 k_109 k_147 k_2073 hdV_X14_gives rfl rfl (by decide) rfl kdR_0 rfl rfl rfl dX14_chance_126 ?_
          intro x8 h4 hw
          refine g_iadd C dX14_chance_129 ?_
          refine g_topi (fun x9 ex9 => ?_)
          replace hw := hw x9 ex9
          refine g_istore C dX14_chance_130 (by decide) ?_
          refine g_iincN C dX14_chance_132 rfl (by decide) (fun x10 ex10 => ?_)
          replace hw := hw x10 ex10
          refine g_goto C 74 dX14_chance_135 rfl ?_
          exact g_sub [6, 7, 8, 9, 0, 1, 2, 3, 4, 5] rfl (hQ _ hw)
        · refine g_goto C 132 dX14_chance_101 rfl ?_
          refine g_iincN C dX14_chance_132 rfl (by decide) (fun x11 ex11 => ?_)
          replace hw := hw x11 ex11
          refine g_goto C 74 dX14_chance_135 rfl ?_
          exact g_sub [6, 7, 8, 9, 0, 1, 2, 3, 4, 5] rfl (hQ _ hw)
  show mG _ p l e _ s m args below meth c _ _ 0 [(0, (2, 0)), (1, (0, p1)), (2, (0, p2)), (3, (0, p3)), (4, (0, p4)), (5, (0, p5))] [] h
  unfold wp_X14_chance at hw
  refine g_aload_n C dX14_chance_0 rfl (by decide) rfl ?_
  refine g_iconst C ⟨by decide, by decide⟩ dX14_chance_1 ?_
  refine gp_X14_148 C dX14_chance_2 kdR_0 (fun z => z) ?_
  refine g_heap (fun h1 eh1 => ?_)
  replace hw := hw h1 eh1
  refine g_iload_n C dX14_chance_5 rfl rfl ?_
  refine g_if_lt C 47 dX14_chance_6 rfl hw (fun hw => ?_) (fun hw => ?_)
  · refine g_iconst C ⟨by decide, by decide⟩ dX14_chance_47 ?_
    exact g_iret C hr dX14_chance_48 ⟨_, rfl, hw⟩
  · refine g_aload_n C dX14_chance_9 rfl (by decide) rfl ?_
    refine g_iload_n C dX14_chance_10 rfl rfl ?_
    refine g_callVz C [(0, p2)] (sim_X14_isKind hw) k_2043 k_2045 k_106 k_147 k_2046 hdV_X14_isKind rfl rfl (by decide) rfl kdR_0 rfl rfl rfl dX14_chance_11 ?_
    intro x1 h2 zb11 hw
    refine g_if_eq C 47 dX14_chance_14 rfl hw (fun hw => ?_) (fun hw => ?_)
    · refine g_iconst C ⟨by decide, by decide⟩ dX14_chance_47 ?_
      exact g_iret C hr dX14_chance_48 ⟨_, rfl, hw⟩
    · refine g_iload_n C dX14_chance_17 rfl rfl ?_
      refine g_iconst C ⟨by decide, by decide⟩ dX14_chance_18 ?_
      refine g_bipush C ⟨by decide, by decide⟩ (by decide) dX14_chance_19 ?_
      refine g_callSz C [(0, p3), (0, 1), (0, 9)] (sim_X14_isIn hw) k_1934 k_1935 k_147 k_1936 hdS_X14_isIn rfl rfl rfl rfl rfl dX14_chance_21 ?_
      intro x2 h3 zb21 hw
      refine g_if_eq C 47 dX14_chance_24 rfl hw (fun hw => ?_) (fun hw => ?_)
      · refine g_iconst C ⟨by decide, by decide⟩ dX14_chance_47 ?_
        exact g_iret C hr dX14_chance_48 ⟨_, rfl, hw⟩
      · refine g_aload_n C dX14_chance_27 rfl (by decide) rfl ?_
        refine g_iload C dX14_chance_28 rfl ?_
        refine g_callVz C [(0, p4)] (sim_X14_isCork hw) k_2087 k_2089 k_112 k_147 k_2090 hdV_X14_isCork rfl rfl (by decide) rfl kdR_0 rfl rfl rfl dX14_chance_30 ?_
        intro x3 h4 zb30 hw
        refine g_if_eq C 47 dX14_chance_33 rfl hw (fun hw => ?_) (fun hw => ?_)
        · refine g_iconst C ⟨by decide, by decide⟩ dX14_chance_47 ?_
          exact g_iret C hr dX14_chance_48 ⟨_, rfl, hw⟩
        · refine g_iload C dX14_chance_36 rfl ?_
          refine g_iconst C ⟨by decide, by decide⟩ dX14_chance_38 ?_
          refine g_bipush C ⟨by decide, by decide⟩ (by decide) dX14_chance_39 ?_
          refine g_callSz C [(0, p5), (0, 0), (0, 40)] (sim_X14_isIn hw) k_1934 k_1935 k_147 k_1936 hdS_X14_isIn rfl rfl rfl rfl rfl dX14_chance_41 ?_
          intro x4 h5 zb41 hw
          refine g_if_ne C 49 dX14_chance_44 rfl hw (fun hw => ?_) (fun hw => ?_)
          · refine g_aload_n C dX14_chance_49 rfl (by decide) rfl ?_
            refine g_iload_n C dX14_chance_50 rfl rfl ?_
            refine g_i2l C dX14_chance_51 ?_
            refine gp_X14_556 C dX14_chance_52 kdR_0 (fun z => z) ?_
            refine g_heap (fun h6 eh6 => ?_)
            replace hw := hw h6 eh6
            refine g_iconst C ⟨by decide, by decide⟩ dX14_chance_55 ?_
            refine g_istore C dX14_chance_56 (by decide) ?_
            refine g_iconst C ⟨by decide, by decide⟩ dX14_chance_58 ?_
            refine g_istore C dX14_chance_59 (by decide) ?_
            exact g_sub [6, 7, 0, 1, 2, 3, 4, 5] rfl (hQ _ hw)
          · refine g_iconst C ⟨by decide, by decide⟩ dX14_chance_47 ?_
            exact g_iret C hr dX14_chance_48 ⟨_, rfl, hw⟩
set_option maxRecDepth 20000 in
set_option maxHeartbeats 4000000 in
theorem sim_X14_riseIn {z : Mz} {l : Launch} {p1 : Int} {p2 : Int} {h : Mh} {K : Int → Mh → Prop} (hw : wp_X14_riseIn p1 p2 h K) : mCal (XR z) l yX14_riseIn cX14_riseIn 5 (some Jvm.ClassFile.FieldType.int) 2 52 [(2, 0), (0, p1), (0, p2)] h (mKi K) := by
  refine m_entry RX14 rfl (by decide) rfl (fun p e s m args below meth c C hr => ?_)
  have hQ : ∀ x, Lfp (F_X14_riseIn p1 p2 K) x → (match x.1, x.2.1 with | 34, [v3, v4] => mG (XR z) p l e { frames := 2, cells := 0, slots := 0, locals := 52 } s m args below meth c 5 (mMQ (XR z) (mKi K) below args s) 34 [(3, (0, v3)), (4, (0, v4)), (0, (2, 0)), (1, (0, p1)), (2, (0, p2))] [] x.2.2 | _, _ => True) := by
    intro x hx
    refine Lfp.ind (fun x => (match x.1, x.2.1 with | 34, [v3, v4] => mG (XR z) p l e { frames := 2, cells := 0, slots := 0, locals := 52 } s m args below meth c 5 (mMQ (XR z) (mKi K) below args s) 34 [(3, (0, v3)), (4, (0, v4)), (0, (2, 0)), (1, (0, p1)), (2, (0, p2))] [] x.2.2 | _, _ => True)) ?_ hx
    clear hx x
    intro Z x hQ hw
    rcases hw with ⟨v3, v4, h, rfl, hw⟩
    · show mG (XR z) p l e { frames := 2, cells := 0, slots := 0, locals := 52 } s m args below meth c 5 (mMQ (XR z) (mKi K) below args s) 34 [(3, (0, v3)), (4, (0, v4)), (0, (2, 0)), (1, (0, p1)), (2, (0, p2))] [] h
      unfold B_X14_riseIn_34 at hw
      refine g_iload C dX14_riseIn_34 rfl ?_
      refine g_aload_n C dX14_riseIn_36 rfl (by decide) rfl ?_
      refine gf_X14_298 C dX14_riseIn_37 kdR_0 (fun z37 => ?_)
      refine g_icmp_ge C 80 dX14_riseIn_40 rfl hw (fun hw => ?_) (fun hw => ?_)
      · refine g_iload_n C dX14_riseIn_80 rfl rfl ?_
        exact g_iret C hr dX14_riseIn_81 ⟨_, rfl, hw⟩
      · refine g_iload_n C dX14_riseIn_43 rfl rfl ?_
        refine g_aload_n C dX14_riseIn_44 rfl (by decide) rfl ?_
        refine g_aload_n C dX14_riseIn_45 rfl (by decide) rfl ?_
        refine gw_X14_63 C dX14_riseIn_46 kdR_0 wwR_0_53 ?_
        refine g_iload C dX14_riseIn_49 rfl ?_
        obtain ⟨⟨b1, b1b⟩, hw⟩ := hw
        refine g_iaload C dX14_riseIn_51 kdR_17 b1 b1b (fun z51 => ?_)
        refine g_aload_n C dX14_riseIn_52 rfl (by decide) rfl ?_
        refine gw_X14_66 C dX14_riseIn_53 kdR_0 wwR_0_54 ?_
        refine g_iload C dX14_riseIn_56 rfl ?_
        obtain ⟨⟨b2, b2b⟩, hw⟩ := hw
        refine g_iaload C dX14_riseIn_58 kdR_18 b2 b2b (fun z58 => ?_)
        refine g_iload_n C dX14_riseIn_59 rfl rfl ?_
        refine g_iload_n C dX14_riseIn_60 rfl rfl ?_
        refine g_aload_n C dX14_riseIn_61 rfl (by decide) rfl ?_
        refine gw_X14_69 C dX14_riseIn_62 kdR_0 wwR_0_55 ?_
        refine g_iload C dX14_riseIn_65 rfl ?_
        obtain ⟨⟨b3, b3b⟩, hw⟩ := hw
        refine g_iaload C dX14_riseIn_67 kdR_19 b3 b3b (fun z67 => ?_)
        refine g_isub C dX14_riseIn_68 ?_
        refine g_callVi C [(0, (h 17 v4)), (0, (h 18 v4)), (0, p1), (0, w32 (p2 - (h 19 v4)))] (sim_X14_gives hw) k_2070 k_2072 k_109 k_147 k_2073 hdV_X14_gives rfl rfl (by decide) rfl kdR_0 rfl rfl rfl dX14_riseIn_69 ?_
        intro x1 h1 hw
        refine g_iadd C dX14_riseIn_72 ?_
        refine g_topi (fun x2 ex2 => ?_)
        replace hw := hw x2 ex2
        refine g_istore_n C dX14_riseIn_73 rfl (by decide) ?_
        refine g_iincN C dX14_riseIn_74 rfl (by decide) (fun x3 ex3 => ?_)
        replace hw := hw x3 ex3
        refine g_goto C 34 dX14_riseIn_77 rfl ?_
        exact g_sub [3, 4, 0, 1, 2] rfl (hQ _ hw)
  show mG _ p l e _ s m args below meth c _ _ 0 [(0, (2, 0)), (1, (0, p1)), (2, (0, p2))] [] h
  unfold wp_X14_riseIn at hw
  refine g_aload_n C dX14_riseIn_0 rfl (by decide) rfl ?_
  refine gf_X14_112 C dX14_riseIn_1 kdR_0 (fun z1 => ?_)
  refine g_if_ge C 11 dX14_riseIn_4 rfl hw (fun hw => ?_) (fun hw => ?_)
  · refine g_aload_n C dX14_riseIn_11 rfl (by decide) rfl ?_
    refine g_aload_n C dX14_riseIn_12 rfl (by decide) rfl ?_
    refine gf_X14_112 C dX14_riseIn_13 kdR_0 (fun z13 => ?_)
    refine g_aload_n C dX14_riseIn_16 rfl (by decide) rfl ?_
    refine gf_X14_458 C dX14_riseIn_17 kdR_0 (fun z17 => ?_)
    refine g_iload_n C dX14_riseIn_20 rfl rfl ?_
    refine g_iload_n C dX14_riseIn_21 rfl rfl ?_
    refine g_aload_n C dX14_riseIn_22 rfl (by decide) rfl ?_
    refine gf_X14_461 C dX14_riseIn_23 kdR_0 (fun z23 => ?_)
    refine g_isub C dX14_riseIn_26 ?_
    refine g_callVi C [(0, (h 0 79)), (0, (h 0 80)), (0, p1), (0, w32 (p2 - (h 0 81)))] (sim_X14_gives hw) k_2070 k_2072 k_109 k_147 k_2073 hdV_X14_gives rfl rfl (by decide) rfl kdR_0 rfl rfl rfl dX14_riseIn_27 ?_
    intro x1 h1 hw
    refine g_istore_n C dX14_riseIn_30 rfl (by decide) ?_
    refine g_iconst C ⟨by decide, by decide⟩ dX14_riseIn_31 ?_
    refine g_istore C dX14_riseIn_32 (by decide) ?_
    exact g_sub [3, 4, 0, 1, 2] rfl (hQ _ hw)
  · refine g_iconst C ⟨by decide, by decide⟩ dX14_riseIn_7 ?_
    refine g_goto C 30 dX14_riseIn_8 rfl ?_
    refine g_istore_n C dX14_riseIn_30 rfl (by decide) ?_
    refine g_iconst C ⟨by decide, by decide⟩ dX14_riseIn_31 ?_
    refine g_istore C dX14_riseIn_32 (by decide) ?_
    exact g_sub [3, 4, 0, 1, 2] rfl (hQ _ hw)
set_option maxRecDepth 20000 in
set_option maxHeartbeats 4000000 in
theorem sim_X14_compares {z : Mz} {l : Launch} {p0 : Int} {p1 : Int} {p3 : Int} {h : Mh} {K : Int → Mh → Prop} (hw : wp_X14_compares p0 p1 p3 h K) : mCal (XR z) l yX14_compares cX14_compares 5 (some Jvm.ClassFile.FieldType.boolean) 0 0 [(0, p0), (1, p1), (1, p3)] h (mKz K) := by
  refine m_entry RX14 rfl (by decide) rfl (fun p e s m args below meth c C hr => ?_)
  show mG _ p l e _ s m args below meth c _ _ 0 [(0, (0, p0)), (1, (1, p1)), (3, (1, p3))] [] h
  unfold wp_X14_compares at hw
  refine g_iload_n C dX14_compares_0 rfl rfl ?_
  by_cases c0 : p0 = 5
  · rw [if_pos c0] at hw
    refine g_tabIn C 36 5 dX14_compares_1 c0 (by decide) (by decide) rfl rfl ?_
    refine g_lload_n C dX14_compares_36 rfl rfl ?_
    refine g_lload_n C dX14_compares_37 rfl rfl ?_
    refine g_lcmp C dX14_compares_38 ?_
    refine g_if_ge C 46 dX14_compares_39 rfl hw (fun hw => ?_) (fun hw => ?_)
    · refine g_iconst C ⟨by decide, by decide⟩ dX14_compares_46 ?_
      exact g_zret C hr (Or.inl rfl) dX14_compares_47 ⟨_, rfl, (Or.inl rfl), hw⟩
    · refine g_iconst C ⟨by decide, by decide⟩ dX14_compares_42 ?_
      refine g_goto C 47 dX14_compares_43 rfl ?_
      exact g_zret C hr (Or.inr rfl) dX14_compares_47 ⟨_, rfl, (Or.inr rfl), hw⟩
  rw [if_neg c0] at hw
  by_cases c1 : p0 = 6
  · rw [if_pos c1] at hw
    refine g_tabIn C 48 6 dX14_compares_1 c1 (by decide) (by decide) rfl rfl ?_
    refine g_lload_n C dX14_compares_48 rfl rfl ?_
    refine g_lload_n C dX14_compares_49 rfl rfl ?_
    refine g_lcmp C dX14_compares_50 ?_
    refine g_if_gt C 58 dX14_compares_51 rfl hw (fun hw => ?_) (fun hw => ?_)
    · refine g_iconst C ⟨by decide, by decide⟩ dX14_compares_58 ?_
      exact g_zret C hr (Or.inl rfl) dX14_compares_59 ⟨_, rfl, (Or.inl rfl), hw⟩
    · refine g_iconst C ⟨by decide, by decide⟩ dX14_compares_54 ?_
      refine g_goto C 59 dX14_compares_55 rfl ?_
      exact g_zret C hr (Or.inr rfl) dX14_compares_59 ⟨_, rfl, (Or.inr rfl), hw⟩
  rw [if_neg c1] at hw
  by_cases c2 : p0 = 7
  · rw [if_pos c2] at hw
    refine g_tabIn C 60 7 dX14_compares_1 c2 (by decide) (by decide) rfl rfl ?_
    refine g_lload_n C dX14_compares_60 rfl rfl ?_
    refine g_lload_n C dX14_compares_61 rfl rfl ?_
    refine g_lcmp C dX14_compares_62 ?_
    refine g_if_ne C 70 dX14_compares_63 rfl hw (fun hw => ?_) (fun hw => ?_)
    · refine g_iconst C ⟨by decide, by decide⟩ dX14_compares_70 ?_
      exact g_zret C hr (Or.inl rfl) dX14_compares_71 ⟨_, rfl, (Or.inl rfl), hw⟩
    · refine g_iconst C ⟨by decide, by decide⟩ dX14_compares_66 ?_
      refine g_goto C 71 dX14_compares_67 rfl ?_
      exact g_zret C hr (Or.inr rfl) dX14_compares_71 ⟨_, rfl, (Or.inr rfl), hw⟩
  rw [if_neg c2] at hw
  by_cases c3 : p0 = 8
  · rw [if_pos c3] at hw
    refine g_tabIn C 72 8 dX14_compares_1 c3 (by decide) (by decide) rfl rfl ?_
    refine g_lload_n C dX14_compares_72 rfl rfl ?_
    refine g_lload_n C dX14_compares_73 rfl rfl ?_
    refine g_lcmp C dX14_compares_74 ?_
    refine g_if_eq C 82 dX14_compares_75 rfl hw (fun hw => ?_) (fun hw => ?_)
    · refine g_iconst C ⟨by decide, by decide⟩ dX14_compares_82 ?_
      exact g_zret C hr (Or.inl rfl) dX14_compares_83 ⟨_, rfl, (Or.inl rfl), hw⟩
    · refine g_iconst C ⟨by decide, by decide⟩ dX14_compares_78 ?_
      refine g_goto C 83 dX14_compares_79 rfl ?_
      exact g_zret C hr (Or.inr rfl) dX14_compares_83 ⟨_, rfl, (Or.inr rfl), hw⟩
  rw [if_neg c3] at hw
  by_cases c4 : p0 = 9
  · rw [if_pos c4] at hw
    refine g_tabIn C 84 9 dX14_compares_1 c4 (by decide) (by decide) rfl rfl ?_
    refine g_lload_n C dX14_compares_84 rfl rfl ?_
    refine g_lload_n C dX14_compares_85 rfl rfl ?_
    refine g_lcmp C dX14_compares_86 ?_
    refine g_if_lt C 94 dX14_compares_87 rfl hw (fun hw => ?_) (fun hw => ?_)
    · refine g_iconst C ⟨by decide, by decide⟩ dX14_compares_94 ?_
      exact g_zret C hr (Or.inl rfl) dX14_compares_95 ⟨_, rfl, (Or.inl rfl), hw⟩
    · refine g_iconst C ⟨by decide, by decide⟩ dX14_compares_90 ?_
      refine g_goto C 95 dX14_compares_91 rfl ?_
      exact g_zret C hr (Or.inr rfl) dX14_compares_95 ⟨_, rfl, (Or.inr rfl), hw⟩
  rw [if_neg c4] at hw
  refine g_tabOut C 96 dX14_compares_1 (by omega) rfl ?_
  refine g_lload_n C dX14_compares_96 rfl rfl ?_
  refine g_lload_n C dX14_compares_97 rfl rfl ?_
  refine g_lcmp C dX14_compares_98 ?_
  refine g_if_le C 106 dX14_compares_99 rfl hw (fun hw => ?_) (fun hw => ?_)
  · refine g_iconst C ⟨by decide, by decide⟩ dX14_compares_106 ?_
    exact g_zret C hr (Or.inl rfl) dX14_compares_107 ⟨_, rfl, (Or.inl rfl), hw⟩
  · refine g_iconst C ⟨by decide, by decide⟩ dX14_compares_102 ?_
    refine g_goto C 107 dX14_compares_103 rfl ?_
    exact g_zret C hr (Or.inr rfl) dX14_compares_107 ⟨_, rfl, (Or.inr rfl), hw⟩
set_option maxRecDepth 20000 in
set_option maxHeartbeats 4000000 in
theorem sim_X14_times {z : Mz} {l : Launch} {p1 : Int} {p3 : Int} {h : Mh} {K : Int → Mh → Prop} (hw : wp_X14_times p1 p3 h K) : mCal (XR z) l yX14_times cX14_times 6 (some Jvm.ClassFile.FieldType.long) 0 0 [(2, 0), (1, p1), (1, p3)] h (mKl K) := by
  refine m_entry RX14 rfl (by decide) rfl (fun p e s m args below meth c C hr => ?_)
  have hQ : ∀ x, Lfp (F_X14_times p1 p3 K) x → (match x.1, x.2.1 with | 48, [] => mG (XR z) p l e { frames := 0, cells := 0, slots := 0, locals := 0 } s m args below meth c 6 (mMQ (XR z) (mKl K) below args s) 48 [(0, (2, 0)), (1, (1, p1)), (3, (1, p3))] [] x.2.2 | 24, [s0] => mG (XR z) p l e { frames := 0, cells := 0, slots := 0, locals := 0 } s m args below meth c 6 (mMQ (XR z) (mKl K) below args s) 24 [(0, (2, 0)), (1, (1, p1)), (3, (1, p3))] [(1, s0)] x.2.2 | 49, [s0] => mG (XR z) p l e { frames := 0, cells := 0, slots := 0, locals := 0 } s m args below meth c 6 (mMQ (XR z) (mKl K) below args s) 49 [(0, (2, 0)), (1, (1, p1)), (3, (1, p3))] [(0, s0)] x.2.2 | 39, [s0, s1, s2] => mG (XR z) p l e { frames := 0, cells := 0, slots := 0, locals := 0 } s m args below meth c 6 (mMQ (XR z) (mKl K) below args s) 39 [(0, (2, 0)), (1, (1, p1)), (3, (1, p3))] [(1, s2), (1, s1), (1, s0)] x.2.2 | _, _ => True) := by
    intro x hx
    refine Lfp.ind (fun x => (match x.1, x.2.1 with | 48, [] => mG (XR z) p l e { frames := 0, cells := 0, slots := 0, locals := 0 } s m args below meth c 6 (mMQ (XR z) (mKl K) below args s) 48 [(0, (2, 0)), (1, (1, p1)), (3, (1, p3))] [] x.2.2 | 24, [s0] => mG (XR z) p l e { frames := 0, cells := 0, slots := 0, locals := 0 } s m args below meth c 6 (mMQ (XR z) (mKl K) below args s) 24 [(0, (2, 0)), (1, (1, p1)), (3, (1, p3))] [(1, s0)] x.2.2 | 49, [s0] => mG (XR z) p l e { frames := 0, cells := 0, slots := 0, locals := 0 } s m args below meth c 6 (mMQ (XR z) (mKl K) below args s) 49 [(0, (2, 0)), (1, (1, p1)), (3, (1, p3))] [(0, s0)] x.2.2 | 39, [s0, s1, s2] => mG (XR z) p l e { frames := 0, cells := 0, slots := 0, locals := 0 } s m args below meth c 6 (mMQ (XR z) (mKl K) below args s) 39 [(0, (2, 0)), (1, (1, p1)), (3, (1, p3))] [(1, s2), (1, s1), (1, s0)] x.2.2 | _, _ => True)) ?_ hx
    clear hx x
    intro Z x hQ hw
    rcases hw with ⟨h, rfl, hw⟩ | ⟨s0, h, rfl, hw⟩ | ⟨s0, h, rfl, hw⟩ | ⟨s0, s1, s2, h, rfl, hw⟩
    · show mG (XR z) p l e { frames := 0, cells := 0, slots := 0, locals := 0 } s m args below meth c 6 (mMQ (XR z) (mKl K) below args s) 48 [(0, (2, 0)), (1, (1, p1)), (3, (1, p3))] [] h
      unfold B_X14_times_48 at hw
      refine g_iconst C ⟨by decide, by decide⟩ dX14_times_48 ?_
      exact g_sub [0, 1, 3] rfl (hQ _ hw)
    · show mG (XR z) p l e { frames := 0, cells := 0, slots := 0, locals := 0 } s m args below meth c 6 (mMQ (XR z) (mKl K) below args s) 24 [(0, (2, 0)), (1, (1, p1)), (3, (1, p3))] [(1, s0)] h
      unfold B_X14_times_24 at hw
      refine g_ldc2 C ⟨by decide, by decide⟩ k_2116 dX14_times_24 ?_
      refine g_lload_n C dX14_times_27 rfl rfl ?_
      refine g_lconst C 0 (Or.inl rfl) rfl dX14_times_28 ?_
      refine g_lcmp C dX14_times_29 ?_
      refine g_if_ge C 38 dX14_times_30 rfl hw (fun hw => ?_) (fun hw => ?_)
      · refine g_lload_n C dX14_times_38 rfl rfl ?_
        exact g_sub [0, 1, 3] rfl (hQ _ hw)
      · refine g_lload_n C dX14_times_33 rfl rfl ?_
        refine g_lneg C dX14_times_34 ?_
        refine g_goto C 39 dX14_times_35 rfl ?_
        exact g_sub [0, 1, 3] rfl (hQ _ hw)
    · show mG (XR z) p l e { frames := 0, cells := 0, slots := 0, locals := 0 } s m args below meth c 6 (mMQ (XR z) (mKl K) below args s) 49 [(0, (2, 0)), (1, (1, p1)), (3, (1, p3))] [(0, s0)] h
      unfold B_X14_times_49 at hw
      refine g_istore C dX14_times_49 (by decide) ?_
      refine g_aload_n C dX14_times_51 rfl (by decide) rfl ?_
      refine g_aload_n C dX14_times_52 rfl (by decide) rfl ?_
      refine gf_X14_407 C dX14_times_53 kdR_0 (fun z53 => ?_)
      refine g_if_ne C 64 dX14_times_56 rfl hw (fun hw => ?_) (fun hw => ?_)
      · refine g_iconst C ⟨by decide, by decide⟩ dX14_times_64 ?_
        refine g_goto C 69 dX14_times_65 rfl ?_
        refine gp_X14_407 C dX14_times_69 kdR_0 (fun _ => (Or.inr rfl)) ?_
        refine g_heap (fun h1 eh1 => ?_)
        replace hw := hw h1 eh1
        refine g_aload_n C dX14_times_72 rfl (by decide) rfl ?_
        refine gf_X14_407 C dX14_times_73 kdR_0 (fun z73 => ?_)
        refine g_if_eq C 83 dX14_times_76 rfl hw (fun hw => ?_) (fun hw => ?_)
        · refine g_lload_n C dX14_times_83 rfl rfl ?_
          refine g_lload_n C dX14_times_84 rfl rfl ?_
          refine g_lmul C dX14_times_85 ?_
          exact g_lret C hr dX14_times_86 ⟨_, rfl, hw⟩
        · refine g_lconst C 0 (Or.inl rfl) rfl dX14_times_79 ?_
          refine g_goto C 86 dX14_times_80 rfl ?_
          exact g_lret C hr dX14_times_86 ⟨_, rfl, hw⟩
      · refine g_iload C dX14_times_59 rfl ?_
        refine g_if_eq C 68 dX14_times_61 rfl hw (fun hw => ?_) (fun hw => ?_)
        · refine g_iconst C ⟨by decide, by decide⟩ dX14_times_68 ?_
          refine gp_X14_407 C dX14_times_69 kdR_0 (fun _ => (Or.inl rfl)) ?_
          refine g_heap (fun h2 eh2 => ?_)
          replace hw := hw h2 eh2
          refine g_aload_n C dX14_times_72 rfl (by decide) rfl ?_
          refine gf_X14_407 C dX14_times_73 kdR_0 (fun z73 => ?_)
          refine g_if_eq C 83 dX14_times_76 rfl hw (fun hw => ?_) (fun hw => ?_)
          · refine g_lload_n C dX14_times_83 rfl rfl ?_
            refine g_lload_n C dX14_times_84 rfl rfl ?_
            refine g_lmul C dX14_times_85 ?_
            exact g_lret C hr dX14_times_86 ⟨_, rfl, hw⟩
          · refine g_lconst C 0 (Or.inl rfl) rfl dX14_times_79 ?_
            refine g_goto C 86 dX14_times_80 rfl ?_
            exact g_lret C hr dX14_times_86 ⟨_, rfl, hw⟩
        · refine g_iconst C ⟨by decide, by decide⟩ dX14_times_64 ?_
          refine g_goto C 69 dX14_times_65 rfl ?_
          refine gp_X14_407 C dX14_times_69 kdR_0 (fun _ => (Or.inr rfl)) ?_
          refine g_heap (fun h3 eh3 => ?_)
          replace hw := hw h3 eh3
          refine g_aload_n C dX14_times_72 rfl (by decide) rfl ?_
          refine gf_X14_407 C dX14_times_73 kdR_0 (fun z73 => ?_)
          refine g_if_eq C 83 dX14_times_76 rfl hw (fun hw => ?_) (fun hw => ?_)
          · refine g_lload_n C dX14_times_83 rfl rfl ?_
            refine g_lload_n C dX14_times_84 rfl rfl ?_
            refine g_lmul C dX14_times_85 ?_
            exact g_lret C hr dX14_times_86 ⟨_, rfl, hw⟩
          · refine g_lconst C 0 (Or.inl rfl) rfl dX14_times_79 ?_
            refine g_goto C 86 dX14_times_80 rfl ?_
            exact g_lret C hr dX14_times_86 ⟨_, rfl, hw⟩
    · show mG (XR z) p l e { frames := 0, cells := 0, slots := 0, locals := 0 } s m args below meth c 6 (mMQ (XR z) (mKl K) below args s) 39 [(0, (2, 0)), (1, (1, p1)), (3, (1, p3))] [(1, s2), (1, s1), (1, s0)] h
      unfold B_X14_times_39 at hw
      obtain ⟨z0, hw⟩ := hw
      refine g_ldiv C z0 dX14_times_39 ?_
      refine g_lcmp C dX14_times_40 ?_
      refine g_if_le C 48 dX14_times_41 rfl hw (fun hw => ?_) (fun hw => ?_)
      · exact g_sub [0, 1, 3] rfl (hQ _ hw)
      · refine g_iconst C ⟨by decide, by decide⟩ dX14_times_44 ?_
        refine g_goto C 49 dX14_times_45 rfl ?_
        exact g_sub [0, 1, 3] rfl (hQ _ hw)
  show mG _ p l e _ s m args below meth c _ _ 0 [(0, (2, 0)), (1, (1, p1)), (3, (1, p3))] [] h
  unfold wp_X14_times at hw
  refine g_lload_n C dX14_times_0 rfl rfl ?_
  refine g_lconst C 0 (Or.inl rfl) rfl dX14_times_1 ?_
  refine g_lcmp C dX14_times_2 ?_
  refine g_if_eq C 48 dX14_times_3 rfl hw (fun hw => ?_) (fun hw => ?_)
  · exact g_sub [0, 1, 3] rfl (hQ _ hw)
  · refine g_lload_n C dX14_times_6 rfl rfl ?_
    refine g_lconst C 0 (Or.inl rfl) rfl dX14_times_7 ?_
    refine g_lcmp C dX14_times_8 ?_
    refine g_if_eq C 48 dX14_times_9 rfl hw (fun hw => ?_) (fun hw => ?_)
    · exact g_sub [0, 1, 3] rfl (hQ _ hw)
    · refine g_lload_n C dX14_times_12 rfl rfl ?_
      refine g_lconst C 0 (Or.inl rfl) rfl dX14_times_13 ?_
      refine g_lcmp C dX14_times_14 ?_
      refine g_if_ge C 23 dX14_times_15 rfl hw (fun hw => ?_) (fun hw => ?_)
      · refine g_lload_n C dX14_times_23 rfl rfl ?_
        exact g_sub [0, 1, 3] rfl (hQ _ hw)
      · refine g_lload_n C dX14_times_18 rfl rfl ?_
        refine g_lneg C dX14_times_19 ?_
        refine g_goto C 24 dX14_times_20 rfl ?_
        exact g_sub [0, 1, 3] rfl (hQ _ hw)
set_option maxRecDepth 20000 in
set_option maxHeartbeats 4000000 in
theorem sim_X14_valueOf {z : Mz} {l : Launch} {p1 : Int} {h : Mh} {K : Int → Mh → Prop} (hw : wp_X14_valueOf p1 h K) : mCal (XR z) l yX14_valueOf cX14_valueOf 6 (some Jvm.ClassFile.FieldType.long) 1 25 [(2, 0), (0, p1)] h (mKl K) := by
  refine m_entry RX14 rfl (by decide) rfl (fun p e s m args below meth c C hr => ?_)
  have hQ : ∀ x, Lfp (F_X14_valueOf p1 K) x → (match x.1, x.2.1 with | 259, [v2, v4] => mG (XR z) p l e { frames := 1, cells := 0, slots := 0, locals := 25 } s m args below meth c 6 (mMQ (XR z) (mKl K) below args s) 259 [(2, (1, v2)), (4, (1, v4)), (0, (2, 0)), (1, (0, p1))] [] x.2.2 | _, _ => True) := by
    intro x hx
    refine Lfp.ind (fun x => (match x.1, x.2.1 with | 259, [v2, v4] => mG (XR z) p l e { frames := 1, cells := 0, slots := 0, locals := 25 } s m args below meth c 6 (mMQ (XR z) (mKl K) below args s) 259 [(2, (1, v2)), (4, (1, v4)), (0, (2, 0)), (1, (0, p1))] [] x.2.2 | _, _ => True)) ?_ hx
    clear hx x
    intro Z x hQ hw
    rcases hw with ⟨v2, v4, h, rfl, hw⟩
    · show mG (XR z) p l e { frames := 1, cells := 0, slots := 0, locals := 25 } s m args below meth c 6 (mMQ (XR z) (mKl K) below args s) 259 [(2, (1, v2)), (4, (1, v4)), (0, (2, 0)), (1, (0, p1))] [] h
      unfold B_X14_valueOf_259 at hw
      refine g_aload_n C dX14_valueOf_259 rfl (by decide) rfl ?_
      refine gw_X14_81 C dX14_valueOf_260 kdR_0 wwR_0_59 ?_
      refine g_iload_n C dX14_valueOf_263 rfl rfl ?_
      obtain ⟨⟨b12, b12b⟩, hw⟩ := hw
      refine g_iaload C dX14_valueOf_264 kdR_23 b12 b12b (fun z264 => ?_)
      refine g_lload_n C dX14_valueOf_265 rfl rfl ?_
      refine g_lload C dX14_valueOf_266 rfl ?_
      refine g_callSz C [(0, (h 23 p1)), (1, v2), (1, v4)] (sim_X14_compares hw) k_2122 k_2123 k_147 k_2124 hdS_X14_compares rfl rfl rfl rfl rfl dX14_valueOf_268 ?_
      intro x1 h1 zb268 hw
      refine g_if_eq C 278 dX14_valueOf_271 rfl hw (fun hw => ?_) (fun hw => ?_)
      · refine g_lconst C 0 (Or.inl rfl) rfl dX14_valueOf_278 ?_
        exact g_lret C hr dX14_valueOf_279 ⟨_, rfl, hw⟩
      · refine g_lconst C 1 (Or.inr rfl) rfl dX14_valueOf_274 ?_
        refine g_goto C 279 dX14_valueOf_275 rfl ?_
        exact g_lret C hr dX14_valueOf_279 ⟨_, rfl, hw⟩
  show mG _ p l e _ s m args below meth c _ _ 0 [(0, (2, 0)), (1, (0, p1))] [] h
  unfold wp_X14_valueOf at hw
  refine g_aload_n C dX14_valueOf_0 rfl (by decide) rfl ?_
  refine gw_X14_81 C dX14_valueOf_1 kdR_0 wwR_0_59 ?_
  refine g_iload_n C dX14_valueOf_4 rfl rfl ?_
  obtain ⟨⟨b1, b1b⟩, hw⟩ := hw
  refine g_iaload C dX14_valueOf_5 kdR_23 b1 b1b (fun z5 => ?_)
  refine g_if_ne C 17 dX14_valueOf_6 rfl hw (fun hw => ?_) (fun hw => ?_)
  · refine g_aload_n C dX14_valueOf_17 rfl (by decide) rfl ?_
    refine gw_X14_81 C dX14_valueOf_18 kdR_0 wwR_0_59 ?_
    refine g_iload_n C dX14_valueOf_21 rfl rfl ?_
    obtain ⟨⟨b2, b2b⟩, hw⟩ := hw
    refine g_iaload C dX14_valueOf_22 kdR_23 b2 b2b (fun z22 => ?_)
    refine g_iconst C ⟨by decide, by decide⟩ dX14_valueOf_23 ?_
    refine g_icmp_ne C 39 dX14_valueOf_24 rfl hw (fun hw => ?_) (fun hw => ?_)
    · refine g_aload_n C dX14_valueOf_39 rfl (by decide) rfl ?_
      refine gw_X14_100 C dX14_valueOf_40 kdR_0 wwR_0_72 ?_
      refine g_aload_n C dX14_valueOf_43 rfl (by decide) rfl ?_
      refine gw_X14_84 C dX14_valueOf_44 kdR_0 wwR_0_60 ?_
      refine g_iload_n C dX14_valueOf_47 rfl rfl ?_
      obtain ⟨⟨b3, b3b⟩, hw⟩ := hw
      refine g_iaload C dX14_valueOf_48 kdR_24 b3 b3b (fun z48 => ?_)
      obtain ⟨⟨b4, b4b⟩, hw⟩ := hw
      refine g_laload C dX14_valueOf_49 kdR_29 b4 b4b (fun z49 => ?_)
      refine g_topi (fun x1 ex1 => ?_)
      replace hw := hw x1 ex1
      refine g_lstore_n C dX14_valueOf_50 rfl (by decide) ?_
      refine g_aload_n C dX14_valueOf_51 rfl (by decide) rfl ?_
      refine gw_X14_81 C dX14_valueOf_52 kdR_0 wwR_0_59 ?_
      refine g_iload_n C dX14_valueOf_55 rfl rfl ?_
      obtain ⟨⟨b5, b5b⟩, hw⟩ := hw
      refine g_iaload C dX14_valueOf_56 kdR_23 b5 b5b (fun z56 => ?_)
      refine g_iconst C ⟨by decide, by decide⟩ dX14_valueOf_57 ?_
      refine g_icmp_ne C 73 dX14_valueOf_58 rfl hw (fun hw => ?_) (fun hw => ?_)
      · refine g_aload_n C dX14_valueOf_73 rfl (by decide) rfl ?_
        refine gw_X14_100 C dX14_valueOf_74 kdR_0 wwR_0_72 ?_
        refine g_aload_n C dX14_valueOf_77 rfl (by decide) rfl ?_
        refine gw_X14_87 C dX14_valueOf_78 kdR_0 wwR_0_61 ?_
        refine g_iload_n C dX14_valueOf_81 rfl rfl ?_
        obtain ⟨⟨b6, b6b⟩, hw⟩ := hw
        refine g_iaload C dX14_valueOf_82 kdR_25 b6 b6b (fun z82 => ?_)
        obtain ⟨⟨b7, b7b⟩, hw⟩ := hw
        refine g_laload C dX14_valueOf_83 kdR_29 b7 b7b (fun z83 => ?_)
        refine g_topi (fun x2 ex2 => ?_)
        replace hw := hw x2 ex2
        refine g_lstore C dX14_valueOf_84 (by decide) ?_
        refine g_aload_n C dX14_valueOf_86 rfl (by decide) rfl ?_
        refine gw_X14_81 C dX14_valueOf_87 kdR_0 wwR_0_59 ?_
        refine g_iload_n C dX14_valueOf_90 rfl rfl ?_
        obtain ⟨⟨b8, b8b⟩, hw⟩ := hw
        refine g_iaload C dX14_valueOf_91 kdR_23 b8 b8b (fun z91 => ?_)
        by_cases c0 : (h 23 p1) = 3
        · rw [if_pos c0] at hw
          refine g_tabIn C 156 3 dX14_valueOf_92 c0 (by decide) (by decide) rfl rfl ?_
          refine g_lload_n C dX14_valueOf_156 rfl rfl ?_
          refine g_lconst C 0 (Or.inl rfl) rfl dX14_valueOf_157 ?_
          refine g_lcmp C dX14_valueOf_158 ?_
          refine g_if_eq C 173 dX14_valueOf_159 rfl hw (fun hw => ?_) (fun hw => ?_)
          · refine g_lconst C 0 (Or.inl rfl) rfl dX14_valueOf_173 ?_
            exact g_lret C hr dX14_valueOf_174 ⟨_, rfl, hw⟩
          · refine g_lload C dX14_valueOf_162 rfl ?_
            refine g_lconst C 0 (Or.inl rfl) rfl dX14_valueOf_164 ?_
            refine g_lcmp C dX14_valueOf_165 ?_
            refine g_if_eq C 173 dX14_valueOf_166 rfl hw (fun hw => ?_) (fun hw => ?_)
            · refine g_lconst C 0 (Or.inl rfl) rfl dX14_valueOf_173 ?_
              exact g_lret C hr dX14_valueOf_174 ⟨_, rfl, hw⟩
            · refine g_lconst C 1 (Or.inr rfl) rfl dX14_valueOf_169 ?_
              refine g_goto C 174 dX14_valueOf_170 rfl ?_
              exact g_lret C hr dX14_valueOf_174 ⟨_, rfl, hw⟩
        rw [if_neg c0] at hw
        by_cases c1 : (h 23 p1) = 4
        · rw [if_pos c1] at hw
          refine g_tabIn C 175 4 dX14_valueOf_92 c1 (by decide) (by decide) rfl rfl ?_
          refine g_lload_n C dX14_valueOf_175 rfl rfl ?_
          refine g_lconst C 0 (Or.inl rfl) rfl dX14_valueOf_176 ?_
          refine g_lcmp C dX14_valueOf_177 ?_
          refine g_if_ne C 188 dX14_valueOf_178 rfl hw (fun hw => ?_) (fun hw => ?_)
          · refine g_lconst C 1 (Or.inr rfl) rfl dX14_valueOf_188 ?_
            refine g_goto C 193 dX14_valueOf_189 rfl ?_
            exact g_lret C hr dX14_valueOf_193 ⟨_, rfl, hw⟩
          · refine g_lload C dX14_valueOf_181 rfl ?_
            refine g_lconst C 0 (Or.inl rfl) rfl dX14_valueOf_183 ?_
            refine g_lcmp C dX14_valueOf_184 ?_
            refine g_if_eq C 192 dX14_valueOf_185 rfl hw (fun hw => ?_) (fun hw => ?_)
            · refine g_lconst C 0 (Or.inl rfl) rfl dX14_valueOf_192 ?_
              exact g_lret C hr dX14_valueOf_193 ⟨_, rfl, hw⟩
            · refine g_lconst C 1 (Or.inr rfl) rfl dX14_valueOf_188 ?_
              refine g_goto C 193 dX14_valueOf_189 rfl ?_
              exact g_lret C hr dX14_valueOf_193 ⟨_, rfl, hw⟩
        rw [if_neg c1] at hw
        by_cases c2 : (h 23 p1) = 5
        · rw [if_pos c2] at hw
          refine g_tabIn C 259 5 dX14_valueOf_92 c2 (by decide) (by decide) rfl rfl ?_
          exact g_sub [2, 4, 0, 1] rfl (hQ _ hw)
        rw [if_neg c2] at hw
        by_cases c3 : (h 23 p1) = 6
        · rw [if_pos c3] at hw
          refine g_tabIn C 259 6 dX14_valueOf_92 c3 (by decide) (by decide) rfl rfl ?_
          exact g_sub [2, 4, 0, 1] rfl (hQ _ hw)
        rw [if_neg c3] at hw
        by_cases c4 : (h 23 p1) = 7
        · rw [if_pos c4] at hw
          refine g_tabIn C 259 7 dX14_valueOf_92 c4 (by decide) (by decide) rfl rfl ?_
          exact g_sub [2, 4, 0, 1] rfl (hQ _ hw)
        rw [if_neg c4] at hw
        by_cases c5 : (h 23 p1) = 8
        · rw [if_pos c5] at hw
          refine g_tabIn C 259 8 dX14_valueOf_92 c5 (by decide) (by decide) rfl rfl ?_
          exact g_sub [2, 4, 0, 1] rfl (hQ _ hw)
        rw [if_neg c5] at hw
        by_cases c6 : (h 23 p1) = 9
        · rw [if_pos c6] at hw
          refine g_tabIn C 259 9 dX14_valueOf_92 c6 (by decide) (by decide) rfl rfl ?_
          exact g_sub [2, 4, 0, 1] rfl (hQ _ hw)
        rw [if_neg c6] at hw
        by_cases c7 : (h 23 p1) = 10
        · rw [if_pos c7] at hw
          refine g_tabIn C 259 10 dX14_valueOf_92 c7 (by decide) (by decide) rfl rfl ?_
          exact g_sub [2, 4, 0, 1] rfl (hQ _ hw)
        rw [if_neg c7] at hw
        by_cases c8 : (h 23 p1) = 11
        · rw [if_pos c8] at hw
          refine g_tabIn C 194 11 dX14_valueOf_92 c8 (by decide) (by decide) rfl rfl ?_
          refine g_aload_n C dX14_valueOf_194 rfl (by decide) rfl ?_
          refine g_lload_n C dX14_valueOf_195 rfl rfl ?_
          refine g_lload C dX14_valueOf_196 rfl ?_
          refine g_ladd C dX14_valueOf_198 ?_
          refine g_callVl C [(1, w64 (x1 + x2))] (sim_X14_bounded hw) k_2112 k_2114 k_116 k_147 k_2115 hdV_X14_bounded rfl rfl (by decide) rfl kdR_0 rfl rfl rfl dX14_valueOf_199 ?_
          intro x3 h1 hw
          exact g_lret C hr dX14_valueOf_202 ⟨_, rfl, hw⟩
        rw [if_neg c8] at hw
        by_cases c9 : (h 23 p1) = 12
        · rw [if_pos c9] at hw
          refine g_tabIn C 203 12 dX14_valueOf_92 c9 (by decide) (by decide) rfl rfl ?_
          refine g_aload_n C dX14_valueOf_203 rfl (by decide) rfl ?_
          refine g_lload_n C dX14_valueOf_204 rfl rfl ?_
          refine g_lload C dX14_valueOf_205 rfl ?_
          refine g_lsub C dX14_valueOf_207 ?_
          refine g_callVl C [(1, w64 (x1 - x2))] (sim_X14_bounded hw) k_2112 k_2114 k_116 k_147 k_2115 hdV_X14_bounded rfl rfl (by decide) rfl kdR_0 rfl rfl rfl dX14_valueOf_208 ?_
          intro x4 h2 hw
          exact g_lret C hr dX14_valueOf_211 ⟨_, rfl, hw⟩
        rw [if_neg c9] at hw
        by_cases c10 : (h 23 p1) = 13
        · rw [if_pos c10] at hw
          refine g_tabIn C 212 13 dX14_valueOf_92 c10 (by decide) (by decide) rfl rfl ?_
          refine g_aload_n C dX14_valueOf_212 rfl (by decide) rfl ?_
          refine g_lload_n C dX14_valueOf_213 rfl rfl ?_
          refine g_lload C dX14_valueOf_214 rfl ?_
          refine g_callVl C [(1, x1), (1, x2)] (sim_X14_times hw) k_2118 k_2120 k_117 k_147 k_2121 hdV_X14_times rfl rfl (by decide) rfl kdR_0 rfl rfl rfl dX14_valueOf_216 ?_
          intro x5 h3 hw
          exact g_lret C hr dX14_valueOf_219 ⟨_, rfl, hw⟩
        rw [if_neg c10] at hw
        by_cases c11 : (h 23 p1) = 14
        · rw [if_pos c11] at hw
          refine g_tabIn C 220 14 dX14_valueOf_92 c11 (by decide) (by decide) rfl rfl ?_
          refine g_aload_n C dX14_valueOf_220 rfl (by decide) rfl ?_
          refine g_aload_n C dX14_valueOf_221 rfl (by decide) rfl ?_
          refine gf_X14_407 C dX14_valueOf_222 kdR_0 (fun z222 => ?_)
          refine g_if_ne C 235 dX14_valueOf_225 rfl hw (fun hw => ?_) (fun hw => ?_)
          · refine g_iconst C ⟨by decide, by decide⟩ dX14_valueOf_235 ?_
            refine g_goto C 240 dX14_valueOf_236 rfl ?_
            refine gp_X14_407 C dX14_valueOf_240 kdR_0 (fun _ => (Or.inr rfl)) ?_
            refine g_heap (fun h4 eh4 => ?_)
            replace hw := hw h4 eh4
            refine g_aload_n C dX14_valueOf_243 rfl (by decide) rfl ?_
            refine gf_X14_407 C dX14_valueOf_244 kdR_0 (fun z244 => ?_)
            refine g_if_eq C 254 dX14_valueOf_247 rfl hw (fun hw => ?_) (fun hw => ?_)
            · refine g_lload_n C dX14_valueOf_254 rfl rfl ?_
              refine g_lload C dX14_valueOf_255 rfl ?_
              obtain ⟨z0, hw⟩ := hw
              refine g_ldiv C z0 dX14_valueOf_257 ?_
              exact g_lret C hr dX14_valueOf_258 ⟨_, rfl, hw⟩
            · refine g_lconst C 0 (Or.inl rfl) rfl dX14_valueOf_250 ?_
              refine g_goto C 258 dX14_valueOf_251 rfl ?_
              exact g_lret C hr dX14_valueOf_258 ⟨_, rfl, hw⟩
          · refine g_lload C dX14_valueOf_228 rfl ?_
            refine g_lconst C 0 (Or.inl rfl) rfl dX14_valueOf_230 ?_
            refine g_lcmp C dX14_valueOf_231 ?_
            refine g_if_ne C 239 dX14_valueOf_232 rfl hw (fun hw => ?_) (fun hw => ?_)
            · refine g_iconst C ⟨by decide, by decide⟩ dX14_valueOf_239 ?_
              refine gp_X14_407 C dX14_valueOf_240 kdR_0 (fun _ => (Or.inl rfl)) ?_
              refine g_heap (fun h5 eh5 => ?_)
              replace hw := hw h5 eh5
              refine g_aload_n C dX14_valueOf_243 rfl (by decide) rfl ?_
              refine gf_X14_407 C dX14_valueOf_244 kdR_0 (fun z244 => ?_)
              refine g_if_eq C 254 dX14_valueOf_247 rfl hw (fun hw => ?_) (fun hw => ?_)
              · refine g_lload_n C dX14_valueOf_254 rfl rfl ?_
                refine g_lload C dX14_valueOf_255 rfl ?_
                obtain ⟨z0, hw⟩ := hw
                refine g_ldiv C z0 dX14_valueOf_257 ?_
                exact g_lret C hr dX14_valueOf_258 ⟨_, rfl, hw⟩
              · refine g_lconst C 0 (Or.inl rfl) rfl dX14_valueOf_250 ?_
                refine g_goto C 258 dX14_valueOf_251 rfl ?_
                exact g_lret C hr dX14_valueOf_258 ⟨_, rfl, hw⟩
            · refine g_iconst C ⟨by decide, by decide⟩ dX14_valueOf_235 ?_
              refine g_goto C 240 dX14_valueOf_236 rfl ?_
              refine gp_X14_407 C dX14_valueOf_240 kdR_0 (fun _ => (Or.inr rfl)) ?_
              refine g_heap (fun h6 eh6 => ?_)
              replace hw := hw h6 eh6
              refine g_aload_n C dX14_valueOf_243 rfl (by decide) rfl ?_
              refine gf_X14_407 C dX14_valueOf_244 kdR_0 (fun z244 => ?_)
              refine g_if_eq C 254 dX14_valueOf_247 rfl hw (fun hw => ?_) (fun hw => ?_)
              · refine g_lload_n C dX14_valueOf_254 rfl rfl ?_
                refine g_lload C dX14_valueOf_255 rfl ?_
                obtain ⟨z0, hw⟩ := hw
                refine g_ldiv C z0 dX14_valueOf_257 ?_
                exact g_lret C hr dX14_valueOf_258 ⟨_, rfl, hw⟩
              · refine g_lconst C 0 (Or.inl rfl) rfl dX14_valueOf_250 ?_
                refine g_goto C 258 dX14_valueOf_251 rfl ?_
                exact g_lret C hr dX14_valueOf_258 ⟨_, rfl, hw⟩
        rw [if_neg c11] at hw
        refine g_tabOut C 259 dX14_valueOf_92 (by omega) rfl ?_
        exact g_sub [2, 4, 0, 1] rfl (hQ _ hw)
      · refine g_lload_n C dX14_valueOf_61 rfl rfl ?_
        refine g_lconst C 0 (Or.inl rfl) rfl dX14_valueOf_62 ?_
        refine g_lcmp C dX14_valueOf_63 ?_
        refine g_if_ne C 71 dX14_valueOf_64 rfl hw (fun hw => ?_) (fun hw => ?_)
        · refine g_lconst C 0 (Or.inl rfl) rfl dX14_valueOf_71 ?_
          exact g_lret C hr dX14_valueOf_72 ⟨_, rfl, hw⟩
        · refine g_lconst C 1 (Or.inr rfl) rfl dX14_valueOf_67 ?_
          refine g_goto C 72 dX14_valueOf_68 rfl ?_
          exact g_lret C hr dX14_valueOf_72 ⟨_, rfl, hw⟩
    · refine g_aload_n C dX14_valueOf_27 rfl (by decide) rfl ?_
      refine gw_X14_96 C dX14_valueOf_28 kdR_0 wwR_0_71 ?_
      refine g_aload_n C dX14_valueOf_31 rfl (by decide) rfl ?_
      refine gw_X14_84 C dX14_valueOf_32 kdR_0 wwR_0_60 ?_
      refine g_iload_n C dX14_valueOf_35 rfl rfl ?_
      obtain ⟨⟨b9, b9b⟩, hw⟩ := hw
      refine g_iaload C dX14_valueOf_36 kdR_24 b9 b9b (fun z36 => ?_)
      obtain ⟨⟨b10, b10b⟩, hw⟩ := hw
      refine g_laload C dX14_valueOf_37 kdR_28 b10 b10b (fun z37 => ?_)
      exact g_lret C hr dX14_valueOf_38 ⟨_, rfl, hw⟩
  · refine g_aload_n C dX14_valueOf_9 rfl (by decide) rfl ?_
    refine gw_X14_84 C dX14_valueOf_10 kdR_0 wwR_0_60 ?_
    refine g_iload_n C dX14_valueOf_13 rfl rfl ?_
    obtain ⟨⟨b11, b11b⟩, hw⟩ := hw
    refine g_iaload C dX14_valueOf_14 kdR_24 b11 b11b (fun z14 => ?_)
    refine g_i2l C dX14_valueOf_15 ?_
    exact g_lret C hr dX14_valueOf_16 ⟨_, rfl, hw⟩
set_option maxRecDepth 20000 in
set_option maxHeartbeats 4000000 in
theorem sim_X14_lawOf {z : Mz} {l : Launch} {p1 : Int} {p2 : Int} {p3 : Int} {h : Mh} {K : Int → Mh → Prop} (hw : wp_X14_lawOf p1 p2 p3 h K) : mCal (XR z) l yX14_lawOf cX14_lawOf 6 (some Jvm.ClassFile.FieldType.long) 3 76 [(2, 0), (0, p1), (0, p2), (0, p3)] h (mKl K) := by
  refine m_entry RX14 rfl (by decide) rfl (fun p e s m args below meth c C hr => ?_)
  have hQ : ∀ x, Lfp (F_X14_lawOf p1 p2 p3 K) x → (match x.1, x.2.1 with | 97, [v5] => mG (XR z) p l e { frames := 3, cells := 0, slots := 0, locals := 76 } s m args below meth c 6 (mMQ (XR z) (mKl K) below args s) 97 [(5, (0, v5)), (0, (2, 0)), (1, (0, p1)), (2, (0, p2)), (3, (0, p3))] [] x.2.2 | _, _ => True) := by
    intro x hx
    refine Lfp.ind (fun x => (match x.1, x.2.1 with | 97, [v5] => mG (XR z) p l e { frames := 3, cells := 0, slots := 0, locals := 76 } s m args below meth c 6 (mMQ (XR z) (mKl K) below args s) 97 [(5, (0, v5)), (0, (2, 0)), (1, (0, p1)), (2, (0, p2)), (3, (0, p3))] [] x.2.2 | _, _ => True)) ?_ hx
    clear hx x
    intro Z x hQ hw
    rcases hw with ⟨v5, h, rfl, hw⟩
    · show mG (XR z) p l e { frames := 3, cells := 0, slots := 0, locals := 76 } s m args below meth c 6 (mMQ (XR z) (mKl K) below args s) 97 [(5, (0, v5)), (0, (2, 0)), (1, (0, p1)), (2, (0, p2)), (3, (0, p3))] [] h
      unfold B_X14_lawOf_97 at hw
      refine g_iload C dX14_lawOf_97 rfl ?_
      refine g_aload_n C dX14_lawOf_99 rfl (by decide) rfl ?_
      refine gf_X14_279 C dX14_lawOf_100 kdR_0 (fun z100 => ?_)
      refine g_icmp_ge C 125 dX14_lawOf_103 rfl hw (fun hw => ?_) (fun hw => ?_)
      · refine g_aload_n C dX14_lawOf_125 rfl (by decide) rfl ?_
        refine gf_X14_407 C dX14_lawOf_126 kdR_0 (fun z126 => ?_)
        refine g_if_eq C 136 dX14_lawOf_129 rfl hw (fun hw => ?_) (fun hw => ?_)
        · refine g_aload_n C dX14_lawOf_136 rfl (by decide) rfl ?_
          refine gw_X14_100 C dX14_lawOf_137 kdR_0 wwR_0_72 ?_
          refine g_aload_n C dX14_lawOf_140 rfl (by decide) rfl ?_
          refine gf_X14_279 C dX14_lawOf_141 kdR_0 (fun z141 => ?_)
          refine g_iconst C ⟨by decide, by decide⟩ dX14_lawOf_144 ?_
          refine g_isub C dX14_lawOf_145 ?_
          obtain ⟨⟨b2, b2b⟩, hw⟩ := hw
          refine g_laload C dX14_lawOf_146 kdR_29 b2 b2b (fun z146 => ?_)
          exact g_lret C hr dX14_lawOf_147 ⟨_, rfl, hw⟩
        · refine g_lconst C 0 (Or.inl rfl) rfl dX14_lawOf_132 ?_
          refine g_goto C 147 dX14_lawOf_133 rfl ?_
          exact g_lret C hr dX14_lawOf_147 ⟨_, rfl, hw⟩
      · refine g_aload_n C dX14_lawOf_106 rfl (by decide) rfl ?_
        refine gw_X14_100 C dX14_lawOf_107 kdR_0 wwR_0_72 ?_
        refine g_iload C dX14_lawOf_110 rfl ?_
        refine g_aload_n C dX14_lawOf_112 rfl (by decide) rfl ?_
        refine g_iload C dX14_lawOf_113 rfl ?_
        refine g_callVl C [(0, v5)] (sim_X14_valueOf hw) k_2108 k_2110 k_115 k_147 k_2111 hdV_X14_valueOf rfl rfl (by decide) rfl kdR_0 rfl rfl rfl dX14_lawOf_115 ?_
        intro x1 h1 hw
        obtain ⟨⟨b3, b3b⟩, hw⟩ := hw
        refine g_lastore C dX14_lawOf_118 kdR_29 b3 b3b (fun z => z) ?_
        refine g_heap (fun h2 eh2 => ?_)
        replace hw := hw h2 eh2
        refine g_iincN C dX14_lawOf_119 rfl (by decide) (fun x2 ex2 => ?_)
        replace hw := hw x2 ex2
        refine g_goto C 97 dX14_lawOf_122 rfl ?_
        exact g_sub [5, 0, 1, 2, 3] rfl (hQ _ hw)
  show mG _ p l e _ s m args below meth c _ _ 0 [(0, (2, 0)), (1, (0, p1)), (2, (0, p2)), (3, (0, p3))] [] h
  unfold wp_X14_lawOf at hw
  refine g_aload_n C dX14_lawOf_0 rfl (by decide) rfl ?_
  refine g_iload_n C dX14_lawOf_1 rfl rfl ?_
  refine g_iload_n C dX14_lawOf_2 rfl rfl ?_
  refine g_callVi C [(0, p1), (0, p2)] (sim_X14_nextTo hw) k_1577 k_1579 k_75 k_147 k_1580 hdV_X14_nextTo rfl rfl (by decide) rfl kdR_0 rfl rfl rfl dX14_lawOf_3 ?_
  intro x1 h1 hw
  refine g_istore C dX14_lawOf_6 (by decide) ?_
  refine g_aload_n C dX14_lawOf_8 rfl (by decide) rfl ?_
  refine g_iconst C ⟨by decide, by decide⟩ dX14_lawOf_9 ?_
  refine gp_X14_407 C dX14_lawOf_10 kdR_0 (fun _ => (Or.inl rfl)) ?_
  refine g_heap (fun h2 eh2 => ?_)
  replace hw := hw h2 eh2
  refine g_aload_n C dX14_lawOf_13 rfl (by decide) rfl ?_
  refine gf_X14_291 C dX14_lawOf_14 kdR_0 (fun z14 => ?_)
  refine g_if_ne C 29 dX14_lawOf_17 rfl hw (fun hw => ?_) (fun hw => ?_)
  · refine g_aload_n C dX14_lawOf_29 rfl (by decide) rfl ?_
    refine gw_X14_96 C dX14_lawOf_30 kdR_0 wwR_0_71 ?_
    refine g_iconst C ⟨by decide, by decide⟩ dX14_lawOf_33 ?_
    refine g_aload_n C dX14_lawOf_34 rfl (by decide) rfl ?_
    refine g_iload C dX14_lawOf_35 rfl ?_
    refine g_iload_n C dX14_lawOf_37 rfl rfl ?_
    refine g_callVi C [(0, x1), (0, p3)] (sim_X14_riseIn hw) k_2066 k_2068 k_108 k_147 k_2069 hdV_X14_riseIn rfl rfl (by decide) rfl kdR_0 rfl rfl rfl dX14_lawOf_38 ?_
    intro x2 h3 hw
    refine g_i2l C dX14_lawOf_41 ?_
    refine g_lastore C dX14_lawOf_42 kdR_28 (by decide) (show (0 : Int) < ((5 : Nat) : Int) from by decide) (fun z => z) ?_
    refine g_heap (fun h4 eh4 => ?_)
    replace hw := hw h4 eh4
    refine g_aload_n C dX14_lawOf_43 rfl (by decide) rfl ?_
    refine gw_X14_96 C dX14_lawOf_44 kdR_0 wwR_0_71 ?_
    refine g_iconst C ⟨by decide, by decide⟩ dX14_lawOf_47 ?_
    refine g_aload_n C dX14_lawOf_48 rfl (by decide) rfl ?_
    refine g_iload_n C dX14_lawOf_49 rfl rfl ?_
    refine g_iload_n C dX14_lawOf_50 rfl rfl ?_
    refine g_callVi C [(0, p1), (0, p3)] (sim_X14_riseIn hw) k_2066 k_2068 k_108 k_147 k_2069 hdV_X14_riseIn rfl rfl (by decide) rfl kdR_0 rfl rfl rfl dX14_lawOf_51 ?_
    intro x3 h5 hw
    refine g_i2l C dX14_lawOf_54 ?_
    refine g_lastore C dX14_lawOf_55 kdR_28 (by decide) (show (1 : Int) < ((5 : Nat) : Int) from by decide) (fun z => z) ?_
    refine g_heap (fun h6 eh6 => ?_)
    replace hw := hw h6 eh6
    refine g_aload_n C dX14_lawOf_56 rfl (by decide) rfl ?_
    refine gw_X14_96 C dX14_lawOf_57 kdR_0 wwR_0_71 ?_
    refine g_iconst C ⟨by decide, by decide⟩ dX14_lawOf_60 ?_
    refine g_aload_n C dX14_lawOf_61 rfl (by decide) rfl ?_
    refine gw_X14_27 C dX14_lawOf_62 kdR_0 wwR_0_41 ?_
    refine g_iload C dX14_lawOf_65 rfl ?_
    obtain ⟨⟨b1, b1b⟩, hw⟩ := hw
    refine g_iaload C dX14_lawOf_67 kdR_5 b1 b1b (fun z67 => ?_)
    refine g_iconst C ⟨by decide, by decide⟩ dX14_lawOf_68 ?_
    refine g_icmp_ne C 76 dX14_lawOf_69 rfl hw (fun hw => ?_) (fun hw => ?_)
    · refine g_lconst C 0 (Or.inl rfl) rfl dX14_lawOf_76 ?_
      refine g_lastore C dX14_lawOf_77 kdR_28 (by decide) (show (2 : Int) < ((5 : Nat) : Int) from by decide) (fun z => z) ?_
      refine g_heap (fun h7 eh7 => ?_)
      replace hw := hw h7 eh7
      refine g_aload_n C dX14_lawOf_78 rfl (by decide) rfl ?_
      refine gw_X14_96 C dX14_lawOf_79 kdR_0 wwR_0_71 ?_
      refine g_iconst C ⟨by decide, by decide⟩ dX14_lawOf_82 ?_
      refine g_iload_n C dX14_lawOf_83 rfl rfl ?_
      refine g_i2l C dX14_lawOf_84 ?_
      refine g_lastore C dX14_lawOf_85 kdR_28 (by decide) (show (3 : Int) < ((5 : Nat) : Int) from by decide) (fun z => z) ?_
      refine g_heap (fun h8 eh8 => ?_)
      replace hw := hw h8 eh8
      refine g_aload_n C dX14_lawOf_86 rfl (by decide) rfl ?_
      refine gw_X14_96 C dX14_lawOf_87 kdR_0 wwR_0_71 ?_
      refine g_iconst C ⟨by decide, by decide⟩ dX14_lawOf_90 ?_
      refine g_iload_n C dX14_lawOf_91 rfl rfl ?_
      refine g_i2l C dX14_lawOf_92 ?_
      refine g_lastore C dX14_lawOf_93 kdR_28 (by decide) (show (4 : Int) < ((5 : Nat) : Int) from by decide) (fun z => z) ?_
      refine g_heap (fun h9 eh9 => ?_)
      replace hw := hw h9 eh9
      refine g_iconst C ⟨by decide, by decide⟩ dX14_lawOf_94 ?_
      refine g_istore C dX14_lawOf_95 (by decide) ?_
      exact g_sub [5, 0, 1, 2, 3] rfl (hQ _ hw)
    · refine g_lconst C 1 (Or.inr rfl) rfl dX14_lawOf_72 ?_
      refine g_goto C 77 dX14_lawOf_73 rfl ?_
      refine g_lastore C dX14_lawOf_77 kdR_28 (by decide) (show (2 : Int) < ((5 : Nat) : Int) from by decide) (fun z => z) ?_
      refine g_heap (fun h10 eh10 => ?_)
      replace hw := hw h10 eh10
      refine g_aload_n C dX14_lawOf_78 rfl (by decide) rfl ?_
      refine gw_X14_96 C dX14_lawOf_79 kdR_0 wwR_0_71 ?_
      refine g_iconst C ⟨by decide, by decide⟩ dX14_lawOf_82 ?_
      refine g_iload_n C dX14_lawOf_83 rfl rfl ?_
      refine g_i2l C dX14_lawOf_84 ?_
      refine g_lastore C dX14_lawOf_85 kdR_28 (by decide) (show (3 : Int) < ((5 : Nat) : Int) from by decide) (fun z => z) ?_
      refine g_heap (fun h11 eh11 => ?_)
      replace hw := hw h11 eh11
      refine g_aload_n C dX14_lawOf_86 rfl (by decide) rfl ?_
      refine gw_X14_96 C dX14_lawOf_87 kdR_0 wwR_0_71 ?_
      refine g_iconst C ⟨by decide, by decide⟩ dX14_lawOf_90 ?_
      refine g_iload_n C dX14_lawOf_91 rfl rfl ?_
      refine g_i2l C dX14_lawOf_92 ?_
      refine g_lastore C dX14_lawOf_93 kdR_28 (by decide) (show (4 : Int) < ((5 : Nat) : Int) from by decide) (fun z => z) ?_
      refine g_heap (fun h12 eh12 => ?_)
      replace hw := hw h12 eh12
      refine g_iconst C ⟨by decide, by decide⟩ dX14_lawOf_94 ?_
      refine g_istore C dX14_lawOf_95 (by decide) ?_
      exact g_sub [5, 0, 1, 2, 3] rfl (hQ _ hw)
  · refine g_aload_n C dX14_lawOf_20 rfl (by decide) rfl ?_
    refine g_iload C dX14_lawOf_21 rfl ?_
    refine g_iload_n C dX14_lawOf_23 rfl rfl ?_
    refine g_callVi C [(0, x1), (0, p3)] (sim_X14_riseIn hw) k_2066 k_2068 k_108 k_147 k_2069 hdV_X14_riseIn rfl rfl (by decide) rfl kdR_0 rfl rfl rfl dX14_lawOf_24 ?_
    intro x4 h13 hw
    refine g_i2l C dX14_lawOf_27 ?_
    exact g_lret C hr dX14_lawOf_28 ⟨_, rfl, hw⟩
set_option maxRecDepth 20000 in
set_option maxHeartbeats 4000000 in
theorem sim_X14_goesFrom {z : Mz} {l : Launch} {p1 : Int} {p2 : Int} {h : Mh} {K : Int → Mh → Prop} (hw : wp_X14_goesFrom p1 p2 h K) : mCal (XR z) l yX14_goesFrom cX14_goesFrom 10 (some Jvm.ClassFile.FieldType.int) 4 101 [(2, 0), (0, p1), (0, p2)] h (mKi K) := by
  refine m_entry RX14 rfl (by decide) rfl (fun p e s m args below meth c C hr => ?_)
  have hQ : ∀ x, Lfp (F_X14_goesFrom p1 p2 K) x → (match x.1, x.2.1 with | 8, [v3, v4, v6] => mG (XR z) p l e { frames := 4, cells := 0, slots := 0, locals := 101 } s m args below meth c 10 (mMQ (XR z) (mKi K) below args s) 8 [(3, (0, v3)), (4, (1, v4)), (6, (0, v6)), (0, (2, 0)), (1, (0, p1)), (2, (0, p2))] [] x.2.2 | _, _ => True) := by
    intro x hx
    refine Lfp.ind (fun x => (match x.1, x.2.1 with | 8, [v3, v4, v6] => mG (XR z) p l e { frames := 4, cells := 0, slots := 0, locals := 101 } s m args below meth c 10 (mMQ (XR z) (mKi K) below args s) 8 [(3, (0, v3)), (4, (1, v4)), (6, (0, v6)), (0, (2, 0)), (1, (0, p1)), (2, (0, p2))] [] x.2.2 | _, _ => True)) ?_ hx
    clear hx x
    intro Z x hQ hw
    rcases hw with ⟨v3, v4, v6, h, rfl, hw⟩
    · show mG (XR z) p l e { frames := 4, cells := 0, slots := 0, locals := 101 } s m args below meth c 10 (mMQ (XR z) (mKi K) below args s) 8 [(3, (0, v3)), (4, (1, v4)), (6, (0, v6)), (0, (2, 0)), (1, (0, p1)), (2, (0, p2))] [] h
      unfold B_X14_goesFrom_8 at hw
      refine g_iload C dX14_goesFrom_8 rfl ?_
      refine g_iconst C ⟨by decide, by decide⟩ dX14_goesFrom_10 ?_
      refine g_icmp_ge C 69 dX14_goesFrom_11 rfl hw (fun hw => ?_) (fun hw => ?_)
      · refine g_iload_n C dX14_goesFrom_69 rfl rfl ?_
        exact g_iret C hr dX14_goesFrom_70 ⟨_, rfl, hw⟩
      · refine g_aload_n C dX14_goesFrom_14 rfl (by decide) rfl ?_
        refine g_iload_n C dX14_goesFrom_15 rfl rfl ?_
        refine g_iload C dX14_goesFrom_16 rfl ?_
        refine g_callVi C [(0, p1), (0, v6)] (sim_X14_nextTo hw) k_1577 k_1579 k_75 k_147 k_1580 hdV_X14_nextTo rfl rfl (by decide) rfl kdR_0 rfl rfl rfl dX14_goesFrom_18 ?_
        intro x1 h1 hw
        refine g_istore C dX14_goesFrom_21 (by decide) ?_
        refine g_iload C dX14_goesFrom_23 rfl ?_
        refine g_if_ge C 31 dX14_goesFrom_25 rfl hw (fun hw => ?_) (fun hw => ?_)
        · refine g_aload_n C dX14_goesFrom_31 rfl (by decide) rfl ?_
          refine g_iload_n C dX14_goesFrom_32 rfl rfl ?_
          refine g_iload C dX14_goesFrom_33 rfl ?_
          refine g_iload_n C dX14_goesFrom_35 rfl rfl ?_
          refine g_callVl C [(0, p1), (0, v6), (0, p2)] (sim_X14_lawOf hw) k_2104 k_2106 k_114 k_147 k_2107 hdV_X14_lawOf rfl rfl (by decide) rfl kdR_0 rfl rfl rfl dX14_goesFrom_36 ?_
          intro x2 h2 hw
          refine g_lstore C dX14_goesFrom_39 (by decide) ?_
          refine g_iload_n C dX14_goesFrom_41 rfl rfl ?_
          refine g_if_lt C 56 dX14_goesFrom_42 rfl hw (fun hw => ?_) (fun hw => ?_)
          · refine g_iload C dX14_goesFrom_56 rfl ?_
            refine g_istore_n C dX14_goesFrom_58 rfl (by decide) ?_
            refine g_lload C dX14_goesFrom_59 rfl ?_
            refine g_lstore C dX14_goesFrom_61 (by decide) ?_
            refine g_iincN C dX14_goesFrom_63 rfl (by decide) (fun x3 ex3 => ?_)
            replace hw := hw x3 ex3
            refine g_goto C 8 dX14_goesFrom_66 rfl ?_
            exact g_sub [3, 4, 6, 0, 1, 2] rfl (hQ _ hw)
          · refine g_lload C dX14_goesFrom_45 rfl ?_
            refine g_lload C dX14_goesFrom_47 rfl ?_
            refine g_lcmp C dX14_goesFrom_49 ?_
            refine g_if_gt C 56 dX14_goesFrom_50 rfl hw (fun hw => ?_) (fun hw => ?_)
            · refine g_iload C dX14_goesFrom_56 rfl ?_
              refine g_istore_n C dX14_goesFrom_58 rfl (by decide) ?_
              refine g_lload C dX14_goesFrom_59 rfl ?_
              refine g_lstore C dX14_goesFrom_61 (by decide) ?_
              refine g_iincN C dX14_goesFrom_63 rfl (by decide) (fun x4 ex4 => ?_)
              replace hw := hw x4 ex4
              refine g_goto C 8 dX14_goesFrom_66 rfl ?_
              exact g_sub [3, 4, 6, 0, 1, 2] rfl (hQ _ hw)
            · refine g_goto C 63 dX14_goesFrom_53 rfl ?_
              refine g_iincN C dX14_goesFrom_63 rfl (by decide) (fun x5 ex5 => ?_)
              replace hw := hw x5 ex5
              refine g_goto C 8 dX14_goesFrom_66 rfl ?_
              exact g_sub [3, 4, 6, 0, 1, 2] rfl (hQ _ hw)
        · refine g_goto C 63 dX14_goesFrom_28 rfl ?_
          refine g_iincN C dX14_goesFrom_63 rfl (by decide) (fun x6 ex6 => ?_)
          replace hw := hw x6 ex6
          refine g_goto C 8 dX14_goesFrom_66 rfl ?_
          exact g_sub [3, 4, 6, 0, 1, 2] rfl (hQ _ hw)
  show mG _ p l e _ s m args below meth c _ _ 0 [(0, (2, 0)), (1, (0, p1)), (2, (0, p2))] [] h
  unfold wp_X14_goesFrom at hw
  refine g_iconst C ⟨by decide, by decide⟩ dX14_goesFrom_0 ?_
  refine g_istore_n C dX14_goesFrom_1 rfl (by decide) ?_
  refine g_lconst C 0 (Or.inl rfl) rfl dX14_goesFrom_2 ?_
  refine g_lstore C dX14_goesFrom_3 (by decide) ?_
  refine g_iconst C ⟨by decide, by decide⟩ dX14_goesFrom_5 ?_
  refine g_istore C dX14_goesFrom_6 (by decide) ?_
  exact g_sub [3, 4, 6, 0, 1, 2] rfl (hQ _ hw)
set_option maxRecDepth 20000 in
set_option maxHeartbeats 4000000 in
theorem sim_X14_comesTo {z : Mz} {l : Launch} {p1 : Int} {p2 : Int} {p3 : Int} {h : Mh} {K : Int → Mh → Prop} (hw : wp_X14_comesTo p1 p2 p3 h K) : mCal (XR z) l yX14_comesTo cX14_comesTo 6 (some Jvm.ClassFile.FieldType.int) 5 130 [(2, 0), (0, p1), (0, p2), (0, p3)] h (mKi K) := by
  refine m_entry RX14 rfl (by decide) rfl (fun p e s m args below meth c C hr => ?_)
  have hQ : ∀ x, Lfp (F_X14_comesTo p1 p2 p3 K) x → (match x.1, x.2.1 with | 11, [v4, v5] => mG (XR z) p l e { frames := 5, cells := 0, slots := 0, locals := 130 } s m args below meth c 6 (mMQ (XR z) (mKi K) below args s) 11 [(4, (0, v4)), (5, (0, v5)), (0, (2, 0)), (1, (0, p1)), (2, (0, p2)), (3, (0, p3))] [] x.2.2 | _, _ => True) := by
    intro x hx
    refine Lfp.ind (fun x => (match x.1, x.2.1 with | 11, [v4, v5] => mG (XR z) p l e { frames := 5, cells := 0, slots := 0, locals := 130 } s m args below meth c 6 (mMQ (XR z) (mKi K) below args s) 11 [(4, (0, v4)), (5, (0, v5)), (0, (2, 0)), (1, (0, p1)), (2, (0, p2)), (3, (0, p3))] [] x.2.2 | _, _ => True)) ?_ hx
    clear hx x
    intro Z x hQ hw
    rcases hw with ⟨v4, v5, h, rfl, hw⟩
    · show mG (XR z) p l e { frames := 5, cells := 0, slots := 0, locals := 130 } s m args below meth c 6 (mMQ (XR z) (mKi K) below args s) 11 [(4, (0, v4)), (5, (0, v5)), (0, (2, 0)), (1, (0, p1)), (2, (0, p2)), (3, (0, p3))] [] h
      unfold B_X14_comesTo_11 at hw
      refine g_iload C dX14_comesTo_11 rfl ?_
      refine g_iload_n C dX14_comesTo_13 rfl rfl ?_
      refine g_icmp_eq C 39 dX14_comesTo_14 rfl hw (fun hw => ?_) (fun hw => ?_)
      · refine g_iload C dX14_comesTo_39 rfl ?_
        refine g_iload_n C dX14_comesTo_41 rfl rfl ?_
        refine g_icmp_ne C 50 dX14_comesTo_42 rfl hw (fun hw => ?_) (fun hw => ?_)
        · refine g_iconst C ⟨by decide, by decide⟩ dX14_comesTo_50 ?_
          exact g_iret C hr dX14_comesTo_51 ⟨_, rfl, hw⟩
        · refine g_iload C dX14_comesTo_45 rfl ?_
          refine g_goto C 51 dX14_comesTo_47 rfl ?_
          exact g_iret C hr dX14_comesTo_51 ⟨_, rfl, hw⟩
      · refine g_iload C dX14_comesTo_17 rfl ?_
        refine g_iload_n C dX14_comesTo_19 rfl rfl ?_
        refine g_icmp_ge C 39 dX14_comesTo_20 rfl hw (fun hw => ?_) (fun hw => ?_)
        · refine g_iload C dX14_comesTo_39 rfl ?_
          refine g_iload_n C dX14_comesTo_41 rfl rfl ?_
          refine g_icmp_ne C 50 dX14_comesTo_42 rfl hw (fun hw => ?_) (fun hw => ?_)
          · refine g_iconst C ⟨by decide, by decide⟩ dX14_comesTo_50 ?_
            exact g_iret C hr dX14_comesTo_51 ⟨_, rfl, hw⟩
          · refine g_iload C dX14_comesTo_45 rfl ?_
            refine g_goto C 51 dX14_comesTo_47 rfl ?_
            exact g_iret C hr dX14_comesTo_51 ⟨_, rfl, hw⟩
        · refine g_aload_n C dX14_comesTo_23 rfl (by decide) rfl ?_
          refine g_iload C dX14_comesTo_24 rfl ?_
          refine g_iload C dX14_comesTo_26 rfl ?_
          refine g_callVi C [(0, v4), (0, v5)] (sim_X14_goesFrom hw) k_2129 k_2131 k_118 k_147 k_2132 hdV_X14_goesFrom rfl rfl (by decide) rfl kdR_0 rfl rfl rfl dX14_comesTo_28 ?_
          intro x1 h1 hw
          refine g_istore C dX14_comesTo_31 (by decide) ?_
          refine g_iincN C dX14_comesTo_33 rfl (by decide) (fun x2 ex2 => ?_)
          replace hw := hw x2 ex2
          refine g_goto C 11 dX14_comesTo_36 rfl ?_
          exact g_sub [4, 5, 0, 1, 2, 3] rfl (hQ _ hw)
  show mG _ p l e _ s m args below meth c _ _ 0 [(0, (2, 0)), (1, (0, p1)), (2, (0, p2)), (3, (0, p3))] [] h
  unfold wp_X14_comesTo at hw
  refine g_aload_n C dX14_comesTo_0 rfl (by decide) rfl ?_
  refine gw_X14_60 C dX14_comesTo_1 kdR_0 wwR_0_52 ?_
  refine g_iload_n C dX14_comesTo_4 rfl rfl ?_
  obtain ⟨⟨b1, b1b⟩, hw⟩ := hw
  refine g_iaload C dX14_comesTo_5 kdR_16 b1 b1b (fun z5 => ?_)
  refine g_topi (fun x1 ex1 => ?_)
  replace hw := hw x1 ex1
  refine g_istore C dX14_comesTo_6 (by decide) ?_
  refine g_iconst C ⟨by decide, by decide⟩ dX14_comesTo_8 ?_
  refine g_istore C dX14_comesTo_9 (by decide) ?_
  exact g_sub [4, 5, 0, 1, 2, 3] rfl (hQ _ hw)
set_option maxRecDepth 20000 in
set_option maxHeartbeats 4000000 in
theorem sim_X14_copies {z : Mz} {l : Launch} {p0 : Int} {p1 : Int} {h : Mh} {K : Mh → Prop} (hw : wp_X14_copies p0 p1 h K) : mCal (XR z) l yX14_copies cX14_copies 3 none 0 0 [(2, p0), (0, p1)] h (mKv K) := by
  refine m_entry RX14 rfl (by decide) rfl (fun p e s m args below meth c C hr => ?_)
  have hQ : ∀ x, Lfp (F_X14_copies p0 p1 K) x → (match x.1, x.2.1 with | 2, [v2] => mG (XR z) p l e { frames := 0, cells := 0, slots := 0, locals := 0 } s m args below meth c 3 (mMQ (XR z) (mKv K) below args s) 2 [(2, (0, v2)), (0, (2, p0)), (1, (0, p1))] [] x.2.2 | _, _ => True) := by
    intro x hx
    refine Lfp.ind (fun x => (match x.1, x.2.1 with | 2, [v2] => mG (XR z) p l e { frames := 0, cells := 0, slots := 0, locals := 0 } s m args below meth c 3 (mMQ (XR z) (mKv K) below args s) 2 [(2, (0, v2)), (0, (2, p0)), (1, (0, p1))] [] x.2.2 | _, _ => True)) ?_ hx
    clear hx x
    intro Z x hQ hw
    rcases hw with ⟨v2, h, rfl, hw⟩
    · show mG (XR z) p l e { frames := 0, cells := 0, slots := 0, locals := 0 } s m args below meth c 3 (mMQ (XR z) (mKv K) below args s) 2 [(2, (0, v2)), (0, (2, p0)), (1, (0, p1))] [] h
      unfold B_X14_copies_2 at hw
      refine g_iload_n C dX14_copies_2 rfl rfl ?_
      refine g_iload_n C dX14_copies_3 rfl rfl ?_
      refine g_icmp_ge C 21 dX14_copies_4 rfl hw (fun hw => ?_) (fun hw => ?_)
      · exact g_vret C hr dX14_copies_21 ⟨rfl, hw⟩
      · refine g_aload_n C dX14_copies_7 rfl (by decide) rfl ?_
        refine g_iload_n C dX14_copies_8 rfl rfl ?_
        refine g_aload_n C dX14_copies_9 rfl (by decide) rfl ?_
        refine g_iload_n C dX14_copies_10 rfl rfl ?_
        refine g_iload_n C dX14_copies_11 rfl rfl ?_
        refine g_iadd C dX14_copies_12 ?_
        obtain ⟨q1, hw⟩ := hw
        obtain ⟨⟨b1, b1b⟩, hw⟩ := hw
        refine g_iaload C dX14_copies_13 q1 b1 b1b (fun z13 => ?_)
        obtain ⟨⟨b2, b2b⟩, hw⟩ := hw
        refine g_iastore C dX14_copies_14 q1 b2 b2b (fun z => z) ?_
        refine g_heap (fun h1 eh1 => ?_)
        replace hw := hw h1 eh1
        refine g_iincN C dX14_copies_15 rfl (by decide) (fun x1 ex1 => ?_)
        replace hw := hw x1 ex1
        refine g_goto C 2 dX14_copies_18 rfl ?_
        exact g_sub [2, 0, 1] rfl (hQ _ hw)
  show mG _ p l e _ s m args below meth c _ _ 0 [(0, (2, p0)), (1, (0, p1))] [] h
  unfold wp_X14_copies at hw
  refine g_iconst C ⟨by decide, by decide⟩ dX14_copies_0 ?_
  refine g_istore_n C dX14_copies_1 rfl (by decide) ?_
  exact g_sub [2, 0, 1] rfl (hQ _ hw)
set_option maxRecDepth 20000 in
set_option maxHeartbeats 4000000 in
theorem sim_X14_knownBy {z : Mz} {l : Launch} {h : Mh} {K : Int → Mh → Prop} (hw : wp_X14_knownBy h K) : mCal (XR z) l yX14_knownBy cX14_knownBy 1 (some Jvm.ClassFile.FieldType.int) 0 0 [(2, 0)] h (mKi K) := by
  refine m_entry RX14 rfl (by decide) rfl (fun p e s m args below meth c C hr => ?_)
  show mG _ p l e _ s m args below meth c _ _ 0 [(0, (2, 0))] [] h
  unfold wp_X14_knownBy at hw
  refine g_aload_n C dX14_knownBy_0 rfl (by decide) rfl ?_
  refine gf_X14_118 C dX14_knownBy_1 kdR_0 (fun z1 => ?_)
  refine g_if_ge C 14 dX14_knownBy_4 rfl hw (fun hw => ?_) (fun hw => ?_)
  · refine g_aload_n C dX14_knownBy_14 rfl (by decide) rfl ?_
    refine gf_X14_118 C dX14_knownBy_15 kdR_0 (fun z15 => ?_)
    exact g_iret C hr dX14_knownBy_18 ⟨_, rfl, hw⟩
  · refine g_aload_n C dX14_knownBy_7 rfl (by decide) rfl ?_
    refine gf_X14_304 C dX14_knownBy_8 kdR_0 (fun z8 => ?_)
    refine g_goto C 18 dX14_knownBy_11 rfl ?_
    exact g_iret C hr dX14_knownBy_18 ⟨_, rfl, hw⟩
set_option maxRecDepth 20000 in
set_option maxHeartbeats 4000000 in
theorem sim_X14_manyReeds {z : Mz} {l : Launch} {h : Mh} {K : Int → Mh → Prop} (hw : wp_X14_manyReeds h K) : mCal (XR z) l yX14_manyReeds cX14_manyReeds 3 (some Jvm.ClassFile.FieldType.int) 1 20 [(2, 0)] h (mKi K) := by
  refine m_entry RX14 rfl (by decide) rfl (fun p e s m args below meth c C hr => ?_)
  have hQ : ∀ x, Lfp (F_X14_manyReeds K) x → (match x.1, x.2.1 with | 4, [v1, v2] => mG (XR z) p l e { frames := 1, cells := 0, slots := 0, locals := 20 } s m args below meth c 3 (mMQ (XR z) (mKi K) below args s) 4 [(1, (0, v1)), (2, (0, v2)), (0, (2, 0))] [] x.2.2 | _, _ => True) := by
    intro x hx
    refine Lfp.ind (fun x => (match x.1, x.2.1 with | 4, [v1, v2] => mG (XR z) p l e { frames := 1, cells := 0, slots := 0, locals := 20 } s m args below meth c 3 (mMQ (XR z) (mKi K) below args s) 4 [(1, (0, v1)), (2, (0, v2)), (0, (2, 0))] [] x.2.2 | _, _ => True)) ?_ hx
    clear hx x
    intro Z x hQ hw
    rcases hw with ⟨v1, v2, h, rfl, hw⟩
    · show mG (XR z) p l e { frames := 1, cells := 0, slots := 0, locals := 20 } s m args below meth c 3 (mMQ (XR z) (mKi K) below args s) 4 [(1, (0, v1)), (2, (0, v2)), (0, (2, 0))] [] h
      unfold B_X14_manyReeds_4 at hw
      refine g_iload_n C dX14_manyReeds_4 rfl rfl ?_
      refine g_aload_n C dX14_manyReeds_5 rfl (by decide) rfl ?_
      refine g_callVi C [] (sim_X14_cells hw) k_1569 k_1571 k_73 k_147 k_1572 hdV_X14_cells rfl rfl (by decide) rfl kdR_0 rfl rfl rfl dX14_manyReeds_6 ?_
      intro x1 h1 hw
      refine g_icmp_ge C 36 dX14_manyReeds_9 rfl hw (fun hw => ?_) (fun hw => ?_)
      · refine g_iload_n C dX14_manyReeds_36 rfl rfl ?_
        exact g_iret C hr dX14_manyReeds_37 ⟨_, rfl, hw⟩
      · refine g_iload_n C dX14_manyReeds_12 rfl rfl ?_
        refine g_aload_n C dX14_manyReeds_13 rfl (by decide) rfl ?_
        refine gw_X14_27 C dX14_manyReeds_14 kdR_0 wwR_0_41 ?_
        refine g_iload_n C dX14_manyReeds_17 rfl rfl ?_
        obtain ⟨⟨b1, b1b⟩, hw⟩ := hw
        refine g_iaload C dX14_manyReeds_18 kdR_5 b1 b1b (fun z18 => ?_)
        refine g_iconst C ⟨by decide, by decide⟩ dX14_manyReeds_19 ?_
        refine g_icmp_ne C 27 dX14_manyReeds_20 rfl hw (fun hw => ?_) (fun hw => ?_)
        · refine g_iconst C ⟨by decide, by decide⟩ dX14_manyReeds_27 ?_
          refine g_iadd C dX14_manyReeds_28 ?_
          refine g_topi (fun x2 ex2 => ?_)
          replace hw := hw x2 ex2
          refine g_istore_n C dX14_manyReeds_29 rfl (by decide) ?_
          refine g_iincN C dX14_manyReeds_30 rfl (by decide) (fun x3 ex3 => ?_)
          replace hw := hw x3 ex3
          refine g_goto C 4 dX14_manyReeds_33 rfl ?_
          exact g_sub [1, 2, 0] rfl (hQ _ hw)
        · refine g_iconst C ⟨by decide, by decide⟩ dX14_manyReeds_23 ?_
          refine g_goto C 28 dX14_manyReeds_24 rfl ?_
          refine g_iadd C dX14_manyReeds_28 ?_
          refine g_topi (fun x4 ex4 => ?_)
          replace hw := hw x4 ex4
          refine g_istore_n C dX14_manyReeds_29 rfl (by decide) ?_
          refine g_iincN C dX14_manyReeds_30 rfl (by decide) (fun x5 ex5 => ?_)
          replace hw := hw x5 ex5
          refine g_goto C 4 dX14_manyReeds_33 rfl ?_
          exact g_sub [1, 2, 0] rfl (hQ _ hw)
  show mG _ p l e _ s m args below meth c _ _ 0 [(0, (2, 0))] [] h
  unfold wp_X14_manyReeds at hw
  refine g_iconst C ⟨by decide, by decide⟩ dX14_manyReeds_0 ?_
  refine g_istore_n C dX14_manyReeds_1 rfl (by decide) ?_
  refine g_iconst C ⟨by decide, by decide⟩ dX14_manyReeds_2 ?_
  refine g_istore_n C dX14_manyReeds_3 rfl (by decide) ?_
  exact g_sub [1, 2, 0] rfl (hQ _ hw)
set_option maxRecDepth 20000 in
set_option maxHeartbeats 4000000 in
theorem sim_X14_count {z : Mz} {l : Launch} {p1 : Int} {h : Mh} {K : Int → Mh → Prop} (hw : wp_X14_count p1 h K) : mCal (XR z) l yX14_count cX14_count 2 (some Jvm.ClassFile.FieldType.int) 2 42 [(2, 0), (0, p1)] h (mKi K) := by
  refine m_entry RX14 rfl (by decide) rfl (fun p e s m args below meth c C hr => ?_)
  show mG _ p l e _ s m args below meth c _ _ 0 [(0, (2, 0)), (1, (0, p1))] [] h
  unfold wp_X14_count at hw
  refine g_aload_n C dX14_count_0 rfl (by decide) rfl ?_
  refine g_iconst C ⟨by decide, by decide⟩ dX14_count_1 ?_
  refine gp_X14_148 C dX14_count_2 kdR_0 (fun z => z) ?_
  refine g_heap (fun h1 eh1 => ?_)
  replace hw := hw h1 eh1
  refine g_iload_n C dX14_count_5 rfl rfl ?_
  by_cases c0 : p1 = 0
  · rw [if_pos c0] at hw
    refine g_tabIn C 72 0 dX14_count_6 c0 (by decide) (by decide) rfl rfl ?_
    refine g_aload_n C dX14_count_72 rfl (by decide) rfl ?_
    refine gf_X14_255 C dX14_count_73 kdR_0 (fun z73 => ?_)
    exact g_iret C hr dX14_count_76 ⟨_, rfl, hw⟩
  rw [if_neg c0] at hw
  by_cases c1 : p1 = 1
  · rw [if_pos c1] at hw
    refine g_tabIn C 77 1 dX14_count_6 c1 (by decide) (by decide) rfl rfl ?_
    refine g_aload_n C dX14_count_77 rfl (by decide) rfl ?_
    refine gf_X14_258 C dX14_count_78 kdR_0 (fun z78 => ?_)
    exact g_iret C hr dX14_count_81 ⟨_, rfl, hw⟩
  rw [if_neg c1] at hw
  by_cases c2 : p1 = 2
  · rw [if_pos c2] at hw
    refine g_tabIn C 82 2 dX14_count_6 c2 (by decide) (by decide) rfl rfl ?_
    refine g_aload_n C dX14_count_82 rfl (by decide) rfl ?_
    refine gf_X14_261 C dX14_count_83 kdR_0 (fun z83 => ?_)
    exact g_iret C hr dX14_count_86 ⟨_, rfl, hw⟩
  rw [if_neg c2] at hw
  by_cases c3 : p1 = 3
  · rw [if_pos c3] at hw
    refine g_tabIn C 87 3 dX14_count_6 c3 (by decide) (by decide) rfl rfl ?_
    refine g_aload_n C dX14_count_87 rfl (by decide) rfl ?_
    refine gf_X14_264 C dX14_count_88 kdR_0 (fun z88 => ?_)
    exact g_iret C hr dX14_count_91 ⟨_, rfl, hw⟩
  rw [if_neg c3] at hw
  by_cases c4 : p1 = 4
  · rw [if_pos c4] at hw
    refine g_tabIn C 92 4 dX14_count_6 c4 (by decide) (by decide) rfl rfl ?_
    refine g_aload_n C dX14_count_92 rfl (by decide) rfl ?_
    refine gf_X14_267 C dX14_count_93 kdR_0 (fun z93 => ?_)
    exact g_iret C hr dX14_count_96 ⟨_, rfl, hw⟩
  rw [if_neg c4] at hw
  by_cases c5 : p1 = 5
  · rw [if_pos c5] at hw
    refine g_tabIn C 97 5 dX14_count_6 c5 (by decide) (by decide) rfl rfl ?_
    refine g_aload_n C dX14_count_97 rfl (by decide) rfl ?_
    refine gf_X14_298 C dX14_count_98 kdR_0 (fun z98 => ?_)
    exact g_iret C hr dX14_count_101 ⟨_, rfl, hw⟩
  rw [if_neg c5] at hw
  by_cases c6 : p1 = 6
  · rw [if_pos c6] at hw
    refine g_tabIn C 102 6 dX14_count_6 c6 (by decide) (by decide) rfl rfl ?_
    refine g_aload_n C dX14_count_102 rfl (by decide) rfl ?_
    refine gf_X14_273 C dX14_count_103 kdR_0 (fun z103 => ?_)
    exact g_iret C hr dX14_count_106 ⟨_, rfl, hw⟩
  rw [if_neg c6] at hw
  by_cases c7 : p1 = 7
  · rw [if_pos c7] at hw
    refine g_tabIn C 107 7 dX14_count_6 c7 (by decide) (by decide) rfl rfl ?_
    refine g_aload_n C dX14_count_107 rfl (by decide) rfl ?_
    refine gf_X14_276 C dX14_count_108 kdR_0 (fun z108 => ?_)
    exact g_iret C hr dX14_count_111 ⟨_, rfl, hw⟩
  rw [if_neg c7] at hw
  by_cases c8 : p1 = 8
  · rw [if_pos c8] at hw
    refine g_tabIn C 112 8 dX14_count_6 c8 (by decide) (by decide) rfl rfl ?_
    refine g_aload_n C dX14_count_112 rfl (by decide) rfl ?_
    refine gf_X14_279 C dX14_count_113 kdR_0 (fun z113 => ?_)
    exact g_iret C hr dX14_count_116 ⟨_, rfl, hw⟩
  rw [if_neg c8] at hw
  by_cases c9 : p1 = 9
  · rw [if_pos c9] at hw
    refine g_tabIn C 117 9 dX14_count_6 c9 (by decide) (by decide) rfl rfl ?_
    refine g_aload_n C dX14_count_117 rfl (by decide) rfl ?_
    refine gf_X14_304 C dX14_count_118 kdR_0 (fun z118 => ?_)
    exact g_iret C hr dX14_count_121 ⟨_, rfl, hw⟩
  rw [if_neg c9] at hw
  by_cases c10 : p1 = 10
  · rw [if_pos c10] at hw
    refine g_tabIn C 122 10 dX14_count_6 c10 (by decide) (by decide) rfl rfl ?_
    refine g_aload_n C dX14_count_122 rfl (by decide) rfl ?_
    refine g_callVi C [] (sim_X14_knownBy hw) k_2193 k_2195 k_124 k_147 k_2196 hdV_X14_knownBy rfl rfl (by decide) rfl kdR_0 rfl rfl rfl dX14_count_123 ?_
    intro x1 h2 hw
    exact g_iret C hr dX14_count_126 ⟨_, rfl, hw⟩
  rw [if_neg c10] at hw
  by_cases c11 : p1 = 11
  · rw [if_pos c11] at hw
    refine g_tabIn C 127 11 dX14_count_6 c11 (by decide) (by decide) rfl rfl ?_
    refine g_aload_n C dX14_count_127 rfl (by decide) rfl ?_
    refine gf_X14_301 C dX14_count_128 kdR_0 (fun z128 => ?_)
    exact g_iret C hr dX14_count_131 ⟨_, rfl, hw⟩
  rw [if_neg c11] at hw
  by_cases c12 : p1 = 12
  · rw [if_pos c12] at hw
    refine g_tabIn C 132 12 dX14_count_6 c12 (by decide) (by decide) rfl rfl ?_
    refine g_aload_n C dX14_count_132 rfl (by decide) rfl ?_
    refine g_callVi C [] (sim_X14_manyReeds hw) k_2280 k_2282 k_132 k_147 k_2283 hdV_X14_manyReeds rfl rfl (by decide) rfl kdR_0 rfl rfl rfl dX14_count_133 ?_
    intro x2 h3 hw
    exact g_iret C hr dX14_count_136 ⟨_, rfl, hw⟩
  rw [if_neg c12] at hw
  refine g_tabOut C 137 dX14_count_6 (by omega) rfl ?_
  refine g_iconst C ⟨by decide, by decide⟩ dX14_count_137 ?_
  exact g_iret C hr dX14_count_138 ⟨_, rfl, hw⟩
