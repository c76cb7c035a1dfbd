set_option maxRecDepth 20000 in
set_option maxHeartbeats 4000000 in
theorem sim_X14_most {z : Mz} {l : Launch} {p1 : Int} {p2 : Int} {h : Mh} {K : Int → Mh → Prop} (hw : wp_X14_most p1 p2 h K) : mCal (XR z) l yX14_most cX14_most 8 (some Jvm.ClassFile.FieldType.int) 3 76 [(2, 0), (0, p1), (0, p2)] h (mKi K) := by
  refine m_entry RX14 rfl (by decide) rfl (fun p e s m args below meth c C hr => ?_)
  have hQ : ∀ x, Lfp (F_X14_most p1 p2 K) x → (match x.1, x.2.1 with | 39, [v3, v4, v5] => mG (XR z) p l e { frames := 3, cells := 0, slots := 0, locals := 76 } s m args below meth c 8 (mMQ (XR z) (mKi K) below args s) 39 [(3, (0, v3)), (4, (0, v4)), (5, (0, v5)), (0, (2, 0)), (1, (0, p1)), (2, (0, p2))] [] x.2.2 | 86, [v3, v4, v5, v6, s0] => mG (XR z) p l e { frames := 3, cells := 0, slots := 0, locals := 76 } s m args below meth c 8 (mMQ (XR z) (mKi K) below args s) 86 [(3, (0, v3)), (4, (0, v4)), (5, (0, v5)), (6, (0, v6)), (0, (2, 0)), (1, (0, p1)), (2, (0, p2))] [(0, s0)] x.2.2 | _, _ => True) := by
    intro x hx
    refine Lfp.ind (fun x => (match x.1, x.2.1 with | 39, [v3, v4, v5] => mG (XR z) p l e { frames := 3, cells := 0, slots := 0, locals := 76 } s m args below meth c 8 (mMQ (XR z) (mKi K) below args s) 39 [(3, (0, v3)), (4, (0, v4)), (5, (0, v5)), (0, (2, 0)), (1, (0, p1)), (2, (0, p2))] [] x.2.2 | 86, [v3, v4, v5, v6, s0] => mG (XR z) p l e { frames := 3, cells := 0, slots := 0, locals := 76 } s m args below meth c 8 (mMQ (XR z) (mKi K) below args s) 86 [(3, (0, v3)), (4, (0, v4)), (5, (0, v5)), (6, (0, v6)), (0, (2, 0)), (1, (0, p1)), (2, (0, p2))] [(0, s0)] x.2.2 | _, _ => True)) ?_ hx
    clear hx x
    intro Z x hQ hw
    rcases hw with ⟨v3, v4, v5, h, rfl, hw⟩ | ⟨v3, v4, v5, v6, s0, h, rfl, hw⟩
    · show mG (XR z) p l e { frames := 3, cells := 0, slots := 0, locals := 76 } s m args below meth c 8 (mMQ (XR z) (mKi K) below args s) 39 [(3, (0, v3)), (4, (0, v4)), (5, (0, v5)), (0, (2, 0)), (1, (0, p1)), (2, (0, p2))] [] h
      unfold B_X14_most_39 at hw
      refine g_iload C dX14_most_39 rfl ?_
      refine g_sipush C ⟨by decide, by decide⟩ (by decide) dX14_most_41 ?_
      refine g_icmp_ge C 120 dX14_most_44 rfl hw (fun hw => ?_) (fun hw => ?_)
      · refine g_iload_n C dX14_most_120 rfl rfl ?_
        refine g_iconst C ⟨by decide, by decide⟩ dX14_most_121 ?_
        refine g_irem C (by decide) dX14_most_122 ?_
        refine g_if_ne C 130 dX14_most_123 rfl hw (fun hw => ?_) (fun hw => ?_)
        · refine g_iload C dX14_most_130 rfl ?_
          exact g_iret C hr dX14_most_132 ⟨_, rfl, hw⟩
        · refine g_iload_n C dX14_most_126 rfl rfl ?_
          refine g_goto C 132 dX14_most_127 rfl ?_
          exact g_iret C hr dX14_most_132 ⟨_, rfl, hw⟩
      · refine g_aload_n C dX14_most_47 rfl (by decide) rfl ?_
        refine g_iload_n C dX14_most_48 rfl rfl ?_
        refine g_iload C dX14_most_49 rfl ?_
        refine g_callVi C [(0, p1), (0, v5)] (sim_X14_riseIn hw) k_2066 k_2068 k_108 k_147 k_2069 hdV_X14_riseIn rfl rfl (by decide) rfl kdR_0 rfl rfl rfl dX14_most_51 ?_
        intro x1 h1 hw
        refine g_istore C dX14_most_54 (by decide) ?_
        refine g_iload_n C dX14_most_56 rfl rfl ?_
        refine g_iconst C ⟨by decide, by decide⟩ dX14_most_57 ?_
        refine g_icmp_ge C 75 dX14_most_58 rfl hw (fun hw => ?_) (fun hw => ?_)
        · refine g_iload C dX14_most_75 rfl ?_
          refine g_iload_n C dX14_most_77 rfl rfl ?_
          refine g_icmp_ge C 85 dX14_most_78 rfl hw (fun hw => ?_) (fun hw => ?_)
          · refine g_iconst C ⟨by decide, by decide⟩ dX14_most_85 ?_
            exact g_sub [3, 4, 5, 6, 0, 1, 2] rfl (hQ _ hw)
          · refine g_iconst C ⟨by decide, by decide⟩ dX14_most_81 ?_
            refine g_goto C 86 dX14_most_82 rfl ?_
            exact g_sub [3, 4, 5, 6, 0, 1, 2] rfl (hQ _ hw)
        · refine g_iload C dX14_most_61 rfl ?_
          refine g_iload_n C dX14_most_63 rfl rfl ?_
          refine g_icmp_le C 71 dX14_most_64 rfl hw (fun hw => ?_) (fun hw => ?_)
          · refine g_iconst C ⟨by decide, by decide⟩ dX14_most_71 ?_
            refine g_goto C 86 dX14_most_72 rfl ?_
            exact g_sub [3, 4, 5, 6, 0, 1, 2] rfl (hQ _ hw)
          · refine g_iconst C ⟨by decide, by decide⟩ dX14_most_67 ?_
            refine g_goto C 86 dX14_most_68 rfl ?_
            exact g_sub [3, 4, 5, 6, 0, 1, 2] rfl (hQ _ hw)
    · show mG (XR z) p l e { frames := 3, cells := 0, slots := 0, locals := 76 } s m args below meth c 8 (mMQ (XR z) (mKi K) below args s) 86 [(3, (0, v3)), (4, (0, v4)), (5, (0, v5)), (6, (0, v6)), (0, (2, 0)), (1, (0, p1)), (2, (0, p2))] [(0, s0)] h
      unfold B_X14_most_86 at hw
      refine g_istore C dX14_most_86 (by decide) ?_
      refine g_iload C dX14_most_88 rfl ?_
      refine g_if_eq C 98 dX14_most_90 rfl hw (fun hw => ?_) (fun hw => ?_)
      · refine g_iload C dX14_most_98 rfl ?_
        refine g_istore C dX14_most_100 (by decide) ?_
        refine g_iload C dX14_most_102 rfl ?_
        refine g_if_eq C 112 dX14_most_104 rfl hw (fun hw => ?_) (fun hw => ?_)
        · refine g_iload_n C dX14_most_112 rfl rfl ?_
          refine g_istore_n C dX14_most_113 rfl (by decide) ?_
          refine g_iincN C dX14_most_114 rfl (by decide) (fun x1 ex1 => ?_)
          replace hw := hw x1 ex1
          refine g_goto C 39 dX14_most_117 rfl ?_
          exact g_sub [3, 4, 5, 0, 1, 2] rfl (hQ _ hw)
        · refine g_iload C dX14_most_107 rfl ?_
          refine g_goto C 113 dX14_most_109 rfl ?_
          refine g_istore_n C dX14_most_113 rfl (by decide) ?_
          refine g_iincN C dX14_most_114 rfl (by decide) (fun x2 ex2 => ?_)
          replace hw := hw x2 ex2
          refine g_goto C 39 dX14_most_117 rfl ?_
          exact g_sub [3, 4, 5, 0, 1, 2] rfl (hQ _ hw)
      · refine g_iload C dX14_most_93 rfl ?_
        refine g_goto C 100 dX14_most_95 rfl ?_
        refine g_istore C dX14_most_100 (by decide) ?_
        refine g_iload C dX14_most_102 rfl ?_
        refine g_if_eq C 112 dX14_most_104 rfl hw (fun hw => ?_) (fun hw => ?_)
        · refine g_iload_n C dX14_most_112 rfl rfl ?_
          refine g_istore_n C dX14_most_113 rfl (by decide) ?_
          refine g_iincN C dX14_most_114 rfl (by decide) (fun x3 ex3 => ?_)
          replace hw := hw x3 ex3
          refine g_goto C 39 dX14_most_117 rfl ?_
          exact g_sub [3, 4, 5, 0, 1, 2] rfl (hQ _ hw)
        · refine g_iload C dX14_most_107 rfl ?_
          refine g_goto C 113 dX14_most_109 rfl ?_
          refine g_istore_n C dX14_most_113 rfl (by decide) ?_
          refine g_iincN C dX14_most_114 rfl (by decide) (fun x4 ex4 => ?_)
          replace hw := hw x4 ex4
          refine g_goto C 39 dX14_most_117 rfl ?_
          exact g_sub [3, 4, 5, 0, 1, 2] rfl (hQ _ hw)
  show mG _ p l e _ s m args below meth c _ _ 0 [(0, (2, 0)), (1, (0, p1)), (2, (0, p2))] [] h
  unfold wp_X14_most at hw
  refine g_aload_n C dX14_most_0 rfl (by decide) rfl ?_
  refine g_iconst C ⟨by decide, by decide⟩ dX14_most_1 ?_
  refine gp_X14_148 C dX14_most_2 kdR_0 (fun z => z) ?_
  refine g_heap (fun h1 eh1 => ?_)
  replace hw := hw h1 eh1
  refine g_aload_n C dX14_most_5 rfl (by decide) rfl ?_
  refine g_iload_n C dX14_most_6 rfl rfl ?_
  refine g_callVz C [(0, p1)] (sim_X14_isWater hw) k_1561 k_1563 k_71 k_147 k_1564 hdV_X14_isWater rfl rfl (by decide) rfl kdR_0 rfl rfl rfl dX14_most_7 ?_
  intro x1 h2 zb7 hw
  refine g_if_eq C 22 dX14_most_10 rfl hw (fun hw => ?_) (fun hw => ?_)
  · refine g_ldcw C ⟨by decide, by decide⟩ k_2082 dX14_most_22 ?_
    exact g_iret C hr dX14_most_25 ⟨_, rfl, hw⟩
  · refine g_iload_n C dX14_most_13 rfl rfl ?_
    refine g_iconst C ⟨by decide, by decide⟩ dX14_most_14 ?_
    refine g_iconst C ⟨by decide, by decide⟩ dX14_most_15 ?_
    refine g_callSz C [(0, p2), (0, 0), (0, 3)] (sim_X14_isIn hw) k_1934 k_1935 k_147 k_1936 hdS_X14_isIn rfl rfl rfl rfl rfl dX14_most_16 ?_
    intro x2 h3 zb16 hw
    refine g_if_ne C 26 dX14_most_19 rfl hw (fun hw => ?_) (fun hw => ?_)
    · refine g_aload_n C dX14_most_26 rfl (by decide) rfl ?_
      refine g_iload_n C dX14_most_27 rfl rfl ?_
      refine g_iconst C ⟨by decide, by decide⟩ dX14_most_28 ?_
      refine g_callVi C [(0, p1), (0, 0)] (sim_X14_riseIn hw) k_2066 k_2068 k_108 k_147 k_2069 hdV_X14_riseIn rfl rfl (by decide) rfl kdR_0 rfl rfl rfl dX14_most_29 ?_
      intro x3 h4 hw
      refine g_istore_n C dX14_most_32 rfl (by decide) ?_
      refine g_iconst C ⟨by decide, by decide⟩ dX14_most_33 ?_
      refine g_istore C dX14_most_34 (by decide) ?_
      refine g_iconst C ⟨by decide, by decide⟩ dX14_most_36 ?_
      refine g_istore C dX14_most_37 (by decide) ?_
      exact g_sub [3, 4, 5, 0, 1, 2] rfl (hQ _ hw)
    · refine g_ldcw C ⟨by decide, by decide⟩ k_2082 dX14_most_22 ?_
      exact g_iret C hr dX14_most_25 ⟨_, rfl, hw⟩
set_option maxRecDepth 20000 in
set_option maxHeartbeats 4000000 in
theorem sim_X14_named {z : Mz} {l : Launch} {p1 : Int} {p2 : Int} {h : Mh} {K : Int → Mh → Prop} (hw : wp_X14_named p1 p2 h K) : mCal (XR z) l yX14_named cX14_named 3 (some Jvm.ClassFile.FieldType.int) 1 24 [(2, 0), (0, p1), (0, p2)] h (mKi K) := by
  refine m_entry RX14 rfl (by decide) rfl (fun p e s m args below meth c C hr => ?_)
  show mG _ p l e _ s m args below meth c _ _ 0 [(0, (2, 0)), (1, (0, p1)), (2, (0, p2))] [] h
  unfold wp_X14_named at hw
  refine g_aload_n C dX14_named_0 rfl (by decide) rfl ?_
  refine g_iconst C ⟨by decide, by decide⟩ dX14_named_1 ?_
  refine gp_X14_148 C dX14_named_2 kdR_0 (fun z => z) ?_
  refine g_heap (fun h1 eh1 => ?_)
  replace hw := hw h1 eh1
  refine g_iload_n C dX14_named_5 rfl rfl ?_
  by_cases c0 : p1 = 0
  · rw [if_pos c0] at hw
    refine g_tabIn C 36 0 dX14_named_6 c0 (by decide) (by decide) rfl rfl ?_
    refine g_aload_n C dX14_named_36 rfl (by decide) rfl ?_
    refine gw_X14_39 C dX14_named_37 kdR_0 wwR_0_45 ?_
    refine g_iconst C ⟨by decide, by decide⟩ dX14_named_40 ?_
    refine g_aload_n C dX14_named_41 rfl (by decide) rfl ?_
    refine gf_X14_261 C dX14_named_42 kdR_0 (fun z42 => ?_)
    refine g_iload_n C dX14_named_45 rfl rfl ?_
    refine g_callSi C [(2, 9), (0, 0), (0, (h1 0 14)), (0, p2)] (sim_X14_find hw) k_1957 k_1958 k_147 k_1959 hdS_X14_find rfl rfl rfl rfl rfl dX14_named_46 ?_
    intro x1 h2 hw
    exact g_iret C hr dX14_named_49 ⟨_, rfl, hw⟩
  rw [if_neg c0] at hw
  by_cases c1 : p1 = 1
  · rw [if_pos c1] at hw
    refine g_tabIn C 50 1 dX14_named_6 c1 (by decide) (by decide) rfl rfl ?_
    refine g_aload_n C dX14_named_50 rfl (by decide) rfl ?_
    refine gw_X14_51 C dX14_named_51 kdR_0 wwR_0_49 ?_
    refine g_iconst C ⟨by decide, by decide⟩ dX14_named_54 ?_
    refine g_aload_n C dX14_named_55 rfl (by decide) rfl ?_
    refine gf_X14_264 C dX14_named_56 kdR_0 (fun z56 => ?_)
    refine g_iload_n C dX14_named_59 rfl rfl ?_
    refine g_callSi C [(2, 13), (0, 0), (0, (h1 0 15)), (0, p2)] (sim_X14_find hw) k_1957 k_1958 k_147 k_1959 hdS_X14_find rfl rfl rfl rfl rfl dX14_named_60 ?_
    intro x2 h3 hw
    exact g_iret C hr dX14_named_63 ⟨_, rfl, hw⟩
  rw [if_neg c1] at hw
  by_cases c2 : p1 = 2
  · rw [if_pos c2] at hw
    refine g_tabIn C 64 2 dX14_named_6 c2 (by decide) (by decide) rfl rfl ?_
    refine g_aload_n C dX14_named_64 rfl (by decide) rfl ?_
    refine gw_X14_57 C dX14_named_65 kdR_0 wwR_0_51 ?_
    refine g_iconst C ⟨by decide, by decide⟩ dX14_named_68 ?_
    refine g_aload_n C dX14_named_69 rfl (by decide) rfl ?_
    refine gf_X14_267 C dX14_named_70 kdR_0 (fun z70 => ?_)
    refine g_iload_n C dX14_named_73 rfl rfl ?_
    refine g_callSi C [(2, 15), (0, 0), (0, (h1 0 16)), (0, p2)] (sim_X14_find hw) k_1957 k_1958 k_147 k_1959 hdS_X14_find rfl rfl rfl rfl rfl dX14_named_74 ?_
    intro x3 h4 hw
    exact g_iret C hr dX14_named_77 ⟨_, rfl, hw⟩
  rw [if_neg c2] at hw
  by_cases c3 : p1 = 3
  · rw [if_pos c3] at hw
    refine g_tabIn C 78 3 dX14_named_6 c3 (by decide) (by decide) rfl rfl ?_
    refine g_aload_n C dX14_named_78 rfl (by decide) rfl ?_
    refine gw_X14_72 C dX14_named_79 kdR_0 wwR_0_56 ?_
    refine g_iconst C ⟨by decide, by decide⟩ dX14_named_82 ?_
    refine g_aload_n C dX14_named_83 rfl (by decide) rfl ?_
    refine gf_X14_276 C dX14_named_84 kdR_0 (fun z84 => ?_)
    refine g_iload_n C dX14_named_87 rfl rfl ?_
    refine g_callSi C [(2, 20), (0, 0), (0, (h1 0 19)), (0, p2)] (sim_X14_find hw) k_1957 k_1958 k_147 k_1959 hdS_X14_find rfl rfl rfl rfl rfl dX14_named_88 ?_
    intro x4 h5 hw
    exact g_iret C hr dX14_named_91 ⟨_, rfl, hw⟩
  rw [if_neg c3] at hw
  refine g_tabOut C 92 dX14_named_6 (by omega) rfl ?_
  refine g_iconst C ⟨by decide, by decide⟩ dX14_named_92 ?_
  exact g_iret C hr dX14_named_93 ⟨_, rfl, hw⟩
set_option maxRecDepth 20000 in
set_option maxHeartbeats 4000000 in
theorem sim_X14_noted {z : Mz} {l : Launch} {p1 : Int} {p2 : Int} {p3 : Int} {h : Mh} {K : Int → Mh → Prop} (hw : wp_X14_noted p1 p2 p3 h K) : mCal (XR z) l yX14_noted cX14_noted 4 (some Jvm.ClassFile.FieldType.int) 0 0 [(2, 0), (0, p1), (0, p2), (0, p3)] h (mKi K) := by
  refine m_entry RX14 rfl (by decide) rfl (fun p e s m args below meth c C hr => ?_)
  show mG _ p l e _ s m args below meth c _ _ 0 [(0, (2, 0)), (1, (0, p1)), (2, (0, p2)), (3, (0, p3))] [] h
  unfold wp_X14_noted at hw
  refine g_aload_n C dX14_noted_0 rfl (by decide) rfl ?_
  refine gw_X14_121 C dX14_noted_1 kdR_0 wwR_0_86 ?_
  refine g_iconst C ⟨by decide, by decide⟩ dX14_noted_4 ?_
  refine g_aload_n C dX14_noted_5 rfl (by decide) rfl ?_
  refine gf_X14_304 C dX14_noted_6 kdR_0 (fun z6 => ?_)
  refine g_imul C dX14_noted_9 ?_
  refine g_iload_n C dX14_noted_10 rfl rfl ?_
  obtain ⟨⟨b1, b1b⟩, hw⟩ := hw
  refine g_iastore C dX14_noted_11 kdR_34 b1 b1b (fun z => z) ?_
  refine g_heap (fun h1 eh1 => ?_)
  replace hw := hw h1 eh1
  refine g_aload_n C dX14_noted_12 rfl (by decide) rfl ?_
  refine gw_X14_121 C dX14_noted_13 kdR_0 wwR_0_86 ?_
  refine g_iconst C ⟨by decide, by decide⟩ dX14_noted_16 ?_
  refine g_aload_n C dX14_noted_17 rfl (by decide) rfl ?_
  refine gf_X14_304 C dX14_noted_18 kdR_0 (fun z18 => ?_)
  refine g_imul C dX14_noted_21 ?_
  refine g_iconst C ⟨by decide, by decide⟩ dX14_noted_22 ?_
  refine g_iadd C dX14_noted_23 ?_
  refine g_iload_n C dX14_noted_24 rfl rfl ?_
  obtain ⟨⟨b2, b2b⟩, hw⟩ := hw
  refine g_iastore C dX14_noted_25 kdR_34 b2 b2b (fun z => z) ?_
  refine g_heap (fun h2 eh2 => ?_)
  replace hw := hw h2 eh2
  refine g_aload_n C dX14_noted_26 rfl (by decide) rfl ?_
  refine gw_X14_121 C dX14_noted_27 kdR_0 wwR_0_86 ?_
  refine g_iconst C ⟨by decide, by decide⟩ dX14_noted_30 ?_
  refine g_aload_n C dX14_noted_31 rfl (by decide) rfl ?_
  refine gf_X14_304 C dX14_noted_32 kdR_0 (fun z32 => ?_)
  refine g_imul C dX14_noted_35 ?_
  refine g_iconst C ⟨by decide, by decide⟩ dX14_noted_36 ?_
  refine g_iadd C dX14_noted_37 ?_
  refine g_iload_n C dX14_noted_38 rfl rfl ?_
  obtain ⟨⟨b3, b3b⟩, hw⟩ := hw
  refine g_iastore C dX14_noted_39 kdR_34 b3 b3b (fun z => z) ?_
  refine g_heap (fun h3 eh3 => ?_)
  replace hw := hw h3 eh3
  refine g_aload_n C dX14_noted_40 rfl (by decide) rfl ?_
  refine g_dup C (by show ¬ (2 : Nat) = 1; decide) dX14_noted_41 ?_
  refine gf_X14_304 C dX14_noted_42 kdR_0 (fun z42 => ?_)
  refine g_iconst C ⟨by decide, by decide⟩ dX14_noted_45 ?_
  refine g_iadd C dX14_noted_46 ?_
  refine gp_X14_304 C dX14_noted_47 kdR_0 (fun z => z) ?_
  refine g_heap (fun h4 eh4 => ?_)
  replace hw := hw h4 eh4
  refine g_aload_n C dX14_noted_50 rfl (by decide) rfl ?_
  refine gf_X14_304 C dX14_noted_51 kdR_0 (fun z51 => ?_)
  refine g_iconst C ⟨by decide, by decide⟩ dX14_noted_54 ?_
  refine g_isub C dX14_noted_55 ?_
  exact g_iret C hr dX14_noted_56 ⟨_, rfl, hw⟩
set_option maxRecDepth 20000 in
set_option maxHeartbeats 4000000 in
theorem sim_X14_note {z : Mz} {l : Launch} {p1 : Int} {p2 : Int} {p3 : Int} {h : Mh} {K : Int → Mh → Prop} (hw : wp_X14_note p1 p2 p3 h K) : mCal (XR z) l yX14_note cX14_note 4 (some Jvm.ClassFile.FieldType.int) 2 42 [(2, 0), (0, p1), (0, p2), (0, p3)] h (mKi K) := by
  refine m_entry RX14 rfl (by decide) rfl (fun p e s m args below meth c C hr => ?_)
  show mG _ p l e _ s m args below meth c _ _ 0 [(0, (2, 0)), (1, (0, p1)), (2, (0, p2)), (3, (0, p3))] [] h
  unfold wp_X14_note at hw
  refine g_aload_n C dX14_note_0 rfl (by decide) rfl ?_
  refine g_iconst C ⟨by decide, by decide⟩ dX14_note_1 ?_
  refine gp_X14_148 C dX14_note_2 kdR_0 (fun z => z) ?_
  refine g_heap (fun h1 eh1 => ?_)
  replace hw := hw h1 eh1
  refine g_aload_n C dX14_note_5 rfl (by decide) rfl ?_
  refine gf_X14_304 C dX14_note_6 kdR_0 (fun z6 => ?_)
  refine g_bipush C ⟨by decide, by decide⟩ (by decide) dX14_note_9 ?_
  refine g_icmp_eq C 42 dX14_note_11 rfl hw (fun hw => ?_) (fun hw => ?_)
  · refine g_iconst C ⟨by decide, by decide⟩ dX14_note_42 ?_
    refine g_goto C 53 dX14_note_43 rfl ?_
    exact g_iret C hr dX14_note_53 ⟨_, rfl, hw⟩
  · refine g_aload_n C dX14_note_14 rfl (by decide) rfl ?_
    refine g_iload_n C dX14_note_15 rfl rfl ?_
    refine g_callVz C [(0, p1)] (sim_X14_isCork hw) k_2087 k_2089 k_112 k_147 k_2090 hdV_X14_isCork rfl rfl (by decide) rfl kdR_0 rfl rfl rfl dX14_note_16 ?_
    intro x1 h2 zb16 hw
    refine g_if_eq C 42 dX14_note_19 rfl hw (fun hw => ?_) (fun hw => ?_)
    · refine g_iconst C ⟨by decide, by decide⟩ dX14_note_42 ?_
      refine g_goto C 53 dX14_note_43 rfl ?_
      exact g_iret C hr dX14_note_53 ⟨_, rfl, hw⟩
    · refine g_iload_n C dX14_note_22 rfl rfl ?_
      refine g_callSz C [(0, p2)] (sim_X14_isStep hw) k_2063 k_2064 k_147 k_2065 hdS_X14_isStep rfl rfl rfl rfl rfl dX14_note_23 ?_
      intro x2 h3 zb23 hw
      refine g_if_eq C 42 dX14_note_26 rfl hw (fun hw => ?_) (fun hw => ?_)
      · refine g_iconst C ⟨by decide, by decide⟩ dX14_note_42 ?_
        refine g_goto C 53 dX14_note_43 rfl ?_
        exact g_iret C hr dX14_note_53 ⟨_, rfl, hw⟩
      · refine g_iload_n C dX14_note_29 rfl rfl ?_
        refine g_sipush C ⟨by decide, by decide⟩ (by decide) dX14_note_30 ?_
        refine g_sipush C ⟨by decide, by decide⟩ (by decide) dX14_note_33 ?_
        refine g_callSz C [(0, p3), (0, (-9999)), (0, 9999)] (sim_X14_isIn hw) k_1934 k_1935 k_147 k_1936 hdS_X14_isIn rfl rfl rfl rfl rfl dX14_note_36 ?_
        intro x3 h4 zb36 hw
        refine g_if_ne C 46 dX14_note_39 rfl hw (fun hw => ?_) (fun hw => ?_)
        · refine g_aload_n C dX14_note_46 rfl (by decide) rfl ?_
          refine g_iload_n C dX14_note_47 rfl rfl ?_
          refine g_iload_n C dX14_note_48 rfl rfl ?_
          refine g_iload_n C dX14_note_49 rfl rfl ?_
          refine g_callVi C [(0, p1), (0, p2), (0, p3)] (sim_X14_noted hw) k_2169 k_2171 k_121 k_147 k_2172 hdV_X14_noted rfl rfl (by decide) rfl kdR_0 rfl rfl rfl dX14_note_50 ?_
          intro x4 h5 hw
          exact g_iret C hr dX14_note_53 ⟨_, rfl, hw⟩
        · refine g_iconst C ⟨by decide, by decide⟩ dX14_note_42 ?_
          refine g_goto C 53 dX14_note_43 rfl ?_
          exact g_iret C hr dX14_note_53 ⟨_, rfl, hw⟩
set_option maxRecDepth 20000 in
set_option maxHeartbeats 4000000 in
theorem sim_X14_plain {z : Mz} {l : Launch} {h : Mh} {K : Mh → Prop} (hw : wp_X14_plain h K) : mCal (XR z) l yX14_plain cX14_plain 2 none 0 0 [(2, 0)] h (mKv K) := by
  refine m_entry RX14 rfl (by decide) rfl (fun p e s m args below meth c C hr => ?_)
  have hQ : ∀ x, Lfp (F_X14_plain K) x → (match x.1, x.2.1 with | 101, [v1] => mG (XR z) p l e { frames := 0, cells := 0, slots := 0, locals := 0 } s m args below meth c 2 (mMQ (XR z) (mKv K) below args s) 101 [(1, (0, v1)), (0, (2, 0))] [] x.2.2 | 121, [v1] => mG (XR z) p l e { frames := 0, cells := 0, slots := 0, locals := 0 } s m args below meth c 2 (mMQ (XR z) (mKv K) below args s) 121 [(1, (0, v1)), (0, (2, 0))] [] x.2.2 | _, _ => True) := by
    intro x hx
    refine Lfp.ind (fun x => (match x.1, x.2.1 with | 101, [v1] => mG (XR z) p l e { frames := 0, cells := 0, slots := 0, locals := 0 } s m args below meth c 2 (mMQ (XR z) (mKv K) below args s) 101 [(1, (0, v1)), (0, (2, 0))] [] x.2.2 | 121, [v1] => mG (XR z) p l e { frames := 0, cells := 0, slots := 0, locals := 0 } s m args below meth c 2 (mMQ (XR z) (mKv K) below args s) 121 [(1, (0, v1)), (0, (2, 0))] [] x.2.2 | _, _ => True)) ?_ hx
    clear hx x
    intro Z x hQ hw
    rcases hw with ⟨v1, h, rfl, hw⟩ | ⟨v1, h, rfl, hw⟩
    · show mG (XR z) p l e { frames := 0, cells := 0, slots := 0, locals := 0 } s m args below meth c 2 (mMQ (XR z) (mKv K) below args s) 101 [(1, (0, v1)), (0, (2, 0))] [] h
      unfold B_X14_plain_101 at hw
      refine g_iload_n C dX14_plain_101 rfl rfl ?_
      refine g_iconst C ⟨by decide, by decide⟩ dX14_plain_102 ?_
      refine g_icmp_ge C 119 dX14_plain_103 rfl hw (fun hw => ?_) (fun hw => ?_)
      · refine g_iconst C ⟨by decide, by decide⟩ dX14_plain_119 ?_
        refine g_istore_n C dX14_plain_120 rfl (by decide) ?_
        exact g_sub [1, 0] rfl (hQ _ hw)
      · refine g_aload_n C dX14_plain_106 rfl (by decide) rfl ?_
        refine gw_X14_23 C dX14_plain_107 kdR_0 wwR_0_40 ?_
        refine g_iload_n C dX14_plain_110 rfl rfl ?_
        refine g_iconst C ⟨by decide, by decide⟩ dX14_plain_111 ?_
        obtain ⟨⟨b1, b1b⟩, hw⟩ := hw
        refine g_zastore C dX14_plain_112 kdR_4 b1 b1b (fun _ => (Or.inl rfl)) ?_
        refine g_heap (fun h1 eh1 => ?_)
        replace hw := hw h1 eh1
        refine g_iincN C dX14_plain_113 rfl (by decide) (fun x1 ex1 => ?_)
        replace hw := hw x1 ex1
        refine g_goto C 101 dX14_plain_116 rfl ?_
        exact g_sub [1, 0] rfl (hQ _ hw)
    · show mG (XR z) p l e { frames := 0, cells := 0, slots := 0, locals := 0 } s m args below meth c 2 (mMQ (XR z) (mKv K) below args s) 121 [(1, (0, v1)), (0, (2, 0))] [] h
      unfold B_X14_plain_121 at hw
      refine g_iload_n C dX14_plain_121 rfl rfl ?_
      refine g_bipush C ⟨by decide, by decide⟩ (by decide) dX14_plain_122 ?_
      refine g_icmp_ge C 160 dX14_plain_124 rfl hw (fun hw => ?_) (fun hw => ?_)
      · exact g_vret C hr dX14_plain_160 ⟨rfl, hw⟩
      · refine g_aload_n C dX14_plain_127 rfl (by decide) rfl ?_
        refine gw_X14_27 C dX14_plain_128 kdR_0 wwR_0_41 ?_
        refine g_bipush C ⟨by decide, by decide⟩ (by decide) dX14_plain_131 ?_
        refine g_iload_n C dX14_plain_133 rfl rfl ?_
        refine g_iadd C dX14_plain_134 ?_
        refine g_iconst C ⟨by decide, by decide⟩ dX14_plain_135 ?_
        obtain ⟨⟨b2, b2b⟩, hw⟩ := hw
        refine g_iastore C dX14_plain_136 kdR_5 b2 b2b (fun z => z) ?_
        refine g_heap (fun h1 eh1 => ?_)
        replace hw := hw h1 eh1
        refine g_aload_n C dX14_plain_137 rfl (by decide) rfl ?_
        refine gw_X14_30 C dX14_plain_138 kdR_0 wwR_0_42 ?_
        refine g_bipush C ⟨by decide, by decide⟩ (by decide) dX14_plain_141 ?_
        refine g_iload_n C dX14_plain_143 rfl rfl ?_
        refine g_iadd C dX14_plain_144 ?_
        refine g_iconst C ⟨by decide, by decide⟩ dX14_plain_145 ?_
        obtain ⟨⟨b3, b3b⟩, hw⟩ := hw
        refine g_zastore C dX14_plain_146 kdR_6 b3 b3b (fun _ => (Or.inl rfl)) ?_
        refine g_heap (fun h2 eh2 => ?_)
        replace hw := hw h2 eh2
        refine g_aload_n C dX14_plain_147 rfl (by decide) rfl ?_
        refine gw_X14_33 C dX14_plain_148 kdR_0 wwR_0_43 ?_
        refine g_iload_n C dX14_plain_151 rfl rfl ?_
        refine g_iconst C ⟨by decide, by decide⟩ dX14_plain_152 ?_
        obtain ⟨⟨b4, b4b⟩, hw⟩ := hw
        refine g_zastore C dX14_plain_153 kdR_7 b4 b4b (fun _ => (Or.inl rfl)) ?_
        refine g_heap (fun h3 eh3 => ?_)
        replace hw := hw h3 eh3
        refine g_iincN C dX14_plain_154 rfl (by decide) (fun x1 ex1 => ?_)
        replace hw := hw x1 ex1
        refine g_goto C 121 dX14_plain_157 rfl ?_
        exact g_sub [1, 0] rfl (hQ _ hw)
  show mG _ p l e _ s m args below meth c _ _ 0 [(0, (2, 0))] [] h
  unfold wp_X14_plain at hw
  refine g_aload_n C dX14_plain_0 rfl (by decide) rfl ?_
  refine g_iconst C ⟨by decide, by decide⟩ dX14_plain_1 ?_
  refine gp_X14_209 C dX14_plain_2 kdR_0 (fun z => z) ?_
  refine g_heap (fun h1 eh1 => ?_)
  replace hw := hw h1 eh1
  refine g_aload_n C dX14_plain_5 rfl (by decide) rfl ?_
  refine g_iconst C ⟨by decide, by decide⟩ dX14_plain_6 ?_
  refine gp_X14_212 C dX14_plain_7 kdR_0 (fun z => z) ?_
  refine g_heap (fun h2 eh2 => ?_)
  replace hw := hw h2 eh2
  refine g_aload_n C dX14_plain_10 rfl (by decide) rfl ?_
  refine g_iconst C ⟨by decide, by decide⟩ dX14_plain_11 ?_
  refine gp_X14_215 C dX14_plain_12 kdR_0 (fun z => z) ?_
  refine g_heap (fun h3 eh3 => ?_)
  replace hw := hw h3 eh3
  refine g_aload_n C dX14_plain_15 rfl (by decide) rfl ?_
  refine g_iconst C ⟨by decide, by decide⟩ dX14_plain_16 ?_
  refine gp_X14_218 C dX14_plain_17 kdR_0 (fun z => z) ?_
  refine g_heap (fun h4 eh4 => ?_)
  replace hw := hw h4 eh4
  refine g_aload_n C dX14_plain_20 rfl (by decide) rfl ?_
  refine g_iconst C ⟨by decide, by decide⟩ dX14_plain_21 ?_
  refine gp_X14_221 C dX14_plain_22 kdR_0 (fun z => z) ?_
  refine g_heap (fun h5 eh5 => ?_)
  replace hw := hw h5 eh5
  refine g_aload_n C dX14_plain_25 rfl (by decide) rfl ?_
  refine g_iconst C ⟨by decide, by decide⟩ dX14_plain_26 ?_
  refine gp_X14_224 C dX14_plain_27 kdR_0 (fun z => z) ?_
  refine g_heap (fun h6 eh6 => ?_)
  replace hw := hw h6 eh6
  refine g_aload_n C dX14_plain_30 rfl (by decide) rfl ?_
  refine g_iconst C ⟨by decide, by decide⟩ dX14_plain_31 ?_
  refine gp_X14_227 C dX14_plain_32 kdR_0 (fun z => z) ?_
  refine g_heap (fun h7 eh7 => ?_)
  replace hw := hw h7 eh7
  refine g_aload_n C dX14_plain_35 rfl (by decide) rfl ?_
  refine g_iconst C ⟨by decide, by decide⟩ dX14_plain_36 ?_
  refine gp_X14_230 C dX14_plain_37 kdR_0 (fun z => z) ?_
  refine g_heap (fun h8 eh8 => ?_)
  replace hw := hw h8 eh8
  refine g_aload_n C dX14_plain_40 rfl (by decide) rfl ?_
  refine g_iconst C ⟨by decide, by decide⟩ dX14_plain_41 ?_
  refine gp_X14_233 C dX14_plain_42 kdR_0 (fun z => z) ?_
  refine g_heap (fun h9 eh9 => ?_)
  replace hw := hw h9 eh9
  refine g_aload_n C dX14_plain_45 rfl (by decide) rfl ?_
  refine g_iconst C ⟨by decide, by decide⟩ dX14_plain_46 ?_
  refine gp_X14_236 C dX14_plain_47 kdR_0 (fun z => z) ?_
  refine g_heap (fun h10 eh10 => ?_)
  replace hw := hw h10 eh10
  refine g_aload_n C dX14_plain_50 rfl (by decide) rfl ?_
  refine g_iconst C ⟨by decide, by decide⟩ dX14_plain_51 ?_
  refine gp_X14_239 C dX14_plain_52 kdR_0 (fun z => z) ?_
  refine g_heap (fun h11 eh11 => ?_)
  replace hw := hw h11 eh11
  refine g_aload_n C dX14_plain_55 rfl (by decide) rfl ?_
  refine g_iconst C ⟨by decide, by decide⟩ dX14_plain_56 ?_
  refine gp_X14_242 C dX14_plain_57 kdR_0 (fun z => z) ?_
  refine g_heap (fun h12 eh12 => ?_)
  replace hw := hw h12 eh12
  refine g_aload_n C dX14_plain_60 rfl (by decide) rfl ?_
  refine g_iconst C ⟨by decide, by decide⟩ dX14_plain_61 ?_
  refine gp_X14_245 C dX14_plain_62 kdR_0 (fun _ => (Or.inl rfl)) ?_
  refine g_heap (fun h13 eh13 => ?_)
  replace hw := hw h13 eh13
  refine g_aload_n C dX14_plain_65 rfl (by decide) rfl ?_
  refine g_iconst C ⟨by decide, by decide⟩ dX14_plain_66 ?_
  refine gp_X14_249 C dX14_plain_67 kdR_0 (fun _ => (Or.inl rfl)) ?_
  refine g_heap (fun h14 eh14 => ?_)
  replace hw := hw h14 eh14
  refine g_aload_n C dX14_plain_70 rfl (by decide) rfl ?_
  refine g_iconst C ⟨by decide, by decide⟩ dX14_plain_71 ?_
  refine gp_X14_252 C dX14_plain_72 kdR_0 (fun _ => (Or.inl rfl)) ?_
  refine g_heap (fun h15 eh15 => ?_)
  replace hw := hw h15 eh15
  refine g_aload_n C dX14_plain_75 rfl (by decide) rfl ?_
  refine gw_X14_20 C dX14_plain_76 kdR_0 wwR_0_39 ?_
  refine g_iconst C ⟨by decide, by decide⟩ dX14_plain_79 ?_
  refine g_bipush C ⟨by decide, by decide⟩ (by decide) dX14_plain_80 ?_
  refine g_iastore C dX14_plain_82 kdR_3 (by decide) (show (0 : Int) < ((3 : Nat) : Int) from by decide) (fun z => z) ?_
  refine g_heap (fun h16 eh16 => ?_)
  replace hw := hw h16 eh16
  refine g_aload_n C dX14_plain_83 rfl (by decide) rfl ?_
  refine gw_X14_20 C dX14_plain_84 kdR_0 wwR_0_39 ?_
  refine g_iconst C ⟨by decide, by decide⟩ dX14_plain_87 ?_
  refine g_bipush C ⟨by decide, by decide⟩ (by decide) dX14_plain_88 ?_
  refine g_iastore C dX14_plain_90 kdR_3 (by decide) (show (1 : Int) < ((3 : Nat) : Int) from by decide) (fun z => z) ?_
  refine g_heap (fun h17 eh17 => ?_)
  replace hw := hw h17 eh17
  refine g_aload_n C dX14_plain_91 rfl (by decide) rfl ?_
  refine gw_X14_20 C dX14_plain_92 kdR_0 wwR_0_39 ?_
  refine g_iconst C ⟨by decide, by decide⟩ dX14_plain_95 ?_
  refine g_bipush C ⟨by decide, by decide⟩ (by decide) dX14_plain_96 ?_
  refine g_iastore C dX14_plain_98 kdR_3 (by decide) (show (2 : Int) < ((3 : Nat) : Int) from by decide) (fun z => z) ?_
  refine g_heap (fun h18 eh18 => ?_)
  replace hw := hw h18 eh18
  refine g_iconst C ⟨by decide, by decide⟩ dX14_plain_99 ?_
  refine g_istore_n C dX14_plain_100 rfl (by decide) ?_
  exact g_sub [1, 0] rfl (hQ _ hw)
set_option maxRecDepth 20000 in
set_option maxHeartbeats 4000000 in
theorem sim_X14_reaches {z : Mz} {l : Launch} {p1 : Int} {p2 : Int} {h : Mh} {K : Int → Mh → Prop} (hw : wp_X14_reaches p1 p2 h K) : mCal (XR z) l yX14_reaches cX14_reaches 4 (some Jvm.ClassFile.FieldType.int) 6 155 [(2, 0), (0, p1), (0, p2)] h (mKi K) := by
  refine m_entry RX14 rfl (by decide) rfl (fun p e s m args below meth c C hr => ?_)
  show mG _ p l e _ s m args below meth c _ _ 0 [(0, (2, 0)), (1, (0, p1)), (2, (0, p2))] [] h
  unfold wp_X14_reaches at hw
  refine g_aload_n C dX14_reaches_0 rfl (by decide) rfl ?_
  refine g_iconst C ⟨by decide, by decide⟩ dX14_reaches_1 ?_
  refine gp_X14_148 C dX14_reaches_2 kdR_0 (fun z => z) ?_
  refine g_heap (fun h1 eh1 => ?_)
  replace hw := hw h1 eh1
  refine g_aload_n C dX14_reaches_5 rfl (by decide) rfl ?_
  refine g_iload_n C dX14_reaches_6 rfl rfl ?_
  refine g_callVz C [(0, p1)] (sim_X14_isSkater hw) k_2099 k_2101 k_113 k_147 k_2102 hdV_X14_isSkater rfl rfl (by decide) rfl kdR_0 rfl rfl rfl dX14_reaches_7 ?_
  intro x1 h2 zb7 hw
  refine g_if_eq C 21 dX14_reaches_10 rfl hw (fun hw => ?_) (fun hw => ?_)
  · refine g_iconst C ⟨by decide, by decide⟩ dX14_reaches_21 ?_
    exact g_iret C hr dX14_reaches_22 ⟨_, rfl, hw⟩
  · refine g_aload_n C dX14_reaches_13 rfl (by decide) rfl ?_
    refine g_iload_n C dX14_reaches_14 rfl rfl ?_
    refine g_callVz C [(0, p2)] (sim_X14_isCell hw) k_1565 k_1567 k_72 k_147 k_1568 hdV_X14_isCell rfl rfl (by decide) rfl kdR_0 rfl rfl rfl dX14_reaches_15 ?_
    intro x2 h3 zb15 hw
    refine g_if_ne C 23 dX14_reaches_18 rfl hw (fun hw => ?_) (fun hw => ?_)
    · refine g_aload_n C dX14_reaches_23 rfl (by decide) rfl ?_
      refine g_iload_n C dX14_reaches_24 rfl rfl ?_
      refine g_iload_n C dX14_reaches_25 rfl rfl ?_
      refine g_bipush C ⟨by decide, by decide⟩ (by decide) dX14_reaches_26 ?_
      refine g_callVi C [(0, p1), (0, p2), (0, 100)] (sim_X14_comesTo hw) k_2137 k_2139 k_119 k_147 k_2140 hdV_X14_comesTo rfl rfl (by decide) rfl kdR_0 rfl rfl rfl dX14_reaches_28 ?_
      intro x3 h4 hw
      refine g_istore_n C dX14_reaches_31 rfl (by decide) ?_
      refine g_iload_n C dX14_reaches_32 rfl rfl ?_
      refine g_if_ge C 41 dX14_reaches_33 rfl hw (fun hw => ?_) (fun hw => ?_)
      · refine g_iload_n C dX14_reaches_41 rfl rfl ?_
        exact g_iret C hr dX14_reaches_42 ⟨_, rfl, hw⟩
      · refine g_bipush C ⟨by decide, by decide⟩ (by decide) dX14_reaches_36 ?_
        refine g_goto C 42 dX14_reaches_38 rfl ?_
        exact g_iret C hr dX14_reaches_42 ⟨_, rfl, hw⟩
    · refine g_iconst C ⟨by decide, by decide⟩ dX14_reaches_21 ?_
      exact g_iret C hr dX14_reaches_22 ⟨_, rfl, hw⟩
set_option maxRecDepth 20000 in
set_option maxHeartbeats 4000000 in
theorem sim_X14_rise {z : Mz} {l : Launch} {p1 : Int} {p2 : Int} {h : Mh} {K : Int → Mh → Prop} (hw : wp_X14_rise p1 p2 h K) : mCal (XR z) l yX14_rise cX14_rise 3 (some Jvm.ClassFile.FieldType.int) 3 76 [(2, 0), (0, p1), (0, p2)] h (mKi K) := by
  refine m_entry RX14 rfl (by decide) rfl (fun p e s m args below meth c C hr => ?_)
  show mG _ p l e _ s m args below meth c _ _ 0 [(0, (2, 0)), (1, (0, p1)), (2, (0, p2))] [] h
  unfold wp_X14_rise at hw
  refine g_aload_n C dX14_rise_0 rfl (by decide) rfl ?_
  refine g_iconst C ⟨by decide, by decide⟩ dX14_rise_1 ?_
  refine gp_X14_148 C dX14_rise_2 kdR_0 (fun z => z) ?_
  refine g_heap (fun h1 eh1 => ?_)
  replace hw := hw h1 eh1
  refine g_aload_n C dX14_rise_5 rfl (by decide) rfl ?_
  refine g_iload_n C dX14_rise_6 rfl rfl ?_
  refine g_callVz C [(0, p1)] (sim_X14_isWater hw) k_1561 k_1563 k_71 k_147 k_1564 hdV_X14_isWater rfl rfl (by decide) rfl kdR_0 rfl rfl rfl dX14_rise_7 ?_
  intro x1 h2 zb7 hw
  refine g_if_eq C 29 dX14_rise_10 rfl hw (fun hw => ?_) (fun hw => ?_)
  · refine g_ldcw C ⟨by decide, by decide⟩ k_2082 dX14_rise_29 ?_
    exact g_iret C hr dX14_rise_32 ⟨_, rfl, hw⟩
  · refine g_iload_n C dX14_rise_13 rfl rfl ?_
    refine g_callSz C [(0, p2)] (sim_X14_isStep hw) k_2063 k_2064 k_147 k_2065 hdS_X14_isStep rfl rfl rfl rfl rfl dX14_rise_14 ?_
    intro x2 h3 zb14 hw
    refine g_if_eq C 29 dX14_rise_17 rfl hw (fun hw => ?_) (fun hw => ?_)
    · refine g_ldcw C ⟨by decide, by decide⟩ k_2082 dX14_rise_29 ?_
      exact g_iret C hr dX14_rise_32 ⟨_, rfl, hw⟩
    · refine g_aload_n C dX14_rise_20 rfl (by decide) rfl ?_
      refine g_iload_n C dX14_rise_21 rfl rfl ?_
      refine g_iload_n C dX14_rise_22 rfl rfl ?_
      refine g_callVi C [(0, p1), (0, p2)] (sim_X14_riseIn hw) k_2066 k_2068 k_108 k_147 k_2069 hdV_X14_riseIn rfl rfl (by decide) rfl kdR_0 rfl rfl rfl dX14_rise_23 ?_
      intro x3 h4 hw
      refine g_goto C 32 dX14_rise_26 rfl ?_
      exact g_iret C hr dX14_rise_32 ⟨_, rfl, hw⟩
set_option maxRecDepth 20000 in
set_option maxHeartbeats 4000000 in
theorem sim_X14_shows {z : Mz} {l : Launch} {p1 : Int} {p2 : Int} {h : Mh} {K : Int → Mh → Prop} (hw : wp_X14_shows p1 p2 h K) : mCal (XR z) l yX14_shows cX14_shows 3 (some Jvm.ClassFile.FieldType.int) 3 76 [(2, 0), (0, p1), (0, p2)] h (mKi K) := by
  refine m_entry RX14 rfl (by decide) rfl (fun p e s m args below meth c C hr => ?_)
  show mG _ p l e _ s m args below meth c _ _ 0 [(0, (2, 0)), (1, (0, p1)), (2, (0, p2))] [] h
  unfold wp_X14_shows at hw
  refine g_aload_n C dX14_shows_0 rfl (by decide) rfl ?_
  refine g_iconst C ⟨by decide, by decide⟩ dX14_shows_1 ?_
  refine gp_X14_148 C dX14_shows_2 kdR_0 (fun z => z) ?_
  refine g_heap (fun h1 eh1 => ?_)
  replace hw := hw h1 eh1
  refine g_aload_n C dX14_shows_5 rfl (by decide) rfl ?_
  refine g_iload_n C dX14_shows_6 rfl rfl ?_
  refine g_callVz C [(0, p1)] (sim_X14_isCork hw) k_2087 k_2089 k_112 k_147 k_2090 hdV_X14_isCork rfl rfl (by decide) rfl kdR_0 rfl rfl rfl dX14_shows_7 ?_
  intro x1 h2 zb7 hw
  refine g_if_eq C 34 dX14_shows_10 rfl hw (fun hw => ?_) (fun hw => ?_)
  · refine g_ldcw C ⟨by decide, by decide⟩ k_2082 dX14_shows_34 ?_
    exact g_iret C hr dX14_shows_37 ⟨_, rfl, hw⟩
  · refine g_iload_n C dX14_shows_13 rfl rfl ?_
    refine g_callSz C [(0, p2)] (sim_X14_isStep hw) k_2063 k_2064 k_147 k_2065 hdS_X14_isStep rfl rfl rfl rfl rfl dX14_shows_14 ?_
    intro x2 h3 zb14 hw
    refine g_if_eq C 34 dX14_shows_17 rfl hw (fun hw => ?_) (fun hw => ?_)
    · refine g_ldcw C ⟨by decide, by decide⟩ k_2082 dX14_shows_34 ?_
      exact g_iret C hr dX14_shows_37 ⟨_, rfl, hw⟩
    · refine g_aload_n C dX14_shows_20 rfl (by decide) rfl ?_
      refine g_aload_n C dX14_shows_21 rfl (by decide) rfl ?_
      refine gw_X14_54 C dX14_shows_22 kdR_0 wwR_0_50 ?_
      refine g_iload_n C dX14_shows_25 rfl rfl ?_
      obtain ⟨⟨b1, b1b⟩, hw⟩ := hw
      refine g_iaload C dX14_shows_26 kdR_14 b1 b1b (fun z26 => ?_)
      refine g_iload_n C dX14_shows_27 rfl rfl ?_
      refine g_callVi C [(0, (h3 14 p1)), (0, p2)] (sim_X14_riseIn hw) k_2066 k_2068 k_108 k_147 k_2069 hdV_X14_riseIn rfl rfl (by decide) rfl kdR_0 rfl rfl rfl dX14_shows_28 ?_
      intro x3 h4 hw
      refine g_goto C 37 dX14_shows_31 rfl ?_
      exact g_iret C hr dX14_shows_37 ⟨_, rfl, hw⟩
set_option maxRecDepth 20000 in
set_option maxHeartbeats 4000000 in
theorem sim_X14_still {z : Mz} {l : Launch} {p1 : Int} {p2 : Int} {p3 : Int} {p4 : Int} {p5 : Int} {h : Mh} {K : Int → Mh → Prop} (hw : wp_X14_still p1 p2 p3 p4 p5 h K) : mCal (XR z) l yX14_still cX14_still 11 (some Jvm.ClassFile.FieldType.long) 3 62 [(2, 0), (0, p1), (0, p2), (0, p3), (0, p4), (0, p5)] h (mKl K) := by
  refine m_entry RX14 rfl (by decide) rfl (fun p e s m args below meth c C hr => ?_)
  have hQ : ∀ x, Lfp (F_X14_still p1 p2 p3 p4 p5 K) x → (match x.1, x.2.1 with | 59, [v6, v8] => mG (XR z) p l e { frames := 3, cells := 0, slots := 0, locals := 62 } s m args below meth c 11 (mMQ (XR z) (mKl K) below args s) 59 [(6, (1, v6)), (8, (0, v8)), (0, (2, 0)), (1, (0, p1)), (2, (0, p2)), (3, (0, p3)), (4, (0, p4)), (5, (0, p5))] [] x.2.2 | 89, [v6, v8, v9, v10] => mG (XR z) p l e { frames := 3, cells := 0, slots := 0, locals := 62 } s m args below meth c 11 (mMQ (XR z) (mKl K) below args s) 89 [(6, (1, v6)), (8, (0, v8)), (9, (0, v9)), (10, (0, v10)), (0, (2, 0)), (1, (0, p1)), (2, (0, p2)), (3, (0, p3)), (4, (0, p4)), (5, (0, p5))] [] x.2.2 | _, _ => True) := by
    intro x hx
    refine Lfp.ind (fun x => (match x.1, x.2.1 with | 59, [v6, v8] => mG (XR z) p l e { frames := 3, cells := 0, slots := 0, locals := 62 } s m args below meth c 11 (mMQ (XR z) (mKl K) below args s) 59 [(6, (1, v6)), (8, (0, v8)), (0, (2, 0)), (1, (0, p1)), (2, (0, p2)), (3, (0, p3)), (4, (0, p4)), (5, (0, p5))] [] x.2.2 | 89, [v6, v8, v9, v10] => mG (XR z) p l e { frames := 3, cells := 0, slots := 0, locals := 62 } s m args below meth c 11 (mMQ (XR z) (mKl K) below args s) 89 [(6, (1, v6)), (8, (0, v8)), (9, (0, v9)), (10, (0, v10)), (0, (2, 0)), (1, (0, p1)), (2, (0, p2)), (3, (0, p3)), (4, (0, p4)), (5, (0, p5))] [] x.2.2 | _, _ => True)) ?_ hx
    clear hx x
    intro Z x hQ hw
    rcases hw with ⟨v6, v8, h, rfl, hw⟩ | ⟨v6, v8, v9, v10, h, rfl, hw⟩
    · show mG (XR z) p l e { frames := 3, cells := 0, slots := 0, locals := 62 } s m args below meth c 11 (mMQ (XR z) (mKl K) below args s) 59 [(6, (1, v6)), (8, (0, v8)), (0, (2, 0)), (1, (0, p1)), (2, (0, p2)), (3, (0, p3)), (4, (0, p4)), (5, (0, p5))] [] h
      unfold B_X14_still_59 at hw
      refine g_iload C dX14_still_59 rfl ?_
      refine g_aload_n C dX14_still_61 rfl (by decide) rfl ?_
      refine g_callVi C [] (sim_X14_cells hw) k_1569 k_1571 k_73 k_147 k_1572 hdV_X14_cells rfl rfl (by decide) rfl kdR_0 rfl rfl rfl dX14_still_62 ?_
      intro x1 h1 hw
      refine g_icmp_ge C 163 dX14_still_65 rfl hw (fun hw => ?_) (fun hw => ?_)
      · refine g_lload C dX14_still_163 rfl ?_
        exact g_lret C hr dX14_still_165 ⟨_, rfl, hw⟩
      · refine g_aload_n C dX14_still_68 rfl (by decide) rfl ?_
        refine gw_X14_27 C dX14_still_69 kdR_0 wwR_0_41 ?_
        refine g_iload C dX14_still_72 rfl ?_
        obtain ⟨⟨b1, b1b⟩, hw⟩ := hw
        refine g_iaload C dX14_still_74 kdR_5 b1 b1b (fun z74 => ?_)
        refine g_iconst C ⟨by decide, by decide⟩ dX14_still_75 ?_
        refine g_icmp_eq C 83 dX14_still_76 rfl hw (fun hw => ?_) (fun hw => ?_)
        · refine g_iconst C ⟨by decide, by decide⟩ dX14_still_83 ?_
          refine g_istore C dX14_still_84 (by decide) ?_
          refine g_iconst C ⟨by decide, by decide⟩ dX14_still_86 ?_
          refine g_istore C dX14_still_87 (by decide) ?_
          exact g_sub [6, 8, 9, 10, 0, 1, 2, 3, 4, 5] rfl (hQ _ hw)
        · refine g_iconst C ⟨by decide, by decide⟩ dX14_still_79 ?_
          refine g_goto C 84 dX14_still_80 rfl ?_
          refine g_istore C dX14_still_84 (by decide) ?_
          refine g_iconst C ⟨by decide, by decide⟩ dX14_still_86 ?_
          refine g_istore C dX14_still_87 (by decide) ?_
          exact g_sub [6, 8, 9, 10, 0, 1, 2, 3, 4, 5] rfl (hQ _ hw)
    · show mG (XR z) p l e { frames := 3, cells := 0, slots := 0, locals := 62 } s m args below meth c 11 (mMQ (XR z) (mKl K) below args s) 89 [(6, (1, v6)), (8, (0, v8)), (9, (0, v9)), (10, (0, v10)), (0, (2, 0)), (1, (0, p1)), (2, (0, p2)), (3, (0, p3)), (4, (0, p4)), (5, (0, p5))] [] h
      unfold B_X14_still_89 at hw
      refine g_iload C dX14_still_89 rfl ?_
      refine g_iload C dX14_still_91 rfl ?_
      refine g_icmp_gt C 139 dX14_still_93 rfl hw (fun hw => ?_) (fun hw => ?_)
      · refine g_lload C dX14_still_139 rfl ?_
        refine g_iload C dX14_still_141 rfl ?_
        refine g_if_eq C 153 dX14_still_143 rfl hw (fun hw => ?_) (fun hw => ?_)
        · refine g_lconst C 0 (Or.inl rfl) rfl dX14_still_153 ?_
          refine g_lor C dX14_still_154 ?_
          refine g_topi (fun x1 ex1 => ?_)
          replace hw := hw x1 ex1
          refine g_lstore C dX14_still_155 (by decide) ?_
          refine g_iincN C dX14_still_157 rfl (by decide) (fun x2 ex2 => ?_)
          replace hw := hw x2 ex2
          refine g_goto C 59 dX14_still_160 rfl ?_
          exact g_sub [6, 8, 0, 1, 2, 3, 4, 5] rfl (hQ _ hw)
        · refine g_lconst C 1 (Or.inr rfl) rfl dX14_still_146 ?_
          refine g_iload C dX14_still_147 rfl ?_
          refine g_lshl C dX14_still_149 ?_
          refine g_goto C 154 dX14_still_150 rfl ?_
          refine g_lor C dX14_still_154 ?_
          refine g_topi (fun x3 ex3 => ?_)
          replace hw := hw x3 ex3
          refine g_lstore C dX14_still_155 (by decide) ?_
          refine g_iincN C dX14_still_157 rfl (by decide) (fun x4 ex4 => ?_)
          replace hw := hw x4 ex4
          refine g_goto C 59 dX14_still_160 rfl ?_
          exact g_sub [6, 8, 0, 1, 2, 3, 4, 5] rfl (hQ _ hw)
      · refine g_iload C dX14_still_96 rfl ?_
        refine g_if_eq C 139 dX14_still_98 rfl hw (fun hw => ?_) (fun hw => ?_)
        · refine g_lload C dX14_still_139 rfl ?_
          refine g_iload C dX14_still_141 rfl ?_
          refine g_if_eq C 153 dX14_still_143 rfl hw (fun hw => ?_) (fun hw => ?_)
          · refine g_lconst C 0 (Or.inl rfl) rfl dX14_still_153 ?_
            refine g_lor C dX14_still_154 ?_
            refine g_topi (fun x5 ex5 => ?_)
            replace hw := hw x5 ex5
            refine g_lstore C dX14_still_155 (by decide) ?_
            refine g_iincN C dX14_still_157 rfl (by decide) (fun x6 ex6 => ?_)
            replace hw := hw x6 ex6
            refine g_goto C 59 dX14_still_160 rfl ?_
            exact g_sub [6, 8, 0, 1, 2, 3, 4, 5] rfl (hQ _ hw)
          · refine g_lconst C 1 (Or.inr rfl) rfl dX14_still_146 ?_
            refine g_iload C dX14_still_147 rfl ?_
            refine g_lshl C dX14_still_149 ?_
            refine g_goto C 154 dX14_still_150 rfl ?_
            refine g_lor C dX14_still_154 ?_
            refine g_topi (fun x7 ex7 => ?_)
            replace hw := hw x7 ex7
            refine g_lstore C dX14_still_155 (by decide) ?_
            refine g_iincN C dX14_still_157 rfl (by decide) (fun x8 ex8 => ?_)
            replace hw := hw x8 ex8
            refine g_goto C 59 dX14_still_160 rfl ?_
            exact g_sub [6, 8, 0, 1, 2, 3, 4, 5] rfl (hQ _ hw)
        · refine g_aload_n C dX14_still_101 rfl (by decide) rfl ?_
          refine g_iload_n C dX14_still_102 rfl rfl ?_
          refine g_iload_n C dX14_still_103 rfl rfl ?_
          refine g_iload C dX14_still_104 rfl ?_
          refine g_iload C dX14_still_106 rfl ?_
          refine g_callVi C [(0, p1), (0, p2), (0, v8), (0, v10)] (sim_X14_gives hw) k_2070 k_2072 k_109 k_147 k_2073 hdV_X14_gives rfl rfl (by decide) rfl kdR_0 rfl rfl rfl dX14_still_108 ?_
          intro x9 h1 hw
          refine g_aload_n C dX14_still_111 rfl (by decide) rfl ?_
          refine g_iload_n C dX14_still_112 rfl rfl ?_
          refine g_iload C dX14_still_113 rfl ?_
          refine g_iload C dX14_still_115 rfl ?_
          refine g_iload C dX14_still_117 rfl ?_
          refine g_callVi C [(0, p3), (0, p4), (0, v8), (0, v10)] (sim_X14_gives hw) k_2070 k_2072 k_109 k_147 k_2073 hdV_X14_gives rfl rfl (by decide) rfl kdR_0 rfl rfl rfl dX14_still_119 ?_
          intro x10 h2 hw
          refine g_iadd C dX14_still_122 ?_
          refine g_if_ne C 130 dX14_still_123 rfl hw (fun hw => ?_) (fun hw => ?_)
          · refine g_iconst C ⟨by decide, by decide⟩ dX14_still_130 ?_
            refine g_istore C dX14_still_131 (by decide) ?_
            refine g_iincN C dX14_still_133 rfl (by decide) (fun x11 ex11 => ?_)
            replace hw := hw x11 ex11
            refine g_goto C 89 dX14_still_136 rfl ?_
            exact g_sub [6, 8, 9, 10, 0, 1, 2, 3, 4, 5] rfl (hQ _ hw)
          · refine g_iconst C ⟨by decide, by decide⟩ dX14_still_126 ?_
            refine g_goto C 131 dX14_still_127 rfl ?_
            refine g_istore C dX14_still_131 (by decide) ?_
            refine g_iincN C dX14_still_133 rfl (by decide) (fun x12 ex12 => ?_)
            replace hw := hw x12 ex12
            refine g_goto C 89 dX14_still_136 rfl ?_
            exact g_sub [6, 8, 9, 10, 0, 1, 2, 3, 4, 5] rfl (hQ _ hw)
  show mG _ p l e _ s m args below meth c _ _ 0 [(0, (2, 0)), (1, (0, p1)), (2, (0, p2)), (3, (0, p3)), (4, (0, p4)), (5, (0, p5))] [] h
  unfold wp_X14_still at hw
  refine g_aload_n C dX14_still_0 rfl (by decide) rfl ?_
  refine g_iconst C ⟨by decide, by decide⟩ dX14_still_1 ?_
  refine gp_X14_148 C dX14_still_2 kdR_0 (fun z => z) ?_
  refine g_heap (fun h1 eh1 => ?_)
  replace hw := hw h1 eh1
  refine g_aload_n C dX14_still_5 rfl (by decide) rfl ?_
  refine g_iload_n C dX14_still_6 rfl rfl ?_
  refine g_callVz C [(0, p1)] (sim_X14_isKind hw) k_2043 k_2045 k_106 k_147 k_2046 hdV_X14_isKind rfl rfl (by decide) rfl kdR_0 rfl rfl rfl dX14_still_7 ?_
  intro x1 h2 zb7 hw
  refine g_if_eq C 49 dX14_still_10 rfl hw (fun hw => ?_) (fun hw => ?_)
  · refine g_ldc2 C ⟨by decide, by decide⟩ k_2255 dX14_still_49 ?_
    exact g_lret C hr dX14_still_52 ⟨_, rfl, hw⟩
  · refine g_aload_n C dX14_still_13 rfl (by decide) rfl ?_
    refine g_iload_n C dX14_still_14 rfl rfl ?_
    refine g_callVz C [(0, p3)] (sim_X14_isKind hw) k_2043 k_2045 k_106 k_147 k_2046 hdV_X14_isKind rfl rfl (by decide) rfl kdR_0 rfl rfl rfl dX14_still_15 ?_
    intro x2 h3 zb15 hw
    refine g_if_eq C 49 dX14_still_18 rfl hw (fun hw => ?_) (fun hw => ?_)
    · refine g_ldc2 C ⟨by decide, by decide⟩ k_2255 dX14_still_49 ?_
      exact g_lret C hr dX14_still_52 ⟨_, rfl, hw⟩
    · refine g_aload_n C dX14_still_21 rfl (by decide) rfl ?_
      refine g_iload_n C dX14_still_22 rfl rfl ?_
      refine g_callVz C [(0, p2)] (sim_X14_isWater hw) k_1561 k_1563 k_71 k_147 k_1564 hdV_X14_isWater rfl rfl (by decide) rfl kdR_0 rfl rfl rfl dX14_still_23 ?_
      intro x3 h4 zb23 hw
      refine g_if_eq C 49 dX14_still_26 rfl hw (fun hw => ?_) (fun hw => ?_)
      · refine g_ldc2 C ⟨by decide, by decide⟩ k_2255 dX14_still_49 ?_
        exact g_lret C hr dX14_still_52 ⟨_, rfl, hw⟩
      · refine g_aload_n C dX14_still_29 rfl (by decide) rfl ?_
        refine g_iload C dX14_still_30 rfl ?_
        refine g_callVz C [(0, p4)] (sim_X14_isWater hw) k_1561 k_1563 k_71 k_147 k_1564 hdV_X14_isWater rfl rfl (by decide) rfl kdR_0 rfl rfl rfl dX14_still_32 ?_
        intro x4 h5 zb32 hw
        refine g_if_eq C 49 dX14_still_35 rfl hw (fun hw => ?_) (fun hw => ?_)
        · refine g_ldc2 C ⟨by decide, by decide⟩ k_2255 dX14_still_49 ?_
          exact g_lret C hr dX14_still_52 ⟨_, rfl, hw⟩
        · refine g_iload C dX14_still_38 rfl ?_
          refine g_iconst C ⟨by decide, by decide⟩ dX14_still_40 ?_
          refine g_bipush C ⟨by decide, by decide⟩ (by decide) dX14_still_41 ?_
          refine g_callSz C [(0, p5), (0, 0), (0, 60)] (sim_X14_isIn hw) k_1934 k_1935 k_147 k_1936 hdS_X14_isIn rfl rfl rfl rfl rfl dX14_still_43 ?_
          intro x5 h6 zb43 hw
          refine g_if_ne C 53 dX14_still_46 rfl hw (fun hw => ?_) (fun hw => ?_)
          · refine g_lconst C 0 (Or.inl rfl) rfl dX14_still_53 ?_
            refine g_lstore C dX14_still_54 (by decide) ?_
            refine g_iconst C ⟨by decide, by decide⟩ dX14_still_56 ?_
            refine g_istore C dX14_still_57 (by decide) ?_
            exact g_sub [6, 8, 0, 1, 2, 3, 4, 5] rfl (hQ _ hw)
          · refine g_ldc2 C ⟨by decide, by decide⟩ k_2255 dX14_still_49 ?_
            exact g_lret C hr dX14_still_52 ⟨_, rfl, hw⟩
set_option maxRecDepth 20000 in
set_option maxHeartbeats 4000000 in
theorem sim_X14_strike {z : Mz} {l : Launch} {p1 : Int} {h : Mh} {K : Int → Mh → Prop} (hw : wp_X14_strike p1 h K) : mCal (XR z) l yX14_strike cX14_strike 2 (some Jvm.ClassFile.FieldType.int) 1 23 [(2, 0), (0, p1)] h (mKi K) := by
  refine m_entry RX14 rfl (by decide) rfl (fun p e s m args below meth c C hr => ?_)
  show mG _ p l e _ s m args below meth c _ _ 0 [(0, (2, 0)), (1, (0, p1))] [] h
  unfold wp_X14_strike at hw
  refine g_aload_n C dX14_strike_0 rfl (by decide) rfl ?_
  refine g_iconst C ⟨by decide, by decide⟩ dX14_strike_1 ?_
  refine gp_X14_148 C dX14_strike_2 kdR_0 (fun z => z) ?_
  refine g_heap (fun h1 eh1 => ?_)
  replace hw := hw h1 eh1
  refine g_aload_n C dX14_strike_5 rfl (by decide) rfl ?_
  refine gf_X14_304 C dX14_strike_6 kdR_0 (fun z6 => ?_)
  refine g_bipush C ⟨by decide, by decide⟩ (by decide) dX14_strike_9 ?_
  refine g_icmp_eq C 26 dX14_strike_11 rfl hw (fun hw => ?_) (fun hw => ?_)
  · refine g_iconst C ⟨by decide, by decide⟩ dX14_strike_26 ?_
    refine g_goto C 37 dX14_strike_27 rfl ?_
    exact g_iret C hr dX14_strike_37 ⟨_, rfl, hw⟩
  · refine g_iload_n C dX14_strike_14 rfl rfl ?_
    refine g_if_lt C 26 dX14_strike_15 rfl hw (fun hw => ?_) (fun hw => ?_)
    · refine g_iconst C ⟨by decide, by decide⟩ dX14_strike_26 ?_
      refine g_goto C 37 dX14_strike_27 rfl ?_
      exact g_iret C hr dX14_strike_37 ⟨_, rfl, hw⟩
    · refine g_iload_n C dX14_strike_18 rfl rfl ?_
      refine g_aload_n C dX14_strike_19 rfl (by decide) rfl ?_
      refine gf_X14_304 C dX14_strike_20 kdR_0 (fun z20 => ?_)
      refine g_icmp_lt C 30 dX14_strike_23 rfl hw (fun hw => ?_) (fun hw => ?_)
      · refine g_aload_n C dX14_strike_30 rfl (by decide) rfl ?_
        refine g_iconst C ⟨by decide, by decide⟩ dX14_strike_31 ?_
        refine g_iconst C ⟨by decide, by decide⟩ dX14_strike_32 ?_
        refine g_iload_n C dX14_strike_33 rfl rfl ?_
        refine g_callVi C [(0, (-1)), (0, 0), (0, p1)] (sim_X14_noted hw) k_2169 k_2171 k_121 k_147 k_2172 hdV_X14_noted rfl rfl (by decide) rfl kdR_0 rfl rfl rfl dX14_strike_34 ?_
        intro x1 h2 hw
        exact g_iret C hr dX14_strike_37 ⟨_, rfl, hw⟩
      · refine g_iconst C ⟨by decide, by decide⟩ dX14_strike_26 ?_
        refine g_goto C 37 dX14_strike_27 rfl ?_
        exact g_iret C hr dX14_strike_37 ⟨_, rfl, hw⟩
set_option maxRecDepth 20000 in
set_option maxHeartbeats 4000000 in
theorem sim_X14_tale {z : Mz} {l : Launch} {p1 : Int} {p2 : Int} {h : Mh} {K : Int → Mh → Prop} (hw : wp_X14_tale p1 p2 h K) : mCal (XR z) l yX14_tale cX14_tale 3 (some Jvm.ClassFile.FieldType.int) 4 101 [(2, 0), (0, p1), (0, p2)] h (mKi K) := by
  refine m_entry RX14 rfl (by decide) rfl (fun p e s m args below meth c C hr => ?_)
  show mG _ p l e _ s m args below meth c _ _ 0 [(0, (2, 0)), (1, (0, p1)), (2, (0, p2))] [] h
  unfold wp_X14_tale at hw
  refine g_aload_n C dX14_tale_0 rfl (by decide) rfl ?_
  refine g_iconst C ⟨by decide, by decide⟩ dX14_tale_1 ?_
  refine gp_X14_148 C dX14_tale_2 kdR_0 (fun z => z) ?_
  refine g_heap (fun h1 eh1 => ?_)
  replace hw := hw h1 eh1
  refine g_iload_n C dX14_tale_5 rfl rfl ?_
  refine g_if_lt C 18 dX14_tale_6 rfl hw (fun hw => ?_) (fun hw => ?_)
  · refine g_iconst C ⟨by decide, by decide⟩ dX14_tale_18 ?_
    exact g_iret C hr dX14_tale_19 ⟨_, rfl, hw⟩
  · refine g_iload_n C dX14_tale_9 rfl rfl ?_
    refine g_iconst C ⟨by decide, by decide⟩ dX14_tale_10 ?_
    refine g_iconst C ⟨by decide, by decide⟩ dX14_tale_11 ?_
    refine g_callSz C [(0, p2), (0, 0), (0, 2)] (sim_X14_isIn hw) k_1934 k_1935 k_147 k_1936 hdS_X14_isIn rfl rfl rfl rfl rfl dX14_tale_12 ?_
    intro x1 h2 zb12 hw
    refine g_if_ne C 20 dX14_tale_15 rfl hw (fun hw => ?_) (fun hw => ?_)
    · refine g_aload_n C dX14_tale_20 rfl (by decide) rfl ?_
      refine g_iload_n C dX14_tale_21 rfl rfl ?_
      refine g_callVv C [(0, p1)] (sim_X14_layTales hw) k_2185 k_2187 k_122 k_147 k_2188 hdV_X14_layTales rfl rfl (by decide) rfl kdR_0 rfl rfl rfl dX14_tale_22 ?_
      intro h3 hw
      refine g_aload_n C dX14_tale_25 rfl (by decide) rfl ?_
      refine gf_X14_512 C dX14_tale_26 kdR_0 (fun z26 => ?_)
      refine g_iload_n C dX14_tale_29 rfl rfl ?_
      refine g_callSi C [(0, (h3 0 89)), (0, p2)] (sim_X14_told hw) k_2205 k_2206 k_147 k_2207 hdS_X14_told rfl rfl rfl rfl rfl dX14_tale_30 ?_
      intro x2 h4 hw
      exact g_iret C hr dX14_tale_33 ⟨_, rfl, hw⟩
    · refine g_iconst C ⟨by decide, by decide⟩ dX14_tale_18 ?_
      exact g_iret C hr dX14_tale_19 ⟨_, rfl, hw⟩
set_option maxRecDepth 20000 in
set_option maxHeartbeats 4000000 in
theorem sim_X14_tales {z : Mz} {l : Launch} {h : Mh} {K : Int → Mh → Prop} (hw : wp_X14_tales h K) : mCal (XR z) l yX14_tales cX14_tales 1 (some Jvm.ClassFile.FieldType.int) 4 101 [(2, 0)] h (mKi K) := by
  refine m_entry RX14 rfl (by decide) rfl (fun p e s m args below meth c C hr => ?_)
  show mG _ p l e _ s m args below meth c _ _ 0 [(0, (2, 0))] [] h
  unfold wp_X14_tales at hw
  refine g_aload_n C dX14_tales_0 rfl (by decide) rfl ?_
  refine g_iconst C ⟨by decide, by decide⟩ dX14_tales_1 ?_
  refine gp_X14_148 C dX14_tales_2 kdR_0 (fun z => z) ?_
  refine g_heap (fun h1 eh1 => ?_)
  replace hw := hw h1 eh1
  refine g_aload_n C dX14_tales_5 rfl (by decide) rfl ?_
  refine g_iconst C ⟨by decide, by decide⟩ dX14_tales_6 ?_
  refine g_callVv C [(0, (-1))] (sim_X14_layTales hw) k_2185 k_2187 k_122 k_147 k_2188 hdV_X14_layTales rfl rfl (by decide) rfl kdR_0 rfl rfl rfl dX14_tales_7 ?_
  intro h2 hw
  refine g_aload_n C dX14_tales_10 rfl (by decide) rfl ?_
  refine gf_X14_509 C dX14_tales_11 kdR_0 (fun z11 => ?_)
  exact g_iret C hr dX14_tales_14 ⟨_, rfl, hw⟩
set_option maxRecDepth 20000 in
set_option maxHeartbeats 4000000 in
theorem sim_X14_text {z : Mz} {l : Launch} {p1 : Int} {h : Mh} {K : Int → Mh → Prop} (hw : wp_X14_text p1 h K) : mCal (XR z) l yX14_text cX14_text 3 (some Jvm.ClassFile.FieldType.int) 7 154 [(2, 0), (0, p1)] h (mKi K) := by
  refine m_entry RX14 rfl (by decide) rfl (fun p e s m args below meth c C hr => ?_)
  have hQ : ∀ x, Lfp (F_X14_text p1 K) x → (match x.1, x.2.1 with | 55, [v2] => mG (XR z) p l e { frames := 7, cells := 0, slots := 0, locals := 154 } s m args below meth c 3 (mMQ (XR z) (mKi K) below args s) 55 [(2, (0, v2)), (0, (2, 0)), (1, (0, p1))] [] x.2.2 | _, _ => True) := by
    intro x hx
    refine Lfp.ind (fun x => (match x.1, x.2.1 with | 55, [v2] => mG (XR z) p l e { frames := 7, cells := 0, slots := 0, locals := 154 } s m args below meth c 3 (mMQ (XR z) (mKi K) below args s) 55 [(2, (0, v2)), (0, (2, 0)), (1, (0, p1))] [] x.2.2 | _, _ => True)) ?_ hx
    clear hx x
    intro Z x hQ hw
    rcases hw with ⟨v2, h, rfl, hw⟩
    · show mG (XR z) p l e { frames := 7, cells := 0, slots := 0, locals := 154 } s m args below meth c 3 (mMQ (XR z) (mKi K) below args s) 55 [(2, (0, v2)), (0, (2, 0)), (1, (0, p1))] [] h
      unfold B_X14_text_55 at hw
      refine g_aload_n C dX14_text_55 rfl (by decide) rfl ?_
      refine gf_X14_166 C dX14_text_56 kdR_0 (fun z56 => ?_)
      refine g_if_eq C 77 dX14_text_59 rfl hw (fun hw => ?_) (fun hw => ?_)
      · refine g_aload_n C dX14_text_77 rfl (by decide) rfl ?_
        refine g_callVv C [] (sim_X14_keepText hw) k_1550 k_1552 k_69 k_147 k_1553 hdV_X14_keepText rfl rfl (by decide) rfl kdR_0 rfl rfl rfl dX14_text_78 ?_
        intro h1 hw
        refine g_iload_n C dX14_text_81 rfl rfl ?_
        exact g_iret C hr dX14_text_82 ⟨_, rfl, hw⟩
      · refine g_aload_n C dX14_text_62 rfl (by decide) rfl ?_
        refine g_callVz C [] (sim_X14_lineRead hw) k_1922 k_1924 k_83 k_147 k_1925 hdV_X14_lineRead rfl rfl (by decide) rfl kdR_0 rfl rfl rfl dX14_text_63 ?_
        intro x1 h2 zb63 hw
        refine g_if_ne C 71 dX14_text_66 rfl hw (fun hw => ?_) (fun hw => ?_)
        · refine g_iincN C dX14_text_71 rfl (by decide) (fun x2 ex2 => ?_)
          replace hw := hw x2 ex2
          refine g_goto C 55 dX14_text_74 rfl ?_
          exact g_sub [2, 0, 1] rfl (hQ _ hw)
        · refine g_iconst C ⟨by decide, by decide⟩ dX14_text_69 ?_
          exact g_iret C hr dX14_text_70 ⟨_, rfl, hw⟩
  show mG _ p l e _ s m args below meth c _ _ 0 [(0, (2, 0)), (1, (0, p1))] [] h
  unfold wp_X14_text at hw
  refine g_aload_n C dX14_text_0 rfl (by decide) rfl ?_
  refine g_iconst C ⟨by decide, by decide⟩ dX14_text_1 ?_
  refine gp_X14_148 C dX14_text_2 kdR_0 (fun z => z) ?_
  refine g_heap (fun h1 eh1 => ?_)
  replace hw := hw h1 eh1
  refine g_iload_n C dX14_text_5 rfl rfl ?_
  refine g_if_lt C 17 dX14_text_6 rfl hw (fun hw => ?_) (fun hw => ?_)
  · refine g_bipush C ⟨by decide, by decide⟩ (by decide) dX14_text_17 ?_
    exact g_iret C hr dX14_text_19 ⟨_, rfl, hw⟩
  · refine g_iload_n C dX14_text_9 rfl rfl ?_
    refine g_aload_n C dX14_text_10 rfl (by decide) rfl ?_
    refine gf_X14_151 C dX14_text_11 kdR_0 (fun z11 => ?_)
    refine g_icmp_le C 20 dX14_text_14 rfl hw (fun hw => ?_) (fun hw => ?_)
    · refine g_aload_n C dX14_text_20 rfl (by decide) rfl ?_
      refine g_iload_n C dX14_text_21 rfl rfl ?_
      refine gp_X14_160 C dX14_text_22 kdR_0 (fun z => z) ?_
      refine g_heap (fun h2 eh2 => ?_)
      replace hw := hw h2 eh2
      refine g_aload_n C dX14_text_25 rfl (by decide) rfl ?_
      refine g_iconst C ⟨by decide, by decide⟩ dX14_text_26 ?_
      refine gp_X14_151 C dX14_text_27 kdR_0 (fun z => z) ?_
      refine g_heap (fun h3 eh3 => ?_)
      replace hw := hw h3 eh3
      refine g_aload_n C dX14_text_30 rfl (by decide) rfl ?_
      refine g_iconst C ⟨by decide, by decide⟩ dX14_text_31 ?_
      refine gp_X14_154 C dX14_text_32 kdR_0 (fun z => z) ?_
      refine g_heap (fun h4 eh4 => ?_)
      replace hw := hw h4 eh4
      refine g_aload_n C dX14_text_35 rfl (by decide) rfl ?_
      refine g_iconst C ⟨by decide, by decide⟩ dX14_text_36 ?_
      refine gp_X14_16 C dX14_text_37 kdR_0 (fun z => z) ?_
      refine g_heap (fun h5 eh5 => ?_)
      replace hw := hw h5 eh5
      refine g_aload_n C dX14_text_40 rfl (by decide) rfl ?_
      refine g_iconst C ⟨by decide, by decide⟩ dX14_text_41 ?_
      refine gp_X14_163 C dX14_text_42 kdR_0 (fun z => z) ?_
      refine g_heap (fun h6 eh6 => ?_)
      replace hw := hw h6 eh6
      refine g_aload_n C dX14_text_45 rfl (by decide) rfl ?_
      refine g_callVv C [] (sim_X14_plain hw) k_1546 k_1548 k_68 k_147 k_1549 hdV_X14_plain rfl rfl (by decide) rfl kdR_0 rfl rfl rfl dX14_text_46 ?_
      intro h7 hw
      refine g_aload_n C dX14_text_49 rfl (by decide) rfl ?_
      refine g_callVv C [] (sim_X14_token hw) k_1898 k_1900 k_77 k_147 k_1901 hdV_X14_token rfl rfl (by decide) rfl kdR_0 rfl rfl rfl dX14_text_50 ?_
      intro h8 hw
      refine g_iconst C ⟨by decide, by decide⟩ dX14_text_53 ?_
      refine g_istore_n C dX14_text_54 rfl (by decide) ?_
      exact g_sub [2, 0, 1] rfl (hQ _ hw)
    · refine g_bipush C ⟨by decide, by decide⟩ (by decide) dX14_text_17 ?_
      exact g_iret C hr dX14_text_19 ⟨_, rfl, hw⟩
set_option maxRecDepth 20000 in
set_option maxHeartbeats 4000000 in
theorem sim_X14_thrown {z : Mz} {l : Launch} {h : Mh} {K : Int → Mh → Prop} (hw : wp_X14_thrown h K) : mCal (XR z) l yX14_thrown cX14_thrown 1 (some Jvm.ClassFile.FieldType.int) 0 0 [(2, 0)] h (mKi K) := by
  refine m_entry RX14 rfl (by decide) rfl (fun p e s m args below meth c C hr => ?_)
  show mG _ p l e _ s m args below meth c _ _ 0 [(0, (2, 0))] [] h
  unfold wp_X14_thrown at hw
  refine g_aload_n C dX14_thrown_0 rfl (by decide) rfl ?_
  refine gf_X14_148 C dX14_thrown_1 kdR_0 (fun z1 => ?_)
  exact g_iret C hr dX14_thrown_4 ⟨_, rfl, hw⟩
set_option maxRecDepth 20000 in
set_option maxHeartbeats 4000000 in
theorem sim_X14_undo {z : Mz} {l : Launch} {h : Mh} {K : Int → Mh → Prop} (hw : wp_X14_undo h K) : mCal (XR z) l yX14_undo cX14_undo 1 (some Jvm.ClassFile.FieldType.int) 4 84 [(2, 0)] h (mKi K) := by
  refine m_entry RX14 rfl (by decide) rfl (fun p e s m args below meth c C hr => ?_)
  show mG _ p l e _ s m args below meth c _ _ 0 [(0, (2, 0))] [] h
  unfold wp_X14_undo at hw
  refine g_aload_n C dX14_undo_0 rfl (by decide) rfl ?_
  refine g_iconst C ⟨by decide, by decide⟩ dX14_undo_1 ?_
  refine gp_X14_148 C dX14_undo_2 kdR_0 (fun z => z) ?_
  refine g_heap (fun h1 eh1 => ?_)
  replace hw := hw h1 eh1
  refine g_aload_n C dX14_undo_5 rfl (by decide) rfl ?_
  refine gf_X14_301 C dX14_undo_6 kdR_0 (fun z6 => ?_)
  refine g_if_ne C 14 dX14_undo_9 rfl hw (fun hw => ?_) (fun hw => ?_)
  · refine g_aload_n C dX14_undo_14 rfl (by decide) rfl ?_
    refine g_dup C (by show ¬ (2 : Nat) = 1; decide) dX14_undo_15 ?_
    refine gf_X14_301 C dX14_undo_16 kdR_0 (fun z16 => ?_)
    refine g_iconst C ⟨by decide, by decide⟩ dX14_undo_19 ?_
    refine g_isub C dX14_undo_20 ?_
    refine gp_X14_301 C dX14_undo_21 kdR_0 (fun z => z) ?_
    refine g_heap (fun h2 eh2 => ?_)
    replace hw := hw h2 eh2
    refine g_aload_n C dX14_undo_24 rfl (by decide) rfl ?_
    refine gw_X14_115 C dX14_undo_25 kdR_0 wwR_0_83 ?_
    refine g_aload_n C dX14_undo_28 rfl (by decide) rfl ?_
    refine gf_X14_301 C dX14_undo_29 kdR_0 (fun z29 => ?_)
    obtain ⟨⟨b1, b1b⟩, hw⟩ := hw
    refine g_iaload C dX14_undo_32 kdR_33 b1 b1b (fun z32 => ?_)
    refine g_if_ge C 49 dX14_undo_33 rfl hw (fun hw => ?_) (fun hw => ?_)
    · refine g_aload_n C dX14_undo_49 rfl (by decide) rfl ?_
      refine gw_X14_27 C dX14_undo_50 kdR_0 wwR_0_41 ?_
      refine g_aload_n C dX14_undo_53 rfl (by decide) rfl ?_
      refine gw_X14_115 C dX14_undo_54 kdR_0 wwR_0_83 ?_
      refine g_aload_n C dX14_undo_57 rfl (by decide) rfl ?_
      refine gf_X14_301 C dX14_undo_58 kdR_0 (fun z58 => ?_)
      obtain ⟨⟨b2, b2b⟩, hw⟩ := hw
      refine g_iaload C dX14_undo_61 kdR_33 b2 b2b (fun z61 => ?_)
      refine g_iconst C ⟨by decide, by decide⟩ dX14_undo_62 ?_
      obtain ⟨⟨b3, b3b⟩, hw⟩ := hw
      refine g_iastore C dX14_undo_63 kdR_5 b3 b3b (fun z => z) ?_
      refine g_heap (fun h3 eh3 => ?_)
      replace hw := hw h3 eh3
      refine g_aload_n C dX14_undo_64 rfl (by decide) rfl ?_
      refine g_callVv C [] (sim_X14_layWays hw) k_1557 k_1559 k_70 k_147 k_1560 hdV_X14_layWays rfl rfl (by decide) rfl kdR_0 rfl rfl rfl dX14_undo_65 ?_
      intro h4 hw
      refine g_aload_n C dX14_undo_68 rfl (by decide) rfl ?_
      refine gf_X14_301 C dX14_undo_69 kdR_0 (fun z69 => ?_)
      exact g_iret C hr dX14_undo_72 ⟨_, rfl, hw⟩
    · refine g_aload_n C dX14_undo_36 rfl (by decide) rfl ?_
      refine g_dup C (by show ¬ (2 : Nat) = 1; decide) dX14_undo_37 ?_
      refine gf_X14_298 C dX14_undo_38 kdR_0 (fun z38 => ?_)
      refine g_iconst C ⟨by decide, by decide⟩ dX14_undo_41 ?_
      refine g_isub C dX14_undo_42 ?_
      refine gp_X14_298 C dX14_undo_43 kdR_0 (fun z => z) ?_
      refine g_heap (fun h5 eh5 => ?_)
      replace hw := hw h5 eh5
      refine g_goto C 68 dX14_undo_46 rfl ?_
      refine g_aload_n C dX14_undo_68 rfl (by decide) rfl ?_
      refine gf_X14_301 C dX14_undo_69 kdR_0 (fun z69 => ?_)
      exact g_iret C hr dX14_undo_72 ⟨_, rfl, hw⟩
  · refine g_iconst C ⟨by decide, by decide⟩ dX14_undo_12 ?_
    exact g_iret C hr dX14_undo_13 ⟨_, rfl, hw⟩
set_option maxRecDepth 20000 in
set_option maxHeartbeats 4000000 in
theorem sim_X14_weak {z : Mz} {l : Launch} {p1 : Int} {p2 : Int} {h : Mh} {K : Int → Mh → Prop} (hw : wp_X14_weak p1 p2 h K) : mCal (XR z) l yX14_weak cX14_weak 3 (some Jvm.ClassFile.FieldType.int) 3 62 [(2, 0), (0, p1), (0, p2)] h (mKi K) := by
  refine m_entry RX14 rfl (by decide) rfl (fun p e s m args below meth c C hr => ?_)
  show mG _ p l e _ s m args below meth c _ _ 0 [(0, (2, 0)), (1, (0, p1)), (2, (0, p2))] [] h
  unfold wp_X14_weak at hw
  refine g_aload_n C dX14_weak_0 rfl (by decide) rfl ?_
  refine g_iconst C ⟨by decide, by decide⟩ dX14_weak_1 ?_
  refine gp_X14_148 C dX14_weak_2 kdR_0 (fun z => z) ?_
  refine g_heap (fun h1 eh1 => ?_)
  replace hw := hw h1 eh1
  refine g_aload_n C dX14_weak_5 rfl (by decide) rfl ?_
  refine g_iload_n C dX14_weak_6 rfl rfl ?_
  refine g_callVz C [(0, p1)] (sim_X14_isWater hw) k_1561 k_1563 k_71 k_147 k_1564 hdV_X14_isWater rfl rfl (by decide) rfl kdR_0 rfl rfl rfl dX14_weak_7 ?_
  intro x1 h2 zb7 hw
  refine g_if_eq C 21 dX14_weak_10 rfl hw (fun hw => ?_) (fun hw => ?_)
  · refine g_iconst C ⟨by decide, by decide⟩ dX14_weak_21 ?_
    refine g_goto C 58 dX14_weak_22 rfl ?_
    exact g_iret C hr dX14_weak_58 ⟨_, rfl, hw⟩
  · refine g_aload_n C dX14_weak_13 rfl (by decide) rfl ?_
    refine g_iload_n C dX14_weak_14 rfl rfl ?_
    refine g_callVz C [(0, p2)] (sim_X14_isWater hw) k_1561 k_1563 k_71 k_147 k_1564 hdV_X14_isWater rfl rfl (by decide) rfl kdR_0 rfl rfl rfl dX14_weak_15 ?_
    intro x2 h3 zb15 hw
    refine g_if_ne C 25 dX14_weak_18 rfl hw (fun hw => ?_) (fun hw => ?_)
    · refine g_aload_n C dX14_weak_25 rfl (by decide) rfl ?_
      refine gw_X14_103 C dX14_weak_26 kdR_0 wwR_0_74 ?_
      refine g_bipush C ⟨by decide, by decide⟩ (by decide) dX14_weak_29 ?_
      refine g_iload_n C dX14_weak_31 rfl rfl ?_
      refine g_imul C dX14_weak_32 ?_
      refine g_iload_n C dX14_weak_33 rfl rfl ?_
      refine g_iadd C dX14_weak_34 ?_
      obtain ⟨⟨b1, b1b⟩, hw⟩ := hw
      refine g_iaload C dX14_weak_35 kdR_30 b1 b1b (fun z35 => ?_)
      refine g_sipush C ⟨by decide, by decide⟩ (by decide) dX14_weak_36 ?_
      refine g_icmp_ne C 47 dX14_weak_39 rfl hw (fun hw => ?_) (fun hw => ?_)
      · refine g_aload_n C dX14_weak_47 rfl (by decide) rfl ?_
        refine gw_X14_106 C dX14_weak_48 kdR_0 wwR_0_75 ?_
        refine g_bipush C ⟨by decide, by decide⟩ (by decide) dX14_weak_51 ?_
        refine g_iload_n C dX14_weak_53 rfl rfl ?_
        refine g_imul C dX14_weak_54 ?_
        refine g_iload_n C dX14_weak_55 rfl rfl ?_
        refine g_iadd C dX14_weak_56 ?_
        obtain ⟨⟨b2, b2b⟩, hw⟩ := hw
        refine g_iaload C dX14_weak_57 kdR_31 b2 b2b (fun z57 => ?_)
        exact g_iret C hr dX14_weak_58 ⟨_, rfl, hw⟩
      · refine g_bipush C ⟨by decide, by decide⟩ (by decide) dX14_weak_42 ?_
        refine g_goto C 58 dX14_weak_44 rfl ?_
        exact g_iret C hr dX14_weak_58 ⟨_, rfl, hw⟩
    · refine g_iconst C ⟨by decide, by decide⟩ dX14_weak_21 ?_
      refine g_goto C 58 dX14_weak_22 rfl ?_
      exact g_iret C hr dX14_weak_58 ⟨_, rfl, hw⟩
set_option maxRecDepth 20000 in
set_option maxHeartbeats 4000000 in
theorem sim_X14_where {z : Mz} {l : Launch} {p1 : Int} {p2 : Int} {h : Mh} {K : Int → Mh → Prop} (hw : wp_X14_where p1 p2 h K) : mCal (XR z) l yX14_where cX14_where 5 (some Jvm.ClassFile.FieldType.int) 5 130 [(2, 0), (0, p1), (0, p2)] h (mKi K) := by
  refine m_entry RX14 rfl (by decide) rfl (fun p e s m args below meth c C hr => ?_)
  have hQ : ∀ x, Lfp (F_X14_where p1 p2 K) x → (match x.1, x.2.1 with | 35, [v3, v4] => mG (XR z) p l e { frames := 5, cells := 0, slots := 0, locals := 130 } s m args below meth c 5 (mMQ (XR z) (mKi K) below args s) 35 [(3, (0, v3)), (4, (0, v4)), (0, (2, 0)), (1, (0, p1)), (2, (0, p2))] [] x.2.2 | _, _ => True) := by
    intro x hx
    refine Lfp.ind (fun x => (match x.1, x.2.1 with | 35, [v3, v4] => mG (XR z) p l e { frames := 5, cells := 0, slots := 0, locals := 130 } s m args below meth c 5 (mMQ (XR z) (mKi K) below args s) 35 [(3, (0, v3)), (4, (0, v4)), (0, (2, 0)), (1, (0, p1)), (2, (0, p2))] [] x.2.2 | _, _ => True)) ?_ hx
    clear hx x
    intro Z x hQ hw
    rcases hw with ⟨v3, v4, h, rfl, hw⟩
    · show mG (XR z) p l e { frames := 5, cells := 0, slots := 0, locals := 130 } s m args below meth c 5 (mMQ (XR z) (mKi K) below args s) 35 [(3, (0, v3)), (4, (0, v4)), (0, (2, 0)), (1, (0, p1)), (2, (0, p2))] [] h
      unfold B_X14_where_35 at hw
      refine g_iload C dX14_where_35 rfl ?_
      refine g_iload_n C dX14_where_37 rfl rfl ?_
      refine g_icmp_ge C 55 dX14_where_38 rfl hw (fun hw => ?_) (fun hw => ?_)
      · refine g_iload_n C dX14_where_55 rfl rfl ?_
        exact g_iret C hr dX14_where_56 ⟨_, rfl, hw⟩
      · refine g_aload_n C dX14_where_41 rfl (by decide) rfl ?_
        refine g_iload_n C dX14_where_42 rfl rfl ?_
        refine g_iload C dX14_where_43 rfl ?_
        refine g_callVi C [(0, v3), (0, v4)] (sim_X14_goesFrom hw) k_2129 k_2131 k_118 k_147 k_2132 hdV_X14_goesFrom rfl rfl (by decide) rfl kdR_0 rfl rfl rfl dX14_where_45 ?_
        intro x1 h1 hw
        refine g_istore_n C dX14_where_48 rfl (by decide) ?_
        refine g_iincN C dX14_where_49 rfl (by decide) (fun x2 ex2 => ?_)
        replace hw := hw x2 ex2
        refine g_goto C 35 dX14_where_52 rfl ?_
        exact g_sub [3, 4, 0, 1, 2] rfl (hQ _ hw)
  show mG _ p l e _ s m args below meth c _ _ 0 [(0, (2, 0)), (1, (0, p1)), (2, (0, p2))] [] h
  unfold wp_X14_where at hw
  refine g_aload_n C dX14_where_0 rfl (by decide) rfl ?_
  refine g_iconst C ⟨by decide, by decide⟩ dX14_where_1 ?_
  refine gp_X14_148 C dX14_where_2 kdR_0 (fun z => z) ?_
  refine g_heap (fun h1 eh1 => ?_)
  replace hw := hw h1 eh1
  refine g_aload_n C dX14_where_5 rfl (by decide) rfl ?_
  refine g_iload_n C dX14_where_6 rfl rfl ?_
  refine g_callVz C [(0, p1)] (sim_X14_isSkater hw) k_2099 k_2101 k_113 k_147 k_2102 hdV_X14_isSkater rfl rfl (by decide) rfl kdR_0 rfl rfl rfl dX14_where_7 ?_
  intro x1 h2 zb7 hw
  refine g_if_eq C 23 dX14_where_10 rfl hw (fun hw => ?_) (fun hw => ?_)
  · refine g_iconst C ⟨by decide, by decide⟩ dX14_where_23 ?_
    exact g_iret C hr dX14_where_24 ⟨_, rfl, hw⟩
  · refine g_iload_n C dX14_where_13 rfl rfl ?_
    refine g_iconst C ⟨by decide, by decide⟩ dX14_where_14 ?_
    refine g_bipush C ⟨by decide, by decide⟩ (by decide) dX14_where_15 ?_
    refine g_callSz C [(0, p2), (0, 0), (0, 100)] (sim_X14_isIn hw) k_1934 k_1935 k_147 k_1936 hdS_X14_isIn rfl rfl rfl rfl rfl dX14_where_17 ?_
    intro x2 h3 zb17 hw
    refine g_if_ne C 25 dX14_where_20 rfl hw (fun hw => ?_) (fun hw => ?_)
    · refine g_aload_n C dX14_where_25 rfl (by decide) rfl ?_
      refine gw_X14_60 C dX14_where_26 kdR_0 wwR_0_52 ?_
      refine g_iload_n C dX14_where_29 rfl rfl ?_
      obtain ⟨⟨b1, b1b⟩, hw⟩ := hw
      refine g_iaload C dX14_where_30 kdR_16 b1 b1b (fun z30 => ?_)
      refine g_topi (fun x3 ex3 => ?_)
      replace hw := hw x3 ex3
      refine g_istore_n C dX14_where_31 rfl (by decide) ?_
      refine g_iconst C ⟨by decide, by decide⟩ dX14_where_32 ?_
      refine g_istore C dX14_where_33 (by decide) ?_
      exact g_sub [3, 4, 0, 1, 2] rfl (hQ _ hw)
    · refine g_iconst C ⟨by decide, by decide⟩ dX14_where_23 ?_
      exact g_iret C hr dX14_where_24 ⟨_, rfl, hw⟩
