set_option maxRecDepth 20000 in
set_option maxHeartbeats 4000000 in
theorem sim_X14_isCounted {z : Mz} {l : Launch} {h : Mh} {K : Int → Mh → Prop} (hw : wp_X14_isCounted h K) : mCal (XR z) l yX14_isCounted cX14_isCounted 1 (some Jvm.ClassFile.FieldType.boolean) 1 21 [(2, 0)] h (mKz K) := by
  refine m_entry RX14 rfl (by decide) rfl (fun p e s m args below meth c C hr => ?_)
  show mG _ p l e _ s m args below meth c _ _ 0 [(0, (2, 0))] [] h
  unfold wp_X14_isCounted at hw
  refine g_aload_n C dX14_isCounted_0 rfl (by decide) rfl ?_
  refine gf_X14_242 C dX14_isCounted_1 kdR_0 (fun z1 => ?_)
  refine g_bipush C ⟨by decide, by decide⟩ (by decide) dX14_isCounted_4 ?_
  refine g_icmp_ne C 15 dX14_isCounted_6 rfl hw (fun hw => ?_) (fun hw => ?_)
  · refine g_aload_n C dX14_isCounted_15 rfl (by decide) rfl ?_
    refine g_dup C (by show ¬ (2 : Nat) = 1; decide) dX14_isCounted_16 ?_
    refine gf_X14_242 C dX14_isCounted_17 kdR_0 (fun z17 => ?_)
    refine g_iconst C ⟨by decide, by decide⟩ dX14_isCounted_20 ?_
    refine g_iadd C dX14_isCounted_21 ?_
    refine gp_X14_242 C dX14_isCounted_22 kdR_0 (fun z => z) ?_
    refine g_heap (fun h1 eh1 => ?_)
    replace hw := hw h1 eh1
    refine g_iconst C ⟨by decide, by decide⟩ dX14_isCounted_25 ?_
    exact g_zret C hr (Or.inr rfl) dX14_isCounted_26 ⟨_, rfl, (Or.inr rfl), hw⟩
  · refine g_aload_n C dX14_isCounted_9 rfl (by decide) rfl ?_
    refine g_iconst C ⟨by decide, by decide⟩ dX14_isCounted_10 ?_
    refine g_callVz C [(0, 2)] (sim_X14_wrong hw) k_1926 k_1928 k_84 k_147 k_1929 hdV_X14_wrong rfl rfl (by decide) rfl kdR_0 rfl rfl rfl dX14_isCounted_11 ?_
    intro x1 h2 zb11 hw
    exact g_zret C hr zb11 dX14_isCounted_14 ⟨_, rfl, zb11, hw⟩
set_option maxRecDepth 20000 in
set_option maxHeartbeats 4000000 in
theorem sim_X14_isKey {z : Mz} {l : Launch} {p1 : Int} {h : Mh} {K : Int → Mh → Prop} (hw : wp_X14_isKey p1 h K) : mCal (XR z) l yX14_isKey cX14_isKey 2 (some Jvm.ClassFile.FieldType.boolean) 0 0 [(2, 0), (0, p1)] h (mKz K) := by
  refine m_entry RX14 rfl (by decide) rfl (fun p e s m args below meth c C hr => ?_)
  show mG _ p l e _ s m args below meth c _ _ 0 [(0, (2, 0)), (1, (0, p1))] [] h
  unfold wp_X14_isKey at hw
  refine g_aload_n C dX14_isKey_0 rfl (by decide) rfl ?_
  refine gf_X14_166 C dX14_isKey_1 kdR_0 (fun z1 => ?_)
  refine g_iconst C ⟨by decide, by decide⟩ dX14_isKey_4 ?_
  refine g_icmp_ne C 20 dX14_isKey_5 rfl hw (fun hw => ?_) (fun hw => ?_)
  · refine g_iconst C ⟨by decide, by decide⟩ dX14_isKey_20 ?_
    exact g_zret C hr (Or.inl rfl) dX14_isKey_21 ⟨_, rfl, (Or.inl rfl), hw⟩
  · refine g_aload_n C dX14_isKey_8 rfl (by decide) rfl ?_
    refine gf_X14_177 C dX14_isKey_9 kdR_0 (fun z9 => ?_)
    refine g_iload_n C dX14_isKey_12 rfl rfl ?_
    refine g_icmp_ne C 20 dX14_isKey_13 rfl hw (fun hw => ?_) (fun hw => ?_)
    · refine g_iconst C ⟨by decide, by decide⟩ dX14_isKey_20 ?_
      exact g_zret C hr (Or.inl rfl) dX14_isKey_21 ⟨_, rfl, (Or.inl rfl), hw⟩
    · refine g_iconst C ⟨by decide, by decide⟩ dX14_isKey_16 ?_
      refine g_goto C 21 dX14_isKey_17 rfl ?_
      exact g_zret C hr (Or.inr rfl) dX14_isKey_21 ⟨_, rfl, (Or.inr rfl), hw⟩
set_option maxRecDepth 20000 in
set_option maxHeartbeats 4000000 in
theorem sim_X14_isSign {z : Mz} {l : Launch} {p1 : Int} {h : Mh} {K : Int → Mh → Prop} (hw : wp_X14_isSign p1 h K) : mCal (XR z) l yX14_isSign cX14_isSign 2 (some Jvm.ClassFile.FieldType.boolean) 0 0 [(2, 0), (0, p1)] h (mKz K) := by
  refine m_entry RX14 rfl (by decide) rfl (fun p e s m args below meth c C hr => ?_)
  show mG _ p l e _ s m args below meth c _ _ 0 [(0, (2, 0)), (1, (0, p1))] [] h
  unfold wp_X14_isSign at hw
  refine g_aload_n C dX14_isSign_0 rfl (by decide) rfl ?_
  refine gf_X14_166 C dX14_isSign_1 kdR_0 (fun z1 => ?_)
  refine g_iconst C ⟨by decide, by decide⟩ dX14_isSign_4 ?_
  refine g_icmp_ne C 20 dX14_isSign_5 rfl hw (fun hw => ?_) (fun hw => ?_)
  · refine g_iconst C ⟨by decide, by decide⟩ dX14_isSign_20 ?_
    exact g_zret C hr (Or.inl rfl) dX14_isSign_21 ⟨_, rfl, (Or.inl rfl), hw⟩
  · refine g_aload_n C dX14_isSign_8 rfl (by decide) rfl ?_
    refine gf_X14_177 C dX14_isSign_9 kdR_0 (fun z9 => ?_)
    refine g_iload_n C dX14_isSign_12 rfl rfl ?_
    refine g_icmp_ne C 20 dX14_isSign_13 rfl hw (fun hw => ?_) (fun hw => ?_)
    · refine g_iconst C ⟨by decide, by decide⟩ dX14_isSign_20 ?_
      exact g_zret C hr (Or.inl rfl) dX14_isSign_21 ⟨_, rfl, (Or.inl rfl), hw⟩
    · refine g_iconst C ⟨by decide, by decide⟩ dX14_isSign_16 ?_
      refine g_goto C 21 dX14_isSign_17 rfl ?_
      exact g_zret C hr (Or.inr rfl) dX14_isSign_21 ⟨_, rfl, (Or.inr rfl), hw⟩
set_option maxRecDepth 20000 in
set_option maxHeartbeats 4000000 in
theorem sim_X14_isSkater {z : Mz} {l : Launch} {p1 : Int} {h : Mh} {K : Int → Mh → Prop} (hw : wp_X14_isSkater p1 h K) : mCal (XR z) l yX14_isSkater cX14_isSkater 2 (some Jvm.ClassFile.FieldType.boolean) 0 0 [(2, 0), (0, p1)] h (mKz K) := by
  refine m_entry RX14 rfl (by decide) rfl (fun p e s m args below meth c C hr => ?_)
  show mG _ p l e _ s m args below meth c _ _ 0 [(0, (2, 0)), (1, (0, p1))] [] h
  unfold wp_X14_isSkater at hw
  refine g_iload_n C dX14_isSkater_0 rfl rfl ?_
  refine g_if_lt C 16 dX14_isSkater_1 rfl hw (fun hw => ?_) (fun hw => ?_)
  · refine g_iconst C ⟨by decide, by decide⟩ dX14_isSkater_16 ?_
    exact g_zret C hr (Or.inl rfl) dX14_isSkater_17 ⟨_, rfl, (Or.inl rfl), hw⟩
  · refine g_iload_n C dX14_isSkater_4 rfl rfl ?_
    refine g_aload_n C dX14_isSkater_5 rfl (by decide) rfl ?_
    refine gf_X14_267 C dX14_isSkater_6 kdR_0 (fun z6 => ?_)
    refine g_icmp_ge C 16 dX14_isSkater_9 rfl hw (fun hw => ?_) (fun hw => ?_)
    · refine g_iconst C ⟨by decide, by decide⟩ dX14_isSkater_16 ?_
      exact g_zret C hr (Or.inl rfl) dX14_isSkater_17 ⟨_, rfl, (Or.inl rfl), hw⟩
    · refine g_iconst C ⟨by decide, by decide⟩ dX14_isSkater_12 ?_
      refine g_goto C 17 dX14_isSkater_13 rfl ?_
      exact g_zret C hr (Or.inr rfl) dX14_isSkater_17 ⟨_, rfl, (Or.inr rfl), hw⟩
set_option maxRecDepth 20000 in
set_option maxHeartbeats 4000000 in
theorem sim_X14_isStep {z : Mz} {l : Launch} {p0 : Int} {h : Mh} {K : Int → Mh → Prop} (hw : wp_X14_isStep p0 h K) : mCal (XR z) l yX14_isStep cX14_isStep 1 (some Jvm.ClassFile.FieldType.boolean) 1 22 [(0, p0)] h (mKz K) := by
  refine m_entry RX14 rfl (by decide) rfl (fun p e s m args below meth c C hr => ?_)
  show mG _ p l e _ s m args below meth c _ _ 0 [(0, (0, p0))] [] h
  unfold wp_X14_isStep at hw
  refine g_iload_n C dX14_isStep_0 rfl rfl ?_
  refine g_iconst C ⟨by decide, by decide⟩ dX14_isStep_1 ?_
  refine g_sipush C ⟨by decide, by decide⟩ (by decide) dX14_isStep_2 ?_
  refine g_callSz C [(0, p0), (0, 0), (0, 199)] (sim_X14_isIn hw) k_1934 k_1935 k_147 k_1936 hdS_X14_isIn rfl rfl rfl rfl rfl dX14_isStep_5 ?_
  intro x1 h1 zb5 hw
  exact g_zret C hr zb5 dX14_isStep_8 ⟨_, rfl, zb5, hw⟩
set_option maxRecDepth 20000 in
set_option maxHeartbeats 4000000 in
theorem sim_X14_keep {z : Mz} {l : Launch} {h : Mh} {K : Int → Mh → Prop} (hw : wp_X14_keep h K) : mCal (XR z) l yX14_keep cX14_keep 2 (some Jvm.ClassFile.FieldType.int) 0 0 [(2, 0)] h (mKi K) := by
  refine m_entry RX14 rfl (by decide) rfl (fun p e s m args below meth c C hr => ?_)
  have hQ : ∀ x, Lfp (F_X14_keep K) x → (match x.1, x.2.1 with | 20, [v1] => mG (XR z) p l e { frames := 0, cells := 0, slots := 0, locals := 0 } s m args below meth c 2 (mMQ (XR z) (mKi K) below args s) 20 [(1, (0, v1)), (0, (2, 0))] [] x.2.2 | 46, [v1] => mG (XR z) p l e { frames := 0, cells := 0, slots := 0, locals := 0 } s m args below meth c 2 (mMQ (XR z) (mKi K) below args s) 46 [(1, (0, v1)), (0, (2, 0))] [] x.2.2 | _, _ => True) := by
    intro x hx
    refine Lfp.ind (fun x => (match x.1, x.2.1 with | 20, [v1] => mG (XR z) p l e { frames := 0, cells := 0, slots := 0, locals := 0 } s m args below meth c 2 (mMQ (XR z) (mKi K) below args s) 20 [(1, (0, v1)), (0, (2, 0))] [] x.2.2 | 46, [v1] => mG (XR z) p l e { frames := 0, cells := 0, slots := 0, locals := 0 } s m args below meth c 2 (mMQ (XR z) (mKi K) below args s) 46 [(1, (0, v1)), (0, (2, 0))] [] x.2.2 | _, _ => True)) ?_ hx
    clear hx x
    intro Z x hQ hw
    rcases hw with ⟨v1, h, rfl, hw⟩ | ⟨v1, h, rfl, hw⟩
    · show mG (XR z) p l e { frames := 0, cells := 0, slots := 0, locals := 0 } s m args below meth c 2 (mMQ (XR z) (mKi K) below args s) 20 [(1, (0, v1)), (0, (2, 0))] [] h
      unfold B_X14_keep_20 at hw
      refine g_iload_n C dX14_keep_20 rfl rfl ?_
      refine g_bipush C ⟨by decide, by decide⟩ (by decide) dX14_keep_21 ?_
      refine g_icmp_ge C 44 dX14_keep_23 rfl hw (fun hw => ?_) (fun hw => ?_)
      · refine g_iconst C ⟨by decide, by decide⟩ dX14_keep_44 ?_
        refine g_istore_n C dX14_keep_45 rfl (by decide) ?_
        exact g_sub [1, 0] rfl (hQ _ hw)
      · refine g_aload_n C dX14_keep_26 rfl (by decide) rfl ?_
        refine gw_X14_136 C dX14_keep_27 kdR_0 wwR_0_98 ?_
        refine g_iload_n C dX14_keep_30 rfl rfl ?_
        refine g_aload_n C dX14_keep_31 rfl (by decide) rfl ?_
        refine gw_X14_27 C dX14_keep_32 kdR_0 wwR_0_41 ?_
        refine g_iload_n C dX14_keep_35 rfl rfl ?_
        obtain ⟨⟨b1, b1b⟩, hw⟩ := hw
        refine g_iaload C dX14_keep_36 kdR_5 b1 b1b (fun z36 => ?_)
        obtain ⟨⟨b2, b2b⟩, hw⟩ := hw
        refine g_iastore C dX14_keep_37 kdR_39 b2 b2b (fun z => z) ?_
        refine g_heap (fun h1 eh1 => ?_)
        replace hw := hw h1 eh1
        refine g_iincN C dX14_keep_38 rfl (by decide) (fun x1 ex1 => ?_)
        replace hw := hw x1 ex1
        refine g_goto C 20 dX14_keep_41 rfl ?_
        exact g_sub [1, 0] rfl (hQ _ hw)
    · show mG (XR z) p l e { frames := 0, cells := 0, slots := 0, locals := 0 } s m args below meth c 2 (mMQ (XR z) (mKi K) below args s) 46 [(1, (0, v1)), (0, (2, 0))] [] h
      unfold B_X14_keep_46 at hw
      refine g_iload_n C dX14_keep_46 rfl rfl ?_
      refine g_bipush C ⟨by decide, by decide⟩ (by decide) dX14_keep_47 ?_
      refine g_icmp_ge C 104 dX14_keep_49 rfl hw (fun hw => ?_) (fun hw => ?_)
      · refine g_aload_n C dX14_keep_104 rfl (by decide) rfl ?_
        refine gf_X14_298 C dX14_keep_105 kdR_0 (fun z105 => ?_)
        exact g_iret C hr dX14_keep_108 ⟨_, rfl, hw⟩
      · refine g_aload_n C dX14_keep_52 rfl (by decide) rfl ?_
        refine gw_X14_139 C dX14_keep_53 kdR_0 wwR_0_99 ?_
        refine g_iconst C ⟨by decide, by decide⟩ dX14_keep_56 ?_
        refine g_iload_n C dX14_keep_57 rfl rfl ?_
        refine g_imul C dX14_keep_58 ?_
        refine g_aload_n C dX14_keep_59 rfl (by decide) rfl ?_
        refine gw_X14_63 C dX14_keep_60 kdR_0 wwR_0_53 ?_
        refine g_iload_n C dX14_keep_63 rfl rfl ?_
        obtain ⟨⟨b3, b3b⟩, hw⟩ := hw
        refine g_iaload C dX14_keep_64 kdR_17 b3 b3b (fun z64 => ?_)
        obtain ⟨⟨b4, b4b⟩, hw⟩ := hw
        refine g_iastore C dX14_keep_65 kdR_40 b4 b4b (fun z => z) ?_
        refine g_heap (fun h1 eh1 => ?_)
        replace hw := hw h1 eh1
        refine g_aload_n C dX14_keep_66 rfl (by decide) rfl ?_
        refine gw_X14_139 C dX14_keep_67 kdR_0 wwR_0_99 ?_
        refine g_iconst C ⟨by decide, by decide⟩ dX14_keep_70 ?_
        refine g_iload_n C dX14_keep_71 rfl rfl ?_
        refine g_imul C dX14_keep_72 ?_
        refine g_iconst C ⟨by decide, by decide⟩ dX14_keep_73 ?_
        refine g_iadd C dX14_keep_74 ?_
        refine g_aload_n C dX14_keep_75 rfl (by decide) rfl ?_
        refine gw_X14_66 C dX14_keep_76 kdR_0 wwR_0_54 ?_
        refine g_iload_n C dX14_keep_79 rfl rfl ?_
        obtain ⟨⟨b5, b5b⟩, hw⟩ := hw
        refine g_iaload C dX14_keep_80 kdR_18 b5 b5b (fun z80 => ?_)
        obtain ⟨⟨b6, b6b⟩, hw⟩ := hw
        refine g_iastore C dX14_keep_81 kdR_40 b6 b6b (fun z => z) ?_
        refine g_heap (fun h2 eh2 => ?_)
        replace hw := hw h2 eh2
        refine g_aload_n C dX14_keep_82 rfl (by decide) rfl ?_
        refine gw_X14_139 C dX14_keep_83 kdR_0 wwR_0_99 ?_
        refine g_iconst C ⟨by decide, by decide⟩ dX14_keep_86 ?_
        refine g_iload_n C dX14_keep_87 rfl rfl ?_
        refine g_imul C dX14_keep_88 ?_
        refine g_iconst C ⟨by decide, by decide⟩ dX14_keep_89 ?_
        refine g_iadd C dX14_keep_90 ?_
        refine g_aload_n C dX14_keep_91 rfl (by decide) rfl ?_
        refine gw_X14_69 C dX14_keep_92 kdR_0 wwR_0_55 ?_
        refine g_iload_n C dX14_keep_95 rfl rfl ?_
        obtain ⟨⟨b7, b7b⟩, hw⟩ := hw
        refine g_iaload C dX14_keep_96 kdR_19 b7 b7b (fun z96 => ?_)
        obtain ⟨⟨b8, b8b⟩, hw⟩ := hw
        refine g_iastore C dX14_keep_97 kdR_40 b8 b8b (fun z => z) ?_
        refine g_heap (fun h3 eh3 => ?_)
        replace hw := hw h3 eh3
        refine g_iincN C dX14_keep_98 rfl (by decide) (fun x1 ex1 => ?_)
        replace hw := hw x1 ex1
        refine g_goto C 46 dX14_keep_101 rfl ?_
        exact g_sub [1, 0] rfl (hQ _ hw)
  show mG _ p l e _ s m args below meth c _ _ 0 [(0, (2, 0))] [] h
  unfold wp_X14_keep at hw
  refine g_aload_n C dX14_keep_0 rfl (by decide) rfl ?_
  refine g_iconst C ⟨by decide, by decide⟩ dX14_keep_1 ?_
  refine gp_X14_148 C dX14_keep_2 kdR_0 (fun z => z) ?_
  refine g_heap (fun h1 eh1 => ?_)
  replace hw := hw h1 eh1
  refine g_aload_n C dX14_keep_5 rfl (by decide) rfl ?_
  refine g_iconst C ⟨by decide, by decide⟩ dX14_keep_6 ?_
  refine gp_X14_307 C dX14_keep_7 kdR_0 (fun _ => (Or.inr rfl)) ?_
  refine g_heap (fun h2 eh2 => ?_)
  replace hw := hw h2 eh2
  refine g_aload_n C dX14_keep_10 rfl (by decide) rfl ?_
  refine g_aload_n C dX14_keep_11 rfl (by decide) rfl ?_
  refine gf_X14_298 C dX14_keep_12 kdR_0 (fun z12 => ?_)
  refine gp_X14_571 C dX14_keep_15 kdR_0 (fun z => z) ?_
  refine g_heap (fun h3 eh3 => ?_)
  replace hw := hw h3 eh3
  refine g_iconst C ⟨by decide, by decide⟩ dX14_keep_18 ?_
  refine g_istore_n C dX14_keep_19 rfl (by decide) ?_
  exact g_sub [1, 0] rfl (hQ _ hw)
set_option maxRecDepth 20000 in
set_option maxHeartbeats 4000000 in
theorem sim_X14_keepText {z : Mz} {l : Launch} {h : Mh} {K : Mh → Prop} (hw : wp_X14_keepText h K) : mCal (XR z) l yX14_keepText cX14_keepText 2 none 4 84 [(2, 0)] h (mKv K) := by
  refine m_entry RX14 rfl (by decide) rfl (fun p e s m args below meth c C hr => ?_)
  have hQ : ∀ x, Lfp (F_X14_keepText K) x → (match x.1, x.2.1 with | 121, [v1] => mG (XR z) p l e { frames := 4, cells := 0, slots := 0, locals := 84 } s m args below meth c 2 (mMQ (XR z) (mKv K) below args s) 121 [(1, (0, v1)), (0, (2, 0))] [] x.2.2 | _, _ => True) := by
    intro x hx
    refine Lfp.ind (fun x => (match x.1, x.2.1 with | 121, [v1] => mG (XR z) p l e { frames := 4, cells := 0, slots := 0, locals := 84 } s m args below meth c 2 (mMQ (XR z) (mKv K) below args s) 121 [(1, (0, v1)), (0, (2, 0))] [] x.2.2 | _, _ => True)) ?_ hx
    clear hx x
    intro Z x hQ hw
    rcases hw with ⟨v1, h, rfl, hw⟩
    · show mG (XR z) p l e { frames := 4, cells := 0, slots := 0, locals := 84 } s m args below meth c 2 (mMQ (XR z) (mKv K) below args s) 121 [(1, (0, v1)), (0, (2, 0))] [] h
      unfold B_X14_keepText_121 at hw
      refine g_iload_n C dX14_keepText_121 rfl rfl ?_
      refine g_bipush C ⟨by decide, by decide⟩ (by decide) dX14_keepText_122 ?_
      refine g_icmp_ge C 148 dX14_keepText_124 rfl hw (fun hw => ?_) (fun hw => ?_)
      · refine g_aload_n C dX14_keepText_148 rfl (by decide) rfl ?_
        refine gw_X14_36 C dX14_keepText_149 kdR_0 wwR_0_44 ?_
        refine g_iconst C ⟨by decide, by decide⟩ dX14_keepText_152 ?_
        refine g_callSv C [(2, 8), (0, 3)] (sim_X14_copies hw) k_1554 k_1555 k_147 k_1556 hdS_X14_copies rfl rfl rfl rfl rfl dX14_keepText_153 ?_
        intro h1 hw
        refine g_aload_n C dX14_keepText_156 rfl (by decide) rfl ?_
        refine gw_X14_39 C dX14_keepText_157 kdR_0 wwR_0_45 ?_
        refine g_iconst C ⟨by decide, by decide⟩ dX14_keepText_160 ?_
        refine g_callSv C [(2, 9), (0, 4)] (sim_X14_copies hw) k_1554 k_1555 k_147 k_1556 hdS_X14_copies rfl rfl rfl rfl rfl dX14_keepText_161 ?_
        intro h2 hw
        refine g_aload_n C dX14_keepText_164 rfl (by decide) rfl ?_
        refine gw_X14_42 C dX14_keepText_165 kdR_0 wwR_0_46 ?_
        refine g_iconst C ⟨by decide, by decide⟩ dX14_keepText_168 ?_
        refine g_callSv C [(2, 10), (0, 4)] (sim_X14_copies hw) k_1554 k_1555 k_147 k_1556 hdS_X14_copies rfl rfl rfl rfl rfl dX14_keepText_169 ?_
        intro h3 hw
        refine g_aload_n C dX14_keepText_172 rfl (by decide) rfl ?_
        refine gw_X14_45 C dX14_keepText_173 kdR_0 wwR_0_47 ?_
        refine g_iconst C ⟨by decide, by decide⟩ dX14_keepText_176 ?_
        refine g_callSv C [(2, 11), (0, 4)] (sim_X14_copies hw) k_1554 k_1555 k_147 k_1556 hdS_X14_copies rfl rfl rfl rfl rfl dX14_keepText_177 ?_
        intro h4 hw
        refine g_aload_n C dX14_keepText_180 rfl (by decide) rfl ?_
        refine gw_X14_48 C dX14_keepText_181 kdR_0 wwR_0_48 ?_
        refine g_bipush C ⟨by decide, by decide⟩ (by decide) dX14_keepText_184 ?_
        refine g_callSv C [(2, 12), (0, 24)] (sim_X14_copies hw) k_1554 k_1555 k_147 k_1556 hdS_X14_copies rfl rfl rfl rfl rfl dX14_keepText_186 ?_
        intro h5 hw
        refine g_aload_n C dX14_keepText_189 rfl (by decide) rfl ?_
        refine gw_X14_51 C dX14_keepText_190 kdR_0 wwR_0_49 ?_
        refine g_bipush C ⟨by decide, by decide⟩ (by decide) dX14_keepText_193 ?_
        refine g_callSv C [(2, 13), (0, 6)] (sim_X14_copies hw) k_1554 k_1555 k_147 k_1556 hdS_X14_copies rfl rfl rfl rfl rfl dX14_keepText_195 ?_
        intro h6 hw
        refine g_aload_n C dX14_keepText_198 rfl (by decide) rfl ?_
        refine gw_X14_54 C dX14_keepText_199 kdR_0 wwR_0_50 ?_
        refine g_bipush C ⟨by decide, by decide⟩ (by decide) dX14_keepText_202 ?_
        refine g_callSv C [(2, 14), (0, 6)] (sim_X14_copies hw) k_1554 k_1555 k_147 k_1556 hdS_X14_copies rfl rfl rfl rfl rfl dX14_keepText_204 ?_
        intro h7 hw
        refine g_aload_n C dX14_keepText_207 rfl (by decide) rfl ?_
        refine gw_X14_57 C dX14_keepText_208 kdR_0 wwR_0_51 ?_
        refine g_iconst C ⟨by decide, by decide⟩ dX14_keepText_211 ?_
        refine g_callSv C [(2, 15), (0, 3)] (sim_X14_copies hw) k_1554 k_1555 k_147 k_1556 hdS_X14_copies rfl rfl rfl rfl rfl dX14_keepText_212 ?_
        intro h8 hw
        refine g_aload_n C dX14_keepText_215 rfl (by decide) rfl ?_
        refine gw_X14_60 C dX14_keepText_216 kdR_0 wwR_0_52 ?_
        refine g_iconst C ⟨by decide, by decide⟩ dX14_keepText_219 ?_
        refine g_callSv C [(2, 16), (0, 3)] (sim_X14_copies hw) k_1554 k_1555 k_147 k_1556 hdS_X14_copies rfl rfl rfl rfl rfl dX14_keepText_220 ?_
        intro h9 hw
        refine g_aload_n C dX14_keepText_223 rfl (by decide) rfl ?_
        refine gw_X14_63 C dX14_keepText_224 kdR_0 wwR_0_53 ?_
        refine g_bipush C ⟨by decide, by decide⟩ (by decide) dX14_keepText_227 ?_
        refine g_callSv C [(2, 17), (0, 16)] (sim_X14_copies hw) k_1554 k_1555 k_147 k_1556 hdS_X14_copies rfl rfl rfl rfl rfl dX14_keepText_229 ?_
        intro h10 hw
        refine g_aload_n C dX14_keepText_232 rfl (by decide) rfl ?_
        refine gw_X14_66 C dX14_keepText_233 kdR_0 wwR_0_54 ?_
        refine g_bipush C ⟨by decide, by decide⟩ (by decide) dX14_keepText_236 ?_
        refine g_callSv C [(2, 18), (0, 16)] (sim_X14_copies hw) k_1554 k_1555 k_147 k_1556 hdS_X14_copies rfl rfl rfl rfl rfl dX14_keepText_238 ?_
        intro h11 hw
        refine g_aload_n C dX14_keepText_241 rfl (by decide) rfl ?_
        refine gw_X14_69 C dX14_keepText_242 kdR_0 wwR_0_55 ?_
        refine g_bipush C ⟨by decide, by decide⟩ (by decide) dX14_keepText_245 ?_
        refine g_callSv C [(2, 19), (0, 16)] (sim_X14_copies hw) k_1554 k_1555 k_147 k_1556 hdS_X14_copies rfl rfl rfl rfl rfl dX14_keepText_247 ?_
        intro h12 hw
        refine g_aload_n C dX14_keepText_250 rfl (by decide) rfl ?_
        refine gw_X14_72 C dX14_keepText_251 kdR_0 wwR_0_56 ?_
        refine g_iconst C ⟨by decide, by decide⟩ dX14_keepText_254 ?_
        refine g_callSv C [(2, 20), (0, 3)] (sim_X14_copies hw) k_1554 k_1555 k_147 k_1556 hdS_X14_copies rfl rfl rfl rfl rfl dX14_keepText_255 ?_
        intro h13 hw
        refine g_aload_n C dX14_keepText_258 rfl (by decide) rfl ?_
        refine gw_X14_75 C dX14_keepText_259 kdR_0 wwR_0_57 ?_
        refine g_iconst C ⟨by decide, by decide⟩ dX14_keepText_262 ?_
        refine g_callSv C [(2, 21), (0, 3)] (sim_X14_copies hw) k_1554 k_1555 k_147 k_1556 hdS_X14_copies rfl rfl rfl rfl rfl dX14_keepText_263 ?_
        intro h14 hw
        refine g_aload_n C dX14_keepText_266 rfl (by decide) rfl ?_
        refine gw_X14_78 C dX14_keepText_267 kdR_0 wwR_0_58 ?_
        refine g_bipush C ⟨by decide, by decide⟩ (by decide) dX14_keepText_270 ?_
        refine g_callSv C [(2, 22), (0, 9)] (sim_X14_copies hw) k_1554 k_1555 k_147 k_1556 hdS_X14_copies rfl rfl rfl rfl rfl dX14_keepText_272 ?_
        intro h15 hw
        refine g_aload_n C dX14_keepText_275 rfl (by decide) rfl ?_
        refine gw_X14_81 C dX14_keepText_276 kdR_0 wwR_0_59 ?_
        refine g_bipush C ⟨by decide, by decide⟩ (by decide) dX14_keepText_279 ?_
        refine g_callSv C [(2, 23), (0, 64)] (sim_X14_copies hw) k_1554 k_1555 k_147 k_1556 hdS_X14_copies rfl rfl rfl rfl rfl dX14_keepText_281 ?_
        intro h16 hw
        refine g_aload_n C dX14_keepText_284 rfl (by decide) rfl ?_
        refine gw_X14_84 C dX14_keepText_285 kdR_0 wwR_0_60 ?_
        refine g_bipush C ⟨by decide, by decide⟩ (by decide) dX14_keepText_288 ?_
        refine g_callSv C [(2, 24), (0, 64)] (sim_X14_copies hw) k_1554 k_1555 k_147 k_1556 hdS_X14_copies rfl rfl rfl rfl rfl dX14_keepText_290 ?_
        intro h17 hw
        refine g_aload_n C dX14_keepText_293 rfl (by decide) rfl ?_
        refine gw_X14_87 C dX14_keepText_294 kdR_0 wwR_0_61 ?_
        refine g_bipush C ⟨by decide, by decide⟩ (by decide) dX14_keepText_297 ?_
        refine g_callSv C [(2, 25), (0, 64)] (sim_X14_copies hw) k_1554 k_1555 k_147 k_1556 hdS_X14_copies rfl rfl rfl rfl rfl dX14_keepText_299 ?_
        intro h18 hw
        refine g_aload_n C dX14_keepText_302 rfl (by decide) rfl ?_
        refine g_aload_n C dX14_keepText_303 rfl (by decide) rfl ?_
        refine gf_X14_270 C dX14_keepText_304 kdR_0 (fun z304 => ?_)
        refine gp_X14_298 C dX14_keepText_307 kdR_0 (fun z => z) ?_
        refine g_heap (fun h19 eh19 => ?_)
        replace hw := hw h19 eh19
        refine g_aload_n C dX14_keepText_310 rfl (by decide) rfl ?_
        refine g_iconst C ⟨by decide, by decide⟩ dX14_keepText_311 ?_
        refine gp_X14_301 C dX14_keepText_312 kdR_0 (fun z => z) ?_
        refine g_heap (fun h20 eh20 => ?_)
        replace hw := hw h20 eh20
        refine g_aload_n C dX14_keepText_315 rfl (by decide) rfl ?_
        refine g_iconst C ⟨by decide, by decide⟩ dX14_keepText_316 ?_
        refine gp_X14_304 C dX14_keepText_317 kdR_0 (fun z => z) ?_
        refine g_heap (fun h21 eh21 => ?_)
        replace hw := hw h21 eh21
        refine g_aload_n C dX14_keepText_320 rfl (by decide) rfl ?_
        refine g_iconst C ⟨by decide, by decide⟩ dX14_keepText_321 ?_
        refine gp_X14_118 C dX14_keepText_322 kdR_0 (fun z => z) ?_
        refine g_heap (fun h22 eh22 => ?_)
        replace hw := hw h22 eh22
        refine g_aload_n C dX14_keepText_325 rfl (by decide) rfl ?_
        refine g_iconst C ⟨by decide, by decide⟩ dX14_keepText_326 ?_
        refine gp_X14_307 C dX14_keepText_327 kdR_0 (fun _ => (Or.inl rfl)) ?_
        refine g_heap (fun h23 eh23 => ?_)
        replace hw := hw h23 eh23
        refine g_aload_n C dX14_keepText_330 rfl (by decide) rfl ?_
        refine g_callVv C [] (sim_X14_layWays hw) k_1557 k_1559 k_70 k_147 k_1560 hdV_X14_layWays rfl rfl (by decide) rfl kdR_0 rfl rfl rfl dX14_keepText_331 ?_
        intro h24 hw
        refine g_aload_n C dX14_keepText_334 rfl (by decide) rfl ?_
        refine g_callVv C [] (sim_X14_plainShores hw) k_1581 k_1583 k_76 k_147 k_1584 hdV_X14_plainShores rfl rfl (by decide) rfl kdR_0 rfl rfl rfl dX14_keepText_335 ?_
        intro h25 hw
        exact g_vret C hr dX14_keepText_338 ⟨rfl, hw⟩
      · refine g_aload_n C dX14_keepText_127 rfl (by decide) rfl ?_
        refine gw_X14_30 C dX14_keepText_128 kdR_0 wwR_0_42 ?_
        refine g_iload_n C dX14_keepText_131 rfl rfl ?_
        refine g_aload_n C dX14_keepText_132 rfl (by decide) rfl ?_
        refine gw_X14_30 C dX14_keepText_133 kdR_0 wwR_0_42 ?_
        refine g_bipush C ⟨by decide, by decide⟩ (by decide) dX14_keepText_136 ?_
        refine g_iload_n C dX14_keepText_138 rfl rfl ?_
        refine g_iadd C dX14_keepText_139 ?_
        obtain ⟨⟨b1, b1b⟩, hw⟩ := hw
        refine g_zaload C dX14_keepText_140 kdR_6 b1 b1b (fun z140 => ?_)
        obtain ⟨⟨b2, b2b⟩, hw⟩ := hw
        refine g_zastore C dX14_keepText_141 kdR_6 b2 b2b (fun _ => z140) ?_
        refine g_heap (fun h26 eh26 => ?_)
        replace hw := hw h26 eh26
        refine g_iincN C dX14_keepText_142 rfl (by decide) (fun x1 ex1 => ?_)
        replace hw := hw x1 ex1
        refine g_goto C 121 dX14_keepText_145 rfl ?_
        exact g_sub [1, 0] rfl (hQ _ hw)
  show mG _ p l e _ s m args below meth c _ _ 0 [(0, (2, 0))] [] h
  unfold wp_X14_keepText at hw
  refine g_aload_n C dX14_keepText_0 rfl (by decide) rfl ?_
  refine g_aload_n C dX14_keepText_1 rfl (by decide) rfl ?_
  refine gf_X14_209 C dX14_keepText_2 kdR_0 (fun z2 => ?_)
  refine gp_X14_255 C dX14_keepText_5 kdR_0 (fun z => z) ?_
  refine g_heap (fun h1 eh1 => ?_)
  replace hw := hw h1 eh1
  refine g_aload_n C dX14_keepText_8 rfl (by decide) rfl ?_
  refine g_aload_n C dX14_keepText_9 rfl (by decide) rfl ?_
  refine gf_X14_212 C dX14_keepText_10 kdR_0 (fun z10 => ?_)
  refine gp_X14_258 C dX14_keepText_13 kdR_0 (fun z => z) ?_
  refine g_heap (fun h2 eh2 => ?_)
  replace hw := hw h2 eh2
  refine g_aload_n C dX14_keepText_16 rfl (by decide) rfl ?_
  refine g_aload_n C dX14_keepText_17 rfl (by decide) rfl ?_
  refine gf_X14_215 C dX14_keepText_18 kdR_0 (fun z18 => ?_)
  refine gp_X14_261 C dX14_keepText_21 kdR_0 (fun z => z) ?_
  refine g_heap (fun h3 eh3 => ?_)
  replace hw := hw h3 eh3
  refine g_aload_n C dX14_keepText_24 rfl (by decide) rfl ?_
  refine g_aload_n C dX14_keepText_25 rfl (by decide) rfl ?_
  refine gf_X14_218 C dX14_keepText_26 kdR_0 (fun z26 => ?_)
  refine gp_X14_264 C dX14_keepText_29 kdR_0 (fun z => z) ?_
  refine g_heap (fun h4 eh4 => ?_)
  replace hw := hw h4 eh4
  refine g_aload_n C dX14_keepText_32 rfl (by decide) rfl ?_
  refine g_aload_n C dX14_keepText_33 rfl (by decide) rfl ?_
  refine gf_X14_221 C dX14_keepText_34 kdR_0 (fun z34 => ?_)
  refine gp_X14_267 C dX14_keepText_37 kdR_0 (fun z => z) ?_
  refine g_heap (fun h5 eh5 => ?_)
  replace hw := hw h5 eh5
  refine g_aload_n C dX14_keepText_40 rfl (by decide) rfl ?_
  refine g_aload_n C dX14_keepText_41 rfl (by decide) rfl ?_
  refine gf_X14_224 C dX14_keepText_42 kdR_0 (fun z42 => ?_)
  refine gp_X14_270 C dX14_keepText_45 kdR_0 (fun z => z) ?_
  refine g_heap (fun h6 eh6 => ?_)
  replace hw := hw h6 eh6
  refine g_aload_n C dX14_keepText_48 rfl (by decide) rfl ?_
  refine g_aload_n C dX14_keepText_49 rfl (by decide) rfl ?_
  refine gf_X14_227 C dX14_keepText_50 kdR_0 (fun z50 => ?_)
  refine gp_X14_273 C dX14_keepText_53 kdR_0 (fun z => z) ?_
  refine g_heap (fun h7 eh7 => ?_)
  replace hw := hw h7 eh7
  refine g_aload_n C dX14_keepText_56 rfl (by decide) rfl ?_
  refine g_aload_n C dX14_keepText_57 rfl (by decide) rfl ?_
  refine gf_X14_230 C dX14_keepText_58 kdR_0 (fun z58 => ?_)
  refine gp_X14_276 C dX14_keepText_61 kdR_0 (fun z => z) ?_
  refine g_heap (fun h8 eh8 => ?_)
  replace hw := hw h8 eh8
  refine g_aload_n C dX14_keepText_64 rfl (by decide) rfl ?_
  refine g_aload_n C dX14_keepText_65 rfl (by decide) rfl ?_
  refine gf_X14_233 C dX14_keepText_66 kdR_0 (fun z66 => ?_)
  refine gp_X14_279 C dX14_keepText_69 kdR_0 (fun z => z) ?_
  refine g_heap (fun h9 eh9 => ?_)
  replace hw := hw h9 eh9
  refine g_aload_n C dX14_keepText_72 rfl (by decide) rfl ?_
  refine g_aload_n C dX14_keepText_73 rfl (by decide) rfl ?_
  refine gw_X14_20 C dX14_keepText_74 kdR_0 wwR_0_39 ?_
  refine g_iconst C ⟨by decide, by decide⟩ dX14_keepText_77 ?_
  refine g_iaload C dX14_keepText_78 kdR_3 (by decide) (show (0 : Int) < ((3 : Nat) : Int) from by decide) (fun z78 => ?_)
  refine gp_X14_282 C dX14_keepText_79 kdR_0 (fun z => z) ?_
  refine g_heap (fun h10 eh10 => ?_)
  replace hw := hw h10 eh10
  refine g_aload_n C dX14_keepText_82 rfl (by decide) rfl ?_
  refine g_aload_n C dX14_keepText_83 rfl (by decide) rfl ?_
  refine gw_X14_20 C dX14_keepText_84 kdR_0 wwR_0_39 ?_
  refine g_iconst C ⟨by decide, by decide⟩ dX14_keepText_87 ?_
  refine g_iaload C dX14_keepText_88 kdR_3 (by decide) (show (1 : Int) < ((3 : Nat) : Int) from by decide) (fun z88 => ?_)
  refine gp_X14_285 C dX14_keepText_89 kdR_0 (fun z => z) ?_
  refine g_heap (fun h11 eh11 => ?_)
  replace hw := hw h11 eh11
  refine g_aload_n C dX14_keepText_92 rfl (by decide) rfl ?_
  refine g_aload_n C dX14_keepText_93 rfl (by decide) rfl ?_
  refine gw_X14_20 C dX14_keepText_94 kdR_0 wwR_0_39 ?_
  refine g_iconst C ⟨by decide, by decide⟩ dX14_keepText_97 ?_
  refine g_iaload C dX14_keepText_98 kdR_3 (by decide) (show (2 : Int) < ((3 : Nat) : Int) from by decide) (fun z98 => ?_)
  refine gp_X14_288 C dX14_keepText_99 kdR_0 (fun z => z) ?_
  refine g_heap (fun h12 eh12 => ?_)
  replace hw := hw h12 eh12
  refine g_aload_n C dX14_keepText_102 rfl (by decide) rfl ?_
  refine g_aload_n C dX14_keepText_103 rfl (by decide) rfl ?_
  refine gf_X14_252 C dX14_keepText_104 kdR_0 (fun z104 => ?_)
  refine gp_X14_291 C dX14_keepText_107 kdR_0 (fun _ => z104) ?_
  refine g_heap (fun h13 eh13 => ?_)
  replace hw := hw h13 eh13
  refine g_aload_n C dX14_keepText_110 rfl (by decide) rfl ?_
  refine gw_X14_27 C dX14_keepText_111 kdR_0 wwR_0_41 ?_
  refine g_bipush C ⟨by decide, by decide⟩ (by decide) dX14_keepText_114 ?_
  refine g_callSv C [(2, 5), (0, 48)] (sim_X14_copies hw) k_1554 k_1555 k_147 k_1556 hdS_X14_copies rfl rfl rfl rfl rfl dX14_keepText_116 ?_
  intro h14 hw
  refine g_iconst C ⟨by decide, by decide⟩ dX14_keepText_119 ?_
  refine g_istore_n C dX14_keepText_120 rfl (by decide) ?_
  exact g_sub [1, 0] rfl (hQ _ hw)
set_option maxRecDepth 20000 in
set_option maxHeartbeats 4000000 in
theorem sim_X14_newName {z : Mz} {l : Launch} {p1 : Int} {p2 : Int} {p3 : Int} {h : Mh} {K : Int → Mh → Prop} (hw : wp_X14_newName p1 p2 p3 h K) : mCal (XR z) l yX14_newName cX14_newName 4 (some Jvm.ClassFile.FieldType.boolean) 2 47 [(2, 0), (2, p1), (0, p2), (0, p3)] h (mKz K) := by
  refine m_entry RX14 rfl (by decide) rfl (fun p e s m args below meth c C hr => ?_)
  show mG _ p l e _ s m args below meth c _ _ 0 [(0, (2, 0)), (1, (2, p1)), (2, (0, p2)), (3, (0, p3))] [] h
  unfold wp_X14_newName at hw
  refine g_aload_n C dX14_newName_0 rfl (by decide) rfl ?_
  refine gf_X14_166 C dX14_newName_1 kdR_0 (fun z1 => ?_)
  refine g_iconst C ⟨by decide, by decide⟩ dX14_newName_4 ?_
  refine g_icmp_eq C 14 dX14_newName_5 rfl hw (fun hw => ?_) (fun hw => ?_)
  · refine g_aload_n C dX14_newName_14 rfl (by decide) rfl ?_
    refine g_iload_n C dX14_newName_15 rfl rfl ?_
    refine g_iload_n C dX14_newName_16 rfl rfl ?_
    refine g_aload_n C dX14_newName_17 rfl (by decide) rfl ?_
    refine gf_X14_177 C dX14_newName_18 kdR_0 (fun z18 => ?_)
    refine g_callSi C [(2, p1), (0, p2), (0, p3), (0, (h 0 9))] (sim_X14_find hw) k_1957 k_1958 k_147 k_1959 hdS_X14_find rfl rfl rfl rfl rfl dX14_newName_21 ?_
    intro x1 h1 hw
    refine g_if_lt C 33 dX14_newName_24 rfl hw (fun hw => ?_) (fun hw => ?_)
    · refine g_aload_n C dX14_newName_33 rfl (by decide) rfl ?_
      refine g_iload_n C dX14_newName_34 rfl rfl ?_
      refine g_iload_n C dX14_newName_35 rfl rfl ?_
      refine g_iadd C dX14_newName_36 ?_
      refine g_aload_n C dX14_newName_37 rfl (by decide) rfl ?_
      refine gf_X14_177 C dX14_newName_38 kdR_0 (fun z38 => ?_)
      obtain ⟨q1, hw⟩ := hw
      obtain ⟨⟨b1, b1b⟩, hw⟩ := hw
      refine g_iastore C dX14_newName_41 q1 b1 b1b (fun z => z) ?_
      refine g_heap (fun h2 eh2 => ?_)
      replace hw := hw h2 eh2
      refine g_aload_n C dX14_newName_42 rfl (by decide) rfl ?_
      refine g_callVv C [] (sim_X14_token hw) k_1898 k_1900 k_77 k_147 k_1901 hdV_X14_token rfl rfl (by decide) rfl kdR_0 rfl rfl rfl dX14_newName_43 ?_
      intro h3 hw
      refine g_iconst C ⟨by decide, by decide⟩ dX14_newName_46 ?_
      exact g_zret C hr (Or.inr rfl) dX14_newName_47 ⟨_, rfl, (Or.inr rfl), hw⟩
    · refine g_aload_n C dX14_newName_27 rfl (by decide) rfl ?_
      refine g_iconst C ⟨by decide, by decide⟩ dX14_newName_28 ?_
      refine g_callVz C [(0, 3)] (sim_X14_wrong hw) k_1926 k_1928 k_84 k_147 k_1929 hdV_X14_wrong rfl rfl (by decide) rfl kdR_0 rfl rfl rfl dX14_newName_29 ?_
      intro x2 h4 zb29 hw
      exact g_zret C hr zb29 dX14_newName_32 ⟨_, rfl, zb29, hw⟩
  · refine g_aload_n C dX14_newName_8 rfl (by decide) rfl ?_
    refine g_iconst C ⟨by decide, by decide⟩ dX14_newName_9 ?_
    refine g_callVz C [(0, 1)] (sim_X14_wrong hw) k_1926 k_1928 k_84 k_147 k_1929 hdV_X14_wrong rfl rfl (by decide) rfl kdR_0 rfl rfl rfl dX14_newName_10 ?_
    intro x3 h5 zb10 hw
    exact g_zret C hr zb10 dX14_newName_13 ⟨_, rfl, zb10, hw⟩
set_option maxRecDepth 20000 in
set_option maxHeartbeats 4000000 in
theorem sim_X14_signed {z : Mz} {l : Launch} {p1 : Int} {h : Mh} {K : Int → Mh → Prop} (hw : wp_X14_signed p1 h K) : mCal (XR z) l yX14_signed cX14_signed 3 (some Jvm.ClassFile.FieldType.boolean) 3 69 [(2, 0), (0, p1)] h (mKz K) := by
  refine m_entry RX14 rfl (by decide) rfl (fun p e s m args below meth c C hr => ?_)
  have hQ : ∀ x, Lfp (F_X14_signed p1 K) x → (match x.1, x.2.1 with | 15, [v2] => mG (XR z) p l e { frames := 3, cells := 0, slots := 0, locals := 69 } s m args below meth c 3 (mMQ (XR z) (mKz K) below args s) 15 [(2, (0, v2)), (0, (2, 0)), (1, (0, p1))] [] x.2.2 | _, _ => True) := by
    intro x hx
    refine Lfp.ind (fun x => (match x.1, x.2.1 with | 15, [v2] => mG (XR z) p l e { frames := 3, cells := 0, slots := 0, locals := 69 } s m args below meth c 3 (mMQ (XR z) (mKz K) below args s) 15 [(2, (0, v2)), (0, (2, 0)), (1, (0, p1))] [] x.2.2 | _, _ => True)) ?_ hx
    clear hx x
    intro Z x hQ hw
    rcases hw with ⟨v2, h, rfl, hw⟩
    · show mG (XR z) p l e { frames := 3, cells := 0, slots := 0, locals := 69 } s m args below meth c 3 (mMQ (XR z) (mKz K) below args s) 15 [(2, (0, v2)), (0, (2, 0)), (1, (0, p1))] [] h
      unfold B_X14_signed_15 at hw
      refine g_aload_n C dX14_signed_15 rfl (by decide) rfl ?_
      refine g_iconst C ⟨by decide, by decide⟩ dX14_signed_16 ?_
      refine g_iload_n C dX14_signed_17 rfl rfl ?_
      refine g_callVz C [(0, 0), (0, p1)] (sim_X14_number hw) k_1930 k_1932 k_85 k_147 k_1933 hdV_X14_number rfl rfl (by decide) rfl kdR_0 rfl rfl rfl dX14_signed_18 ?_
      intro x1 h1 zb18 hw
      refine g_if_ne C 26 dX14_signed_21 rfl hw (fun hw => ?_) (fun hw => ?_)
      · refine g_aload_n C dX14_signed_26 rfl (by decide) rfl ?_
        refine g_iload_n C dX14_signed_27 rfl rfl ?_
        refine g_if_eq C 39 dX14_signed_28 rfl hw (fun hw => ?_) (fun hw => ?_)
        · refine g_aload_n C dX14_signed_39 rfl (by decide) rfl ?_
          refine gf_X14_196 C dX14_signed_40 kdR_0 (fun z40 => ?_)
          refine gp_X14_196 C dX14_signed_43 kdR_0 (fun z => z) ?_
          refine g_heap (fun h2 eh2 => ?_)
          replace hw := hw h2 eh2
          refine g_iconst C ⟨by decide, by decide⟩ dX14_signed_46 ?_
          exact g_zret C hr (Or.inr rfl) dX14_signed_47 ⟨_, rfl, (Or.inr rfl), hw⟩
        · refine g_aload_n C dX14_signed_31 rfl (by decide) rfl ?_
          refine gf_X14_196 C dX14_signed_32 kdR_0 (fun z32 => ?_)
          refine g_ineg C dX14_signed_35 ?_
          refine g_goto C 43 dX14_signed_36 rfl ?_
          refine gp_X14_196 C dX14_signed_43 kdR_0 (fun z => z) ?_
          refine g_heap (fun h3 eh3 => ?_)
          replace hw := hw h3 eh3
          refine g_iconst C ⟨by decide, by decide⟩ dX14_signed_46 ?_
          exact g_zret C hr (Or.inr rfl) dX14_signed_47 ⟨_, rfl, (Or.inr rfl), hw⟩
      · refine g_iconst C ⟨by decide, by decide⟩ dX14_signed_24 ?_
        exact g_zret C hr (Or.inl rfl) dX14_signed_25 ⟨_, rfl, (Or.inl rfl), hw⟩
  show mG _ p l e _ s m args below meth c _ _ 0 [(0, (2, 0)), (1, (0, p1))] [] h
  unfold wp_X14_signed at hw
  refine g_aload_n C dX14_signed_0 rfl (by decide) rfl ?_
  refine g_bipush C ⟨by decide, by decide⟩ (by decide) dX14_signed_1 ?_
  refine g_callVz C [(0, 45)] (sim_X14_isSign hw) k_1964 k_1966 k_92 k_147 k_1967 hdV_X14_isSign rfl rfl (by decide) rfl kdR_0 rfl rfl rfl dX14_signed_3 ?_
  intro x1 h1 zb3 hw
  refine g_istore_n C dX14_signed_6 rfl (by decide) ?_
  refine g_iload_n C dX14_signed_7 rfl rfl ?_
  refine g_if_eq C 15 dX14_signed_8 rfl hw (fun hw => ?_) (fun hw => ?_)
  · exact g_sub [2, 0, 1] rfl (hQ _ hw)
  · refine g_aload_n C dX14_signed_11 rfl (by decide) rfl ?_
    refine g_callVv C [] (sim_X14_token hw) k_1898 k_1900 k_77 k_147 k_1901 hdV_X14_token rfl rfl (by decide) rfl kdR_0 rfl rfl rfl dX14_signed_12 ?_
    intro h2 hw
    exact g_sub [2, 0, 1] rfl (hQ _ hw)
set_option maxRecDepth 20000 in
set_option maxHeartbeats 4000000 in
theorem sim_X14_kindLine {z : Mz} {l : Launch} {h : Mh} {K : Int → Mh → Prop} (hw : wp_X14_kindLine h K) : mCal (XR z) l yX14_kindLine cX14_kindLine 3 (some Jvm.ClassFile.FieldType.boolean) 4 91 [(2, 0)] h (mKz K) := by
  refine m_entry RX14 rfl (by decide) rfl (fun p e s m args below meth c C hr => ?_)
  have hQ : ∀ x, Lfp (F_X14_kindLine K) x → (match x.1, x.2.1 with | 59, [v1, v2] => mG (XR z) p l e { frames := 4, cells := 0, slots := 0, locals := 91 } s m args below meth c 3 (mMQ (XR z) (mKz K) below args s) 59 [(1, (0, v1)), (2, (0, v2)), (0, (2, 0))] [] x.2.2 | _, _ => True) := by
    intro x hx
    refine Lfp.ind (fun x => (match x.1, x.2.1 with | 59, [v1, v2] => mG (XR z) p l e { frames := 4, cells := 0, slots := 0, locals := 91 } s m args below meth c 3 (mMQ (XR z) (mKz K) below args s) 59 [(1, (0, v1)), (2, (0, v2)), (0, (2, 0))] [] x.2.2 | _, _ => True)) ?_ hx
    clear hx x
    intro Z x hQ hw
    rcases hw with ⟨v1, v2, h, rfl, hw⟩
    · show mG (XR z) p l e { frames := 4, cells := 0, slots := 0, locals := 91 } s m args below meth c 3 (mMQ (XR z) (mKz K) below args s) 59 [(1, (0, v1)), (2, (0, v2)), (0, (2, 0))] [] h
      unfold B_X14_kindLine_59 at hw
      refine g_iload_n C dX14_kindLine_59 rfl rfl ?_
      refine g_if_eq C 147 dX14_kindLine_60 rfl hw (fun hw => ?_) (fun hw => ?_)
      · refine g_aload_n C dX14_kindLine_147 rfl (by decide) rfl ?_
        refine g_bipush C ⟨by decide, by decide⟩ (by decide) dX14_kindLine_148 ?_
        refine g_callVz C [(0, 13)] (sim_X14_isKey hw) k_1968 k_1970 k_93 k_147 k_1971 hdV_X14_isKey rfl rfl (by decide) rfl kdR_0 rfl rfl rfl dX14_kindLine_150 ?_
        intro x1 h1 zb150 hw
        refine g_if_eq C 182 dX14_kindLine_153 rfl hw (fun hw => ?_) (fun hw => ?_)
        · refine g_aload_n C dX14_kindLine_182 rfl (by decide) rfl ?_
          refine g_dup C (by show ¬ (2 : Nat) = 1; decide) dX14_kindLine_183 ?_
          refine gf_X14_215 C dX14_kindLine_184 kdR_0 (fun z184 => ?_)
          refine g_iconst C ⟨by decide, by decide⟩ dX14_kindLine_187 ?_
          refine g_iadd C dX14_kindLine_188 ?_
          refine gp_X14_215 C dX14_kindLine_189 kdR_0 (fun z => z) ?_
          refine g_heap (fun h2 eh2 => ?_)
          replace hw := hw h2 eh2
          refine g_iconst C ⟨by decide, by decide⟩ dX14_kindLine_192 ?_
          exact g_zret C hr (Or.inr rfl) dX14_kindLine_193 ⟨_, rfl, (Or.inr rfl), hw⟩
        · refine g_aload_n C dX14_kindLine_156 rfl (by decide) rfl ?_
          refine g_callVv C [] (sim_X14_token hw) k_1898 k_1900 k_77 k_147 k_1901 hdV_X14_token rfl rfl (by decide) rfl kdR_0 rfl rfl rfl dX14_kindLine_157 ?_
          intro h3 hw
          refine g_aload_n C dX14_kindLine_160 rfl (by decide) rfl ?_
          refine g_iconst C ⟨by decide, by decide⟩ dX14_kindLine_161 ?_
          refine g_bipush C ⟨by decide, by decide⟩ (by decide) dX14_kindLine_162 ?_
          refine g_callVz C [(0, 1), (0, 99)] (sim_X14_number hw) k_1930 k_1932 k_85 k_147 k_1933 hdV_X14_number rfl rfl (by decide) rfl kdR_0 rfl rfl rfl dX14_kindLine_164 ?_
          intro x2 h4 zb164 hw
          refine g_if_ne C 172 dX14_kindLine_167 rfl hw (fun hw => ?_) (fun hw => ?_)
          · refine g_aload_n C dX14_kindLine_172 rfl (by decide) rfl ?_
            refine gw_X14_45 C dX14_kindLine_173 kdR_0 wwR_0_47 ?_
            refine g_iload_n C dX14_kindLine_176 rfl rfl ?_
            refine g_aload_n C dX14_kindLine_177 rfl (by decide) rfl ?_
            refine gf_X14_196 C dX14_kindLine_178 kdR_0 (fun z178 => ?_)
            obtain ⟨⟨b3, b3b⟩, hw⟩ := hw
            refine g_iastore C dX14_kindLine_181 kdR_11 b3 b3b (fun z => z) ?_
            refine g_heap (fun h5 eh5 => ?_)
            replace hw := hw h5 eh5
            refine g_aload_n C dX14_kindLine_182 rfl (by decide) rfl ?_
            refine g_dup C (by show ¬ (2 : Nat) = 1; decide) dX14_kindLine_183 ?_
            refine gf_X14_215 C dX14_kindLine_184 kdR_0 (fun z184 => ?_)
            refine g_iconst C ⟨by decide, by decide⟩ dX14_kindLine_187 ?_
            refine g_iadd C dX14_kindLine_188 ?_
            refine gp_X14_215 C dX14_kindLine_189 kdR_0 (fun z => z) ?_
            refine g_heap (fun h6 eh6 => ?_)
            replace hw := hw h6 eh6
            refine g_iconst C ⟨by decide, by decide⟩ dX14_kindLine_192 ?_
            exact g_zret C hr (Or.inr rfl) dX14_kindLine_193 ⟨_, rfl, (Or.inr rfl), hw⟩
          · refine g_iconst C ⟨by decide, by decide⟩ dX14_kindLine_170 ?_
            exact g_zret C hr (Or.inl rfl) dX14_kindLine_171 ⟨_, rfl, (Or.inl rfl), hw⟩
      · refine g_aload_n C dX14_kindLine_63 rfl (by decide) rfl ?_
        refine gw_X14_42 C dX14_kindLine_64 kdR_0 wwR_0_46 ?_
        refine g_iload_n C dX14_kindLine_67 rfl rfl ?_
        obtain ⟨⟨b4, b4b⟩, hw⟩ := hw
        refine g_iaload C dX14_kindLine_68 kdR_10 b4 b4b (fun z68 => ?_)
        refine g_bipush C ⟨by decide, by decide⟩ (by decide) dX14_kindLine_69 ?_
        refine g_icmp_ne C 80 dX14_kindLine_71 rfl hw (fun hw => ?_) (fun hw => ?_)
        · refine g_aload_n C dX14_kindLine_80 rfl (by decide) rfl ?_
          refine g_bipush C ⟨by decide, by decide⟩ (by decide) dX14_kindLine_81 ?_
          refine g_callVz C [(0, 99)] (sim_X14_signed hw) k_1960 k_1962 k_91 k_147 k_1963 hdV_X14_signed rfl rfl (by decide) rfl kdR_0 rfl rfl rfl dX14_kindLine_83 ?_
          intro x3 h7 zb83 hw
          refine g_if_ne C 91 dX14_kindLine_86 rfl hw (fun hw => ?_) (fun hw => ?_)
          · refine g_aload_n C dX14_kindLine_91 rfl (by decide) rfl ?_
            refine gw_X14_48 C dX14_kindLine_92 kdR_0 wwR_0_48 ?_
            refine g_bipush C ⟨by decide, by decide⟩ (by decide) dX14_kindLine_95 ?_
            refine g_iload_n C dX14_kindLine_97 rfl rfl ?_
            refine g_imul C dX14_kindLine_98 ?_
            refine g_aload_n C dX14_kindLine_99 rfl (by decide) rfl ?_
            refine gw_X14_42 C dX14_kindLine_100 kdR_0 wwR_0_46 ?_
            refine g_iload_n C dX14_kindLine_103 rfl rfl ?_
            obtain ⟨⟨b5, b5b⟩, hw⟩ := hw
            refine g_iaload C dX14_kindLine_104 kdR_10 b5 b5b (fun z104 => ?_)
            refine g_iadd C dX14_kindLine_105 ?_
            refine g_aload_n C dX14_kindLine_106 rfl (by decide) rfl ?_
            refine gf_X14_196 C dX14_kindLine_107 kdR_0 (fun z107 => ?_)
            obtain ⟨⟨b6, b6b⟩, hw⟩ := hw
            refine g_iastore C dX14_kindLine_110 kdR_12 b6 b6b (fun z => z) ?_
            refine g_heap (fun h8 eh8 => ?_)
            replace hw := hw h8 eh8
            refine g_aload_n C dX14_kindLine_111 rfl (by decide) rfl ?_
            refine gw_X14_42 C dX14_kindLine_112 kdR_0 wwR_0_46 ?_
            refine g_iload_n C dX14_kindLine_115 rfl rfl ?_
            refine g_dup2 C (by show ¬ (0 : Nat) = 1; decide) (by show ¬ (2 : Nat) = 1; decide) dX14_kindLine_116 ?_
            obtain ⟨⟨b7, b7b⟩, hw⟩ := hw
            refine g_iaload C dX14_kindLine_117 kdR_10 b7 b7b (fun z117 => ?_)
            refine g_iconst C ⟨by decide, by decide⟩ dX14_kindLine_118 ?_
            refine g_iadd C dX14_kindLine_119 ?_
            obtain ⟨⟨b8, b8b⟩, hw⟩ := hw
            refine g_iastore C dX14_kindLine_120 kdR_10 b8 b8b (fun z => z) ?_
            refine g_heap (fun h9 eh9 => ?_)
            replace hw := hw h9 eh9
            refine g_aload_n C dX14_kindLine_121 rfl (by decide) rfl ?_
            refine gf_X14_166 C dX14_kindLine_122 kdR_0 (fun z122 => ?_)
            refine g_iconst C ⟨by decide, by decide⟩ dX14_kindLine_125 ?_
            refine g_icmp_eq C 138 dX14_kindLine_126 rfl hw (fun hw => ?_) (fun hw => ?_)
            · refine g_iconst C ⟨by decide, by decide⟩ dX14_kindLine_138 ?_
              refine g_goto C 143 dX14_kindLine_139 rfl ?_
              refine g_istore_n C dX14_kindLine_143 rfl (by decide) ?_
              refine g_goto C 59 dX14_kindLine_144 rfl ?_
              exact g_sub [1, 2, 0] rfl (hQ _ hw)
            · refine g_aload_n C dX14_kindLine_129 rfl (by decide) rfl ?_
              refine g_bipush C ⟨by decide, by decide⟩ (by decide) dX14_kindLine_130 ?_
              refine g_callVz C [(0, 45)] (sim_X14_isSign hw) k_1964 k_1966 k_92 k_147 k_1967 hdV_X14_isSign rfl rfl (by decide) rfl kdR_0 rfl rfl rfl dX14_kindLine_132 ?_
              intro x4 h10 zb132 hw
              refine g_if_eq C 142 dX14_kindLine_135 rfl hw (fun hw => ?_) (fun hw => ?_)
              · refine g_iconst C ⟨by decide, by decide⟩ dX14_kindLine_142 ?_
                refine g_istore_n C dX14_kindLine_143 rfl (by decide) ?_
                refine g_goto C 59 dX14_kindLine_144 rfl ?_
                exact g_sub [1, 2, 0] rfl (hQ _ hw)
              · refine g_iconst C ⟨by decide, by decide⟩ dX14_kindLine_138 ?_
                refine g_goto C 143 dX14_kindLine_139 rfl ?_
                refine g_istore_n C dX14_kindLine_143 rfl (by decide) ?_
                refine g_goto C 59 dX14_kindLine_144 rfl ?_
                exact g_sub [1, 2, 0] rfl (hQ _ hw)
          · refine g_iconst C ⟨by decide, by decide⟩ dX14_kindLine_89 ?_
            exact g_zret C hr (Or.inl rfl) dX14_kindLine_90 ⟨_, rfl, (Or.inl rfl), hw⟩
        · refine g_aload_n C dX14_kindLine_74 rfl (by decide) rfl ?_
          refine g_iconst C ⟨by decide, by decide⟩ dX14_kindLine_75 ?_
          refine g_callVz C [(0, 2)] (sim_X14_wrong hw) k_1926 k_1928 k_84 k_147 k_1929 hdV_X14_wrong rfl rfl (by decide) rfl kdR_0 rfl rfl rfl dX14_kindLine_76 ?_
          intro x5 h11 zb76 hw
          exact g_zret C hr zb76 dX14_kindLine_79 ⟨_, rfl, zb76, hw⟩
  show mG _ p l e _ s m args below meth c _ _ 0 [(0, (2, 0))] [] h
  unfold wp_X14_kindLine at hw
  refine g_aload_n C dX14_kindLine_0 rfl (by decide) rfl ?_
  refine gf_X14_215 C dX14_kindLine_1 kdR_0 (fun z1 => ?_)
  refine g_iconst C ⟨by decide, by decide⟩ dX14_kindLine_4 ?_
  refine g_icmp_ne C 14 dX14_kindLine_5 rfl hw (fun hw => ?_) (fun hw => ?_)
  · refine g_aload_n C dX14_kindLine_14 rfl (by decide) rfl ?_
    refine g_callVv C [] (sim_X14_token hw) k_1898 k_1900 k_77 k_147 k_1901 hdV_X14_token rfl rfl (by decide) rfl kdR_0 rfl rfl rfl dX14_kindLine_15 ?_
    intro h1 hw
    refine g_iconst C ⟨by decide, by decide⟩ dX14_kindLine_18 ?_
    refine g_aload_n C dX14_kindLine_19 rfl (by decide) rfl ?_
    refine gf_X14_215 C dX14_kindLine_20 kdR_0 (fun z20 => ?_)
    refine g_iadd C dX14_kindLine_23 ?_
    refine g_topi (fun x1 ex1 => ?_)
    replace hw := hw x1 ex1
    refine g_istore_n C dX14_kindLine_24 rfl (by decide) ?_
    refine g_aload_n C dX14_kindLine_25 rfl (by decide) rfl ?_
    refine g_aload_n C dX14_kindLine_26 rfl (by decide) rfl ?_
    refine gw_X14_39 C dX14_kindLine_27 kdR_0 wwR_0_45 ?_
    refine g_iconst C ⟨by decide, by decide⟩ dX14_kindLine_30 ?_
    refine g_aload_n C dX14_kindLine_31 rfl (by decide) rfl ?_
    refine gf_X14_215 C dX14_kindLine_32 kdR_0 (fun z32 => ?_)
    refine g_callVz C [(2, 9), (0, 4), (0, (h1 0 27))] (sim_X14_newName hw) k_1953 k_1955 k_90 k_147 k_1956 hdV_X14_newName rfl rfl (by decide) rfl kdR_0 rfl rfl rfl dX14_kindLine_35 ?_
    intro x2 h2 zb35 hw
    refine g_if_ne C 43 dX14_kindLine_38 rfl hw (fun hw => ?_) (fun hw => ?_)
    · refine g_aload_n C dX14_kindLine_43 rfl (by decide) rfl ?_
      refine gw_X14_42 C dX14_kindLine_44 kdR_0 wwR_0_46 ?_
      refine g_iload_n C dX14_kindLine_47 rfl rfl ?_
      refine g_iconst C ⟨by decide, by decide⟩ dX14_kindLine_48 ?_
      obtain ⟨⟨b1, b1b⟩, hw⟩ := hw
      refine g_iastore C dX14_kindLine_49 kdR_10 b1 b1b (fun z => z) ?_
      refine g_heap (fun h3 eh3 => ?_)
      replace hw := hw h3 eh3
      refine g_aload_n C dX14_kindLine_50 rfl (by decide) rfl ?_
      refine gw_X14_45 C dX14_kindLine_51 kdR_0 wwR_0_47 ?_
      refine g_iload_n C dX14_kindLine_54 rfl rfl ?_
      refine g_iconst C ⟨by decide, by decide⟩ dX14_kindLine_55 ?_
      obtain ⟨⟨b2, b2b⟩, hw⟩ := hw
      refine g_iastore C dX14_kindLine_56 kdR_11 b2 b2b (fun z => z) ?_
      refine g_heap (fun h4 eh4 => ?_)
      replace hw := hw h4 eh4
      refine g_iconst C ⟨by decide, by decide⟩ dX14_kindLine_57 ?_
      refine g_istore_n C dX14_kindLine_58 rfl (by decide) ?_
      exact g_sub [1, 2, 0] rfl (hQ _ hw)
    · refine g_iconst C ⟨by decide, by decide⟩ dX14_kindLine_41 ?_
      exact g_zret C hr (Or.inl rfl) dX14_kindLine_42 ⟨_, rfl, (Or.inl rfl), hw⟩
  · refine g_aload_n C dX14_kindLine_8 rfl (by decide) rfl ?_
    refine g_iconst C ⟨by decide, by decide⟩ dX14_kindLine_9 ?_
    refine g_callVz C [(0, 2)] (sim_X14_wrong hw) k_1926 k_1928 k_84 k_147 k_1929 hdV_X14_wrong rfl rfl (by decide) rfl kdR_0 rfl rfl rfl dX14_kindLine_10 ?_
    intro x3 h5 zb10 hw
    exact g_zret C hr zb10 dX14_kindLine_13 ⟨_, rfl, zb10, hw⟩
set_option maxRecDepth 20000 in
set_option maxHeartbeats 4000000 in
theorem sim_X14_known {z : Mz} {l : Launch} {p1 : Int} {h : Mh} {K : Int → Mh → Prop} (hw : wp_X14_known p1 h K) : mCal (XR z) l yX14_known cX14_known 2 (some Jvm.ClassFile.FieldType.boolean) 1 22 [(2, 0), (0, p1)] h (mKz K) := by
  refine m_entry RX14 rfl (by decide) rfl (fun p e s m args below meth c C hr => ?_)
  show mG _ p l e _ s m args below meth c _ _ 0 [(0, (2, 0)), (1, (0, p1))] [] h
  unfold wp_X14_known at hw
  refine g_aload_n C dX14_known_0 rfl (by decide) rfl ?_
  refine g_iconst C ⟨by decide, by decide⟩ dX14_known_1 ?_
  refine gp_X14_148 C dX14_known_2 kdR_0 (fun z => z) ?_
  refine g_heap (fun h1 eh1 => ?_)
  replace hw := hw h1 eh1
  refine g_iload_n C dX14_known_5 rfl rfl ?_
  refine g_iconst C ⟨by decide, by decide⟩ dX14_known_6 ?_
  refine g_aload_n C dX14_known_7 rfl (by decide) rfl ?_
  refine gf_X14_304 C dX14_known_8 kdR_0 (fun z8 => ?_)
  refine g_callSz C [(0, p1), (0, (-1)), (0, (h1 0 84))] (sim_X14_isIn hw) k_1934 k_1935 k_147 k_1936 hdS_X14_isIn rfl rfl rfl rfl rfl dX14_known_11 ?_
  intro x1 h2 zb11 hw
  refine g_if_ne C 19 dX14_known_14 rfl hw (fun hw => ?_) (fun hw => ?_)
  · refine g_aload_n C dX14_known_19 rfl (by decide) rfl ?_
    refine g_iload_n C dX14_known_20 rfl rfl ?_
    refine gp_X14_118 C dX14_known_21 kdR_0 (fun z => z) ?_
    refine g_heap (fun h3 eh3 => ?_)
    replace hw := hw h3 eh3
    refine g_iconst C ⟨by decide, by decide⟩ dX14_known_24 ?_
    exact g_zret C hr (Or.inr rfl) dX14_known_25 ⟨_, rfl, (Or.inr rfl), hw⟩
  · refine g_iconst C ⟨by decide, by decide⟩ dX14_known_17 ?_
    exact g_zret C hr (Or.inl rfl) dX14_known_18 ⟨_, rfl, (Or.inl rfl), hw⟩
set_option maxRecDepth 20000 in
set_option maxHeartbeats 4000000 in
theorem sim_X14_law {z : Mz} {l : Launch} {p1 : Int} {p2 : Int} {h : Mh} {K : Int → Mh → Prop} (hw : wp_X14_law p1 p2 h K) : mCal (XR z) l yX14_law cX14_law 5 (some Jvm.ClassFile.FieldType.long) 4 101 [(2, 0), (0, p1), (0, p2)] h (mKl K) := by
  refine m_entry RX14 rfl (by decide) rfl (fun p e s m args below meth c C hr => ?_)
  show mG _ p l e _ s m args below meth c _ _ 0 [(0, (2, 0)), (1, (0, p1)), (2, (0, p2))] [] h
  unfold wp_X14_law at hw
  refine g_aload_n C dX14_law_0 rfl (by decide) rfl ?_
  refine g_iconst C ⟨by decide, by decide⟩ dX14_law_1 ?_
  refine gp_X14_148 C dX14_law_2 kdR_0 (fun z => z) ?_
  refine g_heap (fun h1 eh1 => ?_)
  replace hw := hw h1 eh1
  refine g_aload_n C dX14_law_5 rfl (by decide) rfl ?_
  refine gf_X14_291 C dX14_law_6 kdR_0 (fun z6 => ?_)
  refine g_if_eq C 43 dX14_law_9 rfl hw (fun hw => ?_) (fun hw => ?_)
  · refine g_ldc2 C ⟨by decide, by decide⟩ k_2103 dX14_law_43 ?_
    exact g_lret C hr dX14_law_46 ⟨_, rfl, hw⟩
  · refine g_aload_n C dX14_law_12 rfl (by decide) rfl ?_
    refine g_iload_n C dX14_law_13 rfl rfl ?_
    refine g_callVz C [(0, p1)] (sim_X14_isSkater hw) k_2099 k_2101 k_113 k_147 k_2102 hdV_X14_isSkater rfl rfl (by decide) rfl kdR_0 rfl rfl rfl dX14_law_14 ?_
    intro x1 h2 zb14 hw
    refine g_if_eq C 43 dX14_law_17 rfl hw (fun hw => ?_) (fun hw => ?_)
    · refine g_ldc2 C ⟨by decide, by decide⟩ k_2103 dX14_law_43 ?_
      exact g_lret C hr dX14_law_46 ⟨_, rfl, hw⟩
    · refine g_iload_n C dX14_law_20 rfl rfl ?_
      refine g_iconst C ⟨by decide, by decide⟩ dX14_law_21 ?_
      refine g_iconst C ⟨by decide, by decide⟩ dX14_law_22 ?_
      refine g_callSz C [(0, p2), (0, 0), (0, 4)] (sim_X14_isIn hw) k_1934 k_1935 k_147 k_1936 hdS_X14_isIn rfl rfl rfl rfl rfl dX14_law_23 ?_
      intro x2 h3 zb23 hw
      refine g_if_eq C 43 dX14_law_26 rfl hw (fun hw => ?_) (fun hw => ?_)
      · refine g_ldc2 C ⟨by decide, by decide⟩ k_2103 dX14_law_43 ?_
        exact g_lret C hr dX14_law_46 ⟨_, rfl, hw⟩
      · refine g_aload_n C dX14_law_29 rfl (by decide) rfl ?_
        refine g_aload_n C dX14_law_30 rfl (by decide) rfl ?_
        refine gw_X14_60 C dX14_law_31 kdR_0 wwR_0_52 ?_
        refine g_iload_n C dX14_law_34 rfl rfl ?_
        obtain ⟨⟨b1, b1b⟩, hw⟩ := hw
        refine g_iaload C dX14_law_35 kdR_16 b1 b1b (fun z35 => ?_)
        refine g_iload_n C dX14_law_36 rfl rfl ?_
        refine g_callVi C [(0, (h3 16 p1)), (0, p2)] (sim_X14_nextTo hw) k_1577 k_1579 k_75 k_147 k_1580 hdV_X14_nextTo rfl rfl (by decide) rfl kdR_0 rfl rfl rfl dX14_law_37 ?_
        intro x3 h4 hw
        refine g_if_ge C 47 dX14_law_40 rfl hw (fun hw => ?_) (fun hw => ?_)
        · refine g_aload_n C dX14_law_47 rfl (by decide) rfl ?_
          refine g_aload_n C dX14_law_48 rfl (by decide) rfl ?_
          refine gw_X14_60 C dX14_law_49 kdR_0 wwR_0_52 ?_
          refine g_iload_n C dX14_law_52 rfl rfl ?_
          obtain ⟨⟨b2, b2b⟩, hw⟩ := hw
          refine g_iaload C dX14_law_53 kdR_16 b2 b2b (fun z53 => ?_)
          refine g_iload_n C dX14_law_54 rfl rfl ?_
          refine g_iconst C ⟨by decide, by decide⟩ dX14_law_55 ?_
          refine g_callVl C [(0, (h4 16 p1)), (0, p2), (0, 0)] (sim_X14_lawOf hw) k_2104 k_2106 k_114 k_147 k_2107 hdV_X14_lawOf rfl rfl (by decide) rfl kdR_0 rfl rfl rfl dX14_law_56 ?_
          intro x4 h5 hw
          refine g_lstore_n C dX14_law_59 rfl (by decide) ?_
          refine g_aload_n C dX14_law_60 rfl (by decide) rfl ?_
          refine gf_X14_407 C dX14_law_61 kdR_0 (fun z61 => ?_)
          refine g_if_eq C 73 dX14_law_64 rfl hw (fun hw => ?_) (fun hw => ?_)
          · refine g_lload_n C dX14_law_73 rfl rfl ?_
            exact g_lret C hr dX14_law_74 ⟨_, rfl, hw⟩
          · refine g_ldc2 C ⟨by decide, by decide⟩ k_2103 dX14_law_67 ?_
            refine g_goto C 74 dX14_law_70 rfl ?_
            exact g_lret C hr dX14_law_74 ⟨_, rfl, hw⟩
        · refine g_ldc2 C ⟨by decide, by decide⟩ k_2103 dX14_law_43 ?_
          exact g_lret C hr dX14_law_46 ⟨_, rfl, hw⟩
set_option maxRecDepth 20000 in
set_option maxHeartbeats 4000000 in
theorem sim_X14_tells {z : Mz} {l : Launch} {p1 : Int} {p2 : Int} {p3 : Int} {h : Mh} {K : Int → Mh → Prop} (hw : wp_X14_tells p1 p2 p3 h K) : mCal (XR z) l yX14_tells cX14_tells 5 (some Jvm.ClassFile.FieldType.boolean) 2 52 [(2, 0), (0, p1), (0, p2), (0, p3)] h (mKz K) := by
  refine m_entry RX14 rfl (by decide) rfl (fun p e s m args below meth c C hr => ?_)
  have hQ : ∀ x, Lfp (F_X14_tells p1 p2 p3 K) x → (match x.1, x.2.1 with | 3, [v4] => mG (XR z) p l e { frames := 2, cells := 0, slots := 0, locals := 52 } s m args below meth c 5 (mMQ (XR z) (mKz K) below args s) 3 [(4, (0, v4)), (0, (2, 0)), (1, (0, p1)), (2, (0, p2)), (3, (0, p3))] [] x.2.2 | _, _ => True) := by
    intro x hx
    refine Lfp.ind (fun x => (match x.1, x.2.1 with | 3, [v4] => mG (XR z) p l e { frames := 2, cells := 0, slots := 0, locals := 52 } s m args below meth c 5 (mMQ (XR z) (mKz K) below args s) 3 [(4, (0, v4)), (0, (2, 0)), (1, (0, p1)), (2, (0, p2)), (3, (0, p3))] [] x.2.2 | _, _ => True)) ?_ hx
    clear hx x
    intro Z x hQ hw
    rcases hw with ⟨v4, h, rfl, hw⟩
    · show mG (XR z) p l e { frames := 2, cells := 0, slots := 0, locals := 52 } s m args below meth c 5 (mMQ (XR z) (mKz K) below args s) 3 [(4, (0, v4)), (0, (2, 0)), (1, (0, p1)), (2, (0, p2)), (3, (0, p3))] [] h
      unfold B_X14_tells_3 at hw
      refine g_iload C dX14_tells_3 rfl ?_
      refine g_aload_n C dX14_tells_5 rfl (by decide) rfl ?_
      refine g_callVi C [] (sim_X14_knownBy hw) k_2193 k_2195 k_124 k_147 k_2196 hdV_X14_knownBy rfl rfl (by decide) rfl kdR_0 rfl rfl rfl dX14_tells_6 ?_
      intro x1 h1 hw
      refine g_icmp_ge C 77 dX14_tells_9 rfl hw (fun hw => ?_) (fun hw => ?_)
      · refine g_iconst C ⟨by decide, by decide⟩ dX14_tells_77 ?_
        exact g_zret C hr (Or.inr rfl) dX14_tells_78 ⟨_, rfl, (Or.inr rfl), hw⟩
      · refine g_aload_n C dX14_tells_12 rfl (by decide) rfl ?_
        refine gw_X14_124 C dX14_tells_13 kdR_0 wwR_0_87 ?_
        refine g_iload C dX14_tells_16 rfl ?_
        obtain ⟨⟨b1, b1b⟩, hw⟩ := hw
        refine g_zaload C dX14_tells_18 kdR_35 b1 b1b (fun z18 => ?_)
        refine g_if_eq C 71 dX14_tells_19 rfl hw (fun hw => ?_) (fun hw => ?_)
        · refine g_iincN C dX14_tells_71 rfl (by decide) (fun x2 ex2 => ?_)
          replace hw := hw x2 ex2
          refine g_goto C 3 dX14_tells_74 rfl ?_
          exact g_sub [4, 0, 1, 2, 3] rfl (hQ _ hw)
        · refine g_aload_n C dX14_tells_22 rfl (by decide) rfl ?_
          refine g_iload_n C dX14_tells_23 rfl rfl ?_
          refine g_iload_n C dX14_tells_24 rfl rfl ?_
          refine g_aload_n C dX14_tells_25 rfl (by decide) rfl ?_
          refine gw_X14_54 C dX14_tells_26 kdR_0 wwR_0_50 ?_
          refine g_aload_n C dX14_tells_29 rfl (by decide) rfl ?_
          refine gw_X14_121 C dX14_tells_30 kdR_0 wwR_0_86 ?_
          refine g_iconst C ⟨by decide, by decide⟩ dX14_tells_33 ?_
          refine g_iload C dX14_tells_34 rfl ?_
          refine g_imul C dX14_tells_36 ?_
          obtain ⟨⟨b2, b2b⟩, hw⟩ := hw
          refine g_iaload C dX14_tells_37 kdR_34 b2 b2b (fun z37 => ?_)
          obtain ⟨⟨b3, b3b⟩, hw⟩ := hw
          refine g_iaload C dX14_tells_38 kdR_14 b3 b3b (fun z38 => ?_)
          refine g_aload_n C dX14_tells_39 rfl (by decide) rfl ?_
          refine gw_X14_121 C dX14_tells_40 kdR_0 wwR_0_86 ?_
          refine g_iconst C ⟨by decide, by decide⟩ dX14_tells_43 ?_
          refine g_iload C dX14_tells_44 rfl ?_
          refine g_imul C dX14_tells_46 ?_
          refine g_iconst C ⟨by decide, by decide⟩ dX14_tells_47 ?_
          refine g_iadd C dX14_tells_48 ?_
          obtain ⟨⟨b4, b4b⟩, hw⟩ := hw
          refine g_iaload C dX14_tells_49 kdR_34 b4 b4b (fun z49 => ?_)
          refine g_iload_n C dX14_tells_50 rfl rfl ?_
          refine g_isub C dX14_tells_51 ?_
          refine g_callVi C [(0, p1), (0, p2), (0, (h1 14 (h1 34 (w32 (3 * v4))))), (0, w32 ((h1 34 (w32 (w32 (3 * v4) + 1))) - p3))] (sim_X14_gives hw) k_2070 k_2072 k_109 k_147 k_2073 hdV_X14_gives rfl rfl (by decide) rfl kdR_0 rfl rfl rfl dX14_tells_52 ?_
          intro x3 h2 hw
          refine g_aload_n C dX14_tells_55 rfl (by decide) rfl ?_
          refine gw_X14_121 C dX14_tells_56 kdR_0 wwR_0_86 ?_
          refine g_iconst C ⟨by decide, by decide⟩ dX14_tells_59 ?_
          refine g_iload C dX14_tells_60 rfl ?_
          refine g_imul C dX14_tells_62 ?_
          refine g_iconst C ⟨by decide, by decide⟩ dX14_tells_63 ?_
          refine g_iadd C dX14_tells_64 ?_
          obtain ⟨⟨b5, b5b⟩, hw⟩ := hw
          refine g_iaload C dX14_tells_65 kdR_34 b5 b5b (fun z65 => ?_)
          refine g_icmp_eq C 71 dX14_tells_66 rfl hw (fun hw => ?_) (fun hw => ?_)
          · refine g_iincN C dX14_tells_71 rfl (by decide) (fun x4 ex4 => ?_)
            replace hw := hw x4 ex4
            refine g_goto C 3 dX14_tells_74 rfl ?_
            exact g_sub [4, 0, 1, 2, 3] rfl (hQ _ hw)
          · refine g_iconst C ⟨by decide, by decide⟩ dX14_tells_69 ?_
            exact g_zret C hr (Or.inl rfl) dX14_tells_70 ⟨_, rfl, (Or.inl rfl), hw⟩
  show mG _ p l e _ s m args below meth c _ _ 0 [(0, (2, 0)), (1, (0, p1)), (2, (0, p2)), (3, (0, p3))] [] h
  unfold wp_X14_tells at hw
  refine g_iconst C ⟨by decide, by decide⟩ dX14_tells_0 ?_
  refine g_istore C dX14_tells_1 (by decide) ?_
  exact g_sub [4, 0, 1, 2, 3] rfl (hQ _ hw)
set_option maxRecDepth 20000 in
set_option maxHeartbeats 4000000 in
theorem sim_X14_layTales {z : Mz} {l : Launch} {p1 : Int} {h : Mh} {K : Mh → Prop} (hw : wp_X14_layTales p1 h K) : mCal (XR z) l yX14_layTales cX14_layTales 6 none 3 76 [(2, 0), (0, p1)] h (mKv K) := by
  refine m_entry RX14 rfl (by decide) rfl (fun p e s m args below meth c C hr => ?_)
  have hQ : ∀ x, Lfp (F_X14_layTales p1 K) x → (match x.1, x.2.1 with | 21, [v2] => mG (XR z) p l e { frames := 3, cells := 0, slots := 0, locals := 76 } s m args below meth c 6 (mMQ (XR z) (mKv K) below args s) 21 [(2, (0, v2)), (0, (2, 0)), (1, (0, p1))] [] x.2.2 | 31, [v2, v3] => mG (XR z) p l e { frames := 3, cells := 0, slots := 0, locals := 76 } s m args below meth c 6 (mMQ (XR z) (mKv K) below args s) 31 [(2, (0, v2)), (3, (0, v3)), (0, (2, 0)), (1, (0, p1))] [] x.2.2 | 42, [v2, v3, v4] => mG (XR z) p l e { frames := 3, cells := 0, slots := 0, locals := 76 } s m args below meth c 6 (mMQ (XR z) (mKv K) below args s) 42 [(2, (0, v2)), (3, (0, v3)), (4, (0, v4)), (0, (2, 0)), (1, (0, p1))] [] x.2.2 | 106, [v2, v3, v4, v5, s1] => mG (XR z) p l e { frames := 3, cells := 0, slots := 0, locals := 76 } s m args below meth c 6 (mMQ (XR z) (mKv K) below args s) 106 [(2, (0, v2)), (3, (0, v3)), (4, (0, v4)), (5, (0, v5)), (0, (2, 0)), (1, (0, p1))] [(0, s1), (2, 0)] x.2.2 | _, _ => True) := by
    intro x hx
    refine Lfp.ind (fun x => (match x.1, x.2.1 with | 21, [v2] => mG (XR z) p l e { frames := 3, cells := 0, slots := 0, locals := 76 } s m args below meth c 6 (mMQ (XR z) (mKv K) below args s) 21 [(2, (0, v2)), (0, (2, 0)), (1, (0, p1))] [] x.2.2 | 31, [v2, v3] => mG (XR z) p l e { frames := 3, cells := 0, slots := 0, locals := 76 } s m args below meth c 6 (mMQ (XR z) (mKv K) below args s) 31 [(2, (0, v2)), (3, (0, v3)), (0, (2, 0)), (1, (0, p1))] [] x.2.2 | 42, [v2, v3, v4] => mG (XR z) p l e { frames := 3, cells := 0, slots := 0, locals := 76 } s m args below meth c 6 (mMQ (XR z) (mKv K) below args s) 42 [(2, (0, v2)), (3, (0, v3)), (4, (0, v4)), (0, (2, 0)), (1, (0, p1))] [] x.2.2 | 106, [v2, v3, v4, v5, s1] => mG (XR z) p l e { frames := 3, cells := 0, slots := 0, locals := 76 } s m args below meth c 6 (mMQ (XR z) (mKv K) below args s) 106 [(2, (0, v2)), (3, (0, v3)), (4, (0, v4)), (5, (0, v5)), (0, (2, 0)), (1, (0, p1))] [(0, s1), (2, 0)] x.2.2 | _, _ => True)) ?_ hx
    clear hx x
    intro Z x hQ hw
    rcases hw with ⟨v2, h, rfl, hw⟩ | ⟨v2, v3, h, rfl, hw⟩ | ⟨v2, v3, v4, h, rfl, hw⟩ | ⟨v2, v3, v4, v5, s1, h, rfl, hw⟩
    · show mG (XR z) p l e { frames := 3, cells := 0, slots := 0, locals := 76 } s m args below meth c 6 (mMQ (XR z) (mKv K) below args s) 21 [(2, (0, v2)), (0, (2, 0)), (1, (0, p1))] [] h
      unfold B_X14_layTales_21 at hw
      refine g_iload_n C dX14_layTales_21 rfl rfl ?_
      refine g_aload_n C dX14_layTales_22 rfl (by decide) rfl ?_
      refine gf_X14_261 C dX14_layTales_23 kdR_0 (fun z23 => ?_)
      refine g_icmp_ge C 179 dX14_layTales_26 rfl hw (fun hw => ?_) (fun hw => ?_)
      · exact g_vret C hr dX14_layTales_179 ⟨rfl, hw⟩
      · refine g_iconst C ⟨by decide, by decide⟩ dX14_layTales_29 ?_
        refine g_istore_n C dX14_layTales_30 rfl (by decide) ?_
        exact g_sub [2, 3, 0, 1] rfl (hQ _ hw)
    · show mG (XR z) p l e { frames := 3, cells := 0, slots := 0, locals := 76 } s m args below meth c 6 (mMQ (XR z) (mKv K) below args s) 31 [(2, (0, v2)), (3, (0, v3)), (0, (2, 0)), (1, (0, p1))] [] h
      unfold B_X14_layTales_31 at hw
      refine g_iload_n C dX14_layTales_31 rfl rfl ?_
      refine g_aload_n C dX14_layTales_32 rfl (by decide) rfl ?_
      refine g_callVi C [] (sim_X14_cells hw) k_1569 k_1571 k_73 k_147 k_1572 hdV_X14_cells rfl rfl (by decide) rfl kdR_0 rfl rfl rfl dX14_layTales_33 ?_
      intro x1 h1 hw
      refine g_icmp_ge C 173 dX14_layTales_36 rfl hw (fun hw => ?_) (fun hw => ?_)
      · refine g_iincN C dX14_layTales_173 rfl (by decide) (fun x2 ex2 => ?_)
        replace hw := hw x2 ex2
        refine g_goto C 21 dX14_layTales_176 rfl ?_
        exact g_sub [2, 0, 1] rfl (hQ _ hw)
      · refine g_iconst C ⟨by decide, by decide⟩ dX14_layTales_39 ?_
        refine g_istore C dX14_layTales_40 (by decide) ?_
        exact g_sub [2, 3, 4, 0, 1] rfl (hQ _ hw)
    · show mG (XR z) p l e { frames := 3, cells := 0, slots := 0, locals := 76 } s m args below meth c 6 (mMQ (XR z) (mKv K) below args s) 42 [(2, (0, v2)), (3, (0, v3)), (4, (0, v4)), (0, (2, 0)), (1, (0, p1))] [] h
      unfold B_X14_layTales_42 at hw
      refine g_iload C dX14_layTales_42 rfl ?_
      refine g_bipush C ⟨by decide, by decide⟩ (by decide) dX14_layTales_44 ?_
      refine g_icmp_ge C 167 dX14_layTales_46 rfl hw (fun hw => ?_) (fun hw => ?_)
      · refine g_iincN C dX14_layTales_167 rfl (by decide) (fun x1 ex1 => ?_)
        replace hw := hw x1 ex1
        refine g_goto C 31 dX14_layTales_170 rfl ?_
        exact g_sub [2, 3, 0, 1] rfl (hQ _ hw)
      · refine g_aload_n C dX14_layTales_49 rfl (by decide) rfl ?_
        refine gw_X14_27 C dX14_layTales_50 kdR_0 wwR_0_41 ?_
        refine g_iload_n C dX14_layTales_53 rfl rfl ?_
        obtain ⟨⟨b1, b1b⟩, hw⟩ := hw
        refine g_iaload C dX14_layTales_54 kdR_5 b1 b1b (fun z54 => ?_)
        refine g_iconst C ⟨by decide, by decide⟩ dX14_layTales_55 ?_
        refine g_icmp_eq C 161 dX14_layTales_56 rfl hw (fun hw => ?_) (fun hw => ?_)
        · refine g_iincN C dX14_layTales_161 rfl (by decide) (fun x2 ex2 => ?_)
          replace hw := hw x2 ex2
          refine g_goto C 42 dX14_layTales_164 rfl ?_
          exact g_sub [2, 3, 4, 0, 1] rfl (hQ _ hw)
        · refine g_aload_n C dX14_layTales_59 rfl (by decide) rfl ?_
          refine g_iload_n C dX14_layTales_60 rfl rfl ?_
          refine g_iload_n C dX14_layTales_61 rfl rfl ?_
          refine g_iload C dX14_layTales_62 rfl ?_
          refine g_callVz C [(0, v2), (0, v3), (0, v4)] (sim_X14_tells hw) k_2197 k_2199 k_125 k_147 k_2200 hdV_X14_tells rfl rfl (by decide) rfl kdR_0 rfl rfl rfl dX14_layTales_64 ?_
          intro x3 h1 zb64 hw
          refine g_if_ne C 73 dX14_layTales_67 rfl hw (fun hw => ?_) (fun hw => ?_)
          · refine g_sipush C ⟨by decide, by decide⟩ (by decide) dX14_layTales_73 ?_
            refine g_iload_n C dX14_layTales_76 rfl rfl ?_
            refine g_imul C dX14_layTales_77 ?_
            refine g_bipush C ⟨by decide, by decide⟩ (by decide) dX14_layTales_78 ?_
            refine g_iload_n C dX14_layTales_80 rfl rfl ?_
            refine g_imul C dX14_layTales_81 ?_
            refine g_iadd C dX14_layTales_82 ?_
            refine g_iload C dX14_layTales_83 rfl ?_
            refine g_iadd C dX14_layTales_85 ?_
            refine g_topi (fun x4 ex4 => ?_)
            replace hw := hw x4 ex4
            refine g_istore C dX14_layTales_86 (by decide) ?_
            refine g_aload_n C dX14_layTales_88 rfl (by decide) rfl ?_
            refine g_aload_n C dX14_layTales_89 rfl (by decide) rfl ?_
            refine gf_X14_509 C dX14_layTales_90 kdR_0 (fun z90 => ?_)
            refine g_iload_n C dX14_layTales_93 rfl rfl ?_
            refine g_icmp_ne C 102 dX14_layTales_94 rfl hw (fun hw => ?_) (fun hw => ?_)
            · refine g_aload_n C dX14_layTales_102 rfl (by decide) rfl ?_
              refine gf_X14_512 C dX14_layTales_103 kdR_0 (fun z103 => ?_)
              exact g_sub [2, 3, 4, 5, 0, 1] rfl (hQ _ hw)
            · refine g_iload C dX14_layTales_97 rfl ?_
              refine g_goto C 106 dX14_layTales_99 rfl ?_
              exact g_sub [2, 3, 4, 5, 0, 1] rfl (hQ _ hw)
          · refine g_goto C 161 dX14_layTales_70 rfl ?_
            refine g_iincN C dX14_layTales_161 rfl (by decide) (fun x5 ex5 => ?_)
            replace hw := hw x5 ex5
            refine g_goto C 42 dX14_layTales_164 rfl ?_
            exact g_sub [2, 3, 4, 0, 1] rfl (hQ _ hw)
    · show mG (XR z) p l e { frames := 3, cells := 0, slots := 0, locals := 76 } s m args below meth c 6 (mMQ (XR z) (mKv K) below args s) 106 [(2, (0, v2)), (3, (0, v3)), (4, (0, v4)), (5, (0, v5)), (0, (2, 0)), (1, (0, p1))] [(0, s1), (2, 0)] h
      unfold B_X14_layTales_106 at hw
      refine gp_X14_512 C dX14_layTales_106 kdR_0 (fun z => z) ?_
      refine g_heap (fun h1 eh1 => ?_)
      replace hw := hw h1 eh1
      refine g_aload_n C dX14_layTales_109 rfl (by decide) rfl ?_
      refine g_aload_n C dX14_layTales_110 rfl (by decide) rfl ?_
      refine gf_X14_515 C dX14_layTales_111 kdR_0 (fun z111 => ?_)
      refine g_if_lt C 139 dX14_layTales_114 rfl hw (fun hw => ?_) (fun hw => ?_)
      · refine g_iload C dX14_layTales_139 rfl ?_
        refine g_goto C 148 dX14_layTales_141 rfl ?_
        refine gp_X14_515 C dX14_layTales_148 kdR_0 (fun z => z) ?_
        refine g_heap (fun h2 eh2 => ?_)
        replace hw := hw h2 eh2
        refine g_aload_n C dX14_layTales_151 rfl (by decide) rfl ?_
        refine g_dup C (by show ¬ (2 : Nat) = 1; decide) dX14_layTales_152 ?_
        refine gf_X14_509 C dX14_layTales_153 kdR_0 (fun z153 => ?_)
        refine g_iconst C ⟨by decide, by decide⟩ dX14_layTales_156 ?_
        refine g_iadd C dX14_layTales_157 ?_
        refine gp_X14_509 C dX14_layTales_158 kdR_0 (fun z => z) ?_
        refine g_heap (fun h3 eh3 => ?_)
        replace hw := hw h3 eh3
        refine g_iincN C dX14_layTales_161 rfl (by decide) (fun x1 ex1 => ?_)
        replace hw := hw x1 ex1
        refine g_goto C 42 dX14_layTales_164 rfl ?_
        exact g_sub [2, 3, 4, 0, 1] rfl (hQ _ hw)
      · refine g_aload_n C dX14_layTales_117 rfl (by decide) rfl ?_
        refine gw_X14_45 C dX14_layTales_118 kdR_0 wwR_0_47 ?_
        refine g_iload_n C dX14_layTales_121 rfl rfl ?_
        obtain ⟨⟨b2, b2b⟩, hw⟩ := hw
        refine g_iaload C dX14_layTales_122 kdR_11 b2 b2b (fun z122 => ?_)
        refine g_aload_n C dX14_layTales_123 rfl (by decide) rfl ?_
        refine gw_X14_45 C dX14_layTales_124 kdR_0 wwR_0_47 ?_
        refine g_aload_n C dX14_layTales_127 rfl (by decide) rfl ?_
        refine gf_X14_515 C dX14_layTales_128 kdR_0 (fun z128 => ?_)
        refine g_sipush C ⟨by decide, by decide⟩ (by decide) dX14_layTales_131 ?_
        refine g_idiv C (by decide) dX14_layTales_134 ?_
        obtain ⟨⟨b3, b3b⟩, hw⟩ := hw
        refine g_iaload C dX14_layTales_135 kdR_11 b3 b3b (fun z135 => ?_)
        refine g_icmp_le C 144 dX14_layTales_136 rfl hw (fun hw => ?_) (fun hw => ?_)
        · refine g_aload_n C dX14_layTales_144 rfl (by decide) rfl ?_
          refine gf_X14_515 C dX14_layTales_145 kdR_0 (fun z145 => ?_)
          refine gp_X14_515 C dX14_layTales_148 kdR_0 (fun z => z) ?_
          refine g_heap (fun h4 eh4 => ?_)
          replace hw := hw h4 eh4
          refine g_aload_n C dX14_layTales_151 rfl (by decide) rfl ?_
          refine g_dup C (by show ¬ (2 : Nat) = 1; decide) dX14_layTales_152 ?_
          refine gf_X14_509 C dX14_layTales_153 kdR_0 (fun z153 => ?_)
          refine g_iconst C ⟨by decide, by decide⟩ dX14_layTales_156 ?_
          refine g_iadd C dX14_layTales_157 ?_
          refine gp_X14_509 C dX14_layTales_158 kdR_0 (fun z => z) ?_
          refine g_heap (fun h5 eh5 => ?_)
          replace hw := hw h5 eh5
          refine g_iincN C dX14_layTales_161 rfl (by decide) (fun x2 ex2 => ?_)
          replace hw := hw x2 ex2
          refine g_goto C 42 dX14_layTales_164 rfl ?_
          exact g_sub [2, 3, 4, 0, 1] rfl (hQ _ hw)
        · refine g_iload C dX14_layTales_139 rfl ?_
          refine g_goto C 148 dX14_layTales_141 rfl ?_
          refine gp_X14_515 C dX14_layTales_148 kdR_0 (fun z => z) ?_
          refine g_heap (fun h6 eh6 => ?_)
          replace hw := hw h6 eh6
          refine g_aload_n C dX14_layTales_151 rfl (by decide) rfl ?_
          refine g_dup C (by show ¬ (2 : Nat) = 1; decide) dX14_layTales_152 ?_
          refine gf_X14_509 C dX14_layTales_153 kdR_0 (fun z153 => ?_)
          refine g_iconst C ⟨by decide, by decide⟩ dX14_layTales_156 ?_
          refine g_iadd C dX14_layTales_157 ?_
          refine gp_X14_509 C dX14_layTales_158 kdR_0 (fun z => z) ?_
          refine g_heap (fun h7 eh7 => ?_)
          replace hw := hw h7 eh7
          refine g_iincN C dX14_layTales_161 rfl (by decide) (fun x3 ex3 => ?_)
          replace hw := hw x3 ex3
          refine g_goto C 42 dX14_layTales_164 rfl ?_
          exact g_sub [2, 3, 4, 0, 1] rfl (hQ _ hw)
  show mG _ p l e _ s m args below meth c _ _ 0 [(0, (2, 0)), (1, (0, p1))] [] h
  unfold wp_X14_layTales at hw
  refine g_aload_n C dX14_layTales_0 rfl (by decide) rfl ?_
  refine g_callVv C [] (sim_X14_layCounts hw) k_2189 k_2191 k_123 k_147 k_2192 hdV_X14_layCounts rfl rfl (by decide) rfl kdR_0 rfl rfl rfl dX14_layTales_1 ?_
  intro h1 hw
  refine g_aload_n C dX14_layTales_4 rfl (by decide) rfl ?_
  refine g_iconst C ⟨by decide, by decide⟩ dX14_layTales_5 ?_
  refine gp_X14_509 C dX14_layTales_6 kdR_0 (fun z => z) ?_
  refine g_heap (fun h2 eh2 => ?_)
  replace hw := hw h2 eh2
  refine g_aload_n C dX14_layTales_9 rfl (by decide) rfl ?_
  refine g_iconst C ⟨by decide, by decide⟩ dX14_layTales_10 ?_
  refine gp_X14_512 C dX14_layTales_11 kdR_0 (fun z => z) ?_
  refine g_heap (fun h3 eh3 => ?_)
  replace hw := hw h3 eh3
  refine g_aload_n C dX14_layTales_14 rfl (by decide) rfl ?_
  refine g_iconst C ⟨by decide, by decide⟩ dX14_layTales_15 ?_
  refine gp_X14_515 C dX14_layTales_16 kdR_0 (fun z => z) ?_
  refine g_heap (fun h4 eh4 => ?_)
  replace hw := hw h4 eh4
  refine g_iconst C ⟨by decide, by decide⟩ dX14_layTales_19 ?_
  refine g_istore_n C dX14_layTales_20 rfl (by decide) ?_
  exact g_sub [2, 0, 1] rfl (hQ _ hw)
set_option maxRecDepth 20000 in
set_option maxHeartbeats 4000000 in
theorem sim_X14_nameMet {z : Mz} {l : Launch} {h : Mh} {K : Int → Mh → Prop} (hw : wp_X14_nameMet h K) : mCal (XR z) l yX14_nameMet cX14_nameMet 1 (some Jvm.ClassFile.FieldType.int) 0 0 [(2, 0)] h (mKi K) := by
  refine m_entry RX14 rfl (by decide) rfl (fun p e s m args below meth c C hr => ?_)
  show mG _ p l e _ s m args below meth c _ _ 0 [(0, (2, 0))] [] h
  unfold wp_X14_nameMet at hw
  refine g_aload_n C dX14_nameMet_0 rfl (by decide) rfl ?_
  refine gf_X14_166 C dX14_nameMet_1 kdR_0 (fun z1 => ?_)
  refine g_iconst C ⟨by decide, by decide⟩ dX14_nameMet_4 ?_
  refine g_icmp_ne C 27 dX14_nameMet_5 rfl hw (fun hw => ?_) (fun hw => ?_)
  · refine g_iconst C ⟨by decide, by decide⟩ dX14_nameMet_27 ?_
    exact g_iret C hr dX14_nameMet_28 ⟨_, rfl, hw⟩
  · refine g_aload_n C dX14_nameMet_8 rfl (by decide) rfl ?_
    refine gf_X14_177 C dX14_nameMet_9 kdR_0 (fun z9 => ?_)
    refine g_bipush C ⟨by decide, by decide⟩ (by decide) dX14_nameMet_12 ?_
    refine g_icmp_lt C 27 dX14_nameMet_14 rfl hw (fun hw => ?_) (fun hw => ?_)
    · refine g_iconst C ⟨by decide, by decide⟩ dX14_nameMet_27 ?_
      exact g_iret C hr dX14_nameMet_28 ⟨_, rfl, hw⟩
    · refine g_aload_n C dX14_nameMet_17 rfl (by decide) rfl ?_
      refine gf_X14_177 C dX14_nameMet_18 kdR_0 (fun z18 => ?_)
      refine g_bipush C ⟨by decide, by decide⟩ (by decide) dX14_nameMet_21 ?_
      refine g_isub C dX14_nameMet_23 ?_
      refine g_goto C 28 dX14_nameMet_24 rfl ?_
      exact g_iret C hr dX14_nameMet_28 ⟨_, rfl, hw⟩
set_option maxRecDepth 20000 in
set_option maxHeartbeats 4000000 in
theorem sim_X14_waitsFor {z : Mz} {l : Launch} {p1 : Int} {h : Mh} {K : Mh → Prop} (hw : wp_X14_waitsFor p1 h K) : mCal (XR z) l yX14_waitsFor cX14_waitsFor 2 none 0 0 [(2, 0), (0, p1)] h (mKv K) := by
  refine m_entry RX14 rfl (by decide) rfl (fun p e s m args below meth c C hr => ?_)
  show mG _ p l e _ s m args below meth c _ _ 0 [(0, (2, 0)), (1, (0, p1))] [] h
  unfold wp_X14_waitsFor at hw
  refine g_aload_n C dX14_waitsFor_0 rfl (by decide) rfl ?_
  refine gw_X14_90 C dX14_waitsFor_1 kdR_0 wwR_0_63 ?_
  refine g_aload_n C dX14_waitsFor_4 rfl (by decide) rfl ?_
  refine gf_X14_364 C dX14_waitsFor_5 kdR_0 (fun z5 => ?_)
  refine g_iload_n C dX14_waitsFor_8 rfl rfl ?_
  obtain ⟨⟨b1, b1b⟩, hw⟩ := hw
  refine g_iastore C dX14_waitsFor_9 kdR_26 b1 b1b (fun z => z) ?_
  refine g_heap (fun h1 eh1 => ?_)
  replace hw := hw h1 eh1
  refine g_aload_n C dX14_waitsFor_10 rfl (by decide) rfl ?_
  refine g_dup C (by show ¬ (2 : Nat) = 1; decide) dX14_waitsFor_11 ?_
  refine gf_X14_364 C dX14_waitsFor_12 kdR_0 (fun z12 => ?_)
  refine g_iconst C ⟨by decide, by decide⟩ dX14_waitsFor_15 ?_
  refine g_iadd C dX14_waitsFor_16 ?_
  refine gp_X14_364 C dX14_waitsFor_17 kdR_0 (fun z => z) ?_
  refine g_heap (fun h2 eh2 => ?_)
  replace hw := hw h2 eh2
  exact g_vret C hr dX14_waitsFor_20 ⟨rfl, hw⟩
set_option maxRecDepth 20000 in
set_option maxHeartbeats 4000000 in
theorem sim_X14_leafRead {z : Mz} {l : Launch} {h : Mh} {K : Int → Mh → Prop} (hw : wp_X14_leafRead h K) : mCal (XR z) l yX14_leafRead cX14_leafRead 2 (some Jvm.ClassFile.FieldType.boolean) 2 47 [(2, 0)] h (mKz K) := by
  refine m_entry RX14 rfl (by decide) rfl (fun p e s m args below meth c C hr => ?_)
  have hQ : ∀ x, Lfp (F_X14_leafRead K) x → (match x.1, x.2.1 with | 86, [] => mG (XR z) p l e { frames := 2, cells := 0, slots := 0, locals := 47 } s m args below meth c 2 (mMQ (XR z) (mKz K) below args s) 86 [(0, (2, 0))] [] x.2.2 | 109, [v1] => mG (XR z) p l e { frames := 2, cells := 0, slots := 0, locals := 47 } s m args below meth c 2 (mMQ (XR z) (mKz K) below args s) 109 [(1, (0, v1)), (0, (2, 0))] [] x.2.2 | 129, [v1] => mG (XR z) p l e { frames := 2, cells := 0, slots := 0, locals := 47 } s m args below meth c 2 (mMQ (XR z) (mKz K) below args s) 129 [(1, (0, v1)), (0, (2, 0))] [] x.2.2 | 148, [v1, s1] => mG (XR z) p l e { frames := 2, cells := 0, slots := 0, locals := 47 } s m args below meth c 2 (mMQ (XR z) (mKz K) below args s) 148 [(1, (0, v1)), (0, (2, 0))] [(0, s1), (2, 0)] x.2.2 | _, _ => True) := by
    intro x hx
    refine Lfp.ind (fun x => (match x.1, x.2.1 with | 86, [] => mG (XR z) p l e { frames := 2, cells := 0, slots := 0, locals := 47 } s m args below meth c 2 (mMQ (XR z) (mKz K) below args s) 86 [(0, (2, 0))] [] x.2.2 | 109, [v1] => mG (XR z) p l e { frames := 2, cells := 0, slots := 0, locals := 47 } s m args below meth c 2 (mMQ (XR z) (mKz K) below args s) 109 [(1, (0, v1)), (0, (2, 0))] [] x.2.2 | 129, [v1] => mG (XR z) p l e { frames := 2, cells := 0, slots := 0, locals := 47 } s m args below meth c 2 (mMQ (XR z) (mKz K) below args s) 129 [(1, (0, v1)), (0, (2, 0))] [] x.2.2 | 148, [v1, s1] => mG (XR z) p l e { frames := 2, cells := 0, slots := 0, locals := 47 } s m args below meth c 2 (mMQ (XR z) (mKz K) below args s) 148 [(1, (0, v1)), (0, (2, 0))] [(0, s1), (2, 0)] x.2.2 | _, _ => True)) ?_ hx
    clear hx x
    intro Z x hQ hw
    rcases hw with ⟨h, rfl, hw⟩ | ⟨v1, h, rfl, hw⟩ | ⟨v1, h, rfl, hw⟩ | ⟨v1, s1, h, rfl, hw⟩
    · show mG (XR z) p l e { frames := 2, cells := 0, slots := 0, locals := 47 } s m args below meth c 2 (mMQ (XR z) (mKz K) below args s) 86 [(0, (2, 0))] [] h
      unfold B_X14_leafRead_86 at hw
      refine g_aload_n C dX14_leafRead_86 rfl (by decide) rfl ?_
      refine g_callVi C [] (sim_X14_nameMet hw) k_1996 k_1998 k_100 k_147 k_1999 hdV_X14_nameMet rfl rfl (by decide) rfl kdR_0 rfl rfl rfl dX14_leafRead_87 ?_
      intro x1 h1 hw
      refine g_istore_n C dX14_leafRead_90 rfl (by decide) ?_
      refine g_iload_n C dX14_leafRead_91 rfl rfl ?_
      refine g_if_ge C 109 dX14_leafRead_92 rfl hw (fun hw => ?_) (fun hw => ?_)
      · exact g_sub [1, 0] rfl (hQ _ hw)
      · refine g_aload_n C dX14_leafRead_95 rfl (by decide) rfl ?_
        refine gf_X14_166 C dX14_leafRead_96 kdR_0 (fun z96 => ?_)
        refine g_iconst C ⟨by decide, by decide⟩ dX14_leafRead_99 ?_
        refine g_icmp_eq C 109 dX14_leafRead_100 rfl hw (fun hw => ?_) (fun hw => ?_)
        · exact g_sub [1, 0] rfl (hQ _ hw)
        · refine g_aload_n C dX14_leafRead_103 rfl (by decide) rfl ?_
          refine g_iconst C ⟨by decide, by decide⟩ dX14_leafRead_104 ?_
          refine g_callVz C [(0, 1)] (sim_X14_wrong hw) k_1926 k_1928 k_84 k_147 k_1929 hdV_X14_wrong rfl rfl (by decide) rfl kdR_0 rfl rfl rfl dX14_leafRead_105 ?_
          intro x2 h2 zb105 hw
          exact g_zret C hr zb105 dX14_leafRead_108 ⟨_, rfl, zb105, hw⟩
    · show mG (XR z) p l e { frames := 2, cells := 0, slots := 0, locals := 47 } s m args below meth c 2 (mMQ (XR z) (mKz K) below args s) 109 [(1, (0, v1)), (0, (2, 0))] [] h
      unfold B_X14_leafRead_109 at hw
      refine g_iload_n C dX14_leafRead_109 rfl rfl ?_
      refine g_if_ge C 129 dX14_leafRead_110 rfl hw (fun hw => ?_) (fun hw => ?_)
      · exact g_sub [1, 0] rfl (hQ _ hw)
      · refine g_aload_n C dX14_leafRead_113 rfl (by decide) rfl ?_
        refine gf_X14_177 C dX14_leafRead_114 kdR_0 (fun z114 => ?_)
        refine g_sipush C ⟨by decide, by decide⟩ (by decide) dX14_leafRead_117 ?_
        refine g_icmp_le C 129 dX14_leafRead_120 rfl hw (fun hw => ?_) (fun hw => ?_)
        · exact g_sub [1, 0] rfl (hQ _ hw)
        · refine g_aload_n C dX14_leafRead_123 rfl (by decide) rfl ?_
          refine g_iconst C ⟨by decide, by decide⟩ dX14_leafRead_124 ?_
          refine g_callVz C [(0, 2)] (sim_X14_wrong hw) k_1926 k_1928 k_84 k_147 k_1929 hdV_X14_wrong rfl rfl (by decide) rfl kdR_0 rfl rfl rfl dX14_leafRead_125 ?_
          intro x1 h1 zb125 hw
          exact g_zret C hr zb125 dX14_leafRead_128 ⟨_, rfl, zb125, hw⟩
    · show mG (XR z) p l e { frames := 2, cells := 0, slots := 0, locals := 47 } s m args below meth c 2 (mMQ (XR z) (mKz K) below args s) 129 [(1, (0, v1)), (0, (2, 0))] [] h
      unfold B_X14_leafRead_129 at hw
      refine g_aload_n C dX14_leafRead_129 rfl (by decide) rfl ?_
      refine g_callVz C [] (sim_X14_isCounted hw) k_1992 k_1994 k_99 k_147 k_1995 hdV_X14_isCounted rfl rfl (by decide) rfl kdR_0 rfl rfl rfl dX14_leafRead_130 ?_
      intro x1 h1 zb130 hw
      refine g_if_ne C 138 dX14_leafRead_133 rfl hw (fun hw => ?_) (fun hw => ?_)
      · refine g_aload_n C dX14_leafRead_138 rfl (by decide) rfl ?_
        refine g_iload_n C dX14_leafRead_139 rfl rfl ?_
        refine g_if_lt C 147 dX14_leafRead_140 rfl hw (fun hw => ?_) (fun hw => ?_)
        · refine g_iconst C ⟨by decide, by decide⟩ dX14_leafRead_147 ?_
          exact g_sub [1, 0] rfl (hQ _ hw)
        · refine g_iconst C ⟨by decide, by decide⟩ dX14_leafRead_143 ?_
          refine g_goto C 148 dX14_leafRead_144 rfl ?_
          exact g_sub [1, 0] rfl (hQ _ hw)
      · refine g_iconst C ⟨by decide, by decide⟩ dX14_leafRead_136 ?_
        exact g_zret C hr (Or.inl rfl) dX14_leafRead_137 ⟨_, rfl, (Or.inl rfl), hw⟩
    · show mG (XR z) p l e { frames := 2, cells := 0, slots := 0, locals := 47 } s m args below meth c 2 (mMQ (XR z) (mKz K) below args s) 148 [(1, (0, v1)), (0, (2, 0))] [(0, s1), (2, 0)] h
      unfold B_X14_leafRead_148 at hw
      refine g_iload_n C dX14_leafRead_148 rfl rfl ?_
      refine g_if_lt C 156 dX14_leafRead_149 rfl hw (fun hw => ?_) (fun hw => ?_)
      · refine g_aload_n C dX14_leafRead_156 rfl (by decide) rfl ?_
        refine gf_X14_177 C dX14_leafRead_157 kdR_0 (fun z157 => ?_)
        refine g_iconst C ⟨by decide, by decide⟩ dX14_leafRead_160 ?_
        refine g_callVv C [(0, s1), (0, (h 0 9)), (0, 0)] (sim_X14_grown hw) k_2000 k_2002 k_101 k_147 k_2003 hdV_X14_grown rfl rfl (by decide) rfl kdR_0 rfl rfl rfl dX14_leafRead_161 ?_
        intro h1 hw
        refine g_aload_n C dX14_leafRead_164 rfl (by decide) rfl ?_
        refine g_iconst C ⟨by decide, by decide⟩ dX14_leafRead_165 ?_
        refine gp_X14_395 C dX14_leafRead_166 kdR_0 (fun _ => (Or.inl rfl)) ?_
        refine g_heap (fun h2 eh2 => ?_)
        replace hw := hw h2 eh2
        refine g_aload_n C dX14_leafRead_169 rfl (by decide) rfl ?_
        refine g_callVv C [] (sim_X14_token hw) k_1898 k_1900 k_77 k_147 k_1901 hdV_X14_token rfl rfl (by decide) rfl kdR_0 rfl rfl rfl dX14_leafRead_170 ?_
        intro h3 hw
        refine g_iconst C ⟨by decide, by decide⟩ dX14_leafRead_173 ?_
        exact g_zret C hr (Or.inr rfl) dX14_leafRead_174 ⟨_, rfl, (Or.inr rfl), hw⟩
      · refine g_iload_n C dX14_leafRead_152 rfl rfl ?_
        refine g_goto C 160 dX14_leafRead_153 rfl ?_
        refine g_iconst C ⟨by decide, by decide⟩ dX14_leafRead_160 ?_
        refine g_callVv C [(0, s1), (0, v1), (0, 0)] (sim_X14_grown hw) k_2000 k_2002 k_101 k_147 k_2003 hdV_X14_grown rfl rfl (by decide) rfl kdR_0 rfl rfl rfl dX14_leafRead_161 ?_
        intro h4 hw
        refine g_aload_n C dX14_leafRead_164 rfl (by decide) rfl ?_
        refine g_iconst C ⟨by decide, by decide⟩ dX14_leafRead_165 ?_
        refine gp_X14_395 C dX14_leafRead_166 kdR_0 (fun _ => (Or.inl rfl)) ?_
        refine g_heap (fun h5 eh5 => ?_)
        replace hw := hw h5 eh5
        refine g_aload_n C dX14_leafRead_169 rfl (by decide) rfl ?_
        refine g_callVv C [] (sim_X14_token hw) k_1898 k_1900 k_77 k_147 k_1901 hdV_X14_token rfl rfl (by decide) rfl kdR_0 rfl rfl rfl dX14_leafRead_170 ?_
        intro h6 hw
        refine g_iconst C ⟨by decide, by decide⟩ dX14_leafRead_173 ?_
        exact g_zret C hr (Or.inr rfl) dX14_leafRead_174 ⟨_, rfl, (Or.inr rfl), hw⟩
  show mG _ p l e _ s m args below meth c _ _ 0 [(0, (2, 0))] [] h
  unfold wp_X14_leafRead at hw
  refine g_aload_n C dX14_leafRead_0 rfl (by decide) rfl ?_
  refine g_bipush C ⟨by decide, by decide⟩ (by decide) dX14_leafRead_1 ?_
  refine g_callVz C [(0, 40)] (sim_X14_isSign hw) k_1964 k_1966 k_92 k_147 k_1967 hdV_X14_isSign rfl rfl (by decide) rfl kdR_0 rfl rfl rfl dX14_leafRead_3 ?_
  intro x1 h1 zb3 hw
  refine g_if_eq C 50 dX14_leafRead_6 rfl hw (fun hw => ?_) (fun hw => ?_)
  · refine g_aload_n C dX14_leafRead_50 rfl (by decide) rfl ?_
    refine g_bipush C ⟨by decide, by decide⟩ (by decide) dX14_leafRead_51 ?_
    refine g_callVz C [(0, 16)] (sim_X14_isKey hw) k_1968 k_1970 k_93 k_147 k_1971 hdV_X14_isKey rfl rfl (by decide) rfl kdR_0 rfl rfl rfl dX14_leafRead_53 ?_
    intro x2 h2 zb53 hw
    refine g_if_eq C 86 dX14_leafRead_56 rfl hw (fun hw => ?_) (fun hw => ?_)
    · exact g_sub [0] rfl (hQ _ hw)
    · refine g_aload_n C dX14_leafRead_59 rfl (by decide) rfl ?_
      refine gf_X14_386 C dX14_leafRead_60 kdR_0 (fun z60 => ?_)
      refine g_if_eq C 86 dX14_leafRead_63 rfl hw (fun hw => ?_) (fun hw => ?_)
      · exact g_sub [0] rfl (hQ _ hw)
      · refine g_aload_n C dX14_leafRead_66 rfl (by decide) rfl ?_
        refine g_callVz C [] (sim_X14_isCounted hw) k_1992 k_1994 k_99 k_147 k_1995 hdV_X14_isCounted rfl rfl (by decide) rfl kdR_0 rfl rfl rfl dX14_leafRead_67 ?_
        intro x3 h3 zb67 hw
        refine g_if_ne C 75 dX14_leafRead_70 rfl hw (fun hw => ?_) (fun hw => ?_)
        · refine g_aload_n C dX14_leafRead_75 rfl (by decide) rfl ?_
          refine g_iconst C ⟨by decide, by decide⟩ dX14_leafRead_76 ?_
          refine g_callVv C [(0, 2)] (sim_X14_waitsFor hw) k_1988 k_1990 k_98 k_147 k_1991 hdV_X14_waitsFor rfl rfl (by decide) rfl kdR_0 rfl rfl rfl dX14_leafRead_77 ?_
          intro h4 hw
          refine g_aload_n C dX14_leafRead_80 rfl (by decide) rfl ?_
          refine g_callVv C [] (sim_X14_token hw) k_1898 k_1900 k_77 k_147 k_1901 hdV_X14_token rfl rfl (by decide) rfl kdR_0 rfl rfl rfl dX14_leafRead_81 ?_
          intro h5 hw
          refine g_iconst C ⟨by decide, by decide⟩ dX14_leafRead_84 ?_
          exact g_zret C hr (Or.inr rfl) dX14_leafRead_85 ⟨_, rfl, (Or.inr rfl), hw⟩
        · refine g_iconst C ⟨by decide, by decide⟩ dX14_leafRead_73 ?_
          exact g_zret C hr (Or.inl rfl) dX14_leafRead_74 ⟨_, rfl, (Or.inl rfl), hw⟩
  · refine g_aload_n C dX14_leafRead_9 rfl (by decide) rfl ?_
    refine gf_X14_379 C dX14_leafRead_10 kdR_0 (fun z10 => ?_)
    refine g_bipush C ⟨by decide, by decide⟩ (by decide) dX14_leafRead_13 ?_
    refine g_icmp_ne C 24 dX14_leafRead_15 rfl hw (fun hw => ?_) (fun hw => ?_)
    · refine g_aload_n C dX14_leafRead_24 rfl (by decide) rfl ?_
      refine g_dup C (by show ¬ (2 : Nat) = 1; decide) dX14_leafRead_25 ?_
      refine gf_X14_379 C dX14_leafRead_26 kdR_0 (fun z26 => ?_)
      refine g_iconst C ⟨by decide, by decide⟩ dX14_leafRead_29 ?_
      refine g_iadd C dX14_leafRead_30 ?_
      refine gp_X14_379 C dX14_leafRead_31 kdR_0 (fun z => z) ?_
      refine g_heap (fun h6 eh6 => ?_)
      replace hw := hw h6 eh6
      refine g_aload_n C dX14_leafRead_34 rfl (by decide) rfl ?_
      refine g_iconst C ⟨by decide, by decide⟩ dX14_leafRead_35 ?_
      refine g_callVv C [(0, 0)] (sim_X14_waitsFor hw) k_1988 k_1990 k_98 k_147 k_1991 hdV_X14_waitsFor rfl rfl (by decide) rfl kdR_0 rfl rfl rfl dX14_leafRead_36 ?_
      intro h7 hw
      refine g_aload_n C dX14_leafRead_39 rfl (by decide) rfl ?_
      refine g_iconst C ⟨by decide, by decide⟩ dX14_leafRead_40 ?_
      refine gp_X14_386 C dX14_leafRead_41 kdR_0 (fun _ => (Or.inr rfl)) ?_
      refine g_heap (fun h8 eh8 => ?_)
      replace hw := hw h8 eh8
      refine g_aload_n C dX14_leafRead_44 rfl (by decide) rfl ?_
      refine g_callVv C [] (sim_X14_token hw) k_1898 k_1900 k_77 k_147 k_1901 hdV_X14_token rfl rfl (by decide) rfl kdR_0 rfl rfl rfl dX14_leafRead_45 ?_
      intro h9 hw
      refine g_iconst C ⟨by decide, by decide⟩ dX14_leafRead_48 ?_
      exact g_zret C hr (Or.inr rfl) dX14_leafRead_49 ⟨_, rfl, (Or.inr rfl), hw⟩
    · refine g_aload_n C dX14_leafRead_18 rfl (by decide) rfl ?_
      refine g_iconst C ⟨by decide, by decide⟩ dX14_leafRead_19 ?_
      refine g_callVz C [(0, 2)] (sim_X14_wrong hw) k_1926 k_1928 k_84 k_147 k_1929 hdV_X14_wrong rfl rfl (by decide) rfl kdR_0 rfl rfl rfl dX14_leafRead_20 ?_
      intro x4 h10 zb20 hw
      exact g_zret C hr zb20 dX14_leafRead_23 ⟨_, rfl, zb20, hw⟩
