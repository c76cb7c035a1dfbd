set_option maxRecDepth 20000 in
set_option maxHeartbeats 4000000 in
theorem sim_X14_remember {z : Mz} {l : Launch} {p1 : Int} {h : Mh} {K : Mh → Prop} (hw : wp_X14_remember p1 h K) : mCal (XR z) l yX14_remember cX14_remember 3 none 0 0 [(2, 0), (0, p1)] h (mKv K) := by
  refine m_entry RX14 rfl (by decide) rfl (fun p e s m args below meth c C hr => ?_)
  have hQ : ∀ x, Lfp (F_X14_remember p1 K) x → (match x.1, x.2.1 with | 11, [v2] => mG (XR z) p l e { frames := 0, cells := 0, slots := 0, locals := 0 } s m args below meth c 3 (mMQ (XR z) (mKv K) below args s) 11 [(2, (0, v2)), (0, (2, 0)), (1, (0, p1))] [] x.2.2 | _, _ => True) := by
    intro x hx
    refine Lfp.ind (fun x => (match x.1, x.2.1 with | 11, [v2] => mG (XR z) p l e { frames := 0, cells := 0, slots := 0, locals := 0 } s m args below meth c 3 (mMQ (XR z) (mKv K) below args s) 11 [(2, (0, v2)), (0, (2, 0)), (1, (0, p1))] [] x.2.2 | _, _ => True)) ?_ hx
    clear hx x
    intro Z x hQ hw
    rcases hw with ⟨v2, h, rfl, hw⟩
    · show mG (XR z) p l e { frames := 0, cells := 0, slots := 0, locals := 0 } s m args below meth c 3 (mMQ (XR z) (mKv K) below args s) 11 [(2, (0, v2)), (0, (2, 0)), (1, (0, p1))] [] h
      unfold B_X14_remember_11 at hw
      refine g_iload_n C dX14_remember_11 rfl rfl ?_
      refine g_bipush C ⟨by decide, by decide⟩ (by decide) dX14_remember_12 ?_
      refine g_icmp_ge C 37 dX14_remember_14 rfl hw (fun hw => ?_) (fun hw => ?_)
      · refine g_aload_n C dX14_remember_37 rfl (by decide) rfl ?_
        refine g_dup C (by show ¬ (2 : Nat) = 1; decide) dX14_remember_38 ?_
        refine gf_X14_301 C dX14_remember_39 kdR_0 (fun z39 => ?_)
        refine g_iconst C ⟨by decide, by decide⟩ dX14_remember_42 ?_
        refine g_isub C dX14_remember_43 ?_
        refine gp_X14_301 C dX14_remember_44 kdR_0 (fun z => z) ?_
        refine g_heap (fun h1 eh1 => ?_)
        replace hw := hw h1 eh1
        refine g_aload_n C dX14_remember_47 rfl (by decide) rfl ?_
        refine gw_X14_115 C dX14_remember_48 kdR_0 wwR_0_83 ?_
        refine g_aload_n C dX14_remember_51 rfl (by decide) rfl ?_
        refine gf_X14_301 C dX14_remember_52 kdR_0 (fun z52 => ?_)
        refine g_iload_n C dX14_remember_55 rfl rfl ?_
        obtain ⟨⟨b2, b2b⟩, hw⟩ := hw
        refine g_iastore C dX14_remember_56 kdR_33 b2 b2b (fun z => z) ?_
        refine g_heap (fun h2 eh2 => ?_)
        replace hw := hw h2 eh2
        refine g_aload_n C dX14_remember_57 rfl (by decide) rfl ?_
        refine g_dup C (by show ¬ (2 : Nat) = 1; decide) dX14_remember_58 ?_
        refine gf_X14_301 C dX14_remember_59 kdR_0 (fun z59 => ?_)
        refine g_iconst C ⟨by decide, by decide⟩ dX14_remember_62 ?_
        refine g_iadd C dX14_remember_63 ?_
        refine gp_X14_301 C dX14_remember_64 kdR_0 (fun z => z) ?_
        refine g_heap (fun h3 eh3 => ?_)
        replace hw := hw h3 eh3
        exact g_vret C hr dX14_remember_67 ⟨rfl, hw⟩
      · refine g_aload_n C dX14_remember_17 rfl (by decide) rfl ?_
        refine gw_X14_115 C dX14_remember_18 kdR_0 wwR_0_83 ?_
        refine g_iload_n C dX14_remember_21 rfl rfl ?_
        refine g_aload_n C dX14_remember_22 rfl (by decide) rfl ?_
        refine gw_X14_115 C dX14_remember_23 kdR_0 wwR_0_83 ?_
        refine g_iload_n C dX14_remember_26 rfl rfl ?_
        refine g_iconst C ⟨by decide, by decide⟩ dX14_remember_27 ?_
        refine g_iadd C dX14_remember_28 ?_
        obtain ⟨⟨b3, b3b⟩, hw⟩ := hw
        refine g_iaload C dX14_remember_29 kdR_33 b3 b3b (fun z29 => ?_)
        obtain ⟨⟨b4, b4b⟩, hw⟩ := hw
        refine g_iastore C dX14_remember_30 kdR_33 b4 b4b (fun z => z) ?_
        refine g_heap (fun h4 eh4 => ?_)
        replace hw := hw h4 eh4
        refine g_iincN C dX14_remember_31 rfl (by decide) (fun x1 ex1 => ?_)
        replace hw := hw x1 ex1
        refine g_goto C 11 dX14_remember_34 rfl ?_
        exact g_sub [2, 0, 1] rfl (hQ _ hw)
  show mG _ p l e _ s m args below meth c _ _ 0 [(0, (2, 0)), (1, (0, p1))] [] h
  unfold wp_X14_remember at hw
  refine g_aload_n C dX14_remember_0 rfl (by decide) rfl ?_
  refine gf_X14_301 C dX14_remember_1 kdR_0 (fun z1 => ?_)
  refine g_bipush C ⟨by decide, by decide⟩ (by decide) dX14_remember_4 ?_
  refine g_icmp_ne C 47 dX14_remember_6 rfl hw (fun hw => ?_) (fun hw => ?_)
  · refine g_aload_n C dX14_remember_47 rfl (by decide) rfl ?_
    refine gw_X14_115 C dX14_remember_48 kdR_0 wwR_0_83 ?_
    refine g_aload_n C dX14_remember_51 rfl (by decide) rfl ?_
    refine gf_X14_301 C dX14_remember_52 kdR_0 (fun z52 => ?_)
    refine g_iload_n C dX14_remember_55 rfl rfl ?_
    obtain ⟨⟨b1, b1b⟩, hw⟩ := hw
    refine g_iastore C dX14_remember_56 kdR_33 b1 b1b (fun z => z) ?_
    refine g_heap (fun h1 eh1 => ?_)
    replace hw := hw h1 eh1
    refine g_aload_n C dX14_remember_57 rfl (by decide) rfl ?_
    refine g_dup C (by show ¬ (2 : Nat) = 1; decide) dX14_remember_58 ?_
    refine gf_X14_301 C dX14_remember_59 kdR_0 (fun z59 => ?_)
    refine g_iconst C ⟨by decide, by decide⟩ dX14_remember_62 ?_
    refine g_iadd C dX14_remember_63 ?_
    refine gp_X14_301 C dX14_remember_64 kdR_0 (fun z => z) ?_
    refine g_heap (fun h2 eh2 => ?_)
    replace hw := hw h2 eh2
    exact g_vret C hr dX14_remember_67 ⟨rfl, hw⟩
  · refine g_iconst C ⟨by decide, by decide⟩ dX14_remember_9 ?_
    refine g_istore_n C dX14_remember_10 rfl (by decide) ?_
    exact g_sub [2, 0, 1] rfl (hQ _ hw)
set_option maxRecDepth 20000 in
set_option maxHeartbeats 4000000 in
theorem sim_X14_cut {z : Mz} {l : Launch} {p1 : Int} {h : Mh} {K : Int → Mh → Prop} (hw : wp_X14_cut p1 h K) : mCal (XR z) l yX14_cut cX14_cut 2 (some Jvm.ClassFile.FieldType.boolean) 4 84 [(2, 0), (0, p1)] h (mKz K) := by
  refine m_entry RX14 rfl (by decide) rfl (fun p e s m args below meth c C hr => ?_)
  show mG _ p l e _ s m args below meth c _ _ 0 [(0, (2, 0)), (1, (0, p1))] [] h
  unfold wp_X14_cut at hw
  refine g_aload_n C dX14_cut_0 rfl (by decide) rfl ?_
  refine g_iconst C ⟨by decide, by decide⟩ dX14_cut_1 ?_
  refine gp_X14_148 C dX14_cut_2 kdR_0 (fun z => z) ?_
  refine g_heap (fun h1 eh1 => ?_)
  replace hw := hw h1 eh1
  refine g_aload_n C dX14_cut_5 rfl (by decide) rfl ?_
  refine g_iload_n C dX14_cut_6 rfl rfl ?_
  refine g_callVz C [(0, p1)] (sim_X14_isCell hw) k_1565 k_1567 k_72 k_147 k_1568 hdV_X14_isCell rfl rfl (by decide) rfl kdR_0 rfl rfl rfl dX14_cut_7 ?_
  intro x1 h2 zb7 hw
  refine g_if_eq C 23 dX14_cut_10 rfl hw (fun hw => ?_) (fun hw => ?_)
  · refine g_iconst C ⟨by decide, by decide⟩ dX14_cut_23 ?_
    exact g_zret C hr (Or.inl rfl) dX14_cut_24 ⟨_, rfl, (Or.inl rfl), hw⟩
  · refine g_aload_n C dX14_cut_13 rfl (by decide) rfl ?_
    refine gw_X14_27 C dX14_cut_14 kdR_0 wwR_0_41 ?_
    refine g_iload_n C dX14_cut_17 rfl rfl ?_
    obtain ⟨⟨b1, b1b⟩, hw⟩ := hw
    refine g_iaload C dX14_cut_18 kdR_5 b1 b1b (fun z18 => ?_)
    refine g_iconst C ⟨by decide, by decide⟩ dX14_cut_19 ?_
    refine g_icmp_eq C 25 dX14_cut_20 rfl hw (fun hw => ?_) (fun hw => ?_)
    · refine g_aload_n C dX14_cut_25 rfl (by decide) rfl ?_
      refine g_iload_n C dX14_cut_26 rfl rfl ?_
      refine g_callVv C [(0, p1)] (sim_X14_remember hw) k_2153 k_2155 k_120 k_147 k_2156 hdV_X14_remember rfl rfl (by decide) rfl kdR_0 rfl rfl rfl dX14_cut_27 ?_
      intro h3 hw
      refine g_aload_n C dX14_cut_30 rfl (by decide) rfl ?_
      refine gw_X14_27 C dX14_cut_31 kdR_0 wwR_0_41 ?_
      refine g_iload_n C dX14_cut_34 rfl rfl ?_
      refine g_iconst C ⟨by decide, by decide⟩ dX14_cut_35 ?_
      obtain ⟨⟨b2, b2b⟩, hw⟩ := hw
      refine g_iastore C dX14_cut_36 kdR_5 b2 b2b (fun z => z) ?_
      refine g_heap (fun h4 eh4 => ?_)
      replace hw := hw h4 eh4
      refine g_aload_n C dX14_cut_37 rfl (by decide) rfl ?_
      refine g_callVv C [] (sim_X14_layWays hw) k_1557 k_1559 k_70 k_147 k_1560 hdV_X14_layWays rfl rfl (by decide) rfl kdR_0 rfl rfl rfl dX14_cut_38 ?_
      intro h5 hw
      refine g_iconst C ⟨by decide, by decide⟩ dX14_cut_41 ?_
      exact g_zret C hr (Or.inr rfl) dX14_cut_42 ⟨_, rfl, (Or.inr rfl), hw⟩
    · refine g_iconst C ⟨by decide, by decide⟩ dX14_cut_23 ?_
      exact g_zret C hr (Or.inl rfl) dX14_cut_24 ⟨_, rfl, (Or.inl rfl), hw⟩
set_option maxRecDepth 20000 in
set_option maxHeartbeats 4000000 in
theorem sim_X14_drop {z : Mz} {l : Launch} {p1 : Int} {p2 : Int} {h : Mh} {K : Int → Mh → Prop} (hw : wp_X14_drop p1 p2 h K) : mCal (XR z) l yX14_drop cX14_drop 3 (some Jvm.ClassFile.FieldType.int) 0 0 [(2, 0), (0, p1), (0, p2)] h (mKi K) := by
  refine m_entry RX14 rfl (by decide) rfl (fun p e s m args below meth c C hr => ?_)
  show mG _ p l e _ s m args below meth c _ _ 0 [(0, (2, 0)), (1, (0, p1)), (2, (0, p2))] [] h
  unfold wp_X14_drop at hw
  refine g_aload_n C dX14_drop_0 rfl (by decide) rfl ?_
  refine g_iconst C ⟨by decide, by decide⟩ dX14_drop_1 ?_
  refine gp_X14_148 C dX14_drop_2 kdR_0 (fun z => z) ?_
  refine g_heap (fun h1 eh1 => ?_)
  replace hw := hw h1 eh1
  refine g_iload_n C dX14_drop_5 rfl rfl ?_
  refine g_if_lt C 17 dX14_drop_6 rfl hw (fun hw => ?_) (fun hw => ?_)
  · refine g_iconst C ⟨by decide, by decide⟩ dX14_drop_17 ?_
    exact g_iret C hr dX14_drop_18 ⟨_, rfl, hw⟩
  · refine g_iload_n C dX14_drop_9 rfl rfl ?_
    refine g_aload_n C dX14_drop_10 rfl (by decide) rfl ?_
    refine gf_X14_298 C dX14_drop_11 kdR_0 (fun z11 => ?_)
    refine g_icmp_lt C 19 dX14_drop_14 rfl hw (fun hw => ?_) (fun hw => ?_)
    · refine g_iload_n C dX14_drop_19 rfl rfl ?_
      refine g_if_ne C 32 dX14_drop_20 rfl hw (fun hw => ?_) (fun hw => ?_)
      · refine g_iload_n C dX14_drop_32 rfl rfl ?_
        refine g_iconst C ⟨by decide, by decide⟩ dX14_drop_33 ?_
        refine g_icmp_ne C 46 dX14_drop_34 rfl hw (fun hw => ?_) (fun hw => ?_)
        · refine g_iload_n C dX14_drop_46 rfl rfl ?_
          refine g_iconst C ⟨by decide, by decide⟩ dX14_drop_47 ?_
          refine g_icmp_ne C 60 dX14_drop_48 rfl hw (fun hw => ?_) (fun hw => ?_)
          · refine g_iconst C ⟨by decide, by decide⟩ dX14_drop_60 ?_
            exact g_iret C hr dX14_drop_61 ⟨_, rfl, hw⟩
          · refine g_aload_n C dX14_drop_51 rfl (by decide) rfl ?_
            refine gw_X14_69 C dX14_drop_52 kdR_0 wwR_0_55 ?_
            refine g_iload_n C dX14_drop_55 rfl rfl ?_
            obtain ⟨⟨b1, b1b⟩, hw⟩ := hw
            refine g_iaload C dX14_drop_56 kdR_19 b1 b1b (fun z56 => ?_)
            refine g_goto C 61 dX14_drop_57 rfl ?_
            exact g_iret C hr dX14_drop_61 ⟨_, rfl, hw⟩
        · refine g_aload_n C dX14_drop_37 rfl (by decide) rfl ?_
          refine gw_X14_66 C dX14_drop_38 kdR_0 wwR_0_54 ?_
          refine g_iload_n C dX14_drop_41 rfl rfl ?_
          obtain ⟨⟨b2, b2b⟩, hw⟩ := hw
          refine g_iaload C dX14_drop_42 kdR_18 b2 b2b (fun z42 => ?_)
          refine g_goto C 61 dX14_drop_43 rfl ?_
          exact g_iret C hr dX14_drop_61 ⟨_, rfl, hw⟩
      · refine g_aload_n C dX14_drop_23 rfl (by decide) rfl ?_
        refine gw_X14_63 C dX14_drop_24 kdR_0 wwR_0_53 ?_
        refine g_iload_n C dX14_drop_27 rfl rfl ?_
        obtain ⟨⟨b3, b3b⟩, hw⟩ := hw
        refine g_iaload C dX14_drop_28 kdR_17 b3 b3b (fun z28 => ?_)
        refine g_goto C 61 dX14_drop_29 rfl ?_
        exact g_iret C hr dX14_drop_61 ⟨_, rfl, hw⟩
    · refine g_iconst C ⟨by decide, by decide⟩ dX14_drop_17 ?_
      exact g_iret C hr dX14_drop_18 ⟨_, rfl, hw⟩
set_option maxRecDepth 20000 in
set_option maxHeartbeats 4000000 in
theorem sim_X14_find {z : Mz} {l : Launch} {p0 : Int} {p1 : Int} {p2 : Int} {p3 : Int} {h : Mh} {K : Int → Mh → Prop} (hw : wp_X14_find p0 p1 p2 p3 h K) : mCal (XR z) l yX14_find cX14_find 5 (some Jvm.ClassFile.FieldType.int) 0 0 [(2, p0), (0, p1), (0, p2), (0, p3)] h (mKi K) := by
  refine m_entry RX14 rfl (by decide) rfl (fun p e s m args below meth c C hr => ?_)
  have hQ : ∀ x, Lfp (F_X14_find p0 p1 p2 p3 K) x → (match x.1, x.2.1 with | 3, [v4] => mG (XR z) p l e { frames := 0, cells := 0, slots := 0, locals := 0 } s m args below meth c 5 (mMQ (XR z) (mKi K) below args s) 3 [(4, (0, v4)), (0, (2, p0)), (1, (0, p1)), (2, (0, p2)), (3, (0, p3))] [] x.2.2 | _, _ => True) := by
    intro x hx
    refine Lfp.ind (fun x => (match x.1, x.2.1 with | 3, [v4] => mG (XR z) p l e { frames := 0, cells := 0, slots := 0, locals := 0 } s m args below meth c 5 (mMQ (XR z) (mKi K) below args s) 3 [(4, (0, v4)), (0, (2, p0)), (1, (0, p1)), (2, (0, p2)), (3, (0, p3))] [] x.2.2 | _, _ => True)) ?_ hx
    clear hx x
    intro Z x hQ hw
    rcases hw with ⟨v4, h, rfl, hw⟩
    · show mG (XR z) p l e { frames := 0, cells := 0, slots := 0, locals := 0 } s m args below meth c 5 (mMQ (XR z) (mKi K) below args s) 3 [(4, (0, v4)), (0, (2, p0)), (1, (0, p1)), (2, (0, p2)), (3, (0, p3))] [] h
      unfold B_X14_find_3 at hw
      refine g_iload C dX14_find_3 rfl ?_
      refine g_iload_n C dX14_find_5 rfl rfl ?_
      refine g_icmp_ge C 28 dX14_find_6 rfl hw (fun hw => ?_) (fun hw => ?_)
      · refine g_iconst C ⟨by decide, by decide⟩ dX14_find_28 ?_
        exact g_iret C hr dX14_find_29 ⟨_, rfl, hw⟩
      · refine g_aload_n C dX14_find_9 rfl (by decide) rfl ?_
        refine g_iload_n C dX14_find_10 rfl rfl ?_
        refine g_iload C dX14_find_11 rfl ?_
        refine g_iadd C dX14_find_13 ?_
        obtain ⟨q1, hw⟩ := hw
        obtain ⟨⟨b1, b1b⟩, hw⟩ := hw
        refine g_iaload C dX14_find_14 q1 b1 b1b (fun z14 => ?_)
        refine g_iload_n C dX14_find_15 rfl rfl ?_
        refine g_icmp_ne C 22 dX14_find_16 rfl hw (fun hw => ?_) (fun hw => ?_)
        · refine g_iincN C dX14_find_22 rfl (by decide) (fun x1 ex1 => ?_)
          replace hw := hw x1 ex1
          refine g_goto C 3 dX14_find_25 rfl ?_
          exact g_sub [4, 0, 1, 2, 3] rfl (hQ _ hw)
        · refine g_iload C dX14_find_19 rfl ?_
          exact g_iret C hr dX14_find_21 ⟨_, rfl, hw⟩
  show mG _ p l e _ s m args below meth c _ _ 0 [(0, (2, p0)), (1, (0, p1)), (2, (0, p2)), (3, (0, p3))] [] h
  unfold wp_X14_find at hw
  refine g_iconst C ⟨by decide, by decide⟩ dX14_find_0 ?_
  refine g_istore C dX14_find_1 (by decide) ?_
  exact g_sub [4, 0, 1, 2, 3] rfl (hQ _ hw)
set_option maxRecDepth 20000 in
set_option maxHeartbeats 4000000 in
theorem sim_X14_wrongCell {z : Mz} {l : Launch} {h : Mh} {K : Int → Mh → Prop} (hw : wp_X14_wrongCell h K) : mCal (XR z) l yX14_wrongCell cX14_wrongCell 1 (some Jvm.ClassFile.FieldType.boolean) 1 21 [(2, 0)] h (mKz K) := by
  refine m_entry RX14 rfl (by decide) rfl (fun p e s m args below meth c C hr => ?_)
  show mG _ p l e _ s m args below meth c _ _ 0 [(0, (2, 0))] [] h
  unfold wp_X14_wrongCell at hw
  refine g_aload_n C dX14_wrongCell_0 rfl (by decide) rfl ?_
  refine g_aload_n C dX14_wrongCell_1 rfl (by decide) rfl ?_
  refine gf_X14_320 C dX14_wrongCell_2 kdR_0 (fun z2 => ?_)
  refine gp_X14_157 C dX14_wrongCell_5 kdR_0 (fun z => z) ?_
  refine g_heap (fun h1 eh1 => ?_)
  replace hw := hw h1 eh1
  refine g_aload_n C dX14_wrongCell_8 rfl (by decide) rfl ?_
  refine g_iconst C ⟨by decide, by decide⟩ dX14_wrongCell_9 ?_
  refine g_callVz C [(0, 5)] (sim_X14_wrong hw) k_1926 k_1928 k_84 k_147 k_1929 hdV_X14_wrong rfl rfl (by decide) rfl kdR_0 rfl rfl rfl dX14_wrongCell_10 ?_
  intro x1 h2 zb10 hw
  exact g_zret C hr zb10 dX14_wrongCell_13 ⟨_, rfl, zb10, hw⟩
set_option maxRecDepth 20000 in
set_option maxHeartbeats 4000000 in
theorem sim_X14_waterRead {z : Mz} {l : Launch} {h : Mh} {K : Int → Mh → Prop} (hw : wp_X14_waterRead h K) : mCal (XR z) l yX14_waterRead cX14_waterRead 1 (some Jvm.ClassFile.FieldType.boolean) 4 90 [(2, 0)] h (mKz K) := by
  refine m_entry RX14 rfl (by decide) rfl (fun p e s m args below meth c C hr => ?_)
  show mG _ p l e _ s m args below meth c _ _ 0 [(0, (2, 0))] [] h
  unfold wp_X14_waterRead at hw
  refine g_aload_n C dX14_waterRead_0 rfl (by decide) rfl ?_
  refine g_callVz C [] (sim_X14_cellRead hw) k_1941 k_1943 k_87 k_147 k_1944 hdV_X14_cellRead rfl rfl (by decide) rfl kdR_0 rfl rfl rfl dX14_waterRead_1 ?_
  intro x1 h1 zb1 hw
  refine g_if_ne C 9 dX14_waterRead_4 rfl hw (fun hw => ?_) (fun hw => ?_)
  · refine g_aload_n C dX14_waterRead_9 rfl (by decide) rfl ?_
    refine gw_X14_27 C dX14_waterRead_10 kdR_0 wwR_0_41 ?_
    refine g_bipush C ⟨by decide, by decide⟩ (by decide) dX14_waterRead_13 ?_
    refine g_aload_n C dX14_waterRead_15 rfl (by decide) rfl ?_
    refine gf_X14_196 C dX14_waterRead_16 kdR_0 (fun z16 => ?_)
    refine g_iadd C dX14_waterRead_19 ?_
    obtain ⟨⟨b1, b1b⟩, hw⟩ := hw
    refine g_iaload C dX14_waterRead_20 kdR_5 b1 b1b (fun z20 => ?_)
    refine g_iconst C ⟨by decide, by decide⟩ dX14_waterRead_21 ?_
    refine g_icmp_ne C 30 dX14_waterRead_22 rfl hw (fun hw => ?_) (fun hw => ?_)
    · refine g_aload_n C dX14_waterRead_30 rfl (by decide) rfl ?_
      refine gw_X14_33 C dX14_waterRead_31 kdR_0 wwR_0_43 ?_
      refine g_aload_n C dX14_waterRead_34 rfl (by decide) rfl ?_
      refine gf_X14_196 C dX14_waterRead_35 kdR_0 (fun z35 => ?_)
      refine g_iconst C ⟨by decide, by decide⟩ dX14_waterRead_38 ?_
      obtain ⟨⟨b2, b2b⟩, hw⟩ := hw
      refine g_zastore C dX14_waterRead_39 kdR_7 b2 b2b (fun _ => (Or.inr rfl)) ?_
      refine g_heap (fun h2 eh2 => ?_)
      replace hw := hw h2 eh2
      refine g_iconst C ⟨by decide, by decide⟩ dX14_waterRead_40 ?_
      exact g_zret C hr (Or.inr rfl) dX14_waterRead_41 ⟨_, rfl, (Or.inr rfl), hw⟩
    · refine g_aload_n C dX14_waterRead_25 rfl (by decide) rfl ?_
      refine g_callVz C [] (sim_X14_wrongCell hw) k_1945 k_1947 k_88 k_147 k_1948 hdV_X14_wrongCell rfl rfl (by decide) rfl kdR_0 rfl rfl rfl dX14_waterRead_26 ?_
      intro x2 h3 zb26 hw
      exact g_zret C hr zb26 dX14_waterRead_29 ⟨_, rfl, zb26, hw⟩
  · refine g_iconst C ⟨by decide, by decide⟩ dX14_waterRead_7 ?_
    exact g_zret C hr (Or.inl rfl) dX14_waterRead_8 ⟨_, rfl, (Or.inl rfl), hw⟩
set_option maxRecDepth 20000 in
set_option maxHeartbeats 4000000 in
theorem sim_X14_dropLine {z : Mz} {l : Launch} {h : Mh} {K : Int → Mh → Prop} (hw : wp_X14_dropLine h K) : mCal (XR z) l yX14_dropLine cX14_dropLine 2 (some Jvm.ClassFile.FieldType.boolean) 5 110 [(2, 0)] h (mKz K) := by
  refine m_entry RX14 rfl (by decide) rfl (fun p e s m args below meth c C hr => ?_)
  show mG _ p l e _ s m args below meth c _ _ 0 [(0, (2, 0))] [] h
  unfold wp_X14_dropLine at hw
  refine g_aload_n C dX14_dropLine_0 rfl (by decide) rfl ?_
  refine gf_X14_224 C dX14_dropLine_1 kdR_0 (fun z1 => ?_)
  refine g_bipush C ⟨by decide, by decide⟩ (by decide) dX14_dropLine_4 ?_
  refine g_icmp_ne C 15 dX14_dropLine_6 rfl hw (fun hw => ?_) (fun hw => ?_)
  · refine g_aload_n C dX14_dropLine_15 rfl (by decide) rfl ?_
    refine g_iconst C ⟨by decide, by decide⟩ dX14_dropLine_16 ?_
    refine gp_X14_249 C dX14_dropLine_17 kdR_0 (fun _ => (Or.inr rfl)) ?_
    refine g_heap (fun h1 eh1 => ?_)
    replace hw := hw h1 eh1
    refine g_aload_n C dX14_dropLine_20 rfl (by decide) rfl ?_
    refine g_callVv C [] (sim_X14_token hw) k_1898 k_1900 k_77 k_147 k_1901 hdV_X14_token rfl rfl (by decide) rfl kdR_0 rfl rfl rfl dX14_dropLine_21 ?_
    intro h2 hw
    refine g_aload_n C dX14_dropLine_24 rfl (by decide) rfl ?_
    refine gf_X14_166 C dX14_dropLine_25 kdR_0 (fun z25 => ?_)
    refine g_iconst C ⟨by decide, by decide⟩ dX14_dropLine_28 ?_
    refine g_icmp_eq C 38 dX14_dropLine_29 rfl hw (fun hw => ?_) (fun hw => ?_)
    · refine g_aload_n C dX14_dropLine_38 rfl (by decide) rfl ?_
      refine gw_X14_39 C dX14_dropLine_39 kdR_0 wwR_0_45 ?_
      refine g_iconst C ⟨by decide, by decide⟩ dX14_dropLine_42 ?_
      refine g_aload_n C dX14_dropLine_43 rfl (by decide) rfl ?_
      refine gf_X14_215 C dX14_dropLine_44 kdR_0 (fun z44 => ?_)
      refine g_aload_n C dX14_dropLine_47 rfl (by decide) rfl ?_
      refine gf_X14_177 C dX14_dropLine_48 kdR_0 (fun z48 => ?_)
      refine g_callSi C [(2, 9), (0, 4), (0, (h2 0 27)), (0, (h2 0 9))] (sim_X14_find hw) k_1957 k_1958 k_147 k_1959 hdS_X14_find rfl rfl rfl rfl rfl dX14_dropLine_51 ?_
      intro x1 h3 hw
      refine g_istore_n C dX14_dropLine_54 rfl (by decide) ?_
      refine g_iload_n C dX14_dropLine_55 rfl rfl ?_
      refine g_if_ge C 65 dX14_dropLine_56 rfl hw (fun hw => ?_) (fun hw => ?_)
      · refine g_aload_n C dX14_dropLine_65 rfl (by decide) rfl ?_
        refine g_callVv C [] (sim_X14_token hw) k_1898 k_1900 k_77 k_147 k_1901 hdV_X14_token rfl rfl (by decide) rfl kdR_0 rfl rfl rfl dX14_dropLine_66 ?_
        intro h4 hw
        refine g_aload_n C dX14_dropLine_69 rfl (by decide) rfl ?_
        refine g_callVz C [] (sim_X14_waterRead hw) k_1972 k_1974 k_94 k_147 k_1975 hdV_X14_waterRead rfl rfl (by decide) rfl kdR_0 rfl rfl rfl dX14_dropLine_70 ?_
        intro x2 h5 zb70 hw
        refine g_if_ne C 78 dX14_dropLine_73 rfl hw (fun hw => ?_) (fun hw => ?_)
        · refine g_aload_n C dX14_dropLine_78 rfl (by decide) rfl ?_
          refine gw_X14_63 C dX14_dropLine_79 kdR_0 wwR_0_53 ?_
          refine g_bipush C ⟨by decide, by decide⟩ (by decide) dX14_dropLine_82 ?_
          refine g_aload_n C dX14_dropLine_84 rfl (by decide) rfl ?_
          refine gf_X14_224 C dX14_dropLine_85 kdR_0 (fun z85 => ?_)
          refine g_iadd C dX14_dropLine_88 ?_
          refine g_iload_n C dX14_dropLine_89 rfl rfl ?_
          obtain ⟨⟨b1, b1b⟩, hw⟩ := hw
          refine g_iastore C dX14_dropLine_90 kdR_17 b1 b1b (fun z => z) ?_
          refine g_heap (fun h6 eh6 => ?_)
          replace hw := hw h6 eh6
          refine g_aload_n C dX14_dropLine_91 rfl (by decide) rfl ?_
          refine gw_X14_66 C dX14_dropLine_92 kdR_0 wwR_0_54 ?_
          refine g_bipush C ⟨by decide, by decide⟩ (by decide) dX14_dropLine_95 ?_
          refine g_aload_n C dX14_dropLine_97 rfl (by decide) rfl ?_
          refine gf_X14_224 C dX14_dropLine_98 kdR_0 (fun z98 => ?_)
          refine g_iadd C dX14_dropLine_101 ?_
          refine g_aload_n C dX14_dropLine_102 rfl (by decide) rfl ?_
          refine gf_X14_196 C dX14_dropLine_103 kdR_0 (fun z103 => ?_)
          obtain ⟨⟨b2, b2b⟩, hw⟩ := hw
          refine g_iastore C dX14_dropLine_106 kdR_18 b2 b2b (fun z => z) ?_
          refine g_heap (fun h7 eh7 => ?_)
          replace hw := hw h7 eh7
          refine g_aload_n C dX14_dropLine_107 rfl (by decide) rfl ?_
          refine g_iconst C ⟨by decide, by decide⟩ dX14_dropLine_108 ?_
          refine g_bipush C ⟨by decide, by decide⟩ (by decide) dX14_dropLine_109 ?_
          refine g_callVz C [(0, 0), (0, 99)] (sim_X14_number hw) k_1930 k_1932 k_85 k_147 k_1933 hdV_X14_number rfl rfl (by decide) rfl kdR_0 rfl rfl rfl dX14_dropLine_111 ?_
          intro x3 h8 zb111 hw
          refine g_if_ne C 119 dX14_dropLine_114 rfl hw (fun hw => ?_) (fun hw => ?_)
          · refine g_aload_n C dX14_dropLine_119 rfl (by decide) rfl ?_
            refine gw_X14_69 C dX14_dropLine_120 kdR_0 wwR_0_55 ?_
            refine g_bipush C ⟨by decide, by decide⟩ (by decide) dX14_dropLine_123 ?_
            refine g_aload_n C dX14_dropLine_125 rfl (by decide) rfl ?_
            refine gf_X14_224 C dX14_dropLine_126 kdR_0 (fun z126 => ?_)
            refine g_iadd C dX14_dropLine_129 ?_
            refine g_aload_n C dX14_dropLine_130 rfl (by decide) rfl ?_
            refine gf_X14_196 C dX14_dropLine_131 kdR_0 (fun z131 => ?_)
            obtain ⟨⟨b3, b3b⟩, hw⟩ := hw
            refine g_iastore C dX14_dropLine_134 kdR_19 b3 b3b (fun z => z) ?_
            refine g_heap (fun h9 eh9 => ?_)
            replace hw := hw h9 eh9
            refine g_aload_n C dX14_dropLine_135 rfl (by decide) rfl ?_
            refine g_dup C (by show ¬ (2 : Nat) = 1; decide) dX14_dropLine_136 ?_
            refine gf_X14_224 C dX14_dropLine_137 kdR_0 (fun z137 => ?_)
            refine g_iconst C ⟨by decide, by decide⟩ dX14_dropLine_140 ?_
            refine g_iadd C dX14_dropLine_141 ?_
            refine gp_X14_224 C dX14_dropLine_142 kdR_0 (fun z => z) ?_
            refine g_heap (fun h10 eh10 => ?_)
            replace hw := hw h10 eh10
            refine g_iconst C ⟨by decide, by decide⟩ dX14_dropLine_145 ?_
            exact g_zret C hr (Or.inr rfl) dX14_dropLine_146 ⟨_, rfl, (Or.inr rfl), hw⟩
          · refine g_iconst C ⟨by decide, by decide⟩ dX14_dropLine_117 ?_
            exact g_zret C hr (Or.inl rfl) dX14_dropLine_118 ⟨_, rfl, (Or.inl rfl), hw⟩
        · refine g_iconst C ⟨by decide, by decide⟩ dX14_dropLine_76 ?_
          exact g_zret C hr (Or.inl rfl) dX14_dropLine_77 ⟨_, rfl, (Or.inl rfl), hw⟩
      · refine g_aload_n C dX14_dropLine_59 rfl (by decide) rfl ?_
        refine g_iconst C ⟨by decide, by decide⟩ dX14_dropLine_60 ?_
        refine g_callVz C [(0, 4)] (sim_X14_wrong hw) k_1926 k_1928 k_84 k_147 k_1929 hdV_X14_wrong rfl rfl (by decide) rfl kdR_0 rfl rfl rfl dX14_dropLine_61 ?_
        intro x4 h11 zb61 hw
        exact g_zret C hr zb61 dX14_dropLine_64 ⟨_, rfl, zb61, hw⟩
    · refine g_aload_n C dX14_dropLine_32 rfl (by decide) rfl ?_
      refine g_iconst C ⟨by decide, by decide⟩ dX14_dropLine_33 ?_
      refine g_callVz C [(0, 1)] (sim_X14_wrong hw) k_1926 k_1928 k_84 k_147 k_1929 hdV_X14_wrong rfl rfl (by decide) rfl kdR_0 rfl rfl rfl dX14_dropLine_34 ?_
      intro x5 h12 zb34 hw
      exact g_zret C hr zb34 dX14_dropLine_37 ⟨_, rfl, zb34, hw⟩
  · refine g_aload_n C dX14_dropLine_9 rfl (by decide) rfl ?_
    refine g_iconst C ⟨by decide, by decide⟩ dX14_dropLine_10 ?_
    refine g_callVz C [(0, 2)] (sim_X14_wrong hw) k_1926 k_1928 k_84 k_147 k_1929 hdV_X14_wrong rfl rfl (by decide) rfl kdR_0 rfl rfl rfl dX14_dropLine_11 ?_
    intro x6 h13 zb11 hw
    exact g_zret C hr zb11 dX14_dropLine_14 ⟨_, rfl, zb11, hw⟩
set_option maxRecDepth 20000 in
set_option maxHeartbeats 4000000 in
theorem sim_X14_fails {z : Mz} {l : Launch} {p1 : Int} {h : Mh} {K : Int → Mh → Prop} (hw : wp_X14_fails p1 h K) : mCal (XR z) l yX14_fails cX14_fails 2 (some Jvm.ClassFile.FieldType.int) 0 0 [(2, 0), (0, p1)] h (mKi K) := by
  refine m_entry RX14 rfl (by decide) rfl (fun p e s m args below meth c C hr => ?_)
  show mG _ p l e _ s m args below meth c _ _ 0 [(0, (2, 0)), (1, (0, p1))] [] h
  unfold wp_X14_fails at hw
  refine g_aload_n C dX14_fails_0 rfl (by decide) rfl ?_
  refine g_iload_n C dX14_fails_1 rfl rfl ?_
  refine gp_X14_148 C dX14_fails_2 kdR_0 (fun z => z) ?_
  refine g_heap (fun h1 eh1 => ?_)
  replace hw := hw h1 eh1
  refine g_iconst C ⟨by decide, by decide⟩ dX14_fails_5 ?_
  exact g_iret C hr dX14_fails_6 ⟨_, rfl, hw⟩
set_option maxRecDepth 20000 in
set_option maxHeartbeats 4000000 in
theorem sim_X14_fall {z : Mz} {l : Launch} {p1 : Int} {p2 : Int} {p3 : Int} {h : Mh} {K : Int → Mh → Prop} (hw : wp_X14_fall p1 p2 p3 h K) : mCal (XR z) l yX14_fall cX14_fall 4 (some Jvm.ClassFile.FieldType.int) 3 62 [(2, 0), (0, p1), (0, p2), (0, p3)] h (mKi K) := by
  refine m_entry RX14 rfl (by decide) rfl (fun p e s m args below meth c C hr => ?_)
  show mG _ p l e _ s m args below meth c _ _ 0 [(0, (2, 0)), (1, (0, p1)), (2, (0, p2)), (3, (0, p3))] [] h
  unfold wp_X14_fall at hw
  refine g_aload_n C dX14_fall_0 rfl (by decide) rfl ?_
  refine g_iconst C ⟨by decide, by decide⟩ dX14_fall_1 ?_
  refine gp_X14_148 C dX14_fall_2 kdR_0 (fun z => z) ?_
  refine g_heap (fun h1 eh1 => ?_)
  replace hw := hw h1 eh1
  refine g_aload_n C dX14_fall_5 rfl (by decide) rfl ?_
  refine gf_X14_298 C dX14_fall_6 kdR_0 (fun z6 => ?_)
  refine g_bipush C ⟨by decide, by decide⟩ (by decide) dX14_fall_9 ?_
  refine g_icmp_eq C 40 dX14_fall_11 rfl hw (fun hw => ?_) (fun hw => ?_)
  · refine g_iconst C ⟨by decide, by decide⟩ dX14_fall_40 ?_
    exact g_iret C hr dX14_fall_41 ⟨_, rfl, hw⟩
  · refine g_aload_n C dX14_fall_14 rfl (by decide) rfl ?_
    refine g_iload_n C dX14_fall_15 rfl rfl ?_
    refine g_callVz C [(0, p1)] (sim_X14_isKind hw) k_2043 k_2045 k_106 k_147 k_2046 hdV_X14_isKind rfl rfl (by decide) rfl kdR_0 rfl rfl rfl dX14_fall_16 ?_
    intro x1 h2 zb16 hw
    refine g_if_eq C 40 dX14_fall_19 rfl hw (fun hw => ?_) (fun hw => ?_)
    · refine g_iconst C ⟨by decide, by decide⟩ dX14_fall_40 ?_
      exact g_iret C hr dX14_fall_41 ⟨_, rfl, hw⟩
    · refine g_aload_n C dX14_fall_22 rfl (by decide) rfl ?_
      refine g_iload_n C dX14_fall_23 rfl rfl ?_
      refine g_callVz C [(0, p2)] (sim_X14_isWater hw) k_1561 k_1563 k_71 k_147 k_1564 hdV_X14_isWater rfl rfl (by decide) rfl kdR_0 rfl rfl rfl dX14_fall_24 ?_
      intro x2 h3 zb24 hw
      refine g_if_eq C 40 dX14_fall_27 rfl hw (fun hw => ?_) (fun hw => ?_)
      · refine g_iconst C ⟨by decide, by decide⟩ dX14_fall_40 ?_
        exact g_iret C hr dX14_fall_41 ⟨_, rfl, hw⟩
      · refine g_iload_n C dX14_fall_30 rfl rfl ?_
        refine g_iconst C ⟨by decide, by decide⟩ dX14_fall_31 ?_
        refine g_bipush C ⟨by decide, by decide⟩ (by decide) dX14_fall_32 ?_
        refine g_callSz C [(0, p3), (0, 0), (0, 99)] (sim_X14_isIn hw) k_1934 k_1935 k_147 k_1936 hdS_X14_isIn rfl rfl rfl rfl rfl dX14_fall_34 ?_
        intro x3 h4 zb34 hw
        refine g_if_ne C 42 dX14_fall_37 rfl hw (fun hw => ?_) (fun hw => ?_)
        · refine g_aload_n C dX14_fall_42 rfl (by decide) rfl ?_
          refine g_iconst C ⟨by decide, by decide⟩ dX14_fall_43 ?_
          refine g_callVv C [(0, (-1))] (sim_X14_remember hw) k_2153 k_2155 k_120 k_147 k_2156 hdV_X14_remember rfl rfl (by decide) rfl kdR_0 rfl rfl rfl dX14_fall_44 ?_
          intro h5 hw
          refine g_aload_n C dX14_fall_47 rfl (by decide) rfl ?_
          refine gw_X14_63 C dX14_fall_48 kdR_0 wwR_0_53 ?_
          refine g_aload_n C dX14_fall_51 rfl (by decide) rfl ?_
          refine gf_X14_298 C dX14_fall_52 kdR_0 (fun z52 => ?_)
          refine g_iload_n C dX14_fall_55 rfl rfl ?_
          obtain ⟨⟨b1, b1b⟩, hw⟩ := hw
          refine g_iastore C dX14_fall_56 kdR_17 b1 b1b (fun z => z) ?_
          refine g_heap (fun h6 eh6 => ?_)
          replace hw := hw h6 eh6
          refine g_aload_n C dX14_fall_57 rfl (by decide) rfl ?_
          refine gw_X14_66 C dX14_fall_58 kdR_0 wwR_0_54 ?_
          refine g_aload_n C dX14_fall_61 rfl (by decide) rfl ?_
          refine gf_X14_298 C dX14_fall_62 kdR_0 (fun z62 => ?_)
          refine g_iload_n C dX14_fall_65 rfl rfl ?_
          obtain ⟨⟨b2, b2b⟩, hw⟩ := hw
          refine g_iastore C dX14_fall_66 kdR_18 b2 b2b (fun z => z) ?_
          refine g_heap (fun h7 eh7 => ?_)
          replace hw := hw h7 eh7
          refine g_aload_n C dX14_fall_67 rfl (by decide) rfl ?_
          refine gw_X14_69 C dX14_fall_68 kdR_0 wwR_0_55 ?_
          refine g_aload_n C dX14_fall_71 rfl (by decide) rfl ?_
          refine gf_X14_298 C dX14_fall_72 kdR_0 (fun z72 => ?_)
          refine g_iload_n C dX14_fall_75 rfl rfl ?_
          obtain ⟨⟨b3, b3b⟩, hw⟩ := hw
          refine g_iastore C dX14_fall_76 kdR_19 b3 b3b (fun z => z) ?_
          refine g_heap (fun h8 eh8 => ?_)
          replace hw := hw h8 eh8
          refine g_aload_n C dX14_fall_77 rfl (by decide) rfl ?_
          refine g_dup C (by show ¬ (2 : Nat) = 1; decide) dX14_fall_78 ?_
          refine gf_X14_298 C dX14_fall_79 kdR_0 (fun z79 => ?_)
          refine g_iconst C ⟨by decide, by decide⟩ dX14_fall_82 ?_
          refine g_iadd C dX14_fall_83 ?_
          refine gp_X14_298 C dX14_fall_84 kdR_0 (fun z => z) ?_
          refine g_heap (fun h9 eh9 => ?_)
          replace hw := hw h9 eh9
          refine g_aload_n C dX14_fall_87 rfl (by decide) rfl ?_
          refine gf_X14_298 C dX14_fall_88 kdR_0 (fun z88 => ?_)
          refine g_iconst C ⟨by decide, by decide⟩ dX14_fall_91 ?_
          refine g_isub C dX14_fall_92 ?_
          exact g_iret C hr dX14_fall_93 ⟨_, rfl, hw⟩
        · refine g_iconst C ⟨by decide, by decide⟩ dX14_fall_40 ?_
          exact g_iret C hr dX14_fall_41 ⟨_, rfl, hw⟩
set_option maxRecDepth 20000 in
set_option maxHeartbeats 4000000 in
theorem sim_X14_far {z : Mz} {l : Launch} {p1 : Int} {p2 : Int} {h : Mh} {K : Int → Mh → Prop} (hw : wp_X14_far p1 p2 h K) : mCal (XR z) l yX14_far cX14_far 3 (some Jvm.ClassFile.FieldType.int) 3 62 [(2, 0), (0, p1), (0, p2)] h (mKi K) := by
  refine m_entry RX14 rfl (by decide) rfl (fun p e s m args below meth c C hr => ?_)
  show mG _ p l e _ s m args below meth c _ _ 0 [(0, (2, 0)), (1, (0, p1)), (2, (0, p2))] [] h
  unfold wp_X14_far at hw
  refine g_aload_n C dX14_far_0 rfl (by decide) rfl ?_
  refine g_iconst C ⟨by decide, by decide⟩ dX14_far_1 ?_
  refine gp_X14_148 C dX14_far_2 kdR_0 (fun z => z) ?_
  refine g_heap (fun h1 eh1 => ?_)
  replace hw := hw h1 eh1
  refine g_aload_n C dX14_far_5 rfl (by decide) rfl ?_
  refine g_iload_n C dX14_far_6 rfl rfl ?_
  refine g_callVz C [(0, p1)] (sim_X14_isWater hw) k_1561 k_1563 k_71 k_147 k_1564 hdV_X14_isWater rfl rfl (by decide) rfl kdR_0 rfl rfl rfl dX14_far_7 ?_
  intro x1 h2 zb7 hw
  refine g_if_eq C 21 dX14_far_10 rfl hw (fun hw => ?_) (fun hw => ?_)
  · refine g_iconst C ⟨by decide, by decide⟩ dX14_far_21 ?_
    refine g_goto C 58 dX14_far_22 rfl ?_
    exact g_iret C hr dX14_far_58 ⟨_, rfl, hw⟩
  · refine g_aload_n C dX14_far_13 rfl (by decide) rfl ?_
    refine g_iload_n C dX14_far_14 rfl rfl ?_
    refine g_callVz C [(0, p2)] (sim_X14_isWater hw) k_1561 k_1563 k_71 k_147 k_1564 hdV_X14_isWater rfl rfl (by decide) rfl kdR_0 rfl rfl rfl dX14_far_15 ?_
    intro x2 h3 zb15 hw
    refine g_if_ne C 25 dX14_far_18 rfl hw (fun hw => ?_) (fun hw => ?_)
    · refine g_aload_n C dX14_far_25 rfl (by decide) rfl ?_
      refine gw_X14_103 C dX14_far_26 kdR_0 wwR_0_74 ?_
      refine g_bipush C ⟨by decide, by decide⟩ (by decide) dX14_far_29 ?_
      refine g_iload_n C dX14_far_31 rfl rfl ?_
      refine g_imul C dX14_far_32 ?_
      refine g_iload_n C dX14_far_33 rfl rfl ?_
      refine g_iadd C dX14_far_34 ?_
      obtain ⟨⟨b1, b1b⟩, hw⟩ := hw
      refine g_iaload C dX14_far_35 kdR_30 b1 b1b (fun z35 => ?_)
      refine g_sipush C ⟨by decide, by decide⟩ (by decide) dX14_far_36 ?_
      refine g_icmp_ne C 47 dX14_far_39 rfl hw (fun hw => ?_) (fun hw => ?_)
      · refine g_aload_n C dX14_far_47 rfl (by decide) rfl ?_
        refine gw_X14_103 C dX14_far_48 kdR_0 wwR_0_74 ?_
        refine g_bipush C ⟨by decide, by decide⟩ (by decide) dX14_far_51 ?_
        refine g_iload_n C dX14_far_53 rfl rfl ?_
        refine g_imul C dX14_far_54 ?_
        refine g_iload_n C dX14_far_55 rfl rfl ?_
        refine g_iadd C dX14_far_56 ?_
        obtain ⟨⟨b2, b2b⟩, hw⟩ := hw
        refine g_iaload C dX14_far_57 kdR_30 b2 b2b (fun z57 => ?_)
        exact g_iret C hr dX14_far_58 ⟨_, rfl, hw⟩
      · refine g_bipush C ⟨by decide, by decide⟩ (by decide) dX14_far_42 ?_
        refine g_goto C 58 dX14_far_44 rfl ?_
        exact g_iret C hr dX14_far_58 ⟨_, rfl, hw⟩
    · refine g_iconst C ⟨by decide, by decide⟩ dX14_far_21 ?_
      refine g_goto C 58 dX14_far_22 rfl ?_
      exact g_iret C hr dX14_far_58 ⟨_, rfl, hw⟩
set_option maxRecDepth 20000 in
set_option maxHeartbeats 4000000 in
theorem sim_X14_fault {z : Mz} {l : Launch} {p1 : Int} {h : Mh} {K : Int → Mh → Prop} (hw : wp_X14_fault p1 h K) : mCal (XR z) l yX14_fault cX14_fault 2 (some Jvm.ClassFile.FieldType.int) 0 0 [(2, 0), (0, p1)] h (mKi K) := by
  refine m_entry RX14 rfl (by decide) rfl (fun p e s m args below meth c C hr => ?_)
  show mG _ p l e _ s m args below meth c _ _ 0 [(0, (2, 0)), (1, (0, p1))] [] h
  unfold wp_X14_fault at hw
  refine g_aload_n C dX14_fault_0 rfl (by decide) rfl ?_
  refine g_iconst C ⟨by decide, by decide⟩ dX14_fault_1 ?_
  refine gp_X14_148 C dX14_fault_2 kdR_0 (fun z => z) ?_
  refine g_heap (fun h1 eh1 => ?_)
  replace hw := hw h1 eh1
  refine g_iload_n C dX14_fault_5 rfl rfl ?_
  refine g_if_ne C 16 dX14_fault_6 rfl hw (fun hw => ?_) (fun hw => ?_)
  · refine g_iload_n C dX14_fault_16 rfl rfl ?_
    refine g_iconst C ⟨by decide, by decide⟩ dX14_fault_17 ?_
    refine g_icmp_ne C 28 dX14_fault_18 rfl hw (fun hw => ?_) (fun hw => ?_)
    · refine g_iconst C ⟨by decide, by decide⟩ dX14_fault_28 ?_
      exact g_iret C hr dX14_fault_29 ⟨_, rfl, hw⟩
    · refine g_aload_n C dX14_fault_21 rfl (by decide) rfl ?_
      refine gf_X14_16 C dX14_fault_22 kdR_0 (fun z22 => ?_)
      refine g_goto C 29 dX14_fault_25 rfl ?_
      exact g_iret C hr dX14_fault_29 ⟨_, rfl, hw⟩
  · refine g_aload_n C dX14_fault_9 rfl (by decide) rfl ?_
    refine gf_X14_154 C dX14_fault_10 kdR_0 (fun z10 => ?_)
    refine g_goto C 29 dX14_fault_13 rfl ?_
    exact g_iret C hr dX14_fault_29 ⟨_, rfl, hw⟩
set_option maxRecDepth 20000 in
set_option maxHeartbeats 4000000 in
theorem sim_X14_feed {z : Mz} {l : Launch} {p1 : Int} {p2 : Int} {p3 : Int} {p4 : Int} {p5 : Int} {h : Mh} {K : Int → Mh → Prop} (hw : wp_X14_feed p1 p2 p3 p4 p5 h K) : mCal (XR z) l yX14_feed cX14_feed 8 (some Jvm.ClassFile.FieldType.int) 0 0 [(2, 0), (0, p1), (0, p2), (0, p3), (0, p4), (0, p5)] h (mKi K) := by
  refine m_entry RX14 rfl (by decide) rfl (fun p e s m args below meth c C hr => ?_)
  have hQ : ∀ x, Lfp (F_X14_feed p1 p2 p3 p4 p5 K) x → (match x.1, x.2.1 with | 23, [v6] => mG (XR z) p l e { frames := 0, cells := 0, slots := 0, locals := 0 } s m args below meth c 8 (mMQ (XR z) (mKi K) below args s) 23 [(6, (0, v6)), (0, (2, 0)), (1, (0, p1)), (2, (0, p2)), (3, (0, p3)), (4, (0, p4)), (5, (0, p5))] [] x.2.2 | 76, [v6, s0] => mG (XR z) p l e { frames := 0, cells := 0, slots := 0, locals := 0 } s m args below meth c 8 (mMQ (XR z) (mKi K) below args s) 76 [(6, (0, v6)), (0, (2, 0)), (1, (0, p1)), (2, (0, p2)), (3, (0, p3)), (4, (0, p4)), (5, (0, p5))] [(0, s0)] x.2.2 | _, _ => True) := by
    intro x hx
    refine Lfp.ind (fun x => (match x.1, x.2.1 with | 23, [v6] => mG (XR z) p l e { frames := 0, cells := 0, slots := 0, locals := 0 } s m args below meth c 8 (mMQ (XR z) (mKi K) below args s) 23 [(6, (0, v6)), (0, (2, 0)), (1, (0, p1)), (2, (0, p2)), (3, (0, p3)), (4, (0, p4)), (5, (0, p5))] [] x.2.2 | 76, [v6, s0] => mG (XR z) p l e { frames := 0, cells := 0, slots := 0, locals := 0 } s m args below meth c 8 (mMQ (XR z) (mKi K) below args s) 76 [(6, (0, v6)), (0, (2, 0)), (1, (0, p1)), (2, (0, p2)), (3, (0, p3)), (4, (0, p4)), (5, (0, p5))] [(0, s0)] x.2.2 | _, _ => True)) ?_ hx
    clear hx x
    intro Z x hQ hw
    rcases hw with ⟨v6, h, rfl, hw⟩ | ⟨v6, s0, h, rfl, hw⟩
    · show mG (XR z) p l e { frames := 0, cells := 0, slots := 0, locals := 0 } s m args below meth c 8 (mMQ (XR z) (mKi K) below args s) 23 [(6, (0, v6)), (0, (2, 0)), (1, (0, p1)), (2, (0, p2)), (3, (0, p3)), (4, (0, p4)), (5, (0, p5))] [] h
      unfold B_X14_feed_23 at hw
      refine g_iload C dX14_feed_23 rfl ?_
      refine g_bipush C ⟨by decide, by decide⟩ (by decide) dX14_feed_25 ?_
      refine g_icmp_ge C 113 dX14_feed_27 rfl hw (fun hw => ?_) (fun hw => ?_)
      · refine g_aload_n C dX14_feed_113 rfl (by decide) rfl ?_
        refine g_dup C (by show ¬ (2 : Nat) = 1; decide) dX14_feed_114 ?_
        refine gf_X14_151 C dX14_feed_115 kdR_0 (fun z115 => ?_)
        refine g_bipush C ⟨by decide, by decide⟩ (by decide) dX14_feed_118 ?_
        refine g_iadd C dX14_feed_120 ?_
        refine gp_X14_151 C dX14_feed_121 kdR_0 (fun z => z) ?_
        refine g_heap (fun h1 eh1 => ?_)
        replace hw := hw h1 eh1
        refine g_aload_n C dX14_feed_124 rfl (by decide) rfl ?_
        refine gf_X14_151 C dX14_feed_125 kdR_0 (fun z125 => ?_)
        exact g_iret C hr dX14_feed_128 ⟨_, rfl, hw⟩
      · refine g_iload C dX14_feed_30 rfl ?_
        refine g_iconst C ⟨by decide, by decide⟩ dX14_feed_32 ?_
        refine g_icmp_ge C 40 dX14_feed_33 rfl hw (fun hw => ?_) (fun hw => ?_)
        · refine g_iload C dX14_feed_40 rfl ?_
          refine g_bipush C ⟨by decide, by decide⟩ (by decide) dX14_feed_42 ?_
          refine g_icmp_ge C 51 dX14_feed_44 rfl hw (fun hw => ?_) (fun hw => ?_)
          · refine g_iload C dX14_feed_51 rfl ?_
            refine g_bipush C ⟨by decide, by decide⟩ (by decide) dX14_feed_53 ?_
            refine g_icmp_ge C 62 dX14_feed_55 rfl hw (fun hw => ?_) (fun hw => ?_)
            · refine g_iload C dX14_feed_62 rfl ?_
              refine g_bipush C ⟨by decide, by decide⟩ (by decide) dX14_feed_64 ?_
              refine g_icmp_ge C 74 dX14_feed_66 rfl hw (fun hw => ?_) (fun hw => ?_)
              · refine g_iload C dX14_feed_74 rfl ?_
                exact g_sub [6, 0, 1, 2, 3, 4, 5] rfl (hQ _ hw)
              · refine g_iload C dX14_feed_69 rfl ?_
                refine g_goto C 76 dX14_feed_71 rfl ?_
                exact g_sub [6, 0, 1, 2, 3, 4, 5] rfl (hQ _ hw)
            · refine g_iload_n C dX14_feed_58 rfl rfl ?_
              refine g_goto C 76 dX14_feed_59 rfl ?_
              exact g_sub [6, 0, 1, 2, 3, 4, 5] rfl (hQ _ hw)
          · refine g_iload_n C dX14_feed_47 rfl rfl ?_
            refine g_goto C 76 dX14_feed_48 rfl ?_
            exact g_sub [6, 0, 1, 2, 3, 4, 5] rfl (hQ _ hw)
        · refine g_iload_n C dX14_feed_36 rfl rfl ?_
          refine g_goto C 76 dX14_feed_37 rfl ?_
          exact g_sub [6, 0, 1, 2, 3, 4, 5] rfl (hQ _ hw)
    · show mG (XR z) p l e { frames := 0, cells := 0, slots := 0, locals := 0 } s m args below meth c 8 (mMQ (XR z) (mKi K) below args s) 76 [(6, (0, v6)), (0, (2, 0)), (1, (0, p1)), (2, (0, p2)), (3, (0, p3)), (4, (0, p4)), (5, (0, p5))] [(0, s0)] h
      unfold B_X14_feed_76 at hw
      refine g_istore C dX14_feed_76 (by decide) ?_
      refine g_aload_n C dX14_feed_78 rfl (by decide) rfl ?_
      refine gw_X14_7 C dX14_feed_79 kdR_0 wwR_0_0 ?_
      refine g_aload_n C dX14_feed_82 rfl (by decide) rfl ?_
      refine gf_X14_151 C dX14_feed_83 kdR_0 (fun z83 => ?_)
      refine g_iload C dX14_feed_86 rfl ?_
      refine g_iadd C dX14_feed_88 ?_
      refine g_iload C dX14_feed_89 rfl ?_
      refine g_bipush C ⟨by decide, by decide⟩ (by decide) dX14_feed_91 ?_
      refine g_bipush C ⟨by decide, by decide⟩ (by decide) dX14_feed_93 ?_
      refine g_iload C dX14_feed_95 rfl ?_
      refine g_iconst C ⟨by decide, by decide⟩ dX14_feed_97 ?_
      refine g_irem C (by decide) dX14_feed_98 ?_
      refine g_imul C dX14_feed_99 ?_
      refine g_isub C dX14_feed_100 ?_
      refine g_ishr C dX14_feed_101 ?_
      refine g_sipush C ⟨by decide, by decide⟩ (by decide) dX14_feed_102 ?_
      refine g_iand C dX14_feed_105 ?_
      obtain ⟨⟨b1, b1b⟩, hw⟩ := hw
      refine g_iastore C dX14_feed_106 kdR_1 b1 b1b (fun z => z) ?_
      refine g_heap (fun h1 eh1 => ?_)
      replace hw := hw h1 eh1
      refine g_iincN C dX14_feed_107 rfl (by decide) (fun x1 ex1 => ?_)
      replace hw := hw x1 ex1
      refine g_goto C 23 dX14_feed_110 rfl ?_
      exact g_sub [6, 0, 1, 2, 3, 4, 5] rfl (hQ _ hw)
  show mG _ p l e _ s m args below meth c _ _ 0 [(0, (2, 0)), (1, (0, p1)), (2, (0, p2)), (3, (0, p3)), (4, (0, p4)), (5, (0, p5))] [] h
  unfold wp_X14_feed at hw
  refine g_aload_n C dX14_feed_0 rfl (by decide) rfl ?_
  refine g_iconst C ⟨by decide, by decide⟩ dX14_feed_1 ?_
  refine gp_X14_148 C dX14_feed_2 kdR_0 (fun z => z) ?_
  refine g_heap (fun h1 eh1 => ?_)
  replace hw := hw h1 eh1
  refine g_aload_n C dX14_feed_5 rfl (by decide) rfl ?_
  refine gf_X14_151 C dX14_feed_6 kdR_0 (fun z6 => ?_)
  refine g_bipush C ⟨by decide, by decide⟩ (by decide) dX14_feed_9 ?_
  refine g_iadd C dX14_feed_11 ?_
  refine g_sipush C ⟨by decide, by decide⟩ (by decide) dX14_feed_12 ?_
  refine g_icmp_le C 20 dX14_feed_15 rfl hw (fun hw => ?_) (fun hw => ?_)
  · refine g_iconst C ⟨by decide, by decide⟩ dX14_feed_20 ?_
    refine g_istore C dX14_feed_21 (by decide) ?_
    exact g_sub [6, 0, 1, 2, 3, 4, 5] rfl (hQ _ hw)
  · refine g_iconst C ⟨by decide, by decide⟩ dX14_feed_18 ?_
    exact g_iret C hr dX14_feed_19 ⟨_, rfl, hw⟩
set_option maxRecDepth 20000 in
set_option maxHeartbeats 4000000 in
theorem sim_X14_first {z : Mz} {l : Launch} {p1 : Int} {h : Mh} {K : Int → Mh → Prop} (hw : wp_X14_first p1 h K) : mCal (XR z) l yX14_first cX14_first 6 (some Jvm.ClassFile.FieldType.int) 6 155 [(2, 0), (0, p1)] h (mKi K) := by
  refine m_entry RX14 rfl (by decide) rfl (fun p e s m args below meth c C hr => ?_)
  have hQ : ∀ x, Lfp (F_X14_first p1 K) x → (match x.1, x.2.1 with | 24, [v2, v3, v4] => mG (XR z) p l e { frames := 6, cells := 0, slots := 0, locals := 155 } s m args below meth c 6 (mMQ (XR z) (mKi K) below args s) 24 [(2, (0, v2)), (3, (0, v3)), (4, (0, v4)), (0, (2, 0)), (1, (0, p1))] [] x.2.2 | _, _ => True) := by
    intro x hx
    refine Lfp.ind (fun x => (match x.1, x.2.1 with | 24, [v2, v3, v4] => mG (XR z) p l e { frames := 6, cells := 0, slots := 0, locals := 155 } s m args below meth c 6 (mMQ (XR z) (mKi K) below args s) 24 [(2, (0, v2)), (3, (0, v3)), (4, (0, v4)), (0, (2, 0)), (1, (0, p1))] [] x.2.2 | _, _ => True)) ?_ hx
    clear hx x
    intro Z x hQ hw
    rcases hw with ⟨v2, v3, v4, h, rfl, hw⟩
    · show mG (XR z) p l e { frames := 6, cells := 0, slots := 0, locals := 155 } s m args below meth c 6 (mMQ (XR z) (mKi K) below args s) 24 [(2, (0, v2)), (3, (0, v3)), (4, (0, v4)), (0, (2, 0)), (1, (0, p1))] [] h
      unfold B_X14_first_24 at hw
      refine g_iload C dX14_first_24 rfl ?_
      refine g_aload_n C dX14_first_26 rfl (by decide) rfl ?_
      refine gf_X14_267 C dX14_first_27 kdR_0 (fun z27 => ?_)
      refine g_icmp_ge C 71 dX14_first_30 rfl hw (fun hw => ?_) (fun hw => ?_)
      · refine g_iload_n C dX14_first_71 rfl rfl ?_
        exact g_iret C hr dX14_first_72 ⟨_, rfl, hw⟩
      · refine g_aload_n C dX14_first_33 rfl (by decide) rfl ?_
        refine g_iload C dX14_first_34 rfl ?_
        refine g_iload_n C dX14_first_36 rfl rfl ?_
        refine g_iload_n C dX14_first_37 rfl rfl ?_
        refine g_iconst C ⟨by decide, by decide⟩ dX14_first_38 ?_
        refine g_isub C dX14_first_39 ?_
        refine g_callVi C [(0, v4), (0, p1), (0, w32 (v3 - 1))] (sim_X14_comesTo hw) k_2137 k_2139 k_119 k_147 k_2140 hdV_X14_comesTo rfl rfl (by decide) rfl kdR_0 rfl rfl rfl dX14_first_40 ?_
        intro x1 h1 hw
        refine g_istore C dX14_first_43 (by decide) ?_
        refine g_iload C dX14_first_45 rfl ?_
        refine g_if_lt C 65 dX14_first_47 rfl hw (fun hw => ?_) (fun hw => ?_)
        · refine g_iincN C dX14_first_65 rfl (by decide) (fun x2 ex2 => ?_)
          replace hw := hw x2 ex2
          refine g_goto C 24 dX14_first_68 rfl ?_
          exact g_sub [2, 3, 4, 0, 1] rfl (hQ _ hw)
        · refine g_iload C dX14_first_50 rfl ?_
          refine g_iload_n C dX14_first_52 rfl rfl ?_
          refine g_icmp_lt C 59 dX14_first_53 rfl hw (fun hw => ?_) (fun hw => ?_)
          · refine g_iload C dX14_first_59 rfl ?_
            refine g_istore_n C dX14_first_61 rfl (by decide) ?_
            refine g_iload C dX14_first_62 rfl ?_
            refine g_istore_n C dX14_first_64 rfl (by decide) ?_
            refine g_iincN C dX14_first_65 rfl (by decide) (fun x3 ex3 => ?_)
            replace hw := hw x3 ex3
            refine g_goto C 24 dX14_first_68 rfl ?_
            exact g_sub [2, 3, 4, 0, 1] rfl (hQ _ hw)
          · refine g_goto C 65 dX14_first_56 rfl ?_
            refine g_iincN C dX14_first_65 rfl (by decide) (fun x4 ex4 => ?_)
            replace hw := hw x4 ex4
            refine g_goto C 24 dX14_first_68 rfl ?_
            exact g_sub [2, 3, 4, 0, 1] rfl (hQ _ hw)
  show mG _ p l e _ s m args below meth c _ _ 0 [(0, (2, 0)), (1, (0, p1))] [] h
  unfold wp_X14_first at hw
  refine g_aload_n C dX14_first_0 rfl (by decide) rfl ?_
  refine g_iconst C ⟨by decide, by decide⟩ dX14_first_1 ?_
  refine gp_X14_148 C dX14_first_2 kdR_0 (fun z => z) ?_
  refine g_heap (fun h1 eh1 => ?_)
  replace hw := hw h1 eh1
  refine g_aload_n C dX14_first_5 rfl (by decide) rfl ?_
  refine g_iload_n C dX14_first_6 rfl rfl ?_
  refine g_callVz C [(0, p1)] (sim_X14_isCell hw) k_1565 k_1567 k_72 k_147 k_1568 hdV_X14_isCell rfl rfl (by decide) rfl kdR_0 rfl rfl rfl dX14_first_7 ?_
  intro x1 h2 zb7 hw
  refine g_if_ne C 15 dX14_first_10 rfl hw (fun hw => ?_) (fun hw => ?_)
  · refine g_bipush C ⟨by decide, by decide⟩ (by decide) dX14_first_15 ?_
    refine g_istore_n C dX14_first_17 rfl (by decide) ?_
    refine g_bipush C ⟨by decide, by decide⟩ (by decide) dX14_first_18 ?_
    refine g_istore_n C dX14_first_20 rfl (by decide) ?_
    refine g_iconst C ⟨by decide, by decide⟩ dX14_first_21 ?_
    refine g_istore C dX14_first_22 (by decide) ?_
    exact g_sub [2, 3, 4, 0, 1] rfl (hQ _ hw)
  · refine g_iconst C ⟨by decide, by decide⟩ dX14_first_13 ?_
    exact g_iret C hr dX14_first_14 ⟨_, rfl, hw⟩
set_option maxRecDepth 20000 in
set_option maxHeartbeats 4000000 in
theorem sim_X14_isFit {z : Mz} {l : Launch} {h : Mh} {K : Int → Mh → Prop} (hw : wp_X14_isFit h K) : mCal (XR z) l yX14_isFit cX14_isFit 2 (some Jvm.ClassFile.FieldType.boolean) 3 76 [(2, 0)] h (mKz K) := by
  refine m_entry RX14 rfl (by decide) rfl (fun p e s m args below meth c C hr => ?_)
  have hQ : ∀ x, Lfp (F_X14_isFit K) x → (match x.1, x.2.1 with | 2, [v1] => mG (XR z) p l e { frames := 3, cells := 0, slots := 0, locals := 76 } s m args below meth c 2 (mMQ (XR z) (mKz K) below args s) 2 [(1, (0, v1)), (0, (2, 0))] [] x.2.2 | _, _ => True) := by
    intro x hx
    refine Lfp.ind (fun x => (match x.1, x.2.1 with | 2, [v1] => mG (XR z) p l e { frames := 3, cells := 0, slots := 0, locals := 76 } s m args below meth c 2 (mMQ (XR z) (mKz K) below args s) 2 [(1, (0, v1)), (0, (2, 0))] [] x.2.2 | _, _ => True)) ?_ hx
    clear hx x
    intro Z x hQ hw
    rcases hw with ⟨v1, h, rfl, hw⟩
    · show mG (XR z) p l e { frames := 3, cells := 0, slots := 0, locals := 76 } s m args below meth c 2 (mMQ (XR z) (mKz K) below args s) 2 [(1, (0, v1)), (0, (2, 0))] [] h
      unfold B_X14_isFit_2 at hw
      refine g_iload_n C dX14_isFit_2 rfl rfl ?_
      refine g_aload_n C dX14_isFit_3 rfl (by decide) rfl ?_
      refine g_callVi C [] (sim_X14_knownBy hw) k_2193 k_2195 k_124 k_147 k_2196 hdV_X14_knownBy rfl rfl (by decide) rfl kdR_0 rfl rfl rfl dX14_isFit_4 ?_
      intro x1 h1 hw
      refine g_icmp_ge C 67 dX14_isFit_7 rfl hw (fun hw => ?_) (fun hw => ?_)
      · refine g_iconst C ⟨by decide, by decide⟩ dX14_isFit_67 ?_
        exact g_zret C hr (Or.inr rfl) dX14_isFit_68 ⟨_, rfl, (Or.inr rfl), hw⟩
      · refine g_aload_n C dX14_isFit_10 rfl (by decide) rfl ?_
        refine gw_X14_124 C dX14_isFit_11 kdR_0 wwR_0_87 ?_
        refine g_iload_n C dX14_isFit_14 rfl rfl ?_
        obtain ⟨⟨b1, b1b⟩, hw⟩ := hw
        refine g_zaload C dX14_isFit_15 kdR_35 b1 b1b (fun z15 => ?_)
        refine g_if_eq C 61 dX14_isFit_16 rfl hw (fun hw => ?_) (fun hw => ?_)
        · refine g_iincN C dX14_isFit_61 rfl (by decide) (fun x2 ex2 => ?_)
          replace hw := hw x2 ex2
          refine g_goto C 2 dX14_isFit_64 rfl ?_
          exact g_sub [1, 0] rfl (hQ _ hw)
        · refine g_aload_n C dX14_isFit_19 rfl (by decide) rfl ?_
          refine g_aload_n C dX14_isFit_20 rfl (by decide) rfl ?_
          refine gw_X14_54 C dX14_isFit_21 kdR_0 wwR_0_50 ?_
          refine g_aload_n C dX14_isFit_24 rfl (by decide) rfl ?_
          refine gw_X14_121 C dX14_isFit_25 kdR_0 wwR_0_86 ?_
          refine g_iconst C ⟨by decide, by decide⟩ dX14_isFit_28 ?_
          refine g_iload_n C dX14_isFit_29 rfl rfl ?_
          refine g_imul C dX14_isFit_30 ?_
          obtain ⟨⟨b2, b2b⟩, hw⟩ := hw
          refine g_iaload C dX14_isFit_31 kdR_34 b2 b2b (fun z31 => ?_)
          obtain ⟨⟨b3, b3b⟩, hw⟩ := hw
          refine g_iaload C dX14_isFit_32 kdR_14 b3 b3b (fun z32 => ?_)
          refine g_aload_n C dX14_isFit_33 rfl (by decide) rfl ?_
          refine gw_X14_121 C dX14_isFit_34 kdR_0 wwR_0_86 ?_
          refine g_iconst C ⟨by decide, by decide⟩ dX14_isFit_37 ?_
          refine g_iload_n C dX14_isFit_38 rfl rfl ?_
          refine g_imul C dX14_isFit_39 ?_
          refine g_iconst C ⟨by decide, by decide⟩ dX14_isFit_40 ?_
          refine g_iadd C dX14_isFit_41 ?_
          obtain ⟨⟨b4, b4b⟩, hw⟩ := hw
          refine g_iaload C dX14_isFit_42 kdR_34 b4 b4b (fun z42 => ?_)
          refine g_callVi C [(0, (h1 14 (h1 34 (w32 (3 * v1))))), (0, (h1 34 (w32 (w32 (3 * v1) + 1))))] (sim_X14_riseIn hw) k_2066 k_2068 k_108 k_147 k_2069 hdV_X14_riseIn rfl rfl (by decide) rfl kdR_0 rfl rfl rfl dX14_isFit_43 ?_
          intro x3 h2 hw
          refine g_aload_n C dX14_isFit_46 rfl (by decide) rfl ?_
          refine gw_X14_121 C dX14_isFit_47 kdR_0 wwR_0_86 ?_
          refine g_iconst C ⟨by decide, by decide⟩ dX14_isFit_50 ?_
          refine g_iload_n C dX14_isFit_51 rfl rfl ?_
          refine g_imul C dX14_isFit_52 ?_
          refine g_iconst C ⟨by decide, by decide⟩ dX14_isFit_53 ?_
          refine g_iadd C dX14_isFit_54 ?_
          obtain ⟨⟨b5, b5b⟩, hw⟩ := hw
          refine g_iaload C dX14_isFit_55 kdR_34 b5 b5b (fun z55 => ?_)
          refine g_icmp_eq C 61 dX14_isFit_56 rfl hw (fun hw => ?_) (fun hw => ?_)
          · refine g_iincN C dX14_isFit_61 rfl (by decide) (fun x4 ex4 => ?_)
            replace hw := hw x4 ex4
            refine g_goto C 2 dX14_isFit_64 rfl ?_
            exact g_sub [1, 0] rfl (hQ _ hw)
          · refine g_iconst C ⟨by decide, by decide⟩ dX14_isFit_59 ?_
            exact g_zret C hr (Or.inl rfl) dX14_isFit_60 ⟨_, rfl, (Or.inl rfl), hw⟩
  show mG _ p l e _ s m args below meth c _ _ 0 [(0, (2, 0))] [] h
  unfold wp_X14_isFit at hw
  refine g_iconst C ⟨by decide, by decide⟩ dX14_isFit_0 ?_
  refine g_istore_n C dX14_isFit_1 rfl (by decide) ?_
  exact g_sub [1, 0] rfl (hQ _ hw)
set_option maxRecDepth 20000 in
set_option maxHeartbeats 4000000 in
theorem sim_X14_layCounts {z : Mz} {l : Launch} {h : Mh} {K : Mh → Prop} (hw : wp_X14_layCounts h K) : mCal (XR z) l yX14_layCounts cX14_layCounts 2 none 1 20 [(2, 0)] h (mKv K) := by
  refine m_entry RX14 rfl (by decide) rfl (fun p e s m args below meth c C hr => ?_)
  have hQ : ∀ x, Lfp (F_X14_layCounts K) x → (match x.1, x.2.1 with | 2, [v1] => mG (XR z) p l e { frames := 1, cells := 0, slots := 0, locals := 20 } s m args below meth c 2 (mMQ (XR z) (mKv K) below args s) 2 [(1, (0, v1)), (0, (2, 0))] [] x.2.2 | 30, [v1] => mG (XR z) p l e { frames := 1, cells := 0, slots := 0, locals := 20 } s m args below meth c 2 (mMQ (XR z) (mKv K) below args s) 30 [(1, (0, v1)), (0, (2, 0))] [] x.2.2 | 78, [v1] => mG (XR z) p l e { frames := 1, cells := 0, slots := 0, locals := 20 } s m args below meth c 2 (mMQ (XR z) (mKv K) below args s) 78 [(1, (0, v1)), (0, (2, 0))] [] x.2.2 | _, _ => True) := by
    intro x hx
    refine Lfp.ind (fun x => (match x.1, x.2.1 with | 2, [v1] => mG (XR z) p l e { frames := 1, cells := 0, slots := 0, locals := 20 } s m args below meth c 2 (mMQ (XR z) (mKv K) below args s) 2 [(1, (0, v1)), (0, (2, 0))] [] x.2.2 | 30, [v1] => mG (XR z) p l e { frames := 1, cells := 0, slots := 0, locals := 20 } s m args below meth c 2 (mMQ (XR z) (mKv K) below args s) 30 [(1, (0, v1)), (0, (2, 0))] [] x.2.2 | 78, [v1] => mG (XR z) p l e { frames := 1, cells := 0, slots := 0, locals := 20 } s m args below meth c 2 (mMQ (XR z) (mKv K) below args s) 78 [(1, (0, v1)), (0, (2, 0))] [] x.2.2 | _, _ => True)) ?_ hx
    clear hx x
    intro Z x hQ hw
    rcases hw with ⟨v1, h, rfl, hw⟩ | ⟨v1, h, rfl, hw⟩ | ⟨v1, h, rfl, hw⟩
    · show mG (XR z) p l e { frames := 1, cells := 0, slots := 0, locals := 20 } s m args below meth c 2 (mMQ (XR z) (mKv K) below args s) 2 [(1, (0, v1)), (0, (2, 0))] [] h
      unfold B_X14_layCounts_2 at hw
      refine g_iload_n C dX14_layCounts_2 rfl rfl ?_
      refine g_aload_n C dX14_layCounts_3 rfl (by decide) rfl ?_
      refine g_callVi C [] (sim_X14_knownBy hw) k_2193 k_2195 k_124 k_147 k_2196 hdV_X14_knownBy rfl rfl (by decide) rfl kdR_0 rfl rfl rfl dX14_layCounts_4 ?_
      intro x1 h1 hw
      refine g_icmp_ge C 23 dX14_layCounts_7 rfl hw (fun hw => ?_) (fun hw => ?_)
      · refine g_aload_n C dX14_layCounts_23 rfl (by decide) rfl ?_
        refine g_callVi C [] (sim_X14_knownBy hw) k_2193 k_2195 k_124 k_147 k_2196 hdV_X14_knownBy rfl rfl (by decide) rfl kdR_0 rfl rfl rfl dX14_layCounts_24 ?_
        intro x2 h2 hw
        refine g_iconst C ⟨by decide, by decide⟩ dX14_layCounts_27 ?_
        refine g_isub C dX14_layCounts_28 ?_
        refine g_topi (fun x3 ex3 => ?_)
        replace hw := hw x3 ex3
        refine g_istore_n C dX14_layCounts_29 rfl (by decide) ?_
        exact g_sub [1, 0] rfl (hQ _ hw)
      · refine g_aload_n C dX14_layCounts_10 rfl (by decide) rfl ?_
        refine gw_X14_124 C dX14_layCounts_11 kdR_0 wwR_0_87 ?_
        refine g_iload_n C dX14_layCounts_14 rfl rfl ?_
        refine g_iconst C ⟨by decide, by decide⟩ dX14_layCounts_15 ?_
        obtain ⟨⟨b1, b1b⟩, hw⟩ := hw
        refine g_zastore C dX14_layCounts_16 kdR_35 b1 b1b (fun _ => (Or.inr rfl)) ?_
        refine g_heap (fun h3 eh3 => ?_)
        replace hw := hw h3 eh3
        refine g_iincN C dX14_layCounts_17 rfl (by decide) (fun x4 ex4 => ?_)
        replace hw := hw x4 ex4
        refine g_goto C 2 dX14_layCounts_20 rfl ?_
        exact g_sub [1, 0] rfl (hQ _ hw)
    · show mG (XR z) p l e { frames := 1, cells := 0, slots := 0, locals := 20 } s m args below meth c 2 (mMQ (XR z) (mKv K) below args s) 30 [(1, (0, v1)), (0, (2, 0))] [] h
      unfold B_X14_layCounts_30 at hw
      refine g_iload_n C dX14_layCounts_30 rfl rfl ?_
      refine g_if_lt C 76 dX14_layCounts_31 rfl hw (fun hw => ?_) (fun hw => ?_)
      · refine g_iconst C ⟨by decide, by decide⟩ dX14_layCounts_76 ?_
        refine g_istore_n C dX14_layCounts_77 rfl (by decide) ?_
        exact g_sub [1, 0] rfl (hQ _ hw)
      · refine g_aload_n C dX14_layCounts_34 rfl (by decide) rfl ?_
        refine gw_X14_124 C dX14_layCounts_35 kdR_0 wwR_0_87 ?_
        refine g_iload_n C dX14_layCounts_38 rfl rfl ?_
        obtain ⟨⟨b2, b2b⟩, hw⟩ := hw
        refine g_zaload C dX14_layCounts_39 kdR_35 b2 b2b (fun z39 => ?_)
        refine g_if_eq C 70 dX14_layCounts_40 rfl hw (fun hw => ?_) (fun hw => ?_)
        · refine g_iincN C dX14_layCounts_70 rfl (by decide) (fun x1 ex1 => ?_)
          replace hw := hw x1 ex1
          refine g_goto C 30 dX14_layCounts_73 rfl ?_
          exact g_sub [1, 0] rfl (hQ _ hw)
        · refine g_aload_n C dX14_layCounts_43 rfl (by decide) rfl ?_
          refine gw_X14_121 C dX14_layCounts_44 kdR_0 wwR_0_86 ?_
          refine g_iconst C ⟨by decide, by decide⟩ dX14_layCounts_47 ?_
          refine g_iload_n C dX14_layCounts_48 rfl rfl ?_
          refine g_imul C dX14_layCounts_49 ?_
          obtain ⟨⟨b3, b3b⟩, hw⟩ := hw
          refine g_iaload C dX14_layCounts_50 kdR_34 b3 b3b (fun z50 => ?_)
          refine g_if_ge C 70 dX14_layCounts_51 rfl hw (fun hw => ?_) (fun hw => ?_)
          · refine g_iincN C dX14_layCounts_70 rfl (by decide) (fun x2 ex2 => ?_)
            replace hw := hw x2 ex2
            refine g_goto C 30 dX14_layCounts_73 rfl ?_
            exact g_sub [1, 0] rfl (hQ _ hw)
          · refine g_aload_n C dX14_layCounts_54 rfl (by decide) rfl ?_
            refine gw_X14_124 C dX14_layCounts_55 kdR_0 wwR_0_87 ?_
            refine g_aload_n C dX14_layCounts_58 rfl (by decide) rfl ?_
            refine gw_X14_121 C dX14_layCounts_59 kdR_0 wwR_0_86 ?_
            refine g_iconst C ⟨by decide, by decide⟩ dX14_layCounts_62 ?_
            refine g_iload_n C dX14_layCounts_63 rfl rfl ?_
            refine g_imul C dX14_layCounts_64 ?_
            refine g_iconst C ⟨by decide, by decide⟩ dX14_layCounts_65 ?_
            refine g_iadd C dX14_layCounts_66 ?_
            obtain ⟨⟨b4, b4b⟩, hw⟩ := hw
            refine g_iaload C dX14_layCounts_67 kdR_34 b4 b4b (fun z67 => ?_)
            refine g_iconst C ⟨by decide, by decide⟩ dX14_layCounts_68 ?_
            obtain ⟨⟨b5, b5b⟩, hw⟩ := hw
            refine g_zastore C dX14_layCounts_69 kdR_35 b5 b5b (fun _ => (Or.inl rfl)) ?_
            refine g_heap (fun h1 eh1 => ?_)
            replace hw := hw h1 eh1
            refine g_iincN C dX14_layCounts_70 rfl (by decide) (fun x3 ex3 => ?_)
            replace hw := hw x3 ex3
            refine g_goto C 30 dX14_layCounts_73 rfl ?_
            exact g_sub [1, 0] rfl (hQ _ hw)
    · show mG (XR z) p l e { frames := 1, cells := 0, slots := 0, locals := 20 } s m args below meth c 2 (mMQ (XR z) (mKv K) below args s) 78 [(1, (0, v1)), (0, (2, 0))] [] h
      unfold B_X14_layCounts_78 at hw
      refine g_iload_n C dX14_layCounts_78 rfl rfl ?_
      refine g_aload_n C dX14_layCounts_79 rfl (by decide) rfl ?_
      refine g_callVi C [] (sim_X14_knownBy hw) k_2193 k_2195 k_124 k_147 k_2196 hdV_X14_knownBy rfl rfl (by decide) rfl kdR_0 rfl rfl rfl dX14_layCounts_80 ?_
      intro x1 h1 hw
      refine g_icmp_ge C 123 dX14_layCounts_83 rfl hw (fun hw => ?_) (fun hw => ?_)
      · exact g_vret C hr dX14_layCounts_123 ⟨rfl, hw⟩
      · refine g_aload_n C dX14_layCounts_86 rfl (by decide) rfl ?_
        refine gw_X14_124 C dX14_layCounts_87 kdR_0 wwR_0_87 ?_
        refine g_iload_n C dX14_layCounts_90 rfl rfl ?_
        refine g_aload_n C dX14_layCounts_91 rfl (by decide) rfl ?_
        refine gw_X14_124 C dX14_layCounts_92 kdR_0 wwR_0_87 ?_
        refine g_iload_n C dX14_layCounts_95 rfl rfl ?_
        obtain ⟨⟨b6, b6b⟩, hw⟩ := hw
        refine g_zaload C dX14_layCounts_96 kdR_35 b6 b6b (fun z96 => ?_)
        refine g_if_eq C 115 dX14_layCounts_97 rfl hw (fun hw => ?_) (fun hw => ?_)
        · refine g_iconst C ⟨by decide, by decide⟩ dX14_layCounts_115 ?_
          obtain ⟨⟨b7, b7b⟩, hw⟩ := hw
          refine g_zastore C dX14_layCounts_116 kdR_35 b7 b7b (fun _ => (Or.inl rfl)) ?_
          refine g_heap (fun h2 eh2 => ?_)
          replace hw := hw h2 eh2
          refine g_iincN C dX14_layCounts_117 rfl (by decide) (fun x2 ex2 => ?_)
          replace hw := hw x2 ex2
          refine g_goto C 78 dX14_layCounts_120 rfl ?_
          exact g_sub [1, 0] rfl (hQ _ hw)
        · refine g_aload_n C dX14_layCounts_100 rfl (by decide) rfl ?_
          refine gw_X14_121 C dX14_layCounts_101 kdR_0 wwR_0_86 ?_
          refine g_iconst C ⟨by decide, by decide⟩ dX14_layCounts_104 ?_
          refine g_iload_n C dX14_layCounts_105 rfl rfl ?_
          refine g_imul C dX14_layCounts_106 ?_
          obtain ⟨⟨b8, b8b⟩, hw⟩ := hw
          refine g_iaload C dX14_layCounts_107 kdR_34 b8 b8b (fun z107 => ?_)
          refine g_if_lt C 115 dX14_layCounts_108 rfl hw (fun hw => ?_) (fun hw => ?_)
          · refine g_iconst C ⟨by decide, by decide⟩ dX14_layCounts_115 ?_
            obtain ⟨⟨b9, b9b⟩, hw⟩ := hw
            refine g_zastore C dX14_layCounts_116 kdR_35 b9 b9b (fun _ => (Or.inl rfl)) ?_
            refine g_heap (fun h3 eh3 => ?_)
            replace hw := hw h3 eh3
            refine g_iincN C dX14_layCounts_117 rfl (by decide) (fun x3 ex3 => ?_)
            replace hw := hw x3 ex3
            refine g_goto C 78 dX14_layCounts_120 rfl ?_
            exact g_sub [1, 0] rfl (hQ _ hw)
          · refine g_iconst C ⟨by decide, by decide⟩ dX14_layCounts_111 ?_
            refine g_goto C 116 dX14_layCounts_112 rfl ?_
            obtain ⟨⟨b10, b10b⟩, hw⟩ := hw
            refine g_zastore C dX14_layCounts_116 kdR_35 b10 b10b (fun _ => (Or.inr rfl)) ?_
            refine g_heap (fun h4 eh4 => ?_)
            replace hw := hw h4 eh4
            refine g_iincN C dX14_layCounts_117 rfl (by decide) (fun x4 ex4 => ?_)
            replace hw := hw x4 ex4
            refine g_goto C 78 dX14_layCounts_120 rfl ?_
            exact g_sub [1, 0] rfl (hQ _ hw)
  show mG _ p l e _ s m args below meth c _ _ 0 [(0, (2, 0))] [] h
  unfold wp_X14_layCounts at hw
  refine g_iconst C ⟨by decide, by decide⟩ dX14_layCounts_0 ?_
  refine g_istore_n C dX14_layCounts_1 rfl (by decide) ?_
  exact g_sub [1, 0] rfl (hQ _ hw)
set_option maxRecDepth 20000 in
set_option maxHeartbeats 4000000 in
theorem sim_X14_plainShores {z : Mz} {l : Launch} {h : Mh} {K : Mh → Prop} (hw : wp_X14_plainShores h K) : mCal (XR z) l yX14_plainShores cX14_plainShores 2 none 0 0 [(2, 0)] h (mKv K) := by
  refine m_entry RX14 rfl (by decide) rfl (fun p e s m args below meth c C hr => ?_)
  have hQ : ∀ x, Lfp (F_X14_plainShores K) x → (match x.1, x.2.1 with | 10, [v1] => mG (XR z) p l e { frames := 0, cells := 0, slots := 0, locals := 0 } s m args below meth c 2 (mMQ (XR z) (mKv K) below args s) 10 [(1, (0, v1)), (0, (2, 0))] [] x.2.2 | _, _ => True) := by
    intro x hx
    refine Lfp.ind (fun x => (match x.1, x.2.1 with | 10, [v1] => mG (XR z) p l e { frames := 0, cells := 0, slots := 0, locals := 0 } s m args below meth c 2 (mMQ (XR z) (mKv K) below args s) 10 [(1, (0, v1)), (0, (2, 0))] [] x.2.2 | _, _ => True)) ?_ hx
    clear hx x
    intro Z x hQ hw
    rcases hw with ⟨v1, h, rfl, hw⟩
    · show mG (XR z) p l e { frames := 0, cells := 0, slots := 0, locals := 0 } s m args below meth c 2 (mMQ (XR z) (mKv K) below args s) 10 [(1, (0, v1)), (0, (2, 0))] [] h
      unfold B_X14_plainShores_10 at hw
      refine g_iload_n C dX14_plainShores_10 rfl rfl ?_
      refine g_iconst C ⟨by decide, by decide⟩ dX14_plainShores_11 ?_
      refine g_icmp_ge C 33 dX14_plainShores_12 rfl hw (fun hw => ?_) (fun hw => ?_)
      · exact g_vret C hr dX14_plainShores_33 ⟨rfl, hw⟩
      · refine g_aload_n C dX14_plainShores_15 rfl (by decide) rfl ?_
        refine gw_X14_109 C dX14_plainShores_16 kdR_0 wwR_0_78 ?_
        refine g_iload_n C dX14_plainShores_19 rfl rfl ?_
        refine g_aload_n C dX14_plainShores_20 rfl (by decide) rfl ?_
        refine gw_X14_36 C dX14_plainShores_21 kdR_0 wwR_0_44 ?_
        refine g_iload_n C dX14_plainShores_24 rfl rfl ?_
        obtain ⟨⟨b1, b1b⟩, hw⟩ := hw
        refine g_iaload C dX14_plainShores_25 kdR_8 b1 b1b (fun z25 => ?_)
        obtain ⟨⟨b2, b2b⟩, hw⟩ := hw
        refine g_iastore C dX14_plainShores_26 kdR_32 b2 b2b (fun z => z) ?_
        refine g_heap (fun h1 eh1 => ?_)
        replace hw := hw h1 eh1
        refine g_iincN C dX14_plainShores_27 rfl (by decide) (fun x1 ex1 => ?_)
        replace hw := hw x1 ex1
        refine g_goto C 10 dX14_plainShores_30 rfl ?_
        exact g_sub [1, 0] rfl (hQ _ hw)
  show mG _ p l e _ s m args below meth c _ _ 0 [(0, (2, 0))] [] h
  unfold wp_X14_plainShores at hw
  refine g_aload_n C dX14_plainShores_0 rfl (by decide) rfl ?_
  refine g_aload_n C dX14_plainShores_1 rfl (by decide) rfl ?_
  refine gf_X14_273 C dX14_plainShores_2 kdR_0 (fun z2 => ?_)
  refine gp_X14_448 C dX14_plainShores_5 kdR_0 (fun z => z) ?_
  refine g_heap (fun h1 eh1 => ?_)
  replace hw := hw h1 eh1
  refine g_iconst C ⟨by decide, by decide⟩ dX14_plainShores_8 ?_
  refine g_istore_n C dX14_plainShores_9 rfl (by decide) ?_
  exact g_sub [1, 0] rfl (hQ _ hw)
set_option maxRecDepth 20000 in
set_option maxHeartbeats 4000000 in
theorem sim_X14_fits {z : Mz} {l : Launch} {h : Mh} {K : Int → Mh → Prop} (hw : wp_X14_fits h K) : mCal (XR z) l yX14_fits cX14_fits 4 (some Jvm.ClassFile.FieldType.int) 4 97 [(2, 0)] h (mKi K) := by
  refine m_entry RX14 rfl (by decide) rfl (fun p e s m args below meth c C hr => ?_)
  have hQ : ∀ x, Lfp (F_X14_fits K) x → (match x.1, x.2.1 with | 29, [v1, v2] => mG (XR z) p l e { frames := 4, cells := 0, slots := 0, locals := 97 } s m args below meth c 4 (mMQ (XR z) (mKi K) below args s) 29 [(1, (0, v1)), (2, (0, v2)), (0, (2, 0))] [] x.2.2 | 49, [v1, v2, v3] => mG (XR z) p l e { frames := 4, cells := 0, slots := 0, locals := 97 } s m args below meth c 4 (mMQ (XR z) (mKi K) below args s) 49 [(1, (0, v1)), (2, (0, v2)), (3, (0, v3)), (0, (2, 0))] [] x.2.2 | _, _ => True) := by
    intro x hx
    refine Lfp.ind (fun x => (match x.1, x.2.1 with | 29, [v1, v2] => mG (XR z) p l e { frames := 4, cells := 0, slots := 0, locals := 97 } s m args below meth c 4 (mMQ (XR z) (mKi K) below args s) 29 [(1, (0, v1)), (2, (0, v2)), (0, (2, 0))] [] x.2.2 | 49, [v1, v2, v3] => mG (XR z) p l e { frames := 4, cells := 0, slots := 0, locals := 97 } s m args below meth c 4 (mMQ (XR z) (mKi K) below args s) 49 [(1, (0, v1)), (2, (0, v2)), (3, (0, v3)), (0, (2, 0))] [] x.2.2 | _, _ => True)) ?_ hx
    clear hx x
    intro Z x hQ hw
    rcases hw with ⟨v1, v2, h, rfl, hw⟩ | ⟨v1, v2, v3, h, rfl, hw⟩
    · show mG (XR z) p l e { frames := 4, cells := 0, slots := 0, locals := 97 } s m args below meth c 4 (mMQ (XR z) (mKi K) below args s) 29 [(1, (0, v1)), (2, (0, v2)), (0, (2, 0))] [] h
      unfold B_X14_fits_29 at hw
      refine g_iload_n C dX14_fits_29 rfl rfl ?_
      refine g_aload_n C dX14_fits_30 rfl (by decide) rfl ?_
      refine gf_X14_276 C dX14_fits_31 kdR_0 (fun z31 => ?_)
      refine g_icmp_ge C 99 dX14_fits_34 rfl hw (fun hw => ?_) (fun hw => ?_)
      · refine g_aload_n C dX14_fits_99 rfl (by decide) rfl ?_
        refine g_callVv C [] (sim_X14_plainShores hw) k_1581 k_1583 k_76 k_147 k_1584 hdV_X14_plainShores rfl rfl (by decide) rfl kdR_0 rfl rfl rfl dX14_fits_100 ?_
        intro h1 hw
        refine g_iload_n C dX14_fits_103 rfl rfl ?_
        exact g_iret C hr dX14_fits_104 ⟨_, rfl, hw⟩
      · refine g_aload_n C dX14_fits_37 rfl (by decide) rfl ?_
        refine g_aload_n C dX14_fits_38 rfl (by decide) rfl ?_
        refine gw_X14_75 C dX14_fits_39 kdR_0 wwR_0_57 ?_
        refine g_iload_n C dX14_fits_42 rfl rfl ?_
        obtain ⟨⟨b1, b1b⟩, hw⟩ := hw
        refine g_iaload C dX14_fits_43 kdR_21 b1 b1b (fun z43 => ?_)
        refine gp_X14_448 C dX14_fits_44 kdR_0 (fun z => z) ?_
        refine g_heap (fun h2 eh2 => ?_)
        replace hw := hw h2 eh2
        refine g_iconst C ⟨by decide, by decide⟩ dX14_fits_47 ?_
        refine g_istore_n C dX14_fits_48 rfl (by decide) ?_
        exact g_sub [1, 2, 3, 0] rfl (hQ _ hw)
    · show mG (XR z) p l e { frames := 4, cells := 0, slots := 0, locals := 97 } s m args below meth c 4 (mMQ (XR z) (mKi K) below args s) 49 [(1, (0, v1)), (2, (0, v2)), (3, (0, v3)), (0, (2, 0))] [] h
      unfold B_X14_fits_49 at hw
      refine g_iload_n C dX14_fits_49 rfl rfl ?_
      refine g_iconst C ⟨by decide, by decide⟩ dX14_fits_50 ?_
      refine g_icmp_ge C 76 dX14_fits_51 rfl hw (fun hw => ?_) (fun hw => ?_)
      · refine g_iload_n C dX14_fits_76 rfl rfl ?_
        refine g_aload_n C dX14_fits_77 rfl (by decide) rfl ?_
        refine g_callVz C [] (sim_X14_isFit hw) k_2216 k_2218 k_126 k_147 k_2219 hdV_X14_isFit rfl rfl (by decide) rfl kdR_0 rfl rfl rfl dX14_fits_78 ?_
        intro x1 h1 zb78 hw
        refine g_if_eq C 90 dX14_fits_81 rfl hw (fun hw => ?_) (fun hw => ?_)
        · refine g_iconst C ⟨by decide, by decide⟩ dX14_fits_90 ?_
          refine g_ior C dX14_fits_91 ?_
          refine g_topi (fun x2 ex2 => ?_)
          replace hw := hw x2 ex2
          refine g_istore_n C dX14_fits_92 rfl (by decide) ?_
          refine g_iincN C dX14_fits_93 rfl (by decide) (fun x3 ex3 => ?_)
          replace hw := hw x3 ex3
          refine g_goto C 29 dX14_fits_96 rfl ?_
          exact g_sub [1, 2, 0] rfl (hQ _ hw)
        · refine g_iconst C ⟨by decide, by decide⟩ dX14_fits_84 ?_
          refine g_iload_n C dX14_fits_85 rfl rfl ?_
          refine g_ishl C dX14_fits_86 ?_
          refine g_goto C 91 dX14_fits_87 rfl ?_
          refine g_ior C dX14_fits_91 ?_
          refine g_topi (fun x4 ex4 => ?_)
          replace hw := hw x4 ex4
          refine g_istore_n C dX14_fits_92 rfl (by decide) ?_
          refine g_iincN C dX14_fits_93 rfl (by decide) (fun x5 ex5 => ?_)
          replace hw := hw x5 ex5
          refine g_goto C 29 dX14_fits_96 rfl ?_
          exact g_sub [1, 2, 0] rfl (hQ _ hw)
      · refine g_aload_n C dX14_fits_54 rfl (by decide) rfl ?_
        refine gw_X14_109 C dX14_fits_55 kdR_0 wwR_0_78 ?_
        refine g_iload_n C dX14_fits_58 rfl rfl ?_
        refine g_aload_n C dX14_fits_59 rfl (by decide) rfl ?_
        refine gw_X14_78 C dX14_fits_60 kdR_0 wwR_0_58 ?_
        refine g_iconst C ⟨by decide, by decide⟩ dX14_fits_63 ?_
        refine g_iload_n C dX14_fits_64 rfl rfl ?_
        refine g_imul C dX14_fits_65 ?_
        refine g_iload_n C dX14_fits_66 rfl rfl ?_
        refine g_iadd C dX14_fits_67 ?_
        obtain ⟨⟨b2, b2b⟩, hw⟩ := hw
        refine g_iaload C dX14_fits_68 kdR_22 b2 b2b (fun z68 => ?_)
        obtain ⟨⟨b3, b3b⟩, hw⟩ := hw
        refine g_iastore C dX14_fits_69 kdR_32 b3 b3b (fun z => z) ?_
        refine g_heap (fun h2 eh2 => ?_)
        replace hw := hw h2 eh2
        refine g_iincN C dX14_fits_70 rfl (by decide) (fun x6 ex6 => ?_)
        replace hw := hw x6 ex6
        refine g_goto C 49 dX14_fits_73 rfl ?_
        exact g_sub [1, 2, 3, 0] rfl (hQ _ hw)
  show mG _ p l e _ s m args below meth c _ _ 0 [(0, (2, 0))] [] h
  unfold wp_X14_fits at hw
  refine g_aload_n C dX14_fits_0 rfl (by decide) rfl ?_
  refine g_iconst C ⟨by decide, by decide⟩ dX14_fits_1 ?_
  refine gp_X14_148 C dX14_fits_2 kdR_0 (fun z => z) ?_
  refine g_heap (fun h1 eh1 => ?_)
  replace hw := hw h1 eh1
  refine g_aload_n C dX14_fits_5 rfl (by decide) rfl ?_
  refine g_callVv C [] (sim_X14_layCounts hw) k_2189 k_2191 k_123 k_147 k_2192 hdV_X14_layCounts rfl rfl (by decide) rfl kdR_0 rfl rfl rfl dX14_fits_6 ?_
  intro h2 hw
  refine g_aload_n C dX14_fits_9 rfl (by decide) rfl ?_
  refine g_callVz C [] (sim_X14_isFit hw) k_2216 k_2218 k_126 k_147 k_2219 hdV_X14_isFit rfl rfl (by decide) rfl kdR_0 rfl rfl rfl dX14_fits_10 ?_
  intro x1 h3 zb10 hw
  refine g_if_eq C 25 dX14_fits_13 rfl hw (fun hw => ?_) (fun hw => ?_)
  · refine g_iconst C ⟨by decide, by decide⟩ dX14_fits_25 ?_
    refine g_istore_n C dX14_fits_26 rfl (by decide) ?_
    refine g_iconst C ⟨by decide, by decide⟩ dX14_fits_27 ?_
    refine g_istore_n C dX14_fits_28 rfl (by decide) ?_
    exact g_sub [1, 2, 0] rfl (hQ _ hw)
  · refine g_iconst C ⟨by decide, by decide⟩ dX14_fits_16 ?_
    refine g_aload_n C dX14_fits_17 rfl (by decide) rfl ?_
    refine gf_X14_276 C dX14_fits_18 kdR_0 (fun z18 => ?_)
    refine g_ishl C dX14_fits_21 ?_
    refine g_goto C 26 dX14_fits_22 rfl ?_
    refine g_topi (fun x2 ex2 => ?_)
    replace hw := hw x2 ex2
    refine g_istore_n C dX14_fits_26 rfl (by decide) ?_
    refine g_iconst C ⟨by decide, by decide⟩ dX14_fits_27 ?_
    refine g_istore_n C dX14_fits_28 rfl (by decide) ?_
    exact g_sub [1, 2, 0] rfl (hQ _ hw)
set_option maxRecDepth 20000 in
set_option maxHeartbeats 4000000 in
theorem sim_X14_groundLine {z : Mz} {l : Launch} {p1 : Int} {h : Mh} {K : Int → Mh → Prop} (hw : wp_X14_groundLine p1 h K) : mCal (XR z) l yX14_groundLine cX14_groundLine 4 (some Jvm.ClassFile.FieldType.boolean) 4 90 [(2, 0), (0, p1)] h (mKz K) := by
  refine m_entry RX14 rfl (by decide) rfl (fun p e s m args below meth c C hr => ?_)
  have hQ : ∀ x, Lfp (F_X14_groundLine p1 K) x → (match x.1, x.2.1 with | 14, [] => mG (XR z) p l e { frames := 4, cells := 0, slots := 0, locals := 90 } s m args below meth c 4 (mMQ (XR z) (mKz K) below args s) 14 [(0, (2, 0)), (1, (0, p1))] [] x.2.2 | 28, [] => mG (XR z) p l e { frames := 4, cells := 0, slots := 0, locals := 90 } s m args below meth c 4 (mMQ (XR z) (mKz K) below args s) 28 [(0, (2, 0)), (1, (0, p1))] [] x.2.2 | 47, [] => mG (XR z) p l e { frames := 4, cells := 0, slots := 0, locals := 90 } s m args below meth c 4 (mMQ (XR z) (mKz K) below args s) 47 [(0, (2, 0)), (1, (0, p1))] [] x.2.2 | 156, [v2] => mG (XR z) p l e { frames := 4, cells := 0, slots := 0, locals := 90 } s m args below meth c 4 (mMQ (XR z) (mKz K) below args s) 156 [(2, (0, v2)), (0, (2, 0)), (1, (0, p1))] [] x.2.2 | 157, [v2, s0] => mG (XR z) p l e { frames := 4, cells := 0, slots := 0, locals := 90 } s m args below meth c 4 (mMQ (XR z) (mKz K) below args s) 157 [(2, (0, v2)), (0, (2, 0)), (1, (0, p1))] [(0, s0)] x.2.2 | 107, [v2] => mG (XR z) p l e { frames := 4, cells := 0, slots := 0, locals := 90 } s m args below meth c 4 (mMQ (XR z) (mKz K) below args s) 107 [(2, (0, v2)), (0, (2, 0)), (1, (0, p1))] [] x.2.2 | 221, [s1, s2] => mG (XR z) p l e { frames := 4, cells := 0, slots := 0, locals := 90 } s m args below meth c 4 (mMQ (XR z) (mKz K) below args s) 221 [(0, (2, 0)), (1, (0, p1))] [(0, s2), (0, s1), (2, 5)] x.2.2 | _, _ => True) := by
    intro x hx
    refine Lfp.ind (fun x => (match x.1, x.2.1 with | 14, [] => mG (XR z) p l e { frames := 4, cells := 0, slots := 0, locals := 90 } s m args below meth c 4 (mMQ (XR z) (mKz K) below args s) 14 [(0, (2, 0)), (1, (0, p1))] [] x.2.2 | 28, [] => mG (XR z) p l e { frames := 4, cells := 0, slots := 0, locals := 90 } s m args below meth c 4 (mMQ (XR z) (mKz K) below args s) 28 [(0, (2, 0)), (1, (0, p1))] [] x.2.2 | 47, [] => mG (XR z) p l e { frames := 4, cells := 0, slots := 0, locals := 90 } s m args below meth c 4 (mMQ (XR z) (mKz K) below args s) 47 [(0, (2, 0)), (1, (0, p1))] [] x.2.2 | 156, [v2] => mG (XR z) p l e { frames := 4, cells := 0, slots := 0, locals := 90 } s m args below meth c 4 (mMQ (XR z) (mKz K) below args s) 156 [(2, (0, v2)), (0, (2, 0)), (1, (0, p1))] [] x.2.2 | 157, [v2, s0] => mG (XR z) p l e { frames := 4, cells := 0, slots := 0, locals := 90 } s m args below meth c 4 (mMQ (XR z) (mKz K) below args s) 157 [(2, (0, v2)), (0, (2, 0)), (1, (0, p1))] [(0, s0)] x.2.2 | 107, [v2] => mG (XR z) p l e { frames := 4, cells := 0, slots := 0, locals := 90 } s m args below meth c 4 (mMQ (XR z) (mKz K) below args s) 107 [(2, (0, v2)), (0, (2, 0)), (1, (0, p1))] [] x.2.2 | 221, [s1, s2] => mG (XR z) p l e { frames := 4, cells := 0, slots := 0, locals := 90 } s m args below meth c 4 (mMQ (XR z) (mKz K) below args s) 221 [(0, (2, 0)), (1, (0, p1))] [(0, s2), (0, s1), (2, 5)] x.2.2 | _, _ => True)) ?_ hx
    clear hx x
    intro Z x hQ hw
    rcases hw with ⟨h, rfl, hw⟩ | ⟨h, rfl, hw⟩ | ⟨h, rfl, hw⟩ | ⟨v2, h, rfl, hw⟩ | ⟨v2, s0, h, rfl, hw⟩ | ⟨v2, h, rfl, hw⟩ | ⟨s1, s2, h, rfl, hw⟩
    · show mG (XR z) p l e { frames := 4, cells := 0, slots := 0, locals := 90 } s m args below meth c 4 (mMQ (XR z) (mKz K) below args s) 14 [(0, (2, 0)), (1, (0, p1))] [] h
      unfold B_X14_groundLine_14 at hw
      refine g_iload_n C dX14_groundLine_14 rfl rfl ?_
      refine g_iconst C ⟨by decide, by decide⟩ dX14_groundLine_15 ?_
      refine g_icmp_ne C 28 dX14_groundLine_16 rfl hw (fun hw => ?_) (fun hw => ?_)
      · exact g_sub [0, 1] rfl (hQ _ hw)
      · refine g_aload_n C dX14_groundLine_19 rfl (by decide) rfl ?_
        refine gf_X14_239 C dX14_groundLine_20 kdR_0 (fun z20 => ?_)
        refine g_bipush C ⟨by decide, by decide⟩ (by decide) dX14_groundLine_23 ?_
        refine g_icmp_eq C 41 dX14_groundLine_25 rfl hw (fun hw => ?_) (fun hw => ?_)
        · refine g_aload_n C dX14_groundLine_41 rfl (by decide) rfl ?_
          refine g_iconst C ⟨by decide, by decide⟩ dX14_groundLine_42 ?_
          refine g_callVz C [(0, 2)] (sim_X14_wrong hw) k_1926 k_1928 k_84 k_147 k_1929 hdV_X14_wrong rfl rfl (by decide) rfl kdR_0 rfl rfl rfl dX14_groundLine_43 ?_
          intro x1 h1 zb43 hw
          exact g_zret C hr zb43 dX14_groundLine_46 ⟨_, rfl, zb43, hw⟩
        · exact g_sub [0, 1] rfl (hQ _ hw)
    · show mG (XR z) p l e { frames := 4, cells := 0, slots := 0, locals := 90 } s m args below meth c 4 (mMQ (XR z) (mKz K) below args s) 28 [(0, (2, 0)), (1, (0, p1))] [] h
      unfold B_X14_groundLine_28 at hw
      refine g_iload_n C dX14_groundLine_28 rfl rfl ?_
      refine g_iconst C ⟨by decide, by decide⟩ dX14_groundLine_29 ?_
      refine g_icmp_ne C 47 dX14_groundLine_30 rfl hw (fun hw => ?_) (fun hw => ?_)
      · exact g_sub [0, 1] rfl (hQ _ hw)
      · refine g_aload_n C dX14_groundLine_33 rfl (by decide) rfl ?_
        refine gf_X14_227 C dX14_groundLine_34 kdR_0 (fun z34 => ?_)
        refine g_iconst C ⟨by decide, by decide⟩ dX14_groundLine_37 ?_
        refine g_icmp_ne C 47 dX14_groundLine_38 rfl hw (fun hw => ?_) (fun hw => ?_)
        · exact g_sub [0, 1] rfl (hQ _ hw)
        · refine g_aload_n C dX14_groundLine_41 rfl (by decide) rfl ?_
          refine g_iconst C ⟨by decide, by decide⟩ dX14_groundLine_42 ?_
          refine g_callVz C [(0, 2)] (sim_X14_wrong hw) k_1926 k_1928 k_84 k_147 k_1929 hdV_X14_wrong rfl rfl (by decide) rfl kdR_0 rfl rfl rfl dX14_groundLine_43 ?_
          intro x1 h1 zb43 hw
          exact g_zret C hr zb43 dX14_groundLine_46 ⟨_, rfl, zb43, hw⟩
    · show mG (XR z) p l e { frames := 4, cells := 0, slots := 0, locals := 90 } s m args below meth c 4 (mMQ (XR z) (mKz K) below args s) 47 [(0, (2, 0)), (1, (0, p1))] [] h
      unfold B_X14_groundLine_47 at hw
      refine g_aload_n C dX14_groundLine_47 rfl (by decide) rfl ?_
      refine g_callVv C [] (sim_X14_token hw) k_1898 k_1900 k_77 k_147 k_1901 hdV_X14_token rfl rfl (by decide) rfl kdR_0 rfl rfl rfl dX14_groundLine_48 ?_
      intro h1 hw
      refine g_aload_n C dX14_groundLine_51 rfl (by decide) rfl ?_
      refine g_callVz C [] (sim_X14_cellRead hw) k_1941 k_1943 k_87 k_147 k_1944 hdV_X14_cellRead rfl rfl (by decide) rfl kdR_0 rfl rfl rfl dX14_groundLine_52 ?_
      intro x1 h2 zb52 hw
      refine g_if_ne C 60 dX14_groundLine_55 rfl hw (fun hw => ?_) (fun hw => ?_)
      · refine g_bipush C ⟨by decide, by decide⟩ (by decide) dX14_groundLine_60 ?_
        refine g_aload_n C dX14_groundLine_62 rfl (by decide) rfl ?_
        refine gf_X14_196 C dX14_groundLine_63 kdR_0 (fun z63 => ?_)
        refine g_iadd C dX14_groundLine_66 ?_
        refine g_topi (fun x2 ex2 => ?_)
        replace hw := hw x2 ex2
        refine g_istore_n C dX14_groundLine_67 rfl (by decide) ?_
        refine g_iload_n C dX14_groundLine_68 rfl rfl ?_
        refine g_iconst C ⟨by decide, by decide⟩ dX14_groundLine_69 ?_
        refine g_icmp_ne C 111 dX14_groundLine_70 rfl hw (fun hw => ?_) (fun hw => ?_)
        · refine g_iload_n C dX14_groundLine_111 rfl rfl ?_
          refine g_iconst C ⟨by decide, by decide⟩ dX14_groundLine_112 ?_
          refine g_icmp_ne C 133 dX14_groundLine_113 rfl hw (fun hw => ?_) (fun hw => ?_)
          · refine g_aload_n C dX14_groundLine_133 rfl (by decide) rfl ?_
            refine gw_X14_27 C dX14_groundLine_134 kdR_0 wwR_0_41 ?_
            refine g_iload_n C dX14_groundLine_137 rfl rfl ?_
            obtain ⟨⟨b1, b1b⟩, hw⟩ := hw
            refine g_iaload C dX14_groundLine_138 kdR_5 b1 b1b (fun z138 => ?_)
            refine g_iconst C ⟨by decide, by decide⟩ dX14_groundLine_139 ?_
            refine g_icmp_eq C 156 dX14_groundLine_140 rfl hw (fun hw => ?_) (fun hw => ?_)
            · exact g_sub [2, 0, 1] rfl (hQ _ hw)
            · refine g_aload_n C dX14_groundLine_143 rfl (by decide) rfl ?_
              refine gw_X14_30 C dX14_groundLine_144 kdR_0 wwR_0_42 ?_
              refine g_iload_n C dX14_groundLine_147 rfl rfl ?_
              obtain ⟨⟨b2, b2b⟩, hw⟩ := hw
              refine g_zaload C dX14_groundLine_148 kdR_6 b2 b2b (fun z148 => ?_)
              refine g_if_ne C 156 dX14_groundLine_149 rfl hw (fun hw => ?_) (fun hw => ?_)
              · exact g_sub [2, 0, 1] rfl (hQ _ hw)
              · refine g_iconst C ⟨by decide, by decide⟩ dX14_groundLine_152 ?_
                refine g_goto C 157 dX14_groundLine_153 rfl ?_
                exact g_sub [2, 0, 1] rfl (hQ _ hw)
          · refine g_aload_n C dX14_groundLine_116 rfl (by decide) rfl ?_
            refine gw_X14_27 C dX14_groundLine_117 kdR_0 wwR_0_41 ?_
            refine g_iload_n C dX14_groundLine_120 rfl rfl ?_
            obtain ⟨⟨b3, b3b⟩, hw⟩ := hw
            refine g_iaload C dX14_groundLine_121 kdR_5 b3 b3b (fun z121 => ?_)
            refine g_if_ne C 129 dX14_groundLine_122 rfl hw (fun hw => ?_) (fun hw => ?_)
            · refine g_iconst C ⟨by decide, by decide⟩ dX14_groundLine_129 ?_
              refine g_goto C 157 dX14_groundLine_130 rfl ?_
              exact g_sub [2, 0, 1] rfl (hQ _ hw)
            · refine g_iconst C ⟨by decide, by decide⟩ dX14_groundLine_125 ?_
              refine g_goto C 157 dX14_groundLine_126 rfl ?_
              exact g_sub [2, 0, 1] rfl (hQ _ hw)
        · refine g_aload_n C dX14_groundLine_73 rfl (by decide) rfl ?_
          refine gw_X14_27 C dX14_groundLine_74 kdR_0 wwR_0_41 ?_
          refine g_iload_n C dX14_groundLine_77 rfl rfl ?_
          obtain ⟨⟨b4, b4b⟩, hw⟩ := hw
          refine g_iaload C dX14_groundLine_78 kdR_5 b4 b4b (fun z78 => ?_)
          refine g_if_ne C 107 dX14_groundLine_79 rfl hw (fun hw => ?_) (fun hw => ?_)
          · exact g_sub [2, 0, 1] rfl (hQ _ hw)
          · refine g_aload_n C dX14_groundLine_82 rfl (by decide) rfl ?_
            refine gw_X14_30 C dX14_groundLine_83 kdR_0 wwR_0_42 ?_
            refine g_iload_n C dX14_groundLine_86 rfl rfl ?_
            obtain ⟨⟨b5, b5b⟩, hw⟩ := hw
            refine g_zaload C dX14_groundLine_87 kdR_6 b5 b5b (fun z87 => ?_)
            refine g_if_ne C 107 dX14_groundLine_88 rfl hw (fun hw => ?_) (fun hw => ?_)
            · exact g_sub [2, 0, 1] rfl (hQ _ hw)
            · refine g_aload_n C dX14_groundLine_91 rfl (by decide) rfl ?_
              refine gw_X14_33 C dX14_groundLine_92 kdR_0 wwR_0_43 ?_
              refine g_iload_n C dX14_groundLine_95 rfl rfl ?_
              refine g_bipush C ⟨by decide, by decide⟩ (by decide) dX14_groundLine_96 ?_
              refine g_isub C dX14_groundLine_98 ?_
              obtain ⟨⟨b6, b6b⟩, hw⟩ := hw
              refine g_zaload C dX14_groundLine_99 kdR_7 b6 b6b (fun z99 => ?_)
              refine g_if_ne C 107 dX14_groundLine_100 rfl hw (fun hw => ?_) (fun hw => ?_)
              · exact g_sub [2, 0, 1] rfl (hQ _ hw)
              · refine g_iconst C ⟨by decide, by decide⟩ dX14_groundLine_103 ?_
                refine g_goto C 157 dX14_groundLine_104 rfl ?_
                exact g_sub [2, 0, 1] rfl (hQ _ hw)
      · refine g_iconst C ⟨by decide, by decide⟩ dX14_groundLine_58 ?_
        exact g_zret C hr (Or.inl rfl) dX14_groundLine_59 ⟨_, rfl, (Or.inl rfl), hw⟩
    · show mG (XR z) p l e { frames := 4, cells := 0, slots := 0, locals := 90 } s m args below meth c 4 (mMQ (XR z) (mKz K) below args s) 156 [(2, (0, v2)), (0, (2, 0)), (1, (0, p1))] [] h
      unfold B_X14_groundLine_156 at hw
      refine g_iconst C ⟨by decide, by decide⟩ dX14_groundLine_156 ?_
      exact g_sub [2, 0, 1] rfl (hQ _ hw)
    · show mG (XR z) p l e { frames := 4, cells := 0, slots := 0, locals := 90 } s m args below meth c 4 (mMQ (XR z) (mKz K) below args s) 157 [(2, (0, v2)), (0, (2, 0)), (1, (0, p1))] [(0, s0)] h
      unfold B_X14_groundLine_157 at hw
      refine g_istore_n C dX14_groundLine_157 rfl (by decide) ?_
      refine g_iload_n C dX14_groundLine_158 rfl rfl ?_
      refine g_if_ne C 167 dX14_groundLine_159 rfl hw (fun hw => ?_) (fun hw => ?_)
      · refine g_iload_n C dX14_groundLine_167 rfl rfl ?_
        refine g_iconst C ⟨by decide, by decide⟩ dX14_groundLine_168 ?_
        refine g_icmp_ne C 206 dX14_groundLine_169 rfl hw (fun hw => ?_) (fun hw => ?_)
        · refine g_aload_n C dX14_groundLine_206 rfl (by decide) rfl ?_
          refine gw_X14_27 C dX14_groundLine_207 kdR_0 wwR_0_41 ?_
          refine g_iload_n C dX14_groundLine_210 rfl rfl ?_
          refine g_iload_n C dX14_groundLine_211 rfl rfl ?_
          refine g_iconst C ⟨by decide, by decide⟩ dX14_groundLine_212 ?_
          refine g_icmp_ne C 220 dX14_groundLine_213 rfl hw (fun hw => ?_) (fun hw => ?_)
          · refine g_iconst C ⟨by decide, by decide⟩ dX14_groundLine_220 ?_
            exact g_sub [0, 1] rfl (hQ _ hw)
          · refine g_iconst C ⟨by decide, by decide⟩ dX14_groundLine_216 ?_
            refine g_goto C 221 dX14_groundLine_217 rfl ?_
            exact g_sub [0, 1] rfl (hQ _ hw)
        · refine g_aload_n C dX14_groundLine_172 rfl (by decide) rfl ?_
          refine gw_X14_30 C dX14_groundLine_173 kdR_0 wwR_0_42 ?_
          refine g_iload_n C dX14_groundLine_176 rfl rfl ?_
          refine g_iconst C ⟨by decide, by decide⟩ dX14_groundLine_177 ?_
          obtain ⟨⟨b7, b7b⟩, hw⟩ := hw
          refine g_zastore C dX14_groundLine_178 kdR_6 b7 b7b (fun _ => (Or.inr rfl)) ?_
          refine g_heap (fun h1 eh1 => ?_)
          replace hw := hw h1 eh1
          refine g_aload_n C dX14_groundLine_179 rfl (by decide) rfl ?_
          refine gw_X14_36 C dX14_groundLine_180 kdR_0 wwR_0_44 ?_
          refine g_iconst C ⟨by decide, by decide⟩ dX14_groundLine_183 ?_
          refine g_aload_n C dX14_groundLine_184 rfl (by decide) rfl ?_
          refine gf_X14_227 C dX14_groundLine_185 kdR_0 (fun z185 => ?_)
          refine g_iadd C dX14_groundLine_188 ?_
          refine g_aload_n C dX14_groundLine_189 rfl (by decide) rfl ?_
          refine gf_X14_196 C dX14_groundLine_190 kdR_0 (fun z190 => ?_)
          obtain ⟨⟨b8, b8b⟩, hw⟩ := hw
          refine g_iastore C dX14_groundLine_193 kdR_8 b8 b8b (fun z => z) ?_
          refine g_heap (fun h2 eh2 => ?_)
          replace hw := hw h2 eh2
          refine g_aload_n C dX14_groundLine_194 rfl (by decide) rfl ?_
          refine g_dup C (by show ¬ (2 : Nat) = 1; decide) dX14_groundLine_195 ?_
          refine gf_X14_227 C dX14_groundLine_196 kdR_0 (fun z196 => ?_)
          refine g_iconst C ⟨by decide, by decide⟩ dX14_groundLine_199 ?_
          refine g_iadd C dX14_groundLine_200 ?_
          refine gp_X14_227 C dX14_groundLine_201 kdR_0 (fun z => z) ?_
          refine g_heap (fun h3 eh3 => ?_)
          replace hw := hw h3 eh3
          refine g_iconst C ⟨by decide, by decide⟩ dX14_groundLine_204 ?_
          exact g_zret C hr (Or.inr rfl) dX14_groundLine_205 ⟨_, rfl, (Or.inr rfl), hw⟩
      · refine g_aload_n C dX14_groundLine_162 rfl (by decide) rfl ?_
        refine g_callVz C [] (sim_X14_wrongCell hw) k_1945 k_1947 k_88 k_147 k_1948 hdV_X14_wrongCell rfl rfl (by decide) rfl kdR_0 rfl rfl rfl dX14_groundLine_163 ?_
        intro x1 h4 zb163 hw
        exact g_zret C hr zb163 dX14_groundLine_166 ⟨_, rfl, zb163, hw⟩
    · show mG (XR z) p l e { frames := 4, cells := 0, slots := 0, locals := 90 } s m args below meth c 4 (mMQ (XR z) (mKz K) below args s) 107 [(2, (0, v2)), (0, (2, 0)), (1, (0, p1))] [] h
      unfold B_X14_groundLine_107 at hw
      refine g_iconst C ⟨by decide, by decide⟩ dX14_groundLine_107 ?_
      refine g_goto C 157 dX14_groundLine_108 rfl ?_
      exact g_sub [2, 0, 1] rfl (hQ _ hw)
    · show mG (XR z) p l e { frames := 4, cells := 0, slots := 0, locals := 90 } s m args below meth c 4 (mMQ (XR z) (mKz K) below args s) 221 [(0, (2, 0)), (1, (0, p1))] [(0, s2), (0, s1), (2, 5)] h
      unfold B_X14_groundLine_221 at hw
      obtain ⟨⟨b9, b9b⟩, hw⟩ := hw
      refine g_iastore C dX14_groundLine_221 kdR_5 b9 b9b (fun z => z) ?_
      refine g_heap (fun h1 eh1 => ?_)
      replace hw := hw h1 eh1
      refine g_aload_n C dX14_groundLine_222 rfl (by decide) rfl ?_
      refine g_dup C (by show ¬ (2 : Nat) = 1; decide) dX14_groundLine_223 ?_
      refine gf_X14_236 C dX14_groundLine_224 kdR_0 (fun z224 => ?_)
      refine g_iload_n C dX14_groundLine_227 rfl rfl ?_
      refine g_iconst C ⟨by decide, by decide⟩ dX14_groundLine_228 ?_
      refine g_icmp_ne C 236 dX14_groundLine_229 rfl hw (fun hw => ?_) (fun hw => ?_)
      · refine g_iconst C ⟨by decide, by decide⟩ dX14_groundLine_236 ?_
        refine g_iadd C dX14_groundLine_237 ?_
        refine gp_X14_236 C dX14_groundLine_238 kdR_0 (fun z => z) ?_
        refine g_heap (fun h2 eh2 => ?_)
        replace hw := hw h2 eh2
        refine g_aload_n C dX14_groundLine_241 rfl (by decide) rfl ?_
        refine g_dup C (by show ¬ (2 : Nat) = 1; decide) dX14_groundLine_242 ?_
        refine gf_X14_239 C dX14_groundLine_243 kdR_0 (fun z243 => ?_)
        refine g_iload_n C dX14_groundLine_246 rfl rfl ?_
        refine g_iconst C ⟨by decide, by decide⟩ dX14_groundLine_247 ?_
        refine g_icmp_ne C 255 dX14_groundLine_248 rfl hw (fun hw => ?_) (fun hw => ?_)
        · refine g_iconst C ⟨by decide, by decide⟩ dX14_groundLine_255 ?_
          refine g_iadd C dX14_groundLine_256 ?_
          refine gp_X14_239 C dX14_groundLine_257 kdR_0 (fun z => z) ?_
          refine g_heap (fun h3 eh3 => ?_)
          replace hw := hw h3 eh3
          refine g_iconst C ⟨by decide, by decide⟩ dX14_groundLine_260 ?_
          exact g_zret C hr (Or.inr rfl) dX14_groundLine_261 ⟨_, rfl, (Or.inr rfl), hw⟩
        · refine g_iconst C ⟨by decide, by decide⟩ dX14_groundLine_251 ?_
          refine g_goto C 256 dX14_groundLine_252 rfl ?_
          refine g_iadd C dX14_groundLine_256 ?_
          refine gp_X14_239 C dX14_groundLine_257 kdR_0 (fun z => z) ?_
          refine g_heap (fun h4 eh4 => ?_)
          replace hw := hw h4 eh4
          refine g_iconst C ⟨by decide, by decide⟩ dX14_groundLine_260 ?_
          exact g_zret C hr (Or.inr rfl) dX14_groundLine_261 ⟨_, rfl, (Or.inr rfl), hw⟩
      · refine g_iconst C ⟨by decide, by decide⟩ dX14_groundLine_232 ?_
        refine g_goto C 237 dX14_groundLine_233 rfl ?_
        refine g_iadd C dX14_groundLine_237 ?_
        refine gp_X14_236 C dX14_groundLine_238 kdR_0 (fun z => z) ?_
        refine g_heap (fun h5 eh5 => ?_)
        replace hw := hw h5 eh5
        refine g_aload_n C dX14_groundLine_241 rfl (by decide) rfl ?_
        refine g_dup C (by show ¬ (2 : Nat) = 1; decide) dX14_groundLine_242 ?_
        refine gf_X14_239 C dX14_groundLine_243 kdR_0 (fun z243 => ?_)
        refine g_iload_n C dX14_groundLine_246 rfl rfl ?_
        refine g_iconst C ⟨by decide, by decide⟩ dX14_groundLine_247 ?_
        refine g_icmp_ne C 255 dX14_groundLine_248 rfl hw (fun hw => ?_) (fun hw => ?_)
        · refine g_iconst C ⟨by decide, by decide⟩ dX14_groundLine_255 ?_
          refine g_iadd C dX14_groundLine_256 ?_
          refine gp_X14_239 C dX14_groundLine_257 kdR_0 (fun z => z) ?_
          refine g_heap (fun h6 eh6 => ?_)
          replace hw := hw h6 eh6
          refine g_iconst C ⟨by decide, by decide⟩ dX14_groundLine_260 ?_
          exact g_zret C hr (Or.inr rfl) dX14_groundLine_261 ⟨_, rfl, (Or.inr rfl), hw⟩
        · refine g_iconst C ⟨by decide, by decide⟩ dX14_groundLine_251 ?_
          refine g_goto C 256 dX14_groundLine_252 rfl ?_
          refine g_iadd C dX14_groundLine_256 ?_
          refine gp_X14_239 C dX14_groundLine_257 kdR_0 (fun z => z) ?_
          refine g_heap (fun h7 eh7 => ?_)
          replace hw := hw h7 eh7
          refine g_iconst C ⟨by decide, by decide⟩ dX14_groundLine_260 ?_
          exact g_zret C hr (Or.inr rfl) dX14_groundLine_261 ⟨_, rfl, (Or.inr rfl), hw⟩
  show mG _ p l e _ s m args below meth c _ _ 0 [(0, (2, 0)), (1, (0, p1))] [] h
  unfold wp_X14_groundLine at hw
  refine g_iload_n C dX14_groundLine_0 rfl rfl ?_
  refine g_iconst C ⟨by decide, by decide⟩ dX14_groundLine_1 ?_
  refine g_icmp_ne C 14 dX14_groundLine_2 rfl hw (fun hw => ?_) (fun hw => ?_)
  · exact g_sub [0, 1] rfl (hQ _ hw)
  · refine g_aload_n C dX14_groundLine_5 rfl (by decide) rfl ?_
    refine gf_X14_236 C dX14_groundLine_6 kdR_0 (fun z6 => ?_)
    refine g_bipush C ⟨by decide, by decide⟩ (by decide) dX14_groundLine_9 ?_
    refine g_icmp_eq C 41 dX14_groundLine_11 rfl hw (fun hw => ?_) (fun hw => ?_)
    · refine g_aload_n C dX14_groundLine_41 rfl (by decide) rfl ?_
      refine g_iconst C ⟨by decide, by decide⟩ dX14_groundLine_42 ?_
      refine g_callVz C [(0, 2)] (sim_X14_wrong hw) k_1926 k_1928 k_84 k_147 k_1929 hdV_X14_wrong rfl rfl (by decide) rfl kdR_0 rfl rfl rfl dX14_groundLine_43 ?_
      intro x1 h1 zb43 hw
      exact g_zret C hr zb43 dX14_groundLine_46 ⟨_, rfl, zb43, hw⟩
    · exact g_sub [0, 1] rfl (hQ _ hw)
