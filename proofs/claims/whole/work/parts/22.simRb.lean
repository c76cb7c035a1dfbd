set_option maxRecDepth 20000 in
set_option maxHeartbeats 4000000 in
theorem sim_X14_back {z : Mz} {l : Launch} {h : Mh} {K : Int → Mh → Prop} (hw : wp_X14_back h K) : mCal (XR z) l yX14_back cX14_back 2 (some Jvm.ClassFile.FieldType.int) 4 84 [(2, 0)] h (mKi K) := by
  refine m_entry RX14 rfl (by decide) rfl (fun p e s m args below meth c C hr => ?_)
  have hQ : ∀ x, Lfp (F_X14_back K) x → (match x.1, x.2.1 with | 24, [v1] => mG (XR z) p l e { frames := 4, cells := 0, slots := 0, locals := 84 } s m args below meth c 2 (mMQ (XR z) (mKi K) below args s) 24 [(1, (0, v1)), (0, (2, 0))] [] x.2.2 | 50, [v1] => mG (XR z) p l e { frames := 4, cells := 0, slots := 0, locals := 84 } s m args below meth c 2 (mMQ (XR z) (mKi K) below args s) 50 [(1, (0, v1)), (0, (2, 0))] [] x.2.2 | _, _ => True) := by
    intro x hx
    refine Lfp.ind (fun x => (match x.1, x.2.1 with | 24, [v1] => mG (XR z) p l e { frames := 4, cells := 0, slots := 0, locals := 84 } s m args below meth c 2 (mMQ (XR z) (mKi K) below args s) 24 [(1, (0, v1)), (0, (2, 0))] [] x.2.2 | 50, [v1] => mG (XR z) p l e { frames := 4, cells := 0, slots := 0, locals := 84 } s m args below meth c 2 (mMQ (XR z) (mKi K) below args s) 50 [(1, (0, v1)), (0, (2, 0))] [] x.2.2 | _, _ => True)) ?_ hx
    clear hx x
    intro Z x hQ hw
    rcases hw with ⟨v1, h, rfl, hw⟩ | ⟨v1, h, rfl, hw⟩
    · show mG (XR z) p l e { frames := 4, cells := 0, slots := 0, locals := 84 } s m args below meth c 2 (mMQ (XR z) (mKi K) below args s) 24 [(1, (0, v1)), (0, (2, 0))] [] h
      unfold B_X14_back_24 at hw
      refine g_iload_n C dX14_back_24 rfl rfl ?_
      refine g_bipush C ⟨by decide, by decide⟩ (by decide) dX14_back_25 ?_
      refine g_icmp_ge C 48 dX14_back_27 rfl hw (fun hw => ?_) (fun hw => ?_)
      · refine g_iconst C ⟨by decide, by decide⟩ dX14_back_48 ?_
        refine g_istore_n C dX14_back_49 rfl (by decide) ?_
        exact g_sub [1, 0] rfl (hQ _ hw)
      · refine g_aload_n C dX14_back_30 rfl (by decide) rfl ?_
        refine gw_X14_27 C dX14_back_31 kdR_0 wwR_0_41 ?_
        refine g_iload_n C dX14_back_34 rfl rfl ?_
        refine g_aload_n C dX14_back_35 rfl (by decide) rfl ?_
        refine gw_X14_136 C dX14_back_36 kdR_0 wwR_0_98 ?_
        refine g_iload_n C dX14_back_39 rfl rfl ?_
        obtain ⟨⟨b1, b1b⟩, hw⟩ := hw
        refine g_iaload C dX14_back_40 kdR_39 b1 b1b (fun z40 => ?_)
        obtain ⟨⟨b2, b2b⟩, hw⟩ := hw
        refine g_iastore C dX14_back_41 kdR_5 b2 b2b (fun z => z) ?_
        refine g_heap (fun h1 eh1 => ?_)
        replace hw := hw h1 eh1
        refine g_iincN C dX14_back_42 rfl (by decide) (fun x1 ex1 => ?_)
        replace hw := hw x1 ex1
        refine g_goto C 24 dX14_back_45 rfl ?_
        exact g_sub [1, 0] rfl (hQ _ hw)
    · show mG (XR z) p l e { frames := 4, cells := 0, slots := 0, locals := 84 } s m args below meth c 2 (mMQ (XR z) (mKi K) below args s) 50 [(1, (0, v1)), (0, (2, 0))] [] h
      unfold B_X14_back_50 at hw
      refine g_iload_n C dX14_back_50 rfl rfl ?_
      refine g_bipush C ⟨by decide, by decide⟩ (by decide) dX14_back_51 ?_
      refine g_icmp_ge C 108 dX14_back_53 rfl hw (fun hw => ?_) (fun hw => ?_)
      · refine g_aload_n C dX14_back_108 rfl (by decide) rfl ?_
        refine g_iconst C ⟨by decide, by decide⟩ dX14_back_109 ?_
        refine gp_X14_301 C dX14_back_110 kdR_0 (fun z => z) ?_
        refine g_heap (fun h1 eh1 => ?_)
        replace hw := hw h1 eh1
        refine g_aload_n C dX14_back_113 rfl (by decide) rfl ?_
        refine g_callVv C [] (sim_X14_layWays hw) k_1557 k_1559 k_70 k_147 k_1560 hdV_X14_layWays rfl rfl (by decide) rfl kdR_0 rfl rfl rfl dX14_back_114 ?_
        intro h2 hw
        refine g_aload_n C dX14_back_117 rfl (by decide) rfl ?_
        refine gf_X14_298 C dX14_back_118 kdR_0 (fun z118 => ?_)
        exact g_iret C hr dX14_back_121 ⟨_, rfl, hw⟩
      · refine g_aload_n C dX14_back_56 rfl (by decide) rfl ?_
        refine gw_X14_63 C dX14_back_57 kdR_0 wwR_0_53 ?_
        refine g_iload_n C dX14_back_60 rfl rfl ?_
        refine g_aload_n C dX14_back_61 rfl (by decide) rfl ?_
        refine gw_X14_139 C dX14_back_62 kdR_0 wwR_0_99 ?_
        refine g_iconst C ⟨by decide, by decide⟩ dX14_back_65 ?_
        refine g_iload_n C dX14_back_66 rfl rfl ?_
        refine g_imul C dX14_back_67 ?_
        obtain ⟨⟨b3, b3b⟩, hw⟩ := hw
        refine g_iaload C dX14_back_68 kdR_40 b3 b3b (fun z68 => ?_)
        obtain ⟨⟨b4, b4b⟩, hw⟩ := hw
        refine g_iastore C dX14_back_69 kdR_17 b4 b4b (fun z => z) ?_
        refine g_heap (fun h3 eh3 => ?_)
        replace hw := hw h3 eh3
        refine g_aload_n C dX14_back_70 rfl (by decide) rfl ?_
        refine gw_X14_66 C dX14_back_71 kdR_0 wwR_0_54 ?_
        refine g_iload_n C dX14_back_74 rfl rfl ?_
        refine g_aload_n C dX14_back_75 rfl (by decide) rfl ?_
        refine gw_X14_139 C dX14_back_76 kdR_0 wwR_0_99 ?_
        refine g_iconst C ⟨by decide, by decide⟩ dX14_back_79 ?_
        refine g_iload_n C dX14_back_80 rfl rfl ?_
        refine g_imul C dX14_back_81 ?_
        refine g_iconst C ⟨by decide, by decide⟩ dX14_back_82 ?_
        refine g_iadd C dX14_back_83 ?_
        obtain ⟨⟨b5, b5b⟩, hw⟩ := hw
        refine g_iaload C dX14_back_84 kdR_40 b5 b5b (fun z84 => ?_)
        obtain ⟨⟨b6, b6b⟩, hw⟩ := hw
        refine g_iastore C dX14_back_85 kdR_18 b6 b6b (fun z => z) ?_
        refine g_heap (fun h4 eh4 => ?_)
        replace hw := hw h4 eh4
        refine g_aload_n C dX14_back_86 rfl (by decide) rfl ?_
        refine gw_X14_69 C dX14_back_87 kdR_0 wwR_0_55 ?_
        refine g_iload_n C dX14_back_90 rfl rfl ?_
        refine g_aload_n C dX14_back_91 rfl (by decide) rfl ?_
        refine gw_X14_139 C dX14_back_92 kdR_0 wwR_0_99 ?_
        refine g_iconst C ⟨by decide, by decide⟩ dX14_back_95 ?_
        refine g_iload_n C dX14_back_96 rfl rfl ?_
        refine g_imul C dX14_back_97 ?_
        refine g_iconst C ⟨by decide, by decide⟩ dX14_back_98 ?_
        refine g_iadd C dX14_back_99 ?_
        obtain ⟨⟨b7, b7b⟩, hw⟩ := hw
        refine g_iaload C dX14_back_100 kdR_40 b7 b7b (fun z100 => ?_)
        obtain ⟨⟨b8, b8b⟩, hw⟩ := hw
        refine g_iastore C dX14_back_101 kdR_19 b8 b8b (fun z => z) ?_
        refine g_heap (fun h5 eh5 => ?_)
        replace hw := hw h5 eh5
        refine g_iincN C dX14_back_102 rfl (by decide) (fun x1 ex1 => ?_)
        replace hw := hw x1 ex1
        refine g_goto C 50 dX14_back_105 rfl ?_
        exact g_sub [1, 0] rfl (hQ _ hw)
  show mG _ p l e _ s m args below meth c _ _ 0 [(0, (2, 0))] [] h
  unfold wp_X14_back at hw
  refine g_aload_n C dX14_back_0 rfl (by decide) rfl ?_
  refine g_iconst C ⟨by decide, by decide⟩ dX14_back_1 ?_
  refine gp_X14_148 C dX14_back_2 kdR_0 (fun z => z) ?_
  refine g_heap (fun h1 eh1 => ?_)
  replace hw := hw h1 eh1
  refine g_aload_n C dX14_back_5 rfl (by decide) rfl ?_
  refine gf_X14_307 C dX14_back_6 kdR_0 (fun z6 => ?_)
  refine g_if_ne C 14 dX14_back_9 rfl hw (fun hw => ?_) (fun hw => ?_)
  · refine g_aload_n C dX14_back_14 rfl (by decide) rfl ?_
    refine g_aload_n C dX14_back_15 rfl (by decide) rfl ?_
    refine gf_X14_571 C dX14_back_16 kdR_0 (fun z16 => ?_)
    refine gp_X14_298 C dX14_back_19 kdR_0 (fun z => z) ?_
    refine g_heap (fun h2 eh2 => ?_)
    replace hw := hw h2 eh2
    refine g_iconst C ⟨by decide, by decide⟩ dX14_back_22 ?_
    refine g_istore_n C dX14_back_23 rfl (by decide) ?_
    exact g_sub [1, 0] rfl (hQ _ hw)
  · refine g_iconst C ⟨by decide, by decide⟩ dX14_back_12 ?_
    exact g_iret C hr dX14_back_13 ⟨_, rfl, hw⟩
set_option maxRecDepth 20000 in
set_option maxHeartbeats 4000000 in
theorem sim_X14_dropHeld {z : Mz} {l : Launch} {h : Mh} {K : Int → Mh → Prop} (hw : wp_X14_dropHeld h K) : mCal (XR z) l yX14_dropHeld cX14_dropHeld 1 (some Jvm.ClassFile.FieldType.int) 0 0 [(2, 0)] h (mKi K) := by
  refine m_entry RX14 rfl (by decide) rfl (fun p e s m args below meth c C hr => ?_)
  show mG _ p l e _ s m args below meth c _ _ 0 [(0, (2, 0))] [] h
  unfold wp_X14_dropHeld at hw
  refine g_aload_n C dX14_dropHeld_0 rfl (by decide) rfl ?_
  refine g_dup C (by show ¬ (2 : Nat) = 1; decide) dX14_dropHeld_1 ?_
  refine gf_X14_361 C dX14_dropHeld_2 kdR_0 (fun z2 => ?_)
  refine g_iconst C ⟨by decide, by decide⟩ dX14_dropHeld_5 ?_
  refine g_isub C dX14_dropHeld_6 ?_
  refine gp_X14_361 C dX14_dropHeld_7 kdR_0 (fun z => z) ?_
  refine g_heap (fun h1 eh1 => ?_)
  replace hw := hw h1 eh1
  refine g_aload_n C dX14_dropHeld_10 rfl (by decide) rfl ?_
  refine gw_X14_93 C dX14_dropHeld_11 kdR_0 wwR_0_64 ?_
  refine g_aload_n C dX14_dropHeld_14 rfl (by decide) rfl ?_
  refine gf_X14_361 C dX14_dropHeld_15 kdR_0 (fun z15 => ?_)
  obtain ⟨⟨b1, b1b⟩, hw⟩ := hw
  refine g_iaload C dX14_dropHeld_18 kdR_27 b1 b1b (fun z18 => ?_)
  exact g_iret C hr dX14_dropHeld_19 ⟨_, rfl, hw⟩
set_option maxRecDepth 20000 in
set_option maxHeartbeats 4000000 in
theorem sim_X14_grown {z : Mz} {l : Launch} {p1 : Int} {p2 : Int} {p3 : Int} {h : Mh} {K : Mh → Prop} (hw : wp_X14_grown p1 p2 p3 h K) : mCal (XR z) l yX14_grown cX14_grown 4 none 0 0 [(2, 0), (0, p1), (0, p2), (0, p3)] h (mKv K) := by
  refine m_entry RX14 rfl (by decide) rfl (fun p e s m args below meth c C hr => ?_)
  show mG _ p l e _ s m args below meth c _ _ 0 [(0, (2, 0)), (1, (0, p1)), (2, (0, p2)), (3, (0, p3))] [] h
  unfold wp_X14_grown at hw
  refine g_aload_n C dX14_grown_0 rfl (by decide) rfl ?_
  refine gw_X14_81 C dX14_grown_1 kdR_0 wwR_0_59 ?_
  refine g_bipush C ⟨by decide, by decide⟩ (by decide) dX14_grown_4 ?_
  refine g_aload_n C dX14_grown_6 rfl (by decide) rfl ?_
  refine gf_X14_233 C dX14_grown_7 kdR_0 (fun z7 => ?_)
  refine g_iadd C dX14_grown_10 ?_
  refine g_iload_n C dX14_grown_11 rfl rfl ?_
  obtain ⟨⟨b1, b1b⟩, hw⟩ := hw
  refine g_iastore C dX14_grown_12 kdR_23 b1 b1b (fun z => z) ?_
  refine g_heap (fun h1 eh1 => ?_)
  replace hw := hw h1 eh1
  refine g_aload_n C dX14_grown_13 rfl (by decide) rfl ?_
  refine gw_X14_84 C dX14_grown_14 kdR_0 wwR_0_60 ?_
  refine g_bipush C ⟨by decide, by decide⟩ (by decide) dX14_grown_17 ?_
  refine g_aload_n C dX14_grown_19 rfl (by decide) rfl ?_
  refine gf_X14_233 C dX14_grown_20 kdR_0 (fun z20 => ?_)
  refine g_iadd C dX14_grown_23 ?_
  refine g_iload_n C dX14_grown_24 rfl rfl ?_
  obtain ⟨⟨b2, b2b⟩, hw⟩ := hw
  refine g_iastore C dX14_grown_25 kdR_24 b2 b2b (fun z => z) ?_
  refine g_heap (fun h2 eh2 => ?_)
  replace hw := hw h2 eh2
  refine g_aload_n C dX14_grown_26 rfl (by decide) rfl ?_
  refine gw_X14_87 C dX14_grown_27 kdR_0 wwR_0_61 ?_
  refine g_bipush C ⟨by decide, by decide⟩ (by decide) dX14_grown_30 ?_
  refine g_aload_n C dX14_grown_32 rfl (by decide) rfl ?_
  refine gf_X14_233 C dX14_grown_33 kdR_0 (fun z33 => ?_)
  refine g_iadd C dX14_grown_36 ?_
  refine g_iload_n C dX14_grown_37 rfl rfl ?_
  obtain ⟨⟨b3, b3b⟩, hw⟩ := hw
  refine g_iastore C dX14_grown_38 kdR_25 b3 b3b (fun z => z) ?_
  refine g_heap (fun h3 eh3 => ?_)
  replace hw := hw h3 eh3
  refine g_aload_n C dX14_grown_39 rfl (by decide) rfl ?_
  refine gw_X14_93 C dX14_grown_40 kdR_0 wwR_0_64 ?_
  refine g_aload_n C dX14_grown_43 rfl (by decide) rfl ?_
  refine gf_X14_361 C dX14_grown_44 kdR_0 (fun z44 => ?_)
  refine g_aload_n C dX14_grown_47 rfl (by decide) rfl ?_
  refine gf_X14_233 C dX14_grown_48 kdR_0 (fun z48 => ?_)
  obtain ⟨⟨b4, b4b⟩, hw⟩ := hw
  refine g_iastore C dX14_grown_51 kdR_27 b4 b4b (fun z => z) ?_
  refine g_heap (fun h4 eh4 => ?_)
  replace hw := hw h4 eh4
  refine g_aload_n C dX14_grown_52 rfl (by decide) rfl ?_
  refine g_dup C (by show ¬ (2 : Nat) = 1; decide) dX14_grown_53 ?_
  refine gf_X14_361 C dX14_grown_54 kdR_0 (fun z54 => ?_)
  refine g_iconst C ⟨by decide, by decide⟩ dX14_grown_57 ?_
  refine g_iadd C dX14_grown_58 ?_
  refine gp_X14_361 C dX14_grown_59 kdR_0 (fun z => z) ?_
  refine g_heap (fun h5 eh5 => ?_)
  replace hw := hw h5 eh5
  refine g_aload_n C dX14_grown_62 rfl (by decide) rfl ?_
  refine g_dup C (by show ¬ (2 : Nat) = 1; decide) dX14_grown_63 ?_
  refine gf_X14_233 C dX14_grown_64 kdR_0 (fun z64 => ?_)
  refine g_iconst C ⟨by decide, by decide⟩ dX14_grown_67 ?_
  refine g_iadd C dX14_grown_68 ?_
  refine gp_X14_233 C dX14_grown_69 kdR_0 (fun z => z) ?_
  refine g_heap (fun h6 eh6 => ?_)
  replace hw := hw h6 eh6
  exact g_vret C hr dX14_grown_72 ⟨rfl, hw⟩
set_option maxRecDepth 20000 in
set_option maxHeartbeats 4000000 in
theorem sim_X14_rank {z : Mz} {l : Launch} {p0 : Int} {h : Mh} {K : Int → Mh → Prop} (hw : wp_X14_rank p0 h K) : mCal (XR z) l yX14_rank cX14_rank 1 (some Jvm.ClassFile.FieldType.int) 0 0 [(0, p0)] h (mKi K) := by
  refine m_entry RX14 rfl (by decide) rfl (fun p e s m args below meth c C hr => ?_)
  show mG _ p l e _ s m args below meth c _ _ 0 [(0, (0, p0))] [] h
  unfold wp_X14_rank at hw
  refine g_iload_n C dX14_rank_0 rfl rfl ?_
  refine g_bipush C ⟨by decide, by decide⟩ (by decide) dX14_rank_1 ?_
  refine g_icmp_lt C 11 dX14_rank_3 rfl hw (fun hw => ?_) (fun hw => ?_)
  · refine g_iload_n C dX14_rank_11 rfl rfl ?_
    refine g_bipush C ⟨by decide, by decide⟩ (by decide) dX14_rank_12 ?_
    refine g_icmp_lt C 21 dX14_rank_14 rfl hw (fun hw => ?_) (fun hw => ?_)
    · refine g_iload_n C dX14_rank_21 rfl rfl ?_
      refine g_iconst C ⟨by decide, by decide⟩ dX14_rank_22 ?_
      refine g_icmp_lt C 30 dX14_rank_23 rfl hw (fun hw => ?_) (fun hw => ?_)
      · refine g_iload_n C dX14_rank_30 rfl rfl ?_
        refine g_iconst C ⟨by decide, by decide⟩ dX14_rank_31 ?_
        refine g_icmp_ne C 39 dX14_rank_32 rfl hw (fun hw => ?_) (fun hw => ?_)
        · refine g_iload_n C dX14_rank_39 rfl rfl ?_
          refine g_iconst C ⟨by decide, by decide⟩ dX14_rank_40 ?_
          refine g_icmp_ne C 48 dX14_rank_41 rfl hw (fun hw => ?_) (fun hw => ?_)
          · refine g_iload_n C dX14_rank_48 rfl rfl ?_
            refine g_iconst C ⟨by decide, by decide⟩ dX14_rank_49 ?_
            refine g_icmp_ne C 57 dX14_rank_50 rfl hw (fun hw => ?_) (fun hw => ?_)
            · refine g_iconst C ⟨by decide, by decide⟩ dX14_rank_57 ?_
              exact g_iret C hr dX14_rank_58 ⟨_, rfl, hw⟩
            · refine g_iconst C ⟨by decide, by decide⟩ dX14_rank_53 ?_
              refine g_goto C 58 dX14_rank_54 rfl ?_
              exact g_iret C hr dX14_rank_58 ⟨_, rfl, hw⟩
          · refine g_iconst C ⟨by decide, by decide⟩ dX14_rank_44 ?_
            refine g_goto C 58 dX14_rank_45 rfl ?_
            exact g_iret C hr dX14_rank_58 ⟨_, rfl, hw⟩
        · refine g_iconst C ⟨by decide, by decide⟩ dX14_rank_35 ?_
          refine g_goto C 58 dX14_rank_36 rfl ?_
          exact g_iret C hr dX14_rank_58 ⟨_, rfl, hw⟩
      · refine g_iconst C ⟨by decide, by decide⟩ dX14_rank_26 ?_
        refine g_goto C 58 dX14_rank_27 rfl ?_
        exact g_iret C hr dX14_rank_58 ⟨_, rfl, hw⟩
    · refine g_iconst C ⟨by decide, by decide⟩ dX14_rank_17 ?_
      refine g_goto C 58 dX14_rank_18 rfl ?_
      exact g_iret C hr dX14_rank_58 ⟨_, rfl, hw⟩
  · refine g_bipush C ⟨by decide, by decide⟩ (by decide) dX14_rank_6 ?_
    refine g_goto C 58 dX14_rank_8 rfl ?_
    exact g_iret C hr dX14_rank_58 ⟨_, rfl, hw⟩
set_option maxRecDepth 20000 in
set_option maxHeartbeats 4000000 in
theorem sim_X14_bind {z : Mz} {l : Launch} {p1 : Int} {h : Mh} {K : Mh → Prop} (hw : wp_X14_bind p1 h K) : mCal (XR z) l yX14_bind cX14_bind 5 none 1 23 [(2, 0), (0, p1)] h (mKv K) := by
  refine m_entry RX14 rfl (by decide) rfl (fun p e s m args below meth c C hr => ?_)
  have hQ : ∀ x, Lfp (F_X14_bind p1 K) x → (match x.1, x.2.1 with | 0, [] => mG (XR z) p l e { frames := 1, cells := 0, slots := 0, locals := 23 } s m args below meth c 5 (mMQ (XR z) (mKv K) below args s) 0 [(0, (2, 0)), (1, (0, p1))] [] x.2.2 | _, _ => True) := by
    intro x hx
    refine Lfp.ind (fun x => (match x.1, x.2.1 with | 0, [] => mG (XR z) p l e { frames := 1, cells := 0, slots := 0, locals := 23 } s m args below meth c 5 (mMQ (XR z) (mKv K) below args s) 0 [(0, (2, 0)), (1, (0, p1))] [] x.2.2 | _, _ => True)) ?_ hx
    clear hx x
    intro Z x hQ hw
    rcases hw with ⟨h, rfl, hw⟩
    · show mG (XR z) p l e { frames := 1, cells := 0, slots := 0, locals := 23 } s m args below meth c 5 (mMQ (XR z) (mKv K) below args s) 0 [(0, (2, 0)), (1, (0, p1))] [] h
      unfold B_X14_bind_0 at hw
      refine g_aload_n C dX14_bind_0 rfl (by decide) rfl ?_
      refine gf_X14_364 C dX14_bind_1 kdR_0 (fun z1 => ?_)
      refine g_if_le C 76 dX14_bind_4 rfl hw (fun hw => ?_) (fun hw => ?_)
      · exact g_vret C hr dX14_bind_76 ⟨rfl, hw⟩
      · refine g_aload_n C dX14_bind_7 rfl (by decide) rfl ?_
        refine gw_X14_90 C dX14_bind_8 kdR_0 wwR_0_63 ?_
        refine g_aload_n C dX14_bind_11 rfl (by decide) rfl ?_
        refine gf_X14_364 C dX14_bind_12 kdR_0 (fun z12 => ?_)
        refine g_iconst C ⟨by decide, by decide⟩ dX14_bind_15 ?_
        refine g_isub C dX14_bind_16 ?_
        obtain ⟨⟨b3, b3b⟩, hw⟩ := hw
        refine g_iaload C dX14_bind_17 kdR_26 b3 b3b (fun z17 => ?_)
        refine g_callSi C [(0, (h 26 (w32 ((h 0 65) - 1))))] (sim_X14_rank hw) k_2012 k_2013 k_147 k_2014 hdS_X14_rank rfl rfl rfl rfl rfl dX14_bind_18 ?_
        intro x1 h1 hw
        refine g_iload_n C dX14_bind_21 rfl rfl ?_
        refine g_icmp_lt C 76 dX14_bind_22 rfl hw (fun hw => ?_) (fun hw => ?_)
        · exact g_vret C hr dX14_bind_76 ⟨rfl, hw⟩
        · refine g_aload_n C dX14_bind_25 rfl (by decide) rfl ?_
          refine g_dup C (by show ¬ (2 : Nat) = 1; decide) dX14_bind_26 ?_
          refine gf_X14_364 C dX14_bind_27 kdR_0 (fun z27 => ?_)
          refine g_iconst C ⟨by decide, by decide⟩ dX14_bind_30 ?_
          refine g_isub C dX14_bind_31 ?_
          refine gp_X14_364 C dX14_bind_32 kdR_0 (fun z => z) ?_
          refine g_heap (fun h2 eh2 => ?_)
          replace hw := hw h2 eh2
          refine g_aload_n C dX14_bind_35 rfl (by decide) rfl ?_
          refine gw_X14_90 C dX14_bind_36 kdR_0 wwR_0_63 ?_
          refine g_aload_n C dX14_bind_39 rfl (by decide) rfl ?_
          refine gf_X14_364 C dX14_bind_40 kdR_0 (fun z40 => ?_)
          obtain ⟨⟨b4, b4b⟩, hw⟩ := hw
          refine g_iaload C dX14_bind_43 kdR_26 b4 b4b (fun z43 => ?_)
          refine g_topi (fun x2 ex2 => ?_)
          replace hw := hw x2 ex2
          refine g_istore_n C dX14_bind_44 rfl (by decide) ?_
          refine g_iload_n C dX14_bind_45 rfl rfl ?_
          refine g_iconst C ⟨by decide, by decide⟩ dX14_bind_46 ?_
          refine g_icmp_ne C 54 dX14_bind_47 rfl hw (fun hw => ?_) (fun hw => ?_)
          · refine g_aload_n C dX14_bind_54 rfl (by decide) rfl ?_
            refine g_callVi C [] (sim_X14_dropHeld hw) k_2015 k_2017 k_104 k_147 k_2018 hdV_X14_dropHeld rfl rfl (by decide) rfl kdR_0 rfl rfl rfl dX14_bind_55 ?_
            intro x3 h3 hw
            refine g_istore_n C dX14_bind_58 rfl (by decide) ?_
            refine g_aload_n C dX14_bind_59 rfl (by decide) rfl ?_
            refine g_callVi C [] (sim_X14_dropHeld hw) k_2015 k_2017 k_104 k_147 k_2018 hdV_X14_dropHeld rfl rfl (by decide) rfl kdR_0 rfl rfl rfl dX14_bind_60 ?_
            intro x4 h4 hw
            refine g_istore C dX14_bind_63 (by decide) ?_
            refine g_aload_n C dX14_bind_65 rfl (by decide) rfl ?_
            refine g_iload_n C dX14_bind_66 rfl rfl ?_
            refine g_iload C dX14_bind_67 rfl ?_
            refine g_iload_n C dX14_bind_69 rfl rfl ?_
            refine g_callVv C [(0, x2), (0, x4), (0, x3)] (sim_X14_grown hw) k_2000 k_2002 k_101 k_147 k_2003 hdV_X14_grown rfl rfl (by decide) rfl kdR_0 rfl rfl rfl dX14_bind_70 ?_
            intro h5 hw
            refine g_goto C 0 dX14_bind_73 rfl ?_
            exact g_sub [0, 1] rfl (hQ _ hw)
          · refine g_iconst C ⟨by decide, by decide⟩ dX14_bind_50 ?_
            refine g_goto C 58 dX14_bind_51 rfl ?_
            refine g_istore_n C dX14_bind_58 rfl (by decide) ?_
            refine g_aload_n C dX14_bind_59 rfl (by decide) rfl ?_
            refine g_callVi C [] (sim_X14_dropHeld hw) k_2015 k_2017 k_104 k_147 k_2018 hdV_X14_dropHeld rfl rfl (by decide) rfl kdR_0 rfl rfl rfl dX14_bind_60 ?_
            intro x5 h6 hw
            refine g_istore C dX14_bind_63 (by decide) ?_
            refine g_aload_n C dX14_bind_65 rfl (by decide) rfl ?_
            refine g_iload_n C dX14_bind_66 rfl rfl ?_
            refine g_iload C dX14_bind_67 rfl ?_
            refine g_iload_n C dX14_bind_69 rfl rfl ?_
            refine g_callVv C [(0, x2), (0, x5), (0, (-1))] (sim_X14_grown hw) k_2000 k_2002 k_101 k_147 k_2003 hdV_X14_grown rfl rfl (by decide) rfl kdR_0 rfl rfl rfl dX14_bind_70 ?_
            intro h7 hw
            refine g_goto C 0 dX14_bind_73 rfl ?_
            exact g_sub [0, 1] rfl (hQ _ hw)
  show mG _ p l e _ s m args below meth c _ _ 0 [(0, (2, 0)), (1, (0, p1))] [] h
  unfold wp_X14_bind at hw
  refine g_aload_n C dX14_bind_0 rfl (by decide) rfl ?_
  refine gf_X14_364 C dX14_bind_1 kdR_0 (fun z1 => ?_)
  refine g_if_le C 76 dX14_bind_4 rfl hw (fun hw => ?_) (fun hw => ?_)
  · exact g_vret C hr dX14_bind_76 ⟨rfl, hw⟩
  · refine g_aload_n C dX14_bind_7 rfl (by decide) rfl ?_
    refine gw_X14_90 C dX14_bind_8 kdR_0 wwR_0_63 ?_
    refine g_aload_n C dX14_bind_11 rfl (by decide) rfl ?_
    refine gf_X14_364 C dX14_bind_12 kdR_0 (fun z12 => ?_)
    refine g_iconst C ⟨by decide, by decide⟩ dX14_bind_15 ?_
    refine g_isub C dX14_bind_16 ?_
    obtain ⟨⟨b1, b1b⟩, hw⟩ := hw
    refine g_iaload C dX14_bind_17 kdR_26 b1 b1b (fun z17 => ?_)
    refine g_callSi C [(0, (h 26 (w32 ((h 0 65) - 1))))] (sim_X14_rank hw) k_2012 k_2013 k_147 k_2014 hdS_X14_rank rfl rfl rfl rfl rfl dX14_bind_18 ?_
    intro x1 h1 hw
    refine g_iload_n C dX14_bind_21 rfl rfl ?_
    refine g_icmp_lt C 76 dX14_bind_22 rfl hw (fun hw => ?_) (fun hw => ?_)
    · exact g_vret C hr dX14_bind_76 ⟨rfl, hw⟩
    · refine g_aload_n C dX14_bind_25 rfl (by decide) rfl ?_
      refine g_dup C (by show ¬ (2 : Nat) = 1; decide) dX14_bind_26 ?_
      refine gf_X14_364 C dX14_bind_27 kdR_0 (fun z27 => ?_)
      refine g_iconst C ⟨by decide, by decide⟩ dX14_bind_30 ?_
      refine g_isub C dX14_bind_31 ?_
      refine gp_X14_364 C dX14_bind_32 kdR_0 (fun z => z) ?_
      refine g_heap (fun h2 eh2 => ?_)
      replace hw := hw h2 eh2
      refine g_aload_n C dX14_bind_35 rfl (by decide) rfl ?_
      refine gw_X14_90 C dX14_bind_36 kdR_0 wwR_0_63 ?_
      refine g_aload_n C dX14_bind_39 rfl (by decide) rfl ?_
      refine gf_X14_364 C dX14_bind_40 kdR_0 (fun z40 => ?_)
      obtain ⟨⟨b2, b2b⟩, hw⟩ := hw
      refine g_iaload C dX14_bind_43 kdR_26 b2 b2b (fun z43 => ?_)
      refine g_topi (fun x2 ex2 => ?_)
      replace hw := hw x2 ex2
      refine g_istore_n C dX14_bind_44 rfl (by decide) ?_
      refine g_iload_n C dX14_bind_45 rfl rfl ?_
      refine g_iconst C ⟨by decide, by decide⟩ dX14_bind_46 ?_
      refine g_icmp_ne C 54 dX14_bind_47 rfl hw (fun hw => ?_) (fun hw => ?_)
      · refine g_aload_n C dX14_bind_54 rfl (by decide) rfl ?_
        refine g_callVi C [] (sim_X14_dropHeld hw) k_2015 k_2017 k_104 k_147 k_2018 hdV_X14_dropHeld rfl rfl (by decide) rfl kdR_0 rfl rfl rfl dX14_bind_55 ?_
        intro x3 h3 hw
        refine g_istore_n C dX14_bind_58 rfl (by decide) ?_
        refine g_aload_n C dX14_bind_59 rfl (by decide) rfl ?_
        refine g_callVi C [] (sim_X14_dropHeld hw) k_2015 k_2017 k_104 k_147 k_2018 hdV_X14_dropHeld rfl rfl (by decide) rfl kdR_0 rfl rfl rfl dX14_bind_60 ?_
        intro x4 h4 hw
        refine g_istore C dX14_bind_63 (by decide) ?_
        refine g_aload_n C dX14_bind_65 rfl (by decide) rfl ?_
        refine g_iload_n C dX14_bind_66 rfl rfl ?_
        refine g_iload C dX14_bind_67 rfl ?_
        refine g_iload_n C dX14_bind_69 rfl rfl ?_
        refine g_callVv C [(0, x2), (0, x4), (0, x3)] (sim_X14_grown hw) k_2000 k_2002 k_101 k_147 k_2003 hdV_X14_grown rfl rfl (by decide) rfl kdR_0 rfl rfl rfl dX14_bind_70 ?_
        intro h5 hw
        refine g_goto C 0 dX14_bind_73 rfl ?_
        exact g_sub [0, 1] rfl (hQ _ hw)
      · refine g_iconst C ⟨by decide, by decide⟩ dX14_bind_50 ?_
        refine g_goto C 58 dX14_bind_51 rfl ?_
        refine g_istore_n C dX14_bind_58 rfl (by decide) ?_
        refine g_aload_n C dX14_bind_59 rfl (by decide) rfl ?_
        refine g_callVi C [] (sim_X14_dropHeld hw) k_2015 k_2017 k_104 k_147 k_2018 hdV_X14_dropHeld rfl rfl (by decide) rfl kdR_0 rfl rfl rfl dX14_bind_60 ?_
        intro x5 h6 hw
        refine g_istore C dX14_bind_63 (by decide) ?_
        refine g_aload_n C dX14_bind_65 rfl (by decide) rfl ?_
        refine g_iload_n C dX14_bind_66 rfl rfl ?_
        refine g_iload C dX14_bind_67 rfl ?_
        refine g_iload_n C dX14_bind_69 rfl rfl ?_
        refine g_callVv C [(0, x2), (0, x5), (0, (-1))] (sim_X14_grown hw) k_2000 k_2002 k_101 k_147 k_2003 hdV_X14_grown rfl rfl (by decide) rfl kdR_0 rfl rfl rfl dX14_bind_70 ?_
        intro h7 hw
        refine g_goto C 0 dX14_bind_73 rfl ?_
        exact g_sub [0, 1] rfl (hQ _ hw)
set_option maxRecDepth 20000 in
set_option maxHeartbeats 4000000 in
theorem sim_X14_bounded {z : Mz} {l : Launch} {p1 : Int} {h : Mh} {K : Int → Mh → Prop} (hw : wp_X14_bounded p1 h K) : mCal (XR z) l yX14_bounded cX14_bounded 3 (some Jvm.ClassFile.FieldType.long) 0 0 [(2, 0), (1, p1)] h (mKl K) := by
  refine m_entry RX14 rfl (by decide) rfl (fun p e s m args below meth c C hr => ?_)
  show mG _ p l e _ s m args below meth c _ _ 0 [(0, (2, 0)), (1, (1, p1))] [] h
  unfold wp_X14_bounded at hw
  refine g_aload_n C dX14_bounded_0 rfl (by decide) rfl ?_
  refine g_aload_n C dX14_bounded_1 rfl (by decide) rfl ?_
  refine gf_X14_407 C dX14_bounded_2 kdR_0 (fun z2 => ?_)
  refine g_if_ne C 24 dX14_bounded_5 rfl hw (fun hw => ?_) (fun hw => ?_)
  · refine g_iconst C ⟨by decide, by decide⟩ dX14_bounded_24 ?_
    refine g_goto C 29 dX14_bounded_25 rfl ?_
    refine gp_X14_407 C dX14_bounded_29 kdR_0 (fun _ => (Or.inr rfl)) ?_
    refine g_heap (fun h1 eh1 => ?_)
    replace hw := hw h1 eh1
    refine g_aload_n C dX14_bounded_32 rfl (by decide) rfl ?_
    refine gf_X14_407 C dX14_bounded_33 kdR_0 (fun z33 => ?_)
    refine g_if_eq C 43 dX14_bounded_36 rfl hw (fun hw => ?_) (fun hw => ?_)
    · refine g_lload_n C dX14_bounded_43 rfl rfl ?_
      exact g_lret C hr dX14_bounded_44 ⟨_, rfl, hw⟩
    · refine g_lconst C 0 (Or.inl rfl) rfl dX14_bounded_39 ?_
      refine g_goto C 44 dX14_bounded_40 rfl ?_
      exact g_lret C hr dX14_bounded_44 ⟨_, rfl, hw⟩
  · refine g_lload_n C dX14_bounded_8 rfl rfl ?_
    refine g_ldc2 C ⟨by decide, by decide⟩ k_2116 dX14_bounded_9 ?_
    refine g_lcmp C dX14_bounded_12 ?_
    refine g_if_gt C 24 dX14_bounded_13 rfl hw (fun hw => ?_) (fun hw => ?_)
    · refine g_iconst C ⟨by decide, by decide⟩ dX14_bounded_24 ?_
      refine g_goto C 29 dX14_bounded_25 rfl ?_
      refine gp_X14_407 C dX14_bounded_29 kdR_0 (fun _ => (Or.inr rfl)) ?_
      refine g_heap (fun h2 eh2 => ?_)
      replace hw := hw h2 eh2
      refine g_aload_n C dX14_bounded_32 rfl (by decide) rfl ?_
      refine gf_X14_407 C dX14_bounded_33 kdR_0 (fun z33 => ?_)
      refine g_if_eq C 43 dX14_bounded_36 rfl hw (fun hw => ?_) (fun hw => ?_)
      · refine g_lload_n C dX14_bounded_43 rfl rfl ?_
        exact g_lret C hr dX14_bounded_44 ⟨_, rfl, hw⟩
      · refine g_lconst C 0 (Or.inl rfl) rfl dX14_bounded_39 ?_
        refine g_goto C 44 dX14_bounded_40 rfl ?_
        exact g_lret C hr dX14_bounded_44 ⟨_, rfl, hw⟩
    · refine g_lload_n C dX14_bounded_16 rfl rfl ?_
      refine g_ldc2 C ⟨by decide, by decide⟩ k_2117 dX14_bounded_17 ?_
      refine g_lcmp C dX14_bounded_20 ?_
      refine g_if_ge C 28 dX14_bounded_21 rfl hw (fun hw => ?_) (fun hw => ?_)
      · refine g_iconst C ⟨by decide, by decide⟩ dX14_bounded_28 ?_
        refine gp_X14_407 C dX14_bounded_29 kdR_0 (fun _ => (Or.inl rfl)) ?_
        refine g_heap (fun h3 eh3 => ?_)
        replace hw := hw h3 eh3
        refine g_aload_n C dX14_bounded_32 rfl (by decide) rfl ?_
        refine gf_X14_407 C dX14_bounded_33 kdR_0 (fun z33 => ?_)
        refine g_if_eq C 43 dX14_bounded_36 rfl hw (fun hw => ?_) (fun hw => ?_)
        · refine g_lload_n C dX14_bounded_43 rfl rfl ?_
          exact g_lret C hr dX14_bounded_44 ⟨_, rfl, hw⟩
        · refine g_lconst C 0 (Or.inl rfl) rfl dX14_bounded_39 ?_
          refine g_goto C 44 dX14_bounded_40 rfl ?_
          exact g_lret C hr dX14_bounded_44 ⟨_, rfl, hw⟩
      · refine g_iconst C ⟨by decide, by decide⟩ dX14_bounded_24 ?_
        refine g_goto C 29 dX14_bounded_25 rfl ?_
        refine gp_X14_407 C dX14_bounded_29 kdR_0 (fun _ => (Or.inr rfl)) ?_
        refine g_heap (fun h4 eh4 => ?_)
        replace hw := hw h4 eh4
        refine g_aload_n C dX14_bounded_32 rfl (by decide) rfl ?_
        refine gf_X14_407 C dX14_bounded_33 kdR_0 (fun z33 => ?_)
        refine g_if_eq C 43 dX14_bounded_36 rfl hw (fun hw => ?_) (fun hw => ?_)
        · refine g_lload_n C dX14_bounded_43 rfl rfl ?_
          exact g_lret C hr dX14_bounded_44 ⟨_, rfl, hw⟩
        · refine g_lconst C 0 (Or.inl rfl) rfl dX14_bounded_39 ?_
          refine g_goto C 44 dX14_bounded_40 rfl ?_
          exact g_lret C hr dX14_bounded_44 ⟨_, rfl, hw⟩
set_option maxRecDepth 20000 in
set_option maxHeartbeats 4000000 in
theorem sim_X14_cell {z : Mz} {l : Launch} {p1 : Int} {p2 : Int} {h : Mh} {K : Int → Mh → Prop} (hw : wp_X14_cell p1 p2 h K) : mCal (XR z) l yX14_cell cX14_cell 5 (some Jvm.ClassFile.FieldType.int) 2 41 [(2, 0), (0, p1), (0, p2)] h (mKi K) := by
  refine m_entry RX14 rfl (by decide) rfl (fun p e s m args below meth c C hr => ?_)
  have hQ : ∀ x, Lfp (F_X14_cell p1 p2 K) x → (match x.1, x.2.1 with | 73, [v4] => mG (XR z) p l e { frames := 2, cells := 0, slots := 0, locals := 41 } s m args below meth c 5 (mMQ (XR z) (mKi K) below args s) 73 [(4, (0, v4)), (0, (2, 0)), (1, (0, p1)), (2, (0, p2))] [] x.2.2 | 118, [v3, v4] => mG (XR z) p l e { frames := 2, cells := 0, slots := 0, locals := 41 } s m args below meth c 5 (mMQ (XR z) (mKi K) below args s) 118 [(3, (0, v3)), (4, (0, v4)), (0, (2, 0)), (1, (0, p1)), (2, (0, p2))] [] x.2.2 | _, _ => True) := by
    intro x hx
    refine Lfp.ind (fun x => (match x.1, x.2.1 with | 73, [v4] => mG (XR z) p l e { frames := 2, cells := 0, slots := 0, locals := 41 } s m args below meth c 5 (mMQ (XR z) (mKi K) below args s) 73 [(4, (0, v4)), (0, (2, 0)), (1, (0, p1)), (2, (0, p2))] [] x.2.2 | 118, [v3, v4] => mG (XR z) p l e { frames := 2, cells := 0, slots := 0, locals := 41 } s m args below meth c 5 (mMQ (XR z) (mKi K) below args s) 118 [(3, (0, v3)), (4, (0, v4)), (0, (2, 0)), (1, (0, p1)), (2, (0, p2))] [] x.2.2 | _, _ => True)) ?_ hx
    clear hx x
    intro Z x hQ hw
    rcases hw with ⟨v4, h, rfl, hw⟩ | ⟨v3, v4, h, rfl, hw⟩
    · show mG (XR z) p l e { frames := 2, cells := 0, slots := 0, locals := 41 } s m args below meth c 5 (mMQ (XR z) (mKi K) below args s) 73 [(4, (0, v4)), (0, (2, 0)), (1, (0, p1)), (2, (0, p2))] [] h
      unfold B_X14_cell_73 at hw
      refine g_iload C dX14_cell_73 rfl ?_
      refine g_aload_n C dX14_cell_75 rfl (by decide) rfl ?_
      refine gf_X14_264 C dX14_cell_76 kdR_0 (fun z76 => ?_)
      refine g_icmp_ge C 99 dX14_cell_79 rfl hw (fun hw => ?_) (fun hw => ?_)
      · refine g_iload C dX14_cell_99 rfl ?_
        refine g_aload_n C dX14_cell_101 rfl (by decide) rfl ?_
        refine gf_X14_264 C dX14_cell_102 kdR_0 (fun z102 => ?_)
        refine g_icmp_ge C 113 dX14_cell_105 rfl hw (fun hw => ?_) (fun hw => ?_)
        · refine g_iconst C ⟨by decide, by decide⟩ dX14_cell_113 ?_
          exact g_iret C hr dX14_cell_114 ⟨_, rfl, hw⟩
        · refine g_iload C dX14_cell_108 rfl ?_
          refine g_goto C 114 dX14_cell_110 rfl ?_
          exact g_iret C hr dX14_cell_114 ⟨_, rfl, hw⟩
      · refine g_aload_n C dX14_cell_82 rfl (by decide) rfl ?_
        refine gw_X14_54 C dX14_cell_83 kdR_0 wwR_0_50 ?_
        refine g_iload C dX14_cell_86 rfl ?_
        obtain ⟨⟨b3, b3b⟩, hw⟩ := hw
        refine g_iaload C dX14_cell_88 kdR_14 b3 b3b (fun z88 => ?_)
        refine g_iload_n C dX14_cell_89 rfl rfl ?_
        refine g_icmp_eq C 99 dX14_cell_90 rfl hw (fun hw => ?_) (fun hw => ?_)
        · refine g_iload C dX14_cell_99 rfl ?_
          refine g_aload_n C dX14_cell_101 rfl (by decide) rfl ?_
          refine gf_X14_264 C dX14_cell_102 kdR_0 (fun z102 => ?_)
          refine g_icmp_ge C 113 dX14_cell_105 rfl hw (fun hw => ?_) (fun hw => ?_)
          · refine g_iconst C ⟨by decide, by decide⟩ dX14_cell_113 ?_
            exact g_iret C hr dX14_cell_114 ⟨_, rfl, hw⟩
          · refine g_iload C dX14_cell_108 rfl ?_
            refine g_goto C 114 dX14_cell_110 rfl ?_
            exact g_iret C hr dX14_cell_114 ⟨_, rfl, hw⟩
        · refine g_iincN C dX14_cell_93 rfl (by decide) (fun x1 ex1 => ?_)
          replace hw := hw x1 ex1
          refine g_goto C 73 dX14_cell_96 rfl ?_
          exact g_sub [4, 0, 1, 2] rfl (hQ _ hw)
    · show mG (XR z) p l e { frames := 2, cells := 0, slots := 0, locals := 41 } s m args below meth c 5 (mMQ (XR z) (mKi K) below args s) 118 [(3, (0, v3)), (4, (0, v4)), (0, (2, 0)), (1, (0, p1)), (2, (0, p2))] [] h
      unfold B_X14_cell_118 at hw
      refine g_iload C dX14_cell_118 rfl ?_
      refine g_aload_n C dX14_cell_120 rfl (by decide) rfl ?_
      refine gf_X14_298 C dX14_cell_121 kdR_0 (fun z121 => ?_)
      refine g_icmp_ge C 152 dX14_cell_124 rfl hw (fun hw => ?_) (fun hw => ?_)
      · refine g_iload_n C dX14_cell_152 rfl rfl ?_
        exact g_iret C hr dX14_cell_153 ⟨_, rfl, hw⟩
      · refine g_iload_n C dX14_cell_127 rfl rfl ?_
        refine g_aload_n C dX14_cell_128 rfl (by decide) rfl ?_
        refine gw_X14_66 C dX14_cell_129 kdR_0 wwR_0_54 ?_
        refine g_iload C dX14_cell_132 rfl ?_
        obtain ⟨⟨b4, b4b⟩, hw⟩ := hw
        refine g_iaload C dX14_cell_134 kdR_18 b4 b4b (fun z134 => ?_)
        refine g_iload_n C dX14_cell_135 rfl rfl ?_
        refine g_icmp_ne C 143 dX14_cell_136 rfl hw (fun hw => ?_) (fun hw => ?_)
        · refine g_iconst C ⟨by decide, by decide⟩ dX14_cell_143 ?_
          refine g_iadd C dX14_cell_144 ?_
          refine g_topi (fun x1 ex1 => ?_)
          replace hw := hw x1 ex1
          refine g_istore_n C dX14_cell_145 rfl (by decide) ?_
          refine g_iincN C dX14_cell_146 rfl (by decide) (fun x2 ex2 => ?_)
          replace hw := hw x2 ex2
          refine g_goto C 118 dX14_cell_149 rfl ?_
          exact g_sub [3, 4, 0, 1, 2] rfl (hQ _ hw)
        · refine g_iconst C ⟨by decide, by decide⟩ dX14_cell_139 ?_
          refine g_goto C 144 dX14_cell_140 rfl ?_
          refine g_iadd C dX14_cell_144 ?_
          refine g_topi (fun x3 ex3 => ?_)
          replace hw := hw x3 ex3
          refine g_istore_n C dX14_cell_145 rfl (by decide) ?_
          refine g_iincN C dX14_cell_146 rfl (by decide) (fun x4 ex4 => ?_)
          replace hw := hw x4 ex4
          refine g_goto C 118 dX14_cell_149 rfl ?_
          exact g_sub [3, 4, 0, 1, 2] rfl (hQ _ hw)
  show mG _ p l e _ s m args below meth c _ _ 0 [(0, (2, 0)), (1, (0, p1)), (2, (0, p2))] [] h
  unfold wp_X14_cell at hw
  refine g_aload_n C dX14_cell_0 rfl (by decide) rfl ?_
  refine g_iconst C ⟨by decide, by decide⟩ dX14_cell_1 ?_
  refine gp_X14_148 C dX14_cell_2 kdR_0 (fun z => z) ?_
  refine g_heap (fun h1 eh1 => ?_)
  replace hw := hw h1 eh1
  refine g_aload_n C dX14_cell_5 rfl (by decide) rfl ?_
  refine g_iload_n C dX14_cell_6 rfl rfl ?_
  refine g_callVz C [(0, p1)] (sim_X14_isCell hw) k_1565 k_1567 k_72 k_147 k_1568 hdV_X14_isCell rfl rfl (by decide) rfl kdR_0 rfl rfl rfl dX14_cell_7 ?_
  intro x1 h2 zb7 hw
  refine g_if_ne C 15 dX14_cell_10 rfl hw (fun hw => ?_) (fun hw => ?_)
  · refine g_iconst C ⟨by decide, by decide⟩ dX14_cell_15 ?_
    refine g_istore_n C dX14_cell_16 rfl (by decide) ?_
    refine g_iload_n C dX14_cell_17 rfl rfl ?_
    by_cases c0 : p2 = 0
    · rw [if_pos c0] at hw
      refine g_tabIn C 48 0 dX14_cell_18 c0 (by decide) (by decide) rfl rfl ?_
      refine g_aload_n C dX14_cell_48 rfl (by decide) rfl ?_
      refine gw_X14_27 C dX14_cell_49 kdR_0 wwR_0_41 ?_
      refine g_iload_n C dX14_cell_52 rfl rfl ?_
      obtain ⟨⟨b1, b1b⟩, hw⟩ := hw
      refine g_iaload C dX14_cell_53 kdR_5 b1 b1b (fun z53 => ?_)
      exact g_iret C hr dX14_cell_54 ⟨_, rfl, hw⟩
    rw [if_neg c0] at hw
    by_cases c1 : p2 = 1
    · rw [if_pos c1] at hw
      refine g_tabIn C 55 1 dX14_cell_18 c1 (by decide) (by decide) rfl rfl ?_
      refine g_aload_n C dX14_cell_55 rfl (by decide) rfl ?_
      refine gw_X14_30 C dX14_cell_56 kdR_0 wwR_0_42 ?_
      refine g_iload_n C dX14_cell_59 rfl rfl ?_
      obtain ⟨⟨b2, b2b⟩, hw⟩ := hw
      refine g_zaload C dX14_cell_60 kdR_6 b2 b2b (fun z60 => ?_)
      refine g_if_eq C 68 dX14_cell_61 rfl hw (fun hw => ?_) (fun hw => ?_)
      · refine g_iconst C ⟨by decide, by decide⟩ dX14_cell_68 ?_
        exact g_iret C hr dX14_cell_69 ⟨_, rfl, hw⟩
      · refine g_iconst C ⟨by decide, by decide⟩ dX14_cell_64 ?_
        refine g_goto C 69 dX14_cell_65 rfl ?_
        exact g_iret C hr dX14_cell_69 ⟨_, rfl, hw⟩
    rw [if_neg c1] at hw
    by_cases c2 : p2 = 2
    · rw [if_pos c2] at hw
      refine g_tabIn C 70 2 dX14_cell_18 c2 (by decide) (by decide) rfl rfl ?_
      refine g_iconst C ⟨by decide, by decide⟩ dX14_cell_70 ?_
      refine g_istore C dX14_cell_71 (by decide) ?_
      exact g_sub [4, 0, 1, 2] rfl (hQ _ hw)
    rw [if_neg c2] at hw
    by_cases c3 : p2 = 3
    · rw [if_pos c3] at hw
      refine g_tabIn C 115 3 dX14_cell_18 c3 (by decide) (by decide) rfl rfl ?_
      refine g_iconst C ⟨by decide, by decide⟩ dX14_cell_115 ?_
      refine g_istore C dX14_cell_116 (by decide) ?_
      exact g_sub [3, 4, 0, 1, 2] rfl (hQ _ hw)
    rw [if_neg c3] at hw
    refine g_tabOut C 154 dX14_cell_18 (by omega) rfl ?_
    refine g_iconst C ⟨by decide, by decide⟩ dX14_cell_154 ?_
    exact g_iret C hr dX14_cell_155 ⟨_, rfl, hw⟩
  · refine g_iconst C ⟨by decide, by decide⟩ dX14_cell_13 ?_
    exact g_iret C hr dX14_cell_14 ⟨_, rfl, hw⟩
set_option maxRecDepth 20000 in
set_option maxHeartbeats 4000000 in
theorem sim_X14_isDigit {z : Mz} {l : Launch} {p1 : Int} {h : Mh} {K : Int → Mh → Prop} (hw : wp_X14_isDigit p1 h K) : mCal (XR z) l yX14_isDigit cX14_isDigit 2 (some Jvm.ClassFile.FieldType.boolean) 0 0 [(2, 0), (0, p1)] h (mKz K) := by
  refine m_entry RX14 rfl (by decide) rfl (fun p e s m args below meth c C hr => ?_)
  show mG _ p l e _ s m args below meth c _ _ 0 [(0, (2, 0)), (1, (0, p1))] [] h
  unfold wp_X14_isDigit at hw
  refine g_iload_n C dX14_isDigit_0 rfl rfl ?_
  refine g_aload_n C dX14_isDigit_1 rfl (by decide) rfl ?_
  refine gf_X14_160 C dX14_isDigit_2 kdR_0 (fun z2 => ?_)
  refine g_icmp_ge C 34 dX14_isDigit_5 rfl hw (fun hw => ?_) (fun hw => ?_)
  · refine g_iconst C ⟨by decide, by decide⟩ dX14_isDigit_34 ?_
    exact g_zret C hr (Or.inl rfl) dX14_isDigit_35 ⟨_, rfl, (Or.inl rfl), hw⟩
  · refine g_aload_n C dX14_isDigit_8 rfl (by decide) rfl ?_
    refine gw_X14_7 C dX14_isDigit_9 kdR_0 wwR_0_0 ?_
    refine g_iload_n C dX14_isDigit_12 rfl rfl ?_
    obtain ⟨⟨b1, b1b⟩, hw⟩ := hw
    refine g_iaload C dX14_isDigit_13 kdR_1 b1 b1b (fun z13 => ?_)
    refine g_bipush C ⟨by decide, by decide⟩ (by decide) dX14_isDigit_14 ?_
    refine g_icmp_lt C 34 dX14_isDigit_16 rfl hw (fun hw => ?_) (fun hw => ?_)
    · refine g_iconst C ⟨by decide, by decide⟩ dX14_isDigit_34 ?_
      exact g_zret C hr (Or.inl rfl) dX14_isDigit_35 ⟨_, rfl, (Or.inl rfl), hw⟩
    · refine g_aload_n C dX14_isDigit_19 rfl (by decide) rfl ?_
      refine gw_X14_7 C dX14_isDigit_20 kdR_0 wwR_0_0 ?_
      refine g_iload_n C dX14_isDigit_23 rfl rfl ?_
      obtain ⟨⟨b2, b2b⟩, hw⟩ := hw
      refine g_iaload C dX14_isDigit_24 kdR_1 b2 b2b (fun z24 => ?_)
      refine g_bipush C ⟨by decide, by decide⟩ (by decide) dX14_isDigit_25 ?_
      refine g_icmp_gt C 34 dX14_isDigit_27 rfl hw (fun hw => ?_) (fun hw => ?_)
      · refine g_iconst C ⟨by decide, by decide⟩ dX14_isDigit_34 ?_
        exact g_zret C hr (Or.inl rfl) dX14_isDigit_35 ⟨_, rfl, (Or.inl rfl), hw⟩
      · refine g_iconst C ⟨by decide, by decide⟩ dX14_isDigit_30 ?_
        refine g_goto C 35 dX14_isDigit_31 rfl ?_
        exact g_zret C hr (Or.inr rfl) dX14_isDigit_35 ⟨_, rfl, (Or.inr rfl), hw⟩
set_option maxRecDepth 20000 in
set_option maxHeartbeats 4000000 in
theorem sim_X14_isSmall {z : Mz} {l : Launch} {p1 : Int} {h : Mh} {K : Int → Mh → Prop} (hw : wp_X14_isSmall p1 h K) : mCal (XR z) l yX14_isSmall cX14_isSmall 2 (some Jvm.ClassFile.FieldType.boolean) 0 0 [(2, 0), (0, p1)] h (mKz K) := by
  refine m_entry RX14 rfl (by decide) rfl (fun p e s m args below meth c C hr => ?_)
  show mG _ p l e _ s m args below meth c _ _ 0 [(0, (2, 0)), (1, (0, p1))] [] h
  unfold wp_X14_isSmall at hw
  refine g_iload_n C dX14_isSmall_0 rfl rfl ?_
  refine g_aload_n C dX14_isSmall_1 rfl (by decide) rfl ?_
  refine gf_X14_160 C dX14_isSmall_2 kdR_0 (fun z2 => ?_)
  refine g_icmp_ge C 34 dX14_isSmall_5 rfl hw (fun hw => ?_) (fun hw => ?_)
  · refine g_iconst C ⟨by decide, by decide⟩ dX14_isSmall_34 ?_
    exact g_zret C hr (Or.inl rfl) dX14_isSmall_35 ⟨_, rfl, (Or.inl rfl), hw⟩
  · refine g_aload_n C dX14_isSmall_8 rfl (by decide) rfl ?_
    refine gw_X14_7 C dX14_isSmall_9 kdR_0 wwR_0_0 ?_
    refine g_iload_n C dX14_isSmall_12 rfl rfl ?_
    obtain ⟨⟨b1, b1b⟩, hw⟩ := hw
    refine g_iaload C dX14_isSmall_13 kdR_1 b1 b1b (fun z13 => ?_)
    refine g_bipush C ⟨by decide, by decide⟩ (by decide) dX14_isSmall_14 ?_
    refine g_icmp_lt C 34 dX14_isSmall_16 rfl hw (fun hw => ?_) (fun hw => ?_)
    · refine g_iconst C ⟨by decide, by decide⟩ dX14_isSmall_34 ?_
      exact g_zret C hr (Or.inl rfl) dX14_isSmall_35 ⟨_, rfl, (Or.inl rfl), hw⟩
    · refine g_aload_n C dX14_isSmall_19 rfl (by decide) rfl ?_
      refine gw_X14_7 C dX14_isSmall_20 kdR_0 wwR_0_0 ?_
      refine g_iload_n C dX14_isSmall_23 rfl rfl ?_
      obtain ⟨⟨b2, b2b⟩, hw⟩ := hw
      refine g_iaload C dX14_isSmall_24 kdR_1 b2 b2b (fun z24 => ?_)
      refine g_bipush C ⟨by decide, by decide⟩ (by decide) dX14_isSmall_25 ?_
      refine g_icmp_gt C 34 dX14_isSmall_27 rfl hw (fun hw => ?_) (fun hw => ?_)
      · refine g_iconst C ⟨by decide, by decide⟩ dX14_isSmall_34 ?_
        exact g_zret C hr (Or.inl rfl) dX14_isSmall_35 ⟨_, rfl, (Or.inl rfl), hw⟩
      · refine g_iconst C ⟨by decide, by decide⟩ dX14_isSmall_30 ?_
        refine g_goto C 35 dX14_isSmall_31 rfl ?_
        exact g_zret C hr (Or.inr rfl) dX14_isSmall_35 ⟨_, rfl, (Or.inr rfl), hw⟩
set_option maxRecDepth 20000 in
set_option maxHeartbeats 4000000 in
theorem sim_X14_packed {z : Mz} {l : Launch} {p1 : Int} {p2 : Int} {h : Mh} {K : Int → Mh → Prop} (hw : wp_X14_packed p1 p2 h K) : mCal (XR z) l yX14_packed cX14_packed 5 (some Jvm.ClassFile.FieldType.int) 0 0 [(2, 0), (0, p1), (0, p2)] h (mKi K) := by
  refine m_entry RX14 rfl (by decide) rfl (fun p e s m args below meth c C hr => ?_)
  have hQ : ∀ x, Lfp (F_X14_packed p1 p2 K) x → (match x.1, x.2.1 with | 5, [v3, v4] => mG (XR z) p l e { frames := 0, cells := 0, slots := 0, locals := 0 } s m args below meth c 5 (mMQ (XR z) (mKi K) below args s) 5 [(3, (0, v3)), (4, (0, v4)), (0, (2, 0)), (1, (0, p1)), (2, (0, p2))] [] x.2.2 | _, _ => True) := by
    intro x hx
    refine Lfp.ind (fun x => (match x.1, x.2.1 with | 5, [v3, v4] => mG (XR z) p l e { frames := 0, cells := 0, slots := 0, locals := 0 } s m args below meth c 5 (mMQ (XR z) (mKi K) below args s) 5 [(3, (0, v3)), (4, (0, v4)), (0, (2, 0)), (1, (0, p1)), (2, (0, p2))] [] x.2.2 | _, _ => True)) ?_ hx
    clear hx x
    intro Z x hQ hw
    rcases hw with ⟨v3, v4, h, rfl, hw⟩
    · show mG (XR z) p l e { frames := 0, cells := 0, slots := 0, locals := 0 } s m args below meth c 5 (mMQ (XR z) (mKi K) below args s) 5 [(3, (0, v3)), (4, (0, v4)), (0, (2, 0)), (1, (0, p1)), (2, (0, p2))] [] h
      unfold B_X14_packed_5 at hw
      refine g_iload C dX14_packed_5 rfl ?_
      refine g_iload_n C dX14_packed_7 rfl rfl ?_
      refine g_bipush C ⟨by decide, by decide⟩ (by decide) dX14_packed_8 ?_
      refine g_iadd C dX14_packed_10 ?_
      refine g_icmp_ge C 45 dX14_packed_11 rfl hw (fun hw => ?_) (fun hw => ?_)
      · refine g_iload_n C dX14_packed_45 rfl rfl ?_
        exact g_iret C hr dX14_packed_46 ⟨_, rfl, hw⟩
      · refine g_iload_n C dX14_packed_14 rfl rfl ?_
        refine g_iconst C ⟨by decide, by decide⟩ dX14_packed_15 ?_
        refine g_ishl C dX14_packed_16 ?_
        refine g_iload C dX14_packed_17 rfl ?_
        refine g_iload_n C dX14_packed_19 rfl rfl ?_
        refine g_icmp_ge C 36 dX14_packed_20 rfl hw (fun hw => ?_) (fun hw => ?_)
        · refine g_iconst C ⟨by decide, by decide⟩ dX14_packed_36 ?_
          refine g_ior C dX14_packed_37 ?_
          refine g_topi (fun x1 ex1 => ?_)
          replace hw := hw x1 ex1
          refine g_istore_n C dX14_packed_38 rfl (by decide) ?_
          refine g_iincN C dX14_packed_39 rfl (by decide) (fun x2 ex2 => ?_)
          replace hw := hw x2 ex2
          refine g_goto C 5 dX14_packed_42 rfl ?_
          exact g_sub [3, 4, 0, 1, 2] rfl (hQ _ hw)
        · refine g_aload_n C dX14_packed_23 rfl (by decide) rfl ?_
          refine gw_X14_7 C dX14_packed_24 kdR_0 wwR_0_0 ?_
          refine g_iload C dX14_packed_27 rfl ?_
          obtain ⟨⟨b1, b1b⟩, hw⟩ := hw
          refine g_iaload C dX14_packed_29 kdR_1 b1 b1b (fun z29 => ?_)
          refine g_bipush C ⟨by decide, by decide⟩ (by decide) dX14_packed_30 ?_
          refine g_isub C dX14_packed_32 ?_
          refine g_goto C 37 dX14_packed_33 rfl ?_
          refine g_ior C dX14_packed_37 ?_
          refine g_topi (fun x3 ex3 => ?_)
          replace hw := hw x3 ex3
          refine g_istore_n C dX14_packed_38 rfl (by decide) ?_
          refine g_iincN C dX14_packed_39 rfl (by decide) (fun x4 ex4 => ?_)
          replace hw := hw x4 ex4
          refine g_goto C 5 dX14_packed_42 rfl ?_
          exact g_sub [3, 4, 0, 1, 2] rfl (hQ _ hw)
  show mG _ p l e _ s m args below meth c _ _ 0 [(0, (2, 0)), (1, (0, p1)), (2, (0, p2))] [] h
  unfold wp_X14_packed at hw
  refine g_iconst C ⟨by decide, by decide⟩ dX14_packed_0 ?_
  refine g_istore_n C dX14_packed_1 rfl (by decide) ?_
  refine g_iload_n C dX14_packed_2 rfl rfl ?_
  refine g_istore C dX14_packed_3 (by decide) ?_
  exact g_sub [3, 4, 0, 1, 2] rfl (hQ _ hw)
set_option maxRecDepth 20000 in
set_option maxHeartbeats 4000000 in
theorem sim_X14_signToken {z : Mz} {l : Launch} {h : Mh} {K : Mh → Prop} (hw : wp_X14_signToken h K) : mCal (XR z) l yX14_signToken cX14_signToken 4 none 0 0 [(2, 0)] h (mKv K) := by
  refine m_entry RX14 rfl (by decide) rfl (fun p e s m args below meth c C hr => ?_)
  have hQ : ∀ x, Lfp (F_X14_signToken K) x → (match x.1, x.2.1 with | 50, [] => mG (XR z) p l e { frames := 0, cells := 0, slots := 0, locals := 0 } s m args below meth c 4 (mMQ (XR z) (mKv K) below args s) 50 [(0, (2, 0))] [] x.2.2 | 270, [] => mG (XR z) p l e { frames := 0, cells := 0, slots := 0, locals := 0 } s m args below meth c 4 (mMQ (XR z) (mKv K) below args s) 270 [(0, (2, 0))] [] x.2.2 | 74, [s0] => mG (XR z) p l e { frames := 0, cells := 0, slots := 0, locals := 0 } s m args below meth c 4 (mMQ (XR z) (mKv K) below args s) 74 [(0, (2, 0))] [(0, s0)] x.2.2 | 94, [v1] => mG (XR z) p l e { frames := 0, cells := 0, slots := 0, locals := 0 } s m args below meth c 4 (mMQ (XR z) (mKv K) below args s) 94 [(1, (0, v1)), (0, (2, 0))] [] x.2.2 | 95, [v1, s0] => mG (XR z) p l e { frames := 0, cells := 0, slots := 0, locals := 0 } s m args below meth c 4 (mMQ (XR z) (mKv K) below args s) 95 [(1, (0, v1)), (0, (2, 0))] [(0, s0)] x.2.2 | 115, [v2] => mG (XR z) p l e { frames := 0, cells := 0, slots := 0, locals := 0 } s m args below meth c 4 (mMQ (XR z) (mKv K) below args s) 115 [(2, (0, v2)), (0, (2, 0))] [] x.2.2 | 116, [v2, s0] => mG (XR z) p l e { frames := 0, cells := 0, slots := 0, locals := 0 } s m args below meth c 4 (mMQ (XR z) (mKv K) below args s) 116 [(2, (0, v2)), (0, (2, 0))] [(0, s0)] x.2.2 | 125, [v2, v3] => mG (XR z) p l e { frames := 0, cells := 0, slots := 0, locals := 0 } s m args below meth c 4 (mMQ (XR z) (mKv K) below args s) 125 [(2, (0, v2)), (3, (0, v3)), (0, (2, 0))] [] x.2.2 | 135, [v2, v3] => mG (XR z) p l e { frames := 0, cells := 0, slots := 0, locals := 0 } s m args below meth c 4 (mMQ (XR z) (mKv K) below args s) 135 [(2, (0, v2)), (3, (0, v3)), (0, (2, 0))] [] x.2.2 | _, _ => True) := by
    intro x hx
    refine Lfp.ind (fun x => (match x.1, x.2.1 with | 50, [] => mG (XR z) p l e { frames := 0, cells := 0, slots := 0, locals := 0 } s m args below meth c 4 (mMQ (XR z) (mKv K) below args s) 50 [(0, (2, 0))] [] x.2.2 | 270, [] => mG (XR z) p l e { frames := 0, cells := 0, slots := 0, locals := 0 } s m args below meth c 4 (mMQ (XR z) (mKv K) below args s) 270 [(0, (2, 0))] [] x.2.2 | 74, [s0] => mG (XR z) p l e { frames := 0, cells := 0, slots := 0, locals := 0 } s m args below meth c 4 (mMQ (XR z) (mKv K) below args s) 74 [(0, (2, 0))] [(0, s0)] x.2.2 | 94, [v1] => mG (XR z) p l e { frames := 0, cells := 0, slots := 0, locals := 0 } s m args below meth c 4 (mMQ (XR z) (mKv K) below args s) 94 [(1, (0, v1)), (0, (2, 0))] [] x.2.2 | 95, [v1, s0] => mG (XR z) p l e { frames := 0, cells := 0, slots := 0, locals := 0 } s m args below meth c 4 (mMQ (XR z) (mKv K) below args s) 95 [(1, (0, v1)), (0, (2, 0))] [(0, s0)] x.2.2 | 115, [v2] => mG (XR z) p l e { frames := 0, cells := 0, slots := 0, locals := 0 } s m args below meth c 4 (mMQ (XR z) (mKv K) below args s) 115 [(2, (0, v2)), (0, (2, 0))] [] x.2.2 | 116, [v2, s0] => mG (XR z) p l e { frames := 0, cells := 0, slots := 0, locals := 0 } s m args below meth c 4 (mMQ (XR z) (mKv K) below args s) 116 [(2, (0, v2)), (0, (2, 0))] [(0, s0)] x.2.2 | 125, [v2, v3] => mG (XR z) p l e { frames := 0, cells := 0, slots := 0, locals := 0 } s m args below meth c 4 (mMQ (XR z) (mKv K) below args s) 125 [(2, (0, v2)), (3, (0, v3)), (0, (2, 0))] [] x.2.2 | 135, [v2, v3] => mG (XR z) p l e { frames := 0, cells := 0, slots := 0, locals := 0 } s m args below meth c 4 (mMQ (XR z) (mKv K) below args s) 135 [(2, (0, v2)), (3, (0, v3)), (0, (2, 0))] [] x.2.2 | _, _ => True)) ?_ hx
    clear hx x
    intro Z x hQ hw
    rcases hw with ⟨h, rfl, hw⟩ | ⟨h, rfl, hw⟩ | ⟨s0, h, rfl, hw⟩ | ⟨v1, h, rfl, hw⟩ | ⟨v1, s0, h, rfl, hw⟩ | ⟨v2, h, rfl, hw⟩ | ⟨v2, s0, h, rfl, hw⟩ | ⟨v2, v3, h, rfl, hw⟩ | ⟨v2, v3, h, rfl, hw⟩
    · show mG (XR z) p l e { frames := 0, cells := 0, slots := 0, locals := 0 } s m args below meth c 4 (mMQ (XR z) (mKv K) below args s) 50 [(0, (2, 0))] [] h
      unfold B_X14_signToken_50 at hw
      refine g_aload_n C dX14_signToken_50 rfl (by decide) rfl ?_
      refine gf_X14_163 C dX14_signToken_51 kdR_0 (fun z51 => ?_)
      refine g_aload_n C dX14_signToken_54 rfl (by decide) rfl ?_
      refine gf_X14_160 C dX14_signToken_55 kdR_0 (fun z55 => ?_)
      refine g_icmp_ge C 73 dX14_signToken_58 rfl hw (fun hw => ?_) (fun hw => ?_)
      · refine g_iconst C ⟨by decide, by decide⟩ dX14_signToken_73 ?_
        exact g_sub [0] rfl (hQ _ hw)
      · refine g_aload_n C dX14_signToken_61 rfl (by decide) rfl ?_
        refine gw_X14_7 C dX14_signToken_62 kdR_0 wwR_0_0 ?_
        refine g_aload_n C dX14_signToken_65 rfl (by decide) rfl ?_
        refine gf_X14_163 C dX14_signToken_66 kdR_0 (fun z66 => ?_)
        obtain ⟨⟨b2, b2b⟩, hw⟩ := hw
        refine g_iaload C dX14_signToken_69 kdR_1 b2 b2b (fun z69 => ?_)
        refine g_goto C 74 dX14_signToken_70 rfl ?_
        exact g_sub [0] rfl (hQ _ hw)
    · show mG (XR z) p l e { frames := 0, cells := 0, slots := 0, locals := 0 } s m args below meth c 4 (mMQ (XR z) (mKv K) below args s) 270 [(0, (2, 0))] [] h
      unfold B_X14_signToken_270 at hw
      refine g_iconst C ⟨by decide, by decide⟩ dX14_signToken_270 ?_
      refine g_goto C 275 dX14_signToken_271 rfl ?_
      refine g_istore_n C dX14_signToken_275 rfl (by decide) ?_
      refine g_aload_n C dX14_signToken_276 rfl (by decide) rfl ?_
      refine g_iload_n C dX14_signToken_277 rfl rfl ?_
      refine g_if_eq C 285 dX14_signToken_278 rfl hw (fun hw => ?_) (fun hw => ?_)
      · refine g_bipush C ⟨by decide, by decide⟩ (by decide) dX14_signToken_285 ?_
        refine gp_X14_166 C dX14_signToken_287 kdR_0 (fun z => z) ?_
        refine g_heap (fun h1 eh1 => ?_)
        replace hw := hw h1 eh1
        exact g_vret C hr dX14_signToken_290 ⟨rfl, hw⟩
      · refine g_iconst C ⟨by decide, by decide⟩ dX14_signToken_281 ?_
        refine g_goto C 287 dX14_signToken_282 rfl ?_
        refine gp_X14_166 C dX14_signToken_287 kdR_0 (fun z => z) ?_
        refine g_heap (fun h2 eh2 => ?_)
        replace hw := hw h2 eh2
        exact g_vret C hr dX14_signToken_290 ⟨rfl, hw⟩
    · show mG (XR z) p l e { frames := 0, cells := 0, slots := 0, locals := 0 } s m args below meth c 4 (mMQ (XR z) (mKv K) below args s) 74 [(0, (2, 0))] [(0, s0)] h
      unfold B_X14_signToken_74 at hw
      refine g_istore_n C dX14_signToken_74 rfl (by decide) ?_
      refine g_aload_n C dX14_signToken_75 rfl (by decide) rfl ?_
      refine gf_X14_177 C dX14_signToken_76 kdR_0 (fun z76 => ?_)
      refine g_bipush C ⟨by decide, by decide⟩ (by decide) dX14_signToken_79 ?_
      refine g_icmp_eq C 94 dX14_signToken_81 rfl hw (fun hw => ?_) (fun hw => ?_)
      · exact g_sub [1, 0] rfl (hQ _ hw)
      · refine g_iload_n C dX14_signToken_84 rfl rfl ?_
        refine g_bipush C ⟨by decide, by decide⟩ (by decide) dX14_signToken_85 ?_
        refine g_icmp_ne C 94 dX14_signToken_87 rfl hw (fun hw => ?_) (fun hw => ?_)
        · exact g_sub [1, 0] rfl (hQ _ hw)
        · refine g_iconst C ⟨by decide, by decide⟩ dX14_signToken_90 ?_
          refine g_goto C 95 dX14_signToken_91 rfl ?_
          exact g_sub [1, 0] rfl (hQ _ hw)
    · show mG (XR z) p l e { frames := 0, cells := 0, slots := 0, locals := 0 } s m args below meth c 4 (mMQ (XR z) (mKv K) below args s) 94 [(1, (0, v1)), (0, (2, 0))] [] h
      unfold B_X14_signToken_94 at hw
      refine g_iconst C ⟨by decide, by decide⟩ dX14_signToken_94 ?_
      exact g_sub [1, 0] rfl (hQ _ hw)
    · show mG (XR z) p l e { frames := 0, cells := 0, slots := 0, locals := 0 } s m args below meth c 4 (mMQ (XR z) (mKv K) below args s) 95 [(1, (0, v1)), (0, (2, 0))] [(0, s0)] h
      unfold B_X14_signToken_95 at hw
      refine g_istore_n C dX14_signToken_95 rfl (by decide) ?_
      refine g_aload_n C dX14_signToken_96 rfl (by decide) rfl ?_
      refine gf_X14_177 C dX14_signToken_97 kdR_0 (fun z97 => ?_)
      refine g_bipush C ⟨by decide, by decide⟩ (by decide) dX14_signToken_100 ?_
      refine g_icmp_ne C 115 dX14_signToken_102 rfl hw (fun hw => ?_) (fun hw => ?_)
      · exact g_sub [2, 0] rfl (hQ _ hw)
      · refine g_iload_n C dX14_signToken_105 rfl rfl ?_
        refine g_bipush C ⟨by decide, by decide⟩ (by decide) dX14_signToken_106 ?_
        refine g_icmp_ne C 115 dX14_signToken_108 rfl hw (fun hw => ?_) (fun hw => ?_)
        · exact g_sub [2, 0] rfl (hQ _ hw)
        · refine g_iconst C ⟨by decide, by decide⟩ dX14_signToken_111 ?_
          refine g_goto C 116 dX14_signToken_112 rfl ?_
          exact g_sub [2, 0] rfl (hQ _ hw)
    · show mG (XR z) p l e { frames := 0, cells := 0, slots := 0, locals := 0 } s m args below meth c 4 (mMQ (XR z) (mKv K) below args s) 115 [(2, (0, v2)), (0, (2, 0))] [] h
      unfold B_X14_signToken_115 at hw
      refine g_iconst C ⟨by decide, by decide⟩ dX14_signToken_115 ?_
      exact g_sub [2, 0] rfl (hQ _ hw)
    · show mG (XR z) p l e { frames := 0, cells := 0, slots := 0, locals := 0 } s m args below meth c 4 (mMQ (XR z) (mKv K) below args s) 116 [(2, (0, v2)), (0, (2, 0))] [(0, s0)] h
      unfold B_X14_signToken_116 at hw
      refine g_istore_n C dX14_signToken_116 rfl (by decide) ?_
      refine g_iload_n C dX14_signToken_117 rfl rfl ?_
      refine g_if_ne C 125 dX14_signToken_118 rfl hw (fun hw => ?_) (fun hw => ?_)
      · exact g_sub [2, 3, 0] rfl (hQ _ hw)
      · refine g_iload_n C dX14_signToken_121 rfl rfl ?_
        refine g_if_eq C 135 dX14_signToken_122 rfl hw (fun hw => ?_) (fun hw => ?_)
        · exact g_sub [2, 3, 0] rfl (hQ _ hw)
        · exact g_sub [2, 3, 0] rfl (hQ _ hw)
    · show mG (XR z) p l e { frames := 0, cells := 0, slots := 0, locals := 0 } s m args below meth c 4 (mMQ (XR z) (mKv K) below args s) 125 [(2, (0, v2)), (3, (0, v3)), (0, (2, 0))] [] h
      unfold B_X14_signToken_125 at hw
      refine g_aload_n C dX14_signToken_125 rfl (by decide) rfl ?_
      refine g_dup C (by show ¬ (2 : Nat) = 1; decide) dX14_signToken_126 ?_
      refine gf_X14_163 C dX14_signToken_127 kdR_0 (fun z127 => ?_)
      refine g_iconst C ⟨by decide, by decide⟩ dX14_signToken_130 ?_
      refine g_iadd C dX14_signToken_131 ?_
      refine gp_X14_163 C dX14_signToken_132 kdR_0 (fun z => z) ?_
      refine g_heap (fun h1 eh1 => ?_)
      replace hw := hw h1 eh1
      exact g_sub [2, 3, 0] rfl (hQ _ hw)
    · show mG (XR z) p l e { frames := 0, cells := 0, slots := 0, locals := 0 } s m args below meth c 4 (mMQ (XR z) (mKv K) below args s) 135 [(2, (0, v2)), (3, (0, v3)), (0, (2, 0))] [] h
      unfold B_X14_signToken_135 at hw
      refine g_aload_n C dX14_signToken_135 rfl (by decide) rfl ?_
      refine g_iconst C ⟨by decide, by decide⟩ dX14_signToken_136 ?_
      refine gp_X14_166 C dX14_signToken_137 kdR_0 (fun z => z) ?_
      refine g_heap (fun h1 eh1 => ?_)
      replace hw := hw h1 eh1
      refine g_aload_n C dX14_signToken_140 rfl (by decide) rfl ?_
      refine g_aload_n C dX14_signToken_141 rfl (by decide) rfl ?_
      refine gf_X14_177 C dX14_signToken_142 kdR_0 (fun z142 => ?_)
      refine g_bipush C ⟨by decide, by decide⟩ (by decide) dX14_signToken_145 ?_
      refine g_icmp_ne C 154 dX14_signToken_147 rfl hw (fun hw => ?_) (fun hw => ?_)
      · refine g_aload_n C dX14_signToken_154 rfl (by decide) rfl ?_
        refine gf_X14_177 C dX14_signToken_155 kdR_0 (fun z155 => ?_)
        refine g_bipush C ⟨by decide, by decide⟩ (by decide) dX14_signToken_158 ?_
        refine g_icmp_ne C 183 dX14_signToken_160 rfl hw (fun hw => ?_) (fun hw => ?_)
        · refine g_iload_n C dX14_signToken_183 rfl rfl ?_
          refine g_if_eq C 191 dX14_signToken_184 rfl hw (fun hw => ?_) (fun hw => ?_)
          · refine g_iconst C ⟨by decide, by decide⟩ dX14_signToken_191 ?_
            refine gp_X14_177 C dX14_signToken_192 kdR_0 (fun z => z) ?_
            refine g_heap (fun h2 eh2 => ?_)
            replace hw := hw h2 eh2
            refine g_goto C 290 dX14_signToken_195 rfl ?_
            exact g_vret C hr dX14_signToken_290 ⟨rfl, hw⟩
          · refine g_iconst C ⟨by decide, by decide⟩ dX14_signToken_187 ?_
            refine g_goto C 192 dX14_signToken_188 rfl ?_
            refine gp_X14_177 C dX14_signToken_192 kdR_0 (fun z => z) ?_
            refine g_heap (fun h3 eh3 => ?_)
            replace hw := hw h3 eh3
            refine g_goto C 290 dX14_signToken_195 rfl ?_
            exact g_vret C hr dX14_signToken_290 ⟨rfl, hw⟩
        · refine g_iload_n C dX14_signToken_163 rfl rfl ?_
          refine g_if_eq C 171 dX14_signToken_164 rfl hw (fun hw => ?_) (fun hw => ?_)
          · refine g_iload_n C dX14_signToken_171 rfl rfl ?_
            refine g_if_eq C 179 dX14_signToken_172 rfl hw (fun hw => ?_) (fun hw => ?_)
            · refine g_iconst C ⟨by decide, by decide⟩ dX14_signToken_179 ?_
              refine g_goto C 192 dX14_signToken_180 rfl ?_
              refine gp_X14_177 C dX14_signToken_192 kdR_0 (fun z => z) ?_
              refine g_heap (fun h4 eh4 => ?_)
              replace hw := hw h4 eh4
              refine g_goto C 290 dX14_signToken_195 rfl ?_
              exact g_vret C hr dX14_signToken_290 ⟨rfl, hw⟩
            · refine g_iconst C ⟨by decide, by decide⟩ dX14_signToken_175 ?_
              refine g_goto C 192 dX14_signToken_176 rfl ?_
              refine gp_X14_177 C dX14_signToken_192 kdR_0 (fun z => z) ?_
              refine g_heap (fun h5 eh5 => ?_)
              replace hw := hw h5 eh5
              refine g_goto C 290 dX14_signToken_195 rfl ?_
              exact g_vret C hr dX14_signToken_290 ⟨rfl, hw⟩
          · refine g_iconst C ⟨by decide, by decide⟩ dX14_signToken_167 ?_
            refine g_goto C 192 dX14_signToken_168 rfl ?_
            refine gp_X14_177 C dX14_signToken_192 kdR_0 (fun z => z) ?_
            refine g_heap (fun h6 eh6 => ?_)
            replace hw := hw h6 eh6
            refine g_goto C 290 dX14_signToken_195 rfl ?_
            exact g_vret C hr dX14_signToken_290 ⟨rfl, hw⟩
      · refine g_iconst C ⟨by decide, by decide⟩ dX14_signToken_150 ?_
        refine g_goto C 192 dX14_signToken_151 rfl ?_
        refine gp_X14_177 C dX14_signToken_192 kdR_0 (fun z => z) ?_
        refine g_heap (fun h7 eh7 => ?_)
        replace hw := hw h7 eh7
        refine g_goto C 290 dX14_signToken_195 rfl ?_
        exact g_vret C hr dX14_signToken_290 ⟨rfl, hw⟩
  show mG _ p l e _ s m args below meth c _ _ 0 [(0, (2, 0))] [] h
  unfold wp_X14_signToken at hw
  refine g_aload_n C dX14_signToken_0 rfl (by decide) rfl ?_
  refine g_aload_n C dX14_signToken_1 rfl (by decide) rfl ?_
  refine gw_X14_7 C dX14_signToken_2 kdR_0 wwR_0_0 ?_
  refine g_aload_n C dX14_signToken_5 rfl (by decide) rfl ?_
  refine gf_X14_163 C dX14_signToken_6 kdR_0 (fun z6 => ?_)
  obtain ⟨⟨b1, b1b⟩, hw⟩ := hw
  refine g_iaload C dX14_signToken_9 kdR_1 b1 b1b (fun z9 => ?_)
  refine gp_X14_177 C dX14_signToken_10 kdR_0 (fun z => z) ?_
  refine g_heap (fun h1 eh1 => ?_)
  replace hw := hw h1 eh1
  refine g_aload_n C dX14_signToken_13 rfl (by decide) rfl ?_
  refine g_dup C (by show ¬ (2 : Nat) = 1; decide) dX14_signToken_14 ?_
  refine gf_X14_163 C dX14_signToken_15 kdR_0 (fun z15 => ?_)
  refine g_iconst C ⟨by decide, by decide⟩ dX14_signToken_18 ?_
  refine g_iadd C dX14_signToken_19 ?_
  refine gp_X14_163 C dX14_signToken_20 kdR_0 (fun z => z) ?_
  refine g_heap (fun h2 eh2 => ?_)
  replace hw := hw h2 eh2
  refine g_aload_n C dX14_signToken_23 rfl (by decide) rfl ?_
  refine gf_X14_177 C dX14_signToken_24 kdR_0 (fun z24 => ?_)
  refine g_bipush C ⟨by decide, by decide⟩ (by decide) dX14_signToken_27 ?_
  refine g_icmp_eq C 50 dX14_signToken_29 rfl hw (fun hw => ?_) (fun hw => ?_)
  · exact g_sub [0] rfl (hQ _ hw)
  · refine g_aload_n C dX14_signToken_32 rfl (by decide) rfl ?_
    refine gf_X14_177 C dX14_signToken_33 kdR_0 (fun z33 => ?_)
    refine g_bipush C ⟨by decide, by decide⟩ (by decide) dX14_signToken_36 ?_
    refine g_icmp_eq C 50 dX14_signToken_38 rfl hw (fun hw => ?_) (fun hw => ?_)
    · exact g_sub [0] rfl (hQ _ hw)
    · refine g_aload_n C dX14_signToken_41 rfl (by decide) rfl ?_
      refine gf_X14_177 C dX14_signToken_42 kdR_0 (fun z42 => ?_)
      refine g_bipush C ⟨by decide, by decide⟩ (by decide) dX14_signToken_45 ?_
      refine g_icmp_ne C 198 dX14_signToken_47 rfl hw (fun hw => ?_) (fun hw => ?_)
      · refine g_aload_n C dX14_signToken_198 rfl (by decide) rfl ?_
        refine gf_X14_177 C dX14_signToken_199 kdR_0 (fun z199 => ?_)
        refine g_bipush C ⟨by decide, by decide⟩ (by decide) dX14_signToken_202 ?_
        refine g_icmp_eq C 270 dX14_signToken_204 rfl hw (fun hw => ?_) (fun hw => ?_)
        · exact g_sub [0] rfl (hQ _ hw)
        · refine g_aload_n C dX14_signToken_207 rfl (by decide) rfl ?_
          refine gf_X14_177 C dX14_signToken_208 kdR_0 (fun z208 => ?_)
          refine g_bipush C ⟨by decide, by decide⟩ (by decide) dX14_signToken_211 ?_
          refine g_icmp_eq C 270 dX14_signToken_213 rfl hw (fun hw => ?_) (fun hw => ?_)
          · exact g_sub [0] rfl (hQ _ hw)
          · refine g_aload_n C dX14_signToken_216 rfl (by decide) rfl ?_
            refine gf_X14_177 C dX14_signToken_217 kdR_0 (fun z217 => ?_)
            refine g_bipush C ⟨by decide, by decide⟩ (by decide) dX14_signToken_220 ?_
            refine g_icmp_eq C 270 dX14_signToken_222 rfl hw (fun hw => ?_) (fun hw => ?_)
            · exact g_sub [0] rfl (hQ _ hw)
            · refine g_aload_n C dX14_signToken_225 rfl (by decide) rfl ?_
              refine gf_X14_177 C dX14_signToken_226 kdR_0 (fun z226 => ?_)
              refine g_bipush C ⟨by decide, by decide⟩ (by decide) dX14_signToken_229 ?_
              refine g_icmp_eq C 270 dX14_signToken_231 rfl hw (fun hw => ?_) (fun hw => ?_)
              · exact g_sub [0] rfl (hQ _ hw)
              · refine g_aload_n C dX14_signToken_234 rfl (by decide) rfl ?_
                refine gf_X14_177 C dX14_signToken_235 kdR_0 (fun z235 => ?_)
                refine g_bipush C ⟨by decide, by decide⟩ (by decide) dX14_signToken_238 ?_
                refine g_icmp_eq C 270 dX14_signToken_240 rfl hw (fun hw => ?_) (fun hw => ?_)
                · exact g_sub [0] rfl (hQ _ hw)
                · refine g_aload_n C dX14_signToken_243 rfl (by decide) rfl ?_
                  refine gf_X14_177 C dX14_signToken_244 kdR_0 (fun z244 => ?_)
                  refine g_bipush C ⟨by decide, by decide⟩ (by decide) dX14_signToken_247 ?_
                  refine g_icmp_eq C 270 dX14_signToken_249 rfl hw (fun hw => ?_) (fun hw => ?_)
                  · exact g_sub [0] rfl (hQ _ hw)
                  · refine g_aload_n C dX14_signToken_252 rfl (by decide) rfl ?_
                    refine gf_X14_177 C dX14_signToken_253 kdR_0 (fun z253 => ?_)
                    refine g_bipush C ⟨by decide, by decide⟩ (by decide) dX14_signToken_256 ?_
                    refine g_icmp_eq C 270 dX14_signToken_258 rfl hw (fun hw => ?_) (fun hw => ?_)
                    · exact g_sub [0] rfl (hQ _ hw)
                    · refine g_aload_n C dX14_signToken_261 rfl (by decide) rfl ?_
                      refine gf_X14_177 C dX14_signToken_262 kdR_0 (fun z262 => ?_)
                      refine g_bipush C ⟨by decide, by decide⟩ (by decide) dX14_signToken_265 ?_
                      refine g_icmp_ne C 274 dX14_signToken_267 rfl hw (fun hw => ?_) (fun hw => ?_)
                      · refine g_iconst C ⟨by decide, by decide⟩ dX14_signToken_274 ?_
                        refine g_istore_n C dX14_signToken_275 rfl (by decide) ?_
                        refine g_aload_n C dX14_signToken_276 rfl (by decide) rfl ?_
                        refine g_iload_n C dX14_signToken_277 rfl rfl ?_
                        refine g_if_eq C 285 dX14_signToken_278 rfl hw (fun hw => ?_) (fun hw => ?_)
                        · refine g_bipush C ⟨by decide, by decide⟩ (by decide) dX14_signToken_285 ?_
                          refine gp_X14_166 C dX14_signToken_287 kdR_0 (fun z => z) ?_
                          refine g_heap (fun h3 eh3 => ?_)
                          replace hw := hw h3 eh3
                          exact g_vret C hr dX14_signToken_290 ⟨rfl, hw⟩
                        · refine g_iconst C ⟨by decide, by decide⟩ dX14_signToken_281 ?_
                          refine g_goto C 287 dX14_signToken_282 rfl ?_
                          refine gp_X14_166 C dX14_signToken_287 kdR_0 (fun z => z) ?_
                          refine g_heap (fun h4 eh4 => ?_)
                          replace hw := hw h4 eh4
                          exact g_vret C hr dX14_signToken_290 ⟨rfl, hw⟩
                      · exact g_sub [0] rfl (hQ _ hw)
      · exact g_sub [0] rfl (hQ _ hw)
set_option maxRecDepth 20000 in
set_option maxHeartbeats 4000000 in
theorem sim_X14_wordAt {z : Mz} {l : Launch} {p1 : Int} {p2 : Int} {h : Mh} {K : Int → Mh → Prop} (hw : wp_X14_wordAt p1 p2 h K) : mCal (XR z) l yX14_wordAt cX14_wordAt 8 (some Jvm.ClassFile.FieldType.int) 0 0 [(2, 0), (0, p1), (0, p2)] h (mKi K) := by
  refine m_entry RX14 rfl (by decide) rfl (fun p e s m args below meth c C hr => ?_)
  have hQ : ∀ x, Lfp (F_X14_wordAt p1 p2 K) x → (match x.1, x.2.1 with | 5, [v3, v4] => mG (XR z) p l e { frames := 0, cells := 0, slots := 0, locals := 0 } s m args below meth c 8 (mMQ (XR z) (mKi K) below args s) 5 [(3, (0, v3)), (4, (0, v4)), (0, (2, 0)), (1, (0, p1)), (2, (0, p2))] [] x.2.2 | 18, [v3, v4, v5] => mG (XR z) p l e { frames := 0, cells := 0, slots := 0, locals := 0 } s m args below meth c 8 (mMQ (XR z) (mKi K) below args s) 18 [(3, (0, v3)), (4, (0, v4)), (5, (0, v5)), (0, (2, 0)), (1, (0, p1)), (2, (0, p2))] [] x.2.2 | 57, [v3, v4, v5, v6, v7] => mG (XR z) p l e { frames := 0, cells := 0, slots := 0, locals := 0 } s m args below meth c 8 (mMQ (XR z) (mKi K) below args s) 57 [(3, (0, v3)), (4, (0, v4)), (5, (0, v5)), (6, (0, v6)), (7, (0, v7)), (0, (2, 0)), (1, (0, p1)), (2, (0, p2))] [] x.2.2 | _, _ => True) := by
    intro x hx
    refine Lfp.ind (fun x => (match x.1, x.2.1 with | 5, [v3, v4] => mG (XR z) p l e { frames := 0, cells := 0, slots := 0, locals := 0 } s m args below meth c 8 (mMQ (XR z) (mKi K) below args s) 5 [(3, (0, v3)), (4, (0, v4)), (0, (2, 0)), (1, (0, p1)), (2, (0, p2))] [] x.2.2 | 18, [v3, v4, v5] => mG (XR z) p l e { frames := 0, cells := 0, slots := 0, locals := 0 } s m args below meth c 8 (mMQ (XR z) (mKi K) below args s) 18 [(3, (0, v3)), (4, (0, v4)), (5, (0, v5)), (0, (2, 0)), (1, (0, p1)), (2, (0, p2))] [] x.2.2 | 57, [v3, v4, v5, v6, v7] => mG (XR z) p l e { frames := 0, cells := 0, slots := 0, locals := 0 } s m args below meth c 8 (mMQ (XR z) (mKi K) below args s) 57 [(3, (0, v3)), (4, (0, v4)), (5, (0, v5)), (6, (0, v6)), (7, (0, v7)), (0, (2, 0)), (1, (0, p1)), (2, (0, p2))] [] x.2.2 | _, _ => True)) ?_ hx
    clear hx x
    intro Z x hQ hw
    rcases hw with ⟨v3, v4, h, rfl, hw⟩ | ⟨v3, v4, v5, h, rfl, hw⟩ | ⟨v3, v4, v5, v6, v7, h, rfl, hw⟩
    · show mG (XR z) p l e { frames := 0, cells := 0, slots := 0, locals := 0 } s m args below meth c 8 (mMQ (XR z) (mKi K) below args s) 5 [(3, (0, v3)), (4, (0, v4)), (0, (2, 0)), (1, (0, p1)), (2, (0, p2))] [] h
      unfold B_X14_wordAt_5 at hw
      refine g_iload C dX14_wordAt_5 rfl ?_
      refine g_aload_n C dX14_wordAt_7 rfl (by decide) rfl ?_
      refine gw_X14_13 C dX14_wordAt_8 kdR_0 wwR_0_3 ?_
      refine g_alen C dX14_wordAt_11 (ci := 14) (by decide) skR_2 (by decide) ?_
      refine g_icmp_ge C 126 dX14_wordAt_12 rfl hw (fun hw => ?_) (fun hw => ?_)
      · refine g_iconst C ⟨by decide, by decide⟩ dX14_wordAt_126 ?_
        exact g_iret C hr dX14_wordAt_127 ⟨_, rfl, hw⟩
      · refine g_iconst C ⟨by decide, by decide⟩ dX14_wordAt_15 ?_
        refine g_istore C dX14_wordAt_16 (by decide) ?_
        exact g_sub [3, 4, 5, 0, 1, 2] rfl (hQ _ hw)
    · show mG (XR z) p l e { frames := 0, cells := 0, slots := 0, locals := 0 } s m args below meth c 8 (mMQ (XR z) (mKi K) below args s) 18 [(3, (0, v3)), (4, (0, v4)), (5, (0, v5)), (0, (2, 0)), (1, (0, p1)), (2, (0, p2))] [] h
      unfold B_X14_wordAt_18 at hw
      refine g_aload_n C dX14_wordAt_18 rfl (by decide) rfl ?_
      refine gw_X14_13 C dX14_wordAt_19 kdR_0 wwR_0_3 ?_
      refine g_iload C dX14_wordAt_22 rfl ?_
      refine g_iload C dX14_wordAt_24 rfl ?_
      refine g_iadd C dX14_wordAt_26 ?_
      obtain ⟨⟨b1, b1b⟩, hw⟩ := hw
      refine g_iaload C dX14_wordAt_27 kdR_2 b1 b1b (fun z27 => ?_)
      refine g_bipush C ⟨by decide, by decide⟩ (by decide) dX14_wordAt_28 ?_
      refine g_icmp_eq C 39 dX14_wordAt_30 rfl hw (fun hw => ?_) (fun hw => ?_)
      · refine g_iload C dX14_wordAt_39 rfl ?_
        refine g_iload_n C dX14_wordAt_41 rfl rfl ?_
        refine g_iload_n C dX14_wordAt_42 rfl rfl ?_
        refine g_isub C dX14_wordAt_43 ?_
        refine g_icmp_ne C 51 dX14_wordAt_44 rfl hw (fun hw => ?_) (fun hw => ?_)
        · refine g_iconst C ⟨by decide, by decide⟩ dX14_wordAt_51 ?_
          refine g_istore C dX14_wordAt_52 (by decide) ?_
          refine g_iconst C ⟨by decide, by decide⟩ dX14_wordAt_54 ?_
          refine g_istore C dX14_wordAt_55 (by decide) ?_
          exact g_sub [3, 4, 5, 6, 7, 0, 1, 2] rfl (hQ _ hw)
        · refine g_iconst C ⟨by decide, by decide⟩ dX14_wordAt_47 ?_
          refine g_goto C 52 dX14_wordAt_48 rfl ?_
          refine g_istore C dX14_wordAt_52 (by decide) ?_
          refine g_iconst C ⟨by decide, by decide⟩ dX14_wordAt_54 ?_
          refine g_istore C dX14_wordAt_55 (by decide) ?_
          exact g_sub [3, 4, 5, 6, 7, 0, 1, 2] rfl (hQ _ hw)
      · refine g_iincN C dX14_wordAt_33 rfl (by decide) (fun x1 ex1 => ?_)
        replace hw := hw x1 ex1
        refine g_goto C 18 dX14_wordAt_36 rfl ?_
        exact g_sub [3, 4, 5, 0, 1, 2] rfl (hQ _ hw)
    · show mG (XR z) p l e { frames := 0, cells := 0, slots := 0, locals := 0 } s m args below meth c 8 (mMQ (XR z) (mKi K) below args s) 57 [(3, (0, v3)), (4, (0, v4)), (5, (0, v5)), (6, (0, v6)), (7, (0, v7)), (0, (2, 0)), (1, (0, p1)), (2, (0, p2))] [] h
      unfold B_X14_wordAt_57 at hw
      refine g_iload C dX14_wordAt_57 rfl ?_
      refine g_iload C dX14_wordAt_59 rfl ?_
      refine g_icmp_ge C 104 dX14_wordAt_61 rfl hw (fun hw => ?_) (fun hw => ?_)
      · refine g_iload C dX14_wordAt_104 rfl ?_
        refine g_if_eq C 111 dX14_wordAt_106 rfl hw (fun hw => ?_) (fun hw => ?_)
        · refine g_iload C dX14_wordAt_111 rfl ?_
          refine g_iload C dX14_wordAt_113 rfl ?_
          refine g_iconst C ⟨by decide, by decide⟩ dX14_wordAt_115 ?_
          refine g_iadd C dX14_wordAt_116 ?_
          refine g_iadd C dX14_wordAt_117 ?_
          refine g_topi (fun x1 ex1 => ?_)
          replace hw := hw x1 ex1
          refine g_istore C dX14_wordAt_118 (by decide) ?_
          refine g_iincN C dX14_wordAt_120 rfl (by decide) (fun x2 ex2 => ?_)
          replace hw := hw x2 ex2
          refine g_goto C 5 dX14_wordAt_123 rfl ?_
          exact g_sub [3, 4, 0, 1, 2] rfl (hQ _ hw)
        · refine g_iload_n C dX14_wordAt_109 rfl rfl ?_
          exact g_iret C hr dX14_wordAt_110 ⟨_, rfl, hw⟩
      · refine g_iload C dX14_wordAt_64 rfl ?_
        refine g_if_eq C 104 dX14_wordAt_66 rfl hw (fun hw => ?_) (fun hw => ?_)
        · refine g_iload C dX14_wordAt_104 rfl ?_
          refine g_if_eq C 111 dX14_wordAt_106 rfl hw (fun hw => ?_) (fun hw => ?_)
          · refine g_iload C dX14_wordAt_111 rfl ?_
            refine g_iload C dX14_wordAt_113 rfl ?_
            refine g_iconst C ⟨by decide, by decide⟩ dX14_wordAt_115 ?_
            refine g_iadd C dX14_wordAt_116 ?_
            refine g_iadd C dX14_wordAt_117 ?_
            refine g_topi (fun x3 ex3 => ?_)
            replace hw := hw x3 ex3
            refine g_istore C dX14_wordAt_118 (by decide) ?_
            refine g_iincN C dX14_wordAt_120 rfl (by decide) (fun x4 ex4 => ?_)
            replace hw := hw x4 ex4
            refine g_goto C 5 dX14_wordAt_123 rfl ?_
            exact g_sub [3, 4, 0, 1, 2] rfl (hQ _ hw)
          · refine g_iload_n C dX14_wordAt_109 rfl rfl ?_
            exact g_iret C hr dX14_wordAt_110 ⟨_, rfl, hw⟩
        · refine g_aload_n C dX14_wordAt_69 rfl (by decide) rfl ?_
          refine gw_X14_13 C dX14_wordAt_70 kdR_0 wwR_0_3 ?_
          refine g_iload C dX14_wordAt_73 rfl ?_
          refine g_iload C dX14_wordAt_75 rfl ?_
          refine g_iadd C dX14_wordAt_77 ?_
          obtain ⟨⟨b2, b2b⟩, hw⟩ := hw
          refine g_iaload C dX14_wordAt_78 kdR_2 b2 b2b (fun z78 => ?_)
          refine g_aload_n C dX14_wordAt_79 rfl (by decide) rfl ?_
          refine gw_X14_7 C dX14_wordAt_80 kdR_0 wwR_0_0 ?_
          refine g_iload_n C dX14_wordAt_83 rfl rfl ?_
          refine g_iload C dX14_wordAt_84 rfl ?_
          refine g_iadd C dX14_wordAt_86 ?_
          obtain ⟨⟨b3, b3b⟩, hw⟩ := hw
          refine g_iaload C dX14_wordAt_87 kdR_1 b3 b3b (fun z87 => ?_)
          refine g_icmp_ne C 95 dX14_wordAt_88 rfl hw (fun hw => ?_) (fun hw => ?_)
          · refine g_iconst C ⟨by decide, by decide⟩ dX14_wordAt_95 ?_
            refine g_istore C dX14_wordAt_96 (by decide) ?_
            refine g_iincN C dX14_wordAt_98 rfl (by decide) (fun x5 ex5 => ?_)
            replace hw := hw x5 ex5
            refine g_goto C 57 dX14_wordAt_101 rfl ?_
            exact g_sub [3, 4, 5, 6, 7, 0, 1, 2] rfl (hQ _ hw)
          · refine g_iconst C ⟨by decide, by decide⟩ dX14_wordAt_91 ?_
            refine g_goto C 96 dX14_wordAt_92 rfl ?_
            refine g_istore C dX14_wordAt_96 (by decide) ?_
            refine g_iincN C dX14_wordAt_98 rfl (by decide) (fun x6 ex6 => ?_)
            replace hw := hw x6 ex6
            refine g_goto C 57 dX14_wordAt_101 rfl ?_
            exact g_sub [3, 4, 5, 6, 7, 0, 1, 2] rfl (hQ _ hw)
  show mG _ p l e _ s m args below meth c _ _ 0 [(0, (2, 0)), (1, (0, p1)), (2, (0, p2))] [] h
  unfold wp_X14_wordAt at hw
  refine g_iconst C ⟨by decide, by decide⟩ dX14_wordAt_0 ?_
  refine g_istore_n C dX14_wordAt_1 rfl (by decide) ?_
  refine g_iconst C ⟨by decide, by decide⟩ dX14_wordAt_2 ?_
  refine g_istore C dX14_wordAt_3 (by decide) ?_
  exact g_sub [3, 4, 0, 1, 2] rfl (hQ _ hw)
set_option maxRecDepth 20000 in
set_option maxHeartbeats 4000000 in
theorem sim_X14_token {z : Mz} {l : Launch} {h : Mh} {K : Mh → Prop} (hw : wp_X14_token h K) : mCal (XR z) l yX14_token cX14_token 1 none 1 27 [(2, 0)] h (mKv K) := by
  refine m_entry RX14 rfl (by decide) rfl (fun p e s m args below meth c C hr => ?_)
  have hQ : ∀ x, Lfp (F_X14_token K) x → (match x.1, x.2.1 with | 52, [] => mG (XR z) p l e { frames := 1, cells := 0, slots := 0, locals := 27 } s m args below meth c 1 (mMQ (XR z) (mKv K) below args s) 52 [(0, (2, 0))] [] x.2.2 | 0, [] => mG (XR z) p l e { frames := 1, cells := 0, slots := 0, locals := 27 } s m args below meth c 1 (mMQ (XR z) (mKv K) below args s) 0 [(0, (2, 0))] [] x.2.2 | 213, [] => mG (XR z) p l e { frames := 1, cells := 0, slots := 0, locals := 27 } s m args below meth c 1 (mMQ (XR z) (mKv K) below args s) 213 [(0, (2, 0))] [] x.2.2 | 90, [] => mG (XR z) p l e { frames := 1, cells := 0, slots := 0, locals := 27 } s m args below meth c 1 (mMQ (XR z) (mKv K) below args s) 90 [(0, (2, 0))] [] x.2.2 | 162, [s1] => mG (XR z) p l e { frames := 1, cells := 0, slots := 0, locals := 27 } s m args below meth c 1 (mMQ (XR z) (mKv K) below args s) 162 [(0, (2, 0))] [(0, s1), (2, 0)] x.2.2 | _, _ => True) := by
    intro x hx
    refine Lfp.ind (fun x => (match x.1, x.2.1 with | 52, [] => mG (XR z) p l e { frames := 1, cells := 0, slots := 0, locals := 27 } s m args below meth c 1 (mMQ (XR z) (mKv K) below args s) 52 [(0, (2, 0))] [] x.2.2 | 0, [] => mG (XR z) p l e { frames := 1, cells := 0, slots := 0, locals := 27 } s m args below meth c 1 (mMQ (XR z) (mKv K) below args s) 0 [(0, (2, 0))] [] x.2.2 | 213, [] => mG (XR z) p l e { frames := 1, cells := 0, slots := 0, locals := 27 } s m args below meth c 1 (mMQ (XR z) (mKv K) below args s) 213 [(0, (2, 0))] [] x.2.2 | 90, [] => mG (XR z) p l e { frames := 1, cells := 0, slots := 0, locals := 27 } s m args below meth c 1 (mMQ (XR z) (mKv K) below args s) 90 [(0, (2, 0))] [] x.2.2 | 162, [s1] => mG (XR z) p l e { frames := 1, cells := 0, slots := 0, locals := 27 } s m args below meth c 1 (mMQ (XR z) (mKv K) below args s) 162 [(0, (2, 0))] [(0, s1), (2, 0)] x.2.2 | _, _ => True)) ?_ hx
    clear hx x
    intro Z x hQ hw
    rcases hw with ⟨h, rfl, hw⟩ | ⟨h, rfl, hw⟩ | ⟨h, rfl, hw⟩ | ⟨h, rfl, hw⟩ | ⟨s1, h, rfl, hw⟩
    · show mG (XR z) p l e { frames := 1, cells := 0, slots := 0, locals := 27 } s m args below meth c 1 (mMQ (XR z) (mKv K) below args s) 52 [(0, (2, 0))] [] h
      unfold B_X14_token_52 at hw
      refine g_aload_n C dX14_token_52 rfl (by decide) rfl ?_
      refine g_aload_n C dX14_token_53 rfl (by decide) rfl ?_
      refine gf_X14_163 C dX14_token_54 kdR_0 (fun z54 => ?_)
      refine gp_X14_157 C dX14_token_57 kdR_0 (fun z => z) ?_
      refine g_heap (fun h1 eh1 => ?_)
      replace hw := hw h1 eh1
      refine g_aload_n C dX14_token_60 rfl (by decide) rfl ?_
      refine gf_X14_163 C dX14_token_61 kdR_0 (fun z61 => ?_)
      refine g_aload_n C dX14_token_64 rfl (by decide) rfl ?_
      refine gf_X14_160 C dX14_token_65 kdR_0 (fun z65 => ?_)
      refine g_icmp_ne C 79 dX14_token_68 rfl hw (fun hw => ?_) (fun hw => ?_)
      · refine g_aload_n C dX14_token_79 rfl (by decide) rfl ?_
        refine g_aload_n C dX14_token_80 rfl (by decide) rfl ?_
        refine gf_X14_163 C dX14_token_81 kdR_0 (fun z81 => ?_)
        refine g_callVz C [(0, (h1 0 7))] (sim_X14_isSmall hw) k_1902 k_1904 k_78 k_147 k_1905 hdV_X14_isSmall rfl rfl (by decide) rfl kdR_0 rfl rfl rfl dX14_token_84 ?_
        intro x1 h2 zb84 hw
        refine g_if_eq C 192 dX14_token_87 rfl hw (fun hw => ?_) (fun hw => ?_)
        · refine g_aload_n C dX14_token_192 rfl (by decide) rfl ?_
          refine g_aload_n C dX14_token_193 rfl (by decide) rfl ?_
          refine gf_X14_163 C dX14_token_194 kdR_0 (fun z194 => ?_)
          refine g_callVz C [(0, (h2 0 7))] (sim_X14_isDigit hw) k_1914 k_1916 k_81 k_147 k_1917 hdV_X14_isDigit rfl rfl (by decide) rfl kdR_0 rfl rfl rfl dX14_token_197 ?_
          intro x2 h3 zb197 hw
          refine g_if_eq C 278 dX14_token_200 rfl hw (fun hw => ?_) (fun hw => ?_)
          · refine g_aload_n C dX14_token_278 rfl (by decide) rfl ?_
            refine g_callVv C [] (sim_X14_signToken hw) k_1918 k_1920 k_82 k_147 k_1921 hdV_X14_signToken rfl rfl (by decide) rfl kdR_0 rfl rfl rfl dX14_token_279 ?_
            intro h4 hw
            exact g_vret C hr dX14_token_282 ⟨rfl, hw⟩
          · refine g_aload_n C dX14_token_203 rfl (by decide) rfl ?_
            refine g_iconst C ⟨by decide, by decide⟩ dX14_token_204 ?_
            refine gp_X14_166 C dX14_token_205 kdR_0 (fun z => z) ?_
            refine g_heap (fun h5 eh5 => ?_)
            replace hw := hw h5 eh5
            refine g_aload_n C dX14_token_208 rfl (by decide) rfl ?_
            refine g_iconst C ⟨by decide, by decide⟩ dX14_token_209 ?_
            refine gp_X14_177 C dX14_token_210 kdR_0 (fun z => z) ?_
            refine g_heap (fun h6 eh6 => ?_)
            replace hw := hw h6 eh6
            exact g_sub [0] rfl (hQ _ hw)
        · exact g_sub [0] rfl (hQ _ hw)
      · refine g_aload_n C dX14_token_71 rfl (by decide) rfl ?_
        refine g_iconst C ⟨by decide, by decide⟩ dX14_token_72 ?_
        refine gp_X14_166 C dX14_token_73 kdR_0 (fun z => z) ?_
        refine g_heap (fun h7 eh7 => ?_)
        replace hw := hw h7 eh7
        refine g_goto C 282 dX14_token_76 rfl ?_
        exact g_vret C hr dX14_token_282 ⟨rfl, hw⟩
    · show mG (XR z) p l e { frames := 1, cells := 0, slots := 0, locals := 27 } s m args below meth c 1 (mMQ (XR z) (mKv K) below args s) 0 [(0, (2, 0))] [] h
      unfold B_X14_token_0 at hw
      refine g_aload_n C dX14_token_0 rfl (by decide) rfl ?_
      refine gf_X14_163 C dX14_token_1 kdR_0 (fun z1 => ?_)
      refine g_aload_n C dX14_token_4 rfl (by decide) rfl ?_
      refine gf_X14_160 C dX14_token_5 kdR_0 (fun z5 => ?_)
      refine g_icmp_ge C 52 dX14_token_8 rfl hw (fun hw => ?_) (fun hw => ?_)
      · exact g_sub [0] rfl (hQ _ hw)
      · refine g_aload_n C dX14_token_11 rfl (by decide) rfl ?_
        refine gw_X14_7 C dX14_token_12 kdR_0 wwR_0_0 ?_
        refine g_aload_n C dX14_token_15 rfl (by decide) rfl ?_
        refine gf_X14_163 C dX14_token_16 kdR_0 (fun z16 => ?_)
        obtain ⟨⟨b3, b3b⟩, hw⟩ := hw
        refine g_iaload C dX14_token_19 kdR_1 b3 b3b (fun z19 => ?_)
        refine g_bipush C ⟨by decide, by decide⟩ (by decide) dX14_token_20 ?_
        refine g_icmp_eq C 39 dX14_token_22 rfl hw (fun hw => ?_) (fun hw => ?_)
        · refine g_aload_n C dX14_token_39 rfl (by decide) rfl ?_
          refine g_dup C (by show ¬ (2 : Nat) = 1; decide) dX14_token_40 ?_
          refine gf_X14_163 C dX14_token_41 kdR_0 (fun z41 => ?_)
          refine g_iconst C ⟨by decide, by decide⟩ dX14_token_44 ?_
          refine g_iadd C dX14_token_45 ?_
          refine gp_X14_163 C dX14_token_46 kdR_0 (fun z => z) ?_
          refine g_heap (fun h1 eh1 => ?_)
          replace hw := hw h1 eh1
          refine g_goto C 0 dX14_token_49 rfl ?_
          exact g_sub [0] rfl (hQ _ hw)
        · refine g_aload_n C dX14_token_25 rfl (by decide) rfl ?_
          refine gw_X14_7 C dX14_token_26 kdR_0 wwR_0_0 ?_
          refine g_aload_n C dX14_token_29 rfl (by decide) rfl ?_
          refine gf_X14_163 C dX14_token_30 kdR_0 (fun z30 => ?_)
          obtain ⟨⟨b4, b4b⟩, hw⟩ := hw
          refine g_iaload C dX14_token_33 kdR_1 b4 b4b (fun z33 => ?_)
          refine g_bipush C ⟨by decide, by decide⟩ (by decide) dX14_token_34 ?_
          refine g_icmp_ne C 52 dX14_token_36 rfl hw (fun hw => ?_) (fun hw => ?_)
          · exact g_sub [0] rfl (hQ _ hw)
          · refine g_aload_n C dX14_token_39 rfl (by decide) rfl ?_
            refine g_dup C (by show ¬ (2 : Nat) = 1; decide) dX14_token_40 ?_
            refine gf_X14_163 C dX14_token_41 kdR_0 (fun z41 => ?_)
            refine g_iconst C ⟨by decide, by decide⟩ dX14_token_44 ?_
            refine g_iadd C dX14_token_45 ?_
            refine gp_X14_163 C dX14_token_46 kdR_0 (fun z => z) ?_
            refine g_heap (fun h2 eh2 => ?_)
            replace hw := hw h2 eh2
            refine g_goto C 0 dX14_token_49 rfl ?_
            exact g_sub [0] rfl (hQ _ hw)
    · show mG (XR z) p l e { frames := 1, cells := 0, slots := 0, locals := 27 } s m args below meth c 1 (mMQ (XR z) (mKv K) below args s) 213 [(0, (2, 0))] [] h
      unfold B_X14_token_213 at hw
      refine g_aload_n C dX14_token_213 rfl (by decide) rfl ?_
      refine g_aload_n C dX14_token_214 rfl (by decide) rfl ?_
      refine gf_X14_163 C dX14_token_215 kdR_0 (fun z215 => ?_)
      refine g_callVz C [(0, (h 0 7))] (sim_X14_isDigit hw) k_1914 k_1916 k_81 k_147 k_1917 hdV_X14_isDigit rfl rfl (by decide) rfl kdR_0 rfl rfl rfl dX14_token_218 ?_
      intro x1 h1 zb218 hw
      refine g_if_eq C 282 dX14_token_221 rfl hw (fun hw => ?_) (fun hw => ?_)
      · exact g_vret C hr dX14_token_282 ⟨rfl, hw⟩
      · refine g_aload_n C dX14_token_224 rfl (by decide) rfl ?_
        refine g_aload_n C dX14_token_225 rfl (by decide) rfl ?_
        refine gf_X14_177 C dX14_token_226 kdR_0 (fun z226 => ?_)
        refine g_sipush C ⟨by decide, by decide⟩ (by decide) dX14_token_229 ?_
        refine g_icmp_le C 242 dX14_token_232 rfl hw (fun hw => ?_) (fun hw => ?_)
        · refine g_bipush C ⟨by decide, by decide⟩ (by decide) dX14_token_242 ?_
          refine g_aload_n C dX14_token_244 rfl (by decide) rfl ?_
          refine gf_X14_177 C dX14_token_245 kdR_0 (fun z245 => ?_)
          refine g_imul C dX14_token_248 ?_
          refine g_aload_n C dX14_token_249 rfl (by decide) rfl ?_
          refine gw_X14_7 C dX14_token_250 kdR_0 wwR_0_0 ?_
          refine g_aload_n C dX14_token_253 rfl (by decide) rfl ?_
          refine gf_X14_163 C dX14_token_254 kdR_0 (fun z254 => ?_)
          obtain ⟨⟨b5, b5b⟩, hw⟩ := hw
          refine g_iaload C dX14_token_257 kdR_1 b5 b5b (fun z257 => ?_)
          refine g_iadd C dX14_token_258 ?_
          refine g_bipush C ⟨by decide, by decide⟩ (by decide) dX14_token_259 ?_
          refine g_isub C dX14_token_261 ?_
          refine gp_X14_177 C dX14_token_262 kdR_0 (fun z => z) ?_
          refine g_heap (fun h2 eh2 => ?_)
          replace hw := hw h2 eh2
          refine g_aload_n C dX14_token_265 rfl (by decide) rfl ?_
          refine g_dup C (by show ¬ (2 : Nat) = 1; decide) dX14_token_266 ?_
          refine gf_X14_163 C dX14_token_267 kdR_0 (fun z267 => ?_)
          refine g_iconst C ⟨by decide, by decide⟩ dX14_token_270 ?_
          refine g_iadd C dX14_token_271 ?_
          refine gp_X14_163 C dX14_token_272 kdR_0 (fun z => z) ?_
          refine g_heap (fun h3 eh3 => ?_)
          replace hw := hw h3 eh3
          refine g_goto C 213 dX14_token_275 rfl ?_
          exact g_sub [0] rfl (hQ _ hw)
        · refine g_aload_n C dX14_token_235 rfl (by decide) rfl ?_
          refine gf_X14_177 C dX14_token_236 kdR_0 (fun z236 => ?_)
          refine g_goto C 262 dX14_token_239 rfl ?_
          refine gp_X14_177 C dX14_token_262 kdR_0 (fun z => z) ?_
          refine g_heap (fun h4 eh4 => ?_)
          replace hw := hw h4 eh4
          refine g_aload_n C dX14_token_265 rfl (by decide) rfl ?_
          refine g_dup C (by show ¬ (2 : Nat) = 1; decide) dX14_token_266 ?_
          refine gf_X14_163 C dX14_token_267 kdR_0 (fun z267 => ?_)
          refine g_iconst C ⟨by decide, by decide⟩ dX14_token_270 ?_
          refine g_iadd C dX14_token_271 ?_
          refine gp_X14_163 C dX14_token_272 kdR_0 (fun z => z) ?_
          refine g_heap (fun h5 eh5 => ?_)
          replace hw := hw h5 eh5
          refine g_goto C 213 dX14_token_275 rfl ?_
          exact g_sub [0] rfl (hQ _ hw)
    · show mG (XR z) p l e { frames := 1, cells := 0, slots := 0, locals := 27 } s m args below meth c 1 (mMQ (XR z) (mKv K) below args s) 90 [(0, (2, 0))] [] h
      unfold B_X14_token_90 at hw
      refine g_aload_n C dX14_token_90 rfl (by decide) rfl ?_
      refine g_aload_n C dX14_token_91 rfl (by decide) rfl ?_
      refine gf_X14_163 C dX14_token_92 kdR_0 (fun z92 => ?_)
      refine g_callVz C [(0, (h 0 7))] (sim_X14_isSmall hw) k_1902 k_1904 k_78 k_147 k_1905 hdV_X14_isSmall rfl rfl (by decide) rfl kdR_0 rfl rfl rfl dX14_token_95 ?_
      intro x1 h1 zb95 hw
      refine g_if_eq C 114 dX14_token_98 rfl hw (fun hw => ?_) (fun hw => ?_)
      · refine g_aload_n C dX14_token_114 rfl (by decide) rfl ?_
        refine g_aload_n C dX14_token_115 rfl (by decide) rfl ?_
        refine g_aload_n C dX14_token_116 rfl (by decide) rfl ?_
        refine gf_X14_157 C dX14_token_117 kdR_0 (fun z117 => ?_)
        refine g_aload_n C dX14_token_120 rfl (by decide) rfl ?_
        refine gf_X14_163 C dX14_token_121 kdR_0 (fun z121 => ?_)
        refine g_callVi C [(0, (h1 0 10)), (0, (h1 0 7))] (sim_X14_wordAt hw) k_1906 k_1908 k_79 k_147 k_1909 hdV_X14_wordAt rfl rfl (by decide) rfl kdR_0 rfl rfl rfl dX14_token_124 ?_
        intro x2 h2 hw
        refine gp_X14_177 C dX14_token_127 kdR_0 (fun z => z) ?_
        refine g_heap (fun h3 eh3 => ?_)
        replace hw := hw h3 eh3
        refine g_aload_n C dX14_token_130 rfl (by decide) rfl ?_
        refine g_aload_n C dX14_token_131 rfl (by decide) rfl ?_
        refine gf_X14_177 C dX14_token_132 kdR_0 (fun z132 => ?_)
        refine g_if_lt C 142 dX14_token_135 rfl hw (fun hw => ?_) (fun hw => ?_)
        · refine g_aload_n C dX14_token_142 rfl (by decide) rfl ?_
          refine gf_X14_163 C dX14_token_143 kdR_0 (fun z143 => ?_)
          refine g_aload_n C dX14_token_146 rfl (by decide) rfl ?_
          refine gf_X14_157 C dX14_token_147 kdR_0 (fun z147 => ?_)
          refine g_isub C dX14_token_150 ?_
          refine g_bipush C ⟨by decide, by decide⟩ (by decide) dX14_token_151 ?_
          refine g_icmp_le C 161 dX14_token_153 rfl hw (fun hw => ?_) (fun hw => ?_)
          · refine g_iconst C ⟨by decide, by decide⟩ dX14_token_161 ?_
            exact g_sub [0] rfl (hQ _ hw)
          · refine g_bipush C ⟨by decide, by decide⟩ (by decide) dX14_token_156 ?_
            refine g_goto C 162 dX14_token_158 rfl ?_
            exact g_sub [0] rfl (hQ _ hw)
        · refine g_iconst C ⟨by decide, by decide⟩ dX14_token_138 ?_
          refine g_goto C 162 dX14_token_139 rfl ?_
          exact g_sub [0] rfl (hQ _ hw)
      · refine g_aload_n C dX14_token_101 rfl (by decide) rfl ?_
        refine g_dup C (by show ¬ (2 : Nat) = 1; decide) dX14_token_102 ?_
        refine gf_X14_163 C dX14_token_103 kdR_0 (fun z103 => ?_)
        refine g_iconst C ⟨by decide, by decide⟩ dX14_token_106 ?_
        refine g_iadd C dX14_token_107 ?_
        refine gp_X14_163 C dX14_token_108 kdR_0 (fun z => z) ?_
        refine g_heap (fun h4 eh4 => ?_)
        replace hw := hw h4 eh4
        refine g_goto C 90 dX14_token_111 rfl ?_
        exact g_sub [0] rfl (hQ _ hw)
    · show mG (XR z) p l e { frames := 1, cells := 0, slots := 0, locals := 27 } s m args below meth c 1 (mMQ (XR z) (mKv K) below args s) 162 [(0, (2, 0))] [(0, s1), (2, 0)] h
      unfold B_X14_token_162 at hw
      refine gp_X14_166 C dX14_token_162 kdR_0 (fun z => z) ?_
      refine g_heap (fun h1 eh1 => ?_)
      replace hw := hw h1 eh1
      refine g_aload_n C dX14_token_165 rfl (by decide) rfl ?_
      refine gf_X14_166 C dX14_token_166 kdR_0 (fun z166 => ?_)
      refine g_iconst C ⟨by decide, by decide⟩ dX14_token_169 ?_
      refine g_icmp_ne C 282 dX14_token_170 rfl hw (fun hw => ?_) (fun hw => ?_)
      · exact g_vret C hr dX14_token_282 ⟨rfl, hw⟩
      · refine g_aload_n C dX14_token_173 rfl (by decide) rfl ?_
        refine g_aload_n C dX14_token_174 rfl (by decide) rfl ?_
        refine g_aload_n C dX14_token_175 rfl (by decide) rfl ?_
        refine gf_X14_157 C dX14_token_176 kdR_0 (fun z176 => ?_)
        refine g_aload_n C dX14_token_179 rfl (by decide) rfl ?_
        refine gf_X14_163 C dX14_token_180 kdR_0 (fun z180 => ?_)
        refine g_callVi C [(0, (h1 0 10)), (0, (h1 0 7))] (sim_X14_packed hw) k_1910 k_1912 k_80 k_147 k_1913 hdV_X14_packed rfl rfl (by decide) rfl kdR_0 rfl rfl rfl dX14_token_183 ?_
        intro x1 h2 hw
        refine gp_X14_177 C dX14_token_186 kdR_0 (fun z => z) ?_
        refine g_heap (fun h3 eh3 => ?_)
        replace hw := hw h3 eh3
        refine g_goto C 282 dX14_token_189 rfl ?_
        exact g_vret C hr dX14_token_282 ⟨rfl, hw⟩
  show mG _ p l e _ s m args below meth c _ _ 0 [(0, (2, 0))] [] h
  unfold wp_X14_token at hw
  refine g_aload_n C dX14_token_0 rfl (by decide) rfl ?_
  refine gf_X14_163 C dX14_token_1 kdR_0 (fun z1 => ?_)
  refine g_aload_n C dX14_token_4 rfl (by decide) rfl ?_
  refine gf_X14_160 C dX14_token_5 kdR_0 (fun z5 => ?_)
  refine g_icmp_ge C 52 dX14_token_8 rfl hw (fun hw => ?_) (fun hw => ?_)
  · exact g_sub [0] rfl (hQ _ hw)
  · refine g_aload_n C dX14_token_11 rfl (by decide) rfl ?_
    refine gw_X14_7 C dX14_token_12 kdR_0 wwR_0_0 ?_
    refine g_aload_n C dX14_token_15 rfl (by decide) rfl ?_
    refine gf_X14_163 C dX14_token_16 kdR_0 (fun z16 => ?_)
    obtain ⟨⟨b1, b1b⟩, hw⟩ := hw
    refine g_iaload C dX14_token_19 kdR_1 b1 b1b (fun z19 => ?_)
    refine g_bipush C ⟨by decide, by decide⟩ (by decide) dX14_token_20 ?_
    refine g_icmp_eq C 39 dX14_token_22 rfl hw (fun hw => ?_) (fun hw => ?_)
    · refine g_aload_n C dX14_token_39 rfl (by decide) rfl ?_
      refine g_dup C (by show ¬ (2 : Nat) = 1; decide) dX14_token_40 ?_
      refine gf_X14_163 C dX14_token_41 kdR_0 (fun z41 => ?_)
      refine g_iconst C ⟨by decide, by decide⟩ dX14_token_44 ?_
      refine g_iadd C dX14_token_45 ?_
      refine gp_X14_163 C dX14_token_46 kdR_0 (fun z => z) ?_
      refine g_heap (fun h1 eh1 => ?_)
      replace hw := hw h1 eh1
      refine g_goto C 0 dX14_token_49 rfl ?_
      exact g_sub [0] rfl (hQ _ hw)
    · refine g_aload_n C dX14_token_25 rfl (by decide) rfl ?_
      refine gw_X14_7 C dX14_token_26 kdR_0 wwR_0_0 ?_
      refine g_aload_n C dX14_token_29 rfl (by decide) rfl ?_
      refine gf_X14_163 C dX14_token_30 kdR_0 (fun z30 => ?_)
      obtain ⟨⟨b2, b2b⟩, hw⟩ := hw
      refine g_iaload C dX14_token_33 kdR_1 b2 b2b (fun z33 => ?_)
      refine g_bipush C ⟨by decide, by decide⟩ (by decide) dX14_token_34 ?_
      refine g_icmp_ne C 52 dX14_token_36 rfl hw (fun hw => ?_) (fun hw => ?_)
      · exact g_sub [0] rfl (hQ _ hw)
      · refine g_aload_n C dX14_token_39 rfl (by decide) rfl ?_
        refine g_dup C (by show ¬ (2 : Nat) = 1; decide) dX14_token_40 ?_
        refine gf_X14_163 C dX14_token_41 kdR_0 (fun z41 => ?_)
        refine g_iconst C ⟨by decide, by decide⟩ dX14_token_44 ?_
        refine g_iadd C dX14_token_45 ?_
        refine gp_X14_163 C dX14_token_46 kdR_0 (fun z => z) ?_
        refine g_heap (fun h2 eh2 => ?_)
        replace hw := hw h2 eh2
        refine g_goto C 0 dX14_token_49 rfl ?_
        exact g_sub [0] rfl (hQ _ hw)
