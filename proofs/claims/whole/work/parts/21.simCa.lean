set_option maxRecDepth 20000 in
set_option maxHeartbeats 4000000 in
theorem sim_X10_advance {z : Mz} {l : Launch} {h : Mh} {K : Mh → Prop} (hw : wp_X10_advance h K) : mCal (XC z) l yX10_advance cX10_advance 2 none 0 0 [(2, 49)] h (mKv K) := by
  refine m_entry RX10 rfl (by decide) rfl (fun p e s m args below meth c C hr => ?_)
  have hQ : ∀ x, Lfp (F_X10_advance K) x → (match x.1, x.2.1 with | 21, [] => mG (XC z) p l e { frames := 0, cells := 0, slots := 0, locals := 0 } s m args below meth c 2 (mMQ (XC z) (mKv K) below args s) 21 [(0, (2, 49))] [] x.2.2 | 55, [] => mG (XC z) p l e { frames := 0, cells := 0, slots := 0, locals := 0 } s m args below meth c 2 (mMQ (XC z) (mKv K) below args s) 55 [(0, (2, 49))] [] x.2.2 | 56, [s0] => mG (XC z) p l e { frames := 0, cells := 0, slots := 0, locals := 0 } s m args below meth c 2 (mMQ (XC z) (mKv K) below args s) 56 [(0, (2, 49))] [(0, s0)] x.2.2 | 75, [v1, s1] => mG (XC z) p l e { frames := 0, cells := 0, slots := 0, locals := 0 } s m args below meth c 2 (mMQ (XC z) (mKv K) below args s) 75 [(1, (0, v1)), (0, (2, 49))] [(0, s1), (2, 49)] x.2.2 | _, _ => True) := by
    intro x hx
    refine Lfp.ind (fun x => (match x.1, x.2.1 with | 21, [] => mG (XC z) p l e { frames := 0, cells := 0, slots := 0, locals := 0 } s m args below meth c 2 (mMQ (XC z) (mKv K) below args s) 21 [(0, (2, 49))] [] x.2.2 | 55, [] => mG (XC z) p l e { frames := 0, cells := 0, slots := 0, locals := 0 } s m args below meth c 2 (mMQ (XC z) (mKv K) below args s) 55 [(0, (2, 49))] [] x.2.2 | 56, [s0] => mG (XC z) p l e { frames := 0, cells := 0, slots := 0, locals := 0 } s m args below meth c 2 (mMQ (XC z) (mKv K) below args s) 56 [(0, (2, 49))] [(0, s0)] x.2.2 | 75, [v1, s1] => mG (XC z) p l e { frames := 0, cells := 0, slots := 0, locals := 0 } s m args below meth c 2 (mMQ (XC z) (mKv K) below args s) 75 [(1, (0, v1)), (0, (2, 49))] [(0, s1), (2, 49)] x.2.2 | _, _ => True)) ?_ hx
    clear hx x
    intro Z x hQ hw
    rcases hw with ⟨h, rfl, hw⟩ | ⟨h, rfl, hw⟩ | ⟨s0, h, rfl, hw⟩ | ⟨v1, s1, h, rfl, hw⟩
    · show mG (XC z) p l e { frames := 0, cells := 0, slots := 0, locals := 0 } s m args below meth c 2 (mMQ (XC z) (mKv K) below args s) 21 [(0, (2, 49))] [] h
      unfold B_X10_advance_21 at hw
      refine g_aload_n C dX10_advance_21 rfl (by decide) rfl ?_
      refine gf_X10_44 C dX10_advance_22 kdC_49 (fun z22 => ?_)
      refine g_if_lt C 55 dX10_advance_25 rfl hw (fun hw => ?_) (fun hw => ?_)
      · exact g_sub [0] rfl (hQ _ hw)
      · refine g_aload_n C dX10_advance_28 rfl (by decide) rfl ?_
        refine gf_X10_44 C dX10_advance_29 kdC_49 (fun z29 => ?_)
        refine g_aload_n C dX10_advance_32 rfl (by decide) rfl ?_
        refine gf_X10_41 C dX10_advance_33 kdC_49 (fun z33 => ?_)
        refine g_icmp_ge C 55 dX10_advance_36 rfl hw (fun hw => ?_) (fun hw => ?_)
        · exact g_sub [0] rfl (hQ _ hw)
        · refine g_aload_n C dX10_advance_39 rfl (by decide) rfl ?_
          refine gf_X10_44 C dX10_advance_40 kdC_49 (fun z40 => ?_)
          refine g_aload_n C dX10_advance_43 rfl (by decide) rfl ?_
          refine gw_X10_9 C dX10_advance_44 kdC_49 wwC_49_1 ?_
          refine g_alen C dX10_advance_47 (ci := 14) (by decide) skC_50 (by decide) ?_
          refine g_icmp_ge C 55 dX10_advance_48 rfl hw (fun hw => ?_) (fun hw => ?_)
          · exact g_sub [0] rfl (hQ _ hw)
          · refine g_iconst C ⟨by decide, by decide⟩ dX10_advance_51 ?_
            refine g_goto C 56 dX10_advance_52 rfl ?_
            exact g_sub [0] rfl (hQ _ hw)
    · show mG (XC z) p l e { frames := 0, cells := 0, slots := 0, locals := 0 } s m args below meth c 2 (mMQ (XC z) (mKv K) below args s) 55 [(0, (2, 49))] [] h
      unfold B_X10_advance_55 at hw
      refine g_iconst C ⟨by decide, by decide⟩ dX10_advance_55 ?_
      exact g_sub [0] rfl (hQ _ hw)
    · show mG (XC z) p l e { frames := 0, cells := 0, slots := 0, locals := 0 } s m args below meth c 2 (mMQ (XC z) (mKv K) below args s) 56 [(0, (2, 49))] [(0, s0)] h
      unfold B_X10_advance_56 at hw
      refine g_istore_n C dX10_advance_56 rfl (by decide) ?_
      refine g_aload_n C dX10_advance_57 rfl (by decide) rfl ?_
      refine g_iload_n C dX10_advance_58 rfl rfl ?_
      refine g_if_eq C 74 dX10_advance_59 rfl hw (fun hw => ?_) (fun hw => ?_)
      · refine g_iconst C ⟨by decide, by decide⟩ dX10_advance_74 ?_
        exact g_sub [1, 0] rfl (hQ _ hw)
      · refine g_aload_n C dX10_advance_62 rfl (by decide) rfl ?_
        refine gw_X10_9 C dX10_advance_63 kdC_49 wwC_49_1 ?_
        refine g_aload_n C dX10_advance_66 rfl (by decide) rfl ?_
        refine gf_X10_44 C dX10_advance_67 kdC_49 (fun z67 => ?_)
        obtain ⟨⟨b1, b1b⟩, hw⟩ := hw
        refine g_iaload C dX10_advance_70 kdC_50 b1 b1b (fun z70 => ?_)
        refine g_goto C 75 dX10_advance_71 rfl ?_
        exact g_sub [1, 0] rfl (hQ _ hw)
    · show mG (XC z) p l e { frames := 0, cells := 0, slots := 0, locals := 0 } s m args below meth c 2 (mMQ (XC z) (mKv K) below args s) 75 [(1, (0, v1)), (0, (2, 49))] [(0, s1), (2, 49)] h
      unfold B_X10_advance_75 at hw
      refine gp_X10_71 C dX10_advance_75 kdC_49 (fun z => z) ?_
      refine g_heap (fun h1 eh1 => ?_)
      replace hw := hw h1 eh1
      refine g_aload_n C dX10_advance_78 rfl (by decide) rfl ?_
      refine g_iload_n C dX10_advance_79 rfl rfl ?_
      refine g_if_eq C 95 dX10_advance_80 rfl hw (fun hw => ?_) (fun hw => ?_)
      · refine g_aload_n C dX10_advance_95 rfl (by decide) rfl ?_
        refine gf_X10_34 C dX10_advance_96 kdC_49 (fun z96 => ?_)
        refine gp_X10_74 C dX10_advance_99 kdC_49 (fun z => z) ?_
        refine g_heap (fun h2 eh2 => ?_)
        replace hw := hw h2 eh2
        refine g_aload_n C dX10_advance_102 rfl (by decide) rfl ?_
        refine g_iload_n C dX10_advance_103 rfl rfl ?_
        refine g_if_eq C 119 dX10_advance_104 rfl hw (fun hw => ?_) (fun hw => ?_)
        · refine g_iconst C ⟨by decide, by decide⟩ dX10_advance_119 ?_
          refine gp_X10_77 C dX10_advance_120 kdC_49 (fun z => z) ?_
          refine g_heap (fun h3 eh3 => ?_)
          replace hw := hw h3 eh3
          exact g_vret C hr dX10_advance_123 ⟨rfl, hw⟩
        · refine g_aload_n C dX10_advance_107 rfl (by decide) rfl ?_
          refine gw_X10_18 C dX10_advance_108 kdC_49 wwC_49_3 ?_
          refine g_aload_n C dX10_advance_111 rfl (by decide) rfl ?_
          refine gf_X10_44 C dX10_advance_112 kdC_49 (fun z112 => ?_)
          obtain ⟨⟨b2, b2b⟩, hw⟩ := hw
          refine g_iaload C dX10_advance_115 kdC_52 b2 b2b (fun z115 => ?_)
          refine g_goto C 120 dX10_advance_116 rfl ?_
          refine gp_X10_77 C dX10_advance_120 kdC_49 (fun z => z) ?_
          refine g_heap (fun h4 eh4 => ?_)
          replace hw := hw h4 eh4
          exact g_vret C hr dX10_advance_123 ⟨rfl, hw⟩
      · refine g_aload_n C dX10_advance_83 rfl (by decide) rfl ?_
        refine gw_X10_15 C dX10_advance_84 kdC_49 wwC_49_2 ?_
        refine g_aload_n C dX10_advance_87 rfl (by decide) rfl ?_
        refine gf_X10_44 C dX10_advance_88 kdC_49 (fun z88 => ?_)
        obtain ⟨⟨b3, b3b⟩, hw⟩ := hw
        refine g_iaload C dX10_advance_91 kdC_51 b3 b3b (fun z91 => ?_)
        refine g_goto C 99 dX10_advance_92 rfl ?_
        refine gp_X10_74 C dX10_advance_99 kdC_49 (fun z => z) ?_
        refine g_heap (fun h5 eh5 => ?_)
        replace hw := hw h5 eh5
        refine g_aload_n C dX10_advance_102 rfl (by decide) rfl ?_
        refine g_iload_n C dX10_advance_103 rfl rfl ?_
        refine g_if_eq C 119 dX10_advance_104 rfl hw (fun hw => ?_) (fun hw => ?_)
        · refine g_iconst C ⟨by decide, by decide⟩ dX10_advance_119 ?_
          refine gp_X10_77 C dX10_advance_120 kdC_49 (fun z => z) ?_
          refine g_heap (fun h6 eh6 => ?_)
          replace hw := hw h6 eh6
          exact g_vret C hr dX10_advance_123 ⟨rfl, hw⟩
        · refine g_aload_n C dX10_advance_107 rfl (by decide) rfl ?_
          refine gw_X10_18 C dX10_advance_108 kdC_49 wwC_49_3 ?_
          refine g_aload_n C dX10_advance_111 rfl (by decide) rfl ?_
          refine gf_X10_44 C dX10_advance_112 kdC_49 (fun z112 => ?_)
          obtain ⟨⟨b4, b4b⟩, hw⟩ := hw
          refine g_iaload C dX10_advance_115 kdC_52 b4 b4b (fun z115 => ?_)
          refine g_goto C 120 dX10_advance_116 rfl ?_
          refine gp_X10_77 C dX10_advance_120 kdC_49 (fun z => z) ?_
          refine g_heap (fun h7 eh7 => ?_)
          replace hw := hw h7 eh7
          exact g_vret C hr dX10_advance_123 ⟨rfl, hw⟩
  show mG _ p l e _ s m args below meth c _ _ 0 [(0, (2, 49))] [] h
  unfold wp_X10_advance at hw
  refine g_aload_n C dX10_advance_0 rfl (by decide) rfl ?_
  refine gf_X10_44 C dX10_advance_1 kdC_49 (fun z1 => ?_)
  refine g_aload_n C dX10_advance_4 rfl (by decide) rfl ?_
  refine gf_X10_41 C dX10_advance_5 kdC_49 (fun z5 => ?_)
  refine g_icmp_ge C 21 dX10_advance_8 rfl hw (fun hw => ?_) (fun hw => ?_)
  · exact g_sub [0] rfl (hQ _ hw)
  · refine g_aload_n C dX10_advance_11 rfl (by decide) rfl ?_
    refine g_dup C (by show ¬ (2 : Nat) = 1; decide) dX10_advance_12 ?_
    refine gf_X10_44 C dX10_advance_13 kdC_49 (fun z13 => ?_)
    refine g_iconst C ⟨by decide, by decide⟩ dX10_advance_16 ?_
    refine g_iadd C dX10_advance_17 ?_
    refine gp_X10_44 C dX10_advance_18 kdC_49 (fun z => z) ?_
    refine g_heap (fun h1 eh1 => ?_)
    replace hw := hw h1 eh1
    exact g_sub [0] rfl (hQ _ hw)
set_option maxRecDepth 20000 in
set_option maxHeartbeats 4000000 in
theorem sim_X10_byteAt {z : Mz} {l : Launch} {p1 : Int} {h : Mh} {K : Int → Mh → Prop} (hw : wp_X10_byteAt p1 h K) : mCal (XC z) l yX10_byteAt cX10_byteAt 2 (some Jvm.ClassFile.FieldType.int) 0 0 [(2, 49), (0, p1)] h (mKi K) := by
  refine m_entry RX10 rfl (by decide) rfl (fun p e s m args below meth c C hr => ?_)
  show mG _ p l e _ s m args below meth c _ _ 0 [(0, (2, 49)), (1, (0, p1))] [] h
  unfold wp_X10_byteAt at hw
  refine g_iload_n C dX10_byteAt_0 rfl rfl ?_
  refine g_if_lt C 30 dX10_byteAt_1 rfl hw (fun hw => ?_) (fun hw => ?_)
  · refine g_iconst C ⟨by decide, by decide⟩ dX10_byteAt_30 ?_
    exact g_iret C hr dX10_byteAt_31 ⟨_, rfl, hw⟩
  · refine g_iload_n C dX10_byteAt_4 rfl rfl ?_
    refine g_aload_n C dX10_byteAt_5 rfl (by decide) rfl ?_
    refine gf_X10_34 C dX10_byteAt_6 kdC_49 (fun z6 => ?_)
    refine g_icmp_ge C 30 dX10_byteAt_9 rfl hw (fun hw => ?_) (fun hw => ?_)
    · refine g_iconst C ⟨by decide, by decide⟩ dX10_byteAt_30 ?_
      exact g_iret C hr dX10_byteAt_31 ⟨_, rfl, hw⟩
    · refine g_iload_n C dX10_byteAt_12 rfl rfl ?_
      refine g_aload_n C dX10_byteAt_13 rfl (by decide) rfl ?_
      refine gw_X10_21 C dX10_byteAt_14 kdC_49 wwC_49_0 ?_
      refine g_alen C dX10_byteAt_17 (ci := 13) (by decide) skC_1 (by decide) ?_
      refine g_icmp_ge C 30 dX10_byteAt_18 rfl hw (fun hw => ?_) (fun hw => ?_)
      · refine g_iconst C ⟨by decide, by decide⟩ dX10_byteAt_30 ?_
        exact g_iret C hr dX10_byteAt_31 ⟨_, rfl, hw⟩
      · refine g_aload_n C dX10_byteAt_21 rfl (by decide) rfl ?_
        refine gw_X10_21 C dX10_byteAt_22 kdC_49 wwC_49_0 ?_
        refine g_iload_n C dX10_byteAt_25 rfl rfl ?_
        obtain ⟨⟨b1, b1b⟩, hw⟩ := hw
        refine g_baload C dX10_byteAt_26 kdC_1 b1 b1b (fun z26 => ?_)
        refine g_goto C 31 dX10_byteAt_27 rfl ?_
        exact g_iret C hr dX10_byteAt_31 ⟨_, rfl, hw⟩
set_option maxRecDepth 20000 in
set_option maxHeartbeats 4000000 in
theorem sim_X10_codeOf {z : Mz} {l : Launch} {p0 : Int} {h : Mh} {K : Int → Mh → Prop} (hw : wp_X10_codeOf p0 h K) : mCal (XC z) l yX10_codeOf cX10_codeOf 1 (some Jvm.ClassFile.FieldType.int) 0 0 [(0, p0)] h (mKi K) := by
  refine m_entry RX10 rfl (by decide) rfl (fun p e s m args below meth c C hr => ?_)
  have hQ : ∀ x, Lfp (F_X10_codeOf p0 K) x → (match x.1, x.2.1 with | 138, [] => mG (XC z) p l e { frames := 0, cells := 0, slots := 0, locals := 0 } s m args below meth c 1 (mMQ (XC z) (mKi K) below args s) 138 [(0, (0, p0))] [] x.2.2 | _, _ => True) := by
    intro x hx
    refine Lfp.ind (fun x => (match x.1, x.2.1 with | 138, [] => mG (XC z) p l e { frames := 0, cells := 0, slots := 0, locals := 0 } s m args below meth c 1 (mMQ (XC z) (mKi K) below args s) 138 [(0, (0, p0))] [] x.2.2 | _, _ => True)) ?_ hx
    clear hx x
    intro Z x hQ hw
    rcases hw with ⟨h, rfl, hw⟩
    · show mG (XC z) p l e { frames := 0, cells := 0, slots := 0, locals := 0 } s m args below meth c 1 (mMQ (XC z) (mKi K) below args s) 138 [(0, (0, p0))] [] h
      unfold B_X10_codeOf_138 at hw
      refine g_iconst C ⟨by decide, by decide⟩ dX10_codeOf_138 ?_
      exact g_iret C hr dX10_codeOf_139 ⟨_, rfl, hw⟩
  show mG _ p l e _ s m args below meth c _ _ 0 [(0, (0, p0))] [] h
  unfold wp_X10_codeOf at hw
  refine g_iload_n C dX10_codeOf_0 rfl rfl ?_
  by_cases c0 : p0 = 40
  · rw [if_pos c0] at hw
    refine g_tabIn C 111 40 dX10_codeOf_1 c0 (by decide) (by decide) rfl rfl ?_
    refine g_bipush C ⟨by decide, by decide⟩ (by decide) dX10_codeOf_111 ?_
    exact g_iret C hr dX10_codeOf_113 ⟨_, rfl, hw⟩
  rw [if_neg c0] at hw
  by_cases c1 : p0 = 41
  · rw [if_pos c1] at hw
    refine g_tabIn C 114 41 dX10_codeOf_1 c1 (by decide) (by decide) rfl rfl ?_
    refine g_bipush C ⟨by decide, by decide⟩ (by decide) dX10_codeOf_114 ?_
    exact g_iret C hr dX10_codeOf_116 ⟨_, rfl, hw⟩
  rw [if_neg c1] at hw
  by_cases c2 : p0 = 42
  · rw [if_pos c2] at hw
    refine g_tabIn C 123 42 dX10_codeOf_1 c2 (by decide) (by decide) rfl rfl ?_
    refine g_bipush C ⟨by decide, by decide⟩ (by decide) dX10_codeOf_123 ?_
    exact g_iret C hr dX10_codeOf_125 ⟨_, rfl, hw⟩
  rw [if_neg c2] at hw
  by_cases c3 : p0 = 43
  · rw [if_pos c3] at hw
    refine g_tabIn C 117 43 dX10_codeOf_1 c3 (by decide) (by decide) rfl rfl ?_
    refine g_bipush C ⟨by decide, by decide⟩ (by decide) dX10_codeOf_117 ?_
    exact g_iret C hr dX10_codeOf_119 ⟨_, rfl, hw⟩
  rw [if_neg c3] at hw
  by_cases c4 : p0 = 44
  · rw [if_pos c4] at hw
    refine g_tabIn C 138 44 dX10_codeOf_1 c4 (by decide) (by decide) rfl rfl ?_
    exact g_sub [0] rfl (hQ _ hw)
  rw [if_neg c4] at hw
  by_cases c5 : p0 = 45
  · rw [if_pos c5] at hw
    refine g_tabIn C 120 45 dX10_codeOf_1 c5 (by decide) (by decide) rfl rfl ?_
    refine g_bipush C ⟨by decide, by decide⟩ (by decide) dX10_codeOf_120 ?_
    exact g_iret C hr dX10_codeOf_122 ⟨_, rfl, hw⟩
  rw [if_neg c5] at hw
  by_cases c6 : p0 = 46
  · rw [if_pos c6] at hw
    refine g_tabIn C 138 46 dX10_codeOf_1 c6 (by decide) (by decide) rfl rfl ?_
    exact g_sub [0] rfl (hQ _ hw)
  rw [if_neg c6] at hw
  by_cases c7 : p0 = 47
  · rw [if_pos c7] at hw
    refine g_tabIn C 126 47 dX10_codeOf_1 c7 (by decide) (by decide) rfl rfl ?_
    refine g_bipush C ⟨by decide, by decide⟩ (by decide) dX10_codeOf_126 ?_
    exact g_iret C hr dX10_codeOf_128 ⟨_, rfl, hw⟩
  rw [if_neg c7] at hw
  by_cases c8 : p0 = 48
  · rw [if_pos c8] at hw
    refine g_tabIn C 138 48 dX10_codeOf_1 c8 (by decide) (by decide) rfl rfl ?_
    exact g_sub [0] rfl (hQ _ hw)
  rw [if_neg c8] at hw
  by_cases c9 : p0 = 49
  · rw [if_pos c9] at hw
    refine g_tabIn C 138 49 dX10_codeOf_1 c9 (by decide) (by decide) rfl rfl ?_
    exact g_sub [0] rfl (hQ _ hw)
  rw [if_neg c9] at hw
  by_cases c10 : p0 = 50
  · rw [if_pos c10] at hw
    refine g_tabIn C 138 50 dX10_codeOf_1 c10 (by decide) (by decide) rfl rfl ?_
    exact g_sub [0] rfl (hQ _ hw)
  rw [if_neg c10] at hw
  by_cases c11 : p0 = 51
  · rw [if_pos c11] at hw
    refine g_tabIn C 138 51 dX10_codeOf_1 c11 (by decide) (by decide) rfl rfl ?_
    exact g_sub [0] rfl (hQ _ hw)
  rw [if_neg c11] at hw
  by_cases c12 : p0 = 52
  · rw [if_pos c12] at hw
    refine g_tabIn C 138 52 dX10_codeOf_1 c12 (by decide) (by decide) rfl rfl ?_
    exact g_sub [0] rfl (hQ _ hw)
  rw [if_neg c12] at hw
  by_cases c13 : p0 = 53
  · rw [if_pos c13] at hw
    refine g_tabIn C 138 53 dX10_codeOf_1 c13 (by decide) (by decide) rfl rfl ?_
    exact g_sub [0] rfl (hQ _ hw)
  rw [if_neg c13] at hw
  by_cases c14 : p0 = 54
  · rw [if_pos c14] at hw
    refine g_tabIn C 138 54 dX10_codeOf_1 c14 (by decide) (by decide) rfl rfl ?_
    exact g_sub [0] rfl (hQ _ hw)
  rw [if_neg c14] at hw
  by_cases c15 : p0 = 55
  · rw [if_pos c15] at hw
    refine g_tabIn C 138 55 dX10_codeOf_1 c15 (by decide) (by decide) rfl rfl ?_
    exact g_sub [0] rfl (hQ _ hw)
  rw [if_neg c15] at hw
  by_cases c16 : p0 = 56
  · rw [if_pos c16] at hw
    refine g_tabIn C 138 56 dX10_codeOf_1 c16 (by decide) (by decide) rfl rfl ?_
    exact g_sub [0] rfl (hQ _ hw)
  rw [if_neg c16] at hw
  by_cases c17 : p0 = 57
  · rw [if_pos c17] at hw
    refine g_tabIn C 138 57 dX10_codeOf_1 c17 (by decide) (by decide) rfl rfl ?_
    exact g_sub [0] rfl (hQ _ hw)
  rw [if_neg c17] at hw
  by_cases c18 : p0 = 58
  · rw [if_pos c18] at hw
    refine g_tabIn C 138 58 dX10_codeOf_1 c18 (by decide) (by decide) rfl rfl ?_
    exact g_sub [0] rfl (hQ _ hw)
  rw [if_neg c18] at hw
  by_cases c19 : p0 = 59
  · rw [if_pos c19] at hw
    refine g_tabIn C 108 59 dX10_codeOf_1 c19 (by decide) (by decide) rfl rfl ?_
    refine g_bipush C ⟨by decide, by decide⟩ (by decide) dX10_codeOf_108 ?_
    exact g_iret C hr dX10_codeOf_110 ⟨_, rfl, hw⟩
  rw [if_neg c19] at hw
  by_cases c20 : p0 = 60
  · rw [if_pos c20] at hw
    refine g_tabIn C 132 60 dX10_codeOf_1 c20 (by decide) (by decide) rfl rfl ?_
    refine g_bipush C ⟨by decide, by decide⟩ (by decide) dX10_codeOf_132 ?_
    exact g_iret C hr dX10_codeOf_134 ⟨_, rfl, hw⟩
  rw [if_neg c20] at hw
  by_cases c21 : p0 = 61
  · rw [if_pos c21] at hw
    refine g_tabIn C 129 61 dX10_codeOf_1 c21 (by decide) (by decide) rfl rfl ?_
    refine g_bipush C ⟨by decide, by decide⟩ (by decide) dX10_codeOf_129 ?_
    exact g_iret C hr dX10_codeOf_131 ⟨_, rfl, hw⟩
  rw [if_neg c21] at hw
  by_cases c22 : p0 = 62
  · rw [if_pos c22] at hw
    refine g_tabIn C 135 62 dX10_codeOf_1 c22 (by decide) (by decide) rfl rfl ?_
    refine g_bipush C ⟨by decide, by decide⟩ (by decide) dX10_codeOf_135 ?_
    exact g_iret C hr dX10_codeOf_137 ⟨_, rfl, hw⟩
  rw [if_neg c22] at hw
  refine g_tabOut C 138 dX10_codeOf_1 (by omega) rfl ?_
  exact g_sub [0] rfl (hQ _ hw)
set_option maxRecDepth 20000 in
set_option maxHeartbeats 4000000 in
theorem sim_X10_isDigit {z : Mz} {l : Launch} {p0 : Int} {h : Mh} {K : Int → Mh → Prop} (hw : wp_X10_isDigit p0 h K) : mCal (XC z) l yX10_isDigit cX10_isDigit 1 (some Jvm.ClassFile.FieldType.boolean) 0 0 [(0, p0)] h (mKz K) := by
  refine m_entry RX10 rfl (by decide) rfl (fun p e s m args below meth c C hr => ?_)
  show mG _ p l e _ s m args below meth c _ _ 0 [(0, (0, p0))] [] h
  unfold wp_X10_isDigit at hw
  refine g_iload_n C dX10_isDigit_0 rfl rfl ?_
  refine g_bipush C ⟨by decide, by decide⟩ (by decide) dX10_isDigit_1 ?_
  refine g_icmp_lt C 16 dX10_isDigit_3 rfl hw (fun hw => ?_) (fun hw => ?_)
  · refine g_iconst C ⟨by decide, by decide⟩ dX10_isDigit_16 ?_
    exact g_zret C hr (Or.inl rfl) dX10_isDigit_17 ⟨_, rfl, (Or.inl rfl), hw⟩
  · refine g_iload_n C dX10_isDigit_6 rfl rfl ?_
    refine g_bipush C ⟨by decide, by decide⟩ (by decide) dX10_isDigit_7 ?_
    refine g_icmp_gt C 16 dX10_isDigit_9 rfl hw (fun hw => ?_) (fun hw => ?_)
    · refine g_iconst C ⟨by decide, by decide⟩ dX10_isDigit_16 ?_
      exact g_zret C hr (Or.inl rfl) dX10_isDigit_17 ⟨_, rfl, (Or.inl rfl), hw⟩
    · refine g_iconst C ⟨by decide, by decide⟩ dX10_isDigit_12 ?_
      refine g_goto C 17 dX10_isDigit_13 rfl ?_
      exact g_zret C hr (Or.inr rfl) dX10_isDigit_17 ⟨_, rfl, (Or.inr rfl), hw⟩
set_option maxRecDepth 20000 in
set_option maxHeartbeats 4000000 in
theorem sim_X10_isLetter {z : Mz} {l : Launch} {p0 : Int} {h : Mh} {K : Int → Mh → Prop} (hw : wp_X10_isLetter p0 h K) : mCal (XC z) l yX10_isLetter cX10_isLetter 1 (some Jvm.ClassFile.FieldType.boolean) 0 0 [(0, p0)] h (mKz K) := by
  refine m_entry RX10 rfl (by decide) rfl (fun p e s m args below meth c C hr => ?_)
  show mG _ p l e _ s m args below meth c _ _ 0 [(0, (0, p0))] [] h
  unfold wp_X10_isLetter at hw
  refine g_iload_n C dX10_isLetter_0 rfl rfl ?_
  refine g_bipush C ⟨by decide, by decide⟩ (by decide) dX10_isLetter_1 ?_
  refine g_icmp_lt C 16 dX10_isLetter_3 rfl hw (fun hw => ?_) (fun hw => ?_)
  · refine g_iconst C ⟨by decide, by decide⟩ dX10_isLetter_16 ?_
    exact g_zret C hr (Or.inl rfl) dX10_isLetter_17 ⟨_, rfl, (Or.inl rfl), hw⟩
  · refine g_iload_n C dX10_isLetter_6 rfl rfl ?_
    refine g_bipush C ⟨by decide, by decide⟩ (by decide) dX10_isLetter_7 ?_
    refine g_icmp_gt C 16 dX10_isLetter_9 rfl hw (fun hw => ?_) (fun hw => ?_)
    · refine g_iconst C ⟨by decide, by decide⟩ dX10_isLetter_16 ?_
      exact g_zret C hr (Or.inl rfl) dX10_isLetter_17 ⟨_, rfl, (Or.inl rfl), hw⟩
    · refine g_iconst C ⟨by decide, by decide⟩ dX10_isLetter_12 ?_
      refine g_goto C 17 dX10_isLetter_13 rfl ?_
      exact g_zret C hr (Or.inr rfl) dX10_isLetter_17 ⟨_, rfl, (Or.inr rfl), hw⟩
set_option maxRecDepth 20000 in
set_option maxHeartbeats 4000000 in
theorem sim_X10_isSign {z : Mz} {l : Launch} {p1 : Int} {h : Mh} {K : Int → Mh → Prop} (hw : wp_X10_isSign p1 h K) : mCal (XC z) l yX10_isSign cX10_isSign 2 (some Jvm.ClassFile.FieldType.boolean) 0 0 [(2, 49), (0, p1)] h (mKz K) := by
  refine m_entry RX10 rfl (by decide) rfl (fun p e s m args below meth c C hr => ?_)
  show mG _ p l e _ s m args below meth c _ _ 0 [(0, (2, 49)), (1, (0, p1))] [] h
  unfold wp_X10_isSign at hw
  refine g_aload_n C dX10_isSign_0 rfl (by decide) rfl ?_
  refine gf_X10_71 C dX10_isSign_1 kdC_49 (fun z1 => ?_)
  refine g_iconst C ⟨by decide, by decide⟩ dX10_isSign_4 ?_
  refine g_icmp_ne C 20 dX10_isSign_5 rfl hw (fun hw => ?_) (fun hw => ?_)
  · refine g_iconst C ⟨by decide, by decide⟩ dX10_isSign_20 ?_
    exact g_zret C hr (Or.inl rfl) dX10_isSign_21 ⟨_, rfl, (Or.inl rfl), hw⟩
  · refine g_aload_n C dX10_isSign_8 rfl (by decide) rfl ?_
    refine gf_X10_77 C dX10_isSign_9 kdC_49 (fun z9 => ?_)
    refine g_iload_n C dX10_isSign_12 rfl rfl ?_
    refine g_icmp_ne C 20 dX10_isSign_13 rfl hw (fun hw => ?_) (fun hw => ?_)
    · refine g_iconst C ⟨by decide, by decide⟩ dX10_isSign_20 ?_
      exact g_zret C hr (Or.inl rfl) dX10_isSign_21 ⟨_, rfl, (Or.inl rfl), hw⟩
    · refine g_iconst C ⟨by decide, by decide⟩ dX10_isSign_16 ?_
      refine g_goto C 21 dX10_isSign_17 rfl ?_
      exact g_zret C hr (Or.inr rfl) dX10_isSign_21 ⟨_, rfl, (Or.inr rfl), hw⟩
set_option maxRecDepth 20000 in
set_option maxHeartbeats 4000000 in
theorem sim_X10_isWord {z : Mz} {l : Launch} {p1 : Int} {h : Mh} {K : Int → Mh → Prop} (hw : wp_X10_isWord p1 h K) : mCal (XC z) l yX10_isWord cX10_isWord 2 (some Jvm.ClassFile.FieldType.boolean) 0 0 [(2, 49), (3, p1)] h (mKz K) := by
  refine m_entry RX10 rfl (by decide) rfl (fun p e s m args below meth c C hr => ?_)
  show mG _ p l e _ s m args below meth c _ _ 0 [(0, (2, 49)), (1, (3, p1))] [] h
  unfold wp_X10_isWord at hw
  refine g_aload_n C dX10_isWord_0 rfl (by decide) rfl ?_
  refine gf_X10_71 C dX10_isWord_1 kdC_49 (fun z1 => ?_)
  refine g_iconst C ⟨by decide, by decide⟩ dX10_isWord_4 ?_
  refine g_icmp_ne C 23 dX10_isWord_5 rfl hw (fun hw => ?_) (fun hw => ?_)
  · refine g_iconst C ⟨by decide, by decide⟩ dX10_isWord_23 ?_
    exact g_zret C hr (Or.inl rfl) dX10_isWord_24 ⟨_, rfl, (Or.inl rfl), hw⟩
  · refine g_aload_n C dX10_isWord_8 rfl (by decide) rfl ?_
    refine gf_X10_77 C dX10_isWord_9 kdC_49 (fun z9 => ?_)
    refine g_aload_n C dX10_isWord_12 rfl (by decide) rfl ?_
    obtain ⟨⟨b1, b1b⟩, hw⟩ := hw
    refine g_wlN C k_2306 dX10_isWord_13 b1 b1b ?_
    refine g_icmp_ne C 23 dX10_isWord_16 rfl hw (fun hw => ?_) (fun hw => ?_)
    · refine g_iconst C ⟨by decide, by decide⟩ dX10_isWord_23 ?_
      exact g_zret C hr (Or.inl rfl) dX10_isWord_24 ⟨_, rfl, (Or.inl rfl), hw⟩
    · refine g_iconst C ⟨by decide, by decide⟩ dX10_isWord_19 ?_
      refine g_goto C 24 dX10_isWord_20 rfl ?_
      exact g_zret C hr (Or.inr rfl) dX10_isWord_24 ⟨_, rfl, (Or.inr rfl), hw⟩
set_option maxRecDepth 20000 in
set_option maxHeartbeats 4000000 in
theorem sim_X10_put {z : Mz} {l : Launch} {p1 : Int} {p2 : Int} {p3 : Int} {h : Mh} {K : Mh → Prop} (hw : wp_X10_put p1 p2 p3 h K) : mCal (XC z) l yX10_put cX10_put 4 none 0 0 [(2, 49), (0, p1), (0, p2), (0, p3)] h (mKv K) := by
  refine m_entry RX10 rfl (by decide) rfl (fun p e s m args below meth c C hr => ?_)
  show mG _ p l e _ s m args below meth c _ _ 0 [(0, (2, 49)), (1, (0, p1)), (2, (0, p2)), (3, (0, p3))] [] h
  unfold wp_X10_put at hw
  refine g_aload_n C dX10_put_0 rfl (by decide) rfl ?_
  refine gf_X10_41 C dX10_put_1 kdC_49 (fun z1 => ?_)
  refine g_if_lt C 59 dX10_put_4 rfl hw (fun hw => ?_) (fun hw => ?_)
  · exact g_vret C hr dX10_put_59 ⟨rfl, hw⟩
  · refine g_aload_n C dX10_put_7 rfl (by decide) rfl ?_
    refine gf_X10_41 C dX10_put_8 kdC_49 (fun z8 => ?_)
    refine g_aload_n C dX10_put_11 rfl (by decide) rfl ?_
    refine gw_X10_9 C dX10_put_12 kdC_49 wwC_49_1 ?_
    refine g_alen C dX10_put_15 (ci := 14) (by decide) skC_50 (by decide) ?_
    refine g_icmp_ge C 59 dX10_put_16 rfl hw (fun hw => ?_) (fun hw => ?_)
    · exact g_vret C hr dX10_put_59 ⟨rfl, hw⟩
    · refine g_aload_n C dX10_put_19 rfl (by decide) rfl ?_
      refine gw_X10_9 C dX10_put_20 kdC_49 wwC_49_1 ?_
      refine g_aload_n C dX10_put_23 rfl (by decide) rfl ?_
      refine gf_X10_41 C dX10_put_24 kdC_49 (fun z24 => ?_)
      refine g_iload_n C dX10_put_27 rfl rfl ?_
      obtain ⟨⟨b1, b1b⟩, hw⟩ := hw
      refine g_iastore C dX10_put_28 kdC_50 b1 b1b (fun z => z) ?_
      refine g_heap (fun h1 eh1 => ?_)
      replace hw := hw h1 eh1
      refine g_aload_n C dX10_put_29 rfl (by decide) rfl ?_
      refine gw_X10_15 C dX10_put_30 kdC_49 wwC_49_2 ?_
      refine g_aload_n C dX10_put_33 rfl (by decide) rfl ?_
      refine gf_X10_41 C dX10_put_34 kdC_49 (fun z34 => ?_)
      refine g_iload_n C dX10_put_37 rfl rfl ?_
      obtain ⟨⟨b2, b2b⟩, hw⟩ := hw
      refine g_iastore C dX10_put_38 kdC_51 b2 b2b (fun z => z) ?_
      refine g_heap (fun h2 eh2 => ?_)
      replace hw := hw h2 eh2
      refine g_aload_n C dX10_put_39 rfl (by decide) rfl ?_
      refine gw_X10_18 C dX10_put_40 kdC_49 wwC_49_3 ?_
      refine g_aload_n C dX10_put_43 rfl (by decide) rfl ?_
      refine gf_X10_41 C dX10_put_44 kdC_49 (fun z44 => ?_)
      refine g_iload_n C dX10_put_47 rfl rfl ?_
      obtain ⟨⟨b3, b3b⟩, hw⟩ := hw
      refine g_iastore C dX10_put_48 kdC_52 b3 b3b (fun z => z) ?_
      refine g_heap (fun h3 eh3 => ?_)
      replace hw := hw h3 eh3
      refine g_aload_n C dX10_put_49 rfl (by decide) rfl ?_
      refine g_dup C (by show ¬ (2 : Nat) = 1; decide) dX10_put_50 ?_
      refine gf_X10_41 C dX10_put_51 kdC_49 (fun z51 => ?_)
      refine g_iconst C ⟨by decide, by decide⟩ dX10_put_54 ?_
      refine g_iadd C dX10_put_55 ?_
      refine gp_X10_41 C dX10_put_56 kdC_49 (fun z => z) ?_
      refine g_heap (fun h4 eh4 => ?_)
      replace hw := hw h4 eh4
      exact g_vret C hr dX10_put_59 ⟨rfl, hw⟩
set_option maxRecDepth 20000 in
set_option maxHeartbeats 4000000 in
theorem sim_X10_scanNumber {z : Mz} {l : Launch} {h : Mh} {K : Mh → Prop} (hw : wp_X10_scanNumber h K) : mCal (XC z) l yX10_scanNumber cX10_scanNumber 3 none 1 23 [(2, 49)] h (mKv K) := by
  refine m_entry RX10 rfl (by decide) rfl (fun p e s m args below meth c C hr => ?_)
  have hQ : ∀ x, Lfp (F_X10_scanNumber K) x → (match x.1, x.2.1 with | 7, [v1, v2] => mG (XC z) p l e { frames := 1, cells := 0, slots := 0, locals := 23 } s m args below meth c 3 (mMQ (XC z) (mKv K) below args s) 7 [(1, (0, v1)), (2, (0, v2)), (0, (2, 49))] [] x.2.2 | _, _ => True) := by
    intro x hx
    refine Lfp.ind (fun x => (match x.1, x.2.1 with | 7, [v1, v2] => mG (XC z) p l e { frames := 1, cells := 0, slots := 0, locals := 23 } s m args below meth c 3 (mMQ (XC z) (mKv K) below args s) 7 [(1, (0, v1)), (2, (0, v2)), (0, (2, 49))] [] x.2.2 | _, _ => True)) ?_ hx
    clear hx x
    intro Z x hQ hw
    rcases hw with ⟨v1, v2, h, rfl, hw⟩
    · show mG (XC z) p l e { frames := 1, cells := 0, slots := 0, locals := 23 } s m args below meth c 3 (mMQ (XC z) (mKv K) below args s) 7 [(1, (0, v1)), (2, (0, v2)), (0, (2, 49))] [] h
      unfold B_X10_scanNumber_7 at hw
      refine g_aload_n C dX10_scanNumber_7 rfl (by decide) rfl ?_
      refine gf_X10_38 C dX10_scanNumber_8 kdC_49 (fun z8 => ?_)
      refine g_aload_n C dX10_scanNumber_11 rfl (by decide) rfl ?_
      refine gf_X10_34 C dX10_scanNumber_12 kdC_49 (fun z12 => ?_)
      refine g_icmp_ge C 67 dX10_scanNumber_15 rfl hw (fun hw => ?_) (fun hw => ?_)
      · refine g_aload_n C dX10_scanNumber_67 rfl (by decide) rfl ?_
        refine g_iconst C ⟨by decide, by decide⟩ dX10_scanNumber_68 ?_
        refine g_iload_n C dX10_scanNumber_69 rfl rfl ?_
        refine g_iload_n C dX10_scanNumber_70 rfl rfl ?_
        refine g_callVv C [(0, 1), (0, v1), (0, v2)] (sim_X10_put hw) k_746 k_748 k_3 k_141 k_749 hdV_X10_put rfl rfl (by decide) rfl kdC_49 rfl rfl rfl dX10_scanNumber_71 ?_
        intro h1 hw
        exact g_vret C hr dX10_scanNumber_74 ⟨rfl, hw⟩
      · refine g_aload_n C dX10_scanNumber_18 rfl (by decide) rfl ?_
        refine g_aload_n C dX10_scanNumber_19 rfl (by decide) rfl ?_
        refine gf_X10_38 C dX10_scanNumber_20 kdC_49 (fun z20 => ?_)
        refine g_callVi C [(0, (h 49 6))] (sim_X10_byteAt hw) k_730 k_732 k_1 k_141 k_733 hdV_X10_byteAt rfl rfl (by decide) rfl kdC_49 rfl rfl rfl dX10_scanNumber_23 ?_
        intro x1 h2 hw
        refine g_callSz C [(0, x1)] (sim_X10_isDigit hw) k_750 k_751 k_141 k_752 hdS_X10_isDigit rfl rfl rfl rfl rfl dX10_scanNumber_26 ?_
        intro x2 h3 zb26 hw
        refine g_if_eq C 67 dX10_scanNumber_29 rfl hw (fun hw => ?_) (fun hw => ?_)
        · refine g_aload_n C dX10_scanNumber_67 rfl (by decide) rfl ?_
          refine g_iconst C ⟨by decide, by decide⟩ dX10_scanNumber_68 ?_
          refine g_iload_n C dX10_scanNumber_69 rfl rfl ?_
          refine g_iload_n C dX10_scanNumber_70 rfl rfl ?_
          refine g_callVv C [(0, 1), (0, v1), (0, v2)] (sim_X10_put hw) k_746 k_748 k_3 k_141 k_749 hdV_X10_put rfl rfl (by decide) rfl kdC_49 rfl rfl rfl dX10_scanNumber_71 ?_
          intro h4 hw
          exact g_vret C hr dX10_scanNumber_74 ⟨rfl, hw⟩
        · refine g_ldc C ⟨by decide, by decide⟩ k_757 dX10_scanNumber_32 ?_
          refine g_iload_n C dX10_scanNumber_34 rfl rfl ?_
          refine g_bipush C ⟨by decide, by decide⟩ (by decide) dX10_scanNumber_35 ?_
          refine g_imul C dX10_scanNumber_37 ?_
          refine g_aload_n C dX10_scanNumber_38 rfl (by decide) rfl ?_
          refine g_aload_n C dX10_scanNumber_39 rfl (by decide) rfl ?_
          refine gf_X10_38 C dX10_scanNumber_40 kdC_49 (fun z40 => ?_)
          refine g_callVi C [(0, (h3 49 6))] (sim_X10_byteAt hw) k_730 k_732 k_1 k_141 k_733 hdV_X10_byteAt rfl rfl (by decide) rfl kdC_49 rfl rfl rfl dX10_scanNumber_43 ?_
          intro x3 h5 hw
          refine g_iadd C dX10_scanNumber_46 ?_
          refine g_bipush C ⟨by decide, by decide⟩ (by decide) dX10_scanNumber_47 ?_
          refine g_isub C dX10_scanNumber_49 ?_
          refine g_mmin C k_726 k_727 k_137 k_728 rfl rfl rfl dX10_scanNumber_50 ?_
          refine g_topi (fun x4 ex4 => ?_)
          replace hw := hw x4 ex4
          refine g_istore_n C dX10_scanNumber_53 rfl (by decide) ?_
          refine g_aload_n C dX10_scanNumber_54 rfl (by decide) rfl ?_
          refine g_dup C (by show ¬ (2 : Nat) = 1; decide) dX10_scanNumber_55 ?_
          refine gf_X10_38 C dX10_scanNumber_56 kdC_49 (fun z56 => ?_)
          refine g_iconst C ⟨by decide, by decide⟩ dX10_scanNumber_59 ?_
          refine g_iadd C dX10_scanNumber_60 ?_
          refine gp_X10_38 C dX10_scanNumber_61 kdC_49 (fun z => z) ?_
          refine g_heap (fun h6 eh6 => ?_)
          replace hw := hw h6 eh6
          refine g_goto C 7 dX10_scanNumber_64 rfl ?_
          exact g_sub [1, 2, 0] rfl (hQ _ hw)
  show mG _ p l e _ s m args below meth c _ _ 0 [(0, (2, 49))] [] h
  unfold wp_X10_scanNumber at hw
  refine g_aload_n C dX10_scanNumber_0 rfl (by decide) rfl ?_
  refine gf_X10_38 C dX10_scanNumber_1 kdC_49 (fun z1 => ?_)
  refine g_topi (fun x1 ex1 => ?_)
  replace hw := hw x1 ex1
  refine g_istore_n C dX10_scanNumber_4 rfl (by decide) ?_
  refine g_iconst C ⟨by decide, by decide⟩ dX10_scanNumber_5 ?_
  refine g_istore_n C dX10_scanNumber_6 rfl (by decide) ?_
  exact g_sub [1, 2, 0] rfl (hQ _ hw)
set_option maxRecDepth 20000 in
set_option maxHeartbeats 4000000 in
theorem sim_X10_scanSign {z : Mz} {l : Launch} {p1 : Int} {h : Mh} {K : Mh → Prop} (hw : wp_X10_scanSign p1 h K) : mCal (XC z) l yX10_scanSign cX10_scanSign 5 none 1 23 [(2, 49), (0, p1)] h (mKv K) := by
  refine m_entry RX10 rfl (by decide) rfl (fun p e s m args below meth c C hr => ?_)
  have hQ : ∀ x, Lfp (F_X10_scanSign p1 K) x → (match x.1, x.2.1 with | 72, [v2, v3, v4] => mG (XC z) p l e { frames := 1, cells := 0, slots := 0, locals := 23 } s m args below meth c 5 (mMQ (XC z) (mKv K) below args s) 72 [(2, (0, v2)), (3, (0, v3)), (4, (0, v4)), (0, (2, 49)), (1, (0, p1))] [] x.2.2 | 127, [v2, v3] => mG (XC z) p l e { frames := 1, cells := 0, slots := 0, locals := 23 } s m args below meth c 5 (mMQ (XC z) (mKv K) below args s) 127 [(2, (0, v2)), (3, (0, v3)), (0, (2, 49)), (1, (0, p1))] [] x.2.2 | 101, [v2, v3, v4] => mG (XC z) p l e { frames := 1, cells := 0, slots := 0, locals := 23 } s m args below meth c 5 (mMQ (XC z) (mKv K) below args s) 101 [(2, (0, v2)), (3, (0, v3)), (4, (0, v4)), (0, (2, 49)), (1, (0, p1))] [] x.2.2 | _, _ => True) := by
    intro x hx
    refine Lfp.ind (fun x => (match x.1, x.2.1 with | 72, [v2, v3, v4] => mG (XC z) p l e { frames := 1, cells := 0, slots := 0, locals := 23 } s m args below meth c 5 (mMQ (XC z) (mKv K) below args s) 72 [(2, (0, v2)), (3, (0, v3)), (4, (0, v4)), (0, (2, 49)), (1, (0, p1))] [] x.2.2 | 127, [v2, v3] => mG (XC z) p l e { frames := 1, cells := 0, slots := 0, locals := 23 } s m args below meth c 5 (mMQ (XC z) (mKv K) below args s) 127 [(2, (0, v2)), (3, (0, v3)), (0, (2, 49)), (1, (0, p1))] [] x.2.2 | 101, [v2, v3, v4] => mG (XC z) p l e { frames := 1, cells := 0, slots := 0, locals := 23 } s m args below meth c 5 (mMQ (XC z) (mKv K) below args s) 101 [(2, (0, v2)), (3, (0, v3)), (4, (0, v4)), (0, (2, 49)), (1, (0, p1))] [] x.2.2 | _, _ => True)) ?_ hx
    clear hx x
    intro Z x hQ hw
    rcases hw with ⟨v2, v3, v4, h, rfl, hw⟩ | ⟨v2, v3, h, rfl, hw⟩ | ⟨v2, v3, v4, h, rfl, hw⟩
    · show mG (XC z) p l e { frames := 1, cells := 0, slots := 0, locals := 23 } s m args below meth c 5 (mMQ (XC z) (mKv K) below args s) 72 [(2, (0, v2)), (3, (0, v3)), (4, (0, v4)), (0, (2, 49)), (1, (0, p1))] [] h
      unfold B_X10_scanSign_72 at hw
      refine g_iload_n C dX10_scanSign_72 rfl rfl ?_
      refine g_bipush C ⟨by decide, by decide⟩ (by decide) dX10_scanSign_73 ?_
      refine g_icmp_ne C 101 dX10_scanSign_75 rfl hw (fun hw => ?_) (fun hw => ?_)
      · exact g_sub [2, 3, 4, 0, 1] rfl (hQ _ hw)
      · refine g_iload C dX10_scanSign_78 rfl ?_
        refine g_bipush C ⟨by decide, by decide⟩ (by decide) dX10_scanSign_80 ?_
        refine g_icmp_ne C 101 dX10_scanSign_82 rfl hw (fun hw => ?_) (fun hw => ?_)
        · exact g_sub [2, 3, 4, 0, 1] rfl (hQ _ hw)
        · refine g_bipush C ⟨by decide, by decide⟩ (by decide) dX10_scanSign_85 ?_
          refine g_istore_n C dX10_scanSign_87 rfl (by decide) ?_
          refine g_aload_n C dX10_scanSign_88 rfl (by decide) rfl ?_
          refine g_dup C (by show ¬ (2 : Nat) = 1; decide) dX10_scanSign_89 ?_
          refine gf_X10_38 C dX10_scanSign_90 kdC_49 (fun z90 => ?_)
          refine g_iconst C ⟨by decide, by decide⟩ dX10_scanSign_93 ?_
          refine g_iadd C dX10_scanSign_94 ?_
          refine gp_X10_38 C dX10_scanSign_95 kdC_49 (fun z => z) ?_
          refine g_heap (fun h1 eh1 => ?_)
          replace hw := hw h1 eh1
          refine g_goto C 127 dX10_scanSign_98 rfl ?_
          exact g_sub [2, 3, 0, 1] rfl (hQ _ hw)
    · show mG (XC z) p l e { frames := 1, cells := 0, slots := 0, locals := 23 } s m args below meth c 5 (mMQ (XC z) (mKv K) below args s) 127 [(2, (0, v2)), (3, (0, v3)), (0, (2, 49)), (1, (0, p1))] [] h
      unfold B_X10_scanSign_127 at hw
      refine g_aload_n C dX10_scanSign_127 rfl (by decide) rfl ?_
      refine g_iload_n C dX10_scanSign_128 rfl rfl ?_
      refine g_iconst C ⟨by decide, by decide⟩ dX10_scanSign_129 ?_
      refine g_icmp_ne C 137 dX10_scanSign_130 rfl hw (fun hw => ?_) (fun hw => ?_)
      · refine g_iconst C ⟨by decide, by decide⟩ dX10_scanSign_137 ?_
        refine g_iload_n C dX10_scanSign_138 rfl rfl ?_
        refine g_iload_n C dX10_scanSign_139 rfl rfl ?_
        refine g_callVv C [(0, 4), (0, v2), (0, v3)] (sim_X10_put hw) k_746 k_748 k_3 k_141 k_749 hdV_X10_put rfl rfl (by decide) rfl kdC_49 rfl rfl rfl dX10_scanSign_140 ?_
        intro h1 hw
        exact g_vret C hr dX10_scanSign_143 ⟨rfl, hw⟩
      · refine g_iconst C ⟨by decide, by decide⟩ dX10_scanSign_133 ?_
        refine g_goto C 138 dX10_scanSign_134 rfl ?_
        refine g_iload_n C dX10_scanSign_138 rfl rfl ?_
        refine g_iload_n C dX10_scanSign_139 rfl rfl ?_
        refine g_callVv C [(0, 5), (0, v2), (0, v3)] (sim_X10_put hw) k_746 k_748 k_3 k_141 k_749 hdV_X10_put rfl rfl (by decide) rfl kdC_49 rfl rfl rfl dX10_scanSign_140 ?_
        intro h2 hw
        exact g_vret C hr dX10_scanSign_143 ⟨rfl, hw⟩
    · show mG (XC z) p l e { frames := 1, cells := 0, slots := 0, locals := 23 } s m args below meth c 5 (mMQ (XC z) (mKv K) below args s) 101 [(2, (0, v2)), (3, (0, v3)), (4, (0, v4)), (0, (2, 49)), (1, (0, p1))] [] h
      unfold B_X10_scanSign_101 at hw
      refine g_iload_n C dX10_scanSign_101 rfl rfl ?_
      refine g_bipush C ⟨by decide, by decide⟩ (by decide) dX10_scanSign_102 ?_
      refine g_icmp_ne C 127 dX10_scanSign_104 rfl hw (fun hw => ?_) (fun hw => ?_)
      · exact g_sub [2, 3, 0, 1] rfl (hQ _ hw)
      · refine g_iload C dX10_scanSign_107 rfl ?_
        refine g_bipush C ⟨by decide, by decide⟩ (by decide) dX10_scanSign_109 ?_
        refine g_icmp_ne C 127 dX10_scanSign_111 rfl hw (fun hw => ?_) (fun hw => ?_)
        · exact g_sub [2, 3, 0, 1] rfl (hQ _ hw)
        · refine g_bipush C ⟨by decide, by decide⟩ (by decide) dX10_scanSign_114 ?_
          refine g_istore_n C dX10_scanSign_116 rfl (by decide) ?_
          refine g_aload_n C dX10_scanSign_117 rfl (by decide) rfl ?_
          refine g_dup C (by show ¬ (2 : Nat) = 1; decide) dX10_scanSign_118 ?_
          refine gf_X10_38 C dX10_scanSign_119 kdC_49 (fun z119 => ?_)
          refine g_iconst C ⟨by decide, by decide⟩ dX10_scanSign_122 ?_
          refine g_iadd C dX10_scanSign_123 ?_
          refine gp_X10_38 C dX10_scanSign_124 kdC_49 (fun z => z) ?_
          refine g_heap (fun h1 eh1 => ?_)
          replace hw := hw h1 eh1
          exact g_sub [2, 3, 0, 1] rfl (hQ _ hw)
  show mG _ p l e _ s m args below meth c _ _ 0 [(0, (2, 49)), (1, (0, p1))] [] h
  unfold wp_X10_scanSign at hw
  refine g_aload_n C dX10_scanSign_0 rfl (by decide) rfl ?_
  refine gf_X10_38 C dX10_scanSign_1 kdC_49 (fun z1 => ?_)
  refine g_topi (fun x1 ex1 => ?_)
  replace hw := hw x1 ex1
  refine g_istore_n C dX10_scanSign_4 rfl (by decide) ?_
  refine g_aload_n C dX10_scanSign_5 rfl (by decide) rfl ?_
  refine g_dup C (by show ¬ (2 : Nat) = 1; decide) dX10_scanSign_6 ?_
  refine gf_X10_38 C dX10_scanSign_7 kdC_49 (fun z7 => ?_)
  refine g_iconst C ⟨by decide, by decide⟩ dX10_scanSign_10 ?_
  refine g_iadd C dX10_scanSign_11 ?_
  refine gp_X10_38 C dX10_scanSign_12 kdC_49 (fun z => z) ?_
  refine g_heap (fun h1 eh1 => ?_)
  replace hw := hw h1 eh1
  refine g_iload_n C dX10_scanSign_15 rfl rfl ?_
  refine g_bipush C ⟨by decide, by decide⟩ (by decide) dX10_scanSign_16 ?_
  refine g_icmp_eq C 27 dX10_scanSign_18 rfl hw (fun hw => ?_) (fun hw => ?_)
  · exact g_vret C hr dX10_scanSign_27 ⟨rfl, hw⟩
  · refine g_iload_n C dX10_scanSign_21 rfl rfl ?_
    refine g_bipush C ⟨by decide, by decide⟩ (by decide) dX10_scanSign_22 ?_
    refine g_icmp_ne C 28 dX10_scanSign_24 rfl hw (fun hw => ?_) (fun hw => ?_)
    · refine g_iload_n C dX10_scanSign_28 rfl rfl ?_
      refine g_callSi C [(0, p1)] (sim_X10_codeOf hw) k_762 k_763 k_141 k_764 hdS_X10_codeOf rfl rfl rfl rfl rfl dX10_scanSign_29 ?_
      intro x2 h2 hw
      refine g_istore_n C dX10_scanSign_32 rfl (by decide) ?_
      refine g_aload_n C dX10_scanSign_33 rfl (by decide) rfl ?_
      refine g_aload_n C dX10_scanSign_34 rfl (by decide) rfl ?_
      refine gf_X10_38 C dX10_scanSign_35 kdC_49 (fun z35 => ?_)
      refine g_callVi C [(0, (h2 49 6))] (sim_X10_byteAt hw) k_730 k_732 k_1 k_141 k_733 hdV_X10_byteAt rfl rfl (by decide) rfl kdC_49 rfl rfl rfl dX10_scanSign_38 ?_
      intro x3 h3 hw
      refine g_istore C dX10_scanSign_41 (by decide) ?_
      refine g_iload_n C dX10_scanSign_43 rfl rfl ?_
      refine g_bipush C ⟨by decide, by decide⟩ (by decide) dX10_scanSign_44 ?_
      refine g_icmp_ne C 72 dX10_scanSign_46 rfl hw (fun hw => ?_) (fun hw => ?_)
      · exact g_sub [2, 3, 4, 0, 1] rfl (hQ _ hw)
      · refine g_iload C dX10_scanSign_49 rfl ?_
        refine g_bipush C ⟨by decide, by decide⟩ (by decide) dX10_scanSign_51 ?_
        refine g_icmp_ne C 72 dX10_scanSign_53 rfl hw (fun hw => ?_) (fun hw => ?_)
        · exact g_sub [2, 3, 4, 0, 1] rfl (hQ _ hw)
        · refine g_bipush C ⟨by decide, by decide⟩ (by decide) dX10_scanSign_56 ?_
          refine g_istore_n C dX10_scanSign_58 rfl (by decide) ?_
          refine g_aload_n C dX10_scanSign_59 rfl (by decide) rfl ?_
          refine g_dup C (by show ¬ (2 : Nat) = 1; decide) dX10_scanSign_60 ?_
          refine gf_X10_38 C dX10_scanSign_61 kdC_49 (fun z61 => ?_)
          refine g_iconst C ⟨by decide, by decide⟩ dX10_scanSign_64 ?_
          refine g_iadd C dX10_scanSign_65 ?_
          refine gp_X10_38 C dX10_scanSign_66 kdC_49 (fun z => z) ?_
          refine g_heap (fun h4 eh4 => ?_)
          replace hw := hw h4 eh4
          refine g_goto C 127 dX10_scanSign_69 rfl ?_
          exact g_sub [2, 3, 0, 1] rfl (hQ _ hw)
    · exact g_vret C hr dX10_scanSign_27 ⟨rfl, hw⟩
set_option maxRecDepth 20000 in
set_option maxHeartbeats 4000000 in
theorem sim_X10_scanWord {z : Mz} {l : Launch} {h : Mh} {K : Mh → Prop} (hw : wp_X10_scanWord h K) : mCal (XC z) l yX10_scanWord cX10_scanWord 4 none 1 23 [(2, 49)] h (mKv K) := by
  refine m_entry RX10 rfl (by decide) rfl (fun p e s m args below meth c C hr => ?_)
  have hQ : ∀ x, Lfp (F_X10_scanWord K) x → (match x.1, x.2.1 with | 7, [v1, v2] => mG (XC z) p l e { frames := 1, cells := 0, slots := 0, locals := 23 } s m args below meth c 4 (mMQ (XC z) (mKv K) below args s) 7 [(1, (0, v1)), (2, (0, v2)), (0, (2, 49))] [] x.2.2 | 81, [v1, v2, v3] => mG (XC z) p l e { frames := 1, cells := 0, slots := 0, locals := 23 } s m args below meth c 4 (mMQ (XC z) (mKv K) below args s) 81 [(1, (0, v1)), (2, (0, v2)), (3, (0, v3)), (0, (2, 49))] [] x.2.2 | 109, [v1, v2, s0] => mG (XC z) p l e { frames := 1, cells := 0, slots := 0, locals := 23 } s m args below meth c 4 (mMQ (XC z) (mKv K) below args s) 109 [(1, (0, v1)), (2, (0, v2)), (0, (2, 49))] [(0, s0)] x.2.2 | _, _ => True) := by
    intro x hx
    refine Lfp.ind (fun x => (match x.1, x.2.1 with | 7, [v1, v2] => mG (XC z) p l e { frames := 1, cells := 0, slots := 0, locals := 23 } s m args below meth c 4 (mMQ (XC z) (mKv K) below args s) 7 [(1, (0, v1)), (2, (0, v2)), (0, (2, 49))] [] x.2.2 | 81, [v1, v2, v3] => mG (XC z) p l e { frames := 1, cells := 0, slots := 0, locals := 23 } s m args below meth c 4 (mMQ (XC z) (mKv K) below args s) 81 [(1, (0, v1)), (2, (0, v2)), (3, (0, v3)), (0, (2, 49))] [] x.2.2 | 109, [v1, v2, s0] => mG (XC z) p l e { frames := 1, cells := 0, slots := 0, locals := 23 } s m args below meth c 4 (mMQ (XC z) (mKv K) below args s) 109 [(1, (0, v1)), (2, (0, v2)), (0, (2, 49))] [(0, s0)] x.2.2 | _, _ => True)) ?_ hx
    clear hx x
    intro Z x hQ hw
    rcases hw with ⟨v1, v2, h, rfl, hw⟩ | ⟨v1, v2, v3, h, rfl, hw⟩ | ⟨v1, v2, s0, h, rfl, hw⟩
    · show mG (XC z) p l e { frames := 1, cells := 0, slots := 0, locals := 23 } s m args below meth c 4 (mMQ (XC z) (mKv K) below args s) 7 [(1, (0, v1)), (2, (0, v2)), (0, (2, 49))] [] h
      unfold B_X10_scanWord_7 at hw
      refine g_aload_n C dX10_scanWord_7 rfl (by decide) rfl ?_
      refine gf_X10_38 C dX10_scanWord_8 kdC_49 (fun z8 => ?_)
      refine g_aload_n C dX10_scanWord_11 rfl (by decide) rfl ?_
      refine gf_X10_34 C dX10_scanWord_12 kdC_49 (fun z12 => ?_)
      refine g_icmp_ge C 74 dX10_scanWord_15 rfl hw (fun hw => ?_) (fun hw => ?_)
      · refine g_aload_n C dX10_scanWord_74 rfl (by decide) rfl ?_
        refine gf_X10_38 C dX10_scanWord_75 kdC_49 (fun z75 => ?_)
        refine g_iload_n C dX10_scanWord_78 rfl rfl ?_
        refine g_isub C dX10_scanWord_79 ?_
        refine g_topi (fun x1 ex1 => ?_)
        replace hw := hw x1 ex1
        refine g_istore_n C dX10_scanWord_80 rfl (by decide) ?_
        exact g_sub [1, 2, 3, 0] rfl (hQ _ hw)
      · refine g_aload_n C dX10_scanWord_18 rfl (by decide) rfl ?_
        refine g_aload_n C dX10_scanWord_19 rfl (by decide) rfl ?_
        refine gf_X10_38 C dX10_scanWord_20 kdC_49 (fun z20 => ?_)
        refine g_callVi C [(0, (h 49 6))] (sim_X10_byteAt hw) k_730 k_732 k_1 k_141 k_733 hdV_X10_byteAt rfl rfl (by decide) rfl kdC_49 rfl rfl rfl dX10_scanWord_23 ?_
        intro x2 h1 hw
        refine g_callSz C [(0, x2)] (sim_X10_isLetter hw) k_734 k_735 k_141 k_736 hdS_X10_isLetter rfl rfl rfl rfl rfl dX10_scanWord_26 ?_
        intro x3 h2 zb26 hw
        refine g_if_eq C 74 dX10_scanWord_29 rfl hw (fun hw => ?_) (fun hw => ?_)
        · refine g_aload_n C dX10_scanWord_74 rfl (by decide) rfl ?_
          refine gf_X10_38 C dX10_scanWord_75 kdC_49 (fun z75 => ?_)
          refine g_iload_n C dX10_scanWord_78 rfl rfl ?_
          refine g_isub C dX10_scanWord_79 ?_
          refine g_topi (fun x4 ex4 => ?_)
          replace hw := hw x4 ex4
          refine g_istore_n C dX10_scanWord_80 rfl (by decide) ?_
          exact g_sub [1, 2, 3, 0] rfl (hQ _ hw)
        · refine g_aload_n C dX10_scanWord_32 rfl (by decide) rfl ?_
          refine gf_X10_38 C dX10_scanWord_33 kdC_49 (fun z33 => ?_)
          refine g_iload_n C dX10_scanWord_36 rfl rfl ?_
          refine g_isub C dX10_scanWord_37 ?_
          refine g_bipush C ⟨by decide, by decide⟩ (by decide) dX10_scanWord_38 ?_
          refine g_icmp_ge C 61 dX10_scanWord_40 rfl hw (fun hw => ?_) (fun hw => ?_)
          · refine g_aload_n C dX10_scanWord_61 rfl (by decide) rfl ?_
            refine g_dup C (by show ¬ (2 : Nat) = 1; decide) dX10_scanWord_62 ?_
            refine gf_X10_38 C dX10_scanWord_63 kdC_49 (fun z63 => ?_)
            refine g_iconst C ⟨by decide, by decide⟩ dX10_scanWord_66 ?_
            refine g_iadd C dX10_scanWord_67 ?_
            refine gp_X10_38 C dX10_scanWord_68 kdC_49 (fun z => z) ?_
            refine g_heap (fun h3 eh3 => ?_)
            replace hw := hw h3 eh3
            refine g_goto C 7 dX10_scanWord_71 rfl ?_
            exact g_sub [1, 2, 0] rfl (hQ _ hw)
          · refine g_iload_n C dX10_scanWord_43 rfl rfl ?_
            refine g_iconst C ⟨by decide, by decide⟩ dX10_scanWord_44 ?_
            refine g_ishl C dX10_scanWord_45 ?_
            refine g_aload_n C dX10_scanWord_46 rfl (by decide) rfl ?_
            refine g_aload_n C dX10_scanWord_47 rfl (by decide) rfl ?_
            refine gf_X10_38 C dX10_scanWord_48 kdC_49 (fun z48 => ?_)
            refine g_callVi C [(0, (h2 49 6))] (sim_X10_byteAt hw) k_730 k_732 k_1 k_141 k_733 hdV_X10_byteAt rfl rfl (by decide) rfl kdC_49 rfl rfl rfl dX10_scanWord_51 ?_
            intro x5 h4 hw
            refine g_bipush C ⟨by decide, by decide⟩ (by decide) dX10_scanWord_54 ?_
            refine g_isub C dX10_scanWord_56 ?_
            refine g_iconst C ⟨by decide, by decide⟩ dX10_scanWord_57 ?_
            refine g_iadd C dX10_scanWord_58 ?_
            refine g_ior C dX10_scanWord_59 ?_
            refine g_topi (fun x6 ex6 => ?_)
            replace hw := hw x6 ex6
            refine g_istore_n C dX10_scanWord_60 rfl (by decide) ?_
            refine g_aload_n C dX10_scanWord_61 rfl (by decide) rfl ?_
            refine g_dup C (by show ¬ (2 : Nat) = 1; decide) dX10_scanWord_62 ?_
            refine gf_X10_38 C dX10_scanWord_63 kdC_49 (fun z63 => ?_)
            refine g_iconst C ⟨by decide, by decide⟩ dX10_scanWord_66 ?_
            refine g_iadd C dX10_scanWord_67 ?_
            refine gp_X10_38 C dX10_scanWord_68 kdC_49 (fun z => z) ?_
            refine g_heap (fun h5 eh5 => ?_)
            replace hw := hw h5 eh5
            refine g_goto C 7 dX10_scanWord_71 rfl ?_
            exact g_sub [1, 2, 0] rfl (hQ _ hw)
    · show mG (XC z) p l e { frames := 1, cells := 0, slots := 0, locals := 23 } s m args below meth c 4 (mMQ (XC z) (mKv K) below args s) 81 [(1, (0, v1)), (2, (0, v2)), (3, (0, v3)), (0, (2, 49))] [] h
      unfold B_X10_scanWord_81 at hw
      refine g_iload_n C dX10_scanWord_81 rfl rfl ?_
      refine g_bipush C ⟨by decide, by decide⟩ (by decide) dX10_scanWord_82 ?_
      refine g_icmp_ge C 97 dX10_scanWord_84 rfl hw (fun hw => ?_) (fun hw => ?_)
      · refine g_iload_n C dX10_scanWord_97 rfl rfl ?_
        refine g_callSNe C [(0, v2)] (sim_X12_of hw) k_741 k_742 k_149 k_743 hdS_X12_of rfl rfl rfl rfl rfl dX10_scanWord_98 ?_
        intro x1 h1 hw
        refine g_ifnonnull C 108 (by decide) dX10_scanWord_101 rfl hw (fun hw => ?_) (fun hw => ?_)
        · refine g_iconst C ⟨by decide, by decide⟩ dX10_scanWord_108 ?_
          exact g_sub [1, 2, 0] rfl (hQ _ hw)
        · refine g_iconst C ⟨by decide, by decide⟩ dX10_scanWord_104 ?_
          refine g_goto C 109 dX10_scanWord_105 rfl ?_
          exact g_sub [1, 2, 0] rfl (hQ _ hw)
      · refine g_iload_n C dX10_scanWord_87 rfl rfl ?_
        refine g_iconst C ⟨by decide, by decide⟩ dX10_scanWord_88 ?_
        refine g_ishl C dX10_scanWord_89 ?_
        refine g_topi (fun x2 ex2 => ?_)
        replace hw := hw x2 ex2
        refine g_istore_n C dX10_scanWord_90 rfl (by decide) ?_
        refine g_iincN C dX10_scanWord_91 rfl (by decide) (fun x3 ex3 => ?_)
        replace hw := hw x3 ex3
        refine g_goto C 81 dX10_scanWord_94 rfl ?_
        exact g_sub [1, 2, 3, 0] rfl (hQ _ hw)
    · show mG (XC z) p l e { frames := 1, cells := 0, slots := 0, locals := 23 } s m args below meth c 4 (mMQ (XC z) (mKv K) below args s) 109 [(1, (0, v1)), (2, (0, v2)), (0, (2, 49))] [(0, s0)] h
      unfold B_X10_scanWord_109 at hw
      refine g_istore_n C dX10_scanWord_109 rfl (by decide) ?_
      refine g_aload_n C dX10_scanWord_110 rfl (by decide) rfl ?_
      refine g_aload_n C dX10_scanWord_111 rfl (by decide) rfl ?_
      refine gf_X10_38 C dX10_scanWord_112 kdC_49 (fun z112 => ?_)
      refine g_iload_n C dX10_scanWord_115 rfl rfl ?_
      refine g_isub C dX10_scanWord_116 ?_
      refine g_bipush C ⟨by decide, by decide⟩ (by decide) dX10_scanWord_117 ?_
      refine g_icmp_le C 126 dX10_scanWord_119 rfl hw (fun hw => ?_) (fun hw => ?_)
      · refine g_iload_n C dX10_scanWord_126 rfl rfl ?_
        refine g_iload_n C dX10_scanWord_127 rfl rfl ?_
        refine g_iload_n C dX10_scanWord_128 rfl rfl ?_
        refine g_callVv C [(0, s0), (0, v1), (0, v2)] (sim_X10_put hw) k_746 k_748 k_3 k_141 k_749 hdV_X10_put rfl rfl (by decide) rfl kdC_49 rfl rfl rfl dX10_scanWord_129 ?_
        intro h1 hw
        exact g_vret C hr dX10_scanWord_132 ⟨rfl, hw⟩
      · refine g_iconst C ⟨by decide, by decide⟩ dX10_scanWord_122 ?_
        refine g_goto C 127 dX10_scanWord_123 rfl ?_
        refine g_iload_n C dX10_scanWord_127 rfl rfl ?_
        refine g_iload_n C dX10_scanWord_128 rfl rfl ?_
        refine g_callVv C [(0, 5), (0, v1), (0, v2)] (sim_X10_put hw) k_746 k_748 k_3 k_141 k_749 hdV_X10_put rfl rfl (by decide) rfl kdC_49 rfl rfl rfl dX10_scanWord_129 ?_
        intro h2 hw
        exact g_vret C hr dX10_scanWord_132 ⟨rfl, hw⟩
  show mG _ p l e _ s m args below meth c _ _ 0 [(0, (2, 49))] [] h
  unfold wp_X10_scanWord at hw
  refine g_aload_n C dX10_scanWord_0 rfl (by decide) rfl ?_
  refine gf_X10_38 C dX10_scanWord_1 kdC_49 (fun z1 => ?_)
  refine g_topi (fun x1 ex1 => ?_)
  replace hw := hw x1 ex1
  refine g_istore_n C dX10_scanWord_4 rfl (by decide) ?_
  refine g_iconst C ⟨by decide, by decide⟩ dX10_scanWord_5 ?_
  refine g_istore_n C dX10_scanWord_6 rfl (by decide) ?_
  exact g_sub [1, 2, 0] rfl (hQ _ hw)
set_option maxRecDepth 20000 in
set_option maxHeartbeats 4000000 in
theorem sim_X10_scan {z : Mz} {l : Launch} {p1 : Int} {h : Mh} {K : Mh → Prop} (hw : wp_X10_scan p1 h K) : mCal (XC z) l yX10_scan cX10_scan 4 none 2 47 [(2, 49), (0, p1)] h (mKv K) := by
  refine m_entry RX10 rfl (by decide) rfl (fun p e s m args below meth c C hr => ?_)
  have hQ : ∀ x, Lfp (F_X10_scan p1 K) x → (match x.1, x.2.1 with | 37, [v2] => mG (XC z) p l e { frames := 2, cells := 0, slots := 0, locals := 47 } s m args below meth c 4 (mMQ (XC z) (mKv K) below args s) 37 [(2, (0, v2)), (0, (2, 49)), (1, (0, p1))] [] x.2.2 | _, _ => True) := by
    intro x hx
    refine Lfp.ind (fun x => (match x.1, x.2.1 with | 37, [v2] => mG (XC z) p l e { frames := 2, cells := 0, slots := 0, locals := 47 } s m args below meth c 4 (mMQ (XC z) (mKv K) below args s) 37 [(2, (0, v2)), (0, (2, 49)), (1, (0, p1))] [] x.2.2 | _, _ => True)) ?_ hx
    clear hx x
    intro Z x hQ hw
    rcases hw with ⟨v2, h, rfl, hw⟩
    · show mG (XC z) p l e { frames := 2, cells := 0, slots := 0, locals := 47 } s m args below meth c 4 (mMQ (XC z) (mKv K) below args s) 37 [(2, (0, v2)), (0, (2, 49)), (1, (0, p1))] [] h
      unfold B_X10_scan_37 at hw
      refine g_iload_n C dX10_scan_37 rfl rfl ?_
      refine g_if_le C 100 dX10_scan_38 rfl hw (fun hw => ?_) (fun hw => ?_)
      · refine g_aload_n C dX10_scan_100 rfl (by decide) rfl ?_
        refine g_callVv C [] (sim_X10_advance hw) k_765 k_766 k_767 k_141 k_768 hdV_X10_advance rfl rfl (by decide) rfl kdC_49 rfl rfl rfl dX10_scan_101 ?_
        intro h1 hw
        exact g_vret C hr dX10_scan_104 ⟨rfl, hw⟩
      · refine g_aload_n C dX10_scan_41 rfl (by decide) rfl ?_
        refine gf_X10_38 C dX10_scan_42 kdC_49 (fun z42 => ?_)
        refine g_aload_n C dX10_scan_45 rfl (by decide) rfl ?_
        refine gf_X10_34 C dX10_scan_46 kdC_49 (fun z46 => ?_)
        refine g_icmp_ge C 100 dX10_scan_49 rfl hw (fun hw => ?_) (fun hw => ?_)
        · refine g_aload_n C dX10_scan_100 rfl (by decide) rfl ?_
          refine g_callVv C [] (sim_X10_advance hw) k_765 k_766 k_767 k_141 k_768 hdV_X10_advance rfl rfl (by decide) rfl kdC_49 rfl rfl rfl dX10_scan_101 ?_
          intro h2 hw
          exact g_vret C hr dX10_scan_104 ⟨rfl, hw⟩
        · refine g_aload_n C dX10_scan_52 rfl (by decide) rfl ?_
          refine g_aload_n C dX10_scan_53 rfl (by decide) rfl ?_
          refine gf_X10_38 C dX10_scan_54 kdC_49 (fun z54 => ?_)
          refine g_callVi C [(0, (h 49 6))] (sim_X10_byteAt hw) k_730 k_732 k_1 k_141 k_733 hdV_X10_byteAt rfl rfl (by decide) rfl kdC_49 rfl rfl rfl dX10_scan_57 ?_
          intro x1 h3 hw
          refine g_istore_n C dX10_scan_60 rfl (by decide) ?_
          refine g_iload_n C dX10_scan_61 rfl rfl ?_
          refine g_callSz C [(0, x1)] (sim_X10_isLetter hw) k_734 k_735 k_141 k_736 hdS_X10_isLetter rfl rfl rfl rfl rfl dX10_scan_62 ?_
          intro x2 h4 zb62 hw
          refine g_if_eq C 75 dX10_scan_65 rfl hw (fun hw => ?_) (fun hw => ?_)
          · refine g_iload_n C dX10_scan_75 rfl rfl ?_
            refine g_callSz C [(0, x1)] (sim_X10_isDigit hw) k_750 k_751 k_141 k_752 hdS_X10_isDigit rfl rfl rfl rfl rfl dX10_scan_76 ?_
            intro x3 h5 zb76 hw
            refine g_if_eq C 89 dX10_scan_79 rfl hw (fun hw => ?_) (fun hw => ?_)
            · refine g_aload_n C dX10_scan_89 rfl (by decide) rfl ?_
              refine g_iload_n C dX10_scan_90 rfl rfl ?_
              refine g_callVv C [(0, x1)] (sim_X10_scanSign hw) k_758 k_760 k_5 k_141 k_761 hdV_X10_scanSign rfl rfl (by decide) rfl kdC_49 rfl rfl rfl dX10_scan_91 ?_
              intro h6 hw
              refine g_iincN C dX10_scan_94 rfl (by decide) (fun x4 ex4 => ?_)
              replace hw := hw x4 ex4
              refine g_goto C 37 dX10_scan_97 rfl ?_
              exact g_sub [2, 0, 1] rfl (hQ _ hw)
            · refine g_aload_n C dX10_scan_82 rfl (by decide) rfl ?_
              refine g_callVv C [] (sim_X10_scanNumber hw) k_753 k_755 k_4 k_141 k_756 hdV_X10_scanNumber rfl rfl (by decide) rfl kdC_49 rfl rfl rfl dX10_scan_83 ?_
              intro h7 hw
              refine g_goto C 94 dX10_scan_86 rfl ?_
              refine g_iincN C dX10_scan_94 rfl (by decide) (fun x5 ex5 => ?_)
              replace hw := hw x5 ex5
              refine g_goto C 37 dX10_scan_97 rfl ?_
              exact g_sub [2, 0, 1] rfl (hQ _ hw)
          · refine g_aload_n C dX10_scan_68 rfl (by decide) rfl ?_
            refine g_callVv C [] (sim_X10_scanWord hw) k_737 k_739 k_2 k_141 k_740 hdV_X10_scanWord rfl rfl (by decide) rfl kdC_49 rfl rfl rfl dX10_scan_69 ?_
            intro h8 hw
            refine g_goto C 94 dX10_scan_72 rfl ?_
            refine g_iincN C dX10_scan_94 rfl (by decide) (fun x6 ex6 => ?_)
            replace hw := hw x6 ex6
            refine g_goto C 37 dX10_scan_97 rfl ?_
            exact g_sub [2, 0, 1] rfl (hQ _ hw)
  show mG _ p l e _ s m args below meth c _ _ 0 [(0, (2, 49)), (1, (0, p1))] [] h
  unfold wp_X10_scan at hw
  refine g_aload_n C dX10_scan_0 rfl (by decide) rfl ?_
  refine g_iconst C ⟨by decide, by decide⟩ dX10_scan_1 ?_
  refine g_iload_n C dX10_scan_2 rfl rfl ?_
  refine g_aload_n C dX10_scan_3 rfl (by decide) rfl ?_
  refine gw_X10_21 C dX10_scan_4 kdC_49 wwC_49_0 ?_
  refine g_alen C dX10_scan_7 (ci := 13) (by decide) skC_1 (by decide) ?_
  refine g_mmin C k_726 k_727 k_137 k_728 rfl rfl rfl dX10_scan_8 ?_
  refine g_mmax C k_729 k_179 k_137 k_180 rfl rfl rfl dX10_scan_11 ?_
  refine gp_X10_34 C dX10_scan_14 kdC_49 (fun z => z) ?_
  refine g_heap (fun h1 eh1 => ?_)
  replace hw := hw h1 eh1
  refine g_aload_n C dX10_scan_17 rfl (by decide) rfl ?_
  refine g_iconst C ⟨by decide, by decide⟩ dX10_scan_18 ?_
  refine gp_X10_38 C dX10_scan_19 kdC_49 (fun z => z) ?_
  refine g_heap (fun h2 eh2 => ?_)
  replace hw := hw h2 eh2
  refine g_aload_n C dX10_scan_22 rfl (by decide) rfl ?_
  refine g_iconst C ⟨by decide, by decide⟩ dX10_scan_23 ?_
  refine gp_X10_41 C dX10_scan_24 kdC_49 (fun z => z) ?_
  refine g_heap (fun h3 eh3 => ?_)
  replace hw := hw h3 eh3
  refine g_aload_n C dX10_scan_27 rfl (by decide) rfl ?_
  refine g_iconst C ⟨by decide, by decide⟩ dX10_scan_28 ?_
  refine gp_X10_44 C dX10_scan_29 kdC_49 (fun z => z) ?_
  refine g_heap (fun h4 eh4 => ?_)
  replace hw := hw h4 eh4
  refine g_aload_n C dX10_scan_32 rfl (by decide) rfl ?_
  refine gf_X10_34 C dX10_scan_33 kdC_49 (fun z33 => ?_)
  refine g_topi (fun x1 ex1 => ?_)
  replace hw := hw x1 ex1
  refine g_istore_n C dX10_scan_36 rfl (by decide) ?_
  exact g_sub [2, 0, 1] rfl (hQ _ hw)
set_option maxRecDepth 20000 in
set_option maxHeartbeats 4000000 in
theorem sim_X11_remember {z : Mz} {l : Launch} {p1 : Int} {h : Mh} {K : Mh → Prop} (hw : wp_X11_remember p1 h K) : mCal (XC z) l yX11_remember cX11_remember 3 none 0 0 [(2, 53), (0, p1)] h (mKv K) := by
  refine m_entry RX11 rfl (by decide) rfl (fun p e s m args below meth c C hr => ?_)
  have hQ : ∀ x, Lfp (F_X11_remember p1 K) x → (match x.1, x.2.1 with | 11, [v2] => mG (XC z) p l e { frames := 0, cells := 0, slots := 0, locals := 0 } s m args below meth c 3 (mMQ (XC z) (mKv K) below args s) 11 [(2, (0, v2)), (0, (2, 53)), (1, (0, p1))] [] x.2.2 | _, _ => True) := by
    intro x hx
    refine Lfp.ind (fun x => (match x.1, x.2.1 with | 11, [v2] => mG (XC z) p l e { frames := 0, cells := 0, slots := 0, locals := 0 } s m args below meth c 3 (mMQ (XC z) (mKv K) below args s) 11 [(2, (0, v2)), (0, (2, 53)), (1, (0, p1))] [] x.2.2 | _, _ => True)) ?_ hx
    clear hx x
    intro Z x hQ hw
    rcases hw with ⟨v2, h, rfl, hw⟩
    · show mG (XC z) p l e { frames := 0, cells := 0, slots := 0, locals := 0 } s m args below meth c 3 (mMQ (XC z) (mKv K) below args s) 11 [(2, (0, v2)), (0, (2, 53)), (1, (0, p1))] [] h
      unfold B_X11_remember_11 at hw
      refine g_iload_n C dX11_remember_11 rfl rfl ?_
      refine g_bipush C ⟨by decide, by decide⟩ (by decide) dX11_remember_12 ?_
      refine g_icmp_ge C 37 dX11_remember_14 rfl hw (fun hw => ?_) (fun hw => ?_)
      · refine g_aload_n C dX11_remember_37 rfl (by decide) rfl ?_
        refine g_bipush C ⟨by decide, by decide⟩ (by decide) dX11_remember_38 ?_
        refine gp_X11_51 C dX11_remember_40 kdC_53 (fun z => z) ?_
        refine g_heap (fun h1 eh1 => ?_)
        replace hw := hw h1 eh1
        refine g_aload_n C dX11_remember_43 rfl (by decide) rfl ?_
        refine gw_X11_23 C dX11_remember_44 kdC_53 wwC_53_6 ?_
        refine g_aload_n C dX11_remember_47 rfl (by decide) rfl ?_
        refine gf_X11_51 C dX11_remember_48 kdC_53 (fun z48 => ?_)
        refine g_iload_n C dX11_remember_51 rfl rfl ?_
        obtain ⟨⟨b2, b2b⟩, hw⟩ := hw
        refine g_iastore C dX11_remember_52 kdC_106 b2 b2b (fun z => z) ?_
        refine g_heap (fun h2 eh2 => ?_)
        replace hw := hw h2 eh2
        refine g_aload_n C dX11_remember_53 rfl (by decide) rfl ?_
        refine g_dup C (by show ¬ (2 : Nat) = 1; decide) dX11_remember_54 ?_
        refine gf_X11_51 C dX11_remember_55 kdC_53 (fun z55 => ?_)
        refine g_iconst C ⟨by decide, by decide⟩ dX11_remember_58 ?_
        refine g_iadd C dX11_remember_59 ?_
        refine gp_X11_51 C dX11_remember_60 kdC_53 (fun z => z) ?_
        refine g_heap (fun h3 eh3 => ?_)
        replace hw := hw h3 eh3
        exact g_vret C hr dX11_remember_63 ⟨rfl, hw⟩
      · refine g_aload_n C dX11_remember_17 rfl (by decide) rfl ?_
        refine gw_X11_23 C dX11_remember_18 kdC_53 wwC_53_6 ?_
        refine g_iload_n C dX11_remember_21 rfl rfl ?_
        refine g_iconst C ⟨by decide, by decide⟩ dX11_remember_22 ?_
        refine g_isub C dX11_remember_23 ?_
        refine g_aload_n C dX11_remember_24 rfl (by decide) rfl ?_
        refine gw_X11_23 C dX11_remember_25 kdC_53 wwC_53_6 ?_
        refine g_iload_n C dX11_remember_28 rfl rfl ?_
        obtain ⟨⟨b3, b3b⟩, hw⟩ := hw
        refine g_iaload C dX11_remember_29 kdC_106 b3 b3b (fun z29 => ?_)
        obtain ⟨⟨b4, b4b⟩, hw⟩ := hw
        refine g_iastore C dX11_remember_30 kdC_106 b4 b4b (fun z => z) ?_
        refine g_heap (fun h4 eh4 => ?_)
        replace hw := hw h4 eh4
        refine g_iincN C dX11_remember_31 rfl (by decide) (fun x1 ex1 => ?_)
        replace hw := hw x1 ex1
        refine g_goto C 11 dX11_remember_34 rfl ?_
        exact g_sub [2, 0, 1] rfl (hQ _ hw)
  show mG _ p l e _ s m args below meth c _ _ 0 [(0, (2, 53)), (1, (0, p1))] [] h
  unfold wp_X11_remember at hw
  refine g_aload_n C dX11_remember_0 rfl (by decide) rfl ?_
  refine gf_X11_51 C dX11_remember_1 kdC_53 (fun z1 => ?_)
  refine g_bipush C ⟨by decide, by decide⟩ (by decide) dX11_remember_4 ?_
  refine g_icmp_lt C 43 dX11_remember_6 rfl hw (fun hw => ?_) (fun hw => ?_)
  · refine g_aload_n C dX11_remember_43 rfl (by decide) rfl ?_
    refine gw_X11_23 C dX11_remember_44 kdC_53 wwC_53_6 ?_
    refine g_aload_n C dX11_remember_47 rfl (by decide) rfl ?_
    refine gf_X11_51 C dX11_remember_48 kdC_53 (fun z48 => ?_)
    refine g_iload_n C dX11_remember_51 rfl rfl ?_
    obtain ⟨⟨b1, b1b⟩, hw⟩ := hw
    refine g_iastore C dX11_remember_52 kdC_106 b1 b1b (fun z => z) ?_
    refine g_heap (fun h1 eh1 => ?_)
    replace hw := hw h1 eh1
    refine g_aload_n C dX11_remember_53 rfl (by decide) rfl ?_
    refine g_dup C (by show ¬ (2 : Nat) = 1; decide) dX11_remember_54 ?_
    refine gf_X11_51 C dX11_remember_55 kdC_53 (fun z55 => ?_)
    refine g_iconst C ⟨by decide, by decide⟩ dX11_remember_58 ?_
    refine g_iadd C dX11_remember_59 ?_
    refine gp_X11_51 C dX11_remember_60 kdC_53 (fun z => z) ?_
    refine g_heap (fun h2 eh2 => ?_)
    replace hw := hw h2 eh2
    exact g_vret C hr dX11_remember_63 ⟨rfl, hw⟩
  · refine g_iconst C ⟨by decide, by decide⟩ dX11_remember_9 ?_
    refine g_istore_n C dX11_remember_10 rfl (by decide) ?_
    exact g_sub [2, 0, 1] rfl (hQ _ hw)
set_option maxRecDepth 20000 in
set_option maxHeartbeats 4000000 in
theorem sim_X11_addDrop {z : Mz} {l : Launch} {p1 : Int} {p2 : Int} {p3 : Int} {h : Mh} {K : Int → Mh → Prop} (hw : wp_X11_addDrop p1 p2 p3 h K) : mCal (XC z) l yX11_addDrop cX11_addDrop 4 (some Jvm.ClassFile.FieldType.int) 1 23 [(2, 53), (0, p1), (0, p2), (0, p3)] h (mKi K) := by
  refine m_entry RX11 rfl (by decide) rfl (fun p e s m args below meth c C hr => ?_)
  show mG _ p l e _ s m args below meth c _ _ 0 [(0, (2, 53)), (1, (0, p1)), (2, (0, p2)), (3, (0, p3))] [] h
  unfold wp_X11_addDrop at hw
  refine g_aload_n C dX11_addDrop_0 rfl (by decide) rfl ?_
  refine gw_X11_14 C dX11_addDrop_1 kdC_53 wwC_53_2 ?_
  refine g_iload_n C dX11_addDrop_4 rfl rfl ?_
  refine g_iload_n C dX11_addDrop_5 rfl rfl ?_
  refine g_iload_n C dX11_addDrop_6 rfl rfl ?_
  refine g_callVv C [(0, p1), (0, p2), (0, p3)] (sim_X1_add wirC kdC_98 hw) k_1222 k_491 k_492 k_138 k_493 hdV_X1_add rfl rfl (by decide) rfl kdC_98 rfl rfl rfl dX11_addDrop_7 ?_
  intro h1 hw
  refine g_aload_n C dX11_addDrop_10 rfl (by decide) rfl ?_
  refine g_iconst C ⟨by decide, by decide⟩ dX11_addDrop_11 ?_
  refine g_callVv C [(0, (-1))] (sim_X11_remember hw) k_1223 k_1225 k_51 k_142 k_1226 hdV_X11_remember rfl rfl (by decide) rfl kdC_53 rfl rfl rfl dX11_addDrop_12 ?_
  intro h2 hw
  refine g_aload_n C dX11_addDrop_15 rfl (by decide) rfl ?_
  refine g_iconst C ⟨by decide, by decide⟩ dX11_addDrop_16 ?_
  refine gp_X11_58 C dX11_addDrop_17 kdC_53 (fun _ => (Or.inr rfl)) ?_
  refine g_heap (fun h3 eh3 => ?_)
  replace hw := hw h3 eh3
  refine g_aload_n C dX11_addDrop_20 rfl (by decide) rfl ?_
  refine gw_X11_14 C dX11_addDrop_21 kdC_53 wwC_53_2 ?_
  refine gf_X11_68 C dX11_addDrop_24 kdC_98 (fun z24 => ?_)
  refine g_iconst C ⟨by decide, by decide⟩ dX11_addDrop_27 ?_
  refine g_isub C dX11_addDrop_28 ?_
  exact g_iret C hr dX11_addDrop_29 ⟨_, rfl, hw⟩
set_option maxRecDepth 20000 in
set_option maxHeartbeats 4000000 in
theorem sim_X11_begin {z : Mz} {l : Launch} {p1 : Int} {h : Mh} {K : Mh → Prop} (hw : wp_X11_begin p1 h K) : mCal (XC z) l yX11_begin cX11_begin 2 none 2 45 [(2, 53), (2, p1)] h (mKv K) := by
  refine m_entry RX11 rfl (by decide) rfl (fun p e s m args below meth c C hr => ?_)
  show mG _ p l e _ s m args below meth c _ _ 0 [(0, (2, 53)), (1, (2, p1))] [] h
  unfold wp_X11_begin at hw
  refine g_aload_n C dX11_begin_0 rfl (by decide) rfl ?_
  refine g_aload_n C dX11_begin_1 rfl (by decide) rfl ?_
  refine gp_X11_31 C dX11_begin_2 kdC_53 (fun _ => trivial) ?_
  refine g_heap (fun h1 eh1 => ?_)
  replace hw := hw h1 eh1
  refine g_aload_n C dX11_begin_5 rfl (by decide) rfl ?_
  refine g_aload_n C dX11_begin_6 rfl (by decide) rfl ?_
  obtain ⟨q1, hw⟩ := hw
  refine gf_X11_35 C dX11_begin_7 q1 (fun z7 => ?_)
  refine gp_X11_41 C dX11_begin_10 kdC_53 (fun z => z) ?_
  refine g_heap (fun h2 eh2 => ?_)
  replace hw := hw h2 eh2
  refine g_aload_n C dX11_begin_13 rfl (by decide) rfl ?_
  refine gw_X11_14 C dX11_begin_14 kdC_53 wwC_53_2 ?_
  refine g_aload_n C dX11_begin_17 rfl (by decide) rfl ?_
  refine gw_X11_42 C dX11_begin_18 q1 (wir_4_14 wirC q1) ?_
  refine g_callVv C [(2, (p1 + 33))] (sim_X1_copyOf wirC kdC_98 hw) k_485 k_486 k_487 k_138 k_488 hdV_X1_copyOf rfl rfl (by decide) rfl kdC_98 rfl rfl rfl dX11_begin_21 ?_
  intro h3 hw
  refine g_aload_n C dX11_begin_24 rfl (by decide) rfl ?_
  refine g_iconst C ⟨by decide, by decide⟩ dX11_begin_25 ?_
  refine gp_X11_47 C dX11_begin_26 kdC_53 (fun _ => (Or.inl rfl)) ?_
  refine g_heap (fun h4 eh4 => ?_)
  replace hw := hw h4 eh4
  refine g_aload_n C dX11_begin_29 rfl (by decide) rfl ?_
  refine g_iconst C ⟨by decide, by decide⟩ dX11_begin_30 ?_
  refine gp_X11_51 C dX11_begin_31 kdC_53 (fun z => z) ?_
  refine g_heap (fun h5 eh5 => ?_)
  replace hw := hw h5 eh5
  refine g_aload_n C dX11_begin_34 rfl (by decide) rfl ?_
  refine g_iconst C ⟨by decide, by decide⟩ dX11_begin_35 ?_
  refine gp_X11_55 C dX11_begin_36 kdC_53 (fun _ => (Or.inr rfl)) ?_
  refine g_heap (fun h6 eh6 => ?_)
  replace hw := hw h6 eh6
  refine g_aload_n C dX11_begin_39 rfl (by decide) rfl ?_
  refine g_iconst C ⟨by decide, by decide⟩ dX11_begin_40 ?_
  refine gp_X11_58 C dX11_begin_41 kdC_53 (fun _ => (Or.inr rfl)) ?_
  refine g_heap (fun h7 eh7 => ?_)
  replace hw := hw h7 eh7
  exact g_vret C hr dX11_begin_44 ⟨rfl, hw⟩
set_option maxRecDepth 20000 in
set_option maxHeartbeats 4000000 in
theorem sim_X11_changeReeds {z : Mz} {l : Launch} {p1 : Int} {h : Mh} {K : Mh → Prop} (hw : wp_X11_changeReeds p1 h K) : mCal (XC z) l yX11_changeReeds cX11_changeReeds 3 none 0 0 [(2, 53), (1, p1)] h (mKv K) := by
  refine m_entry RX11 rfl (by decide) rfl (fun p e s m args below meth c C hr => ?_)
  show mG _ p l e _ s m args below meth c _ _ 0 [(0, (2, 53)), (1, (1, p1))] [] h
  unfold wp_X11_changeReeds at hw
  refine g_aload_n C dX11_changeReeds_0 rfl (by decide) rfl ?_
  refine g_lload_n C dX11_changeReeds_1 rfl rfl ?_
  refine gp_X11_41 C dX11_changeReeds_2 kdC_53 (fun z => z) ?_
  refine g_heap (fun h1 eh1 => ?_)
  replace hw := hw h1 eh1
  refine g_aload_n C dX11_changeReeds_5 rfl (by decide) rfl ?_
  refine g_iconst C ⟨by decide, by decide⟩ dX11_changeReeds_6 ?_
  refine gp_X11_55 C dX11_changeReeds_7 kdC_53 (fun _ => (Or.inr rfl)) ?_
  refine g_heap (fun h2 eh2 => ?_)
  replace hw := hw h2 eh2
  refine g_aload_n C dX11_changeReeds_10 rfl (by decide) rfl ?_
  refine g_iconst C ⟨by decide, by decide⟩ dX11_changeReeds_11 ?_
  refine gp_X11_58 C dX11_changeReeds_12 kdC_53 (fun _ => (Or.inr rfl)) ?_
  refine g_heap (fun h3 eh3 => ?_)
  replace hw := hw h3 eh3
  exact g_vret C hr dX11_changeReeds_15 ⟨rfl, hw⟩
set_option maxRecDepth 20000 in
set_option maxHeartbeats 4000000 in
theorem sim_X11_cutReeds {z : Mz} {l : Launch} {p1 : Int} {h : Mh} {K : Mh → Prop} (hw : wp_X11_cutReeds p1 h K) : mCal (XC z) l yX11_cutReeds cX11_cutReeds 2 none 1 22 [(2, 53), (0, p1)] h (mKv K) := by
  refine m_entry RX11 rfl (by decide) rfl (fun p e s m args below meth c C hr => ?_)
  show mG _ p l e _ s m args below meth c _ _ 0 [(0, (2, 53)), (1, (0, p1))] [] h
  unfold wp_X11_cutReeds at hw
  refine g_aload_n C dX11_cutReeds_0 rfl (by decide) rfl ?_
  refine g_aload_n C dX11_cutReeds_1 rfl (by decide) rfl ?_
  refine gf_X11_41 C dX11_cutReeds_2 kdC_53 (fun z2 => ?_)
  refine g_lconst C 1 (Or.inr rfl) rfl dX11_cutReeds_5 ?_
  refine g_iload_n C dX11_cutReeds_6 rfl rfl ?_
  refine g_lshl C dX11_cutReeds_7 ?_
  refine g_ldc2 C ⟨by decide, by decide⟩ k_1235 dX11_cutReeds_8 ?_
  refine g_lxor C dX11_cutReeds_11 ?_
  refine g_land C dX11_cutReeds_12 ?_
  refine g_callVv C [(1, j_land (h 53 1) (j_lxor (j_lshl 1 p1) (-1)))] (sim_X11_changeReeds hw) k_1236 k_1238 k_52 k_142 k_1239 hdV_X11_changeReeds rfl rfl (by decide) rfl kdC_53 rfl rfl rfl dX11_cutReeds_13 ?_
  intro h1 hw
  refine g_aload_n C dX11_cutReeds_16 rfl (by decide) rfl ?_
  refine g_iload_n C dX11_cutReeds_17 rfl rfl ?_
  refine g_callVv C [(0, p1)] (sim_X11_remember hw) k_1223 k_1225 k_51 k_142 k_1226 hdV_X11_remember rfl rfl (by decide) rfl kdC_53 rfl rfl rfl dX11_cutReeds_18 ?_
  intro h2 hw
  exact g_vret C hr dX11_cutReeds_21 ⟨rfl, hw⟩
set_option maxRecDepth 20000 in
set_option maxHeartbeats 4000000 in
theorem sim_X11_hasReeds {z : Mz} {l : Launch} {p1 : Int} {h : Mh} {K : Int → Mh → Prop} (hw : wp_X11_hasReeds p1 h K) : mCal (XC z) l yX11_hasReeds cX11_hasReeds 2 (some Jvm.ClassFile.FieldType.boolean) 0 0 [(2, 53), (0, p1)] h (mKz K) := by
  refine m_entry RX11 rfl (by decide) rfl (fun p e s m args below meth c C hr => ?_)
  show mG _ p l e _ s m args below meth c _ _ 0 [(0, (2, 53)), (1, (0, p1))] [] h
  unfold wp_X11_hasReeds at hw
  refine g_aload_n C dX11_hasReeds_0 rfl (by decide) rfl ?_
  refine gf_X11_41 C dX11_hasReeds_1 kdC_53 (fun z1 => ?_)
  refine g_iload_n C dX11_hasReeds_4 rfl rfl ?_
  refine g_lushr C dX11_hasReeds_5 ?_
  refine g_lconst C 1 (Or.inr rfl) rfl dX11_hasReeds_6 ?_
  refine g_land C dX11_hasReeds_7 ?_
  refine g_lconst C 0 (Or.inl rfl) rfl dX11_hasReeds_8 ?_
  refine g_lcmp C dX11_hasReeds_9 ?_
  refine g_if_eq C 17 dX11_hasReeds_10 rfl hw (fun hw => ?_) (fun hw => ?_)
  · refine g_iconst C ⟨by decide, by decide⟩ dX11_hasReeds_17 ?_
    exact g_zret C hr (Or.inl rfl) dX11_hasReeds_18 ⟨_, rfl, (Or.inl rfl), hw⟩
  · refine g_iconst C ⟨by decide, by decide⟩ dX11_hasReeds_13 ?_
    refine g_goto C 18 dX11_hasReeds_14 rfl ?_
    exact g_zret C hr (Or.inr rfl) dX11_hasReeds_18 ⟨_, rfl, (Or.inr rfl), hw⟩
set_option maxRecDepth 20000 in
set_option maxHeartbeats 4000000 in
theorem sim_X11_keepImage {z : Mz} {l : Launch} {h : Mh} {K : Int → Mh → Prop} (hw : wp_X11_keepImage h K) : mCal (XC z) l yX11_keepImage cX11_keepImage 1 (some Jvm.ClassFile.FieldType.int) 2 45 [(2, 53)] h (mKi K) := by
  refine m_entry RX11 rfl (by decide) rfl (fun p e s m args below meth c C hr => ?_)
  show mG _ p l e _ s m args below meth c _ _ 0 [(0, (2, 53))] [] h
  unfold wp_X11_keepImage at hw
  refine g_aload_n C dX11_keepImage_0 rfl (by decide) rfl ?_
  refine gw_X11_20 C dX11_keepImage_1 kdC_53 wwC_53_3 ?_
  refine g_aload_n C dX11_keepImage_4 rfl (by decide) rfl ?_
  refine gw_X11_14 C dX11_keepImage_5 kdC_53 wwC_53_2 ?_
  refine g_callVv C [(2, 98)] (sim_X1_copyOf wirC kdC_102 hw) k_485 k_486 k_487 k_138 k_488 hdV_X1_copyOf rfl rfl (by decide) rfl kdC_102 rfl rfl rfl dX11_keepImage_8 ?_
  intro h1 hw
  refine g_aload_n C dX11_keepImage_11 rfl (by decide) rfl ?_
  refine g_aload_n C dX11_keepImage_12 rfl (by decide) rfl ?_
  refine gf_X11_41 C dX11_keepImage_13 kdC_53 (fun z13 => ?_)
  refine gp_X11_80 C dX11_keepImage_16 kdC_53 (fun z => z) ?_
  refine g_heap (fun h2 eh2 => ?_)
  replace hw := hw h2 eh2
  refine g_aload_n C dX11_keepImage_19 rfl (by decide) rfl ?_
  refine g_iconst C ⟨by decide, by decide⟩ dX11_keepImage_20 ?_
  refine gp_X11_47 C dX11_keepImage_21 kdC_53 (fun _ => (Or.inr rfl)) ?_
  refine g_heap (fun h3 eh3 => ?_)
  replace hw := hw h3 eh3
  refine g_aload_n C dX11_keepImage_24 rfl (by decide) rfl ?_
  refine gw_X11_14 C dX11_keepImage_25 kdC_53 wwC_53_2 ?_
  refine gf_X11_68 C dX11_keepImage_28 kdC_98 (fun z28 => ?_)
  exact g_iret C hr dX11_keepImage_31 ⟨_, rfl, hw⟩
set_option maxRecDepth 20000 in
set_option maxHeartbeats 4000000 in
theorem sim_X11_takeImage {z : Mz} {l : Launch} {h : Mh} {K : Int → Mh → Prop} (hw : wp_X11_takeImage h K) : mCal (XC z) l yX11_takeImage cX11_takeImage 1 (some Jvm.ClassFile.FieldType.int) 2 45 [(2, 53)] h (mKi K) := by
  refine m_entry RX11 rfl (by decide) rfl (fun p e s m args below meth c C hr => ?_)
  show mG _ p l e _ s m args below meth c _ _ 0 [(0, (2, 53))] [] h
  unfold wp_X11_takeImage at hw
  refine g_aload_n C dX11_takeImage_0 rfl (by decide) rfl ?_
  refine gf_X11_47 C dX11_takeImage_1 kdC_53 (fun z1 => ?_)
  refine g_if_ne C 9 dX11_takeImage_4 rfl hw (fun hw => ?_) (fun hw => ?_)
  · refine g_aload_n C dX11_takeImage_9 rfl (by decide) rfl ?_
    refine gw_X11_14 C dX11_takeImage_10 kdC_53 wwC_53_2 ?_
    refine g_aload_n C dX11_takeImage_13 rfl (by decide) rfl ?_
    refine gw_X11_20 C dX11_takeImage_14 kdC_53 wwC_53_3 ?_
    refine g_callVv C [(2, 102)] (sim_X1_copyOf wirC kdC_98 hw) k_485 k_486 k_487 k_138 k_488 hdV_X1_copyOf rfl rfl (by decide) rfl kdC_98 rfl rfl rfl dX11_takeImage_17 ?_
    intro h1 hw
    refine g_aload_n C dX11_takeImage_20 rfl (by decide) rfl ?_
    refine g_aload_n C dX11_takeImage_21 rfl (by decide) rfl ?_
    refine gf_X11_80 C dX11_takeImage_22 kdC_53 (fun z22 => ?_)
    refine g_callVv C [(1, (h1 53 4))] (sim_X11_changeReeds hw) k_1236 k_1238 k_52 k_142 k_1239 hdV_X11_changeReeds rfl rfl (by decide) rfl kdC_53 rfl rfl rfl dX11_takeImage_25 ?_
    intro h2 hw
    refine g_aload_n C dX11_takeImage_28 rfl (by decide) rfl ?_
    refine g_iconst C ⟨by decide, by decide⟩ dX11_takeImage_29 ?_
    refine gp_X11_51 C dX11_takeImage_30 kdC_53 (fun z => z) ?_
    refine g_heap (fun h3 eh3 => ?_)
    replace hw := hw h3 eh3
    refine g_aload_n C dX11_takeImage_33 rfl (by decide) rfl ?_
    refine gw_X11_14 C dX11_takeImage_34 kdC_53 wwC_53_2 ?_
    refine gf_X11_68 C dX11_takeImage_37 kdC_98 (fun z37 => ?_)
    exact g_iret C hr dX11_takeImage_40 ⟨_, rfl, hw⟩
  · refine g_iconst C ⟨by decide, by decide⟩ dX11_takeImage_7 ?_
    exact g_iret C hr dX11_takeImage_8 ⟨_, rfl, hw⟩
set_option maxRecDepth 20000 in
set_option maxHeartbeats 4000000 in
theorem sim_X11_undoLatest {z : Mz} {l : Launch} {h : Mh} {K : Int → Mh → Prop} (hw : wp_X11_undoLatest h K) : mCal (XC z) l yX11_undoLatest cX11_undoLatest 2 (some Jvm.ClassFile.FieldType.int) 1 22 [(2, 53)] h (mKi K) := by
  refine m_entry RX11 rfl (by decide) rfl (fun p e s m args below meth c C hr => ?_)
  show mG _ p l e _ s m args below meth c _ _ 0 [(0, (2, 53))] [] h
  unfold wp_X11_undoLatest at hw
  refine g_aload_n C dX11_undoLatest_0 rfl (by decide) rfl ?_
  refine gf_X11_51 C dX11_undoLatest_1 kdC_53 (fun z1 => ?_)
  refine g_iconst C ⟨by decide, by decide⟩ dX11_undoLatest_4 ?_
  refine g_icmp_ge C 10 dX11_undoLatest_5 rfl hw (fun hw => ?_) (fun hw => ?_)
  · refine g_aload_n C dX11_undoLatest_10 rfl (by decide) rfl ?_
    refine g_dup C (by show ¬ (2 : Nat) = 1; decide) dX11_undoLatest_11 ?_
    refine gf_X11_51 C dX11_undoLatest_12 kdC_53 (fun z12 => ?_)
    refine g_iconst C ⟨by decide, by decide⟩ dX11_undoLatest_15 ?_
    refine g_isub C dX11_undoLatest_16 ?_
    refine gp_X11_51 C dX11_undoLatest_17 kdC_53 (fun z => z) ?_
    refine g_heap (fun h1 eh1 => ?_)
    replace hw := hw h1 eh1
    refine g_aload_n C dX11_undoLatest_20 rfl (by decide) rfl ?_
    refine gw_X11_23 C dX11_undoLatest_21 kdC_53 wwC_53_6 ?_
    refine g_aload_n C dX11_undoLatest_24 rfl (by decide) rfl ?_
    refine gf_X11_51 C dX11_undoLatest_25 kdC_53 (fun z25 => ?_)
    obtain ⟨⟨b1, b1b⟩, hw⟩ := hw
    refine g_iaload C dX11_undoLatest_28 kdC_106 b1 b1b (fun z28 => ?_)
    refine g_topi (fun x1 ex1 => ?_)
    replace hw := hw x1 ex1
    refine g_istore_n C dX11_undoLatest_29 rfl (by decide) ?_
    refine g_iload_n C dX11_undoLatest_30 rfl rfl ?_
    refine g_iconst C ⟨by decide, by decide⟩ dX11_undoLatest_31 ?_
    refine g_icmp_ne C 50 dX11_undoLatest_32 rfl hw (fun hw => ?_) (fun hw => ?_)
    · refine g_aload_n C dX11_undoLatest_50 rfl (by decide) rfl ?_
      refine g_aload_n C dX11_undoLatest_51 rfl (by decide) rfl ?_
      refine gf_X11_41 C dX11_undoLatest_52 kdC_53 (fun z52 => ?_)
      refine g_lconst C 1 (Or.inr rfl) rfl dX11_undoLatest_55 ?_
      refine g_iload_n C dX11_undoLatest_56 rfl rfl ?_
      refine g_lshl C dX11_undoLatest_57 ?_
      refine g_lor C dX11_undoLatest_58 ?_
      refine g_callVv C [(1, j_lor (h1 53 1) (j_lshl 1 x1))] (sim_X11_changeReeds hw) k_1236 k_1238 k_52 k_142 k_1239 hdV_X11_changeReeds rfl rfl (by decide) rfl kdC_53 rfl rfl rfl dX11_undoLatest_59 ?_
      intro h2 hw
      refine g_aload_n C dX11_undoLatest_62 rfl (by decide) rfl ?_
      refine gf_X11_51 C dX11_undoLatest_63 kdC_53 (fun z63 => ?_)
      exact g_iret C hr dX11_undoLatest_66 ⟨_, rfl, hw⟩
    · refine g_aload_n C dX11_undoLatest_35 rfl (by decide) rfl ?_
      refine gw_X11_14 C dX11_undoLatest_36 kdC_53 wwC_53_2 ?_
      refine g_callVv C [] (sim_X1_removeLast wirC kdC_98 hw) k_1248 k_1249 k_1250 k_138 k_1251 hdV_X1_removeLast rfl rfl (by decide) rfl kdC_98 rfl rfl rfl dX11_undoLatest_39 ?_
      intro h3 hw
      refine g_aload_n C dX11_undoLatest_42 rfl (by decide) rfl ?_
      refine g_iconst C ⟨by decide, by decide⟩ dX11_undoLatest_43 ?_
      refine gp_X11_58 C dX11_undoLatest_44 kdC_53 (fun _ => (Or.inr rfl)) ?_
      refine g_heap (fun h4 eh4 => ?_)
      replace hw := hw h4 eh4
      refine g_goto C 62 dX11_undoLatest_47 rfl ?_
      refine g_aload_n C dX11_undoLatest_62 rfl (by decide) rfl ?_
      refine gf_X11_51 C dX11_undoLatest_63 kdC_53 (fun z63 => ?_)
      exact g_iret C hr dX11_undoLatest_66 ⟨_, rfl, hw⟩
  · refine g_iconst C ⟨by decide, by decide⟩ dX11_undoLatest_8 ?_
    exact g_iret C hr dX11_undoLatest_9 ⟨_, rfl, hw⟩
set_option maxRecDepth 20000 in
set_option maxHeartbeats 4000000 in
theorem sim_X2_gatherCompared {z : Mz} {l : Launch} {p1 : Int} {p2 : Int} {p3 : Int} {h : Mh} {K : Int → Mh → Prop} (hw : wp_X2_gatherCompared p1 p2 p3 h K) : mCal (XC z) l yX2_gatherCompared cX2_gatherCompared 10 (some Jvm.ClassFile.FieldType.boolean) 1 23 [(2, 127), (0, p1), (0, p2), (1, p3)] h (mKz K) := by
  refine m_entry RX2 rfl (by decide) rfl (fun p e s m args below meth c C hr => ?_)
  have hQ : ∀ x, Lfp (F_X2_gatherCompared p1 p2 p3 K) x → (match x.1, x.2.1 with | 13, [v5, v7] => mG (XC z) p l e { frames := 1, cells := 0, slots := 0, locals := 23 } s m args below meth c 10 (mMQ (XC z) (mKz K) below args s) 13 [(5, (1, v5)), (7, (0, v7)), (0, (2, 127)), (1, (0, p1)), (2, (0, p2)), (3, (1, p3))] [] x.2.2 | 74, [v5, v7, v8, v9] => mG (XC z) p l e { frames := 1, cells := 0, slots := 0, locals := 23 } s m args below meth c 10 (mMQ (XC z) (mKz K) below args s) 74 [(5, (1, v5)), (7, (0, v7)), (8, (0, v8)), (9, (0, v9)), (0, (2, 127)), (1, (0, p1)), (2, (0, p2)), (3, (1, p3))] [] x.2.2 | _, _ => True) := by
    intro x hx
    refine Lfp.ind (fun x => (match x.1, x.2.1 with | 13, [v5, v7] => mG (XC z) p l e { frames := 1, cells := 0, slots := 0, locals := 23 } s m args below meth c 10 (mMQ (XC z) (mKz K) below args s) 13 [(5, (1, v5)), (7, (0, v7)), (0, (2, 127)), (1, (0, p1)), (2, (0, p2)), (3, (1, p3))] [] x.2.2 | 74, [v5, v7, v8, v9] => mG (XC z) p l e { frames := 1, cells := 0, slots := 0, locals := 23 } s m args below meth c 10 (mMQ (XC z) (mKz K) below args s) 74 [(5, (1, v5)), (7, (0, v7)), (8, (0, v8)), (9, (0, v9)), (0, (2, 127)), (1, (0, p1)), (2, (0, p2)), (3, (1, p3))] [] x.2.2 | _, _ => True)) ?_ hx
    clear hx x
    intro Z x hQ hw
    rcases hw with ⟨v5, v7, h, rfl, hw⟩ | ⟨v5, v7, v8, v9, h, rfl, hw⟩
    · show mG (XC z) p l e { frames := 1, cells := 0, slots := 0, locals := 23 } s m args below meth c 10 (mMQ (XC z) (mKz K) below args s) 13 [(5, (1, v5)), (7, (0, v7)), (0, (2, 127)), (1, (0, p1)), (2, (0, p2)), (3, (1, p3))] [] h
      unfold B_X2_gatherCompared_13 at hw
      refine g_iload C dX2_gatherCompared_13 rfl ?_
      refine g_iload_n C dX2_gatherCompared_15 rfl rfl ?_
      refine g_icmp_ge C 113 dX2_gatherCompared_16 rfl hw (fun hw => ?_) (fun hw => ?_)
      · refine g_iconst C ⟨by decide, by decide⟩ dX2_gatherCompared_113 ?_
        exact g_zret C hr (Or.inr rfl) dX2_gatherCompared_114 ⟨_, rfl, (Or.inr rfl), hw⟩
      · refine g_lload_n C dX2_gatherCompared_19 rfl rfl ?_
        refine g_bipush C ⟨by decide, by decide⟩ (by decide) dX2_gatherCompared_20 ?_
        refine g_iload C dX2_gatherCompared_22 rfl ?_
        refine g_imul C dX2_gatherCompared_24 ?_
        refine g_lushr C dX2_gatherCompared_25 ?_
        refine g_ldc2 C ⟨by decide, by decide⟩ k_1355 dX2_gatherCompared_26 ?_
        refine g_land C dX2_gatherCompared_29 ?_
        refine g_l2i C dX2_gatherCompared_30 ?_
        refine g_topi (fun x1 ex1 => ?_)
        replace hw := hw x1 ex1
        refine g_istore C dX2_gatherCompared_31 (by decide) ?_
        refine g_aload_n C dX2_gatherCompared_33 rfl (by decide) rfl ?_
        refine gw_X2_33 C dX2_gatherCompared_34 kdC_127 wwC_127_0 ?_
        refine gf_X2_54 C dX2_gatherCompared_37 kdC_53 (fun z37 => ?_)
        refine g_iload C dX2_gatherCompared_40 rfl ?_
        obtain ⟨q1, hw⟩ := hw
        refine g_callVz C [(0, x1)] (sim_X5_isWet wirC q1 hw) k_1301 k_994 k_995 k_135 k_996 hdV_X5_isWet rfl rfl (by decide) rfl q1 rfl rfl rfl dX2_gatherCompared_42 ?_
        intro x2 h1 zb42 hw
        refine g_if_eq C 60 dX2_gatherCompared_45 rfl hw (fun hw => ?_) (fun hw => ?_)
        · refine g_iconst C ⟨by decide, by decide⟩ dX2_gatherCompared_60 ?_
          exact g_zret C hr (Or.inl rfl) dX2_gatherCompared_61 ⟨_, rfl, (Or.inl rfl), hw⟩
        · refine g_lload C dX2_gatherCompared_48 rfl ?_
          refine g_iload C dX2_gatherCompared_50 rfl ?_
          refine g_lushr C dX2_gatherCompared_52 ?_
          refine g_lconst C 1 (Or.inr rfl) rfl dX2_gatherCompared_53 ?_
          refine g_land C dX2_gatherCompared_54 ?_
          refine g_lconst C 0 (Or.inl rfl) rfl dX2_gatherCompared_55 ?_
          refine g_lcmp C dX2_gatherCompared_56 ?_
          refine g_if_eq C 62 dX2_gatherCompared_57 rfl hw (fun hw => ?_) (fun hw => ?_)
          · refine g_lload C dX2_gatherCompared_62 rfl ?_
            refine g_lconst C 1 (Or.inr rfl) rfl dX2_gatherCompared_64 ?_
            refine g_iload C dX2_gatherCompared_65 rfl ?_
            refine g_lshl C dX2_gatherCompared_67 ?_
            refine g_lor C dX2_gatherCompared_68 ?_
            refine g_topi (fun x3 ex3 => ?_)
            replace hw := hw x3 ex3
            refine g_lstore C dX2_gatherCompared_69 (by decide) ?_
            refine g_iconst C ⟨by decide, by decide⟩ dX2_gatherCompared_71 ?_
            refine g_istore C dX2_gatherCompared_72 (by decide) ?_
            exact g_sub [5, 7, 8, 9, 0, 1, 2, 3] rfl (hQ _ hw)
          · refine g_iconst C ⟨by decide, by decide⟩ dX2_gatherCompared_60 ?_
            exact g_zret C hr (Or.inl rfl) dX2_gatherCompared_61 ⟨_, rfl, (Or.inl rfl), hw⟩
    · show mG (XC z) p l e { frames := 1, cells := 0, slots := 0, locals := 23 } s m args below meth c 10 (mMQ (XC z) (mKz K) below args s) 74 [(5, (1, v5)), (7, (0, v7)), (8, (0, v8)), (9, (0, v9)), (0, (2, 127)), (1, (0, p1)), (2, (0, p2)), (3, (1, p3))] [] h
      unfold B_X2_gatherCompared_74 at hw
      refine g_iload C dX2_gatherCompared_74 rfl ?_
      refine g_iconst C ⟨by decide, by decide⟩ dX2_gatherCompared_76 ?_
      refine g_icmp_ge C 107 dX2_gatherCompared_77 rfl hw (fun hw => ?_) (fun hw => ?_)
      · refine g_iincN C dX2_gatherCompared_107 rfl (by decide) (fun x1 ex1 => ?_)
        replace hw := hw x1 ex1
        refine g_goto C 13 dX2_gatherCompared_110 rfl ?_
        exact g_sub [5, 7, 0, 1, 2, 3] rfl (hQ _ hw)
      · refine g_iload_n C dX2_gatherCompared_80 rfl rfl ?_
        refine g_iload C dX2_gatherCompared_81 rfl ?_
        refine g_iushr C dX2_gatherCompared_83 ?_
        refine g_iconst C ⟨by decide, by decide⟩ dX2_gatherCompared_84 ?_
        refine g_iand C dX2_gatherCompared_85 ?_
        refine g_if_eq C 101 dX2_gatherCompared_86 rfl hw (fun hw => ?_) (fun hw => ?_)
        · refine g_iincN C dX2_gatherCompared_101 rfl (by decide) (fun x2 ex2 => ?_)
          replace hw := hw x2 ex2
          refine g_goto C 74 dX2_gatherCompared_104 rfl ?_
          exact g_sub [5, 7, 8, 9, 0, 1, 2, 3] rfl (hQ _ hw)
        · refine g_aload_n C dX2_gatherCompared_89 rfl (by decide) rfl ?_
          refine gw_X2_30 C dX2_gatherCompared_90 kdC_127 wwC_127_7 ?_
          refine g_iload C dX2_gatherCompared_93 rfl ?_
          refine g_iload C dX2_gatherCompared_95 rfl ?_
          refine g_iconst C ⟨by decide, by decide⟩ dX2_gatherCompared_97 ?_
          refine g_callVv C [(0, v9), (0, v8), (0, 0)] (sim_X1_add wirC kdC_138 hw) k_1316 k_491 k_492 k_138 k_493 hdV_X1_add rfl rfl (by decide) rfl kdC_138 rfl rfl rfl dX2_gatherCompared_98 ?_
          intro h1 hw
          refine g_iincN C dX2_gatherCompared_101 rfl (by decide) (fun x3 ex3 => ?_)
          replace hw := hw x3 ex3
          refine g_goto C 74 dX2_gatherCompared_104 rfl ?_
          exact g_sub [5, 7, 8, 9, 0, 1, 2, 3] rfl (hQ _ hw)
  show mG _ p l e _ s m args below meth c _ _ 0 [(0, (2, 127)), (1, (0, p1)), (2, (0, p2)), (3, (1, p3))] [] h
  unfold wp_X2_gatherCompared at hw
  refine g_aload_n C dX2_gatherCompared_0 rfl (by decide) rfl ?_
  refine gw_X2_30 C dX2_gatherCompared_1 kdC_127 wwC_127_7 ?_
  refine g_callVv C [] (sim_X1_clear wirC kdC_138 hw) k_1295 k_259 k_260 k_138 k_261 hdV_X1_clear rfl rfl (by decide) rfl kdC_138 rfl rfl rfl dX2_gatherCompared_4 ?_
  intro h1 hw
  refine g_lconst C 0 (Or.inl rfl) rfl dX2_gatherCompared_7 ?_
  refine g_lstore C dX2_gatherCompared_8 (by decide) ?_
  refine g_iconst C ⟨by decide, by decide⟩ dX2_gatherCompared_10 ?_
  refine g_istore C dX2_gatherCompared_11 (by decide) ?_
  exact g_sub [5, 7, 0, 1, 2, 3] rfl (hQ _ hw)
set_option maxRecDepth 20000 in
set_option maxHeartbeats 4000000 in
theorem sim_X2_rowsDiffer {z : Mz} {l : Launch} {p1 : Int} {p2 : Int} {h : Mh} {K : Int → Mh → Prop} (hw : wp_X2_rowsDiffer p1 p2 h K) : mCal (XC z) l yX2_rowsDiffer cX2_rowsDiffer 4 (some Jvm.ClassFile.FieldType.boolean) 0 0 [(2, 127), (0, p1), (0, p2)] h (mKz K) := by
  refine m_entry RX2 rfl (by decide) rfl (fun p e s m args below meth c C hr => ?_)
  have hQ : ∀ x, Lfp (F_X2_rowsDiffer p1 p2 K) x → (match x.1, x.2.1 with | 2, [v3] => mG (XC z) p l e { frames := 0, cells := 0, slots := 0, locals := 0 } s m args below meth c 4 (mMQ (XC z) (mKz K) below args s) 2 [(3, (0, v3)), (0, (2, 127)), (1, (0, p1)), (2, (0, p2))] [] x.2.2 | _, _ => True) := by
    intro x hx
    refine Lfp.ind (fun x => (match x.1, x.2.1 with | 2, [v3] => mG (XC z) p l e { frames := 0, cells := 0, slots := 0, locals := 0 } s m args below meth c 4 (mMQ (XC z) (mKz K) below args s) 2 [(3, (0, v3)), (0, (2, 127)), (1, (0, p1)), (2, (0, p2))] [] x.2.2 | _, _ => True)) ?_ hx
    clear hx x
    intro Z x hQ hw
    rcases hw with ⟨v3, h, rfl, hw⟩
    · show mG (XC z) p l e { frames := 0, cells := 0, slots := 0, locals := 0 } s m args below meth c 4 (mMQ (XC z) (mKz K) below args s) 2 [(3, (0, v3)), (0, (2, 127)), (1, (0, p1)), (2, (0, p2))] [] h
      unfold B_X2_rowsDiffer_2 at hw
      refine g_iload_n C dX2_rowsDiffer_2 rfl rfl ?_
      refine g_bipush C ⟨by decide, by decide⟩ (by decide) dX2_rowsDiffer_3 ?_
      refine g_icmp_ge C 41 dX2_rowsDiffer_5 rfl hw (fun hw => ?_) (fun hw => ?_)
      · refine g_iconst C ⟨by decide, by decide⟩ dX2_rowsDiffer_41 ?_
        exact g_zret C hr (Or.inl rfl) dX2_rowsDiffer_42 ⟨_, rfl, (Or.inl rfl), hw⟩
      · refine g_aload_n C dX2_rowsDiffer_8 rfl (by decide) rfl ?_
        refine gw_X2_23 C dX2_rowsDiffer_9 kdC_127 wwC_127_5 ?_
        refine g_iload_n C dX2_rowsDiffer_12 rfl rfl ?_
        refine g_bipush C ⟨by decide, by decide⟩ (by decide) dX2_rowsDiffer_13 ?_
        refine g_imul C dX2_rowsDiffer_15 ?_
        refine g_iload_n C dX2_rowsDiffer_16 rfl rfl ?_
        refine g_iadd C dX2_rowsDiffer_17 ?_
        obtain ⟨⟨b1, b1b⟩, hw⟩ := hw
        refine g_iaload C dX2_rowsDiffer_18 kdC_136 b1 b1b (fun z18 => ?_)
        refine g_aload_n C dX2_rowsDiffer_19 rfl (by decide) rfl ?_
        refine gw_X2_23 C dX2_rowsDiffer_20 kdC_127 wwC_127_5 ?_
        refine g_iload_n C dX2_rowsDiffer_23 rfl rfl ?_
        refine g_bipush C ⟨by decide, by decide⟩ (by decide) dX2_rowsDiffer_24 ?_
        refine g_imul C dX2_rowsDiffer_26 ?_
        refine g_iload_n C dX2_rowsDiffer_27 rfl rfl ?_
        refine g_iadd C dX2_rowsDiffer_28 ?_
        obtain ⟨⟨b2, b2b⟩, hw⟩ := hw
        refine g_iaload C dX2_rowsDiffer_29 kdC_136 b2 b2b (fun z29 => ?_)
        refine g_icmp_eq C 35 dX2_rowsDiffer_30 rfl hw (fun hw => ?_) (fun hw => ?_)
        · refine g_iincN C dX2_rowsDiffer_35 rfl (by decide) (fun x1 ex1 => ?_)
          replace hw := hw x1 ex1
          refine g_goto C 2 dX2_rowsDiffer_38 rfl ?_
          exact g_sub [3, 0, 1, 2] rfl (hQ _ hw)
        · refine g_iconst C ⟨by decide, by decide⟩ dX2_rowsDiffer_33 ?_
          exact g_zret C hr (Or.inr rfl) dX2_rowsDiffer_34 ⟨_, rfl, (Or.inr rfl), hw⟩
  show mG _ p l e _ s m args below meth c _ _ 0 [(0, (2, 127)), (1, (0, p1)), (2, (0, p2))] [] h
  unfold wp_X2_rowsDiffer at hw
  refine g_iconst C ⟨by decide, by decide⟩ dX2_rowsDiffer_0 ?_
  refine g_istore_n C dX2_rowsDiffer_1 rfl (by decide) ?_
  exact g_sub [3, 0, 1, 2] rfl (hQ _ hw)
