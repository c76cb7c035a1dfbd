set_option maxRecDepth 20000 in
set_option maxHeartbeats 4000000 in
theorem sim_X9_readCell {z : Mz} {l : Launch} {p1 : Int} {h : Mh} {K : Int → Mh → Prop} (hw : wp_X9_readCell p1 h K) : mCal (XC z) l yX9_readCell cX9_readCell 7 (some Jvm.ClassFile.FieldType.int) 3 65 [(2, 46), (1, p1)] h (mKi K) := by
  refine m_entry RX9 rfl (by decide) rfl (fun p e s m args below meth c C hr => ?_)
  have hQ : ∀ x, Lfp (F_X9_readCell p1 K) x → (match x.1, x.2.1 with | 46, [v3, v4, s0] => mG (XC z) p l e { frames := 3, cells := 0, slots := 0, locals := 65 } s m args below meth c 7 (mMQ (XC z) (mKi K) below args s) 46 [(3, (0, v3)), (4, (0, v4)), (0, (2, 46)), (1, (1, p1))] [(0, s0)] x.2.2 | _, _ => True) := by
    intro x hx
    refine Lfp.ind (fun x => (match x.1, x.2.1 with | 46, [v3, v4, s0] => mG (XC z) p l e { frames := 3, cells := 0, slots := 0, locals := 65 } s m args below meth c 7 (mMQ (XC z) (mKi K) below args s) 46 [(3, (0, v3)), (4, (0, v4)), (0, (2, 46)), (1, (1, p1))] [(0, s0)] x.2.2 | _, _ => True)) ?_ hx
    clear hx x
    intro Z x hQ hw
    rcases hw with ⟨v3, v4, s0, h, rfl, hw⟩
    · show mG (XC z) p l e { frames := 3, cells := 0, slots := 0, locals := 65 } s m args below meth c 7 (mMQ (XC z) (mKi K) below args s) 46 [(3, (0, v3)), (4, (0, v4)), (0, (2, 46)), (1, (1, p1))] [(0, s0)] h
      unfold B_X9_readCell_46 at hw
      refine g_istore C dX9_readCell_46 (by decide) ?_
      refine g_iload C dX9_readCell_48 rfl ?_
      refine g_if_ge C 55 dX9_readCell_50 rfl hw (fun hw => ?_) (fun hw => ?_)
      · refine g_iload C dX9_readCell_55 rfl ?_
        refine g_aload_n C dX9_readCell_57 rfl (by decide) rfl ?_
        refine gf_X9_31 C dX9_readCell_58 kdC_46 (fun z58 => ?_)
        obtain ⟨q3, hw⟩ := hw
        refine gf_X9_170 C dX9_readCell_61 q3 (fun z61 => ?_)
        refine g_imul C dX9_readCell_64 ?_
        refine g_iload_n C dX9_readCell_65 rfl rfl ?_
        refine g_iadd C dX9_readCell_66 ?_
        refine g_topi (fun x1 ex1 => ?_)
        replace hw := hw x1 ex1
        refine g_istore C dX9_readCell_67 (by decide) ?_
        refine g_lload_n C dX9_readCell_69 rfl rfl ?_
        refine g_iload C dX9_readCell_70 rfl ?_
        refine g_lushr C dX9_readCell_72 ?_
        refine g_lconst C 1 (Or.inr rfl) rfl dX9_readCell_73 ?_
        refine g_land C dX9_readCell_74 ?_
        refine g_lconst C 0 (Or.inl rfl) rfl dX9_readCell_75 ?_
        refine g_lcmp C dX9_readCell_76 ?_
        refine g_if_eq C 93 dX9_readCell_77 rfl hw (fun hw => ?_) (fun hw => ?_)
        · refine g_iload C dX9_readCell_93 rfl ?_
          exact g_iret C hr dX9_readCell_95 ⟨_, rfl, hw⟩
        · refine g_aload_n C dX9_readCell_80 rfl (by decide) rfl ?_
          refine g_iconst C ⟨by decide, by decide⟩ dX9_readCell_81 ?_
          refine gp_X9_40 C dX9_readCell_82 kdC_46 (fun z => z) ?_
          refine g_heap (fun h1 eh1 => ?_)
          replace hw := hw h1 eh1
          refine g_aload_n C dX9_readCell_85 rfl (by decide) rfl ?_
          refine g_iload C dX9_readCell_86 rfl ?_
          refine gp_X9_9 C dX9_readCell_88 kdC_46 (fun z => z) ?_
          refine g_heap (fun h2 eh2 => ?_)
          replace hw := hw h2 eh2
          refine g_iconst C ⟨by decide, by decide⟩ dX9_readCell_91 ?_
          exact g_iret C hr dX9_readCell_92 ⟨_, rfl, hw⟩
      · refine g_iconst C ⟨by decide, by decide⟩ dX9_readCell_53 ?_
        exact g_iret C hr dX9_readCell_54 ⟨_, rfl, hw⟩
  show mG _ p l e _ s m args below meth c _ _ 0 [(0, (2, 46)), (1, (1, p1))] [] h
  unfold wp_X9_readCell at hw
  replace hw := id hw
  refine g_aload_n C dX9_readCell_0 rfl (by decide) rfl ?_
  refine g_iconst C ⟨by decide, by decide⟩ dX9_readCell_1 ?_
  refine g_aload_n C dX9_readCell_2 rfl (by decide) rfl ?_
  refine gf_X9_31 C dX9_readCell_3 kdC_46 (fun z3 => ?_)
  obtain ⟨q1, hw⟩ := hw
  refine gf_X9_170 C dX9_readCell_6 q1 (fun z6 => ?_)
  refine g_iconst C ⟨by decide, by decide⟩ dX9_readCell_9 ?_
  refine g_isub C dX9_readCell_10 ?_
  refine g_callVi C [(0, 0), (0, w32 ((h (h 46 1) 0) - 1))] (sim_X9_readNumber hw) k_783 k_785 k_9 k_140 k_786 hdV_X9_readNumber rfl rfl (by decide) rfl kdC_46 rfl rfl rfl dX9_readCell_11 ?_
  intro x1 h1 hw
  refine g_istore_n C dX9_readCell_14 rfl (by decide) ?_
  refine g_aload_n C dX9_readCell_15 rfl (by decide) rfl ?_
  refine gw_X9_27 C dX9_readCell_16 kdC_46 wwC_46_0 ?_
  refine gf_X9_76 C dX9_readCell_19 kdC_49 (fun z19 => ?_)
  refine g_topi (fun x2 ex2 => ?_)
  replace hw := hw x2 ex2
  refine g_istore C dX9_readCell_22 (by decide) ?_
  refine g_iload_n C dX9_readCell_24 rfl rfl ?_
  refine g_if_ge C 32 dX9_readCell_25 rfl hw (fun hw => ?_) (fun hw => ?_)
  · refine g_aload_n C dX9_readCell_32 rfl (by decide) rfl ?_
    refine g_iconst C ⟨by decide, by decide⟩ dX9_readCell_33 ?_
    refine g_aload_n C dX9_readCell_34 rfl (by decide) rfl ?_
    refine gf_X9_31 C dX9_readCell_35 kdC_46 (fun z35 => ?_)
    obtain ⟨q2, hw⟩ := hw
    refine gf_X9_177 C dX9_readCell_38 q2 (fun z38 => ?_)
    refine g_iconst C ⟨by decide, by decide⟩ dX9_readCell_41 ?_
    refine g_isub C dX9_readCell_42 ?_
    refine g_callVi C [(0, 0), (0, w32 ((h1 (h1 46 1) 1) - 1))] (sim_X9_readNumber hw) k_783 k_785 k_9 k_140 k_786 hdV_X9_readNumber rfl rfl (by decide) rfl kdC_46 rfl rfl rfl dX9_readCell_43 ?_
    intro x3 h2 hw
    exact g_sub [3, 4, 0, 1] rfl (hQ _ hw)
  · refine g_iconst C ⟨by decide, by decide⟩ dX9_readCell_28 ?_
    refine g_goto C 46 dX9_readCell_29 rfl ?_
    exact g_sub [3, 4, 0, 1] rfl (hQ _ hw)
set_option maxRecDepth 20000 in
set_option maxHeartbeats 4000000 in
theorem sim_X9_topRank {z : Mz} {l : Launch} {h : Mh} {K : Int → Mh → Prop} (hw : wp_X9_topRank h K) : mCal (XC z) l yX9_topRank cX9_topRank 2 (some Jvm.ClassFile.FieldType.int) 0 0 [(2, 46)] h (mKi K) := by
  refine m_entry RX9 rfl (by decide) rfl (fun p e s m args below meth c C hr => ?_)
  show mG _ p l e _ s m args below meth c _ _ 0 [(0, (2, 46))] [] h
  unfold wp_X9_topRank at hw
  refine g_aload_n C dX9_topRank_0 rfl (by decide) rfl ?_
  refine gf_X9_283 C dX9_topRank_1 kdC_46 (fun z1 => ?_)
  refine g_if_le C 23 dX9_topRank_4 rfl hw (fun hw => ?_) (fun hw => ?_)
  · refine g_iconst C ⟨by decide, by decide⟩ dX9_topRank_23 ?_
    refine g_istore_n C dX9_topRank_24 rfl (by decide) ?_
    refine g_iload_n C dX9_topRank_25 rfl rfl ?_
    refine g_if_eq C 43 dX9_topRank_26 rfl hw (fun hw => ?_) (fun hw => ?_)
    · refine g_iconst C ⟨by decide, by decide⟩ dX9_topRank_43 ?_
      exact g_iret C hr dX9_topRank_44 ⟨_, rfl, hw⟩
    · refine g_aload_n C dX9_topRank_29 rfl (by decide) rfl ?_
      refine gw_X9_19 C dX9_topRank_30 kdC_46 wwC_46_11 ?_
      refine g_aload_n C dX9_topRank_33 rfl (by decide) rfl ?_
      refine gf_X9_283 C dX9_topRank_34 kdC_46 (fun z34 => ?_)
      refine g_iconst C ⟨by decide, by decide⟩ dX9_topRank_37 ?_
      refine g_isub C dX9_topRank_38 ?_
      obtain ⟨⟨b1, b1b⟩, hw⟩ := hw
      refine g_iaload C dX9_topRank_39 kdC_48 b1 b1b (fun z39 => ?_)
      refine g_goto C 44 dX9_topRank_40 rfl ?_
      exact g_iret C hr dX9_topRank_44 ⟨_, rfl, hw⟩
  · refine g_aload_n C dX9_topRank_7 rfl (by decide) rfl ?_
    refine gf_X9_283 C dX9_topRank_8 kdC_46 (fun z8 => ?_)
    refine g_aload_n C dX9_topRank_11 rfl (by decide) rfl ?_
    refine gw_X9_19 C dX9_topRank_12 kdC_46 wwC_46_11 ?_
    refine g_alen C dX9_topRank_15 (ci := 14) (by decide) skC_48 (by decide) ?_
    refine g_icmp_gt C 23 dX9_topRank_16 rfl hw (fun hw => ?_) (fun hw => ?_)
    · refine g_iconst C ⟨by decide, by decide⟩ dX9_topRank_23 ?_
      refine g_istore_n C dX9_topRank_24 rfl (by decide) ?_
      refine g_iload_n C dX9_topRank_25 rfl rfl ?_
      refine g_if_eq C 43 dX9_topRank_26 rfl hw (fun hw => ?_) (fun hw => ?_)
      · refine g_iconst C ⟨by decide, by decide⟩ dX9_topRank_43 ?_
        exact g_iret C hr dX9_topRank_44 ⟨_, rfl, hw⟩
      · refine g_aload_n C dX9_topRank_29 rfl (by decide) rfl ?_
        refine gw_X9_19 C dX9_topRank_30 kdC_46 wwC_46_11 ?_
        refine g_aload_n C dX9_topRank_33 rfl (by decide) rfl ?_
        refine gf_X9_283 C dX9_topRank_34 kdC_46 (fun z34 => ?_)
        refine g_iconst C ⟨by decide, by decide⟩ dX9_topRank_37 ?_
        refine g_isub C dX9_topRank_38 ?_
        obtain ⟨⟨b2, b2b⟩, hw⟩ := hw
        refine g_iaload C dX9_topRank_39 kdC_48 b2 b2b (fun z39 => ?_)
        refine g_goto C 44 dX9_topRank_40 rfl ?_
        exact g_iret C hr dX9_topRank_44 ⟨_, rfl, hw⟩
    · refine g_iconst C ⟨by decide, by decide⟩ dX9_topRank_19 ?_
      refine g_goto C 24 dX9_topRank_20 rfl ?_
      refine g_istore_n C dX9_topRank_24 rfl (by decide) ?_
      refine g_iload_n C dX9_topRank_25 rfl rfl ?_
      refine g_if_eq C 43 dX9_topRank_26 rfl hw (fun hw => ?_) (fun hw => ?_)
      · refine g_iconst C ⟨by decide, by decide⟩ dX9_topRank_43 ?_
        exact g_iret C hr dX9_topRank_44 ⟨_, rfl, hw⟩
      · refine g_aload_n C dX9_topRank_29 rfl (by decide) rfl ?_
        refine gw_X9_19 C dX9_topRank_30 kdC_46 wwC_46_11 ?_
        refine g_aload_n C dX9_topRank_33 rfl (by decide) rfl ?_
        refine gf_X9_283 C dX9_topRank_34 kdC_46 (fun z34 => ?_)
        refine g_iconst C ⟨by decide, by decide⟩ dX9_topRank_37 ?_
        refine g_isub C dX9_topRank_38 ?_
        obtain ⟨⟨b3, b3b⟩, hw⟩ := hw
        refine g_iaload C dX9_topRank_39 kdC_48 b3 b3b (fun z39 => ?_)
        refine g_goto C 44 dX9_topRank_40 rfl ?_
        exact g_iret C hr dX9_topRank_44 ⟨_, rfl, hw⟩
set_option maxRecDepth 20000 in
set_option maxHeartbeats 4000000 in
theorem sim_X9_release {z : Mz} {l : Launch} {p1 : Int} {h : Mh} {K : Mh → Prop} (hw : wp_X9_release p1 h K) : mCal (XC z) l yX9_release cX9_release 2 none 1 22 [(2, 46), (0, p1)] h (mKv K) := by
  refine m_entry RX9 rfl (by decide) rfl (fun p e s m args below meth c C hr => ?_)
  have hQ : ∀ x, Lfp (F_X9_release p1 K) x → (match x.1, x.2.1 with | 0, [] => mG (XC z) p l e { frames := 1, cells := 0, slots := 0, locals := 22 } s m args below meth c 2 (mMQ (XC z) (mKv K) below args s) 0 [(0, (2, 46)), (1, (0, p1))] [] x.2.2 | _, _ => True) := by
    intro x hx
    refine Lfp.ind (fun x => (match x.1, x.2.1 with | 0, [] => mG (XC z) p l e { frames := 1, cells := 0, slots := 0, locals := 22 } s m args below meth c 2 (mMQ (XC z) (mKv K) below args s) 0 [(0, (2, 46)), (1, (0, p1))] [] x.2.2 | _, _ => True)) ?_ hx
    clear hx x
    intro Z x hQ hw
    rcases hw with ⟨h, rfl, hw⟩
    · show mG (XC z) p l e { frames := 1, cells := 0, slots := 0, locals := 22 } s m args below meth c 2 (mMQ (XC z) (mKv K) below args s) 0 [(0, (2, 46)), (1, (0, p1))] [] h
      unfold B_X9_release_0 at hw
      refine g_aload_n C dX9_release_0 rfl (by decide) rfl ?_
      refine gf_X9_283 C dX9_release_1 kdC_46 (fun z1 => ?_)
      refine g_if_le C 60 dX9_release_4 rfl hw (fun hw => ?_) (fun hw => ?_)
      · exact g_vret C hr dX9_release_60 ⟨rfl, hw⟩
      · refine g_aload_n C dX9_release_7 rfl (by decide) rfl ?_
        refine gf_X9_283 C dX9_release_8 kdC_46 (fun z8 => ?_)
        refine g_aload_n C dX9_release_11 rfl (by decide) rfl ?_
        refine gw_X9_15 C dX9_release_12 kdC_46 wwC_46_10 ?_
        refine g_alen C dX9_release_15 (ci := 14) (by decide) skC_47 (by decide) ?_
        refine g_icmp_gt C 60 dX9_release_16 rfl hw (fun hw => ?_) (fun hw => ?_)
        · exact g_vret C hr dX9_release_60 ⟨rfl, hw⟩
        · refine g_aload_n C dX9_release_19 rfl (by decide) rfl ?_
          refine g_callVi C [] (sim_X9_topRank hw) k_918 k_920 k_29 k_140 k_921 hdV_X9_topRank rfl rfl (by decide) rfl kdC_46 rfl rfl rfl dX9_release_20 ?_
          intro x1 h1 hw
          refine g_iload_n C dX9_release_23 rfl rfl ?_
          refine g_icmp_lt C 60 dX9_release_24 rfl hw (fun hw => ?_) (fun hw => ?_)
          · exact g_vret C hr dX9_release_60 ⟨rfl, hw⟩
          · refine g_aload_n C dX9_release_27 rfl (by decide) rfl ?_
            refine g_dup C (by show ¬ (2 : Nat) = 1; decide) dX9_release_28 ?_
            refine gf_X9_283 C dX9_release_29 kdC_46 (fun z29 => ?_)
            refine g_iconst C ⟨by decide, by decide⟩ dX9_release_32 ?_
            refine g_isub C dX9_release_33 ?_
            refine gp_X9_283 C dX9_release_34 kdC_46 (fun z => z) ?_
            refine g_heap (fun h2 eh2 => ?_)
            replace hw := hw h2 eh2
            refine g_aload_n C dX9_release_37 rfl (by decide) rfl ?_
            refine gf_X9_31 C dX9_release_38 kdC_46 (fun z38 => ?_)
            obtain ⟨q2, hw⟩ := hw
            refine gw_X9_274 C dX9_release_41 q2 (wir_4_15 wirC q2) ?_
            refine g_aload_n C dX9_release_44 rfl (by decide) rfl ?_
            refine gw_X9_15 C dX9_release_45 kdC_46 wwC_46_10 ?_
            refine g_aload_n C dX9_release_48 rfl (by decide) rfl ?_
            refine gf_X9_283 C dX9_release_49 kdC_46 (fun z49 => ?_)
            obtain ⟨⟨b2, b2b⟩, hw⟩ := hw
            refine g_iaload C dX9_release_52 kdC_47 b2 b2b (fun z52 => ?_)
            refine g_iconst C ⟨by decide, by decide⟩ dX9_release_53 ?_
            refine g_callVv C [(0, (h2 47 (h2 46 12))), (0, 0)] (sim_X3_add wirC (kid_4_15 wirC q2) hw) k_922 k_923 k_924 k_139 k_925 hdV_X3_add rfl rfl (by decide) rfl (kid_4_15 wirC q2) rfl rfl rfl dX9_release_54 ?_
            intro h3 hw
            refine g_goto C 0 dX9_release_57 rfl ?_
            exact g_sub [0, 1] rfl (hQ _ hw)
  show mG _ p l e _ s m args below meth c _ _ 0 [(0, (2, 46)), (1, (0, p1))] [] h
  unfold wp_X9_release at hw
  replace hw := id hw
  refine g_aload_n C dX9_release_0 rfl (by decide) rfl ?_
  refine gf_X9_283 C dX9_release_1 kdC_46 (fun z1 => ?_)
  refine g_if_le C 60 dX9_release_4 rfl hw (fun hw => ?_) (fun hw => ?_)
  · exact g_vret C hr dX9_release_60 ⟨rfl, hw⟩
  · refine g_aload_n C dX9_release_7 rfl (by decide) rfl ?_
    refine gf_X9_283 C dX9_release_8 kdC_46 (fun z8 => ?_)
    refine g_aload_n C dX9_release_11 rfl (by decide) rfl ?_
    refine gw_X9_15 C dX9_release_12 kdC_46 wwC_46_10 ?_
    refine g_alen C dX9_release_15 (ci := 14) (by decide) skC_47 (by decide) ?_
    refine g_icmp_gt C 60 dX9_release_16 rfl hw (fun hw => ?_) (fun hw => ?_)
    · exact g_vret C hr dX9_release_60 ⟨rfl, hw⟩
    · refine g_aload_n C dX9_release_19 rfl (by decide) rfl ?_
      refine g_callVi C [] (sim_X9_topRank hw) k_918 k_920 k_29 k_140 k_921 hdV_X9_topRank rfl rfl (by decide) rfl kdC_46 rfl rfl rfl dX9_release_20 ?_
      intro x1 h1 hw
      refine g_iload_n C dX9_release_23 rfl rfl ?_
      refine g_icmp_lt C 60 dX9_release_24 rfl hw (fun hw => ?_) (fun hw => ?_)
      · exact g_vret C hr dX9_release_60 ⟨rfl, hw⟩
      · refine g_aload_n C dX9_release_27 rfl (by decide) rfl ?_
        refine g_dup C (by show ¬ (2 : Nat) = 1; decide) dX9_release_28 ?_
        refine gf_X9_283 C dX9_release_29 kdC_46 (fun z29 => ?_)
        refine g_iconst C ⟨by decide, by decide⟩ dX9_release_32 ?_
        refine g_isub C dX9_release_33 ?_
        refine gp_X9_283 C dX9_release_34 kdC_46 (fun z => z) ?_
        refine g_heap (fun h2 eh2 => ?_)
        replace hw := hw h2 eh2
        refine g_aload_n C dX9_release_37 rfl (by decide) rfl ?_
        refine gf_X9_31 C dX9_release_38 kdC_46 (fun z38 => ?_)
        obtain ⟨q1, hw⟩ := hw
        refine gw_X9_274 C dX9_release_41 q1 (wir_4_15 wirC q1) ?_
        refine g_aload_n C dX9_release_44 rfl (by decide) rfl ?_
        refine gw_X9_15 C dX9_release_45 kdC_46 wwC_46_10 ?_
        refine g_aload_n C dX9_release_48 rfl (by decide) rfl ?_
        refine gf_X9_283 C dX9_release_49 kdC_46 (fun z49 => ?_)
        obtain ⟨⟨b1, b1b⟩, hw⟩ := hw
        refine g_iaload C dX9_release_52 kdC_47 b1 b1b (fun z52 => ?_)
        refine g_iconst C ⟨by decide, by decide⟩ dX9_release_53 ?_
        refine g_callVv C [(0, (h2 47 (h2 46 12))), (0, 0)] (sim_X3_add wirC (kid_4_15 wirC q1) hw) k_922 k_923 k_924 k_139 k_925 hdV_X3_add rfl rfl (by decide) rfl (kid_4_15 wirC q1) rfl rfl rfl dX9_release_54 ?_
        intro h3 hw
        refine g_goto C 0 dX9_release_57 rfl ?_
        exact g_sub [0, 1] rfl (hQ _ hw)
set_option maxRecDepth 20000 in
set_option maxHeartbeats 4000000 in
theorem sim_X9_readClose {z : Mz} {l : Launch} {h : Mh} {K : Int → Mh → Prop} (hw : wp_X9_readClose h K) : mCal (XC z) l yX9_readClose cX9_readClose 1 (some Jvm.ClassFile.FieldType.boolean) 2 43 [(2, 46)] h (mKz K) := by
  refine m_entry RX9 rfl (by decide) rfl (fun p e s m args below meth c C hr => ?_)
  show mG _ p l e _ s m args below meth c _ _ 0 [(0, (2, 46))] [] h
  unfold wp_X9_readClose at hw
  refine g_aload_n C dX9_readClose_0 rfl (by decide) rfl ?_
  refine gf_X9_286 C dX9_readClose_1 kdC_46 (fun z1 => ?_)
  refine g_if_gt C 13 dX9_readClose_4 rfl hw (fun hw => ?_) (fun hw => ?_)
  · refine g_aload_n C dX9_readClose_13 rfl (by decide) rfl ?_
    refine g_iconst C ⟨by decide, by decide⟩ dX9_readClose_14 ?_
    refine g_callVv C [(0, 1)] (sim_X9_release hw) k_914 k_916 k_28 k_140 k_917 hdV_X9_release rfl rfl (by decide) rfl kdC_46 rfl rfl rfl dX9_readClose_15 ?_
    intro h1 hw
    refine g_aload_n C dX9_readClose_18 rfl (by decide) rfl ?_
    refine g_dup C (by show ¬ (2 : Nat) = 1; decide) dX9_readClose_19 ?_
    refine gf_X9_286 C dX9_readClose_20 kdC_46 (fun z20 => ?_)
    refine g_iconst C ⟨by decide, by decide⟩ dX9_readClose_23 ?_
    refine g_isub C dX9_readClose_24 ?_
    refine gp_X9_286 C dX9_readClose_25 kdC_46 (fun z => z) ?_
    refine g_heap (fun h2 eh2 => ?_)
    replace hw := hw h2 eh2
    refine g_aload_n C dX9_readClose_28 rfl (by decide) rfl ?_
    refine g_aload_n C dX9_readClose_29 rfl (by decide) rfl ?_
    refine gf_X9_283 C dX9_readClose_30 kdC_46 (fun z30 => ?_)
    refine g_iconst C ⟨by decide, by decide⟩ dX9_readClose_33 ?_
    refine g_isub C dX9_readClose_34 ?_
    refine g_iconst C ⟨by decide, by decide⟩ dX9_readClose_35 ?_
    refine g_mmax C k_885 k_179 k_137 k_180 rfl rfl rfl dX9_readClose_36 ?_
    refine gp_X9_283 C dX9_readClose_39 kdC_46 (fun z => z) ?_
    refine g_heap (fun h3 eh3 => ?_)
    replace hw := hw h3 eh3
    refine g_iconst C ⟨by decide, by decide⟩ dX9_readClose_42 ?_
    exact g_zret C hr (Or.inr rfl) dX9_readClose_43 ⟨_, rfl, (Or.inr rfl), hw⟩
  · refine g_aload_n C dX9_readClose_7 rfl (by decide) rfl ?_
    refine g_iconst C ⟨by decide, by decide⟩ dX9_readClose_8 ?_
    refine g_callVz C [(0, 1)] (sim_X9_refuse hw) k_766 k_768 k_7 k_140 k_769 hdV_X9_refuse rfl rfl (by decide) rfl kdC_46 rfl rfl rfl dX9_readClose_9 ?_
    intro x1 h4 zb9 hw
    exact g_zret C hr zb9 dX9_readClose_12 ⟨_, rfl, zb9, hw⟩
set_option maxRecDepth 20000 in
set_option maxHeartbeats 4000000 in
theorem sim_X9_readDrop {z : Mz} {l : Launch} {h : Mh} {K : Int → Mh → Prop} (hw : wp_X9_readDrop h K) : mCal (XC z) l yX9_readDrop cX9_readDrop 4 (some Jvm.ClassFile.FieldType.boolean) 4 91 [(2, 46)] h (mKz K) := by
  refine m_entry RX9 rfl (by decide) rfl (fun p e s m args below meth c C hr => ?_)
  show mG _ p l e _ s m args below meth c _ _ 0 [(0, (2, 46))] [] h
  unfold wp_X9_readDrop at hw
  refine g_aload_n C dX9_readDrop_0 rfl (by decide) rfl ?_
  refine g_aload_n C dX9_readDrop_1 rfl (by decide) rfl ?_
  refine gf_X9_31 C dX9_readDrop_2 kdC_46 (fun z2 => ?_)
  obtain ⟨q1, hw⟩ := hw
  refine gw_X9_237 C dX9_readDrop_5 q1 (wir_4_14 wirC q1) ?_
  refine g_callVz C [] (sim_X1_isFull wirC (kid_4_14 wirC q1) hw) k_872 k_873 k_874 k_138 k_875 hdV_X1_isFull rfl rfl (by decide) rfl (kid_4_14 wirC q1) rfl rfl rfl dX9_readDrop_8 ?_
  intro x1 h1 zb8 hw
  refine g_callVz C [(0, x1)] (sim_X9_beginCells hw) k_797 k_799 k_11 k_140 k_800 hdV_X9_beginCells rfl rfl (by decide) rfl kdC_46 rfl rfl rfl dX9_readDrop_11 ?_
  intro x2 h2 zb11 hw
  refine g_if_ne C 19 dX9_readDrop_14 rfl hw (fun hw => ?_) (fun hw => ?_)
  · refine g_aload_n C dX9_readDrop_19 rfl (by decide) rfl ?_
    refine gw_X9_27 C dX9_readDrop_20 kdC_46 wwC_46_0 ?_
    refine gf_X9_66 C dX9_readDrop_23 kdC_49 (fun z23 => ?_)
    refine g_iconst C ⟨by decide, by decide⟩ dX9_readDrop_26 ?_
    refine g_icmp_eq C 36 dX9_readDrop_27 rfl hw (fun hw => ?_) (fun hw => ?_)
    · refine g_aload_n C dX9_readDrop_36 rfl (by decide) rfl ?_
      refine gf_X9_31 C dX9_readDrop_37 kdC_46 (fun z37 => ?_)
      obtain ⟨q2, hw⟩ := hw
      refine gw_X9_210 C dX9_readDrop_40 q2 (wir_4_7 wirC q2) ?_
      refine g_aload_n C dX9_readDrop_43 rfl (by decide) rfl ?_
      refine gw_X9_27 C dX9_readDrop_44 kdC_46 wwC_46_0 ?_
      refine gf_X9_89 C dX9_readDrop_47 kdC_49 (fun z47 => ?_)
      refine g_callVi C [(0, (h2 49 10))] (sim_X7_indexOf wirC (kid_4_7 wirC q2) hw) k_846 k_847 k_848 k_136 k_849 hdV_X7_indexOf rfl rfl (by decide) rfl (kid_4_7 wirC q2) rfl rfl rfl dX9_readDrop_50 ?_
      intro x3 h3 hw
      refine g_istore_n C dX9_readDrop_53 rfl (by decide) ?_
      refine g_iload_n C dX9_readDrop_54 rfl rfl ?_
      refine g_if_ge C 64 dX9_readDrop_55 rfl hw (fun hw => ?_) (fun hw => ?_)
      · refine g_aload_n C dX9_readDrop_64 rfl (by decide) rfl ?_
        refine gw_X9_27 C dX9_readDrop_65 kdC_46 wwC_46_0 ?_
        refine g_callVv C [] (sim_X10_advance hw) k_782 k_758 k_759 k_141 k_760 hdV_X10_advance rfl rfl (by decide) rfl kdC_49 rfl rfl rfl dX9_readDrop_68 ?_
        intro h4 hw
        refine g_aload_n C dX9_readDrop_71 rfl (by decide) rfl ?_
        refine g_aload_n C dX9_readDrop_72 rfl (by decide) rfl ?_
        refine gf_X9_31 C dX9_readDrop_73 kdC_46 (fun z73 => ?_)
        obtain ⟨q3, hw⟩ := hw
        refine gf_X9_187 C dX9_readDrop_76 q3 (fun z76 => ?_)
        refine g_callVi C [(1, (h4 (h4 46 1) 2))] (sim_X9_readCell hw) k_813 k_815 k_12 k_140 k_816 hdV_X9_readCell rfl rfl (by decide) rfl kdC_46 rfl rfl rfl dX9_readDrop_79 ?_
        intro x4 h5 hw
        refine g_istore_n C dX9_readDrop_82 rfl (by decide) ?_
        refine g_iload_n C dX9_readDrop_83 rfl rfl ?_
        refine g_if_ge C 91 dX9_readDrop_84 rfl hw (fun hw => ?_) (fun hw => ?_)
        · refine g_aload_n C dX9_readDrop_91 rfl (by decide) rfl ?_
          refine g_iconst C ⟨by decide, by decide⟩ dX9_readDrop_92 ?_
          refine g_bipush C ⟨by decide, by decide⟩ (by decide) dX9_readDrop_93 ?_
          refine g_callVi C [(0, 0), (0, 99)] (sim_X9_readNumber hw) k_783 k_785 k_9 k_140 k_786 hdV_X9_readNumber rfl rfl (by decide) rfl kdC_46 rfl rfl rfl dX9_readDrop_95 ?_
          intro x5 h6 hw
          refine g_istore_n C dX9_readDrop_98 rfl (by decide) ?_
          refine g_iload_n C dX9_readDrop_99 rfl rfl ?_
          refine g_if_ge C 105 dX9_readDrop_100 rfl hw (fun hw => ?_) (fun hw => ?_)
          · refine g_aload_n C dX9_readDrop_105 rfl (by decide) rfl ?_
            refine gf_X9_31 C dX9_readDrop_106 kdC_46 (fun z106 => ?_)
            obtain ⟨q4, hw⟩ := hw
            refine gw_X9_237 C dX9_readDrop_109 q4 (wir_4_14 wirC q4) ?_
            refine g_iload_n C dX9_readDrop_112 rfl rfl ?_
            refine g_iload_n C dX9_readDrop_113 rfl rfl ?_
            refine g_iload_n C dX9_readDrop_114 rfl rfl ?_
            refine g_callVv C [(0, x3), (0, x4), (0, x5)] (sim_X1_add wirC (kid_4_14 wirC q4) hw) k_876 k_491 k_492 k_138 k_493 hdV_X1_add rfl rfl (by decide) rfl (kid_4_14 wirC q4) rfl rfl rfl dX9_readDrop_115 ?_
            intro h7 hw
            refine g_iconst C ⟨by decide, by decide⟩ dX9_readDrop_118 ?_
            exact g_zret C hr (Or.inr rfl) dX9_readDrop_119 ⟨_, rfl, (Or.inr rfl), hw⟩
          · refine g_iconst C ⟨by decide, by decide⟩ dX9_readDrop_103 ?_
            exact g_zret C hr (Or.inl rfl) dX9_readDrop_104 ⟨_, rfl, (Or.inl rfl), hw⟩
        · refine g_iconst C ⟨by decide, by decide⟩ dX9_readDrop_87 ?_
          refine g_goto C 98 dX9_readDrop_88 rfl ?_
          refine g_istore_n C dX9_readDrop_98 rfl (by decide) ?_
          refine g_iload_n C dX9_readDrop_99 rfl rfl ?_
          refine g_if_ge C 105 dX9_readDrop_100 rfl hw (fun hw => ?_) (fun hw => ?_)
          · refine g_aload_n C dX9_readDrop_105 rfl (by decide) rfl ?_
            refine gf_X9_31 C dX9_readDrop_106 kdC_46 (fun z106 => ?_)
            obtain ⟨q5, hw⟩ := hw
            refine gw_X9_237 C dX9_readDrop_109 q5 (wir_4_14 wirC q5) ?_
            refine g_iload_n C dX9_readDrop_112 rfl rfl ?_
            refine g_iload_n C dX9_readDrop_113 rfl rfl ?_
            refine g_iload_n C dX9_readDrop_114 rfl rfl ?_
            refine g_callVv C [(0, x3), (0, x4), (0, (-1))] (sim_X1_add wirC (kid_4_14 wirC q5) hw) k_876 k_491 k_492 k_138 k_493 hdV_X1_add rfl rfl (by decide) rfl (kid_4_14 wirC q5) rfl rfl rfl dX9_readDrop_115 ?_
            intro h8 hw
            refine g_iconst C ⟨by decide, by decide⟩ dX9_readDrop_118 ?_
            exact g_zret C hr (Or.inr rfl) dX9_readDrop_119 ⟨_, rfl, (Or.inr rfl), hw⟩
          · refine g_iconst C ⟨by decide, by decide⟩ dX9_readDrop_103 ?_
            exact g_zret C hr (Or.inl rfl) dX9_readDrop_104 ⟨_, rfl, (Or.inl rfl), hw⟩
      · refine g_aload_n C dX9_readDrop_58 rfl (by decide) rfl ?_
        refine g_iconst C ⟨by decide, by decide⟩ dX9_readDrop_59 ?_
        refine g_callVz C [(0, 4)] (sim_X9_refuse hw) k_766 k_768 k_7 k_140 k_769 hdV_X9_refuse rfl rfl (by decide) rfl kdC_46 rfl rfl rfl dX9_readDrop_60 ?_
        intro x6 h9 zb60 hw
        exact g_zret C hr zb60 dX9_readDrop_63 ⟨_, rfl, zb60, hw⟩
    · refine g_aload_n C dX9_readDrop_30 rfl (by decide) rfl ?_
      refine g_iconst C ⟨by decide, by decide⟩ dX9_readDrop_31 ?_
      refine g_callVz C [(0, 1)] (sim_X9_refuse hw) k_766 k_768 k_7 k_140 k_769 hdV_X9_refuse rfl rfl (by decide) rfl kdC_46 rfl rfl rfl dX9_readDrop_32 ?_
      intro x7 h10 zb32 hw
      exact g_zret C hr zb32 dX9_readDrop_35 ⟨_, rfl, zb32, hw⟩
  · refine g_iconst C ⟨by decide, by decide⟩ dX9_readDrop_17 ?_
    exact g_zret C hr (Or.inl rfl) dX9_readDrop_18 ⟨_, rfl, (Or.inl rfl), hw⟩
set_option maxRecDepth 20000 in
set_option maxHeartbeats 4000000 in
theorem sim_X9_readLand {z : Mz} {l : Launch} {h : Mh} {K : Int → Mh → Prop} (hw : wp_X9_readLand h K) : mCal (XC z) l yX9_readLand cX9_readLand 2 (some Jvm.ClassFile.FieldType.boolean) 4 91 [(2, 46)] h (mKz K) := by
  refine m_entry RX9 rfl (by decide) rfl (fun p e s m args below meth c C hr => ?_)
  have hQ : ∀ x, Lfp (F_X9_readLand K) x → (match x.1, x.2.1 with | 21, [s0, s1] => mG (XC z) p l e { frames := 4, cells := 0, slots := 0, locals := 91 } s m args below meth c 2 (mMQ (XC z) (mKz K) below args s) 21 [(0, (2, 46))] [(0, s1), (2, s0)] x.2.2 | _, _ => True) := by
    intro x hx
    refine Lfp.ind (fun x => (match x.1, x.2.1 with | 21, [s0, s1] => mG (XC z) p l e { frames := 4, cells := 0, slots := 0, locals := 91 } s m args below meth c 2 (mMQ (XC z) (mKz K) below args s) 21 [(0, (2, 46))] [(0, s1), (2, s0)] x.2.2 | _, _ => True)) ?_ hx
    clear hx x
    intro Z x hQ hw
    rcases hw with ⟨s0, s1, h, rfl, hw⟩
    · show mG (XC z) p l e { frames := 4, cells := 0, slots := 0, locals := 91 } s m args below meth c 2 (mMQ (XC z) (mKz K) below args s) 21 [(0, (2, 46))] [(0, s1), (2, s0)] h
      unfold B_X9_readLand_21 at hw
      obtain ⟨q2, hw⟩ := hw
      refine g_callVz C [(0, s1)] (sim_X9_beginCells hw) k_797 k_799 k_11 k_140 k_800 hdV_X9_beginCells rfl rfl (by decide) rfl q2 rfl rfl rfl dX9_readLand_21 ?_
      intro x1 h1 zb21 hw
      refine g_if_ne C 29 dX9_readLand_24 rfl hw (fun hw => ?_) (fun hw => ?_)
      · refine g_aload_n C dX9_readLand_29 rfl (by decide) rfl ?_
        refine g_aload_n C dX9_readLand_30 rfl (by decide) rfl ?_
        refine gf_X9_31 C dX9_readLand_31 kdC_46 (fun z31 => ?_)
        obtain ⟨q3, hw⟩ := hw
        refine gf_X9_187 C dX9_readLand_34 q3 (fun z34 => ?_)
        refine g_aload_n C dX9_readLand_37 rfl (by decide) rfl ?_
        refine gf_X9_31 C dX9_readLand_38 kdC_46 (fun z38 => ?_)
        refine g_callVl C [] (sim_X5_usedCells wirC q3 hw) k_801 k_802 k_803 k_135 k_804 hdV_X5_usedCells rfl rfl (by decide) rfl q3 rfl rfl rfl dX9_readLand_41 ?_
        intro x2 h2 hw
        refine g_lor C dX9_readLand_44 ?_
        refine g_callVi C [(1, j_lor (h1 (h1 46 1) 2) x2)] (sim_X9_readCell hw) k_813 k_815 k_12 k_140 k_816 hdV_X9_readCell rfl rfl (by decide) rfl kdC_46 rfl rfl rfl dX9_readLand_45 ?_
        intro x3 h3 hw
        refine g_istore_n C dX9_readLand_48 rfl (by decide) ?_
        refine g_iload_n C dX9_readLand_49 rfl rfl ?_
        refine g_if_ge C 55 dX9_readLand_50 rfl hw (fun hw => ?_) (fun hw => ?_)
        · refine g_aload_n C dX9_readLand_55 rfl (by decide) rfl ?_
          refine gf_X9_31 C dX9_readLand_56 kdC_46 (fun z56 => ?_)
          refine g_dup C (by show ¬ (2 : Nat) = 1; decide) dX9_readLand_59 ?_
          obtain ⟨q4, hw⟩ := hw
          refine gf_X9_187 C dX9_readLand_60 q4 (fun z60 => ?_)
          refine g_lconst C 1 (Or.inr rfl) rfl dX9_readLand_63 ?_
          refine g_iload_n C dX9_readLand_64 rfl rfl ?_
          refine g_lshl C dX9_readLand_65 ?_
          refine g_lor C dX9_readLand_66 ?_
          refine gp_X9_187 C dX9_readLand_67 q4 (fun z => z) ?_
          refine g_heap (fun h4 eh4 => ?_)
          replace hw := hw h4 eh4
          refine g_iconst C ⟨by decide, by decide⟩ dX9_readLand_70 ?_
          exact g_zret C hr (Or.inr rfl) dX9_readLand_71 ⟨_, rfl, (Or.inr rfl), hw⟩
        · refine g_iconst C ⟨by decide, by decide⟩ dX9_readLand_53 ?_
          exact g_zret C hr (Or.inl rfl) dX9_readLand_54 ⟨_, rfl, (Or.inl rfl), hw⟩
      · refine g_iconst C ⟨by decide, by decide⟩ dX9_readLand_27 ?_
        exact g_zret C hr (Or.inl rfl) dX9_readLand_28 ⟨_, rfl, (Or.inl rfl), hw⟩
  show mG _ p l e _ s m args below meth c _ _ 0 [(0, (2, 46))] [] h
  unfold wp_X9_readLand at hw
  replace hw := id hw
  refine g_aload_n C dX9_readLand_0 rfl (by decide) rfl ?_
  refine g_aload_n C dX9_readLand_1 rfl (by decide) rfl ?_
  refine gf_X9_31 C dX9_readLand_2 kdC_46 (fun z2 => ?_)
  obtain ⟨q1, hw⟩ := hw
  refine gf_X9_187 C dX9_readLand_5 q1 (fun z5 => ?_)
  refine g_callSi C [(1, (h (h 46 1) 2))] (sim_J13_bitCount_95d88 hw) k_791 k_792 k_151 k_793 hdS_J13_bitCount_95d88 rfl rfl rfl rfl rfl dX9_readLand_8 ?_
  intro x1 h1 hw
  refine g_bipush C ⟨by decide, by decide⟩ (by decide) dX9_readLand_11 ?_
  refine g_icmp_lt C 20 dX9_readLand_13 rfl hw (fun hw => ?_) (fun hw => ?_)
  · refine g_iconst C ⟨by decide, by decide⟩ dX9_readLand_20 ?_
    exact g_sub [0] rfl (hQ _ hw)
  · refine g_iconst C ⟨by decide, by decide⟩ dX9_readLand_16 ?_
    refine g_goto C 21 dX9_readLand_17 rfl ?_
    exact g_sub [0] rfl (hQ _ hw)
set_option maxRecDepth 20000 in
set_option maxHeartbeats 4000000 in
theorem sim_X9_readLeaf {z : Mz} {l : Launch} {p1 : Int} {h : Mh} {K : Int → Mh → Prop} (hw : wp_X9_readLeaf p1 h K) : mCal (XC z) l yX9_readLeaf cX9_readLeaf 2 (some Jvm.ClassFile.FieldType.boolean) 2 41 [(2, 46), (0, p1)] h (mKz K) := by
  refine m_entry RX9 rfl (by decide) rfl (fun p e s m args below meth c C hr => ?_)
  show mG _ p l e _ s m args below meth c _ _ 0 [(0, (2, 46)), (1, (0, p1))] [] h
  unfold wp_X9_readLeaf at hw
  refine g_aload_n C dX9_readLeaf_0 rfl (by decide) rfl ?_
  refine g_callVz C [] (sim_X9_isRoomForKnot hw) k_933 k_935 k_31 k_140 k_936 hdV_X9_isRoomForKnot rfl rfl (by decide) rfl kdC_46 rfl rfl rfl dX9_readLeaf_1 ?_
  intro x1 h1 zb1 hw
  refine g_if_ne C 9 dX9_readLeaf_4 rfl hw (fun hw => ?_) (fun hw => ?_)
  · refine g_aload_n C dX9_readLeaf_9 rfl (by decide) rfl ?_
    refine gf_X9_31 C dX9_readLeaf_10 kdC_46 (fun z10 => ?_)
    obtain ⟨q1, hw⟩ := hw
    refine gw_X9_274 C dX9_readLeaf_13 q1 (wir_4_15 wirC q1) ?_
    refine g_iload_n C dX9_readLeaf_16 rfl rfl ?_
    refine g_aload_n C dX9_readLeaf_17 rfl (by decide) rfl ?_
    refine gw_X9_27 C dX9_readLeaf_18 kdC_46 wwC_46_0 ?_
    refine gf_X9_89 C dX9_readLeaf_21 kdC_49 (fun z21 => ?_)
    refine g_callVv C [(0, p1), (0, (h1 49 10))] (sim_X3_add wirC (kid_4_15 wirC q1) hw) k_922 k_923 k_924 k_139 k_925 hdV_X3_add rfl rfl (by decide) rfl (kid_4_15 wirC q1) rfl rfl rfl dX9_readLeaf_24 ?_
    intro h2 hw
    refine g_aload_n C dX9_readLeaf_27 rfl (by decide) rfl ?_
    refine g_iconst C ⟨by decide, by decide⟩ dX9_readLeaf_28 ?_
    refine gp_X9_292 C dX9_readLeaf_29 kdC_46 (fun _ => (Or.inr rfl)) ?_
    refine g_heap (fun h3 eh3 => ?_)
    replace hw := hw h3 eh3
    refine g_iconst C ⟨by decide, by decide⟩ dX9_readLeaf_32 ?_
    exact g_zret C hr (Or.inr rfl) dX9_readLeaf_33 ⟨_, rfl, (Or.inr rfl), hw⟩
  · refine g_iconst C ⟨by decide, by decide⟩ dX9_readLeaf_7 ?_
    exact g_zret C hr (Or.inl rfl) dX9_readLeaf_8 ⟨_, rfl, (Or.inl rfl), hw⟩
set_option maxRecDepth 20000 in
set_option maxHeartbeats 4000000 in
theorem sim_X9_readOnce {z : Mz} {l : Launch} {p1 : Int} {p2 : Int} {h : Mh} {K : Int → Mh → Prop} (hw : wp_X9_readOnce p1 p2 h K) : mCal (XC z) l yX9_readOnce cX9_readOnce 3 (some Jvm.ClassFile.FieldType.int) 3 65 [(2, 46), (0, p1), (0, p2)] h (mKi K) := by
  refine m_entry RX9 rfl (by decide) rfl (fun p e s m args below meth c C hr => ?_)
  show mG _ p l e _ s m args below meth c _ _ 0 [(0, (2, 46)), (1, (0, p1)), (2, (0, p2))] [] h
  unfold wp_X9_readOnce at hw
  refine g_iload_n C dX9_readOnce_0 rfl rfl ?_
  refine g_if_eq C 12 dX9_readOnce_1 rfl hw (fun hw => ?_) (fun hw => ?_)
  · refine g_aload_n C dX9_readOnce_12 rfl (by decide) rfl ?_
    refine gw_X9_27 C dX9_readOnce_13 kdC_46 wwC_46_0 ?_
    refine g_callVv C [] (sim_X10_advance hw) k_782 k_758 k_759 k_141 k_760 hdV_X10_advance rfl rfl (by decide) rfl kdC_49 rfl rfl rfl dX9_readOnce_16 ?_
    intro h1 hw
    refine g_aload_n C dX9_readOnce_19 rfl (by decide) rfl ?_
    refine g_iconst C ⟨by decide, by decide⟩ dX9_readOnce_20 ?_
    refine g_iload_n C dX9_readOnce_21 rfl rfl ?_
    refine g_callVi C [(0, 0), (0, p2)] (sim_X9_readNumber hw) k_783 k_785 k_9 k_140 k_786 hdV_X9_readNumber rfl rfl (by decide) rfl kdC_46 rfl rfl rfl dX9_readOnce_22 ?_
    intro x1 h2 hw
    exact g_iret C hr dX9_readOnce_25 ⟨_, rfl, hw⟩
  · refine g_aload_n C dX9_readOnce_4 rfl (by decide) rfl ?_
    refine g_iconst C ⟨by decide, by decide⟩ dX9_readOnce_5 ?_
    refine g_callVz C [(0, 3)] (sim_X9_refuse hw) k_766 k_768 k_7 k_140 k_769 hdV_X9_refuse rfl rfl (by decide) rfl kdC_46 rfl rfl rfl dX9_readOnce_6 ?_
    intro x2 h3 zb6 hw
    refine g_pop C (by show ¬ (0 : Nat) = 1; decide) dX9_readOnce_9 ?_
    refine g_iconst C ⟨by decide, by decide⟩ dX9_readOnce_10 ?_
    exact g_iret C hr dX9_readOnce_11 ⟨_, rfl, hw⟩
set_option maxRecDepth 20000 in
set_option maxHeartbeats 4000000 in
theorem sim_X9_readLoss {z : Mz} {l : Launch} {h : Mh} {K : Int → Mh → Prop} (hw : wp_X9_readLoss h K) : mCal (XC z) l yX9_readLoss cX9_readLoss 2 (some Jvm.ClassFile.FieldType.boolean) 4 87 [(2, 46)] h (mKz K) := by
  refine m_entry RX9 rfl (by decide) rfl (fun p e s m args below meth c C hr => ?_)
  show mG _ p l e _ s m args below meth c _ _ 0 [(0, (2, 46))] [] h
  unfold wp_X9_readLoss at hw
  refine g_aload_n C dX9_readLoss_0 rfl (by decide) rfl ?_
  refine g_aload_n C dX9_readLoss_1 rfl (by decide) rfl ?_
  refine gf_X9_50 C dX9_readLoss_2 kdC_46 (fun z2 => ?_)
  refine g_bipush C ⟨by decide, by decide⟩ (by decide) dX9_readLoss_5 ?_
  refine g_callVi C [(0, (h 46 6)), (0, 50)] (sim_X9_readOnce hw) k_881 k_883 k_21 k_140 k_884 hdV_X9_readOnce rfl rfl (by decide) rfl kdC_46 rfl rfl rfl dX9_readLoss_7 ?_
  intro x1 h1 hw
  refine g_istore_n C dX9_readLoss_10 rfl (by decide) ?_
  refine g_aload_n C dX9_readLoss_11 rfl (by decide) rfl ?_
  refine g_iconst C ⟨by decide, by decide⟩ dX9_readLoss_12 ?_
  refine gp_X9_50 C dX9_readLoss_13 kdC_46 (fun _ => (Or.inr rfl)) ?_
  refine g_heap (fun h2 eh2 => ?_)
  replace hw := hw h2 eh2
  refine g_aload_n C dX9_readLoss_16 rfl (by decide) rfl ?_
  refine gf_X9_31 C dX9_readLoss_17 kdC_46 (fun z17 => ?_)
  refine g_iload_n C dX9_readLoss_20 rfl rfl ?_
  refine g_iconst C ⟨by decide, by decide⟩ dX9_readLoss_21 ?_
  refine g_mmax C k_885 k_179 k_137 k_180 rfl rfl rfl dX9_readLoss_22 ?_
  obtain ⟨q1, hw⟩ := hw
  refine gp_X9_256 C dX9_readLoss_25 q1 (fun z => z) ?_
  refine g_heap (fun h3 eh3 => ?_)
  replace hw := hw h3 eh3
  refine g_iload_n C dX9_readLoss_28 rfl rfl ?_
  refine g_if_lt C 36 dX9_readLoss_29 rfl hw (fun hw => ?_) (fun hw => ?_)
  · refine g_iconst C ⟨by decide, by decide⟩ dX9_readLoss_36 ?_
    exact g_zret C hr (Or.inl rfl) dX9_readLoss_37 ⟨_, rfl, (Or.inl rfl), hw⟩
  · refine g_iconst C ⟨by decide, by decide⟩ dX9_readLoss_32 ?_
    refine g_goto C 37 dX9_readLoss_33 rfl ?_
    exact g_zret C hr (Or.inr rfl) dX9_readLoss_37 ⟨_, rfl, (Or.inr rfl), hw⟩
set_option maxRecDepth 20000 in
set_option maxHeartbeats 4000000 in
theorem sim_X9_readNewName {z : Mz} {l : Launch} {p1 : Int} {h : Mh} {K : Int → Mh → Prop} (hw : wp_X9_readNewName p1 h K) : mCal (XC z) l yX9_readNewName cX9_readNewName 2 (some Jvm.ClassFile.FieldType.boolean) 2 42 [(2, 46), (2, p1)] h (mKz K) := by
  refine m_entry RX9 rfl (by decide) rfl (fun p e s m args below meth c C hr => ?_)
  show mG _ p l e _ s m args below meth c _ _ 0 [(0, (2, 46)), (1, (2, p1))] [] h
  unfold wp_X9_readNewName at hw
  refine g_aload_n C dX9_readNewName_0 rfl (by decide) rfl ?_
  refine gw_X9_27 C dX9_readNewName_1 kdC_46 wwC_46_0 ?_
  refine gf_X9_66 C dX9_readNewName_4 kdC_49 (fun z4 => ?_)
  refine g_iconst C ⟨by decide, by decide⟩ dX9_readNewName_7 ?_
  refine g_icmp_eq C 17 dX9_readNewName_8 rfl hw (fun hw => ?_) (fun hw => ?_)
  · refine g_aload_n C dX9_readNewName_17 rfl (by decide) rfl ?_
    refine g_aload_n C dX9_readNewName_18 rfl (by decide) rfl ?_
    refine gw_X9_27 C dX9_readNewName_19 kdC_46 wwC_46_0 ?_
    refine gf_X9_89 C dX9_readNewName_22 kdC_49 (fun z22 => ?_)
    obtain ⟨q1, hw⟩ := hw
    refine g_callVi C [(0, (h 49 10))] (sim_X7_indexOf wirC q1 hw) k_846 k_847 k_848 k_136 k_849 hdV_X7_indexOf rfl rfl (by decide) rfl q1 rfl rfl rfl dX9_readNewName_25 ?_
    intro x1 h1 hw
    refine g_if_lt C 37 dX9_readNewName_28 rfl hw (fun hw => ?_) (fun hw => ?_)
    · refine g_aload_n C dX9_readNewName_37 rfl (by decide) rfl ?_
      refine g_aload_n C dX9_readNewName_38 rfl (by decide) rfl ?_
      refine gw_X9_27 C dX9_readNewName_39 kdC_46 wwC_46_0 ?_
      refine gf_X9_89 C dX9_readNewName_42 kdC_49 (fun z42 => ?_)
      refine g_callVv C [(0, (h1 49 10))] (sim_X7_add wirC q1 hw) k_830 k_831 k_832 k_136 k_833 hdV_X7_add rfl rfl (by decide) rfl q1 rfl rfl rfl dX9_readNewName_45 ?_
      intro h2 hw
      refine g_aload_n C dX9_readNewName_48 rfl (by decide) rfl ?_
      refine gw_X9_27 C dX9_readNewName_49 kdC_46 wwC_46_0 ?_
      refine g_callVv C [] (sim_X10_advance hw) k_782 k_758 k_759 k_141 k_760 hdV_X10_advance rfl rfl (by decide) rfl kdC_49 rfl rfl rfl dX9_readNewName_52 ?_
      intro h3 hw
      refine g_iconst C ⟨by decide, by decide⟩ dX9_readNewName_55 ?_
      exact g_zret C hr (Or.inr rfl) dX9_readNewName_56 ⟨_, rfl, (Or.inr rfl), hw⟩
    · refine g_aload_n C dX9_readNewName_31 rfl (by decide) rfl ?_
      refine g_iconst C ⟨by decide, by decide⟩ dX9_readNewName_32 ?_
      refine g_callVz C [(0, 3)] (sim_X9_refuse hw) k_766 k_768 k_7 k_140 k_769 hdV_X9_refuse rfl rfl (by decide) rfl kdC_46 rfl rfl rfl dX9_readNewName_33 ?_
      intro x2 h4 zb33 hw
      exact g_zret C hr zb33 dX9_readNewName_36 ⟨_, rfl, zb33, hw⟩
  · refine g_aload_n C dX9_readNewName_11 rfl (by decide) rfl ?_
    refine g_iconst C ⟨by decide, by decide⟩ dX9_readNewName_12 ?_
    refine g_callVz C [(0, 1)] (sim_X9_refuse hw) k_766 k_768 k_7 k_140 k_769 hdV_X9_refuse rfl rfl (by decide) rfl kdC_46 rfl rfl rfl dX9_readNewName_13 ?_
    intro x3 h5 zb13 hw
    exact g_zret C hr zb13 dX9_readNewName_16 ⟨_, rfl, zb13, hw⟩
set_option maxRecDepth 20000 in
set_option maxHeartbeats 4000000 in
theorem sim_X9_readPlaced {z : Mz} {l : Launch} {p1 : Int} {p2 : Int} {h : Mh} {K : Int → Mh → Prop} (hw : wp_X9_readPlaced p1 p2 h K) : mCal (XC z) l yX9_readPlaced cX9_readPlaced 4 (some Jvm.ClassFile.FieldType.boolean) 4 91 [(2, 46), (2, p1), (2, p2)] h (mKz K) := by
  refine m_entry RX9 rfl (by decide) rfl (fun p e s m args below meth c C hr => ?_)
  show mG _ p l e _ s m args below meth c _ _ 0 [(0, (2, 46)), (1, (2, p1)), (2, (2, p2))] [] h
  unfold wp_X9_readPlaced at hw
  refine g_aload_n C dX9_readPlaced_0 rfl (by decide) rfl ?_
  refine g_aload_n C dX9_readPlaced_1 rfl (by decide) rfl ?_
  obtain ⟨q1, hw⟩ := hw
  refine g_callVz C [] (sim_X7_isFull wirC q1 hw) k_821 k_822 k_823 k_136 k_824 hdV_X7_isFull rfl rfl (by decide) rfl q1 rfl rfl rfl dX9_readPlaced_2 ?_
  intro x1 h1 zb2 hw
  refine g_callVz C [(0, x1)] (sim_X9_beginCells hw) k_797 k_799 k_11 k_140 k_800 hdV_X9_beginCells rfl rfl (by decide) rfl kdC_46 rfl rfl rfl dX9_readPlaced_5 ?_
  intro x2 h2 zb5 hw
  refine g_if_eq C 19 dX9_readPlaced_8 rfl hw (fun hw => ?_) (fun hw => ?_)
  · refine g_iconst C ⟨by decide, by decide⟩ dX9_readPlaced_19 ?_
    exact g_zret C hr (Or.inl rfl) dX9_readPlaced_20 ⟨_, rfl, (Or.inl rfl), hw⟩
  · refine g_aload_n C dX9_readPlaced_11 rfl (by decide) rfl ?_
    refine g_aload_n C dX9_readPlaced_12 rfl (by decide) rfl ?_
    refine g_callVz C [(2, p1)] (sim_X9_readNewName hw) k_842 k_844 k_16 k_140 k_845 hdV_X9_readNewName rfl rfl (by decide) rfl kdC_46 rfl rfl rfl dX9_readPlaced_13 ?_
    intro x3 h3 zb13 hw
    refine g_if_ne C 21 dX9_readPlaced_16 rfl hw (fun hw => ?_) (fun hw => ?_)
    · refine g_aload_n C dX9_readPlaced_21 rfl (by decide) rfl ?_
      refine g_aload_n C dX9_readPlaced_22 rfl (by decide) rfl ?_
      refine gf_X9_31 C dX9_readPlaced_23 kdC_46 (fun z23 => ?_)
      obtain ⟨q2, hw⟩ := hw
      refine gf_X9_187 C dX9_readPlaced_26 q2 (fun z26 => ?_)
      refine g_callVi C [(1, (h3 (h3 46 1) 2))] (sim_X9_readCell hw) k_813 k_815 k_12 k_140 k_816 hdV_X9_readCell rfl rfl (by decide) rfl kdC_46 rfl rfl rfl dX9_readPlaced_29 ?_
      intro x4 h4 hw
      refine g_istore_n C dX9_readPlaced_32 rfl (by decide) ?_
      refine g_iload_n C dX9_readPlaced_33 rfl rfl ?_
      refine g_if_ge C 39 dX9_readPlaced_34 rfl hw (fun hw => ?_) (fun hw => ?_)
      · refine g_aload_n C dX9_readPlaced_39 rfl (by decide) rfl ?_
        refine g_iload_n C dX9_readPlaced_40 rfl rfl ?_
        obtain ⟨q3, hw⟩ := hw
        refine g_callVv C [(0, x4)] (sim_X7_add wirC q3 hw) k_830 k_831 k_832 k_136 k_833 hdV_X7_add rfl rfl (by decide) rfl q3 rfl rfl rfl dX9_readPlaced_41 ?_
        intro h5 hw
        refine g_iconst C ⟨by decide, by decide⟩ dX9_readPlaced_44 ?_
        exact g_zret C hr (Or.inr rfl) dX9_readPlaced_45 ⟨_, rfl, (Or.inr rfl), hw⟩
      · refine g_iconst C ⟨by decide, by decide⟩ dX9_readPlaced_37 ?_
        exact g_zret C hr (Or.inl rfl) dX9_readPlaced_38 ⟨_, rfl, (Or.inl rfl), hw⟩
    · refine g_iconst C ⟨by decide, by decide⟩ dX9_readPlaced_19 ?_
      exact g_zret C hr (Or.inl rfl) dX9_readPlaced_20 ⟨_, rfl, (Or.inl rfl), hw⟩
set_option maxRecDepth 20000 in
set_option maxHeartbeats 4000000 in
theorem sim_X9_readPond {z : Mz} {l : Launch} {h : Mh} {K : Int → Mh → Prop} (hw : wp_X9_readPond h K) : mCal (XC z) l yX9_readPond cX9_readPond 3 (some Jvm.ClassFile.FieldType.boolean) 3 65 [(2, 46)] h (mKz K) := by
  refine m_entry RX9 rfl (by decide) rfl (fun p e s m args below meth c C hr => ?_)
  show mG _ p l e _ s m args below meth c _ _ 0 [(0, (2, 46))] [] h
  unfold wp_X9_readPond at hw
  refine g_aload_n C dX9_readPond_0 rfl (by decide) rfl ?_
  refine gf_X9_46 C dX9_readPond_1 kdC_46 (fun z1 => ?_)
  refine g_if_eq C 13 dX9_readPond_4 rfl hw (fun hw => ?_) (fun hw => ?_)
  · refine g_aload_n C dX9_readPond_13 rfl (by decide) rfl ?_
    refine gf_X9_59 C dX9_readPond_14 kdC_46 (fun z14 => ?_)
    refine g_if_eq C 26 dX9_readPond_17 rfl hw (fun hw => ?_) (fun hw => ?_)
    · refine g_aload_n C dX9_readPond_26 rfl (by decide) rfl ?_
      refine g_iconst C ⟨by decide, by decide⟩ dX9_readPond_27 ?_
      refine gp_X9_46 C dX9_readPond_28 kdC_46 (fun _ => (Or.inr rfl)) ?_
      refine g_heap (fun h1 eh1 => ?_)
      replace hw := hw h1 eh1
      refine g_aload_n C dX9_readPond_31 rfl (by decide) rfl ?_
      refine gw_X9_27 C dX9_readPond_32 kdC_46 wwC_46_0 ?_
      refine g_callVv C [] (sim_X10_advance hw) k_782 k_758 k_759 k_141 k_760 hdV_X10_advance rfl rfl (by decide) rfl kdC_49 rfl rfl rfl dX9_readPond_35 ?_
      intro h2 hw
      refine g_aload_n C dX9_readPond_38 rfl (by decide) rfl ?_
      refine g_iconst C ⟨by decide, by decide⟩ dX9_readPond_39 ?_
      refine g_bipush C ⟨by decide, by decide⟩ (by decide) dX9_readPond_40 ?_
      refine g_callVi C [(0, 1), (0, 8)] (sim_X9_readNumber hw) k_783 k_785 k_9 k_140 k_786 hdV_X9_readNumber rfl rfl (by decide) rfl kdC_46 rfl rfl rfl dX9_readPond_42 ?_
      intro x1 h3 hw
      refine g_istore_n C dX9_readPond_45 rfl (by decide) ?_
      refine g_iload_n C dX9_readPond_46 rfl rfl ?_
      refine g_if_ge C 54 dX9_readPond_47 rfl hw (fun hw => ?_) (fun hw => ?_)
      · refine g_aload_n C dX9_readPond_54 rfl (by decide) rfl ?_
        refine g_iconst C ⟨by decide, by decide⟩ dX9_readPond_55 ?_
        refine g_bipush C ⟨by decide, by decide⟩ (by decide) dX9_readPond_56 ?_
        refine g_callVi C [(0, 1), (0, 6)] (sim_X9_readNumber hw) k_783 k_785 k_9 k_140 k_786 hdV_X9_readNumber rfl rfl (by decide) rfl kdC_46 rfl rfl rfl dX9_readPond_58 ?_
        intro x2 h4 hw
        refine g_istore_n C dX9_readPond_61 rfl (by decide) ?_
        refine g_iload_n C dX9_readPond_62 rfl rfl ?_
        refine g_if_ge C 68 dX9_readPond_63 rfl hw (fun hw => ?_) (fun hw => ?_)
        · refine g_aload_n C dX9_readPond_68 rfl (by decide) rfl ?_
          refine gf_X9_31 C dX9_readPond_69 kdC_46 (fun z69 => ?_)
          refine g_iload_n C dX9_readPond_72 rfl rfl ?_
          obtain ⟨q1, hw⟩ := hw
          refine gp_X9_170 C dX9_readPond_73 q1 (fun z => z) ?_
          refine g_heap (fun h5 eh5 => ?_)
          replace hw := hw h5 eh5
          refine g_aload_n C dX9_readPond_76 rfl (by decide) rfl ?_
          refine gf_X9_31 C dX9_readPond_77 kdC_46 (fun z77 => ?_)
          refine g_iload_n C dX9_readPond_80 rfl rfl ?_
          obtain ⟨q2, hw⟩ := hw
          refine gp_X9_177 C dX9_readPond_81 q2 (fun z => z) ?_
          refine g_heap (fun h6 eh6 => ?_)
          replace hw := hw h6 eh6
          refine g_iconst C ⟨by decide, by decide⟩ dX9_readPond_84 ?_
          exact g_zret C hr (Or.inr rfl) dX9_readPond_85 ⟨_, rfl, (Or.inr rfl), hw⟩
        · refine g_iconst C ⟨by decide, by decide⟩ dX9_readPond_66 ?_
          exact g_zret C hr (Or.inl rfl) dX9_readPond_67 ⟨_, rfl, (Or.inl rfl), hw⟩
      · refine g_iconst C ⟨by decide, by decide⟩ dX9_readPond_50 ?_
        refine g_goto C 61 dX9_readPond_51 rfl ?_
        refine g_istore_n C dX9_readPond_61 rfl (by decide) ?_
        refine g_iload_n C dX9_readPond_62 rfl rfl ?_
        refine g_if_ge C 68 dX9_readPond_63 rfl hw (fun hw => ?_) (fun hw => ?_)
        · refine g_aload_n C dX9_readPond_68 rfl (by decide) rfl ?_
          refine gf_X9_31 C dX9_readPond_69 kdC_46 (fun z69 => ?_)
          refine g_iload_n C dX9_readPond_72 rfl rfl ?_
          obtain ⟨q3, hw⟩ := hw
          refine gp_X9_170 C dX9_readPond_73 q3 (fun z => z) ?_
          refine g_heap (fun h7 eh7 => ?_)
          replace hw := hw h7 eh7
          refine g_aload_n C dX9_readPond_76 rfl (by decide) rfl ?_
          refine gf_X9_31 C dX9_readPond_77 kdC_46 (fun z77 => ?_)
          refine g_iload_n C dX9_readPond_80 rfl rfl ?_
          obtain ⟨q4, hw⟩ := hw
          refine gp_X9_177 C dX9_readPond_81 q4 (fun z => z) ?_
          refine g_heap (fun h8 eh8 => ?_)
          replace hw := hw h8 eh8
          refine g_iconst C ⟨by decide, by decide⟩ dX9_readPond_84 ?_
          exact g_zret C hr (Or.inr rfl) dX9_readPond_85 ⟨_, rfl, (Or.inr rfl), hw⟩
        · refine g_iconst C ⟨by decide, by decide⟩ dX9_readPond_66 ?_
          exact g_zret C hr (Or.inl rfl) dX9_readPond_67 ⟨_, rfl, (Or.inl rfl), hw⟩
    · refine g_aload_n C dX9_readPond_20 rfl (by decide) rfl ?_
      refine g_iconst C ⟨by decide, by decide⟩ dX9_readPond_21 ?_
      refine g_callVz C [(0, 4)] (sim_X9_refuse hw) k_766 k_768 k_7 k_140 k_769 hdV_X9_refuse rfl rfl (by decide) rfl kdC_46 rfl rfl rfl dX9_readPond_22 ?_
      intro x3 h9 zb22 hw
      exact g_zret C hr zb22 dX9_readPond_25 ⟨_, rfl, zb22, hw⟩
  · refine g_aload_n C dX9_readPond_7 rfl (by decide) rfl ?_
    refine g_iconst C ⟨by decide, by decide⟩ dX9_readPond_8 ?_
    refine g_callVz C [(0, 3)] (sim_X9_refuse hw) k_766 k_768 k_7 k_140 k_769 hdV_X9_refuse rfl rfl (by decide) rfl kdC_46 rfl rfl rfl dX9_readPond_9 ?_
    intro x4 h10 zb9 hw
    exact g_zret C hr zb9 dX9_readPond_12 ⟨_, rfl, zb9, hw⟩
set_option maxRecDepth 20000 in
set_option maxHeartbeats 4000000 in
theorem sim_X9_readReed {z : Mz} {l : Launch} {h : Mh} {K : Int → Mh → Prop} (hw : wp_X9_readReed h K) : mCal (XC z) l yX9_readReed cX9_readReed 2 (some Jvm.ClassFile.FieldType.boolean) 4 91 [(2, 46)] h (mKz K) := by
  refine m_entry RX9 rfl (by decide) rfl (fun p e s m args below meth c C hr => ?_)
  have hQ : ∀ x, Lfp (F_X9_readReed K) x → (match x.1, x.2.1 with | 21, [s0, s1] => mG (XC z) p l e { frames := 4, cells := 0, slots := 0, locals := 91 } s m args below meth c 2 (mMQ (XC z) (mKz K) below args s) 21 [(0, (2, 46))] [(0, s1), (2, s0)] x.2.2 | _, _ => True) := by
    intro x hx
    refine Lfp.ind (fun x => (match x.1, x.2.1 with | 21, [s0, s1] => mG (XC z) p l e { frames := 4, cells := 0, slots := 0, locals := 91 } s m args below meth c 2 (mMQ (XC z) (mKz K) below args s) 21 [(0, (2, 46))] [(0, s1), (2, s0)] x.2.2 | _, _ => True)) ?_ hx
    clear hx x
    intro Z x hQ hw
    rcases hw with ⟨s0, s1, h, rfl, hw⟩
    · show mG (XC z) p l e { frames := 4, cells := 0, slots := 0, locals := 91 } s m args below meth c 2 (mMQ (XC z) (mKz K) below args s) 21 [(0, (2, 46))] [(0, s1), (2, s0)] h
      unfold B_X9_readReed_21 at hw
      obtain ⟨q2, hw⟩ := hw
      refine g_callVz C [(0, s1)] (sim_X9_beginCells hw) k_797 k_799 k_11 k_140 k_800 hdV_X9_beginCells rfl rfl (by decide) rfl q2 rfl rfl rfl dX9_readReed_21 ?_
      intro x1 h1 zb21 hw
      refine g_if_ne C 29 dX9_readReed_24 rfl hw (fun hw => ?_) (fun hw => ?_)
      · refine g_aload_n C dX9_readReed_29 rfl (by decide) rfl ?_
        refine g_aload_n C dX9_readReed_30 rfl (by decide) rfl ?_
        refine gf_X9_31 C dX9_readReed_31 kdC_46 (fun z31 => ?_)
        obtain ⟨q3, hw⟩ := hw
        refine gf_X9_187 C dX9_readReed_34 q3 (fun z34 => ?_)
        refine g_aload_n C dX9_readReed_37 rfl (by decide) rfl ?_
        refine gf_X9_31 C dX9_readReed_38 kdC_46 (fun z38 => ?_)
        refine gf_X9_204 C dX9_readReed_41 q3 (fun z41 => ?_)
        refine g_lor C dX9_readReed_44 ?_
        refine g_callVi C [(1, j_lor (h1 (h1 46 1) 2) (h1 (h1 46 1) 3))] (sim_X9_readCell hw) k_813 k_815 k_12 k_140 k_816 hdV_X9_readCell rfl rfl (by decide) rfl kdC_46 rfl rfl rfl dX9_readReed_45 ?_
        intro x2 h2 hw
        refine g_istore_n C dX9_readReed_48 rfl (by decide) ?_
        refine g_iload_n C dX9_readReed_49 rfl rfl ?_
        refine g_if_ge C 55 dX9_readReed_50 rfl hw (fun hw => ?_) (fun hw => ?_)
        · refine g_aload_n C dX9_readReed_55 rfl (by decide) rfl ?_
          refine gf_X9_31 C dX9_readReed_56 kdC_46 (fun z56 => ?_)
          refine g_dup C (by show ¬ (2 : Nat) = 1; decide) dX9_readReed_59 ?_
          obtain ⟨q4, hw⟩ := hw
          refine gf_X9_204 C dX9_readReed_60 q4 (fun z60 => ?_)
          refine g_lconst C 1 (Or.inr rfl) rfl dX9_readReed_63 ?_
          refine g_iload_n C dX9_readReed_64 rfl rfl ?_
          refine g_lshl C dX9_readReed_65 ?_
          refine g_lor C dX9_readReed_66 ?_
          refine gp_X9_204 C dX9_readReed_67 q4 (fun z => z) ?_
          refine g_heap (fun h3 eh3 => ?_)
          replace hw := hw h3 eh3
          refine g_iconst C ⟨by decide, by decide⟩ dX9_readReed_70 ?_
          exact g_zret C hr (Or.inr rfl) dX9_readReed_71 ⟨_, rfl, (Or.inr rfl), hw⟩
        · refine g_iconst C ⟨by decide, by decide⟩ dX9_readReed_53 ?_
          exact g_zret C hr (Or.inl rfl) dX9_readReed_54 ⟨_, rfl, (Or.inl rfl), hw⟩
      · refine g_iconst C ⟨by decide, by decide⟩ dX9_readReed_27 ?_
        exact g_zret C hr (Or.inl rfl) dX9_readReed_28 ⟨_, rfl, (Or.inl rfl), hw⟩
  show mG _ p l e _ s m args below meth c _ _ 0 [(0, (2, 46))] [] h
  unfold wp_X9_readReed at hw
  replace hw := id hw
  refine g_aload_n C dX9_readReed_0 rfl (by decide) rfl ?_
  refine g_aload_n C dX9_readReed_1 rfl (by decide) rfl ?_
  refine gf_X9_31 C dX9_readReed_2 kdC_46 (fun z2 => ?_)
  obtain ⟨q1, hw⟩ := hw
  refine gf_X9_204 C dX9_readReed_5 q1 (fun z5 => ?_)
  refine g_callSi C [(1, (h (h 46 1) 3))] (sim_J13_bitCount_95d88 hw) k_791 k_792 k_151 k_793 hdS_J13_bitCount_95d88 rfl rfl rfl rfl rfl dX9_readReed_8 ?_
  intro x1 h1 hw
  refine g_bipush C ⟨by decide, by decide⟩ (by decide) dX9_readReed_11 ?_
  refine g_icmp_lt C 20 dX9_readReed_13 rfl hw (fun hw => ?_) (fun hw => ?_)
  · refine g_iconst C ⟨by decide, by decide⟩ dX9_readReed_20 ?_
    exact g_sub [0] rfl (hQ _ hw)
  · refine g_iconst C ⟨by decide, by decide⟩ dX9_readReed_16 ?_
    refine g_goto C 21 dX9_readReed_17 rfl ?_
    exact g_sub [0] rfl (hQ _ hw)
set_option maxRecDepth 20000 in
set_option maxHeartbeats 4000000 in
theorem sim_X9_readRises {z : Mz} {l : Launch} {p1 : Int} {h : Mh} {K : Int → Mh → Prop} (hw : wp_X9_readRises p1 h K) : mCal (XC z) l yX9_readRises cX9_readRises 5 (some Jvm.ClassFile.FieldType.boolean) 3 65 [(2, 46), (2, p1)] h (mKz K) := by
  refine m_entry RX9 rfl (by decide) rfl (fun p e s m args below meth c C hr => ?_)
  have hQ : ∀ x, Lfp (F_X9_readRises p1 K) x → (match x.1, x.2.1 with | 2, [v2] => mG (XC z) p l e { frames := 3, cells := 0, slots := 0, locals := 65 } s m args below meth c 5 (mMQ (XC z) (mKz K) below args s) 2 [(2, (0, v2)), (0, (2, 46)), (1, (2, p1))] [] x.2.2 | 51, [v2, v3] => mG (XC z) p l e { frames := 3, cells := 0, slots := 0, locals := 65 } s m args below meth c 5 (mMQ (XC z) (mKz K) below args s) 51 [(2, (0, v2)), (3, (0, v3)), (0, (2, 46)), (1, (2, p1))] [] x.2.2 | 74, [v2, v3] => mG (XC z) p l e { frames := 3, cells := 0, slots := 0, locals := 65 } s m args below meth c 5 (mMQ (XC z) (mKz K) below args s) 74 [(2, (0, v2)), (3, (0, v3)), (0, (2, 46)), (1, (2, p1))] [] x.2.2 | _, _ => True) := by
    intro x hx
    refine Lfp.ind (fun x => (match x.1, x.2.1 with | 2, [v2] => mG (XC z) p l e { frames := 3, cells := 0, slots := 0, locals := 65 } s m args below meth c 5 (mMQ (XC z) (mKz K) below args s) 2 [(2, (0, v2)), (0, (2, 46)), (1, (2, p1))] [] x.2.2 | 51, [v2, v3] => mG (XC z) p l e { frames := 3, cells := 0, slots := 0, locals := 65 } s m args below meth c 5 (mMQ (XC z) (mKz K) below args s) 51 [(2, (0, v2)), (3, (0, v3)), (0, (2, 46)), (1, (2, p1))] [] x.2.2 | 74, [v2, v3] => mG (XC z) p l e { frames := 3, cells := 0, slots := 0, locals := 65 } s m args below meth c 5 (mMQ (XC z) (mKz K) below args s) 74 [(2, (0, v2)), (3, (0, v3)), (0, (2, 46)), (1, (2, p1))] [] x.2.2 | _, _ => True)) ?_ hx
    clear hx x
    intro Z x hQ hw
    rcases hw with ⟨v2, h, rfl, hw⟩ | ⟨v2, v3, h, rfl, hw⟩ | ⟨v2, v3, h, rfl, hw⟩
    · show mG (XC z) p l e { frames := 3, cells := 0, slots := 0, locals := 65 } s m args below meth c 5 (mMQ (XC z) (mKz K) below args s) 2 [(2, (0, v2)), (0, (2, 46)), (1, (2, p1))] [] h
      unfold B_X9_readRises_2 at hw
      refine g_iload_n C dX9_readRises_2 rfl rfl ?_
      refine g_bipush C ⟨by decide, by decide⟩ (by decide) dX9_readRises_3 ?_
      refine g_icmp_gt C 112 dX9_readRises_5 rfl hw (fun hw => ?_) (fun hw => ?_)
      · refine g_iconst C ⟨by decide, by decide⟩ dX9_readRises_112 ?_
        exact g_zret C hr (Or.inr rfl) dX9_readRises_113 ⟨_, rfl, (Or.inr rfl), hw⟩
      · refine g_aload_n C dX9_readRises_8 rfl (by decide) rfl ?_
        refine gw_X9_27 C dX9_readRises_9 kdC_46 wwC_46_0 ?_
        refine g_bipush C ⟨by decide, by decide⟩ (by decide) dX9_readRises_12 ?_
        refine g_callVz C [(0, 16)] (sim_X10_isSign hw) k_854 k_855 k_856 k_141 k_857 hdV_X10_isSign rfl rfl (by decide) rfl kdC_49 rfl rfl rfl dX9_readRises_14 ?_
        intro x1 h1 zb14 hw
        refine g_istore_n C dX9_readRises_17 rfl (by decide) ?_
        refine g_iload_n C dX9_readRises_18 rfl rfl ?_
        refine g_if_ne C 51 dX9_readRises_19 rfl hw (fun hw => ?_) (fun hw => ?_)
        · exact g_sub [2, 3, 0, 1] rfl (hQ _ hw)
        · refine g_aload_n C dX9_readRises_22 rfl (by decide) rfl ?_
          refine gw_X9_27 C dX9_readRises_23 kdC_46 wwC_46_0 ?_
          refine gf_X9_66 C dX9_readRises_26 kdC_49 (fun z26 => ?_)
          refine g_iconst C ⟨by decide, by decide⟩ dX9_readRises_29 ?_
          refine g_icmp_eq C 51 dX9_readRises_30 rfl hw (fun hw => ?_) (fun hw => ?_)
          · exact g_sub [2, 3, 0, 1] rfl (hQ _ hw)
          · refine g_iload_n C dX9_readRises_33 rfl rfl ?_
            refine g_if_gt C 45 dX9_readRises_34 rfl hw (fun hw => ?_) (fun hw => ?_)
            · refine g_iconst C ⟨by decide, by decide⟩ dX9_readRises_45 ?_
              refine g_goto C 50 dX9_readRises_46 rfl ?_
              exact g_zret C hr (Or.inr rfl) dX9_readRises_50 ⟨_, rfl, (Or.inr rfl), hw⟩
            · refine g_aload_n C dX9_readRises_37 rfl (by decide) rfl ?_
              refine g_iconst C ⟨by decide, by decide⟩ dX9_readRises_38 ?_
              refine g_callVz C [(0, 1)] (sim_X9_refuse hw) k_766 k_768 k_7 k_140 k_769 hdV_X9_refuse rfl rfl (by decide) rfl kdC_46 rfl rfl rfl dX9_readRises_39 ?_
              intro x2 h2 zb39 hw
              refine g_if_eq C 49 dX9_readRises_42 rfl hw (fun hw => ?_) (fun hw => ?_)
              · refine g_iconst C ⟨by decide, by decide⟩ dX9_readRises_49 ?_
                exact g_zret C hr (Or.inl rfl) dX9_readRises_50 ⟨_, rfl, (Or.inl rfl), hw⟩
              · refine g_iconst C ⟨by decide, by decide⟩ dX9_readRises_45 ?_
                refine g_goto C 50 dX9_readRises_46 rfl ?_
                exact g_zret C hr (Or.inr rfl) dX9_readRises_50 ⟨_, rfl, (Or.inr rfl), hw⟩
    · show mG (XC z) p l e { frames := 3, cells := 0, slots := 0, locals := 65 } s m args below meth c 5 (mMQ (XC z) (mKz K) below args s) 51 [(2, (0, v2)), (3, (0, v3)), (0, (2, 46)), (1, (2, p1))] [] h
      unfold B_X9_readRises_51 at hw
      refine g_iload_n C dX9_readRises_51 rfl rfl ?_
      refine g_bipush C ⟨by decide, by decide⟩ (by decide) dX9_readRises_52 ?_
      refine g_icmp_ne C 63 dX9_readRises_54 rfl hw (fun hw => ?_) (fun hw => ?_)
      · refine g_iload_n C dX9_readRises_63 rfl rfl ?_
        refine g_if_eq C 74 dX9_readRises_64 rfl hw (fun hw => ?_) (fun hw => ?_)
        · exact g_sub [2, 3, 0, 1] rfl (hQ _ hw)
        · refine g_aload_n C dX9_readRises_67 rfl (by decide) rfl ?_
          refine gw_X9_27 C dX9_readRises_68 kdC_46 wwC_46_0 ?_
          refine g_callVv C [] (sim_X10_advance hw) k_782 k_758 k_759 k_141 k_760 hdV_X10_advance rfl rfl (by decide) rfl kdC_49 rfl rfl rfl dX9_readRises_71 ?_
          intro h1 hw
          exact g_sub [2, 3, 0, 1] rfl (hQ _ hw)
      · refine g_aload_n C dX9_readRises_57 rfl (by decide) rfl ?_
        refine g_iconst C ⟨by decide, by decide⟩ dX9_readRises_58 ?_
        refine g_callVz C [(0, 2)] (sim_X9_refuse hw) k_766 k_768 k_7 k_140 k_769 hdV_X9_refuse rfl rfl (by decide) rfl kdC_46 rfl rfl rfl dX9_readRises_59 ?_
        intro x1 h2 zb59 hw
        exact g_zret C hr zb59 dX9_readRises_62 ⟨_, rfl, zb59, hw⟩
    · show mG (XC z) p l e { frames := 3, cells := 0, slots := 0, locals := 65 } s m args below meth c 5 (mMQ (XC z) (mKz K) below args s) 74 [(2, (0, v2)), (3, (0, v3)), (0, (2, 46)), (1, (2, p1))] [] h
      unfold B_X9_readRises_74 at hw
      refine g_aload_n C dX9_readRises_74 rfl (by decide) rfl ?_
      refine g_iconst C ⟨by decide, by decide⟩ dX9_readRises_75 ?_
      refine g_bipush C ⟨by decide, by decide⟩ (by decide) dX9_readRises_76 ?_
      refine g_callVi C [(0, 0), (0, 99)] (sim_X9_readNumber hw) k_783 k_785 k_9 k_140 k_786 hdV_X9_readNumber rfl rfl (by decide) rfl kdC_46 rfl rfl rfl dX9_readRises_78 ?_
      intro x1 h1 hw
      refine g_istore C dX9_readRises_81 (by decide) ?_
      refine g_iload C dX9_readRises_83 rfl ?_
      refine g_if_ge C 90 dX9_readRises_85 rfl hw (fun hw => ?_) (fun hw => ?_)
      · refine g_aload_n C dX9_readRises_90 rfl (by decide) rfl ?_
        refine g_iload_n C dX9_readRises_91 rfl rfl ?_
        refine g_if_eq C 101 dX9_readRises_92 rfl hw (fun hw => ?_) (fun hw => ?_)
        · refine g_iload C dX9_readRises_101 rfl ?_
          obtain ⟨q1, hw⟩ := hw
          refine g_callVv C [(0, x1)] (sim_X7_add wirC q1 hw) k_830 k_831 k_832 k_136 k_833 hdV_X7_add rfl rfl (by decide) rfl q1 rfl rfl rfl dX9_readRises_103 ?_
          intro h2 hw
          refine g_iincN C dX9_readRises_106 rfl (by decide) (fun x2 ex2 => ?_)
          replace hw := hw x2 ex2
          refine g_goto C 2 dX9_readRises_109 rfl ?_
          exact g_sub [2, 0, 1] rfl (hQ _ hw)
        · refine g_iload C dX9_readRises_95 rfl ?_
          refine g_ineg C dX9_readRises_97 ?_
          refine g_goto C 103 dX9_readRises_98 rfl ?_
          obtain ⟨q2, hw⟩ := hw
          refine g_callVv C [(0, w32 (-x1))] (sim_X7_add wirC q2 hw) k_830 k_831 k_832 k_136 k_833 hdV_X7_add rfl rfl (by decide) rfl q2 rfl rfl rfl dX9_readRises_103 ?_
          intro h3 hw
          refine g_iincN C dX9_readRises_106 rfl (by decide) (fun x3 ex3 => ?_)
          replace hw := hw x3 ex3
          refine g_goto C 2 dX9_readRises_109 rfl ?_
          exact g_sub [2, 0, 1] rfl (hQ _ hw)
      · refine g_iconst C ⟨by decide, by decide⟩ dX9_readRises_88 ?_
        exact g_zret C hr (Or.inl rfl) dX9_readRises_89 ⟨_, rfl, (Or.inl rfl), hw⟩
  show mG _ p l e _ s m args below meth c _ _ 0 [(0, (2, 46)), (1, (2, p1))] [] h
  unfold wp_X9_readRises at hw
  replace hw := id hw
  refine g_iconst C ⟨by decide, by decide⟩ dX9_readRises_0 ?_
  refine g_istore_n C dX9_readRises_1 rfl (by decide) ?_
  exact g_sub [2, 0, 1] rfl (hQ _ hw)
set_option maxRecDepth 20000 in
set_option maxHeartbeats 4000000 in
theorem sim_X9_readSent {z : Mz} {l : Launch} {h : Mh} {K : Int → Mh → Prop} (hw : wp_X9_readSent h K) : mCal (XC z) l yX9_readSent cX9_readSent 2 (some Jvm.ClassFile.FieldType.boolean) 4 87 [(2, 46)] h (mKz K) := by
  refine m_entry RX9 rfl (by decide) rfl (fun p e s m args below meth c C hr => ?_)
  show mG _ p l e _ s m args below meth c _ _ 0 [(0, (2, 46))] [] h
  unfold wp_X9_readSent at hw
  refine g_aload_n C dX9_readSent_0 rfl (by decide) rfl ?_
  refine g_aload_n C dX9_readSent_1 rfl (by decide) rfl ?_
  refine gf_X9_56 C dX9_readSent_2 kdC_46 (fun z2 => ?_)
  refine g_bipush C ⟨by decide, by decide⟩ (by decide) dX9_readSent_5 ?_
  refine g_callVi C [(0, (h 46 8)), (0, 99)] (sim_X9_readOnce hw) k_881 k_883 k_21 k_140 k_884 hdV_X9_readOnce rfl rfl (by decide) rfl kdC_46 rfl rfl rfl dX9_readSent_7 ?_
  intro x1 h1 hw
  refine g_istore_n C dX9_readSent_10 rfl (by decide) ?_
  refine g_aload_n C dX9_readSent_11 rfl (by decide) rfl ?_
  refine g_iconst C ⟨by decide, by decide⟩ dX9_readSent_12 ?_
  refine gp_X9_56 C dX9_readSent_13 kdC_46 (fun _ => (Or.inr rfl)) ?_
  refine g_heap (fun h2 eh2 => ?_)
  replace hw := hw h2 eh2
  refine g_aload_n C dX9_readSent_16 rfl (by decide) rfl ?_
  refine gf_X9_31 C dX9_readSent_17 kdC_46 (fun z17 => ?_)
  refine g_iload_n C dX9_readSent_20 rfl rfl ?_
  refine g_iconst C ⟨by decide, by decide⟩ dX9_readSent_21 ?_
  refine g_mmax C k_885 k_179 k_137 k_180 rfl rfl rfl dX9_readSent_22 ?_
  obtain ⟨q1, hw⟩ := hw
  refine gp_X9_262 C dX9_readSent_25 q1 (fun z => z) ?_
  refine g_heap (fun h3 eh3 => ?_)
  replace hw := hw h3 eh3
  refine g_iload_n C dX9_readSent_28 rfl rfl ?_
  refine g_if_lt C 36 dX9_readSent_29 rfl hw (fun hw => ?_) (fun hw => ?_)
  · refine g_iconst C ⟨by decide, by decide⟩ dX9_readSent_36 ?_
    exact g_zret C hr (Or.inl rfl) dX9_readSent_37 ⟨_, rfl, (Or.inl rfl), hw⟩
  · refine g_iconst C ⟨by decide, by decide⟩ dX9_readSent_32 ?_
    refine g_goto C 37 dX9_readSent_33 rfl ?_
    exact g_zret C hr (Or.inr rfl) dX9_readSent_37 ⟨_, rfl, (Or.inr rfl), hw⟩
set_option maxRecDepth 20000 in
set_option maxHeartbeats 4000000 in
theorem sim_X9_readShoreCell {z : Mz} {l : Launch} {p1 : Int} {h : Mh} {K : Int → Mh → Prop} (hw : wp_X9_readShoreCell p1 h K) : mCal (XC z) l yX9_readShoreCell cX9_readShoreCell 3 (some Jvm.ClassFile.FieldType.boolean) 4 91 [(2, 46), (2, p1)] h (mKz K) := by
  refine m_entry RX9 rfl (by decide) rfl (fun p e s m args below meth c C hr => ?_)
  show mG _ p l e _ s m args below meth c _ _ 0 [(0, (2, 46)), (1, (2, p1))] [] h
  unfold wp_X9_readShoreCell at hw
  refine g_aload_n C dX9_readShoreCell_0 rfl (by decide) rfl ?_
  refine g_aload_n C dX9_readShoreCell_1 rfl (by decide) rfl ?_
  refine gf_X9_31 C dX9_readShoreCell_2 kdC_46 (fun z2 => ?_)
  obtain ⟨q1, hw⟩ := hw
  refine gf_X9_187 C dX9_readShoreCell_5 q1 (fun z5 => ?_)
  refine g_aload_n C dX9_readShoreCell_8 rfl (by decide) rfl ?_
  obtain ⟨q2, hw⟩ := hw
  refine g_callVl C [] (sim_X7_cellBits wirC q2 hw) k_829 k_806 k_807 k_136 k_808 hdV_X7_cellBits rfl rfl (by decide) rfl q2 rfl rfl rfl dX9_readShoreCell_9 ?_
  intro x1 h1 hw
  refine g_lor C dX9_readShoreCell_12 ?_
  refine g_callVi C [(1, j_lor (h (h 46 1) 2) x1)] (sim_X9_readCell hw) k_813 k_815 k_12 k_140 k_816 hdV_X9_readCell rfl rfl (by decide) rfl kdC_46 rfl rfl rfl dX9_readShoreCell_13 ?_
  intro x2 h2 hw
  refine g_istore_n C dX9_readShoreCell_16 rfl (by decide) ?_
  refine g_iload_n C dX9_readShoreCell_17 rfl rfl ?_
  refine g_if_ge C 23 dX9_readShoreCell_18 rfl hw (fun hw => ?_) (fun hw => ?_)
  · refine g_aload_n C dX9_readShoreCell_23 rfl (by decide) rfl ?_
    refine g_iload_n C dX9_readShoreCell_24 rfl rfl ?_
    refine g_callVv C [(0, x2)] (sim_X7_add wirC q2 hw) k_830 k_831 k_832 k_136 k_833 hdV_X7_add rfl rfl (by decide) rfl q2 rfl rfl rfl dX9_readShoreCell_25 ?_
    intro h3 hw
    refine g_iconst C ⟨by decide, by decide⟩ dX9_readShoreCell_28 ?_
    exact g_zret C hr (Or.inr rfl) dX9_readShoreCell_29 ⟨_, rfl, (Or.inr rfl), hw⟩
  · refine g_iconst C ⟨by decide, by decide⟩ dX9_readShoreCell_21 ?_
    exact g_zret C hr (Or.inl rfl) dX9_readShoreCell_22 ⟨_, rfl, (Or.inl rfl), hw⟩
set_option maxRecDepth 20000 in
set_option maxHeartbeats 4000000 in
theorem sim_X9_readThick {z : Mz} {l : Launch} {h : Mh} {K : Int → Mh → Prop} (hw : wp_X9_readThick h K) : mCal (XC z) l yX9_readThick cX9_readThick 2 (some Jvm.ClassFile.FieldType.boolean) 4 87 [(2, 46)] h (mKz K) := by
  refine m_entry RX9 rfl (by decide) rfl (fun p e s m args below meth c C hr => ?_)
  show mG _ p l e _ s m args below meth c _ _ 0 [(0, (2, 46))] [] h
  unfold wp_X9_readThick at hw
  refine g_aload_n C dX9_readThick_0 rfl (by decide) rfl ?_
  refine g_aload_n C dX9_readThick_1 rfl (by decide) rfl ?_
  refine gf_X9_53 C dX9_readThick_2 kdC_46 (fun z2 => ?_)
  refine g_bipush C ⟨by decide, by decide⟩ (by decide) dX9_readThick_5 ?_
  refine g_callVi C [(0, (h 46 7)), (0, 99)] (sim_X9_readOnce hw) k_881 k_883 k_21 k_140 k_884 hdV_X9_readOnce rfl rfl (by decide) rfl kdC_46 rfl rfl rfl dX9_readThick_7 ?_
  intro x1 h1 hw
  refine g_istore_n C dX9_readThick_10 rfl (by decide) ?_
  refine g_aload_n C dX9_readThick_11 rfl (by decide) rfl ?_
  refine g_iconst C ⟨by decide, by decide⟩ dX9_readThick_12 ?_
  refine gp_X9_53 C dX9_readThick_13 kdC_46 (fun _ => (Or.inr rfl)) ?_
  refine g_heap (fun h2 eh2 => ?_)
  replace hw := hw h2 eh2
  refine g_aload_n C dX9_readThick_16 rfl (by decide) rfl ?_
  refine gf_X9_31 C dX9_readThick_17 kdC_46 (fun z17 => ?_)
  refine g_iload_n C dX9_readThick_20 rfl rfl ?_
  refine g_iconst C ⟨by decide, by decide⟩ dX9_readThick_21 ?_
  refine g_mmax C k_885 k_179 k_137 k_180 rfl rfl rfl dX9_readThick_22 ?_
  obtain ⟨q1, hw⟩ := hw
  refine gp_X9_259 C dX9_readThick_25 q1 (fun z => z) ?_
  refine g_heap (fun h3 eh3 => ?_)
  replace hw := hw h3 eh3
  refine g_iload_n C dX9_readThick_28 rfl rfl ?_
  refine g_if_lt C 36 dX9_readThick_29 rfl hw (fun hw => ?_) (fun hw => ?_)
  · refine g_iconst C ⟨by decide, by decide⟩ dX9_readThick_36 ?_
    exact g_zret C hr (Or.inl rfl) dX9_readThick_37 ⟨_, rfl, (Or.inl rfl), hw⟩
  · refine g_iconst C ⟨by decide, by decide⟩ dX9_readThick_32 ?_
    refine g_goto C 37 dX9_readThick_33 rfl ?_
    exact g_zret C hr (Or.inr rfl) dX9_readThick_37 ⟨_, rfl, (Or.inr rfl), hw⟩
