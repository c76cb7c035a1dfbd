set_option maxRecDepth 20000 in
set_option maxHeartbeats 4000000 in
theorem sim_J13_bitCount_95d88 {X : Mx} {l : Launch} {p0 : Int} {h : Mh} {K : Int → Mh → Prop} (hw : wp_J13_bitCount_95d88 p0 h K) : mCal X l yJ13_bitCount_95d88 cJ13_bitCount_95d88 2 (some Jvm.ClassFile.FieldType.int) 0 0 [(1, p0)] h (mKi K) := by
  refine m_entry RJ13 rfl (by decide) rfl (fun p e s m args below meth c C hr => ?_)
  show mG _ p l e _ s m args below meth c _ _ 0 [(0, (1, p0))] [] h
  unfold wp_J13_bitCount_95d88 at hw
  refine g_lload_n C dJ13_bitCount_95d88_0 rfl rfl ?_
  refine g_lload_n C dJ13_bitCount_95d88_1 rfl rfl ?_
  refine g_iconst C ⟨by decide, by decide⟩ dJ13_bitCount_95d88_2 ?_
  refine g_lushr C dJ13_bitCount_95d88_3 ?_
  refine g_ldc2 C ⟨by decide, by decide⟩ k_802 dJ13_bitCount_95d88_4 ?_
  refine g_land C dJ13_bitCount_95d88_7 ?_
  refine g_lsub C dJ13_bitCount_95d88_8 ?_
  refine g_topi (fun x1 ex1 => ?_)
  replace hw := hw x1 ex1
  refine g_lstore_n C dJ13_bitCount_95d88_9 rfl (by decide) ?_
  refine g_lload_n C dJ13_bitCount_95d88_10 rfl rfl ?_
  refine g_ldc2 C ⟨by decide, by decide⟩ k_803 dJ13_bitCount_95d88_11 ?_
  refine g_land C dJ13_bitCount_95d88_14 ?_
  refine g_lload_n C dJ13_bitCount_95d88_15 rfl rfl ?_
  refine g_iconst C ⟨by decide, by decide⟩ dJ13_bitCount_95d88_16 ?_
  refine g_lushr C dJ13_bitCount_95d88_17 ?_
  refine g_ldc2 C ⟨by decide, by decide⟩ k_803 dJ13_bitCount_95d88_18 ?_
  refine g_land C dJ13_bitCount_95d88_21 ?_
  refine g_ladd C dJ13_bitCount_95d88_22 ?_
  refine g_topi (fun x2 ex2 => ?_)
  replace hw := hw x2 ex2
  refine g_lstore_n C dJ13_bitCount_95d88_23 rfl (by decide) ?_
  refine g_lload_n C dJ13_bitCount_95d88_24 rfl rfl ?_
  refine g_lload_n C dJ13_bitCount_95d88_25 rfl rfl ?_
  refine g_iconst C ⟨by decide, by decide⟩ dJ13_bitCount_95d88_26 ?_
  refine g_lushr C dJ13_bitCount_95d88_27 ?_
  refine g_ladd C dJ13_bitCount_95d88_28 ?_
  refine g_ldc2 C ⟨by decide, by decide⟩ k_804 dJ13_bitCount_95d88_29 ?_
  refine g_land C dJ13_bitCount_95d88_32 ?_
  refine g_topi (fun x3 ex3 => ?_)
  replace hw := hw x3 ex3
  refine g_lstore_n C dJ13_bitCount_95d88_33 rfl (by decide) ?_
  refine g_lload_n C dJ13_bitCount_95d88_34 rfl rfl ?_
  refine g_lload_n C dJ13_bitCount_95d88_35 rfl rfl ?_
  refine g_bipush C ⟨by decide, by decide⟩ (by decide) dJ13_bitCount_95d88_36 ?_
  refine g_lushr C dJ13_bitCount_95d88_38 ?_
  refine g_ladd C dJ13_bitCount_95d88_39 ?_
  refine g_topi (fun x4 ex4 => ?_)
  replace hw := hw x4 ex4
  refine g_lstore_n C dJ13_bitCount_95d88_40 rfl (by decide) ?_
  refine g_lload_n C dJ13_bitCount_95d88_41 rfl rfl ?_
  refine g_lload_n C dJ13_bitCount_95d88_42 rfl rfl ?_
  refine g_bipush C ⟨by decide, by decide⟩ (by decide) dJ13_bitCount_95d88_43 ?_
  refine g_lushr C dJ13_bitCount_95d88_45 ?_
  refine g_ladd C dJ13_bitCount_95d88_46 ?_
  refine g_topi (fun x5 ex5 => ?_)
  replace hw := hw x5 ex5
  refine g_lstore_n C dJ13_bitCount_95d88_47 rfl (by decide) ?_
  refine g_lload_n C dJ13_bitCount_95d88_48 rfl rfl ?_
  refine g_lload_n C dJ13_bitCount_95d88_49 rfl rfl ?_
  refine g_bipush C ⟨by decide, by decide⟩ (by decide) dJ13_bitCount_95d88_50 ?_
  refine g_lushr C dJ13_bitCount_95d88_52 ?_
  refine g_ladd C dJ13_bitCount_95d88_53 ?_
  refine g_topi (fun x6 ex6 => ?_)
  replace hw := hw x6 ex6
  refine g_lstore_n C dJ13_bitCount_95d88_54 rfl (by decide) ?_
  refine g_lload_n C dJ13_bitCount_95d88_55 rfl rfl ?_
  refine g_l2i C dJ13_bitCount_95d88_56 ?_
  refine g_bipush C ⟨by decide, by decide⟩ (by decide) dJ13_bitCount_95d88_57 ?_
  refine g_iand C dJ13_bitCount_95d88_59 ?_
  exact g_iret C hr dJ13_bitCount_95d88_60 ⟨_, rfl, hw⟩
set_option maxRecDepth 20000 in
set_option maxHeartbeats 4000000 in
theorem sim_J6_bitCount_0f7a4 {X : Mx} {l : Launch} {p0 : Int} {h : Mh} {K : Int → Mh → Prop} (hw : wp_J6_bitCount_0f7a4 p0 h K) : mCal X l yJ6_bitCount_0f7a4 cJ6_bitCount_0f7a4 1 (some Jvm.ClassFile.FieldType.int) 0 0 [(0, p0)] h (mKi K) := by
  refine m_entry RJ6 rfl (by decide) rfl (fun p e s m args below meth c C hr => ?_)
  show mG _ p l e _ s m args below meth c _ _ 0 [(0, (0, p0))] [] h
  unfold wp_J6_bitCount_0f7a4 at hw
  refine g_iload_n C dJ6_bitCount_0f7a4_0 rfl rfl ?_
  refine g_iload_n C dJ6_bitCount_0f7a4_1 rfl rfl ?_
  refine g_iconst C ⟨by decide, by decide⟩ dJ6_bitCount_0f7a4_2 ?_
  refine g_iushr C dJ6_bitCount_0f7a4_3 ?_
  refine g_ldcw C ⟨by decide, by decide⟩ k_1375 dJ6_bitCount_0f7a4_4 ?_
  refine g_iand C dJ6_bitCount_0f7a4_7 ?_
  refine g_isub C dJ6_bitCount_0f7a4_8 ?_
  refine g_topi (fun x1 ex1 => ?_)
  replace hw := hw x1 ex1
  refine g_istore_n C dJ6_bitCount_0f7a4_9 rfl (by decide) ?_
  refine g_iload_n C dJ6_bitCount_0f7a4_10 rfl rfl ?_
  refine g_ldcw C ⟨by decide, by decide⟩ k_1376 dJ6_bitCount_0f7a4_11 ?_
  refine g_iand C dJ6_bitCount_0f7a4_14 ?_
  refine g_iload_n C dJ6_bitCount_0f7a4_15 rfl rfl ?_
  refine g_iconst C ⟨by decide, by decide⟩ dJ6_bitCount_0f7a4_16 ?_
  refine g_iushr C dJ6_bitCount_0f7a4_17 ?_
  refine g_ldcw C ⟨by decide, by decide⟩ k_1376 dJ6_bitCount_0f7a4_18 ?_
  refine g_iand C dJ6_bitCount_0f7a4_21 ?_
  refine g_iadd C dJ6_bitCount_0f7a4_22 ?_
  refine g_topi (fun x2 ex2 => ?_)
  replace hw := hw x2 ex2
  refine g_istore_n C dJ6_bitCount_0f7a4_23 rfl (by decide) ?_
  refine g_iload_n C dJ6_bitCount_0f7a4_24 rfl rfl ?_
  refine g_iload_n C dJ6_bitCount_0f7a4_25 rfl rfl ?_
  refine g_iconst C ⟨by decide, by decide⟩ dJ6_bitCount_0f7a4_26 ?_
  refine g_iushr C dJ6_bitCount_0f7a4_27 ?_
  refine g_iadd C dJ6_bitCount_0f7a4_28 ?_
  refine g_ldcw C ⟨by decide, by decide⟩ k_1377 dJ6_bitCount_0f7a4_29 ?_
  refine g_iand C dJ6_bitCount_0f7a4_32 ?_
  refine g_topi (fun x3 ex3 => ?_)
  replace hw := hw x3 ex3
  refine g_istore_n C dJ6_bitCount_0f7a4_33 rfl (by decide) ?_
  refine g_iload_n C dJ6_bitCount_0f7a4_34 rfl rfl ?_
  refine g_iload_n C dJ6_bitCount_0f7a4_35 rfl rfl ?_
  refine g_bipush C ⟨by decide, by decide⟩ (by decide) dJ6_bitCount_0f7a4_36 ?_
  refine g_iushr C dJ6_bitCount_0f7a4_38 ?_
  refine g_iadd C dJ6_bitCount_0f7a4_39 ?_
  refine g_topi (fun x4 ex4 => ?_)
  replace hw := hw x4 ex4
  refine g_istore_n C dJ6_bitCount_0f7a4_40 rfl (by decide) ?_
  refine g_iload_n C dJ6_bitCount_0f7a4_41 rfl rfl ?_
  refine g_iload_n C dJ6_bitCount_0f7a4_42 rfl rfl ?_
  refine g_bipush C ⟨by decide, by decide⟩ (by decide) dJ6_bitCount_0f7a4_43 ?_
  refine g_iushr C dJ6_bitCount_0f7a4_45 ?_
  refine g_iadd C dJ6_bitCount_0f7a4_46 ?_
  refine g_topi (fun x5 ex5 => ?_)
  replace hw := hw x5 ex5
  refine g_istore_n C dJ6_bitCount_0f7a4_47 rfl (by decide) ?_
  refine g_iload_n C dJ6_bitCount_0f7a4_48 rfl rfl ?_
  refine g_bipush C ⟨by decide, by decide⟩ (by decide) dJ6_bitCount_0f7a4_49 ?_
  refine g_iand C dJ6_bitCount_0f7a4_51 ?_
  exact g_iret C hr dJ6_bitCount_0f7a4_52 ⟨_, rfl, hw⟩
set_option maxRecDepth 20000 in
set_option maxHeartbeats 4000000 in
theorem sim_X12_of {X : Mx} {l : Launch} {p0 : Int} {h : Mh} {K : Int → Mh → Prop} (hw : wp_X12_of p0 h K) : mCal X l yX12_of cX12_of 2 (some (Jvm.ClassFile.FieldType.object "PondReader$Word")) 0 0 [(0, p0)] h (mKe K) := by
  refine m_entry RX12 rfl (by decide) rfl (fun p e s m args below meth c C hr => ?_)
  have hQ : ∀ x, Lfp (F_X12_of p0 K) x → (match x.1, x.2.1 with | 2, [v1] => mG X p l e { frames := 0, cells := 0, slots := 0, locals := 0 } s m args below meth c 2 (mMQ X (mKe K) below args s) 2 [(1, (0, v1)), (0, (0, p0))] [] x.2.2 | _, _ => True) := by
    intro x hx
    refine Lfp.ind (fun x => (match x.1, x.2.1 with | 2, [v1] => mG X p l e { frames := 0, cells := 0, slots := 0, locals := 0 } s m args below meth c 2 (mMQ X (mKe K) below args s) 2 [(1, (0, v1)), (0, (0, p0))] [] x.2.2 | _, _ => True)) ?_ hx
    clear hx x
    intro Z x hQ hw
    rcases hw with ⟨v1, h, rfl, hw⟩
    · show mG X p l e { frames := 0, cells := 0, slots := 0, locals := 0 } s m args below meth c 2 (mMQ X (mKe K) below args s) 2 [(1, (0, v1)), (0, (0, p0))] [] h
      unfold B_X12_of_2 at hw
      refine g_iload_n C dX12_of_2 rfl rfl ?_
      refine g_getsALL C k_744 dX12_of_3 ?_
      refine g_lenALL C dX12_of_6 ?_
      refine g_icmp_ge C 34 dX12_of_7 rfl hw (fun hw => ?_) (fun hw => ?_)
      · refine g_anull C 3 (by decide) dX12_of_34 ?_
        exact g_aret C (by decide) hr (Or.inl ⟨_, rfl⟩) dX12_of_35 ⟨_, rfl, hw⟩
      · refine g_getsALL C k_744 dX12_of_10 ?_
        refine g_iload_n C dX12_of_13 rfl rfl ?_
        obtain ⟨⟨b1, b1b⟩, hw⟩ := hw
        refine g_ldALL C dX12_of_14 b1 b1b ?_
        obtain ⟨⟨b2, b2b⟩, hw⟩ := hw
        refine g_wl C k_2304 dX12_of_15 b2 b2b ?_
        refine g_iload_n C dX12_of_18 rfl rfl ?_
        refine g_icmp_ne C 28 dX12_of_19 rfl hw (fun hw => ?_) (fun hw => ?_)
        · refine g_iincN C dX12_of_28 rfl (by decide) (fun x1 ex1 => ?_)
          replace hw := hw x1 ex1
          refine g_goto C 2 dX12_of_31 rfl ?_
          exact g_sub [1, 0] rfl (hQ _ hw)
        · refine g_getsALL C k_744 dX12_of_22 ?_
          refine g_iload_n C dX12_of_25 rfl rfl ?_
          obtain ⟨⟨b3, b3b⟩, hw⟩ := hw
          refine g_ldALL C dX12_of_26 b3 b3b ?_
          exact g_aret C (by decide) hr (Or.inl ⟨_, rfl⟩) dX12_of_27 ⟨_, rfl, hw⟩
  show mG _ p l e _ s m args below meth c _ _ 0 [(0, (0, p0))] [] h
  unfold wp_X12_of at hw
  refine g_iconst C ⟨by decide, by decide⟩ dX12_of_0 ?_
  refine g_istore_n C dX12_of_1 rfl (by decide) ?_
  exact g_sub [1, 0] rfl (hQ _ hw)
set_option maxRecDepth 20000 in
set_option maxHeartbeats 4000000 in
theorem sim_X1_add {X : Mx} (hWR : mWir X) {r : Int} (hk : (mxS X r).1 = 0) {l : Launch} {p1 : Int} {p2 : Int} {p3 : Int} {h : Mh} {K : Mh → Prop} (hw : wp_X1_add (mxS X) r p1 p2 p3 h K) : mCal X l yX1_add cX1_add 4 none 0 0 [(2, r), (0, p1), (0, p2), (0, p3)] h (mKv K) := by
  refine m_entry RX1 rfl (by decide) rfl (fun p e s m args below meth c C hr => ?_)
  show mG _ p l e _ s m args below meth c _ _ 0 [(0, (2, r)), (1, (0, p1)), (2, (0, p2)), (3, (0, p3))] [] h
  unfold wp_X1_add at hw
  refine g_aload_n C dX1_add_0 rfl (by decide) rfl ?_
  refine gf_X1_27 C dX1_add_1 hk (fun z1 => ?_)
  refine g_if_lt C 59 dX1_add_4 rfl hw (fun hw => ?_) (fun hw => ?_)
  · exact g_vret C hr dX1_add_59 ⟨rfl, hw⟩
  · refine g_aload_n C dX1_add_7 rfl (by decide) rfl ?_
    refine gf_X1_27 C dX1_add_8 hk (fun z8 => ?_)
    refine g_aload_n C dX1_add_11 rfl (by decide) rfl ?_
    refine gw_X1_15 C dX1_add_12 hk (wir_0_0 hWR hk) ?_
    refine g_alen2 C dX1_add_15 (ci := 14) (by decide) (kid_0_0 hWR hk) ?_
    refine g_icmp_ge C 59 dX1_add_16 rfl hw (fun hw => ?_) (fun hw => ?_)
    · exact g_vret C hr dX1_add_59 ⟨rfl, hw⟩
    · refine g_aload_n C dX1_add_19 rfl (by decide) rfl ?_
      refine gw_X1_15 C dX1_add_20 hk (wir_0_0 hWR hk) ?_
      refine g_aload_n C dX1_add_23 rfl (by decide) rfl ?_
      refine gf_X1_27 C dX1_add_24 hk (fun z24 => ?_)
      refine g_iload_n C dX1_add_27 rfl rfl ?_
      obtain ⟨⟨b1, b1b⟩, hw⟩ := hw
      refine g_iastore C dX1_add_28 (kid_0_0 hWR hk) b1 b1b (fun z => z) ?_
      refine g_heap (fun h1 eh1 => ?_)
      replace hw := hw h1 eh1
      refine g_aload_n C dX1_add_29 rfl (by decide) rfl ?_
      refine gw_X1_21 C dX1_add_30 hk (wir_0_1 hWR hk) ?_
      refine g_aload_n C dX1_add_33 rfl (by decide) rfl ?_
      refine gf_X1_27 C dX1_add_34 hk (fun z34 => ?_)
      refine g_iload_n C dX1_add_37 rfl rfl ?_
      obtain ⟨⟨b2, b2b⟩, hw⟩ := hw
      refine g_iastore C dX1_add_38 (kid_0_1 hWR hk) b2 b2b (fun z => z) ?_
      refine g_heap (fun h2 eh2 => ?_)
      replace hw := hw h2 eh2
      refine g_aload_n C dX1_add_39 rfl (by decide) rfl ?_
      refine gw_X1_24 C dX1_add_40 hk (wir_0_2 hWR hk) ?_
      refine g_aload_n C dX1_add_43 rfl (by decide) rfl ?_
      refine gf_X1_27 C dX1_add_44 hk (fun z44 => ?_)
      refine g_iload_n C dX1_add_47 rfl rfl ?_
      obtain ⟨⟨b3, b3b⟩, hw⟩ := hw
      refine g_iastore C dX1_add_48 (kid_0_2 hWR hk) b3 b3b (fun z => z) ?_
      refine g_heap (fun h3 eh3 => ?_)
      replace hw := hw h3 eh3
      refine g_aload_n C dX1_add_49 rfl (by decide) rfl ?_
      refine g_dup C (by show ¬ (2 : Nat) = 1; decide) dX1_add_50 ?_
      refine gf_X1_27 C dX1_add_51 hk (fun z51 => ?_)
      refine g_iconst C ⟨by decide, by decide⟩ dX1_add_54 ?_
      refine g_iadd C dX1_add_55 ?_
      refine gp_X1_27 C dX1_add_56 hk (fun z => z) ?_
      refine g_heap (fun h4 eh4 => ?_)
      replace hw := hw h4 eh4
      exact g_vret C hr dX1_add_59 ⟨rfl, hw⟩
set_option maxRecDepth 20000 in
set_option maxHeartbeats 4000000 in
theorem sim_X1_clear {X : Mx} (hWR : mWir X) {r : Int} (hk : (mxS X r).1 = 0) {l : Launch} {h : Mh} {K : Mh → Prop} (hw : wp_X1_clear r h K) : mCal X l yX1_clear cX1_clear 1 none 0 0 [(2, r)] h (mKv K) := by
  refine m_entry RX1 rfl (by decide) rfl (fun p e s m args below meth c C hr => ?_)
  show mG _ p l e _ s m args below meth c _ _ 0 [(0, (2, r))] [] h
  unfold wp_X1_clear at hw
  refine g_aload_n C dX1_clear_0 rfl (by decide) rfl ?_
  refine g_iconst C ⟨by decide, by decide⟩ dX1_clear_1 ?_
  refine gp_X1_27 C dX1_clear_2 hk (fun z => z) ?_
  refine g_heap (fun h1 eh1 => ?_)
  replace hw := hw h1 eh1
  exact g_vret C hr dX1_clear_5 ⟨rfl, hw⟩
set_option maxRecDepth 20000 in
set_option maxHeartbeats 4000000 in
theorem sim_X1_copyOf {X : Mx} (hWR : mWir X) {r : Int} (hk : (mxS X r).1 = 0) {l : Launch} {p1 : Int} {h : Mh} {K : Mh → Prop} (hw : wp_X1_copyOf (mxS X) r p1 h K) : mCal X l yX1_copyOf cX1_copyOf 3 none 1 23 [(2, r), (2, p1)] h (mKv K) := by
  refine m_entry RX1 rfl (by decide) rfl (fun p e s m args below meth c C hr => ?_)
  have hQ : ∀ x, Lfp (F_X1_copyOf (mxS X) r p1 K) x → (match x.1, x.2.1 with | 6, [v2] => mG X p l e { frames := 1, cells := 0, slots := 0, locals := 23 } s m args below meth c 3 (mMQ X (mKv K) below args s) 6 [(2, (0, v2)), (0, (2, r)), (1, (2, p1))] [] x.2.2 | _, _ => True) := by
    intro x hx
    refine Lfp.ind (fun x => (match x.1, x.2.1 with | 6, [v2] => mG X p l e { frames := 1, cells := 0, slots := 0, locals := 23 } s m args below meth c 3 (mMQ X (mKv K) below args s) 6 [(2, (0, v2)), (0, (2, r)), (1, (2, p1))] [] x.2.2 | _, _ => True)) ?_ hx
    clear hx x
    intro Z x hQ hw
    rcases hw with ⟨v2, h, rfl, hw⟩
    · show mG X p l e { frames := 1, cells := 0, slots := 0, locals := 23 } s m args below meth c 3 (mMQ X (mKv K) below args s) 6 [(2, (0, v2)), (0, (2, r)), (1, (2, p1))] [] h
      unfold B_X1_copyOf_6 at hw
      refine g_iload_n C dX1_copyOf_6 rfl rfl ?_
      refine g_aload_n C dX1_copyOf_7 rfl (by decide) rfl ?_
      obtain ⟨q1, hw⟩ := hw
      refine gf_X1_27 C dX1_copyOf_8 q1 (fun z8 => ?_)
      refine g_icmp_ge C 42 dX1_copyOf_11 rfl hw (fun hw => ?_) (fun hw => ?_)
      · exact g_vret C hr dX1_copyOf_42 ⟨rfl, hw⟩
      · refine g_aload_n C dX1_copyOf_14 rfl (by decide) rfl ?_
        refine g_aload_n C dX1_copyOf_15 rfl (by decide) rfl ?_
        refine gw_X1_15 C dX1_copyOf_16 q1 (wir_0_0 hWR q1) ?_
        refine g_iload_n C dX1_copyOf_19 rfl rfl ?_
        obtain ⟨⟨b1, b1b⟩, hw⟩ := hw
        refine g_iaload C dX1_copyOf_20 (kid_0_0 hWR q1) b1 b1b (fun z20 => ?_)
        refine g_aload_n C dX1_copyOf_21 rfl (by decide) rfl ?_
        refine gw_X1_21 C dX1_copyOf_22 q1 (wir_0_1 hWR q1) ?_
        refine g_iload_n C dX1_copyOf_25 rfl rfl ?_
        obtain ⟨⟨b2, b2b⟩, hw⟩ := hw
        refine g_iaload C dX1_copyOf_26 (kid_0_1 hWR q1) b2 b2b (fun z26 => ?_)
        refine g_aload_n C dX1_copyOf_27 rfl (by decide) rfl ?_
        refine gw_X1_24 C dX1_copyOf_28 q1 (wir_0_2 hWR q1) ?_
        refine g_iload_n C dX1_copyOf_31 rfl rfl ?_
        obtain ⟨⟨b3, b3b⟩, hw⟩ := hw
        refine g_iaload C dX1_copyOf_32 (kid_0_2 hWR q1) b3 b3b (fun z32 => ?_)
        refine g_callVv C [(0, (h (p1 + 1) v2)), (0, (h (p1 + 2) v2)), (0, (h (p1 + 3) v2))] (sim_X1_add hWR hk hw) k_490 k_491 k_492 k_138 k_493 hdV_X1_add rfl rfl (by decide) rfl hk rfl rfl rfl dX1_copyOf_33 ?_
        intro h1 hw
        refine g_iincN C dX1_copyOf_36 rfl (by decide) (fun x1 ex1 => ?_)
        replace hw := hw x1 ex1
        refine g_goto C 6 dX1_copyOf_39 rfl ?_
        exact g_sub [2, 0, 1] rfl (hQ _ hw)
  show mG _ p l e _ s m args below meth c _ _ 0 [(0, (2, r)), (1, (2, p1))] [] h
  unfold wp_X1_copyOf at hw
  refine g_aload_n C dX1_copyOf_0 rfl (by decide) rfl ?_
  refine g_callVv C [] (sim_X1_clear hWR hk hw) k_489 k_259 k_260 k_138 k_261 hdV_X1_clear rfl rfl (by decide) rfl hk rfl rfl rfl dX1_copyOf_1 ?_
  intro h1 hw
  refine g_iconst C ⟨by decide, by decide⟩ dX1_copyOf_4 ?_
  refine g_istore_n C dX1_copyOf_5 rfl (by decide) ?_
  exact g_sub [2, 0, 1] rfl (hQ _ hw)
set_option maxRecDepth 20000 in
set_option maxHeartbeats 4000000 in
theorem sim_X1_removeLast {X : Mx} (hWR : mWir X) {r : Int} (hk : (mxS X r).1 = 0) {l : Launch} {h : Mh} {K : Mh → Prop} (hw : wp_X1_removeLast r h K) : mCal X l yX1_removeLast cX1_removeLast 1 none 0 0 [(2, r)] h (mKv K) := by
  refine m_entry RX1 rfl (by decide) rfl (fun p e s m args below meth c C hr => ?_)
  show mG _ p l e _ s m args below meth c _ _ 0 [(0, (2, r))] [] h
  unfold wp_X1_removeLast at hw
  refine g_aload_n C dX1_removeLast_0 rfl (by decide) rfl ?_
  refine gf_X1_27 C dX1_removeLast_1 hk (fun z1 => ?_)
  refine g_if_le C 17 dX1_removeLast_4 rfl hw (fun hw => ?_) (fun hw => ?_)
  · exact g_vret C hr dX1_removeLast_17 ⟨rfl, hw⟩
  · refine g_aload_n C dX1_removeLast_7 rfl (by decide) rfl ?_
    refine g_dup C (by show ¬ (2 : Nat) = 1; decide) dX1_removeLast_8 ?_
    refine gf_X1_27 C dX1_removeLast_9 hk (fun z9 => ?_)
    refine g_iconst C ⟨by decide, by decide⟩ dX1_removeLast_12 ?_
    refine g_isub C dX1_removeLast_13 ?_
    refine gp_X1_27 C dX1_removeLast_14 hk (fun z => z) ?_
    refine g_heap (fun h1 eh1 => ?_)
    replace hw := hw h1 eh1
    exact g_vret C hr dX1_removeLast_17 ⟨rfl, hw⟩
set_option maxRecDepth 20000 in
set_option maxHeartbeats 4000000 in
theorem sim_X5_isWet {X : Mx} (hWR : mWir X) {r : Int} (hk : (mxS X r).1 = 4) {l : Launch} {p1 : Int} {h : Mh} {K : Int → Mh → Prop} (hw : wp_X5_isWet r p1 h K) : mCal X l yX5_isWet cX5_isWet 2 (some Jvm.ClassFile.FieldType.boolean) 0 0 [(2, r), (0, p1)] h (mKz K) := by
  refine m_entry RX5 rfl (by decide) rfl (fun p e s m args below meth c C hr => ?_)
  show mG _ p l e _ s m args below meth c _ _ 0 [(0, (2, r)), (1, (0, p1))] [] h
  unfold wp_X5_isWet at hw
  refine g_iload_n C dX5_isWet_0 rfl rfl ?_
  refine g_if_lt C 34 dX5_isWet_1 rfl hw (fun hw => ?_) (fun hw => ?_)
  · refine g_iconst C ⟨by decide, by decide⟩ dX5_isWet_34 ?_
    exact g_zret C hr (Or.inl rfl) dX5_isWet_35 ⟨_, rfl, (Or.inl rfl), hw⟩
  · refine g_iload_n C dX5_isWet_4 rfl rfl ?_
    refine g_aload_n C dX5_isWet_5 rfl (by decide) rfl ?_
    refine gf_X5_68 C dX5_isWet_6 hk (fun z6 => ?_)
    refine g_aload_n C dX5_isWet_9 rfl (by decide) rfl ?_
    refine gf_X5_72 C dX5_isWet_10 hk (fun z10 => ?_)
    refine g_imul C dX5_isWet_13 ?_
    refine g_icmp_ge C 34 dX5_isWet_14 rfl hw (fun hw => ?_) (fun hw => ?_)
    · refine g_iconst C ⟨by decide, by decide⟩ dX5_isWet_34 ?_
      exact g_zret C hr (Or.inl rfl) dX5_isWet_35 ⟨_, rfl, (Or.inl rfl), hw⟩
    · refine g_aload_n C dX5_isWet_17 rfl (by decide) rfl ?_
      refine gf_X5_75 C dX5_isWet_18 hk (fun z18 => ?_)
      refine g_iload_n C dX5_isWet_21 rfl rfl ?_
      refine g_lushr C dX5_isWet_22 ?_
      refine g_lconst C 1 (Or.inr rfl) rfl dX5_isWet_23 ?_
      refine g_land C dX5_isWet_24 ?_
      refine g_lconst C 0 (Or.inl rfl) rfl dX5_isWet_25 ?_
      refine g_lcmp C dX5_isWet_26 ?_
      refine g_if_ne C 34 dX5_isWet_27 rfl hw (fun hw => ?_) (fun hw => ?_)
      · refine g_iconst C ⟨by decide, by decide⟩ dX5_isWet_34 ?_
        exact g_zret C hr (Or.inl rfl) dX5_isWet_35 ⟨_, rfl, (Or.inl rfl), hw⟩
      · refine g_iconst C ⟨by decide, by decide⟩ dX5_isWet_30 ?_
        refine g_goto C 35 dX5_isWet_31 rfl ?_
        exact g_zret C hr (Or.inr rfl) dX5_isWet_35 ⟨_, rfl, (Or.inr rfl), hw⟩
set_option maxRecDepth 20000 in
set_option maxHeartbeats 4000000 in
theorem sim_X5_risesOf {X : Mx} (hWR : mWir X) {r : Int} (hk : (mxS X r).1 = 4) {l : Launch} {p1 : Int} {h : Mh} {K : Int → Mh → Prop} (hw : wp_X5_risesOf (mxS X) r p1 h K) : mCal X l yX5_risesOf cX5_risesOf 2 (some (Jvm.ClassFile.FieldType.object "PondReader$Row")) 0 0 [(2, r), (0, p1)] h (mKr K) := by
  refine m_entry RX5 rfl (by decide) rfl (fun p e s m args below meth c C hr => ?_)
  show mG _ p l e _ s m args below meth c _ _ 0 [(0, (2, r)), (1, (0, p1))] [] h
  unfold wp_X5_risesOf at hw
  refine g_iload_n C dX5_risesOf_0 rfl rfl ?_
  refine g_if_lt C 22 dX5_risesOf_1 rfl hw (fun hw => ?_) (fun hw => ?_)
  · refine g_aload_n C dX5_risesOf_22 rfl (by decide) rfl ?_
    refine gw_X5_62 C dX5_risesOf_23 hk (wir_4_16 hWR hk) ?_
    exact g_aret C (by decide) hr (Or.inl ⟨_, rfl⟩) dX5_risesOf_26 ⟨_, rfl, hw⟩
  · refine g_iload_n C dX5_risesOf_4 rfl rfl ?_
    refine g_aload_n C dX5_risesOf_5 rfl (by decide) rfl ?_
    refine gw_X5_30 C dX5_risesOf_6 hk (wir_4_8 hWR hk) ?_
    refine g_alen2 C dX5_risesOf_9 (ci := 17) (by decide) (kid_4_8 hWR hk) ?_
    refine g_icmp_ge C 22 dX5_risesOf_10 rfl hw (fun hw => ?_) (fun hw => ?_)
    · refine g_aload_n C dX5_risesOf_22 rfl (by decide) rfl ?_
      refine gw_X5_62 C dX5_risesOf_23 hk (wir_4_16 hWR hk) ?_
      exact g_aret C (by decide) hr (Or.inl ⟨_, rfl⟩) dX5_risesOf_26 ⟨_, rfl, hw⟩
    · refine g_aload_n C dX5_risesOf_13 rfl (by decide) rfl ?_
      refine gw_X5_30 C dX5_risesOf_14 hk (wir_4_8 hWR hk) ?_
      refine g_iload_n C dX5_risesOf_17 rfl rfl ?_
      obtain ⟨⟨b1, b1b⟩, hw⟩ := hw
      refine g_aaload C dX5_risesOf_18 (kid_4_8 hWR hk) b1 b1b (wir_17 hWR (kid_4_8 hWR hk) b1 b1b) ?_
      refine g_goto C 26 dX5_risesOf_19 rfl ?_
      exact g_aret C (by decide) hr (Or.inl ⟨_, rfl⟩) dX5_risesOf_26 ⟨_, rfl, hw⟩
set_option maxRecDepth 20000 in
set_option maxHeartbeats 4000000 in
theorem sim_X7_orZero {X : Mx} (hWR : mWir X) {r : Int} (hk : (mxS X r).1 = 6) {l : Launch} {p1 : Int} {h : Mh} {K : Int → Mh → Prop} (hw : wp_X7_orZero (mxS X) r p1 h K) : mCal X l yX7_orZero cX7_orZero 2 (some Jvm.ClassFile.FieldType.int) 0 0 [(2, r), (0, p1)] h (mKi K) := by
  refine m_entry RX7 rfl (by decide) rfl (fun p e s m args below meth c C hr => ?_)
  show mG _ p l e _ s m args below meth c _ _ 0 [(0, (2, r)), (1, (0, p1))] [] h
  unfold wp_X7_orZero at hw
  refine g_iload_n C dX7_orZero_0 rfl rfl ?_
  refine g_if_lt C 30 dX7_orZero_1 rfl hw (fun hw => ?_) (fun hw => ?_)
  · refine g_iconst C ⟨by decide, by decide⟩ dX7_orZero_30 ?_
    exact g_iret C hr dX7_orZero_31 ⟨_, rfl, hw⟩
  · refine g_iload_n C dX7_orZero_4 rfl rfl ?_
    refine g_aload_n C dX7_orZero_5 rfl (by decide) rfl ?_
    refine gf_X7_21 C dX7_orZero_6 hk (fun z6 => ?_)
    refine g_icmp_ge C 30 dX7_orZero_9 rfl hw (fun hw => ?_) (fun hw => ?_)
    · refine g_iconst C ⟨by decide, by decide⟩ dX7_orZero_30 ?_
      exact g_iret C hr dX7_orZero_31 ⟨_, rfl, hw⟩
    · refine g_iload_n C dX7_orZero_12 rfl rfl ?_
      refine g_aload_n C dX7_orZero_13 rfl (by decide) rfl ?_
      refine gw_X7_15 C dX7_orZero_14 hk (wir_6_0 hWR hk) ?_
      refine g_alen2 C dX7_orZero_17 (ci := 14) (by decide) (kid_6_0 hWR hk) ?_
      refine g_icmp_ge C 30 dX7_orZero_18 rfl hw (fun hw => ?_) (fun hw => ?_)
      · refine g_iconst C ⟨by decide, by decide⟩ dX7_orZero_30 ?_
        exact g_iret C hr dX7_orZero_31 ⟨_, rfl, hw⟩
      · refine g_aload_n C dX7_orZero_21 rfl (by decide) rfl ?_
        refine gw_X7_15 C dX7_orZero_22 hk (wir_6_0 hWR hk) ?_
        refine g_iload_n C dX7_orZero_25 rfl rfl ?_
        obtain ⟨⟨b1, b1b⟩, hw⟩ := hw
        refine g_iaload C dX7_orZero_26 (kid_6_0 hWR hk) b1 b1b (fun z26 => ?_)
        refine g_goto C 31 dX7_orZero_27 rfl ?_
        exact g_iret C hr dX7_orZero_31 ⟨_, rfl, hw⟩
set_option maxRecDepth 20000 in
set_option maxHeartbeats 4000000 in
theorem sim_X5_cells {X : Mx} (hWR : mWir X) {r : Int} (hk : (mxS X r).1 = 4) {l : Launch} {h : Mh} {K : Int → Mh → Prop} (hw : wp_X5_cells r h K) : mCal X l yX5_cells cX5_cells 1 (some Jvm.ClassFile.FieldType.int) 0 0 [(2, r)] h (mKi K) := by
  refine m_entry RX5 rfl (by decide) rfl (fun p e s m args below meth c C hr => ?_)
  show mG _ p l e _ s m args below meth c _ _ 0 [(0, (2, r))] [] h
  unfold wp_X5_cells at hw
  refine g_aload_n C dX5_cells_0 rfl (by decide) rfl ?_
  refine gf_X5_68 C dX5_cells_1 hk (fun z1 => ?_)
  refine g_aload_n C dX5_cells_4 rfl (by decide) rfl ?_
  refine gf_X5_72 C dX5_cells_5 hk (fun z5 => ?_)
  refine g_imul C dX5_cells_8 ?_
  exact g_iret C hr dX5_cells_9 ⟨_, rfl, hw⟩
set_option maxRecDepth 20000 in
set_option maxHeartbeats 4000000 in
theorem sim_X5_isCell {X : Mx} (hWR : mWir X) {r : Int} (hk : (mxS X r).1 = 4) {l : Launch} {p1 : Int} {h : Mh} {K : Int → Mh → Prop} (hw : wp_X5_isCell r p1 h K) : mCal X l yX5_isCell cX5_isCell 2 (some Jvm.ClassFile.FieldType.boolean) 0 0 [(2, r), (0, p1)] h (mKz K) := by
  refine m_entry RX5 rfl (by decide) rfl (fun p e s m args below meth c C hr => ?_)
  show mG _ p l e _ s m args below meth c _ _ 0 [(0, (2, r)), (1, (0, p1))] [] h
  unfold wp_X5_isCell at hw
  refine g_iload_n C dX5_isCell_0 rfl rfl ?_
  refine g_if_lt C 21 dX5_isCell_1 rfl hw (fun hw => ?_) (fun hw => ?_)
  · refine g_iconst C ⟨by decide, by decide⟩ dX5_isCell_21 ?_
    exact g_zret C hr (Or.inl rfl) dX5_isCell_22 ⟨_, rfl, (Or.inl rfl), hw⟩
  · refine g_iload_n C dX5_isCell_4 rfl rfl ?_
    refine g_aload_n C dX5_isCell_5 rfl (by decide) rfl ?_
    refine gf_X5_68 C dX5_isCell_6 hk (fun z6 => ?_)
    refine g_aload_n C dX5_isCell_9 rfl (by decide) rfl ?_
    refine gf_X5_72 C dX5_isCell_10 hk (fun z10 => ?_)
    refine g_imul C dX5_isCell_13 ?_
    refine g_icmp_ge C 21 dX5_isCell_14 rfl hw (fun hw => ?_) (fun hw => ?_)
    · refine g_iconst C ⟨by decide, by decide⟩ dX5_isCell_21 ?_
      exact g_zret C hr (Or.inl rfl) dX5_isCell_22 ⟨_, rfl, (Or.inl rfl), hw⟩
    · refine g_iconst C ⟨by decide, by decide⟩ dX5_isCell_17 ?_
      refine g_goto C 22 dX5_isCell_18 rfl ?_
      exact g_zret C hr (Or.inr rfl) dX5_isCell_22 ⟨_, rfl, (Or.inr rfl), hw⟩
set_option maxRecDepth 20000 in
set_option maxHeartbeats 4000000 in
theorem sim_X1_inCell {X : Mx} (hWR : mWir X) {r : Int} (hk : (mxS X r).1 = 0) {l : Launch} {p1 : Int} {h : Mh} {K : Int → Mh → Prop} (hw : wp_X1_inCell (mxS X) r p1 h K) : mCal X l yX1_inCell cX1_inCell 4 (some Jvm.ClassFile.FieldType.int) 0 0 [(2, r), (0, p1)] h (mKi K) := by
  refine m_entry RX1 rfl (by decide) rfl (fun p e s m args below meth c C hr => ?_)
  have hQ : ∀ x, Lfp (F_X1_inCell (mxS X) r p1 K) x → (match x.1, x.2.1 with | 4, [v2, v3] => mG X p l e { frames := 0, cells := 0, slots := 0, locals := 0 } s m args below meth c 4 (mMQ X (mKi K) below args s) 4 [(2, (0, v2)), (3, (0, v3)), (0, (2, r)), (1, (0, p1))] [] x.2.2 | _, _ => True) := by
    intro x hx
    refine Lfp.ind (fun x => (match x.1, x.2.1 with | 4, [v2, v3] => mG X p l e { frames := 0, cells := 0, slots := 0, locals := 0 } s m args below meth c 4 (mMQ X (mKi K) below args s) 4 [(2, (0, v2)), (3, (0, v3)), (0, (2, r)), (1, (0, p1))] [] x.2.2 | _, _ => True)) ?_ hx
    clear hx x
    intro Z x hQ hw
    rcases hw with ⟨v2, v3, h, rfl, hw⟩
    · show mG X p l e { frames := 0, cells := 0, slots := 0, locals := 0 } s m args below meth c 4 (mMQ X (mKi K) below args s) 4 [(2, (0, v2)), (3, (0, v3)), (0, (2, r)), (1, (0, p1))] [] h
      unfold B_X1_inCell_4 at hw
      refine g_iload_n C dX1_inCell_4 rfl rfl ?_
      refine g_aload_n C dX1_inCell_5 rfl (by decide) rfl ?_
      refine gf_X1_27 C dX1_inCell_6 hk (fun z6 => ?_)
      refine g_icmp_ge C 31 dX1_inCell_9 rfl hw (fun hw => ?_) (fun hw => ?_)
      · refine g_iload_n C dX1_inCell_31 rfl rfl ?_
        exact g_iret C hr dX1_inCell_32 ⟨_, rfl, hw⟩
      · refine g_aload_n C dX1_inCell_12 rfl (by decide) rfl ?_
        refine gw_X1_21 C dX1_inCell_13 hk (wir_0_1 hWR hk) ?_
        refine g_iload_n C dX1_inCell_16 rfl rfl ?_
        obtain ⟨⟨b1, b1b⟩, hw⟩ := hw
        refine g_iaload C dX1_inCell_17 (kid_0_1 hWR hk) b1 b1b (fun z17 => ?_)
        refine g_iload_n C dX1_inCell_18 rfl rfl ?_
        refine g_icmp_ne C 25 dX1_inCell_19 rfl hw (fun hw => ?_) (fun hw => ?_)
        · refine g_iincN C dX1_inCell_25 rfl (by decide) (fun x1 ex1 => ?_)
          replace hw := hw x1 ex1
          refine g_goto C 4 dX1_inCell_28 rfl ?_
          exact g_sub [2, 3, 0, 1] rfl (hQ _ hw)
        · refine g_iincN C dX1_inCell_22 rfl (by decide) (fun x2 ex2 => ?_)
          replace hw := hw x2 ex2
          refine g_iincN C dX1_inCell_25 rfl (by decide) (fun x3 ex3 => ?_)
          replace hw := hw x3 ex3
          refine g_goto C 4 dX1_inCell_28 rfl ?_
          exact g_sub [2, 3, 0, 1] rfl (hQ _ hw)
  show mG _ p l e _ s m args below meth c _ _ 0 [(0, (2, r)), (1, (0, p1))] [] h
  unfold wp_X1_inCell at hw
  refine g_iconst C ⟨by decide, by decide⟩ dX1_inCell_0 ?_
  refine g_istore_n C dX1_inCell_1 rfl (by decide) ?_
  refine g_iconst C ⟨by decide, by decide⟩ dX1_inCell_2 ?_
  refine g_istore_n C dX1_inCell_3 rfl (by decide) ?_
  exact g_sub [2, 3, 0, 1] rfl (hQ _ hw)
set_option maxRecDepth 20000 in
set_option maxHeartbeats 4000000 in
theorem sim_X7_indexOf {X : Mx} (hWR : mWir X) {r : Int} (hk : (mxS X r).1 = 6) {l : Launch} {p1 : Int} {h : Mh} {K : Int → Mh → Prop} (hw : wp_X7_indexOf (mxS X) r p1 h K) : mCal X l yX7_indexOf cX7_indexOf 3 (some Jvm.ClassFile.FieldType.int) 0 0 [(2, r), (0, p1)] h (mKi K) := by
  refine m_entry RX7 rfl (by decide) rfl (fun p e s m args below meth c C hr => ?_)
  have hQ : ∀ x, Lfp (F_X7_indexOf (mxS X) r p1 K) x → (match x.1, x.2.1 with | 2, [v2] => mG X p l e { frames := 0, cells := 0, slots := 0, locals := 0 } s m args below meth c 3 (mMQ X (mKi K) below args s) 2 [(2, (0, v2)), (0, (2, r)), (1, (0, p1))] [] x.2.2 | _, _ => True) := by
    intro x hx
    refine Lfp.ind (fun x => (match x.1, x.2.1 with | 2, [v2] => mG X p l e { frames := 0, cells := 0, slots := 0, locals := 0 } s m args below meth c 3 (mMQ X (mKi K) below args s) 2 [(2, (0, v2)), (0, (2, r)), (1, (0, p1))] [] x.2.2 | _, _ => True)) ?_ hx
    clear hx x
    intro Z x hQ hw
    rcases hw with ⟨v2, h, rfl, hw⟩
    · show mG X p l e { frames := 0, cells := 0, slots := 0, locals := 0 } s m args below meth c 3 (mMQ X (mKi K) below args s) 2 [(2, (0, v2)), (0, (2, r)), (1, (0, p1))] [] h
      unfold B_X7_indexOf_2 at hw
      refine g_iload_n C dX7_indexOf_2 rfl rfl ?_
      refine g_aload_n C dX7_indexOf_3 rfl (by decide) rfl ?_
      refine gf_X7_21 C dX7_indexOf_4 hk (fun z4 => ?_)
      refine g_icmp_ge C 37 dX7_indexOf_7 rfl hw (fun hw => ?_) (fun hw => ?_)
      · refine g_iconst C ⟨by decide, by decide⟩ dX7_indexOf_37 ?_
        exact g_iret C hr dX7_indexOf_38 ⟨_, rfl, hw⟩
      · refine g_iload_n C dX7_indexOf_10 rfl rfl ?_
        refine g_aload_n C dX7_indexOf_11 rfl (by decide) rfl ?_
        refine gw_X7_15 C dX7_indexOf_12 hk (wir_6_0 hWR hk) ?_
        refine g_alen2 C dX7_indexOf_15 (ci := 14) (by decide) (kid_6_0 hWR hk) ?_
        refine g_icmp_ge C 37 dX7_indexOf_16 rfl hw (fun hw => ?_) (fun hw => ?_)
        · refine g_iconst C ⟨by decide, by decide⟩ dX7_indexOf_37 ?_
          exact g_iret C hr dX7_indexOf_38 ⟨_, rfl, hw⟩
        · refine g_aload_n C dX7_indexOf_19 rfl (by decide) rfl ?_
          refine gw_X7_15 C dX7_indexOf_20 hk (wir_6_0 hWR hk) ?_
          refine g_iload_n C dX7_indexOf_23 rfl rfl ?_
          obtain ⟨⟨b1, b1b⟩, hw⟩ := hw
          refine g_iaload C dX7_indexOf_24 (kid_6_0 hWR hk) b1 b1b (fun z24 => ?_)
          refine g_iload_n C dX7_indexOf_25 rfl rfl ?_
          refine g_icmp_ne C 31 dX7_indexOf_26 rfl hw (fun hw => ?_) (fun hw => ?_)
          · refine g_iincN C dX7_indexOf_31 rfl (by decide) (fun x1 ex1 => ?_)
            replace hw := hw x1 ex1
            refine g_goto C 2 dX7_indexOf_34 rfl ?_
            exact g_sub [2, 0, 1] rfl (hQ _ hw)
          · refine g_iload_n C dX7_indexOf_29 rfl rfl ?_
            exact g_iret C hr dX7_indexOf_30 ⟨_, rfl, hw⟩
  show mG _ p l e _ s m args below meth c _ _ 0 [(0, (2, r)), (1, (0, p1))] [] h
  unfold wp_X7_indexOf at hw
  refine g_iconst C ⟨by decide, by decide⟩ dX7_indexOf_0 ?_
  refine g_istore_n C dX7_indexOf_1 rfl (by decide) ?_
  exact g_sub [2, 0, 1] rfl (hQ _ hw)
set_option maxRecDepth 20000 in
set_option maxHeartbeats 4000000 in
theorem sim_X7_has {X : Mx} (hWR : mWir X) {r : Int} (hk : (mxS X r).1 = 6) {l : Launch} {p1 : Int} {h : Mh} {K : Int → Mh → Prop} (hw : wp_X7_has r p1 h K) : mCal X l yX7_has cX7_has 2 (some Jvm.ClassFile.FieldType.boolean) 0 0 [(2, r), (0, p1)] h (mKz K) := by
  refine m_entry RX7 rfl (by decide) rfl (fun p e s m args below meth c C hr => ?_)
  show mG _ p l e _ s m args below meth c _ _ 0 [(0, (2, r)), (1, (0, p1))] [] h
  unfold wp_X7_has at hw
  refine g_iload_n C dX7_has_0 rfl rfl ?_
  refine g_if_lt C 16 dX7_has_1 rfl hw (fun hw => ?_) (fun hw => ?_)
  · refine g_iconst C ⟨by decide, by decide⟩ dX7_has_16 ?_
    exact g_zret C hr (Or.inl rfl) dX7_has_17 ⟨_, rfl, (Or.inl rfl), hw⟩
  · refine g_iload_n C dX7_has_4 rfl rfl ?_
    refine g_aload_n C dX7_has_5 rfl (by decide) rfl ?_
    refine gf_X7_21 C dX7_has_6 hk (fun z6 => ?_)
    refine g_icmp_ge C 16 dX7_has_9 rfl hw (fun hw => ?_) (fun hw => ?_)
    · refine g_iconst C ⟨by decide, by decide⟩ dX7_has_16 ?_
      exact g_zret C hr (Or.inl rfl) dX7_has_17 ⟨_, rfl, (Or.inl rfl), hw⟩
    · refine g_iconst C ⟨by decide, by decide⟩ dX7_has_12 ?_
      refine g_goto C 17 dX7_has_13 rfl ?_
      exact g_zret C hr (Or.inr rfl) dX7_has_17 ⟨_, rfl, (Or.inr rfl), hw⟩
set_option maxRecDepth 20000 in
set_option maxHeartbeats 4000000 in
theorem sim_X1_part {X : Mx} (hWR : mWir X) {r : Int} (hk : (mxS X r).1 = 0) {l : Launch} {p1 : Int} {p2 : Int} {h : Mh} {K : Int → Mh → Prop} (hw : wp_X1_part (mxS X) r p1 p2 h K) : mCal X l yX1_part cX1_part 3 (some Jvm.ClassFile.FieldType.int) 0 0 [(2, r), (0, p1), (0, p2)] h (mKi K) := by
  refine m_entry RX1 rfl (by decide) rfl (fun p e s m args below meth c C hr => ?_)
  show mG _ p l e _ s m args below meth c _ _ 0 [(0, (2, r)), (1, (0, p1)), (2, (0, p2))] [] h
  unfold wp_X1_part at hw
  refine g_iload_n C dX1_part_0 rfl rfl ?_
  refine g_if_lt C 12 dX1_part_1 rfl hw (fun hw => ?_) (fun hw => ?_)
  · refine g_iconst C ⟨by decide, by decide⟩ dX1_part_12 ?_
    exact g_iret C hr dX1_part_13 ⟨_, rfl, hw⟩
  · refine g_iload_n C dX1_part_4 rfl rfl ?_
    refine g_aload_n C dX1_part_5 rfl (by decide) rfl ?_
    refine gf_X1_27 C dX1_part_6 hk (fun z6 => ?_)
    refine g_icmp_lt C 14 dX1_part_9 rfl hw (fun hw => ?_) (fun hw => ?_)
    · refine g_iload_n C dX1_part_14 rfl rfl ?_
      by_cases c0 : p2 = 0
      · rw [if_pos c0] at hw
        refine g_tabIn C 40 0 dX1_part_15 c0 (by decide) (by decide) rfl rfl ?_
        refine g_aload_n C dX1_part_40 rfl (by decide) rfl ?_
        refine gw_X1_15 C dX1_part_41 hk (wir_0_0 hWR hk) ?_
        refine g_iload_n C dX1_part_44 rfl rfl ?_
        obtain ⟨⟨b1, b1b⟩, hw⟩ := hw
        refine g_iaload C dX1_part_45 (kid_0_0 hWR hk) b1 b1b (fun z45 => ?_)
        exact g_iret C hr dX1_part_46 ⟨_, rfl, hw⟩
      rw [if_neg c0] at hw
      by_cases c1 : p2 = 1
      · rw [if_pos c1] at hw
        refine g_tabIn C 47 1 dX1_part_15 c1 (by decide) (by decide) rfl rfl ?_
        refine g_aload_n C dX1_part_47 rfl (by decide) rfl ?_
        refine gw_X1_21 C dX1_part_48 hk (wir_0_1 hWR hk) ?_
        refine g_iload_n C dX1_part_51 rfl rfl ?_
        obtain ⟨⟨b2, b2b⟩, hw⟩ := hw
        refine g_iaload C dX1_part_52 (kid_0_1 hWR hk) b2 b2b (fun z52 => ?_)
        exact g_iret C hr dX1_part_53 ⟨_, rfl, hw⟩
      rw [if_neg c1] at hw
      by_cases c2 : p2 = 2
      · rw [if_pos c2] at hw
        refine g_tabIn C 54 2 dX1_part_15 c2 (by decide) (by decide) rfl rfl ?_
        refine g_aload_n C dX1_part_54 rfl (by decide) rfl ?_
        refine gw_X1_24 C dX1_part_55 hk (wir_0_2 hWR hk) ?_
        refine g_iload_n C dX1_part_58 rfl rfl ?_
        obtain ⟨⟨b3, b3b⟩, hw⟩ := hw
        refine g_iaload C dX1_part_59 (kid_0_2 hWR hk) b3 b3b (fun z59 => ?_)
        exact g_iret C hr dX1_part_60 ⟨_, rfl, hw⟩
      rw [if_neg c2] at hw
      refine g_tabOut C 61 dX1_part_15 (by omega) rfl ?_
      refine g_iconst C ⟨by decide, by decide⟩ dX1_part_61 ?_
      exact g_iret C hr dX1_part_62 ⟨_, rfl, hw⟩
    · refine g_iconst C ⟨by decide, by decide⟩ dX1_part_12 ?_
      exact g_iret C hr dX1_part_13 ⟨_, rfl, hw⟩
set_option maxRecDepth 20000 in
set_option maxHeartbeats 4000000 in
theorem sim_X1_isFull {X : Mx} (hWR : mWir X) {r : Int} (hk : (mxS X r).1 = 0) {l : Launch} {h : Mh} {K : Int → Mh → Prop} (hw : wp_X1_isFull (mxS X) r h K) : mCal X l yX1_isFull cX1_isFull 1 (some Jvm.ClassFile.FieldType.boolean) 0 0 [(2, r)] h (mKz K) := by
  refine m_entry RX1 rfl (by decide) rfl (fun p e s m args below meth c C hr => ?_)
  show mG _ p l e _ s m args below meth c _ _ 0 [(0, (2, r))] [] h
  unfold wp_X1_isFull at hw
  refine g_aload_n C dX1_isFull_0 rfl (by decide) rfl ?_
  refine gf_X1_27 C dX1_isFull_1 hk (fun z1 => ?_)
  refine g_aload_n C dX1_isFull_4 rfl (by decide) rfl ?_
  refine gw_X1_15 C dX1_isFull_5 hk (wir_0_0 hWR hk) ?_
  refine g_alen2 C dX1_isFull_8 (ci := 14) (by decide) (kid_0_0 hWR hk) ?_
  refine g_icmp_lt C 16 dX1_isFull_9 rfl hw (fun hw => ?_) (fun hw => ?_)
  · refine g_iconst C ⟨by decide, by decide⟩ dX1_isFull_16 ?_
    exact g_zret C hr (Or.inl rfl) dX1_isFull_17 ⟨_, rfl, (Or.inl rfl), hw⟩
  · refine g_iconst C ⟨by decide, by decide⟩ dX1_isFull_12 ?_
    refine g_goto C 17 dX1_isFull_13 rfl ?_
    exact g_zret C hr (Or.inr rfl) dX1_isFull_17 ⟨_, rfl, (Or.inr rfl), hw⟩
set_option maxRecDepth 20000 in
set_option maxHeartbeats 4000000 in
theorem sim_X7_add {X : Mx} (hWR : mWir X) {r : Int} (hk : (mxS X r).1 = 6) {l : Launch} {p1 : Int} {h : Mh} {K : Mh → Prop} (hw : wp_X7_add (mxS X) r p1 h K) : mCal X l yX7_add cX7_add 2 none 0 0 [(2, r), (0, p1)] h (mKv K) := by
  refine m_entry RX7 rfl (by decide) rfl (fun p e s m args below meth c C hr => ?_)
  show mG _ p l e _ s m args below meth c _ _ 0 [(0, (2, r)), (1, (0, p1))] [] h
  unfold wp_X7_add at hw
  refine g_aload_n C dX7_add_0 rfl (by decide) rfl ?_
  refine gf_X7_21 C dX7_add_1 hk (fun z1 => ?_)
  refine g_if_lt C 39 dX7_add_4 rfl hw (fun hw => ?_) (fun hw => ?_)
  · exact g_vret C hr dX7_add_39 ⟨rfl, hw⟩
  · refine g_aload_n C dX7_add_7 rfl (by decide) rfl ?_
    refine gf_X7_21 C dX7_add_8 hk (fun z8 => ?_)
    refine g_aload_n C dX7_add_11 rfl (by decide) rfl ?_
    refine gw_X7_15 C dX7_add_12 hk (wir_6_0 hWR hk) ?_
    refine g_alen2 C dX7_add_15 (ci := 14) (by decide) (kid_6_0 hWR hk) ?_
    refine g_icmp_ge C 39 dX7_add_16 rfl hw (fun hw => ?_) (fun hw => ?_)
    · exact g_vret C hr dX7_add_39 ⟨rfl, hw⟩
    · refine g_aload_n C dX7_add_19 rfl (by decide) rfl ?_
      refine gw_X7_15 C dX7_add_20 hk (wir_6_0 hWR hk) ?_
      refine g_aload_n C dX7_add_23 rfl (by decide) rfl ?_
      refine gf_X7_21 C dX7_add_24 hk (fun z24 => ?_)
      refine g_iload_n C dX7_add_27 rfl rfl ?_
      obtain ⟨⟨b1, b1b⟩, hw⟩ := hw
      refine g_iastore C dX7_add_28 (kid_6_0 hWR hk) b1 b1b (fun z => z) ?_
      refine g_heap (fun h1 eh1 => ?_)
      replace hw := hw h1 eh1
      refine g_aload_n C dX7_add_29 rfl (by decide) rfl ?_
      refine g_dup C (by show ¬ (2 : Nat) = 1; decide) dX7_add_30 ?_
      refine gf_X7_21 C dX7_add_31 hk (fun z31 => ?_)
      refine g_iconst C ⟨by decide, by decide⟩ dX7_add_34 ?_
      refine g_iadd C dX7_add_35 ?_
      refine gp_X7_21 C dX7_add_36 hk (fun z => z) ?_
      refine g_heap (fun h2 eh2 => ?_)
      replace hw := hw h2 eh2
      exact g_vret C hr dX7_add_39 ⟨rfl, hw⟩
set_option maxRecDepth 20000 in
set_option maxHeartbeats 4000000 in
theorem sim_X7_clear {X : Mx} (hWR : mWir X) {r : Int} (hk : (mxS X r).1 = 6) {l : Launch} {h : Mh} {K : Mh → Prop} (hw : wp_X7_clear r h K) : mCal X l yX7_clear cX7_clear 1 none 0 0 [(2, r)] h (mKv K) := by
  refine m_entry RX7 rfl (by decide) rfl (fun p e s m args below meth c C hr => ?_)
  show mG _ p l e _ s m args below meth c _ _ 0 [(0, (2, r))] [] h
  unfold wp_X7_clear at hw
  refine g_aload_n C dX7_clear_0 rfl (by decide) rfl ?_
  refine g_iconst C ⟨by decide, by decide⟩ dX7_clear_1 ?_
  refine gp_X7_21 C dX7_clear_2 hk (fun z => z) ?_
  refine g_heap (fun h1 eh1 => ?_)
  replace hw := hw h1 eh1
  exact g_vret C hr dX7_clear_5 ⟨rfl, hw⟩
set_option maxRecDepth 20000 in
set_option maxHeartbeats 4000000 in
theorem sim_X3_isEmpty {X : Mx} (hWR : mWir X) {r : Int} (hk : (mxS X r).1 = 2) {l : Launch} {h : Mh} {K : Int → Mh → Prop} (hw : wp_X3_isEmpty r h K) : mCal X l yX3_isEmpty cX3_isEmpty 1 (some Jvm.ClassFile.FieldType.boolean) 0 0 [(2, r)] h (mKz K) := by
  refine m_entry RX3 rfl (by decide) rfl (fun p e s m args below meth c C hr => ?_)
  show mG _ p l e _ s m args below meth c _ _ 0 [(0, (2, r))] [] h
  unfold wp_X3_isEmpty at hw
  refine g_aload_n C dX3_isEmpty_0 rfl (by decide) rfl ?_
  refine gf_X3_25 C dX3_isEmpty_1 hk (fun z1 => ?_)
  refine g_if_ne C 11 dX3_isEmpty_4 rfl hw (fun hw => ?_) (fun hw => ?_)
  · refine g_iconst C ⟨by decide, by decide⟩ dX3_isEmpty_11 ?_
    exact g_zret C hr (Or.inl rfl) dX3_isEmpty_12 ⟨_, rfl, (Or.inl rfl), hw⟩
  · refine g_iconst C ⟨by decide, by decide⟩ dX3_isEmpty_7 ?_
    refine g_goto C 12 dX3_isEmpty_8 rfl ?_
    exact g_zret C hr (Or.inr rfl) dX3_isEmpty_12 ⟨_, rfl, (Or.inr rfl), hw⟩
set_option maxRecDepth 20000 in
set_option maxHeartbeats 4000000 in
theorem sim_X3_joined {X : Mx} {l : Launch} {p0 : Int} {p1 : Int} {p3 : Int} {h : Mh} {K : Int → Mh → Prop} (hw : wp_X3_joined p0 p1 p3 h K) : mCal X l yX3_joined cX3_joined 5 (some Jvm.ClassFile.FieldType.long) 1 21 [(0, p0), (1, p1), (1, p3)] h (mKl K) := by
  refine m_entry RX3 rfl (by decide) rfl (fun p e s m args below meth c C hr => ?_)
  show mG _ p l e _ s m args below meth c _ _ 0 [(0, (0, p0)), (1, (1, p1)), (3, (1, p3))] [] h
  unfold wp_X3_joined at hw
  refine g_iload_n C dX3_joined_0 rfl rfl ?_
  by_cases c0 : p0 = 7
  · rw [if_pos c0] at hw
    refine g_tabIn C 64 7 dX3_joined_1 c0 (by decide) (by decide) rfl rfl ?_
    refine g_lload_n C dX3_joined_64 rfl rfl ?_
    refine g_lconst C 0 (Or.inl rfl) rfl dX3_joined_65 ?_
    refine g_lcmp C dX3_joined_66 ?_
    refine g_if_ne C 76 dX3_joined_67 rfl hw (fun hw => ?_) (fun hw => ?_)
    · refine g_lconst C 1 (Or.inr rfl) rfl dX3_joined_76 ?_
      refine g_goto C 81 dX3_joined_77 rfl ?_
      exact g_lret C hr dX3_joined_81 ⟨_, rfl, hw⟩
    · refine g_lload_n C dX3_joined_70 rfl rfl ?_
      refine g_lconst C 0 (Or.inl rfl) rfl dX3_joined_71 ?_
      refine g_lcmp C dX3_joined_72 ?_
      refine g_if_eq C 80 dX3_joined_73 rfl hw (fun hw => ?_) (fun hw => ?_)
      · refine g_lconst C 0 (Or.inl rfl) rfl dX3_joined_80 ?_
        exact g_lret C hr dX3_joined_81 ⟨_, rfl, hw⟩
      · refine g_lconst C 1 (Or.inr rfl) rfl dX3_joined_76 ?_
        refine g_goto C 81 dX3_joined_77 rfl ?_
        exact g_lret C hr dX3_joined_81 ⟨_, rfl, hw⟩
  rw [if_neg c0] at hw
  by_cases c1 : p0 = 8
  · rw [if_pos c1] at hw
    refine g_tabIn C 82 8 dX3_joined_1 c1 (by decide) (by decide) rfl rfl ?_
    refine g_lload_n C dX3_joined_82 rfl rfl ?_
    refine g_lconst C 0 (Or.inl rfl) rfl dX3_joined_83 ?_
    refine g_lcmp C dX3_joined_84 ?_
    refine g_if_eq C 98 dX3_joined_85 rfl hw (fun hw => ?_) (fun hw => ?_)
    · refine g_lconst C 0 (Or.inl rfl) rfl dX3_joined_98 ?_
      exact g_lret C hr dX3_joined_99 ⟨_, rfl, hw⟩
    · refine g_lload_n C dX3_joined_88 rfl rfl ?_
      refine g_lconst C 0 (Or.inl rfl) rfl dX3_joined_89 ?_
      refine g_lcmp C dX3_joined_90 ?_
      refine g_if_eq C 98 dX3_joined_91 rfl hw (fun hw => ?_) (fun hw => ?_)
      · refine g_lconst C 0 (Or.inl rfl) rfl dX3_joined_98 ?_
        exact g_lret C hr dX3_joined_99 ⟨_, rfl, hw⟩
      · refine g_lconst C 1 (Or.inr rfl) rfl dX3_joined_94 ?_
        refine g_goto C 99 dX3_joined_95 rfl ?_
        exact g_lret C hr dX3_joined_99 ⟨_, rfl, hw⟩
  rw [if_neg c1] at hw
  by_cases c2 : p0 = 9
  · rw [if_pos c2] at hw
    refine g_tabIn C 100 9 dX3_joined_1 c2 (by decide) (by decide) rfl rfl ?_
    refine g_lload_n C dX3_joined_100 rfl rfl ?_
    refine g_lload_n C dX3_joined_101 rfl rfl ?_
    refine g_lcmp C dX3_joined_102 ?_
    refine g_if_ge C 110 dX3_joined_103 rfl hw (fun hw => ?_) (fun hw => ?_)
    · refine g_lconst C 0 (Or.inl rfl) rfl dX3_joined_110 ?_
      exact g_lret C hr dX3_joined_111 ⟨_, rfl, hw⟩
    · refine g_lconst C 1 (Or.inr rfl) rfl dX3_joined_106 ?_
      refine g_goto C 111 dX3_joined_107 rfl ?_
      exact g_lret C hr dX3_joined_111 ⟨_, rfl, hw⟩
  rw [if_neg c2] at hw
  by_cases c3 : p0 = 10
  · rw [if_pos c3] at hw
    refine g_tabIn C 112 10 dX3_joined_1 c3 (by decide) (by decide) rfl rfl ?_
    refine g_lload_n C dX3_joined_112 rfl rfl ?_
    refine g_lload_n C dX3_joined_113 rfl rfl ?_
    refine g_lcmp C dX3_joined_114 ?_
    refine g_if_gt C 122 dX3_joined_115 rfl hw (fun hw => ?_) (fun hw => ?_)
    · refine g_lconst C 0 (Or.inl rfl) rfl dX3_joined_122 ?_
      exact g_lret C hr dX3_joined_123 ⟨_, rfl, hw⟩
    · refine g_lconst C 1 (Or.inr rfl) rfl dX3_joined_118 ?_
      refine g_goto C 123 dX3_joined_119 rfl ?_
      exact g_lret C hr dX3_joined_123 ⟨_, rfl, hw⟩
  rw [if_neg c3] at hw
  by_cases c4 : p0 = 11
  · rw [if_pos c4] at hw
    refine g_tabIn C 124 11 dX3_joined_1 c4 (by decide) (by decide) rfl rfl ?_
    refine g_lload_n C dX3_joined_124 rfl rfl ?_
    refine g_lload_n C dX3_joined_125 rfl rfl ?_
    refine g_lcmp C dX3_joined_126 ?_
    refine g_if_ne C 134 dX3_joined_127 rfl hw (fun hw => ?_) (fun hw => ?_)
    · refine g_lconst C 0 (Or.inl rfl) rfl dX3_joined_134 ?_
      exact g_lret C hr dX3_joined_135 ⟨_, rfl, hw⟩
    · refine g_lconst C 1 (Or.inr rfl) rfl dX3_joined_130 ?_
      refine g_goto C 135 dX3_joined_131 rfl ?_
      exact g_lret C hr dX3_joined_135 ⟨_, rfl, hw⟩
  rw [if_neg c4] at hw
  by_cases c5 : p0 = 12
  · rw [if_pos c5] at hw
    refine g_tabIn C 136 12 dX3_joined_1 c5 (by decide) (by decide) rfl rfl ?_
    refine g_lload_n C dX3_joined_136 rfl rfl ?_
    refine g_lload_n C dX3_joined_137 rfl rfl ?_
    refine g_lcmp C dX3_joined_138 ?_
    refine g_if_eq C 146 dX3_joined_139 rfl hw (fun hw => ?_) (fun hw => ?_)
    · refine g_lconst C 0 (Or.inl rfl) rfl dX3_joined_146 ?_
      exact g_lret C hr dX3_joined_147 ⟨_, rfl, hw⟩
    · refine g_lconst C 1 (Or.inr rfl) rfl dX3_joined_142 ?_
      refine g_goto C 147 dX3_joined_143 rfl ?_
      exact g_lret C hr dX3_joined_147 ⟨_, rfl, hw⟩
  rw [if_neg c5] at hw
  by_cases c6 : p0 = 13
  · rw [if_pos c6] at hw
    refine g_tabIn C 148 13 dX3_joined_1 c6 (by decide) (by decide) rfl rfl ?_
    refine g_lload_n C dX3_joined_148 rfl rfl ?_
    refine g_lload_n C dX3_joined_149 rfl rfl ?_
    refine g_lcmp C dX3_joined_150 ?_
    refine g_if_lt C 158 dX3_joined_151 rfl hw (fun hw => ?_) (fun hw => ?_)
    · refine g_lconst C 0 (Or.inl rfl) rfl dX3_joined_158 ?_
      exact g_lret C hr dX3_joined_159 ⟨_, rfl, hw⟩
    · refine g_lconst C 1 (Or.inr rfl) rfl dX3_joined_154 ?_
      refine g_goto C 159 dX3_joined_155 rfl ?_
      exact g_lret C hr dX3_joined_159 ⟨_, rfl, hw⟩
  rw [if_neg c6] at hw
  by_cases c7 : p0 = 14
  · rw [if_pos c7] at hw
    refine g_tabIn C 160 14 dX3_joined_1 c7 (by decide) (by decide) rfl rfl ?_
    refine g_lload_n C dX3_joined_160 rfl rfl ?_
    refine g_lload_n C dX3_joined_161 rfl rfl ?_
    refine g_lcmp C dX3_joined_162 ?_
    refine g_if_le C 170 dX3_joined_163 rfl hw (fun hw => ?_) (fun hw => ?_)
    · refine g_lconst C 0 (Or.inl rfl) rfl dX3_joined_170 ?_
      exact g_lret C hr dX3_joined_171 ⟨_, rfl, hw⟩
    · refine g_lconst C 1 (Or.inr rfl) rfl dX3_joined_166 ?_
      refine g_goto C 171 dX3_joined_167 rfl ?_
      exact g_lret C hr dX3_joined_171 ⟨_, rfl, hw⟩
  rw [if_neg c7] at hw
  by_cases c8 : p0 = 15
  · rw [if_pos c8] at hw
    refine g_tabIn C 172 15 dX3_joined_1 c8 (by decide) (by decide) rfl rfl ?_
    refine g_lload_n C dX3_joined_172 rfl rfl ?_
    refine g_lload_n C dX3_joined_173 rfl rfl ?_
    refine g_ladd C dX3_joined_174 ?_
    exact g_lret C hr dX3_joined_175 ⟨_, rfl, hw⟩
  rw [if_neg c8] at hw
  by_cases c9 : p0 = 16
  · rw [if_pos c9] at hw
    refine g_tabIn C 176 16 dX3_joined_1 c9 (by decide) (by decide) rfl rfl ?_
    refine g_lload_n C dX3_joined_176 rfl rfl ?_
    refine g_lload_n C dX3_joined_177 rfl rfl ?_
    refine g_lsub C dX3_joined_178 ?_
    exact g_lret C hr dX3_joined_179 ⟨_, rfl, hw⟩
  rw [if_neg c9] at hw
  by_cases c10 : p0 = 17
  · rw [if_pos c10] at hw
    refine g_tabIn C 180 17 dX3_joined_1 c10 (by decide) (by decide) rfl rfl ?_
    refine g_lload_n C dX3_joined_180 rfl rfl ?_
    refine g_lconst C 0 (Or.inl rfl) rfl dX3_joined_181 ?_
    refine g_lcmp C dX3_joined_182 ?_
    refine g_if_ne C 190 dX3_joined_183 rfl hw (fun hw => ?_) (fun hw => ?_)
    · refine g_lload_n C dX3_joined_190 rfl rfl ?_
      refine g_mabsl C k_1151 k_1152 k_137 k_1153 rfl rfl rfl dX3_joined_191 ?_
      refine g_ldc2 C ⟨by decide, by decide⟩ k_1154 dX3_joined_194 ?_
      refine g_lload_n C dX3_joined_197 rfl rfl ?_
      refine g_mabsl C k_1151 k_1152 k_137 k_1153 rfl rfl rfl dX3_joined_198 ?_
      obtain ⟨z0, hw⟩ := hw
      refine g_ldiv C z0 dX3_joined_201 ?_
      refine g_lcmp C dX3_joined_202 ?_
      refine g_if_le C 212 dX3_joined_203 rfl hw (fun hw => ?_) (fun hw => ?_)
      · refine g_lload_n C dX3_joined_212 rfl rfl ?_
        refine g_lload_n C dX3_joined_213 rfl rfl ?_
        refine g_lmul C dX3_joined_214 ?_
        exact g_lret C hr dX3_joined_215 ⟨_, rfl, hw⟩
      · refine g_ldc2 C ⟨by decide, by decide⟩ k_1147 dX3_joined_206 ?_
        refine g_goto C 215 dX3_joined_209 rfl ?_
        exact g_lret C hr dX3_joined_215 ⟨_, rfl, hw⟩
    · refine g_lconst C 0 (Or.inl rfl) rfl dX3_joined_186 ?_
      refine g_goto C 215 dX3_joined_187 rfl ?_
      exact g_lret C hr dX3_joined_215 ⟨_, rfl, hw⟩
  rw [if_neg c10] at hw
  by_cases c11 : p0 = 18
  · rw [if_pos c11] at hw
    refine g_tabIn C 216 18 dX3_joined_1 c11 (by decide) (by decide) rfl rfl ?_
    refine g_lload_n C dX3_joined_216 rfl rfl ?_
    refine g_lconst C 0 (Or.inl rfl) rfl dX3_joined_217 ?_
    refine g_lcmp C dX3_joined_218 ?_
    refine g_if_ne C 228 dX3_joined_219 rfl hw (fun hw => ?_) (fun hw => ?_)
    · refine g_lload_n C dX3_joined_228 rfl rfl ?_
      refine g_lload_n C dX3_joined_229 rfl rfl ?_
      obtain ⟨z0, hw⟩ := hw
      refine g_ldiv C z0 dX3_joined_230 ?_
      exact g_lret C hr dX3_joined_231 ⟨_, rfl, hw⟩
    · refine g_ldc2 C ⟨by decide, by decide⟩ k_1147 dX3_joined_222 ?_
      refine g_goto C 231 dX3_joined_225 rfl ?_
      exact g_lret C hr dX3_joined_231 ⟨_, rfl, hw⟩
  rw [if_neg c11] at hw
  refine g_tabOut C 232 dX3_joined_1 (by omega) rfl ?_
  refine g_ldc2 C ⟨by decide, by decide⟩ k_1147 dX3_joined_232 ?_
  exact g_lret C hr dX3_joined_235 ⟨_, rfl, hw⟩
set_option maxRecDepth 20000 in
set_option maxHeartbeats 4000000 in
theorem sim_X3_worth {X : Mx} (hWR : mWir X) {r : Int} (hk : (mxS X r).1 = 2) {l : Launch} {p1 : Int} {p2 : Int} {p3 : Int} {p4 : Int} {p5 : Int} {h : Mh} {K : Int → Mh → Prop} (hw : wp_X3_worth (mxS X) r p1 p2 p3 p4 p5 h K) : mCal X l yX3_worth cX3_worth 13 (some Jvm.ClassFile.FieldType.long) 2 45 [(2, r), (0, p1), (0, p2), (0, p3), (0, p4), (0, p5)] h (mKl K) := by
  refine m_entry RX3 rfl (by decide) rfl (fun p e s m args below meth c C hr => ?_)
  have hQ : ∀ x, Lfp (F_X3_worth (mxS X) r p1 p2 p3 p4 p5 K) x → (match x.1, x.2.1 with | 48, [v6, v7] => mG X p l e { frames := 2, cells := 0, slots := 0, locals := 45 } s m args below meth c 13 (mMQ X (mKl K) below args s) 48 [(6, (0, v6)), (7, (0, v7)), (0, (2, r)), (1, (0, p1)), (2, (0, p2)), (3, (0, p3)), (4, (0, p4)), (5, (0, p5))] [] x.2.2 | 95, [v6, v7, v8, s0] => mG X p l e { frames := 2, cells := 0, slots := 0, locals := 45 } s m args below meth c 13 (mMQ X (mKl K) below args s) 95 [(6, (0, v6)), (7, (0, v7)), (8, (0, v8)), (0, (2, r)), (1, (0, p1)), (2, (0, p2)), (3, (0, p3)), (4, (0, p4)), (5, (0, p5))] [(0, s0)] x.2.2 | 213, [v7, v10, s0] => mG X p l e { frames := 2, cells := 0, slots := 0, locals := 45 } s m args below meth c 13 (mMQ X (mKl K) below args s) 213 [(7, (0, v7)), (10, (0, v10)), (0, (2, r)), (1, (0, p1)), (2, (0, p2)), (3, (0, p3)), (4, (0, p4)), (5, (0, p5))] [(1, s0)] x.2.2 | 188, [v7, v10, s0] => mG X p l e { frames := 2, cells := 0, slots := 0, locals := 45 } s m args below meth c 13 (mMQ X (mKl K) below args s) 188 [(7, (0, v7)), (10, (0, v10)), (0, (2, r)), (1, (0, p1)), (2, (0, p2)), (3, (0, p3)), (4, (0, p4)), (5, (0, p5))] [(0, s0)] x.2.2 | 160, [v7, v10, s0] => mG X p l e { frames := 2, cells := 0, slots := 0, locals := 45 } s m args below meth c 13 (mMQ X (mKl K) below args s) 160 [(7, (0, v7)), (10, (0, v10)), (0, (2, r)), (1, (0, p1)), (2, (0, p2)), (3, (0, p3)), (4, (0, p4)), (5, (0, p5))] [(1, s0)] x.2.2 | _, _ => True) := by
    intro x hx
    refine Lfp.ind (fun x => (match x.1, x.2.1 with | 48, [v6, v7] => mG X p l e { frames := 2, cells := 0, slots := 0, locals := 45 } s m args below meth c 13 (mMQ X (mKl K) below args s) 48 [(6, (0, v6)), (7, (0, v7)), (0, (2, r)), (1, (0, p1)), (2, (0, p2)), (3, (0, p3)), (4, (0, p4)), (5, (0, p5))] [] x.2.2 | 95, [v6, v7, v8, s0] => mG X p l e { frames := 2, cells := 0, slots := 0, locals := 45 } s m args below meth c 13 (mMQ X (mKl K) below args s) 95 [(6, (0, v6)), (7, (0, v7)), (8, (0, v8)), (0, (2, r)), (1, (0, p1)), (2, (0, p2)), (3, (0, p3)), (4, (0, p4)), (5, (0, p5))] [(0, s0)] x.2.2 | 213, [v7, v10, s0] => mG X p l e { frames := 2, cells := 0, slots := 0, locals := 45 } s m args below meth c 13 (mMQ X (mKl K) below args s) 213 [(7, (0, v7)), (10, (0, v10)), (0, (2, r)), (1, (0, p1)), (2, (0, p2)), (3, (0, p3)), (4, (0, p4)), (5, (0, p5))] [(1, s0)] x.2.2 | 188, [v7, v10, s0] => mG X p l e { frames := 2, cells := 0, slots := 0, locals := 45 } s m args below meth c 13 (mMQ X (mKl K) below args s) 188 [(7, (0, v7)), (10, (0, v10)), (0, (2, r)), (1, (0, p1)), (2, (0, p2)), (3, (0, p3)), (4, (0, p4)), (5, (0, p5))] [(0, s0)] x.2.2 | 160, [v7, v10, s0] => mG X p l e { frames := 2, cells := 0, slots := 0, locals := 45 } s m args below meth c 13 (mMQ X (mKl K) below args s) 160 [(7, (0, v7)), (10, (0, v10)), (0, (2, r)), (1, (0, p1)), (2, (0, p2)), (3, (0, p3)), (4, (0, p4)), (5, (0, p5))] [(1, s0)] x.2.2 | _, _ => True)) ?_ hx
    clear hx x
    intro Z x hQ hw
    rcases hw with ⟨v6, v7, h, rfl, hw⟩ | ⟨v6, v7, v8, s0, h, rfl, hw⟩ | ⟨v7, v10, s0, h, rfl, hw⟩ | ⟨v7, v10, s0, h, rfl, hw⟩ | ⟨v7, v10, s0, h, rfl, hw⟩
    · show mG X p l e { frames := 2, cells := 0, slots := 0, locals := 45 } s m args below meth c 13 (mMQ X (mKl K) below args s) 48 [(6, (0, v6)), (7, (0, v7)), (0, (2, r)), (1, (0, p1)), (2, (0, p2)), (3, (0, p3)), (4, (0, p4)), (5, (0, p5))] [] h
      unfold B_X3_worth_48 at hw
      refine g_iload C dX3_worth_48 rfl ?_
      refine g_aload_n C dX3_worth_50 rfl (by decide) rfl ?_
      refine gf_X3_25 C dX3_worth_51 hk (fun z51 => ?_)
      refine g_icmp_ge C 258 dX3_worth_54 rfl hw (fun hw => ?_) (fun hw => ?_)
      · refine g_iload C dX3_worth_258 rfl ?_
        refine g_iconst C ⟨by decide, by decide⟩ dX3_worth_260 ?_
        refine g_icmp_ne C 273 dX3_worth_261 rfl hw (fun hw => ?_) (fun hw => ?_)
        · refine g_ldc2 C ⟨by decide, by decide⟩ k_1147 dX3_worth_273 ?_
          exact g_lret C hr dX3_worth_276 ⟨_, rfl, hw⟩
        · refine g_aload_n C dX3_worth_264 rfl (by decide) rfl ?_
          refine gw_X3_18 C dX3_worth_265 hk (wir_2_2 hWR hk) ?_
          refine g_iconst C ⟨by decide, by decide⟩ dX3_worth_268 ?_
          obtain ⟨⟨b6, b6b⟩, hw⟩ := hw
          refine g_laload C dX3_worth_269 (kid_2_2 hWR hk) b6 b6b (fun z269 => ?_)
          refine g_goto C 276 dX3_worth_270 rfl ?_
          exact g_lret C hr dX3_worth_276 ⟨_, rfl, hw⟩
      · refine g_iload C dX3_worth_57 rfl ?_
        refine g_bipush C ⟨by decide, by decide⟩ (by decide) dX3_worth_59 ?_
        refine g_icmp_ge C 258 dX3_worth_61 rfl hw (fun hw => ?_) (fun hw => ?_)
        · refine g_iload C dX3_worth_258 rfl ?_
          refine g_iconst C ⟨by decide, by decide⟩ dX3_worth_260 ?_
          refine g_icmp_ne C 273 dX3_worth_261 rfl hw (fun hw => ?_) (fun hw => ?_)
          · refine g_ldc2 C ⟨by decide, by decide⟩ k_1147 dX3_worth_273 ?_
            exact g_lret C hr dX3_worth_276 ⟨_, rfl, hw⟩
          · refine g_aload_n C dX3_worth_264 rfl (by decide) rfl ?_
            refine gw_X3_18 C dX3_worth_265 hk (wir_2_2 hWR hk) ?_
            refine g_iconst C ⟨by decide, by decide⟩ dX3_worth_268 ?_
            obtain ⟨⟨b7, b7b⟩, hw⟩ := hw
            refine g_laload C dX3_worth_269 (kid_2_2 hWR hk) b7 b7b (fun z269 => ?_)
            refine g_goto C 276 dX3_worth_270 rfl ?_
            exact g_lret C hr dX3_worth_276 ⟨_, rfl, hw⟩
        · refine g_aload_n C dX3_worth_64 rfl (by decide) rfl ?_
          refine gw_X3_9 C dX3_worth_65 hk (wir_2_0 hWR hk) ?_
          refine g_iload C dX3_worth_68 rfl ?_
          obtain ⟨⟨b8, b8b⟩, hw⟩ := hw
          refine g_iaload C dX3_worth_70 (kid_2_0 hWR hk) b8 b8b (fun z70 => ?_)
          refine g_topi (fun x1 ex1 => ?_)
          replace hw := hw x1 ex1
          refine g_istore C dX3_worth_71 (by decide) ?_
          refine g_iload C dX3_worth_73 rfl ?_
          refine g_iconst C ⟨by decide, by decide⟩ dX3_worth_75 ?_
          refine g_icmp_gt C 83 dX3_worth_76 rfl hw (fun hw => ?_) (fun hw => ?_)
          · refine g_iload C dX3_worth_83 rfl ?_
            refine g_bipush C ⟨by decide, by decide⟩ (by decide) dX3_worth_85 ?_
            refine g_icmp_ne C 94 dX3_worth_87 rfl hw (fun hw => ?_) (fun hw => ?_)
            · refine g_iconst C ⟨by decide, by decide⟩ dX3_worth_94 ?_
              exact g_sub [6, 7, 8, 0, 1, 2, 3, 4, 5] rfl (hQ _ hw)
            · refine g_iconst C ⟨by decide, by decide⟩ dX3_worth_90 ?_
              refine g_goto C 95 dX3_worth_91 rfl ?_
              exact g_sub [6, 7, 8, 0, 1, 2, 3, 4, 5] rfl (hQ _ hw)
          · refine g_iconst C ⟨by decide, by decide⟩ dX3_worth_79 ?_
            refine g_goto C 95 dX3_worth_80 rfl ?_
            exact g_sub [6, 7, 8, 0, 1, 2, 3, 4, 5] rfl (hQ _ hw)
    · show mG X p l e { frames := 2, cells := 0, slots := 0, locals := 45 } s m args below meth c 13 (mMQ X (mKl K) below args s) 95 [(6, (0, v6)), (7, (0, v7)), (8, (0, v8)), (0, (2, r)), (1, (0, p1)), (2, (0, p2)), (3, (0, p3)), (4, (0, p4)), (5, (0, p5))] [(0, s0)] h
      unfold B_X3_worth_95 at hw
      refine g_istore C dX3_worth_95 (by decide) ?_
      refine g_iload C dX3_worth_97 rfl ?_
      refine g_iload C dX3_worth_99 rfl ?_
      refine g_isub C dX3_worth_101 ?_
      refine g_topi (fun x1 ex1 => ?_)
      replace hw := hw x1 ex1
      refine g_istore C dX3_worth_102 (by decide) ?_
      refine g_iload C dX3_worth_104 rfl ?_
      refine g_if_lt C 128 dX3_worth_106 rfl hw (fun hw => ?_) (fun hw => ?_)
      · refine g_ldc2 C ⟨by decide, by decide⟩ k_1147 dX3_worth_128 ?_
        exact g_lret C hr dX3_worth_131 ⟨_, rfl, hw⟩
      · refine g_iload C dX3_worth_109 rfl ?_
        refine g_bipush C ⟨by decide, by decide⟩ (by decide) dX3_worth_111 ?_
        refine g_icmp_ge C 128 dX3_worth_113 rfl hw (fun hw => ?_) (fun hw => ?_)
        · refine g_ldc2 C ⟨by decide, by decide⟩ k_1147 dX3_worth_128 ?_
          exact g_lret C hr dX3_worth_131 ⟨_, rfl, hw⟩
        · refine g_iload C dX3_worth_116 rfl ?_
          refine g_bipush C ⟨by decide, by decide⟩ (by decide) dX3_worth_118 ?_
          refine g_icmp_gt C 128 dX3_worth_120 rfl hw (fun hw => ?_) (fun hw => ?_)
          · refine g_ldc2 C ⟨by decide, by decide⟩ k_1147 dX3_worth_128 ?_
            exact g_lret C hr dX3_worth_131 ⟨_, rfl, hw⟩
          · refine g_iload C dX3_worth_123 rfl ?_
            refine g_if_ge C 132 dX3_worth_125 rfl hw (fun hw => ?_) (fun hw => ?_)
            · refine g_iload C dX3_worth_132 rfl ?_
              refine g_if_ne C 165 dX3_worth_134 rfl hw (fun hw => ?_) (fun hw => ?_)
              · refine g_iload C dX3_worth_165 rfl ?_
                refine g_iconst C ⟨by decide, by decide⟩ dX3_worth_167 ?_
                refine g_icmp_ne C 192 dX3_worth_168 rfl hw (fun hw => ?_) (fun hw => ?_)
                · refine g_iload C dX3_worth_192 rfl ?_
                  refine g_aload_n C dX3_worth_194 rfl (by decide) rfl ?_
                  refine gw_X3_18 C dX3_worth_195 hk (wir_2_2 hWR hk) ?_
                  refine g_iload C dX3_worth_198 rfl ?_
                  obtain ⟨⟨b9, b9b⟩, hw⟩ := hw
                  refine g_laload C dX3_worth_200 (kid_2_2 hWR hk) b9 b9b (fun z200 => ?_)
                  refine g_aload_n C dX3_worth_201 rfl (by decide) rfl ?_
                  refine gw_X3_18 C dX3_worth_202 hk (wir_2_2 hWR hk) ?_
                  refine g_iload C dX3_worth_205 rfl ?_
                  refine g_iconst C ⟨by decide, by decide⟩ dX3_worth_207 ?_
                  refine g_iadd C dX3_worth_208 ?_
                  obtain ⟨⟨b10, b10b⟩, hw⟩ := hw
                  refine g_laload C dX3_worth_209 (kid_2_2 hWR hk) b10 b10b (fun z209 => ?_)
                  refine g_callSl C [(0, v8), (1, (h (r + 3) x1)), (1, (h (r + 3) (w32 (x1 + 1))))] (sim_X3_joined hw) k_1148 k_1149 k_139 k_1150 hdS_X3_joined rfl rfl rfl rfl rfl dX3_worth_210 ?_
                  intro x2 h1 hw
                  exact g_sub [7, 10, 0, 1, 2, 3, 4, 5] rfl (hQ _ hw)
                · refine g_aload_n C dX3_worth_171 rfl (by decide) rfl ?_
                  refine gw_X3_18 C dX3_worth_172 hk (wir_2_2 hWR hk) ?_
                  refine g_iload C dX3_worth_175 rfl ?_
                  obtain ⟨⟨b11, b11b⟩, hw⟩ := hw
                  refine g_laload C dX3_worth_177 (kid_2_2 hWR hk) b11 b11b (fun z177 => ?_)
                  refine g_lconst C 0 (Or.inl rfl) rfl dX3_worth_178 ?_
                  refine g_lcmp C dX3_worth_179 ?_
                  refine g_if_ne C 187 dX3_worth_180 rfl hw (fun hw => ?_) (fun hw => ?_)
                  · refine g_iconst C ⟨by decide, by decide⟩ dX3_worth_187 ?_
                    exact g_sub [7, 10, 0, 1, 2, 3, 4, 5] rfl (hQ _ hw)
                  · refine g_iconst C ⟨by decide, by decide⟩ dX3_worth_183 ?_
                    refine g_goto C 188 dX3_worth_184 rfl ?_
                    exact g_sub [7, 10, 0, 1, 2, 3, 4, 5] rfl (hQ _ hw)
              · refine g_iload C dX3_worth_137 rfl ?_
                refine g_if_ne C 153 dX3_worth_139 rfl hw (fun hw => ?_) (fun hw => ?_)
                · refine g_aload_n C dX3_worth_153 rfl (by decide) rfl ?_
                  refine gw_X3_22 C dX3_worth_154 hk (wir_2_3 hWR hk) ?_
                  refine g_iload C dX3_worth_157 rfl ?_
                  obtain ⟨⟨b12, b12b⟩, hw⟩ := hw
                  refine g_laload C dX3_worth_159 (kid_2_3 hWR hk) b12 b12b (fun z159 => ?_)
                  exact g_sub [7, 10, 0, 1, 2, 3, 4, 5] rfl (hQ _ hw)
                · refine g_aload_n C dX3_worth_142 rfl (by decide) rfl ?_
                  refine gw_X3_15 C dX3_worth_143 hk (wir_2_1 hWR hk) ?_
                  refine g_iload C dX3_worth_146 rfl ?_
                  obtain ⟨⟨b13, b13b⟩, hw⟩ := hw
                  refine g_iaload C dX3_worth_148 (kid_2_1 hWR hk) b13 b13b (fun z148 => ?_)
                  refine g_i2l C dX3_worth_149 ?_
                  refine g_goto C 160 dX3_worth_150 rfl ?_
                  exact g_sub [7, 10, 0, 1, 2, 3, 4, 5] rfl (hQ _ hw)
            · refine g_ldc2 C ⟨by decide, by decide⟩ k_1147 dX3_worth_128 ?_
              exact g_lret C hr dX3_worth_131 ⟨_, rfl, hw⟩
    · show mG X p l e { frames := 2, cells := 0, slots := 0, locals := 45 } s m args below meth c 13 (mMQ X (mKl K) below args s) 213 [(7, (0, v7)), (10, (0, v10)), (0, (2, r)), (1, (0, p1)), (2, (0, p2)), (3, (0, p3)), (4, (0, p4)), (5, (0, p5))] [(1, s0)] h
      unfold B_X3_worth_213 at hw
      refine g_lstore C dX3_worth_213 (by decide) ?_
      refine g_lload C dX3_worth_215 rfl ?_
      refine g_ldc2 C ⟨by decide, by decide⟩ k_1154 dX3_worth_217 ?_
      refine g_lcmp C dX3_worth_220 ?_
      refine g_if_gt C 233 dX3_worth_221 rfl hw (fun hw => ?_) (fun hw => ?_)
      · refine g_ldc2 C ⟨by decide, by decide⟩ k_1147 dX3_worth_233 ?_
        exact g_lret C hr dX3_worth_236 ⟨_, rfl, hw⟩
      · refine g_lload C dX3_worth_224 rfl ?_
        refine g_ldc2 C ⟨by decide, by decide⟩ k_1155 dX3_worth_226 ?_
        refine g_lcmp C dX3_worth_229 ?_
        refine g_if_ge C 237 dX3_worth_230 rfl hw (fun hw => ?_) (fun hw => ?_)
        · refine g_aload_n C dX3_worth_237 rfl (by decide) rfl ?_
          refine gw_X3_18 C dX3_worth_238 hk (wir_2_2 hWR hk) ?_
          refine g_iload C dX3_worth_241 rfl ?_
          refine g_lload C dX3_worth_243 rfl ?_
          obtain ⟨⟨b14, b14b⟩, hw⟩ := hw
          refine g_lastore C dX3_worth_245 (kid_2_2 hWR hk) b14 b14b (fun z => z) ?_
          refine g_heap (fun h1 eh1 => ?_)
          replace hw := hw h1 eh1
          refine g_iload C dX3_worth_246 rfl ?_
          refine g_iconst C ⟨by decide, by decide⟩ dX3_worth_248 ?_
          refine g_iadd C dX3_worth_249 ?_
          refine g_topi (fun x1 ex1 => ?_)
          replace hw := hw x1 ex1
          refine g_istore C dX3_worth_250 (by decide) ?_
          refine g_iincN C dX3_worth_252 rfl (by decide) (fun x2 ex2 => ?_)
          replace hw := hw x2 ex2
          refine g_goto C 48 dX3_worth_255 rfl ?_
          exact g_sub [6, 7, 0, 1, 2, 3, 4, 5] rfl (hQ _ hw)
        · refine g_ldc2 C ⟨by decide, by decide⟩ k_1147 dX3_worth_233 ?_
          exact g_lret C hr dX3_worth_236 ⟨_, rfl, hw⟩
    · show mG X p l e { frames := 2, cells := 0, slots := 0, locals := 45 } s m args below meth c 13 (mMQ X (mKl K) below args s) 188 [(7, (0, v7)), (10, (0, v10)), (0, (2, r)), (1, (0, p1)), (2, (0, p2)), (3, (0, p3)), (4, (0, p4)), (5, (0, p5))] [(0, s0)] h
      unfold B_X3_worth_188 at hw
      refine g_i2l C dX3_worth_188 ?_
      refine g_goto C 213 dX3_worth_189 rfl ?_
      exact g_sub [7, 10, 0, 1, 2, 3, 4, 5] rfl (hQ _ hw)
    · show mG X p l e { frames := 2, cells := 0, slots := 0, locals := 45 } s m args below meth c 13 (mMQ X (mKl K) below args s) 160 [(7, (0, v7)), (10, (0, v10)), (0, (2, r)), (1, (0, p1)), (2, (0, p2)), (3, (0, p3)), (4, (0, p4)), (5, (0, p5))] [(1, s0)] h
      unfold B_X3_worth_160 at hw
      refine g_lstore C dX3_worth_160 (by decide) ?_
      refine g_goto C 215 dX3_worth_162 rfl ?_
      refine g_lload C dX3_worth_215 rfl ?_
      refine g_ldc2 C ⟨by decide, by decide⟩ k_1154 dX3_worth_217 ?_
      refine g_lcmp C dX3_worth_220 ?_
      refine g_if_gt C 233 dX3_worth_221 rfl hw (fun hw => ?_) (fun hw => ?_)
      · refine g_ldc2 C ⟨by decide, by decide⟩ k_1147 dX3_worth_233 ?_
        exact g_lret C hr dX3_worth_236 ⟨_, rfl, hw⟩
      · refine g_lload C dX3_worth_224 rfl ?_
        refine g_ldc2 C ⟨by decide, by decide⟩ k_1155 dX3_worth_226 ?_
        refine g_lcmp C dX3_worth_229 ?_
        refine g_if_ge C 237 dX3_worth_230 rfl hw (fun hw => ?_) (fun hw => ?_)
        · refine g_aload_n C dX3_worth_237 rfl (by decide) rfl ?_
          refine gw_X3_18 C dX3_worth_238 hk (wir_2_2 hWR hk) ?_
          refine g_iload C dX3_worth_241 rfl ?_
          refine g_lload C dX3_worth_243 rfl ?_
          obtain ⟨⟨b15, b15b⟩, hw⟩ := hw
          refine g_lastore C dX3_worth_245 (kid_2_2 hWR hk) b15 b15b (fun z => z) ?_
          refine g_heap (fun h1 eh1 => ?_)
          replace hw := hw h1 eh1
          refine g_iload C dX3_worth_246 rfl ?_
          refine g_iconst C ⟨by decide, by decide⟩ dX3_worth_248 ?_
          refine g_iadd C dX3_worth_249 ?_
          refine g_topi (fun x1 ex1 => ?_)
          replace hw := hw x1 ex1
          refine g_istore C dX3_worth_250 (by decide) ?_
          refine g_iincN C dX3_worth_252 rfl (by decide) (fun x2 ex2 => ?_)
          replace hw := hw x2 ex2
          refine g_goto C 48 dX3_worth_255 rfl ?_
          exact g_sub [6, 7, 0, 1, 2, 3, 4, 5] rfl (hQ _ hw)
        · refine g_ldc2 C ⟨by decide, by decide⟩ k_1147 dX3_worth_233 ?_
          exact g_lret C hr dX3_worth_236 ⟨_, rfl, hw⟩
  show mG _ p l e _ s m args below meth c _ _ 0 [(0, (2, r)), (1, (0, p1)), (2, (0, p2)), (3, (0, p3)), (4, (0, p4)), (5, (0, p5))] [] h
  unfold wp_X3_worth at hw
  refine g_aload_n C dX3_worth_0 rfl (by decide) rfl ?_
  refine gw_X3_22 C dX3_worth_1 hk (wir_2_3 hWR hk) ?_
  refine g_iconst C ⟨by decide, by decide⟩ dX3_worth_4 ?_
  refine g_iload_n C dX3_worth_5 rfl rfl ?_
  refine g_i2l C dX3_worth_6 ?_
  obtain ⟨⟨b1, b1b⟩, hw⟩ := hw
  refine g_lastore C dX3_worth_7 (kid_2_3 hWR hk) b1 b1b (fun z => z) ?_
  refine g_heap (fun h1 eh1 => ?_)
  replace hw := hw h1 eh1
  refine g_aload_n C dX3_worth_8 rfl (by decide) rfl ?_
  refine gw_X3_22 C dX3_worth_9 hk (wir_2_3 hWR hk) ?_
  refine g_iconst C ⟨by decide, by decide⟩ dX3_worth_12 ?_
  refine g_iload_n C dX3_worth_13 rfl rfl ?_
  refine g_i2l C dX3_worth_14 ?_
  obtain ⟨⟨b2, b2b⟩, hw⟩ := hw
  refine g_lastore C dX3_worth_15 (kid_2_3 hWR hk) b2 b2b (fun z => z) ?_
  refine g_heap (fun h2 eh2 => ?_)
  replace hw := hw h2 eh2
  refine g_aload_n C dX3_worth_16 rfl (by decide) rfl ?_
  refine gw_X3_22 C dX3_worth_17 hk (wir_2_3 hWR hk) ?_
  refine g_iconst C ⟨by decide, by decide⟩ dX3_worth_20 ?_
  refine g_iload_n C dX3_worth_21 rfl rfl ?_
  refine g_i2l C dX3_worth_22 ?_
  obtain ⟨⟨b3, b3b⟩, hw⟩ := hw
  refine g_lastore C dX3_worth_23 (kid_2_3 hWR hk) b3 b3b (fun z => z) ?_
  refine g_heap (fun h3 eh3 => ?_)
  replace hw := hw h3 eh3
  refine g_aload_n C dX3_worth_24 rfl (by decide) rfl ?_
  refine gw_X3_22 C dX3_worth_25 hk (wir_2_3 hWR hk) ?_
  refine g_iconst C ⟨by decide, by decide⟩ dX3_worth_28 ?_
  refine g_iload C dX3_worth_29 rfl ?_
  refine g_i2l C dX3_worth_31 ?_
  obtain ⟨⟨b4, b4b⟩, hw⟩ := hw
  refine g_lastore C dX3_worth_32 (kid_2_3 hWR hk) b4 b4b (fun z => z) ?_
  refine g_heap (fun h4 eh4 => ?_)
  replace hw := hw h4 eh4
  refine g_aload_n C dX3_worth_33 rfl (by decide) rfl ?_
  refine gw_X3_22 C dX3_worth_34 hk (wir_2_3 hWR hk) ?_
  refine g_iconst C ⟨by decide, by decide⟩ dX3_worth_37 ?_
  refine g_iload C dX3_worth_38 rfl ?_
  refine g_i2l C dX3_worth_40 ?_
  obtain ⟨⟨b5, b5b⟩, hw⟩ := hw
  refine g_lastore C dX3_worth_41 (kid_2_3 hWR hk) b5 b5b (fun z => z) ?_
  refine g_heap (fun h5 eh5 => ?_)
  replace hw := hw h5 eh5
  refine g_iconst C ⟨by decide, by decide⟩ dX3_worth_42 ?_
  refine g_istore C dX3_worth_43 (by decide) ?_
  refine g_iconst C ⟨by decide, by decide⟩ dX3_worth_45 ?_
  refine g_istore C dX3_worth_46 (by decide) ?_
  exact g_sub [6, 7, 0, 1, 2, 3, 4, 5] rfl (hQ _ hw)
set_option maxRecDepth 20000 in
set_option maxHeartbeats 4000000 in
theorem sim_X5_shoresOf {X : Mx} (hWR : mWir X) {r : Int} (hk : (mxS X r).1 = 4) {l : Launch} {p1 : Int} {h : Mh} {K : Int → Mh → Prop} (hw : wp_X5_shoresOf (mxS X) r p1 h K) : mCal X l yX5_shoresOf cX5_shoresOf 2 (some (Jvm.ClassFile.FieldType.object "PondReader$Row")) 0 0 [(2, r), (0, p1)] h (mKr K) := by
  refine m_entry RX5 rfl (by decide) rfl (fun p e s m args below meth c C hr => ?_)
  show mG _ p l e _ s m args below meth c _ _ 0 [(0, (2, r)), (1, (0, p1))] [] h
  unfold wp_X5_shoresOf at hw
  refine g_iload_n C dX5_shoresOf_0 rfl rfl ?_
  refine g_if_lt C 22 dX5_shoresOf_1 rfl hw (fun hw => ?_) (fun hw => ?_)
  · refine g_aload_n C dX5_shoresOf_22 rfl (by decide) rfl ?_
    refine gw_X5_62 C dX5_shoresOf_23 hk (wir_4_16 hWR hk) ?_
    exact g_aret C (by decide) hr (Or.inl ⟨_, rfl⟩) dX5_shoresOf_26 ⟨_, rfl, hw⟩
  · refine g_iload_n C dX5_shoresOf_4 rfl rfl ?_
    refine g_aload_n C dX5_shoresOf_5 rfl (by decide) rfl ?_
    refine gw_X5_20 C dX5_shoresOf_6 hk (wir_4_5 hWR hk) ?_
    refine g_alen2 C dX5_shoresOf_9 (ci := 17) (by decide) (kid_4_5 hWR hk) ?_
    refine g_icmp_ge C 22 dX5_shoresOf_10 rfl hw (fun hw => ?_) (fun hw => ?_)
    · refine g_aload_n C dX5_shoresOf_22 rfl (by decide) rfl ?_
      refine gw_X5_62 C dX5_shoresOf_23 hk (wir_4_16 hWR hk) ?_
      exact g_aret C (by decide) hr (Or.inl ⟨_, rfl⟩) dX5_shoresOf_26 ⟨_, rfl, hw⟩
    · refine g_aload_n C dX5_shoresOf_13 rfl (by decide) rfl ?_
      refine gw_X5_20 C dX5_shoresOf_14 hk (wir_4_5 hWR hk) ?_
      refine g_iload_n C dX5_shoresOf_17 rfl rfl ?_
      obtain ⟨⟨b1, b1b⟩, hw⟩ := hw
      refine g_aaload C dX5_shoresOf_18 (kid_4_5 hWR hk) b1 b1b (wir_17 hWR (kid_4_5 hWR hk) b1 b1b) ?_
      refine g_goto C 26 dX5_shoresOf_19 rfl ?_
      exact g_aret C (by decide) hr (Or.inl ⟨_, rfl⟩) dX5_shoresOf_26 ⟨_, rfl, hw⟩
set_option maxRecDepth 20000 in
set_option maxHeartbeats 4000000 in
theorem sim_X3_clear {X : Mx} (hWR : mWir X) {r : Int} (hk : (mxS X r).1 = 2) {l : Launch} {h : Mh} {K : Mh → Prop} (hw : wp_X3_clear r h K) : mCal X l yX3_clear cX3_clear 1 none 0 0 [(2, r)] h (mKv K) := by
  refine m_entry RX3 rfl (by decide) rfl (fun p e s m args below meth c C hr => ?_)
  show mG _ p l e _ s m args below meth c _ _ 0 [(0, (2, r))] [] h
  unfold wp_X3_clear at hw
  refine g_aload_n C dX3_clear_0 rfl (by decide) rfl ?_
  refine g_iconst C ⟨by decide, by decide⟩ dX3_clear_1 ?_
  refine gp_X3_25 C dX3_clear_2 hk (fun z => z) ?_
  refine g_heap (fun h1 eh1 => ?_)
  replace hw := hw h1 eh1
  exact g_vret C hr dX3_clear_5 ⟨rfl, hw⟩
set_option maxRecDepth 20000 in
set_option maxHeartbeats 4000000 in
theorem sim_X5_clear {X : Mx} (hWR : mWir X) {r : Int} (hk : (mxS X r).1 = 4) {l : Launch} {h : Mh} {K : Mh → Prop} (hw : wp_X5_clear (mxS X) r h K) : mCal X l yX5_clear cX5_clear 2 none 1 20 [(2, r)] h (mKv K) := by
  refine m_entry RX5 rfl (by decide) rfl (fun p e s m args below meth c C hr => ?_)
  have hQ : ∀ x, Lfp (F_X5_clear (mxS X) r K) x → (match x.1, x.2.1 with | 110, [v1] => mG X p l e { frames := 1, cells := 0, slots := 0, locals := 20 } s m args below meth c 2 (mMQ X (mKv K) below args s) 110 [(1, (0, v1)), (0, (2, r))] [] x.2.2 | 136, [v1] => mG X p l e { frames := 1, cells := 0, slots := 0, locals := 20 } s m args below meth c 2 (mMQ X (mKv K) below args s) 136 [(1, (0, v1)), (0, (2, r))] [] x.2.2 | _, _ => True) := by
    intro x hx
    refine Lfp.ind (fun x => (match x.1, x.2.1 with | 110, [v1] => mG X p l e { frames := 1, cells := 0, slots := 0, locals := 20 } s m args below meth c 2 (mMQ X (mKv K) below args s) 110 [(1, (0, v1)), (0, (2, r))] [] x.2.2 | 136, [v1] => mG X p l e { frames := 1, cells := 0, slots := 0, locals := 20 } s m args below meth c 2 (mMQ X (mKv K) below args s) 136 [(1, (0, v1)), (0, (2, r))] [] x.2.2 | _, _ => True)) ?_ hx
    clear hx x
    intro Z x hQ hw
    rcases hw with ⟨v1, h, rfl, hw⟩ | ⟨v1, h, rfl, hw⟩
    · show mG X p l e { frames := 1, cells := 0, slots := 0, locals := 20 } s m args below meth c 2 (mMQ X (mKv K) below args s) 110 [(1, (0, v1)), (0, (2, r))] [] h
      unfold B_X5_clear_110 at hw
      refine g_iload_n C dX5_clear_110 rfl rfl ?_
      refine g_aload_n C dX5_clear_111 rfl (by decide) rfl ?_
      refine gw_X5_20 C dX5_clear_112 hk (wir_4_5 hWR hk) ?_
      refine g_alen2 C dX5_clear_115 (ci := 17) (by decide) (kid_4_5 hWR hk) ?_
      refine g_icmp_ge C 134 dX5_clear_116 rfl hw (fun hw => ?_) (fun hw => ?_)
      · refine g_iconst C ⟨by decide, by decide⟩ dX5_clear_134 ?_
        refine g_istore_n C dX5_clear_135 rfl (by decide) ?_
        exact g_sub [1, 0] rfl (hQ _ hw)
      · refine g_aload_n C dX5_clear_119 rfl (by decide) rfl ?_
        refine gw_X5_20 C dX5_clear_120 hk (wir_4_5 hWR hk) ?_
        refine g_iload_n C dX5_clear_123 rfl rfl ?_
        obtain ⟨⟨b1, b1b⟩, hw⟩ := hw
        refine g_aaload C dX5_clear_124 (kid_4_5 hWR hk) b1 b1b (wir_17 hWR (kid_4_5 hWR hk) b1 b1b) ?_
        refine g_callVv C [] (sim_X7_clear hWR (kid_17 hWR (kid_4_5 hWR hk) b1 b1b) hw) k_254 k_255 k_256 k_136 k_257 hdV_X7_clear rfl rfl (by decide) rfl (kid_17 hWR (kid_4_5 hWR hk) b1 b1b) rfl rfl rfl dX5_clear_125 ?_
        intro h1 hw
        refine g_iincN C dX5_clear_128 rfl (by decide) (fun x1 ex1 => ?_)
        replace hw := hw x1 ex1
        refine g_goto C 110 dX5_clear_131 rfl ?_
        exact g_sub [1, 0] rfl (hQ _ hw)
    · show mG X p l e { frames := 1, cells := 0, slots := 0, locals := 20 } s m args below meth c 2 (mMQ X (mKv K) below args s) 136 [(1, (0, v1)), (0, (2, r))] [] h
      unfold B_X5_clear_136 at hw
      refine g_iload_n C dX5_clear_136 rfl rfl ?_
      refine g_aload_n C dX5_clear_137 rfl (by decide) rfl ?_
      refine gw_X5_30 C dX5_clear_138 hk (wir_4_8 hWR hk) ?_
      refine g_alen2 C dX5_clear_141 (ci := 17) (by decide) (kid_4_8 hWR hk) ?_
      refine g_icmp_ge C 160 dX5_clear_142 rfl hw (fun hw => ?_) (fun hw => ?_)
      · exact g_vret C hr dX5_clear_160 ⟨rfl, hw⟩
      · refine g_aload_n C dX5_clear_145 rfl (by decide) rfl ?_
        refine gw_X5_30 C dX5_clear_146 hk (wir_4_8 hWR hk) ?_
        refine g_iload_n C dX5_clear_149 rfl rfl ?_
        obtain ⟨⟨b2, b2b⟩, hw⟩ := hw
        refine g_aaload C dX5_clear_150 (kid_4_8 hWR hk) b2 b2b (wir_17 hWR (kid_4_8 hWR hk) b2 b2b) ?_
        refine g_callVv C [] (sim_X7_clear hWR (kid_17 hWR (kid_4_8 hWR hk) b2 b2b) hw) k_254 k_255 k_256 k_136 k_257 hdV_X7_clear rfl rfl (by decide) rfl (kid_17 hWR (kid_4_8 hWR hk) b2 b2b) rfl rfl rfl dX5_clear_151 ?_
        intro h1 hw
        refine g_iincN C dX5_clear_154 rfl (by decide) (fun x1 ex1 => ?_)
        replace hw := hw x1 ex1
        refine g_goto C 136 dX5_clear_157 rfl ?_
        exact g_sub [1, 0] rfl (hQ _ hw)
  show mG _ p l e _ s m args below meth c _ _ 0 [(0, (2, r))] [] h
  unfold wp_X5_clear at hw
  refine g_aload_n C dX5_clear_0 rfl (by decide) rfl ?_
  refine g_iconst C ⟨by decide, by decide⟩ dX5_clear_1 ?_
  refine gp_X5_68 C dX5_clear_2 hk (fun z => z) ?_
  refine g_heap (fun h1 eh1 => ?_)
  replace hw := hw h1 eh1
  refine g_aload_n C dX5_clear_5 rfl (by decide) rfl ?_
  refine g_iconst C ⟨by decide, by decide⟩ dX5_clear_6 ?_
  refine gp_X5_72 C dX5_clear_7 hk (fun z => z) ?_
  refine g_heap (fun h2 eh2 => ?_)
  replace hw := hw h2 eh2
  refine g_aload_n C dX5_clear_10 rfl (by decide) rfl ?_
  refine g_lconst C 0 (Or.inl rfl) rfl dX5_clear_11 ?_
  refine gp_X5_75 C dX5_clear_12 hk (fun z => z) ?_
  refine g_heap (fun h3 eh3 => ?_)
  replace hw := hw h3 eh3
  refine g_aload_n C dX5_clear_15 rfl (by decide) rfl ?_
  refine g_lconst C 0 (Or.inl rfl) rfl dX5_clear_16 ?_
  refine gp_X5_79 C dX5_clear_17 hk (fun z => z) ?_
  refine g_heap (fun h4 eh4 => ?_)
  replace hw := hw h4 eh4
  refine g_aload_n C dX5_clear_20 rfl (by decide) rfl ?_
  refine g_bipush C ⟨by decide, by decide⟩ (by decide) dX5_clear_21 ?_
  refine gp_X5_82 C dX5_clear_23 hk (fun z => z) ?_
  refine g_heap (fun h5 eh5 => ?_)
  replace hw := hw h5 eh5
  refine g_aload_n C dX5_clear_26 rfl (by decide) rfl ?_
  refine g_bipush C ⟨by decide, by decide⟩ (by decide) dX5_clear_27 ?_
  refine gp_X5_85 C dX5_clear_29 hk (fun z => z) ?_
  refine g_heap (fun h6 eh6 => ?_)
  replace hw := hw h6 eh6
  refine g_aload_n C dX5_clear_32 rfl (by decide) rfl ?_
  refine g_bipush C ⟨by decide, by decide⟩ (by decide) dX5_clear_33 ?_
  refine gp_X5_88 C dX5_clear_35 hk (fun z => z) ?_
  refine g_heap (fun h7 eh7 => ?_)
  replace hw := hw h7 eh7
  refine g_aload_n C dX5_clear_38 rfl (by decide) rfl ?_
  refine gw_X5_14 C dX5_clear_39 hk (wir_4_4 hWR hk) ?_
  refine g_callVv C [] (sim_X7_clear hWR (kid_4_4 hWR hk) hw) k_254 k_255 k_256 k_136 k_257 hdV_X7_clear rfl rfl (by decide) rfl (kid_4_4 hWR hk) rfl rfl rfl dX5_clear_42 ?_
  intro h8 hw
  refine g_aload_n C dX5_clear_45 rfl (by decide) rfl ?_
  refine gw_X5_24 C dX5_clear_46 hk (wir_4_6 hWR hk) ?_
  refine g_callVv C [] (sim_X7_clear hWR (kid_4_6 hWR hk) hw) k_254 k_255 k_256 k_136 k_257 hdV_X7_clear rfl rfl (by decide) rfl (kid_4_6 hWR hk) rfl rfl rfl dX5_clear_49 ?_
  intro h9 hw
  refine g_aload_n C dX5_clear_52 rfl (by decide) rfl ?_
  refine gw_X5_27 C dX5_clear_53 hk (wir_4_7 hWR hk) ?_
  refine g_callVv C [] (sim_X7_clear hWR (kid_4_7 hWR hk) hw) k_254 k_255 k_256 k_136 k_257 hdV_X7_clear rfl rfl (by decide) rfl (kid_4_7 hWR hk) rfl rfl rfl dX5_clear_56 ?_
  intro h10 hw
  refine g_aload_n C dX5_clear_59 rfl (by decide) rfl ?_
  refine gw_X5_33 C dX5_clear_60 hk (wir_4_9 hWR hk) ?_
  refine g_callVv C [] (sim_X7_clear hWR (kid_4_9 hWR hk) hw) k_254 k_255 k_256 k_136 k_257 hdV_X7_clear rfl rfl (by decide) rfl (kid_4_9 hWR hk) rfl rfl rfl dX5_clear_63 ?_
  intro h11 hw
  refine g_aload_n C dX5_clear_66 rfl (by decide) rfl ?_
  refine gw_X5_36 C dX5_clear_67 hk (wir_4_10 hWR hk) ?_
  refine g_callVv C [] (sim_X7_clear hWR (kid_4_10 hWR hk) hw) k_254 k_255 k_256 k_136 k_257 hdV_X7_clear rfl rfl (by decide) rfl (kid_4_10 hWR hk) rfl rfl rfl dX5_clear_70 ?_
  intro h12 hw
  refine g_aload_n C dX5_clear_73 rfl (by decide) rfl ?_
  refine gw_X5_39 C dX5_clear_74 hk (wir_4_11 hWR hk) ?_
  refine g_callVv C [] (sim_X7_clear hWR (kid_4_11 hWR hk) hw) k_254 k_255 k_256 k_136 k_257 hdV_X7_clear rfl rfl (by decide) rfl (kid_4_11 hWR hk) rfl rfl rfl dX5_clear_77 ?_
  intro h13 hw
  refine g_aload_n C dX5_clear_80 rfl (by decide) rfl ?_
  refine gw_X5_42 C dX5_clear_81 hk (wir_4_12 hWR hk) ?_
  refine g_callVv C [] (sim_X7_clear hWR (kid_4_12 hWR hk) hw) k_254 k_255 k_256 k_136 k_257 hdV_X7_clear rfl rfl (by decide) rfl (kid_4_12 hWR hk) rfl rfl rfl dX5_clear_84 ?_
  intro h14 hw
  refine g_aload_n C dX5_clear_87 rfl (by decide) rfl ?_
  refine gw_X5_45 C dX5_clear_88 hk (wir_4_13 hWR hk) ?_
  refine g_callVv C [] (sim_X7_clear hWR (kid_4_13 hWR hk) hw) k_254 k_255 k_256 k_136 k_257 hdV_X7_clear rfl rfl (by decide) rfl (kid_4_13 hWR hk) rfl rfl rfl dX5_clear_91 ?_
  intro h15 hw
  refine g_aload_n C dX5_clear_94 rfl (by decide) rfl ?_
  refine gw_X5_51 C dX5_clear_95 hk (wir_4_14 hWR hk) ?_
  refine g_callVv C [] (sim_X1_clear hWR (kid_4_14 hWR hk) hw) k_258 k_259 k_260 k_138 k_261 hdV_X1_clear rfl rfl (by decide) rfl (kid_4_14 hWR hk) rfl rfl rfl dX5_clear_98 ?_
  intro h16 hw
  refine g_aload_n C dX5_clear_101 rfl (by decide) rfl ?_
  refine gw_X5_58 C dX5_clear_102 hk (wir_4_15 hWR hk) ?_
  refine g_callVv C [] (sim_X3_clear hWR (kid_4_15 hWR hk) hw) k_262 k_263 k_264 k_139 k_265 hdV_X3_clear rfl rfl (by decide) rfl (kid_4_15 hWR hk) rfl rfl rfl dX5_clear_105 ?_
  intro h17 hw
  refine g_iconst C ⟨by decide, by decide⟩ dX5_clear_108 ?_
  refine g_istore_n C dX5_clear_109 rfl (by decide) ?_
  exact g_sub [1, 0] rfl (hQ _ hw)
set_option maxRecDepth 20000 in
set_option maxHeartbeats 4000000 in
theorem sim_X7_isFull {X : Mx} (hWR : mWir X) {r : Int} (hk : (mxS X r).1 = 6) {l : Launch} {h : Mh} {K : Int → Mh → Prop} (hw : wp_X7_isFull (mxS X) r h K) : mCal X l yX7_isFull cX7_isFull 1 (some Jvm.ClassFile.FieldType.boolean) 0 0 [(2, r)] h (mKz K) := by
  refine m_entry RX7 rfl (by decide) rfl (fun p e s m args below meth c C hr => ?_)
  show mG _ p l e _ s m args below meth c _ _ 0 [(0, (2, r))] [] h
  unfold wp_X7_isFull at hw
  refine g_aload_n C dX7_isFull_0 rfl (by decide) rfl ?_
  refine gf_X7_21 C dX7_isFull_1 hk (fun z1 => ?_)
  refine g_aload_n C dX7_isFull_4 rfl (by decide) rfl ?_
  refine gw_X7_15 C dX7_isFull_5 hk (wir_6_0 hWR hk) ?_
  refine g_alen2 C dX7_isFull_8 (ci := 14) (by decide) (kid_6_0 hWR hk) ?_
  refine g_icmp_lt C 16 dX7_isFull_9 rfl hw (fun hw => ?_) (fun hw => ?_)
  · refine g_iconst C ⟨by decide, by decide⟩ dX7_isFull_16 ?_
    exact g_zret C hr (Or.inl rfl) dX7_isFull_17 ⟨_, rfl, (Or.inl rfl), hw⟩
  · refine g_iconst C ⟨by decide, by decide⟩ dX7_isFull_12 ?_
    refine g_goto C 17 dX7_isFull_13 rfl ?_
    exact g_zret C hr (Or.inr rfl) dX7_isFull_17 ⟨_, rfl, (Or.inr rfl), hw⟩
set_option maxRecDepth 20000 in
set_option maxHeartbeats 4000000 in
theorem sim_X1_cellBits {X : Mx} (hWR : mWir X) {r : Int} (hk : (mxS X r).1 = 0) {l : Launch} {h : Mh} {K : Int → Mh → Prop} (hw : wp_X1_cellBits (mxS X) r h K) : mCal X l yX1_cellBits cX1_cellBits 4 (some Jvm.ClassFile.FieldType.long) 0 0 [(2, r)] h (mKl K) := by
  refine m_entry RX1 rfl (by decide) rfl (fun p e s m args below meth c C hr => ?_)
  have hQ : ∀ x, Lfp (F_X1_cellBits (mxS X) r K) x → (match x.1, x.2.1 with | 4, [v1, v3] => mG X p l e { frames := 0, cells := 0, slots := 0, locals := 0 } s m args below meth c 4 (mMQ X (mKl K) below args s) 4 [(1, (1, v1)), (3, (0, v3)), (0, (2, r))] [] x.2.2 | _, _ => True) := by
    intro x hx
    refine Lfp.ind (fun x => (match x.1, x.2.1 with | 4, [v1, v3] => mG X p l e { frames := 0, cells := 0, slots := 0, locals := 0 } s m args below meth c 4 (mMQ X (mKl K) below args s) 4 [(1, (1, v1)), (3, (0, v3)), (0, (2, r))] [] x.2.2 | _, _ => True)) ?_ hx
    clear hx x
    intro Z x hQ hw
    rcases hw with ⟨v1, v3, h, rfl, hw⟩
    · show mG X p l e { frames := 0, cells := 0, slots := 0, locals := 0 } s m args below meth c 4 (mMQ X (mKl K) below args s) 4 [(1, (1, v1)), (3, (0, v3)), (0, (2, r))] [] h
      unfold B_X1_cellBits_4 at hw
      refine g_iload_n C dX1_cellBits_4 rfl rfl ?_
      refine g_aload_n C dX1_cellBits_5 rfl (by decide) rfl ?_
      refine gf_X1_27 C dX1_cellBits_6 hk (fun z6 => ?_)
      refine g_icmp_ge C 29 dX1_cellBits_9 rfl hw (fun hw => ?_) (fun hw => ?_)
      · refine g_lload_n C dX1_cellBits_29 rfl rfl ?_
        exact g_lret C hr dX1_cellBits_30 ⟨_, rfl, hw⟩
      · refine g_lload_n C dX1_cellBits_12 rfl rfl ?_
        refine g_lconst C 1 (Or.inr rfl) rfl dX1_cellBits_13 ?_
        refine g_aload_n C dX1_cellBits_14 rfl (by decide) rfl ?_
        refine gw_X1_21 C dX1_cellBits_15 hk (wir_0_1 hWR hk) ?_
        refine g_iload_n C dX1_cellBits_18 rfl rfl ?_
        obtain ⟨⟨b1, b1b⟩, hw⟩ := hw
        refine g_iaload C dX1_cellBits_19 (kid_0_1 hWR hk) b1 b1b (fun z19 => ?_)
        refine g_lshl C dX1_cellBits_20 ?_
        refine g_lor C dX1_cellBits_21 ?_
        refine g_topi (fun x1 ex1 => ?_)
        replace hw := hw x1 ex1
        refine g_lstore_n C dX1_cellBits_22 rfl (by decide) ?_
        refine g_iincN C dX1_cellBits_23 rfl (by decide) (fun x2 ex2 => ?_)
        replace hw := hw x2 ex2
        refine g_goto C 4 dX1_cellBits_26 rfl ?_
        exact g_sub [1, 3, 0] rfl (hQ _ hw)
  show mG _ p l e _ s m args below meth c _ _ 0 [(0, (2, r))] [] h
  unfold wp_X1_cellBits at hw
  refine g_lconst C 0 (Or.inl rfl) rfl dX1_cellBits_0 ?_
  refine g_lstore_n C dX1_cellBits_1 rfl (by decide) ?_
  refine g_iconst C ⟨by decide, by decide⟩ dX1_cellBits_2 ?_
  refine g_istore_n C dX1_cellBits_3 rfl (by decide) ?_
  exact g_sub [1, 3, 0] rfl (hQ _ hw)
set_option maxRecDepth 20000 in
set_option maxHeartbeats 4000000 in
theorem sim_X7_cellBits {X : Mx} (hWR : mWir X) {r : Int} (hk : (mxS X r).1 = 6) {l : Launch} {h : Mh} {K : Int → Mh → Prop} (hw : wp_X7_cellBits (mxS X) r h K) : mCal X l yX7_cellBits cX7_cellBits 4 (some Jvm.ClassFile.FieldType.long) 0 0 [(2, r)] h (mKl K) := by
  refine m_entry RX7 rfl (by decide) rfl (fun p e s m args below meth c C hr => ?_)
  have hQ : ∀ x, Lfp (F_X7_cellBits (mxS X) r K) x → (match x.1, x.2.1 with | 4, [v1, v3] => mG X p l e { frames := 0, cells := 0, slots := 0, locals := 0 } s m args below meth c 4 (mMQ X (mKl K) below args s) 4 [(1, (1, v1)), (3, (0, v3)), (0, (2, r))] [] x.2.2 | _, _ => True) := by
    intro x hx
    refine Lfp.ind (fun x => (match x.1, x.2.1 with | 4, [v1, v3] => mG X p l e { frames := 0, cells := 0, slots := 0, locals := 0 } s m args below meth c 4 (mMQ X (mKl K) below args s) 4 [(1, (1, v1)), (3, (0, v3)), (0, (2, r))] [] x.2.2 | _, _ => True)) ?_ hx
    clear hx x
    intro Z x hQ hw
    rcases hw with ⟨v1, v3, h, rfl, hw⟩
    · show mG X p l e { frames := 0, cells := 0, slots := 0, locals := 0 } s m args below meth c 4 (mMQ X (mKl K) below args s) 4 [(1, (1, v1)), (3, (0, v3)), (0, (2, r))] [] h
      unfold B_X7_cellBits_4 at hw
      refine g_iload_n C dX7_cellBits_4 rfl rfl ?_
      refine g_aload_n C dX7_cellBits_5 rfl (by decide) rfl ?_
      refine gf_X7_21 C dX7_cellBits_6 hk (fun z6 => ?_)
      refine g_icmp_ge C 38 dX7_cellBits_9 rfl hw (fun hw => ?_) (fun hw => ?_)
      · refine g_lload_n C dX7_cellBits_38 rfl rfl ?_
        exact g_lret C hr dX7_cellBits_39 ⟨_, rfl, hw⟩
      · refine g_iload_n C dX7_cellBits_12 rfl rfl ?_
        refine g_aload_n C dX7_cellBits_13 rfl (by decide) rfl ?_
        refine gw_X7_15 C dX7_cellBits_14 hk (wir_6_0 hWR hk) ?_
        refine g_alen2 C dX7_cellBits_17 (ci := 14) (by decide) (kid_6_0 hWR hk) ?_
        refine g_icmp_ge C 38 dX7_cellBits_18 rfl hw (fun hw => ?_) (fun hw => ?_)
        · refine g_lload_n C dX7_cellBits_38 rfl rfl ?_
          exact g_lret C hr dX7_cellBits_39 ⟨_, rfl, hw⟩
        · refine g_lload_n C dX7_cellBits_21 rfl rfl ?_
          refine g_lconst C 1 (Or.inr rfl) rfl dX7_cellBits_22 ?_
          refine g_aload_n C dX7_cellBits_23 rfl (by decide) rfl ?_
          refine gw_X7_15 C dX7_cellBits_24 hk (wir_6_0 hWR hk) ?_
          refine g_iload_n C dX7_cellBits_27 rfl rfl ?_
          obtain ⟨⟨b1, b1b⟩, hw⟩ := hw
          refine g_iaload C dX7_cellBits_28 (kid_6_0 hWR hk) b1 b1b (fun z28 => ?_)
          refine g_lshl C dX7_cellBits_29 ?_
          refine g_lor C dX7_cellBits_30 ?_
          refine g_topi (fun x1 ex1 => ?_)
          replace hw := hw x1 ex1
          refine g_lstore_n C dX7_cellBits_31 rfl (by decide) ?_
          refine g_iincN C dX7_cellBits_32 rfl (by decide) (fun x2 ex2 => ?_)
          replace hw := hw x2 ex2
          refine g_goto C 4 dX7_cellBits_35 rfl ?_
          exact g_sub [1, 3, 0] rfl (hQ _ hw)
  show mG _ p l e _ s m args below meth c _ _ 0 [(0, (2, r))] [] h
  unfold wp_X7_cellBits at hw
  refine g_lconst C 0 (Or.inl rfl) rfl dX7_cellBits_0 ?_
  refine g_lstore_n C dX7_cellBits_1 rfl (by decide) ?_
  refine g_iconst C ⟨by decide, by decide⟩ dX7_cellBits_2 ?_
  refine g_istore_n C dX7_cellBits_3 rfl (by decide) ?_
  exact g_sub [1, 3, 0] rfl (hQ _ hw)
set_option maxRecDepth 20000 in
set_option maxHeartbeats 4000000 in
theorem sim_X5_usedCells {X : Mx} (hWR : mWir X) {r : Int} (hk : (mxS X r).1 = 4) {l : Launch} {h : Mh} {K : Int → Mh → Prop} (hw : wp_X5_usedCells (mxS X) r h K) : mCal X l yX5_usedCells cX5_usedCells 4 (some Jvm.ClassFile.FieldType.long) 1 23 [(2, r)] h (mKl K) := by
  refine m_entry RX5 rfl (by decide) rfl (fun p e s m args below meth c C hr => ?_)
  have hQ : ∀ x, Lfp (F_X5_usedCells (mxS X) r K) x → (match x.1, x.2.1 with | 39, [v1, v3] => mG X p l e { frames := 1, cells := 0, slots := 0, locals := 23 } s m args below meth c 4 (mMQ X (mKl K) below args s) 39 [(1, (1, v1)), (3, (0, v3)), (0, (2, r))] [] x.2.2 | _, _ => True) := by
    intro x hx
    refine Lfp.ind (fun x => (match x.1, x.2.1 with | 39, [v1, v3] => mG X p l e { frames := 1, cells := 0, slots := 0, locals := 23 } s m args below meth c 4 (mMQ X (mKl K) below args s) 39 [(1, (1, v1)), (3, (0, v3)), (0, (2, r))] [] x.2.2 | _, _ => True)) ?_ hx
    clear hx x
    intro Z x hQ hw
    rcases hw with ⟨v1, v3, h, rfl, hw⟩
    · show mG X p l e { frames := 1, cells := 0, slots := 0, locals := 23 } s m args below meth c 4 (mMQ X (mKl K) below args s) 39 [(1, (1, v1)), (3, (0, v3)), (0, (2, r))] [] h
      unfold B_X5_usedCells_39 at hw
      refine g_iload_n C dX5_usedCells_39 rfl rfl ?_
      refine g_aload_n C dX5_usedCells_40 rfl (by decide) rfl ?_
      refine gw_X5_20 C dX5_usedCells_41 hk (wir_4_5 hWR hk) ?_
      refine g_alen2 C dX5_usedCells_44 (ci := 17) (by decide) (kid_4_5 hWR hk) ?_
      refine g_icmp_ge C 66 dX5_usedCells_45 rfl hw (fun hw => ?_) (fun hw => ?_)
      · refine g_lload_n C dX5_usedCells_66 rfl rfl ?_
        exact g_lret C hr dX5_usedCells_67 ⟨_, rfl, hw⟩
      · refine g_lload_n C dX5_usedCells_48 rfl rfl ?_
        refine g_aload_n C dX5_usedCells_49 rfl (by decide) rfl ?_
        refine gw_X5_20 C dX5_usedCells_50 hk (wir_4_5 hWR hk) ?_
        refine g_iload_n C dX5_usedCells_53 rfl rfl ?_
        obtain ⟨⟨b1, b1b⟩, hw⟩ := hw
        refine g_aaload C dX5_usedCells_54 (kid_4_5 hWR hk) b1 b1b (wir_17 hWR (kid_4_5 hWR hk) b1 b1b) ?_
        refine g_callVl C [] (sim_X7_cellBits hWR (kid_17 hWR (kid_4_5 hWR hk) b1 b1b) hw) k_813 k_814 k_815 k_136 k_816 hdV_X7_cellBits rfl rfl (by decide) rfl (kid_17 hWR (kid_4_5 hWR hk) b1 b1b) rfl rfl rfl dX5_usedCells_55 ?_
        intro x1 h1 hw
        refine g_lor C dX5_usedCells_58 ?_
        refine g_topi (fun x2 ex2 => ?_)
        replace hw := hw x2 ex2
        refine g_lstore_n C dX5_usedCells_59 rfl (by decide) ?_
        refine g_iincN C dX5_usedCells_60 rfl (by decide) (fun x3 ex3 => ?_)
        replace hw := hw x3 ex3
        refine g_goto C 39 dX5_usedCells_63 rfl ?_
        exact g_sub [1, 3, 0] rfl (hQ _ hw)
  show mG _ p l e _ s m args below meth c _ _ 0 [(0, (2, r))] [] h
  unfold wp_X5_usedCells at hw
  refine g_aload_n C dX5_usedCells_0 rfl (by decide) rfl ?_
  refine gf_X5_79 C dX5_usedCells_1 hk (fun z1 => ?_)
  refine g_aload_n C dX5_usedCells_4 rfl (by decide) rfl ?_
  refine gw_X5_14 C dX5_usedCells_5 hk (wir_4_4 hWR hk) ?_
  refine g_callVl C [] (sim_X7_cellBits hWR (kid_4_4 hWR hk) hw) k_813 k_814 k_815 k_136 k_816 hdV_X7_cellBits rfl rfl (by decide) rfl (kid_4_4 hWR hk) rfl rfl rfl dX5_usedCells_8 ?_
  intro x1 h1 hw
  refine g_lor C dX5_usedCells_11 ?_
  refine g_aload_n C dX5_usedCells_12 rfl (by decide) rfl ?_
  refine gw_X5_39 C dX5_usedCells_13 hk (wir_4_11 hWR hk) ?_
  refine g_callVl C [] (sim_X7_cellBits hWR (kid_4_11 hWR hk) hw) k_813 k_814 k_815 k_136 k_816 hdV_X7_cellBits rfl rfl (by decide) rfl (kid_4_11 hWR hk) rfl rfl rfl dX5_usedCells_16 ?_
  intro x2 h2 hw
  refine g_lor C dX5_usedCells_19 ?_
  refine g_aload_n C dX5_usedCells_20 rfl (by decide) rfl ?_
  refine gw_X5_45 C dX5_usedCells_21 hk (wir_4_13 hWR hk) ?_
  refine g_callVl C [] (sim_X7_cellBits hWR (kid_4_13 hWR hk) hw) k_813 k_814 k_815 k_136 k_816 hdV_X7_cellBits rfl rfl (by decide) rfl (kid_4_13 hWR hk) rfl rfl rfl dX5_usedCells_24 ?_
  intro x3 h3 hw
  refine g_lor C dX5_usedCells_27 ?_
  refine g_aload_n C dX5_usedCells_28 rfl (by decide) rfl ?_
  refine gw_X5_51 C dX5_usedCells_29 hk (wir_4_14 hWR hk) ?_
  refine g_callVl C [] (sim_X1_cellBits hWR (kid_4_14 hWR hk) hw) k_817 k_818 k_819 k_138 k_820 hdV_X1_cellBits rfl rfl (by decide) rfl (kid_4_14 hWR hk) rfl rfl rfl dX5_usedCells_32 ?_
  intro x4 h4 hw
  refine g_lor C dX5_usedCells_35 ?_
  refine g_topi (fun x5 ex5 => ?_)
  replace hw := hw x5 ex5
  refine g_lstore_n C dX5_usedCells_36 rfl (by decide) ?_
  refine g_iconst C ⟨by decide, by decide⟩ dX5_usedCells_37 ?_
  refine g_istore_n C dX5_usedCells_38 rfl (by decide) ?_
  exact g_sub [1, 3, 0] rfl (hQ _ hw)
set_option maxRecDepth 20000 in
set_option maxHeartbeats 4000000 in
theorem sim_X3_add {X : Mx} (hWR : mWir X) {r : Int} (hk : (mxS X r).1 = 2) {l : Launch} {p1 : Int} {p2 : Int} {h : Mh} {K : Mh → Prop} (hw : wp_X3_add (mxS X) r p1 p2 h K) : mCal X l yX3_add cX3_add 3 none 0 0 [(2, r), (0, p1), (0, p2)] h (mKv K) := by
  refine m_entry RX3 rfl (by decide) rfl (fun p e s m args below meth c C hr => ?_)
  show mG _ p l e _ s m args below meth c _ _ 0 [(0, (2, r)), (1, (0, p1)), (2, (0, p2))] [] h
  unfold wp_X3_add at hw
  refine g_aload_n C dX3_add_0 rfl (by decide) rfl ?_
  refine gf_X3_25 C dX3_add_1 hk (fun z1 => ?_)
  refine g_if_lt C 46 dX3_add_4 rfl hw (fun hw => ?_) (fun hw => ?_)
  · exact g_vret C hr dX3_add_46 ⟨rfl, hw⟩
  · refine g_aload_n C dX3_add_7 rfl (by decide) rfl ?_
    refine gf_X3_25 C dX3_add_8 hk (fun z8 => ?_)
    refine g_bipush C ⟨by decide, by decide⟩ (by decide) dX3_add_11 ?_
    refine g_icmp_ge C 46 dX3_add_13 rfl hw (fun hw => ?_) (fun hw => ?_)
    · exact g_vret C hr dX3_add_46 ⟨rfl, hw⟩
    · refine g_aload_n C dX3_add_16 rfl (by decide) rfl ?_
      refine gw_X3_9 C dX3_add_17 hk (wir_2_0 hWR hk) ?_
      refine g_aload_n C dX3_add_20 rfl (by decide) rfl ?_
      refine gf_X3_25 C dX3_add_21 hk (fun z21 => ?_)
      refine g_iload_n C dX3_add_24 rfl rfl ?_
      obtain ⟨⟨b1, b1b⟩, hw⟩ := hw
      refine g_iastore C dX3_add_25 (kid_2_0 hWR hk) b1 b1b (fun z => z) ?_
      refine g_heap (fun h1 eh1 => ?_)
      replace hw := hw h1 eh1
      refine g_aload_n C dX3_add_26 rfl (by decide) rfl ?_
      refine gw_X3_15 C dX3_add_27 hk (wir_2_1 hWR hk) ?_
      refine g_aload_n C dX3_add_30 rfl (by decide) rfl ?_
      refine gf_X3_25 C dX3_add_31 hk (fun z31 => ?_)
      refine g_iload_n C dX3_add_34 rfl rfl ?_
      obtain ⟨⟨b2, b2b⟩, hw⟩ := hw
      refine g_iastore C dX3_add_35 (kid_2_1 hWR hk) b2 b2b (fun z => z) ?_
      refine g_heap (fun h2 eh2 => ?_)
      replace hw := hw h2 eh2
      refine g_aload_n C dX3_add_36 rfl (by decide) rfl ?_
      refine g_dup C (by show ¬ (2 : Nat) = 1; decide) dX3_add_37 ?_
      refine gf_X3_25 C dX3_add_38 hk (fun z38 => ?_)
      refine g_iconst C ⟨by decide, by decide⟩ dX3_add_41 ?_
      refine g_iadd C dX3_add_42 ?_
      refine gp_X3_25 C dX3_add_43 hk (fun z => z) ?_
      refine g_heap (fun h3 eh3 => ?_)
      replace hw := hw h3 eh3
      exact g_vret C hr dX3_add_46 ⟨rfl, hw⟩
