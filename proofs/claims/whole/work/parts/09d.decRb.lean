theorem dX14_cellRead_52 : decode cX14_cellRead 52 = .ok (.getfield 209, 3) := by decide +kernel
theorem dX14_cellRead_55 : decode cX14_cellRead 55 = .ok (.aload_n 0, 1) := by decide +kernel
theorem dX14_cellRead_56 : decode cX14_cellRead 56 = .ok (.getfield 196, 3) := by decide +kernel
theorem dX14_cellRead_59 : decode cX14_cellRead 59 = .ok (.imul, 1) := by decide +kernel
theorem dX14_cellRead_60 : decode cX14_cellRead 60 = .ok (.iload_n 1, 1) := by decide +kernel
theorem dX14_cellRead_61 : decode cX14_cellRead 61 = .ok (.iadd, 1) := by decide +kernel
theorem dX14_cellRead_62 : decode cX14_cellRead 62 = .ok (.putfield 196, 3) := by decide +kernel
theorem dX14_cellRead_65 : decode cX14_cellRead 65 = .ok (.iconst 1, 1) := by decide +kernel
theorem dX14_cellRead_66 : decode cX14_cellRead 66 = .ok (.ireturn, 1) := by decide +kernel
theorem dX14_drawn1_0 : decode cX14_drawn1 0 = .ok (.aload_n 0, 1) := by decide +kernel
theorem dX14_drawn1_1 : decode cX14_drawn1 1 = .ok (.aload_n 0, 1) := by decide +kernel
theorem dX14_drawn1_2 : decode cX14_drawn1 2 = .ok (.getfield 556, 3) := by decide +kernel
theorem dX14_drawn1_5 : decode cX14_drawn1 5 = .ok (.ldc2_w 560, 3) := by decide +kernel
theorem dX14_drawn1_8 : decode cX14_drawn1 8 = .ok (.lmul, 1) := by decide +kernel
theorem dX14_drawn1_9 : decode cX14_drawn1 9 = .ok (.ldc2_w 562, 3) := by decide +kernel
theorem dX14_drawn1_12 : decode cX14_drawn1 12 = .ok (.ladd, 1) := by decide +kernel
theorem dX14_drawn1_13 : decode cX14_drawn1 13 = .ok (.ldc2_w 564, 3) := by decide +kernel
theorem dX14_drawn1_16 : decode cX14_drawn1 16 = .ok (.land, 1) := by decide +kernel
theorem dX14_drawn1_17 : decode cX14_drawn1 17 = .ok (.putfield 556, 3) := by decide +kernel
theorem dX14_drawn1_20 : decode cX14_drawn1 20 = .ok (.aload_n 0, 1) := by decide +kernel
theorem dX14_drawn1_21 : decode cX14_drawn1 21 = .ok (.getfield 556, 3) := by decide +kernel
theorem dX14_drawn1_24 : decode cX14_drawn1 24 = .ok (.ldc2_w 566, 3) := by decide +kernel
theorem dX14_drawn1_27 : decode cX14_drawn1 27 = .ok (.ldiv, 1) := by decide +kernel
theorem dX14_drawn1_28 : decode cX14_drawn1 28 = .ok (.iload_n 1, 1) := by decide +kernel
theorem dX14_drawn1_29 : decode cX14_drawn1 29 = .ok (.i2l, 1) := by decide +kernel
theorem dX14_drawn1_30 : decode cX14_drawn1 30 = .ok (.lrem, 1) := by decide +kernel
theorem dX14_drawn1_31 : decode cX14_drawn1 31 = .ok (.l2i, 1) := by decide +kernel
theorem dX14_drawn1_32 : decode cX14_drawn1 32 = .ok (.ireturn, 1) := by decide +kernel
theorem dX14_isCork_0 : decode cX14_isCork 0 = .ok (.iload_n 1, 1) := by decide +kernel
theorem dX14_isCork_1 : decode cX14_isCork 1 = .ok (.ifCond .lt 15, 3) := by decide +kernel
theorem dX14_isCork_4 : decode cX14_isCork 4 = .ok (.iload_n 1, 1) := by decide +kernel
theorem dX14_isCork_5 : decode cX14_isCork 5 = .ok (.aload_n 0, 1) := by decide +kernel
theorem dX14_isCork_6 : decode cX14_isCork 6 = .ok (.getfield 264, 3) := by decide +kernel
theorem dX14_isCork_9 : decode cX14_isCork 9 = .ok (.if_icmp .ge 7, 3) := by decide +kernel
theorem dX14_isCork_12 : decode cX14_isCork 12 = .ok (.iconst 1, 1) := by decide +kernel
theorem dX14_isCork_13 : decode cX14_isCork 13 = .ok (.goto 4, 3) := by decide +kernel
theorem dX14_isCork_16 : decode cX14_isCork 16 = .ok (.iconst 0, 1) := by decide +kernel
theorem dX14_isCork_17 : decode cX14_isCork 17 = .ok (.ireturn, 1) := by decide +kernel
theorem dX14_isKind_0 : decode cX14_isKind 0 = .ok (.iload_n 1, 1) := by decide +kernel
theorem dX14_isKind_1 : decode cX14_isKind 1 = .ok (.ifCond .lt 15, 3) := by decide +kernel
theorem dX14_isKind_4 : decode cX14_isKind 4 = .ok (.iload_n 1, 1) := by decide +kernel
theorem dX14_isKind_5 : decode cX14_isKind 5 = .ok (.aload_n 0, 1) := by decide +kernel
theorem dX14_isKind_6 : decode cX14_isKind 6 = .ok (.getfield 261, 3) := by decide +kernel
theorem dX14_isKind_9 : decode cX14_isKind 9 = .ok (.if_icmp .ge 7, 3) := by decide +kernel
theorem dX14_isKind_12 : decode cX14_isKind 12 = .ok (.iconst 1, 1) := by decide +kernel
theorem dX14_isKind_13 : decode cX14_isKind 13 = .ok (.goto 4, 3) := by decide +kernel
theorem dX14_isKind_16 : decode cX14_isKind 16 = .ok (.iconst 0, 1) := by decide +kernel
theorem dX14_isKind_17 : decode cX14_isKind 17 = .ok (.ireturn, 1) := by decide +kernel
theorem dX14_chance_0 : decode cX14_chance 0 = .ok (.aload_n 0, 1) := by decide +kernel
theorem dX14_chance_1 : decode cX14_chance 1 = .ok (.iconst 0, 1) := by decide +kernel
theorem dX14_chance_2 : decode cX14_chance 2 = .ok (.putfield 148, 3) := by decide +kernel
theorem dX14_chance_5 : decode cX14_chance 5 = .ok (.iload_n 1, 1) := by decide +kernel
theorem dX14_chance_6 : decode cX14_chance 6 = .ok (.ifCond .lt 41, 3) := by decide +kernel
theorem dX14_chance_9 : decode cX14_chance 9 = .ok (.aload_n 0, 1) := by decide +kernel
theorem dX14_chance_10 : decode cX14_chance 10 = .ok (.iload_n 2, 1) := by decide +kernel
theorem dX14_chance_11 : decode cX14_chance 11 = .ok (.invokevirtual 442, 3) := by decide +kernel
theorem dX14_chance_14 : decode cX14_chance 14 = .ok (.ifCond .eq 33, 3) := by decide +kernel
theorem dX14_chance_17 : decode cX14_chance 17 = .ok (.iload_n 3, 1) := by decide +kernel
theorem dX14_chance_18 : decode cX14_chance 18 = .ok (.iconst 1, 1) := by decide +kernel
theorem dX14_chance_19 : decode cX14_chance 19 = .ok (.bipush 9, 2) := by decide +kernel
theorem dX14_chance_21 : decode cX14_chance 21 = .ok (.invokestatic 192, 3) := by decide +kernel
theorem dX14_chance_24 : decode cX14_chance 24 = .ok (.ifCond .eq 23, 3) := by decide +kernel
theorem dX14_chance_27 : decode cX14_chance 27 = .ok (.aload_n 0, 1) := by decide +kernel
theorem dX14_chance_28 : decode cX14_chance 28 = .ok (.iload 4, 2) := by decide +kernel
theorem dX14_chance_30 : decode cX14_chance 30 = .ok (.invokevirtual 475, 3) := by decide +kernel
theorem dX14_chance_33 : decode cX14_chance 33 = .ok (.ifCond .eq 14, 3) := by decide +kernel
theorem dX14_chance_36 : decode cX14_chance 36 = .ok (.iload 5, 2) := by decide +kernel
theorem dX14_chance_38 : decode cX14_chance 38 = .ok (.iconst 0, 1) := by decide +kernel
theorem dX14_chance_39 : decode cX14_chance 39 = .ok (.bipush 40, 2) := by decide +kernel
theorem dX14_chance_41 : decode cX14_chance 41 = .ok (.invokestatic 192, 3) := by decide +kernel
theorem dX14_chance_44 : decode cX14_chance 44 = .ok (.ifCond .ne 5, 3) := by decide +kernel
theorem dX14_chance_47 : decode cX14_chance 47 = .ok (.iconst (-1), 1) := by decide +kernel
theorem dX14_chance_48 : decode cX14_chance 48 = .ok (.ireturn, 1) := by decide +kernel
theorem dX14_chance_49 : decode cX14_chance 49 = .ok (.aload_n 0, 1) := by decide +kernel
theorem dX14_chance_50 : decode cX14_chance 50 = .ok (.iload_n 1, 1) := by decide +kernel
theorem dX14_chance_51 : decode cX14_chance 51 = .ok (.i2l, 1) := by decide +kernel
theorem dX14_chance_52 : decode cX14_chance 52 = .ok (.putfield 556, 3) := by decide +kernel
theorem dX14_chance_55 : decode cX14_chance 55 = .ok (.iconst 0, 1) := by decide +kernel
theorem dX14_chance_56 : decode cX14_chance 56 = .ok (.istore 6, 2) := by decide +kernel
theorem dX14_chance_58 : decode cX14_chance 58 = .ok (.iconst 0, 1) := by decide +kernel
theorem dX14_chance_59 : decode cX14_chance 59 = .ok (.istore 7, 2) := by decide +kernel
theorem dX14_chance_61 : decode cX14_chance 61 = .ok (.iload 7, 2) := by decide +kernel
theorem dX14_chance_63 : decode cX14_chance 63 = .ok (.bipush 10, 2) := by decide +kernel
theorem dX14_chance_65 : decode cX14_chance 65 = .ok (.if_icmp .ge 94, 3) := by decide +kernel
theorem dX14_chance_68 : decode cX14_chance 68 = .ok (.iconst 0, 1) := by decide +kernel
theorem dX14_chance_69 : decode cX14_chance 69 = .ok (.istore 8, 2) := by decide +kernel
theorem dX14_chance_71 : decode cX14_chance 71 = .ok (.iconst 0, 1) := by decide +kernel
theorem dX14_chance_72 : decode cX14_chance 72 = .ok (.istore 9, 2) := by decide +kernel
theorem dX14_chance_74 : decode cX14_chance 74 = .ok (.iload 9, 2) := by decide +kernel
theorem dX14_chance_76 : decode cX14_chance 76 = .ok (.iload_n 3, 1) := by decide +kernel
theorem dX14_chance_77 : decode cX14_chance 77 = .ok (.if_icmp .ge 61, 3) := by decide +kernel
theorem dX14_chance_80 : decode cX14_chance 80 = .ok (.aload_n 0, 1) := by decide +kernel
theorem dX14_chance_81 : decode cX14_chance 81 = .ok (.aload_n 0, 1) := by decide +kernel
theorem dX14_chance_82 : decode cX14_chance 82 = .ok (.invokevirtual 426, 3) := by decide +kernel
theorem dX14_chance_85 : decode cX14_chance 85 = .ok (.invokevirtual 568, 3) := by decide +kernel
theorem dX14_chance_88 : decode cX14_chance 88 = .ok (.istore 10, 2) := by decide +kernel
theorem dX14_chance_90 : decode cX14_chance 90 = .ok (.aload_n 0, 1) := by decide +kernel
theorem dX14_chance_91 : decode cX14_chance 91 = .ok (.getfield 27, 3) := by decide +kernel
theorem dX14_chance_94 : decode cX14_chance 94 = .ok (.iload 10, 2) := by decide +kernel
theorem dX14_chance_96 : decode cX14_chance 96 = .ok (.iaload, 1) := by decide +kernel
theorem dX14_chance_97 : decode cX14_chance 97 = .ok (.iconst 2, 1) := by decide +kernel
theorem dX14_chance_98 : decode cX14_chance 98 = .ok (.if_icmp .ne 6, 3) := by decide +kernel
theorem dX14_chance_101 : decode cX14_chance 101 = .ok (.goto 31, 3) := by decide +kernel
theorem dX14_chance_104 : decode cX14_chance 104 = .ok (.iload 8, 2) := by decide +kernel
theorem dX14_chance_106 : decode cX14_chance 106 = .ok (.aload_n 0, 1) := by decide +kernel
theorem dX14_chance_107 : decode cX14_chance 107 = .ok (.iload_n 2, 1) := by decide +kernel
theorem dX14_chance_108 : decode cX14_chance 108 = .ok (.iload 10, 2) := by decide +kernel
theorem dX14_chance_110 : decode cX14_chance 110 = .ok (.aload_n 0, 1) := by decide +kernel
theorem dX14_chance_111 : decode cX14_chance 111 = .ok (.getfield 54, 3) := by decide +kernel
theorem dX14_chance_114 : decode cX14_chance 114 = .ok (.iload 4, 2) := by decide +kernel
theorem dX14_chance_116 : decode cX14_chance 116 = .ok (.iaload, 1) := by decide +kernel
theorem dX14_chance_117 : decode cX14_chance 117 = .ok (.iload 5, 2) := by decide +kernel
theorem dX14_chance_119 : decode cX14_chance 119 = .ok (.aload_n 0, 1) := by decide +kernel
theorem dX14_chance_120 : decode cX14_chance 120 = .ok (.bipush 16, 2) := by decide +kernel
theorem dX14_chance_122 : decode cX14_chance 122 = .ok (.invokevirtual 568, 3) := by decide +kernel
theorem dX14_chance_125 : decode cX14_chance 125 = .ok (.isub, 1) := by decide +kernel
theorem dX14_chance_126 : decode cX14_chance 126 = .ok (.invokevirtual 464, 3) := by decide +kernel
theorem dX14_chance_129 : decode cX14_chance 129 = .ok (.iadd, 1) := by decide +kernel
theorem dX14_chance_130 : decode cX14_chance 130 = .ok (.istore 8, 2) := by decide +kernel
theorem dX14_chance_132 : decode cX14_chance 132 = .ok (.iinc 9 1, 3) := by decide +kernel
theorem dX14_chance_135 : decode cX14_chance 135 = .ok (.goto (-61), 3) := by decide +kernel
theorem dX14_chance_138 : decode cX14_chance 138 = .ok (.iload 6, 2) := by decide +kernel
theorem dX14_chance_140 : decode cX14_chance 140 = .ok (.iload 8, 2) := by decide +kernel
theorem dX14_chance_142 : decode cX14_chance 142 = .ok (.ifCond .le 7, 3) := by decide +kernel
theorem dX14_chance_145 : decode cX14_chance 145 = .ok (.iconst 1, 1) := by decide +kernel
theorem dX14_chance_146 : decode cX14_chance 146 = .ok (.goto 4, 3) := by decide +kernel
theorem dX14_chance_149 : decode cX14_chance 149 = .ok (.iconst 0, 1) := by decide +kernel
theorem dX14_chance_150 : decode cX14_chance 150 = .ok (.iadd, 1) := by decide +kernel
theorem dX14_chance_151 : decode cX14_chance 151 = .ok (.istore 6, 2) := by decide +kernel
theorem dX14_chance_153 : decode cX14_chance 153 = .ok (.iinc 7 1, 3) := by decide +kernel
theorem dX14_chance_156 : decode cX14_chance 156 = .ok (.goto (-95), 3) := by decide +kernel
theorem dX14_chance_159 : decode cX14_chance 159 = .ok (.iload 6, 2) := by decide +kernel
theorem dX14_chance_161 : decode cX14_chance 161 = .ok (.ireturn, 1) := by decide +kernel
theorem dX14_riseIn_0 : decode cX14_riseIn 0 = .ok (.aload_n 0, 1) := by decide +kernel
theorem dX14_riseIn_1 : decode cX14_riseIn 1 = .ok (.getfield 112, 3) := by decide +kernel
theorem dX14_riseIn_4 : decode cX14_riseIn 4 = .ok (.ifCond .ge 7, 3) := by decide +kernel
theorem dX14_riseIn_7 : decode cX14_riseIn 7 = .ok (.iconst 0, 1) := by decide +kernel
theorem dX14_riseIn_8 : decode cX14_riseIn 8 = .ok (.goto 22, 3) := by decide +kernel
theorem dX14_riseIn_11 : decode cX14_riseIn 11 = .ok (.aload_n 0, 1) := by decide +kernel
theorem dX14_riseIn_12 : decode cX14_riseIn 12 = .ok (.aload_n 0, 1) := by decide +kernel
theorem dX14_riseIn_13 : decode cX14_riseIn 13 = .ok (.getfield 112, 3) := by decide +kernel
theorem dX14_riseIn_16 : decode cX14_riseIn 16 = .ok (.aload_n 0, 1) := by decide +kernel
theorem dX14_riseIn_17 : decode cX14_riseIn 17 = .ok (.getfield 458, 3) := by decide +kernel
theorem dX14_riseIn_20 : decode cX14_riseIn 20 = .ok (.iload_n 1, 1) := by decide +kernel
theorem dX14_riseIn_21 : decode cX14_riseIn 21 = .ok (.iload_n 2, 1) := by decide +kernel
theorem dX14_riseIn_22 : decode cX14_riseIn 22 = .ok (.aload_n 0, 1) := by decide +kernel
theorem dX14_riseIn_23 : decode cX14_riseIn 23 = .ok (.getfield 461, 3) := by decide +kernel
theorem dX14_riseIn_26 : decode cX14_riseIn 26 = .ok (.isub, 1) := by decide +kernel
theorem dX14_riseIn_27 : decode cX14_riseIn 27 = .ok (.invokevirtual 464, 3) := by decide +kernel
theorem dX14_riseIn_30 : decode cX14_riseIn 30 = .ok (.istore_n 3, 1) := by decide +kernel
theorem dX14_riseIn_31 : decode cX14_riseIn 31 = .ok (.iconst 0, 1) := by decide +kernel
theorem dX14_riseIn_32 : decode cX14_riseIn 32 = .ok (.istore 4, 2) := by decide +kernel
theorem dX14_riseIn_34 : decode cX14_riseIn 34 = .ok (.iload 4, 2) := by decide +kernel
theorem dX14_riseIn_36 : decode cX14_riseIn 36 = .ok (.aload_n 0, 1) := by decide +kernel
theorem dX14_riseIn_37 : decode cX14_riseIn 37 = .ok (.getfield 298, 3) := by decide +kernel
theorem dX14_riseIn_40 : decode cX14_riseIn 40 = .ok (.if_icmp .ge 40, 3) := by decide +kernel
theorem dX14_riseIn_43 : decode cX14_riseIn 43 = .ok (.iload_n 3, 1) := by decide +kernel
theorem dX14_riseIn_44 : decode cX14_riseIn 44 = .ok (.aload_n 0, 1) := by decide +kernel
theorem dX14_riseIn_45 : decode cX14_riseIn 45 = .ok (.aload_n 0, 1) := by decide +kernel
theorem dX14_riseIn_46 : decode cX14_riseIn 46 = .ok (.getfield 63, 3) := by decide +kernel
theorem dX14_riseIn_49 : decode cX14_riseIn 49 = .ok (.iload 4, 2) := by decide +kernel
theorem dX14_riseIn_51 : decode cX14_riseIn 51 = .ok (.iaload, 1) := by decide +kernel
theorem dX14_riseIn_52 : decode cX14_riseIn 52 = .ok (.aload_n 0, 1) := by decide +kernel
theorem dX14_riseIn_53 : decode cX14_riseIn 53 = .ok (.getfield 66, 3) := by decide +kernel
theorem dX14_riseIn_56 : decode cX14_riseIn 56 = .ok (.iload 4, 2) := by decide +kernel
theorem dX14_riseIn_58 : decode cX14_riseIn 58 = .ok (.iaload, 1) := by decide +kernel
theorem dX14_riseIn_59 : decode cX14_riseIn 59 = .ok (.iload_n 1, 1) := by decide +kernel
theorem dX14_riseIn_60 : decode cX14_riseIn 60 = .ok (.iload_n 2, 1) := by decide +kernel
theorem dX14_riseIn_61 : decode cX14_riseIn 61 = .ok (.aload_n 0, 1) := by decide +kernel
theorem dX14_riseIn_62 : decode cX14_riseIn 62 = .ok (.getfield 69, 3) := by decide +kernel
theorem dX14_riseIn_65 : decode cX14_riseIn 65 = .ok (.iload 4, 2) := by decide +kernel
theorem dX14_riseIn_67 : decode cX14_riseIn 67 = .ok (.iaload, 1) := by decide +kernel
theorem dX14_riseIn_68 : decode cX14_riseIn 68 = .ok (.isub, 1) := by decide +kernel
theorem dX14_riseIn_69 : decode cX14_riseIn 69 = .ok (.invokevirtual 464, 3) := by decide +kernel
theorem dX14_riseIn_72 : decode cX14_riseIn 72 = .ok (.iadd, 1) := by decide +kernel
theorem dX14_riseIn_73 : decode cX14_riseIn 73 = .ok (.istore_n 3, 1) := by decide +kernel
theorem dX14_riseIn_74 : decode cX14_riseIn 74 = .ok (.iinc 4 1, 3) := by decide +kernel
theorem dX14_riseIn_77 : decode cX14_riseIn 77 = .ok (.goto (-43), 3) := by decide +kernel
theorem dX14_riseIn_80 : decode cX14_riseIn 80 = .ok (.iload_n 3, 1) := by decide +kernel
theorem dX14_riseIn_81 : decode cX14_riseIn 81 = .ok (.ireturn, 1) := by decide +kernel
theorem dX14_compares_0 : decode cX14_compares 0 = .ok (.iload_n 0, 1) := by decide +kernel
theorem dX14_compares_1 : decode cX14_compares 1 = .ok (.tableswitch 95 5 9 #[35, 47, 59, 71, 83], 35) := by decide +kernel
theorem dX14_compares_36 : decode cX14_compares 36 = .ok (.lload_n 1, 1) := by decide +kernel
theorem dX14_compares_37 : decode cX14_compares 37 = .ok (.lload_n 3, 1) := by decide +kernel
theorem dX14_compares_38 : decode cX14_compares 38 = .ok (.lcmp, 1) := by decide +kernel
theorem dX14_compares_39 : decode cX14_compares 39 = .ok (.ifCond .ge 7, 3) := by decide +kernel
theorem dX14_compares_42 : decode cX14_compares 42 = .ok (.iconst 1, 1) := by decide +kernel
theorem dX14_compares_43 : decode cX14_compares 43 = .ok (.goto 4, 3) := by decide +kernel
theorem dX14_compares_46 : decode cX14_compares 46 = .ok (.iconst 0, 1) := by decide +kernel
theorem dX14_compares_47 : decode cX14_compares 47 = .ok (.ireturn, 1) := by decide +kernel
theorem dX14_compares_48 : decode cX14_compares 48 = .ok (.lload_n 1, 1) := by decide +kernel
theorem dX14_compares_49 : decode cX14_compares 49 = .ok (.lload_n 3, 1) := by decide +kernel
theorem dX14_compares_50 : decode cX14_compares 50 = .ok (.lcmp, 1) := by decide +kernel
theorem dX14_compares_51 : decode cX14_compares 51 = .ok (.ifCond .gt 7, 3) := by decide +kernel
theorem dX14_compares_54 : decode cX14_compares 54 = .ok (.iconst 1, 1) := by decide +kernel
theorem dX14_compares_55 : decode cX14_compares 55 = .ok (.goto 4, 3) := by decide +kernel
theorem dX14_compares_58 : decode cX14_compares 58 = .ok (.iconst 0, 1) := by decide +kernel
theorem dX14_compares_59 : decode cX14_compares 59 = .ok (.ireturn, 1) := by decide +kernel
theorem dX14_compares_60 : decode cX14_compares 60 = .ok (.lload_n 1, 1) := by decide +kernel
theorem dX14_compares_61 : decode cX14_compares 61 = .ok (.lload_n 3, 1) := by decide +kernel
theorem dX14_compares_62 : decode cX14_compares 62 = .ok (.lcmp, 1) := by decide +kernel
theorem dX14_compares_63 : decode cX14_compares 63 = .ok (.ifCond .ne 7, 3) := by decide +kernel
theorem dX14_compares_66 : decode cX14_compares 66 = .ok (.iconst 1, 1) := by decide +kernel
theorem dX14_compares_67 : decode cX14_compares 67 = .ok (.goto 4, 3) := by decide +kernel
theorem dX14_compares_70 : decode cX14_compares 70 = .ok (.iconst 0, 1) := by decide +kernel
theorem dX14_compares_71 : decode cX14_compares 71 = .ok (.ireturn, 1) := by decide +kernel
theorem dX14_compares_72 : decode cX14_compares 72 = .ok (.lload_n 1, 1) := by decide +kernel
theorem dX14_compares_73 : decode cX14_compares 73 = .ok (.lload_n 3, 1) := by decide +kernel
theorem dX14_compares_74 : decode cX14_compares 74 = .ok (.lcmp, 1) := by decide +kernel
theorem dX14_compares_75 : decode cX14_compares 75 = .ok (.ifCond .eq 7, 3) := by decide +kernel
theorem dX14_compares_78 : decode cX14_compares 78 = .ok (.iconst 1, 1) := by decide +kernel
theorem dX14_compares_79 : decode cX14_compares 79 = .ok (.goto 4, 3) := by decide +kernel
theorem dX14_compares_82 : decode cX14_compares 82 = .ok (.iconst 0, 1) := by decide +kernel
theorem dX14_compares_83 : decode cX14_compares 83 = .ok (.ireturn, 1) := by decide +kernel
theorem dX14_compares_84 : decode cX14_compares 84 = .ok (.lload_n 1, 1) := by decide +kernel
theorem dX14_compares_85 : decode cX14_compares 85 = .ok (.lload_n 3, 1) := by decide +kernel
theorem dX14_compares_86 : decode cX14_compares 86 = .ok (.lcmp, 1) := by decide +kernel
theorem dX14_compares_87 : decode cX14_compares 87 = .ok (.ifCond .lt 7, 3) := by decide +kernel
theorem dX14_compares_90 : decode cX14_compares 90 = .ok (.iconst 1, 1) := by decide +kernel
theorem dX14_compares_91 : decode cX14_compares 91 = .ok (.goto 4, 3) := by decide +kernel
theorem dX14_compares_94 : decode cX14_compares 94 = .ok (.iconst 0, 1) := by decide +kernel
theorem dX14_compares_95 : decode cX14_compares 95 = .ok (.ireturn, 1) := by decide +kernel
theorem dX14_compares_96 : decode cX14_compares 96 = .ok (.lload_n 1, 1) := by decide +kernel
theorem dX14_compares_97 : decode cX14_compares 97 = .ok (.lload_n 3, 1) := by decide +kernel
theorem dX14_compares_98 : decode cX14_compares 98 = .ok (.lcmp, 1) := by decide +kernel
theorem dX14_compares_99 : decode cX14_compares 99 = .ok (.ifCond .le 7, 3) := by decide +kernel
theorem dX14_compares_102 : decode cX14_compares 102 = .ok (.iconst 1, 1) := by decide +kernel
theorem dX14_compares_103 : decode cX14_compares 103 = .ok (.goto 4, 3) := by decide +kernel
theorem dX14_compares_106 : decode cX14_compares 106 = .ok (.iconst 0, 1) := by decide +kernel
theorem dX14_compares_107 : decode cX14_compares 107 = .ok (.ireturn, 1) := by decide +kernel
theorem dX14_times_0 : decode cX14_times 0 = .ok (.lload_n 1, 1) := by decide +kernel
theorem dX14_times_1 : decode cX14_times 1 = .ok (.lconst 0, 1) := by decide +kernel
theorem dX14_times_2 : decode cX14_times 2 = .ok (.lcmp, 1) := by decide +kernel
theorem dX14_times_3 : decode cX14_times 3 = .ok (.ifCond .eq 45, 3) := by decide +kernel
theorem dX14_times_6 : decode cX14_times 6 = .ok (.lload_n 3, 1) := by decide +kernel
theorem dX14_times_7 : decode cX14_times 7 = .ok (.lconst 0, 1) := by decide +kernel
theorem dX14_times_8 : decode cX14_times 8 = .ok (.lcmp, 1) := by decide +kernel
theorem dX14_times_9 : decode cX14_times 9 = .ok (.ifCond .eq 39, 3) := by decide +kernel
theorem dX14_times_12 : decode cX14_times 12 = .ok (.lload_n 3, 1) := by decide +kernel
theorem dX14_times_13 : decode cX14_times 13 = .ok (.lconst 0, 1) := by decide +kernel
theorem dX14_times_14 : decode cX14_times 14 = .ok (.lcmp, 1) := by decide +kernel
theorem dX14_times_15 : decode cX14_times 15 = .ok (.ifCond .ge 8, 3) := by decide +kernel
theorem dX14_times_18 : decode cX14_times 18 = .ok (.lload_n 3, 1) := by decide +kernel
theorem dX14_times_19 : decode cX14_times 19 = .ok (.lneg, 1) := by decide +kernel
theorem dX14_times_20 : decode cX14_times 20 = .ok (.goto 4, 3) := by decide +kernel
theorem dX14_times_23 : decode cX14_times 23 = .ok (.lload_n 3, 1) := by decide +kernel
theorem dX14_times_24 : decode cX14_times 24 = .ok (.ldc2_w 410, 3) := by decide +kernel
theorem dX14_times_27 : decode cX14_times 27 = .ok (.lload_n 1, 1) := by decide +kernel
theorem dX14_times_28 : decode cX14_times 28 = .ok (.lconst 0, 1) := by decide +kernel
theorem dX14_times_29 : decode cX14_times 29 = .ok (.lcmp, 1) := by decide +kernel
theorem dX14_times_30 : decode cX14_times 30 = .ok (.ifCond .ge 8, 3) := by decide +kernel
theorem dX14_times_33 : decode cX14_times 33 = .ok (.lload_n 1, 1) := by decide +kernel
theorem dX14_times_34 : decode cX14_times 34 = .ok (.lneg, 1) := by decide +kernel
theorem dX14_times_35 : decode cX14_times 35 = .ok (.goto 4, 3) := by decide +kernel
theorem dX14_times_38 : decode cX14_times 38 = .ok (.lload_n 1, 1) := by decide +kernel
theorem dX14_times_39 : decode cX14_times 39 = .ok (.ldiv, 1) := by decide +kernel
theorem dX14_times_40 : decode cX14_times 40 = .ok (.lcmp, 1) := by decide +kernel
theorem dX14_times_41 : decode cX14_times 41 = .ok (.ifCond .le 7, 3) := by decide +kernel
theorem dX14_times_44 : decode cX14_times 44 = .ok (.iconst 1, 1) := by decide +kernel
theorem dX14_times_45 : decode cX14_times 45 = .ok (.goto 4, 3) := by decide +kernel
theorem dX14_times_48 : decode cX14_times 48 = .ok (.iconst 0, 1) := by decide +kernel
theorem dX14_times_49 : decode cX14_times 49 = .ok (.istore 5, 2) := by decide +kernel
theorem dX14_times_51 : decode cX14_times 51 = .ok (.aload_n 0, 1) := by decide +kernel
theorem dX14_times_52 : decode cX14_times 52 = .ok (.aload_n 0, 1) := by decide +kernel
theorem dX14_times_53 : decode cX14_times 53 = .ok (.getfield 407, 3) := by decide +kernel
theorem dX14_times_56 : decode cX14_times 56 = .ok (.ifCond .ne 8, 3) := by decide +kernel
theorem dX14_times_59 : decode cX14_times 59 = .ok (.iload 5, 2) := by decide +kernel
theorem dX14_times_61 : decode cX14_times 61 = .ok (.ifCond .eq 7, 3) := by decide +kernel
theorem dX14_times_64 : decode cX14_times 64 = .ok (.iconst 1, 1) := by decide +kernel
theorem dX14_times_65 : decode cX14_times 65 = .ok (.goto 4, 3) := by decide +kernel
theorem dX14_times_68 : decode cX14_times 68 = .ok (.iconst 0, 1) := by decide +kernel
theorem dX14_times_69 : decode cX14_times 69 = .ok (.putfield 407, 3) := by decide +kernel
theorem dX14_times_72 : decode cX14_times 72 = .ok (.aload_n 0, 1) := by decide +kernel
theorem dX14_times_73 : decode cX14_times 73 = .ok (.getfield 407, 3) := by decide +kernel
theorem dX14_times_76 : decode cX14_times 76 = .ok (.ifCond .eq 7, 3) := by decide +kernel
theorem dX14_times_79 : decode cX14_times 79 = .ok (.lconst 0, 1) := by decide +kernel
theorem dX14_times_80 : decode cX14_times 80 = .ok (.goto 6, 3) := by decide +kernel
theorem dX14_times_83 : decode cX14_times 83 = .ok (.lload_n 1, 1) := by decide +kernel
theorem dX14_times_84 : decode cX14_times 84 = .ok (.lload_n 3, 1) := by decide +kernel
theorem dX14_times_85 : decode cX14_times 85 = .ok (.lmul, 1) := by decide +kernel
theorem dX14_times_86 : decode cX14_times 86 = .ok (.lreturn, 1) := by decide +kernel
theorem dX14_valueOf_0 : decode cX14_valueOf 0 = .ok (.aload_n 0, 1) := by decide +kernel
theorem dX14_valueOf_1 : decode cX14_valueOf 1 = .ok (.getfield 81, 3) := by decide +kernel
theorem dX14_valueOf_4 : decode cX14_valueOf 4 = .ok (.iload_n 1, 1) := by decide +kernel
theorem dX14_valueOf_5 : decode cX14_valueOf 5 = .ok (.iaload, 1) := by decide +kernel
theorem dX14_valueOf_6 : decode cX14_valueOf 6 = .ok (.ifCond .ne 11, 3) := by decide +kernel
theorem dX14_valueOf_9 : decode cX14_valueOf 9 = .ok (.aload_n 0, 1) := by decide +kernel
theorem dX14_valueOf_10 : decode cX14_valueOf 10 = .ok (.getfield 84, 3) := by decide +kernel
theorem dX14_valueOf_13 : decode cX14_valueOf 13 = .ok (.iload_n 1, 1) := by decide +kernel
theorem dX14_valueOf_14 : decode cX14_valueOf 14 = .ok (.iaload, 1) := by decide +kernel
theorem dX14_valueOf_15 : decode cX14_valueOf 15 = .ok (.i2l, 1) := by decide +kernel
theorem dX14_valueOf_16 : decode cX14_valueOf 16 = .ok (.lreturn, 1) := by decide +kernel
theorem dX14_valueOf_17 : decode cX14_valueOf 17 = .ok (.aload_n 0, 1) := by decide +kernel
theorem dX14_valueOf_18 : decode cX14_valueOf 18 = .ok (.getfield 81, 3) := by decide +kernel
theorem dX14_valueOf_21 : decode cX14_valueOf 21 = .ok (.iload_n 1, 1) := by decide +kernel
theorem dX14_valueOf_22 : decode cX14_valueOf 22 = .ok (.iaload, 1) := by decide +kernel
theorem dX14_valueOf_23 : decode cX14_valueOf 23 = .ok (.iconst 1, 1) := by decide +kernel
theorem dX14_valueOf_24 : decode cX14_valueOf 24 = .ok (.if_icmp .ne 15, 3) := by decide +kernel
theorem dX14_valueOf_27 : decode cX14_valueOf 27 = .ok (.aload_n 0, 1) := by decide +kernel
theorem dX14_valueOf_28 : decode cX14_valueOf 28 = .ok (.getfield 96, 3) := by decide +kernel
theorem dX14_valueOf_31 : decode cX14_valueOf 31 = .ok (.aload_n 0, 1) := by decide +kernel
theorem dX14_valueOf_32 : decode cX14_valueOf 32 = .ok (.getfield 84, 3) := by decide +kernel
theorem dX14_valueOf_35 : decode cX14_valueOf 35 = .ok (.iload_n 1, 1) := by decide +kernel
theorem dX14_valueOf_36 : decode cX14_valueOf 36 = .ok (.iaload, 1) := by decide +kernel
theorem dX14_valueOf_37 : decode cX14_valueOf 37 = .ok (.laload, 1) := by decide +kernel
theorem dX14_valueOf_38 : decode cX14_valueOf 38 = .ok (.lreturn, 1) := by decide +kernel
theorem dX14_valueOf_39 : decode cX14_valueOf 39 = .ok (.aload_n 0, 1) := by decide +kernel
theorem dX14_valueOf_40 : decode cX14_valueOf 40 = .ok (.getfield 100, 3) := by decide +kernel
theorem dX14_valueOf_43 : decode cX14_valueOf 43 = .ok (.aload_n 0, 1) := by decide +kernel
theorem dX14_valueOf_44 : decode cX14_valueOf 44 = .ok (.getfield 84, 3) := by decide +kernel
theorem dX14_valueOf_47 : decode cX14_valueOf 47 = .ok (.iload_n 1, 1) := by decide +kernel
theorem dX14_valueOf_48 : decode cX14_valueOf 48 = .ok (.iaload, 1) := by decide +kernel
theorem dX14_valueOf_49 : decode cX14_valueOf 49 = .ok (.laload, 1) := by decide +kernel
theorem dX14_valueOf_50 : decode cX14_valueOf 50 = .ok (.lstore_n 2, 1) := by decide +kernel
theorem dX14_valueOf_51 : decode cX14_valueOf 51 = .ok (.aload_n 0, 1) := by decide +kernel
theorem dX14_valueOf_52 : decode cX14_valueOf 52 = .ok (.getfield 81, 3) := by decide +kernel
theorem dX14_valueOf_55 : decode cX14_valueOf 55 = .ok (.iload_n 1, 1) := by decide +kernel
theorem dX14_valueOf_56 : decode cX14_valueOf 56 = .ok (.iaload, 1) := by decide +kernel
theorem dX14_valueOf_57 : decode cX14_valueOf 57 = .ok (.iconst 2, 1) := by decide +kernel
theorem dX14_valueOf_58 : decode cX14_valueOf 58 = .ok (.if_icmp .ne 15, 3) := by decide +kernel
theorem dX14_valueOf_61 : decode cX14_valueOf 61 = .ok (.lload_n 2, 1) := by decide +kernel
theorem dX14_valueOf_62 : decode cX14_valueOf 62 = .ok (.lconst 0, 1) := by decide +kernel
theorem dX14_valueOf_63 : decode cX14_valueOf 63 = .ok (.lcmp, 1) := by decide +kernel
theorem dX14_valueOf_64 : decode cX14_valueOf 64 = .ok (.ifCond .ne 7, 3) := by decide +kernel
theorem dX14_valueOf_67 : decode cX14_valueOf 67 = .ok (.lconst 1, 1) := by decide +kernel
theorem dX14_valueOf_68 : decode cX14_valueOf 68 = .ok (.goto 4, 3) := by decide +kernel
theorem dX14_valueOf_71 : decode cX14_valueOf 71 = .ok (.lconst 0, 1) := by decide +kernel
theorem dX14_valueOf_72 : decode cX14_valueOf 72 = .ok (.lreturn, 1) := by decide +kernel
theorem dX14_valueOf_73 : decode cX14_valueOf 73 = .ok (.aload_n 0, 1) := by decide +kernel
theorem dX14_valueOf_74 : decode cX14_valueOf 74 = .ok (.getfield 100, 3) := by decide +kernel
theorem dX14_valueOf_77 : decode cX14_valueOf 77 = .ok (.aload_n 0, 1) := by decide +kernel
theorem dX14_valueOf_78 : decode cX14_valueOf 78 = .ok (.getfield 87, 3) := by decide +kernel
theorem dX14_valueOf_81 : decode cX14_valueOf 81 = .ok (.iload_n 1, 1) := by decide +kernel
theorem dX14_valueOf_82 : decode cX14_valueOf 82 = .ok (.iaload, 1) := by decide +kernel
theorem dX14_valueOf_83 : decode cX14_valueOf 83 = .ok (.laload, 1) := by decide +kernel
theorem dX14_valueOf_84 : decode cX14_valueOf 84 = .ok (.lstore 4, 2) := by decide +kernel
theorem dX14_valueOf_86 : decode cX14_valueOf 86 = .ok (.aload_n 0, 1) := by decide +kernel
theorem dX14_valueOf_87 : decode cX14_valueOf 87 = .ok (.getfield 81, 3) := by decide +kernel
theorem dX14_valueOf_90 : decode cX14_valueOf 90 = .ok (.iload_n 1, 1) := by decide +kernel
theorem dX14_valueOf_91 : decode cX14_valueOf 91 = .ok (.iaload, 1) := by decide +kernel
theorem dX14_valueOf_92 : decode cX14_valueOf 92 = .ok (.tableswitch 167 3 14 #[64, 83, 167, 167, 167, 167, 167, 167, 102, 111, 120, 128], 64) := by decide +kernel
theorem dX14_valueOf_156 : decode cX14_valueOf 156 = .ok (.lload_n 2, 1) := by decide +kernel
theorem dX14_valueOf_157 : decode cX14_valueOf 157 = .ok (.lconst 0, 1) := by decide +kernel
theorem dX14_valueOf_158 : decode cX14_valueOf 158 = .ok (.lcmp, 1) := by decide +kernel
theorem dX14_valueOf_159 : decode cX14_valueOf 159 = .ok (.ifCond .eq 14, 3) := by decide +kernel
theorem dX14_valueOf_162 : decode cX14_valueOf 162 = .ok (.lload 4, 2) := by decide +kernel
theorem dX14_valueOf_164 : decode cX14_valueOf 164 = .ok (.lconst 0, 1) := by decide +kernel
theorem dX14_valueOf_165 : decode cX14_valueOf 165 = .ok (.lcmp, 1) := by decide +kernel
theorem dX14_valueOf_166 : decode cX14_valueOf 166 = .ok (.ifCond .eq 7, 3) := by decide +kernel
theorem dX14_valueOf_169 : decode cX14_valueOf 169 = .ok (.lconst 1, 1) := by decide +kernel
theorem dX14_valueOf_170 : decode cX14_valueOf 170 = .ok (.goto 4, 3) := by decide +kernel
theorem dX14_valueOf_173 : decode cX14_valueOf 173 = .ok (.lconst 0, 1) := by decide +kernel
theorem dX14_valueOf_174 : decode cX14_valueOf 174 = .ok (.lreturn, 1) := by decide +kernel
theorem dX14_valueOf_175 : decode cX14_valueOf 175 = .ok (.lload_n 2, 1) := by decide +kernel
theorem dX14_valueOf_176 : decode cX14_valueOf 176 = .ok (.lconst 0, 1) := by decide +kernel
theorem dX14_valueOf_177 : decode cX14_valueOf 177 = .ok (.lcmp, 1) := by decide +kernel
theorem dX14_valueOf_178 : decode cX14_valueOf 178 = .ok (.ifCond .ne 10, 3) := by decide +kernel
theorem dX14_valueOf_181 : decode cX14_valueOf 181 = .ok (.lload 4, 2) := by decide +kernel
theorem dX14_valueOf_183 : decode cX14_valueOf 183 = .ok (.lconst 0, 1) := by decide +kernel
theorem dX14_valueOf_184 : decode cX14_valueOf 184 = .ok (.lcmp, 1) := by decide +kernel
theorem dX14_valueOf_185 : decode cX14_valueOf 185 = .ok (.ifCond .eq 7, 3) := by decide +kernel
theorem dX14_valueOf_188 : decode cX14_valueOf 188 = .ok (.lconst 1, 1) := by decide +kernel
theorem dX14_valueOf_189 : decode cX14_valueOf 189 = .ok (.goto 4, 3) := by decide +kernel
theorem dX14_valueOf_192 : decode cX14_valueOf 192 = .ok (.lconst 0, 1) := by decide +kernel
theorem dX14_valueOf_193 : decode cX14_valueOf 193 = .ok (.lreturn, 1) := by decide +kernel
theorem dX14_valueOf_194 : decode cX14_valueOf 194 = .ok (.aload_n 0, 1) := by decide +kernel
theorem dX14_valueOf_195 : decode cX14_valueOf 195 = .ok (.lload_n 2, 1) := by decide +kernel
theorem dX14_valueOf_196 : decode cX14_valueOf 196 = .ok (.lload 4, 2) := by decide +kernel
theorem dX14_valueOf_198 : decode cX14_valueOf 198 = .ok (.ladd, 1) := by decide +kernel
theorem dX14_valueOf_199 : decode cX14_valueOf 199 = .ok (.invokevirtual 414, 3) := by decide +kernel
theorem dX14_valueOf_202 : decode cX14_valueOf 202 = .ok (.lreturn, 1) := by decide +kernel
theorem dX14_valueOf_203 : decode cX14_valueOf 203 = .ok (.aload_n 0, 1) := by decide +kernel
theorem dX14_valueOf_204 : decode cX14_valueOf 204 = .ok (.lload_n 2, 1) := by decide +kernel
theorem dX14_valueOf_205 : decode cX14_valueOf 205 = .ok (.lload 4, 2) := by decide +kernel
theorem dX14_valueOf_207 : decode cX14_valueOf 207 = .ok (.lsub, 1) := by decide +kernel
theorem dX14_valueOf_208 : decode cX14_valueOf 208 = .ok (.invokevirtual 414, 3) := by decide +kernel
theorem dX14_valueOf_211 : decode cX14_valueOf 211 = .ok (.lreturn, 1) := by decide +kernel
theorem dX14_valueOf_212 : decode cX14_valueOf 212 = .ok (.aload_n 0, 1) := by decide +kernel
theorem dX14_valueOf_213 : decode cX14_valueOf 213 = .ok (.lload_n 2, 1) := by decide +kernel
theorem dX14_valueOf_214 : decode cX14_valueOf 214 = .ok (.lload 4, 2) := by decide +kernel
theorem dX14_valueOf_216 : decode cX14_valueOf 216 = .ok (.invokevirtual 418, 3) := by decide +kernel
theorem dX14_valueOf_219 : decode cX14_valueOf 219 = .ok (.lreturn, 1) := by decide +kernel
theorem dX14_valueOf_220 : decode cX14_valueOf 220 = .ok (.aload_n 0, 1) := by decide +kernel
theorem dX14_valueOf_221 : decode cX14_valueOf 221 = .ok (.aload_n 0, 1) := by decide +kernel
theorem dX14_valueOf_222 : decode cX14_valueOf 222 = .ok (.getfield 407, 3) := by decide +kernel
theorem dX14_valueOf_225 : decode cX14_valueOf 225 = .ok (.ifCond .ne 10, 3) := by decide +kernel
theorem dX14_valueOf_228 : decode cX14_valueOf 228 = .ok (.lload 4, 2) := by decide +kernel
theorem dX14_valueOf_230 : decode cX14_valueOf 230 = .ok (.lconst 0, 1) := by decide +kernel
theorem dX14_valueOf_231 : decode cX14_valueOf 231 = .ok (.lcmp, 1) := by decide +kernel
theorem dX14_valueOf_232 : decode cX14_valueOf 232 = .ok (.ifCond .ne 7, 3) := by decide +kernel
theorem dX14_valueOf_235 : decode cX14_valueOf 235 = .ok (.iconst 1, 1) := by decide +kernel
theorem dX14_valueOf_236 : decode cX14_valueOf 236 = .ok (.goto 4, 3) := by decide +kernel
theorem dX14_valueOf_239 : decode cX14_valueOf 239 = .ok (.iconst 0, 1) := by decide +kernel
theorem dX14_valueOf_240 : decode cX14_valueOf 240 = .ok (.putfield 407, 3) := by decide +kernel
theorem dX14_valueOf_243 : decode cX14_valueOf 243 = .ok (.aload_n 0, 1) := by decide +kernel
theorem dX14_valueOf_244 : decode cX14_valueOf 244 = .ok (.getfield 407, 3) := by decide +kernel
theorem dX14_valueOf_247 : decode cX14_valueOf 247 = .ok (.ifCond .eq 7, 3) := by decide +kernel
theorem dX14_valueOf_250 : decode cX14_valueOf 250 = .ok (.lconst 0, 1) := by decide +kernel
theorem dX14_valueOf_251 : decode cX14_valueOf 251 = .ok (.goto 7, 3) := by decide +kernel
theorem dX14_valueOf_254 : decode cX14_valueOf 254 = .ok (.lload_n 2, 1) := by decide +kernel
theorem dX14_valueOf_255 : decode cX14_valueOf 255 = .ok (.lload 4, 2) := by decide +kernel
theorem dX14_valueOf_257 : decode cX14_valueOf 257 = .ok (.ldiv, 1) := by decide +kernel
theorem dX14_valueOf_258 : decode cX14_valueOf 258 = .ok (.lreturn, 1) := by decide +kernel
theorem dX14_valueOf_259 : decode cX14_valueOf 259 = .ok (.aload_n 0, 1) := by decide +kernel
theorem dX14_valueOf_260 : decode cX14_valueOf 260 = .ok (.getfield 81, 3) := by decide +kernel
theorem dX14_valueOf_263 : decode cX14_valueOf 263 = .ok (.iload_n 1, 1) := by decide +kernel
theorem dX14_valueOf_264 : decode cX14_valueOf 264 = .ok (.iaload, 1) := by decide +kernel
theorem dX14_valueOf_265 : decode cX14_valueOf 265 = .ok (.lload_n 2, 1) := by decide +kernel
theorem dX14_valueOf_266 : decode cX14_valueOf 266 = .ok (.lload 4, 2) := by decide +kernel
theorem dX14_valueOf_268 : decode cX14_valueOf 268 = .ok (.invokestatic 422, 3) := by decide +kernel
theorem dX14_valueOf_271 : decode cX14_valueOf 271 = .ok (.ifCond .eq 7, 3) := by decide +kernel
theorem dX14_valueOf_274 : decode cX14_valueOf 274 = .ok (.lconst 1, 1) := by decide +kernel
theorem dX14_valueOf_275 : decode cX14_valueOf 275 = .ok (.goto 4, 3) := by decide +kernel
theorem dX14_valueOf_278 : decode cX14_valueOf 278 = .ok (.lconst 0, 1) := by decide +kernel
theorem dX14_valueOf_279 : decode cX14_valueOf 279 = .ok (.lreturn, 1) := by decide +kernel
theorem dX14_lawOf_0 : decode cX14_lawOf 0 = .ok (.aload_n 0, 1) := by decide +kernel
theorem dX14_lawOf_1 : decode cX14_lawOf 1 = .ok (.iload_n 1, 1) := by decide +kernel
theorem dX14_lawOf_2 : decode cX14_lawOf 2 = .ok (.iload_n 2, 1) := by decide +kernel
theorem dX14_lawOf_3 : decode cX14_lawOf 3 = .ok (.invokevirtual 439, 3) := by decide +kernel
theorem dX14_lawOf_6 : decode cX14_lawOf 6 = .ok (.istore 4, 2) := by decide +kernel
theorem dX14_lawOf_8 : decode cX14_lawOf 8 = .ok (.aload_n 0, 1) := by decide +kernel
theorem dX14_lawOf_9 : decode cX14_lawOf 9 = .ok (.iconst 0, 1) := by decide +kernel
theorem dX14_lawOf_10 : decode cX14_lawOf 10 = .ok (.putfield 407, 3) := by decide +kernel
theorem dX14_lawOf_13 : decode cX14_lawOf 13 = .ok (.aload_n 0, 1) := by decide +kernel
theorem dX14_lawOf_14 : decode cX14_lawOf 14 = .ok (.getfield 291, 3) := by decide +kernel
theorem dX14_lawOf_17 : decode cX14_lawOf 17 = .ok (.ifCond .ne 12, 3) := by decide +kernel
theorem dX14_lawOf_20 : decode cX14_lawOf 20 = .ok (.aload_n 0, 1) := by decide +kernel
theorem dX14_lawOf_21 : decode cX14_lawOf 21 = .ok (.iload 4, 2) := by decide +kernel
theorem dX14_lawOf_23 : decode cX14_lawOf 23 = .ok (.iload_n 3, 1) := by decide +kernel
theorem dX14_lawOf_24 : decode cX14_lawOf 24 = .ok (.invokevirtual 471, 3) := by decide +kernel
theorem dX14_lawOf_27 : decode cX14_lawOf 27 = .ok (.i2l, 1) := by decide +kernel
theorem dX14_lawOf_28 : decode cX14_lawOf 28 = .ok (.lreturn, 1) := by decide +kernel
theorem dX14_lawOf_29 : decode cX14_lawOf 29 = .ok (.aload_n 0, 1) := by decide +kernel
theorem dX14_lawOf_30 : decode cX14_lawOf 30 = .ok (.getfield 96, 3) := by decide +kernel
theorem dX14_lawOf_33 : decode cX14_lawOf 33 = .ok (.iconst 0, 1) := by decide +kernel
theorem dX14_lawOf_34 : decode cX14_lawOf 34 = .ok (.aload_n 0, 1) := by decide +kernel
theorem dX14_lawOf_35 : decode cX14_lawOf 35 = .ok (.iload 4, 2) := by decide +kernel
theorem dX14_lawOf_37 : decode cX14_lawOf 37 = .ok (.iload_n 3, 1) := by decide +kernel
theorem dX14_lawOf_38 : decode cX14_lawOf 38 = .ok (.invokevirtual 471, 3) := by decide +kernel
theorem dX14_lawOf_41 : decode cX14_lawOf 41 = .ok (.i2l, 1) := by decide +kernel
theorem dX14_lawOf_42 : decode cX14_lawOf 42 = .ok (.lastore, 1) := by decide +kernel
theorem dX14_lawOf_43 : decode cX14_lawOf 43 = .ok (.aload_n 0, 1) := by decide +kernel
theorem dX14_lawOf_44 : decode cX14_lawOf 44 = .ok (.getfield 96, 3) := by decide +kernel
theorem dX14_lawOf_47 : decode cX14_lawOf 47 = .ok (.iconst 1, 1) := by decide +kernel
theorem dX14_lawOf_48 : decode cX14_lawOf 48 = .ok (.aload_n 0, 1) := by decide +kernel
theorem dX14_lawOf_49 : decode cX14_lawOf 49 = .ok (.iload_n 1, 1) := by decide +kernel
theorem dX14_lawOf_50 : decode cX14_lawOf 50 = .ok (.iload_n 3, 1) := by decide +kernel
theorem dX14_lawOf_51 : decode cX14_lawOf 51 = .ok (.invokevirtual 471, 3) := by decide +kernel
theorem dX14_lawOf_54 : decode cX14_lawOf 54 = .ok (.i2l, 1) := by decide +kernel
theorem dX14_lawOf_55 : decode cX14_lawOf 55 = .ok (.lastore, 1) := by decide +kernel
theorem dX14_lawOf_56 : decode cX14_lawOf 56 = .ok (.aload_n 0, 1) := by decide +kernel
theorem dX14_lawOf_57 : decode cX14_lawOf 57 = .ok (.getfield 96, 3) := by decide +kernel
theorem dX14_lawOf_60 : decode cX14_lawOf 60 = .ok (.iconst 2, 1) := by decide +kernel
theorem dX14_lawOf_61 : decode cX14_lawOf 61 = .ok (.aload_n 0, 1) := by decide +kernel
theorem dX14_lawOf_62 : decode cX14_lawOf 62 = .ok (.getfield 27, 3) := by decide +kernel
theorem dX14_lawOf_65 : decode cX14_lawOf 65 = .ok (.iload 4, 2) := by decide +kernel
theorem dX14_lawOf_67 : decode cX14_lawOf 67 = .ok (.iaload, 1) := by decide +kernel
theorem dX14_lawOf_68 : decode cX14_lawOf 68 = .ok (.iconst 1, 1) := by decide +kernel
theorem dX14_lawOf_69 : decode cX14_lawOf 69 = .ok (.if_icmp .ne 7, 3) := by decide +kernel
theorem dX14_lawOf_72 : decode cX14_lawOf 72 = .ok (.lconst 1, 1) := by decide +kernel
theorem dX14_lawOf_73 : decode cX14_lawOf 73 = .ok (.goto 4, 3) := by decide +kernel
theorem dX14_lawOf_76 : decode cX14_lawOf 76 = .ok (.lconst 0, 1) := by decide +kernel
theorem dX14_lawOf_77 : decode cX14_lawOf 77 = .ok (.lastore, 1) := by decide +kernel
theorem dX14_lawOf_78 : decode cX14_lawOf 78 = .ok (.aload_n 0, 1) := by decide +kernel
theorem dX14_lawOf_79 : decode cX14_lawOf 79 = .ok (.getfield 96, 3) := by decide +kernel
theorem dX14_lawOf_82 : decode cX14_lawOf 82 = .ok (.iconst 3, 1) := by decide +kernel
theorem dX14_lawOf_83 : decode cX14_lawOf 83 = .ok (.iload_n 2, 1) := by decide +kernel
theorem dX14_lawOf_84 : decode cX14_lawOf 84 = .ok (.i2l, 1) := by decide +kernel
theorem dX14_lawOf_85 : decode cX14_lawOf 85 = .ok (.lastore, 1) := by decide +kernel
theorem dX14_lawOf_86 : decode cX14_lawOf 86 = .ok (.aload_n 0, 1) := by decide +kernel
theorem dX14_lawOf_87 : decode cX14_lawOf 87 = .ok (.getfield 96, 3) := by decide +kernel
theorem dX14_lawOf_90 : decode cX14_lawOf 90 = .ok (.iconst 4, 1) := by decide +kernel
theorem dX14_lawOf_91 : decode cX14_lawOf 91 = .ok (.iload_n 3, 1) := by decide +kernel
theorem dX14_lawOf_92 : decode cX14_lawOf 92 = .ok (.i2l, 1) := by decide +kernel
theorem dX14_lawOf_93 : decode cX14_lawOf 93 = .ok (.lastore, 1) := by decide +kernel
theorem dX14_lawOf_94 : decode cX14_lawOf 94 = .ok (.iconst 0, 1) := by decide +kernel
theorem dX14_lawOf_95 : decode cX14_lawOf 95 = .ok (.istore 5, 2) := by decide +kernel
theorem dX14_lawOf_97 : decode cX14_lawOf 97 = .ok (.iload 5, 2) := by decide +kernel
theorem dX14_lawOf_99 : decode cX14_lawOf 99 = .ok (.aload_n 0, 1) := by decide +kernel
theorem dX14_lawOf_100 : decode cX14_lawOf 100 = .ok (.getfield 279, 3) := by decide +kernel
theorem dX14_lawOf_103 : decode cX14_lawOf 103 = .ok (.if_icmp .ge 22, 3) := by decide +kernel
theorem dX14_lawOf_106 : decode cX14_lawOf 106 = .ok (.aload_n 0, 1) := by decide +kernel
theorem dX14_lawOf_107 : decode cX14_lawOf 107 = .ok (.getfield 100, 3) := by decide +kernel
theorem dX14_lawOf_110 : decode cX14_lawOf 110 = .ok (.iload 5, 2) := by decide +kernel
theorem dX14_lawOf_112 : decode cX14_lawOf 112 = .ok (.aload_n 0, 1) := by decide +kernel
theorem dX14_lawOf_113 : decode cX14_lawOf 113 = .ok (.iload 5, 2) := by decide +kernel
theorem dX14_lawOf_115 : decode cX14_lawOf 115 = .ok (.invokevirtual 478, 3) := by decide +kernel
theorem dX14_lawOf_118 : decode cX14_lawOf 118 = .ok (.lastore, 1) := by decide +kernel
theorem dX14_lawOf_119 : decode cX14_lawOf 119 = .ok (.iinc 5 1, 3) := by decide +kernel
theorem dX14_lawOf_122 : decode cX14_lawOf 122 = .ok (.goto (-25), 3) := by decide +kernel
theorem dX14_lawOf_125 : decode cX14_lawOf 125 = .ok (.aload_n 0, 1) := by decide +kernel
theorem dX14_lawOf_126 : decode cX14_lawOf 126 = .ok (.getfield 407, 3) := by decide +kernel
theorem dX14_lawOf_129 : decode cX14_lawOf 129 = .ok (.ifCond .eq 7, 3) := by decide +kernel
theorem dX14_lawOf_132 : decode cX14_lawOf 132 = .ok (.lconst 0, 1) := by decide +kernel
theorem dX14_lawOf_133 : decode cX14_lawOf 133 = .ok (.goto 14, 3) := by decide +kernel
theorem dX14_lawOf_136 : decode cX14_lawOf 136 = .ok (.aload_n 0, 1) := by decide +kernel
theorem dX14_lawOf_137 : decode cX14_lawOf 137 = .ok (.getfield 100, 3) := by decide +kernel
theorem dX14_lawOf_140 : decode cX14_lawOf 140 = .ok (.aload_n 0, 1) := by decide +kernel
theorem dX14_lawOf_141 : decode cX14_lawOf 141 = .ok (.getfield 279, 3) := by decide +kernel
theorem dX14_lawOf_144 : decode cX14_lawOf 144 = .ok (.iconst 1, 1) := by decide +kernel
theorem dX14_lawOf_145 : decode cX14_lawOf 145 = .ok (.isub, 1) := by decide +kernel
theorem dX14_lawOf_146 : decode cX14_lawOf 146 = .ok (.laload, 1) := by decide +kernel
theorem dX14_lawOf_147 : decode cX14_lawOf 147 = .ok (.lreturn, 1) := by decide +kernel
theorem dX14_goesFrom_0 : decode cX14_goesFrom 0 = .ok (.iconst (-1), 1) := by decide +kernel
theorem dX14_goesFrom_1 : decode cX14_goesFrom 1 = .ok (.istore_n 3, 1) := by decide +kernel
theorem dX14_goesFrom_2 : decode cX14_goesFrom 2 = .ok (.lconst 0, 1) := by decide +kernel
theorem dX14_goesFrom_3 : decode cX14_goesFrom 3 = .ok (.lstore 4, 2) := by decide +kernel
theorem dX14_goesFrom_5 : decode cX14_goesFrom 5 = .ok (.iconst 0, 1) := by decide +kernel
theorem dX14_goesFrom_6 : decode cX14_goesFrom 6 = .ok (.istore 6, 2) := by decide +kernel
theorem dX14_goesFrom_8 : decode cX14_goesFrom 8 = .ok (.iload 6, 2) := by decide +kernel
theorem dX14_goesFrom_10 : decode cX14_goesFrom 10 = .ok (.iconst 5, 1) := by decide +kernel
theorem dX14_goesFrom_11 : decode cX14_goesFrom 11 = .ok (.if_icmp .ge 58, 3) := by decide +kernel
theorem dX14_goesFrom_14 : decode cX14_goesFrom 14 = .ok (.aload_n 0, 1) := by decide +kernel
theorem dX14_goesFrom_15 : decode cX14_goesFrom 15 = .ok (.iload_n 1, 1) := by decide +kernel
theorem dX14_goesFrom_16 : decode cX14_goesFrom 16 = .ok (.iload 6, 2) := by decide +kernel
theorem dX14_goesFrom_18 : decode cX14_goesFrom 18 = .ok (.invokevirtual 439, 3) := by decide +kernel
theorem dX14_goesFrom_21 : decode cX14_goesFrom 21 = .ok (.istore 7, 2) := by decide +kernel
theorem dX14_goesFrom_23 : decode cX14_goesFrom 23 = .ok (.iload 7, 2) := by decide +kernel
theorem dX14_goesFrom_25 : decode cX14_goesFrom 25 = .ok (.ifCond .ge 6, 3) := by decide +kernel
theorem dX14_goesFrom_28 : decode cX14_goesFrom 28 = .ok (.goto 35, 3) := by decide +kernel
theorem dX14_goesFrom_31 : decode cX14_goesFrom 31 = .ok (.aload_n 0, 1) := by decide +kernel
theorem dX14_goesFrom_32 : decode cX14_goesFrom 32 = .ok (.iload_n 1, 1) := by decide +kernel
theorem dX14_goesFrom_33 : decode cX14_goesFrom 33 = .ok (.iload 6, 2) := by decide +kernel
theorem dX14_goesFrom_35 : decode cX14_goesFrom 35 = .ok (.iload_n 2, 1) := by decide +kernel
theorem dX14_goesFrom_36 : decode cX14_goesFrom 36 = .ok (.invokevirtual 487, 3) := by decide +kernel
theorem dX14_goesFrom_39 : decode cX14_goesFrom 39 = .ok (.lstore 8, 2) := by decide +kernel
theorem dX14_goesFrom_41 : decode cX14_goesFrom 41 = .ok (.iload_n 3, 1) := by decide +kernel
theorem dX14_goesFrom_42 : decode cX14_goesFrom 42 = .ok (.ifCond .lt 14, 3) := by decide +kernel
theorem dX14_goesFrom_45 : decode cX14_goesFrom 45 = .ok (.lload 8, 2) := by decide +kernel
theorem dX14_goesFrom_47 : decode cX14_goesFrom 47 = .ok (.lload 4, 2) := by decide +kernel
theorem dX14_goesFrom_49 : decode cX14_goesFrom 49 = .ok (.lcmp, 1) := by decide +kernel
theorem dX14_goesFrom_50 : decode cX14_goesFrom 50 = .ok (.ifCond .gt 6, 3) := by decide +kernel
theorem dX14_goesFrom_53 : decode cX14_goesFrom 53 = .ok (.goto 10, 3) := by decide +kernel
theorem dX14_goesFrom_56 : decode cX14_goesFrom 56 = .ok (.iload 7, 2) := by decide +kernel
theorem dX14_goesFrom_58 : decode cX14_goesFrom 58 = .ok (.istore_n 3, 1) := by decide +kernel
theorem dX14_goesFrom_59 : decode cX14_goesFrom 59 = .ok (.lload 8, 2) := by decide +kernel
theorem dX14_goesFrom_61 : decode cX14_goesFrom 61 = .ok (.lstore 4, 2) := by decide +kernel
theorem dX14_goesFrom_63 : decode cX14_goesFrom 63 = .ok (.iinc 6 1, 3) := by decide +kernel
theorem dX14_goesFrom_66 : decode cX14_goesFrom 66 = .ok (.goto (-58), 3) := by decide +kernel
theorem dX14_goesFrom_69 : decode cX14_goesFrom 69 = .ok (.iload_n 3, 1) := by decide +kernel
theorem dX14_goesFrom_70 : decode cX14_goesFrom 70 = .ok (.ireturn, 1) := by decide +kernel
theorem dX14_comesTo_0 : decode cX14_comesTo 0 = .ok (.aload_n 0, 1) := by decide +kernel
theorem dX14_comesTo_1 : decode cX14_comesTo 1 = .ok (.getfield 60, 3) := by decide +kernel
theorem dX14_comesTo_4 : decode cX14_comesTo 4 = .ok (.iload_n 1, 1) := by decide +kernel
theorem dX14_comesTo_5 : decode cX14_comesTo 5 = .ok (.iaload, 1) := by decide +kernel
theorem dX14_comesTo_6 : decode cX14_comesTo 6 = .ok (.istore 4, 2) := by decide +kernel
theorem dX14_comesTo_8 : decode cX14_comesTo 8 = .ok (.iconst 0, 1) := by decide +kernel
theorem dX14_comesTo_9 : decode cX14_comesTo 9 = .ok (.istore 5, 2) := by decide +kernel
theorem dX14_comesTo_11 : decode cX14_comesTo 11 = .ok (.iload 4, 2) := by decide +kernel
theorem dX14_comesTo_13 : decode cX14_comesTo 13 = .ok (.iload_n 2, 1) := by decide +kernel
theorem dX14_comesTo_14 : decode cX14_comesTo 14 = .ok (.if_icmp .eq 25, 3) := by decide +kernel
theorem dX14_comesTo_17 : decode cX14_comesTo 17 = .ok (.iload 5, 2) := by decide +kernel
theorem dX14_comesTo_19 : decode cX14_comesTo 19 = .ok (.iload_n 3, 1) := by decide +kernel
theorem dX14_comesTo_20 : decode cX14_comesTo 20 = .ok (.if_icmp .ge 19, 3) := by decide +kernel
theorem dX14_comesTo_23 : decode cX14_comesTo 23 = .ok (.aload_n 0, 1) := by decide +kernel
theorem dX14_comesTo_24 : decode cX14_comesTo 24 = .ok (.iload 4, 2) := by decide +kernel
theorem dX14_comesTo_26 : decode cX14_comesTo 26 = .ok (.iload 5, 2) := by decide +kernel
theorem dX14_comesTo_28 : decode cX14_comesTo 28 = .ok (.invokevirtual 491, 3) := by decide +kernel
theorem dX14_comesTo_31 : decode cX14_comesTo 31 = .ok (.istore 4, 2) := by decide +kernel
theorem dX14_comesTo_33 : decode cX14_comesTo 33 = .ok (.iinc 5 1, 3) := by decide +kernel
theorem dX14_comesTo_36 : decode cX14_comesTo 36 = .ok (.goto (-25), 3) := by decide +kernel
theorem dX14_comesTo_39 : decode cX14_comesTo 39 = .ok (.iload 4, 2) := by decide +kernel
theorem dX14_comesTo_41 : decode cX14_comesTo 41 = .ok (.iload_n 2, 1) := by decide +kernel
theorem dX14_comesTo_42 : decode cX14_comesTo 42 = .ok (.if_icmp .ne 8, 3) := by decide +kernel
theorem dX14_comesTo_45 : decode cX14_comesTo 45 = .ok (.iload 5, 2) := by decide +kernel
theorem dX14_comesTo_47 : decode cX14_comesTo 47 = .ok (.goto 4, 3) := by decide +kernel
theorem dX14_comesTo_50 : decode cX14_comesTo 50 = .ok (.iconst (-1), 1) := by decide +kernel
theorem dX14_comesTo_51 : decode cX14_comesTo 51 = .ok (.ireturn, 1) := by decide +kernel
theorem dX14_copies_0 : decode cX14_copies 0 = .ok (.iconst 0, 1) := by decide +kernel
theorem dX14_copies_1 : decode cX14_copies 1 = .ok (.istore_n 2, 1) := by decide +kernel
theorem dX14_copies_2 : decode cX14_copies 2 = .ok (.iload_n 2, 1) := by decide +kernel
theorem dX14_copies_3 : decode cX14_copies 3 = .ok (.iload_n 1, 1) := by decide +kernel
theorem dX14_copies_4 : decode cX14_copies 4 = .ok (.if_icmp .ge 17, 3) := by decide +kernel
theorem dX14_copies_7 : decode cX14_copies 7 = .ok (.aload_n 0, 1) := by decide +kernel
theorem dX14_copies_8 : decode cX14_copies 8 = .ok (.iload_n 2, 1) := by decide +kernel
theorem dX14_copies_9 : decode cX14_copies 9 = .ok (.aload_n 0, 1) := by decide +kernel
theorem dX14_copies_10 : decode cX14_copies 10 = .ok (.iload_n 1, 1) := by decide +kernel
theorem dX14_copies_11 : decode cX14_copies 11 = .ok (.iload_n 2, 1) := by decide +kernel
theorem dX14_copies_12 : decode cX14_copies 12 = .ok (.iadd, 1) := by decide +kernel
theorem dX14_copies_13 : decode cX14_copies 13 = .ok (.iaload, 1) := by decide +kernel
theorem dX14_copies_14 : decode cX14_copies 14 = .ok (.iastore, 1) := by decide +kernel
theorem dX14_copies_15 : decode cX14_copies 15 = .ok (.iinc 2 1, 3) := by decide +kernel
theorem dX14_copies_18 : decode cX14_copies 18 = .ok (.goto (-16), 3) := by decide +kernel
theorem dX14_copies_21 : decode cX14_copies 21 = .ok (.return_, 1) := by decide +kernel
theorem dX14_knownBy_0 : decode cX14_knownBy 0 = .ok (.aload_n 0, 1) := by decide +kernel
theorem dX14_knownBy_1 : decode cX14_knownBy 1 = .ok (.getfield 118, 3) := by decide +kernel
theorem dX14_knownBy_4 : decode cX14_knownBy 4 = .ok (.ifCond .ge 10, 3) := by decide +kernel
theorem dX14_knownBy_7 : decode cX14_knownBy 7 = .ok (.aload_n 0, 1) := by decide +kernel
theorem dX14_knownBy_8 : decode cX14_knownBy 8 = .ok (.getfield 304, 3) := by decide +kernel
theorem dX14_knownBy_11 : decode cX14_knownBy 11 = .ok (.goto 7, 3) := by decide +kernel
theorem dX14_knownBy_14 : decode cX14_knownBy 14 = .ok (.aload_n 0, 1) := by decide +kernel
theorem dX14_knownBy_15 : decode cX14_knownBy 15 = .ok (.getfield 118, 3) := by decide +kernel
theorem dX14_knownBy_18 : decode cX14_knownBy 18 = .ok (.ireturn, 1) := by decide +kernel
theorem dX14_manyReeds_0 : decode cX14_manyReeds 0 = .ok (.iconst 0, 1) := by decide +kernel
theorem dX14_manyReeds_1 : decode cX14_manyReeds 1 = .ok (.istore_n 1, 1) := by decide +kernel
theorem dX14_manyReeds_2 : decode cX14_manyReeds 2 = .ok (.iconst 0, 1) := by decide +kernel
theorem dX14_manyReeds_3 : decode cX14_manyReeds 3 = .ok (.istore_n 2, 1) := by decide +kernel
theorem dX14_manyReeds_4 : decode cX14_manyReeds 4 = .ok (.iload_n 2, 1) := by decide +kernel
theorem dX14_manyReeds_5 : decode cX14_manyReeds 5 = .ok (.aload_n 0, 1) := by decide +kernel
theorem dX14_manyReeds_6 : decode cX14_manyReeds 6 = .ok (.invokevirtual 426, 3) := by decide +kernel
theorem dX14_manyReeds_9 : decode cX14_manyReeds 9 = .ok (.if_icmp .ge 27, 3) := by decide +kernel
theorem dX14_manyReeds_12 : decode cX14_manyReeds 12 = .ok (.iload_n 1, 1) := by decide +kernel
theorem dX14_manyReeds_13 : decode cX14_manyReeds 13 = .ok (.aload_n 0, 1) := by decide +kernel
theorem dX14_manyReeds_14 : decode cX14_manyReeds 14 = .ok (.getfield 27, 3) := by decide +kernel
theorem dX14_manyReeds_17 : decode cX14_manyReeds 17 = .ok (.iload_n 2, 1) := by decide +kernel
theorem dX14_manyReeds_18 : decode cX14_manyReeds 18 = .ok (.iaload, 1) := by decide +kernel
theorem dX14_manyReeds_19 : decode cX14_manyReeds 19 = .ok (.iconst 1, 1) := by decide +kernel
theorem dX14_manyReeds_20 : decode cX14_manyReeds 20 = .ok (.if_icmp .ne 7, 3) := by decide +kernel
theorem dX14_manyReeds_23 : decode cX14_manyReeds 23 = .ok (.iconst 1, 1) := by decide +kernel
theorem dX14_manyReeds_24 : decode cX14_manyReeds 24 = .ok (.goto 4, 3) := by decide +kernel
theorem dX14_manyReeds_27 : decode cX14_manyReeds 27 = .ok (.iconst 0, 1) := by decide +kernel
theorem dX14_manyReeds_28 : decode cX14_manyReeds 28 = .ok (.iadd, 1) := by decide +kernel
theorem dX14_manyReeds_29 : decode cX14_manyReeds 29 = .ok (.istore_n 1, 1) := by decide +kernel
theorem dX14_manyReeds_30 : decode cX14_manyReeds 30 = .ok (.iinc 2 1, 3) := by decide +kernel
theorem dX14_manyReeds_33 : decode cX14_manyReeds 33 = .ok (.goto (-29), 3) := by decide +kernel
theorem dX14_manyReeds_36 : decode cX14_manyReeds 36 = .ok (.iload_n 1, 1) := by decide +kernel
theorem dX14_manyReeds_37 : decode cX14_manyReeds 37 = .ok (.ireturn, 1) := by decide +kernel
theorem dX14_count_0 : decode cX14_count 0 = .ok (.aload_n 0, 1) := by decide +kernel
theorem dX14_count_1 : decode cX14_count 1 = .ok (.iconst 0, 1) := by decide +kernel
theorem dX14_count_2 : decode cX14_count 2 = .ok (.putfield 148, 3) := by decide +kernel
theorem dX14_count_5 : decode cX14_count 5 = .ok (.iload_n 1, 1) := by decide +kernel
theorem dX14_count_6 : decode cX14_count 6 = .ok (.tableswitch 131 0 12 #[66, 71, 76, 81, 86, 91, 96, 101, 106, 111, 116, 121, 126], 66) := by decide +kernel
theorem dX14_count_72 : decode cX14_count 72 = .ok (.aload_n 0, 1) := by decide +kernel
theorem dX14_count_73 : decode cX14_count 73 = .ok (.getfield 255, 3) := by decide +kernel
theorem dX14_count_76 : decode cX14_count 76 = .ok (.ireturn, 1) := by decide +kernel
theorem dX14_count_77 : decode cX14_count 77 = .ok (.aload_n 0, 1) := by decide +kernel
theorem dX14_count_78 : decode cX14_count 78 = .ok (.getfield 258, 3) := by decide +kernel
theorem dX14_count_81 : decode cX14_count 81 = .ok (.ireturn, 1) := by decide +kernel
theorem dX14_count_82 : decode cX14_count 82 = .ok (.aload_n 0, 1) := by decide +kernel
theorem dX14_count_83 : decode cX14_count 83 = .ok (.getfield 261, 3) := by decide +kernel
theorem dX14_count_86 : decode cX14_count 86 = .ok (.ireturn, 1) := by decide +kernel
theorem dX14_count_87 : decode cX14_count 87 = .ok (.aload_n 0, 1) := by decide +kernel
theorem dX14_count_88 : decode cX14_count 88 = .ok (.getfield 264, 3) := by decide +kernel
theorem dX14_count_91 : decode cX14_count 91 = .ok (.ireturn, 1) := by decide +kernel
theorem dX14_count_92 : decode cX14_count 92 = .ok (.aload_n 0, 1) := by decide +kernel
theorem dX14_count_93 : decode cX14_count 93 = .ok (.getfield 267, 3) := by decide +kernel
theorem dX14_count_96 : decode cX14_count 96 = .ok (.ireturn, 1) := by decide +kernel
theorem dX14_count_97 : decode cX14_count 97 = .ok (.aload_n 0, 1) := by decide +kernel
theorem dX14_count_98 : decode cX14_count 98 = .ok (.getfield 298, 3) := by decide +kernel
theorem dX14_count_101 : decode cX14_count 101 = .ok (.ireturn, 1) := by decide +kernel
theorem dX14_count_102 : decode cX14_count 102 = .ok (.aload_n 0, 1) := by decide +kernel
theorem dX14_count_103 : decode cX14_count 103 = .ok (.getfield 273, 3) := by decide +kernel
theorem dX14_count_106 : decode cX14_count 106 = .ok (.ireturn, 1) := by decide +kernel
theorem dX14_count_107 : decode cX14_count 107 = .ok (.aload_n 0, 1) := by decide +kernel
theorem dX14_count_108 : decode cX14_count 108 = .ok (.getfield 276, 3) := by decide +kernel
theorem dX14_count_111 : decode cX14_count 111 = .ok (.ireturn, 1) := by decide +kernel
theorem dX14_count_112 : decode cX14_count 112 = .ok (.aload_n 0, 1) := by decide +kernel
theorem dX14_count_113 : decode cX14_count 113 = .ok (.getfield 279, 3) := by decide +kernel
theorem dX14_count_116 : decode cX14_count 116 = .ok (.ireturn, 1) := by decide +kernel
theorem dX14_count_117 : decode cX14_count 117 = .ok (.aload_n 0, 1) := by decide +kernel
theorem dX14_count_118 : decode cX14_count 118 = .ok (.getfield 304, 3) := by decide +kernel
theorem dX14_count_121 : decode cX14_count 121 = .ok (.ireturn, 1) := by decide +kernel
theorem dX14_count_122 : decode cX14_count 122 = .ok (.aload_n 0, 1) := by decide +kernel
theorem dX14_count_123 : decode cX14_count 123 = .ok (.invokevirtual 503, 3) := by decide +kernel
theorem dX14_count_126 : decode cX14_count 126 = .ok (.ireturn, 1) := by decide +kernel
theorem dX14_count_127 : decode cX14_count 127 = .ok (.aload_n 0, 1) := by decide +kernel
theorem dX14_count_128 : decode cX14_count 128 = .ok (.getfield 301, 3) := by decide +kernel
theorem dX14_count_131 : decode cX14_count 131 = .ok (.ireturn, 1) := by decide +kernel
theorem dX14_count_132 : decode cX14_count 132 = .ok (.aload_n 0, 1) := by decide +kernel
theorem dX14_count_133 : decode cX14_count 133 = .ok (.invokevirtual 574, 3) := by decide +kernel
theorem dX14_count_136 : decode cX14_count 136 = .ok (.ireturn, 1) := by decide +kernel
theorem dX14_count_137 : decode cX14_count 137 = .ok (.iconst (-1), 1) := by decide +kernel
theorem dX14_count_138 : decode cX14_count 138 = .ok (.ireturn, 1) := by decide +kernel
theorem dX14_remember_0 : decode cX14_remember 0 = .ok (.aload_n 0, 1) := by decide +kernel
theorem dX14_remember_1 : decode cX14_remember 1 = .ok (.getfield 301, 3) := by decide +kernel
theorem dX14_remember_4 : decode cX14_remember 4 = .ok (.bipush 20, 2) := by decide +kernel
theorem dX14_remember_6 : decode cX14_remember 6 = .ok (.if_icmp .ne 41, 3) := by decide +kernel
theorem dX14_remember_9 : decode cX14_remember 9 = .ok (.iconst 0, 1) := by decide +kernel
theorem dX14_remember_10 : decode cX14_remember 10 = .ok (.istore_n 2, 1) := by decide +kernel
theorem dX14_remember_11 : decode cX14_remember 11 = .ok (.iload_n 2, 1) := by decide +kernel
theorem dX14_remember_12 : decode cX14_remember 12 = .ok (.bipush 19, 2) := by decide +kernel
theorem dX14_remember_14 : decode cX14_remember 14 = .ok (.if_icmp .ge 23, 3) := by decide +kernel
theorem dX14_remember_17 : decode cX14_remember 17 = .ok (.aload_n 0, 1) := by decide +kernel
theorem dX14_remember_18 : decode cX14_remember 18 = .ok (.getfield 115, 3) := by decide +kernel
theorem dX14_remember_21 : decode cX14_remember 21 = .ok (.iload_n 2, 1) := by decide +kernel
theorem dX14_remember_22 : decode cX14_remember 22 = .ok (.aload_n 0, 1) := by decide +kernel
theorem dX14_remember_23 : decode cX14_remember 23 = .ok (.getfield 115, 3) := by decide +kernel
theorem dX14_remember_26 : decode cX14_remember 26 = .ok (.iload_n 2, 1) := by decide +kernel
theorem dX14_remember_27 : decode cX14_remember 27 = .ok (.iconst 1, 1) := by decide +kernel
theorem dX14_remember_28 : decode cX14_remember 28 = .ok (.iadd, 1) := by decide +kernel
theorem dX14_remember_29 : decode cX14_remember 29 = .ok (.iaload, 1) := by decide +kernel
theorem dX14_remember_30 : decode cX14_remember 30 = .ok (.iastore, 1) := by decide +kernel
theorem dX14_remember_31 : decode cX14_remember 31 = .ok (.iinc 2 1, 3) := by decide +kernel
theorem dX14_remember_34 : decode cX14_remember 34 = .ok (.goto (-23), 3) := by decide +kernel
theorem dX14_remember_37 : decode cX14_remember 37 = .ok (.aload_n 0, 1) := by decide +kernel
theorem dX14_remember_38 : decode cX14_remember 38 = .ok (.dup, 1) := by decide +kernel
theorem dX14_remember_39 : decode cX14_remember 39 = .ok (.getfield 301, 3) := by decide +kernel
theorem dX14_remember_42 : decode cX14_remember 42 = .ok (.iconst 1, 1) := by decide +kernel
theorem dX14_remember_43 : decode cX14_remember 43 = .ok (.isub, 1) := by decide +kernel
theorem dX14_remember_44 : decode cX14_remember 44 = .ok (.putfield 301, 3) := by decide +kernel
theorem dX14_remember_47 : decode cX14_remember 47 = .ok (.aload_n 0, 1) := by decide +kernel
theorem dX14_remember_48 : decode cX14_remember 48 = .ok (.getfield 115, 3) := by decide +kernel
theorem dX14_remember_51 : decode cX14_remember 51 = .ok (.aload_n 0, 1) := by decide +kernel
theorem dX14_remember_52 : decode cX14_remember 52 = .ok (.getfield 301, 3) := by decide +kernel
theorem dX14_remember_55 : decode cX14_remember 55 = .ok (.iload_n 1, 1) := by decide +kernel
theorem dX14_remember_56 : decode cX14_remember 56 = .ok (.iastore, 1) := by decide +kernel
theorem dX14_remember_57 : decode cX14_remember 57 = .ok (.aload_n 0, 1) := by decide +kernel
theorem dX14_remember_58 : decode cX14_remember 58 = .ok (.dup, 1) := by decide +kernel
theorem dX14_remember_59 : decode cX14_remember 59 = .ok (.getfield 301, 3) := by decide +kernel
theorem dX14_remember_62 : decode cX14_remember 62 = .ok (.iconst 1, 1) := by decide +kernel
theorem dX14_remember_63 : decode cX14_remember 63 = .ok (.iadd, 1) := by decide +kernel
theorem dX14_remember_64 : decode cX14_remember 64 = .ok (.putfield 301, 3) := by decide +kernel
theorem dX14_remember_67 : decode cX14_remember 67 = .ok (.return_, 1) := by decide +kernel
theorem dX14_cut_0 : decode cX14_cut 0 = .ok (.aload_n 0, 1) := by decide +kernel
theorem dX14_cut_1 : decode cX14_cut 1 = .ok (.iconst 0, 1) := by decide +kernel
theorem dX14_cut_2 : decode cX14_cut 2 = .ok (.putfield 148, 3) := by decide +kernel
theorem dX14_cut_5 : decode cX14_cut 5 = .ok (.aload_n 0, 1) := by decide +kernel
theorem dX14_cut_6 : decode cX14_cut 6 = .ok (.iload_n 1, 1) := by decide +kernel
theorem dX14_cut_7 : decode cX14_cut 7 = .ok (.invokevirtual 429, 3) := by decide +kernel
theorem dX14_cut_10 : decode cX14_cut 10 = .ok (.ifCond .eq 13, 3) := by decide +kernel
theorem dX14_cut_13 : decode cX14_cut 13 = .ok (.aload_n 0, 1) := by decide +kernel
theorem dX14_cut_14 : decode cX14_cut 14 = .ok (.getfield 27, 3) := by decide +kernel
theorem dX14_cut_17 : decode cX14_cut 17 = .ok (.iload_n 1, 1) := by decide +kernel
theorem dX14_cut_18 : decode cX14_cut 18 = .ok (.iaload, 1) := by decide +kernel
theorem dX14_cut_19 : decode cX14_cut 19 = .ok (.iconst 1, 1) := by decide +kernel
theorem dX14_cut_20 : decode cX14_cut 20 = .ok (.if_icmp .eq 5, 3) := by decide +kernel
theorem dX14_cut_23 : decode cX14_cut 23 = .ok (.iconst 0, 1) := by decide +kernel
theorem dX14_cut_24 : decode cX14_cut 24 = .ok (.ireturn, 1) := by decide +kernel
theorem dX14_cut_25 : decode cX14_cut 25 = .ok (.aload_n 0, 1) := by decide +kernel
theorem dX14_cut_26 : decode cX14_cut 26 = .ok (.iload_n 1, 1) := by decide +kernel
theorem dX14_cut_27 : decode cX14_cut 27 = .ok (.invokevirtual 497, 3) := by decide +kernel
theorem dX14_cut_30 : decode cX14_cut 30 = .ok (.aload_n 0, 1) := by decide +kernel
theorem dX14_cut_31 : decode cX14_cut 31 = .ok (.getfield 27, 3) := by decide +kernel
theorem dX14_cut_34 : decode cX14_cut 34 = .ok (.iload_n 1, 1) := by decide +kernel
theorem dX14_cut_35 : decode cX14_cut 35 = .ok (.iconst 0, 1) := by decide +kernel
theorem dX14_cut_36 : decode cX14_cut 36 = .ok (.iastore, 1) := by decide +kernel
theorem dX14_cut_37 : decode cX14_cut 37 = .ok (.aload_n 0, 1) := by decide +kernel
theorem dX14_cut_38 : decode cX14_cut 38 = .ok (.invokevirtual 310, 3) := by decide +kernel
theorem dX14_cut_41 : decode cX14_cut 41 = .ok (.iconst 1, 1) := by decide +kernel
theorem dX14_cut_42 : decode cX14_cut 42 = .ok (.ireturn, 1) := by decide +kernel
theorem dX14_drop_0 : decode cX14_drop 0 = .ok (.aload_n 0, 1) := by decide +kernel
theorem dX14_drop_1 : decode cX14_drop 1 = .ok (.iconst 0, 1) := by decide +kernel
theorem dX14_drop_2 : decode cX14_drop 2 = .ok (.putfield 148, 3) := by decide +kernel
theorem dX14_drop_5 : decode cX14_drop 5 = .ok (.iload_n 1, 1) := by decide +kernel
theorem dX14_drop_6 : decode cX14_drop 6 = .ok (.ifCond .lt 11, 3) := by decide +kernel
theorem dX14_drop_9 : decode cX14_drop 9 = .ok (.iload_n 1, 1) := by decide +kernel
theorem dX14_drop_10 : decode cX14_drop 10 = .ok (.aload_n 0, 1) := by decide +kernel
theorem dX14_drop_11 : decode cX14_drop 11 = .ok (.getfield 298, 3) := by decide +kernel
theorem dX14_drop_14 : decode cX14_drop 14 = .ok (.if_icmp .lt 5, 3) := by decide +kernel
theorem dX14_drop_17 : decode cX14_drop 17 = .ok (.iconst (-1), 1) := by decide +kernel
theorem dX14_drop_18 : decode cX14_drop 18 = .ok (.ireturn, 1) := by decide +kernel
theorem dX14_drop_19 : decode cX14_drop 19 = .ok (.iload_n 2, 1) := by decide +kernel
theorem dX14_drop_20 : decode cX14_drop 20 = .ok (.ifCond .ne 12, 3) := by decide +kernel
theorem dX14_drop_23 : decode cX14_drop 23 = .ok (.aload_n 0, 1) := by decide +kernel
theorem dX14_drop_24 : decode cX14_drop 24 = .ok (.getfield 63, 3) := by decide +kernel
theorem dX14_drop_27 : decode cX14_drop 27 = .ok (.iload_n 1, 1) := by decide +kernel
theorem dX14_drop_28 : decode cX14_drop 28 = .ok (.iaload, 1) := by decide +kernel
theorem dX14_drop_29 : decode cX14_drop 29 = .ok (.goto 32, 3) := by decide +kernel
theorem dX14_drop_32 : decode cX14_drop 32 = .ok (.iload_n 2, 1) := by decide +kernel
theorem dX14_drop_33 : decode cX14_drop 33 = .ok (.iconst 1, 1) := by decide +kernel
theorem dX14_drop_34 : decode cX14_drop 34 = .ok (.if_icmp .ne 12, 3) := by decide +kernel
theorem dX14_drop_37 : decode cX14_drop 37 = .ok (.aload_n 0, 1) := by decide +kernel
theorem dX14_drop_38 : decode cX14_drop 38 = .ok (.getfield 66, 3) := by decide +kernel
theorem dX14_drop_41 : decode cX14_drop 41 = .ok (.iload_n 1, 1) := by decide +kernel
theorem dX14_drop_42 : decode cX14_drop 42 = .ok (.iaload, 1) := by decide +kernel
theorem dX14_drop_43 : decode cX14_drop 43 = .ok (.goto 18, 3) := by decide +kernel
theorem dX14_drop_46 : decode cX14_drop 46 = .ok (.iload_n 2, 1) := by decide +kernel
theorem dX14_drop_47 : decode cX14_drop 47 = .ok (.iconst 2, 1) := by decide +kernel
theorem dX14_drop_48 : decode cX14_drop 48 = .ok (.if_icmp .ne 12, 3) := by decide +kernel
theorem dX14_drop_51 : decode cX14_drop 51 = .ok (.aload_n 0, 1) := by decide +kernel
theorem dX14_drop_52 : decode cX14_drop 52 = .ok (.getfield 69, 3) := by decide +kernel
theorem dX14_drop_55 : decode cX14_drop 55 = .ok (.iload_n 1, 1) := by decide +kernel
theorem dX14_drop_56 : decode cX14_drop 56 = .ok (.iaload, 1) := by decide +kernel
theorem dX14_drop_57 : decode cX14_drop 57 = .ok (.goto 4, 3) := by decide +kernel
theorem dX14_drop_60 : decode cX14_drop 60 = .ok (.iconst (-1), 1) := by decide +kernel
theorem dX14_drop_61 : decode cX14_drop 61 = .ok (.ireturn, 1) := by decide +kernel
theorem dX14_find_0 : decode cX14_find 0 = .ok (.iconst 0, 1) := by decide +kernel
theorem dX14_find_1 : decode cX14_find 1 = .ok (.istore 4, 2) := by decide +kernel
theorem dX14_find_3 : decode cX14_find 3 = .ok (.iload 4, 2) := by decide +kernel
theorem dX14_find_5 : decode cX14_find 5 = .ok (.iload_n 2, 1) := by decide +kernel
theorem dX14_find_6 : decode cX14_find 6 = .ok (.if_icmp .ge 22, 3) := by decide +kernel
theorem dX14_find_9 : decode cX14_find 9 = .ok (.aload_n 0, 1) := by decide +kernel
theorem dX14_find_10 : decode cX14_find 10 = .ok (.iload_n 1, 1) := by decide +kernel
theorem dX14_find_11 : decode cX14_find 11 = .ok (.iload 4, 2) := by decide +kernel
theorem dX14_find_13 : decode cX14_find 13 = .ok (.iadd, 1) := by decide +kernel
theorem dX14_find_14 : decode cX14_find 14 = .ok (.iaload, 1) := by decide +kernel
theorem dX14_find_15 : decode cX14_find 15 = .ok (.iload_n 3, 1) := by decide +kernel
theorem dX14_find_16 : decode cX14_find 16 = .ok (.if_icmp .ne 6, 3) := by decide +kernel
theorem dX14_find_19 : decode cX14_find 19 = .ok (.iload 4, 2) := by decide +kernel
theorem dX14_find_21 : decode cX14_find 21 = .ok (.ireturn, 1) := by decide +kernel
theorem dX14_find_22 : decode cX14_find 22 = .ok (.iinc 4 1, 3) := by decide +kernel
theorem dX14_find_25 : decode cX14_find 25 = .ok (.goto (-22), 3) := by decide +kernel
theorem dX14_find_28 : decode cX14_find 28 = .ok (.iconst (-1), 1) := by decide +kernel
theorem dX14_find_29 : decode cX14_find 29 = .ok (.ireturn, 1) := by decide +kernel
theorem dX14_wrongCell_0 : decode cX14_wrongCell 0 = .ok (.aload_n 0, 1) := by decide +kernel
theorem dX14_wrongCell_1 : decode cX14_wrongCell 1 = .ok (.aload_n 0, 1) := by decide +kernel
theorem dX14_wrongCell_2 : decode cX14_wrongCell 2 = .ok (.getfield 320, 3) := by decide +kernel
theorem dX14_wrongCell_5 : decode cX14_wrongCell 5 = .ok (.putfield 157, 3) := by decide +kernel
theorem dX14_wrongCell_8 : decode cX14_wrongCell 8 = .ok (.aload_n 0, 1) := by decide +kernel
theorem dX14_wrongCell_9 : decode cX14_wrongCell 9 = .ok (.iconst 5, 1) := by decide +kernel
theorem dX14_wrongCell_10 : decode cX14_wrongCell 10 = .ok (.invokevirtual 189, 3) := by decide +kernel
theorem dX14_wrongCell_13 : decode cX14_wrongCell 13 = .ok (.ireturn, 1) := by decide +kernel
theorem dX14_waterRead_0 : decode cX14_waterRead 0 = .ok (.aload_n 0, 1) := by decide +kernel
theorem dX14_waterRead_1 : decode cX14_waterRead 1 = .ok (.invokevirtual 323, 3) := by decide +kernel
theorem dX14_waterRead_4 : decode cX14_waterRead 4 = .ok (.ifCond .ne 5, 3) := by decide +kernel
theorem dX14_waterRead_7 : decode cX14_waterRead 7 = .ok (.iconst 0, 1) := by decide +kernel
theorem dX14_waterRead_8 : decode cX14_waterRead 8 = .ok (.ireturn, 1) := by decide +kernel
theorem dX14_waterRead_9 : decode cX14_waterRead 9 = .ok (.aload_n 0, 1) := by decide +kernel
theorem dX14_waterRead_10 : decode cX14_waterRead 10 = .ok (.getfield 27, 3) := by decide +kernel
theorem dX14_waterRead_13 : decode cX14_waterRead 13 = .ok (.bipush 48, 2) := by decide +kernel
theorem dX14_waterRead_15 : decode cX14_waterRead 15 = .ok (.aload_n 0, 1) := by decide +kernel
theorem dX14_waterRead_16 : decode cX14_waterRead 16 = .ok (.getfield 196, 3) := by decide +kernel
theorem dX14_waterRead_19 : decode cX14_waterRead 19 = .ok (.iadd, 1) := by decide +kernel
theorem dX14_waterRead_20 : decode cX14_waterRead 20 = .ok (.iaload, 1) := by decide +kernel
theorem dX14_waterRead_21 : decode cX14_waterRead 21 = .ok (.iconst 2, 1) := by decide +kernel
theorem dX14_waterRead_22 : decode cX14_waterRead 22 = .ok (.if_icmp .ne 8, 3) := by decide +kernel
theorem dX14_waterRead_25 : decode cX14_waterRead 25 = .ok (.aload_n 0, 1) := by decide +kernel
theorem dX14_waterRead_26 : decode cX14_waterRead 26 = .ok (.invokevirtual 327, 3) := by decide +kernel
theorem dX14_waterRead_29 : decode cX14_waterRead 29 = .ok (.ireturn, 1) := by decide +kernel
theorem dX14_waterRead_30 : decode cX14_waterRead 30 = .ok (.aload_n 0, 1) := by decide +kernel
theorem dX14_waterRead_31 : decode cX14_waterRead 31 = .ok (.getfield 33, 3) := by decide +kernel
theorem dX14_waterRead_34 : decode cX14_waterRead 34 = .ok (.aload_n 0, 1) := by decide +kernel
theorem dX14_waterRead_35 : decode cX14_waterRead 35 = .ok (.getfield 196, 3) := by decide +kernel
theorem dX14_waterRead_38 : decode cX14_waterRead 38 = .ok (.iconst 1, 1) := by decide +kernel
theorem dX14_waterRead_39 : decode cX14_waterRead 39 = .ok (.bastore, 1) := by decide +kernel
theorem dX14_waterRead_40 : decode cX14_waterRead 40 = .ok (.iconst 1, 1) := by decide +kernel
theorem dX14_waterRead_41 : decode cX14_waterRead 41 = .ok (.ireturn, 1) := by decide +kernel
theorem dX14_dropLine_0 : decode cX14_dropLine 0 = .ok (.aload_n 0, 1) := by decide +kernel
theorem dX14_dropLine_1 : decode cX14_dropLine 1 = .ok (.getfield 224, 3) := by decide +kernel
theorem dX14_dropLine_4 : decode cX14_dropLine 4 = .ok (.bipush 8, 2) := by decide +kernel
theorem dX14_dropLine_6 : decode cX14_dropLine 6 = .ok (.if_icmp .ne 9, 3) := by decide +kernel
theorem dX14_dropLine_9 : decode cX14_dropLine 9 = .ok (.aload_n 0, 1) := by decide +kernel
theorem dX14_dropLine_10 : decode cX14_dropLine 10 = .ok (.iconst 2, 1) := by decide +kernel
theorem dX14_dropLine_11 : decode cX14_dropLine 11 = .ok (.invokevirtual 189, 3) := by decide +kernel
theorem dX14_dropLine_14 : decode cX14_dropLine 14 = .ok (.ireturn, 1) := by decide +kernel
theorem dX14_dropLine_15 : decode cX14_dropLine 15 = .ok (.aload_n 0, 1) := by decide +kernel
theorem dX14_dropLine_16 : decode cX14_dropLine 16 = .ok (.iconst 1, 1) := by decide +kernel
theorem dX14_dropLine_17 : decode cX14_dropLine 17 = .ok (.putfield 249, 3) := by decide +kernel
theorem dX14_dropLine_20 : decode cX14_dropLine 20 = .ok (.aload_n 0, 1) := by decide +kernel
theorem dX14_dropLine_21 : decode cX14_dropLine 21 = .ok (.invokevirtual 199, 3) := by decide +kernel
theorem dX14_dropLine_24 : decode cX14_dropLine 24 = .ok (.aload_n 0, 1) := by decide +kernel
theorem dX14_dropLine_25 : decode cX14_dropLine 25 = .ok (.getfield 166, 3) := by decide +kernel
theorem dX14_dropLine_28 : decode cX14_dropLine 28 = .ok (.iconst 2, 1) := by decide +kernel
theorem dX14_dropLine_29 : decode cX14_dropLine 29 = .ok (.if_icmp .eq 9, 3) := by decide +kernel
theorem dX14_dropLine_32 : decode cX14_dropLine 32 = .ok (.aload_n 0, 1) := by decide +kernel
theorem dX14_dropLine_33 : decode cX14_dropLine 33 = .ok (.iconst 1, 1) := by decide +kernel
theorem dX14_dropLine_34 : decode cX14_dropLine 34 = .ok (.invokevirtual 189, 3) := by decide +kernel
theorem dX14_dropLine_37 : decode cX14_dropLine 37 = .ok (.ireturn, 1) := by decide +kernel
theorem dX14_dropLine_38 : decode cX14_dropLine 38 = .ok (.aload_n 0, 1) := by decide +kernel
theorem dX14_dropLine_39 : decode cX14_dropLine 39 = .ok (.getfield 39, 3) := by decide +kernel
theorem dX14_dropLine_42 : decode cX14_dropLine 42 = .ok (.iconst 4, 1) := by decide +kernel
theorem dX14_dropLine_43 : decode cX14_dropLine 43 = .ok (.aload_n 0, 1) := by decide +kernel
theorem dX14_dropLine_44 : decode cX14_dropLine 44 = .ok (.getfield 215, 3) := by decide +kernel
theorem dX14_dropLine_47 : decode cX14_dropLine 47 = .ok (.aload_n 0, 1) := by decide +kernel
theorem dX14_dropLine_48 : decode cX14_dropLine 48 = .ok (.getfield 177, 3) := by decide +kernel
theorem dX14_dropLine_51 : decode cX14_dropLine 51 = .ok (.invokestatic 316, 3) := by decide +kernel
theorem dX14_dropLine_54 : decode cX14_dropLine 54 = .ok (.istore_n 1, 1) := by decide +kernel
theorem dX14_dropLine_55 : decode cX14_dropLine 55 = .ok (.iload_n 1, 1) := by decide +kernel
theorem dX14_dropLine_56 : decode cX14_dropLine 56 = .ok (.ifCond .ge 9, 3) := by decide +kernel
theorem dX14_dropLine_59 : decode cX14_dropLine 59 = .ok (.aload_n 0, 1) := by decide +kernel
theorem dX14_dropLine_60 : decode cX14_dropLine 60 = .ok (.iconst 4, 1) := by decide +kernel
theorem dX14_dropLine_61 : decode cX14_dropLine 61 = .ok (.invokevirtual 189, 3) := by decide +kernel
theorem dX14_dropLine_64 : decode cX14_dropLine 64 = .ok (.ireturn, 1) := by decide +kernel
theorem dX14_dropLine_65 : decode cX14_dropLine 65 = .ok (.aload_n 0, 1) := by decide +kernel
theorem dX14_dropLine_66 : decode cX14_dropLine 66 = .ok (.invokevirtual 199, 3) := by decide +kernel
theorem dX14_dropLine_69 : decode cX14_dropLine 69 = .ok (.aload_n 0, 1) := by decide +kernel
theorem dX14_dropLine_70 : decode cX14_dropLine 70 = .ok (.invokevirtual 340, 3) := by decide +kernel
theorem dX14_dropLine_73 : decode cX14_dropLine 73 = .ok (.ifCond .ne 5, 3) := by decide +kernel
theorem dX14_dropLine_76 : decode cX14_dropLine 76 = .ok (.iconst 0, 1) := by decide +kernel
theorem dX14_dropLine_77 : decode cX14_dropLine 77 = .ok (.ireturn, 1) := by decide +kernel
theorem dX14_dropLine_78 : decode cX14_dropLine 78 = .ok (.aload_n 0, 1) := by decide +kernel
theorem dX14_dropLine_79 : decode cX14_dropLine 79 = .ok (.getfield 63, 3) := by decide +kernel
theorem dX14_dropLine_82 : decode cX14_dropLine 82 = .ok (.bipush 16, 2) := by decide +kernel
theorem dX14_dropLine_84 : decode cX14_dropLine 84 = .ok (.aload_n 0, 1) := by decide +kernel
theorem dX14_dropLine_85 : decode cX14_dropLine 85 = .ok (.getfield 224, 3) := by decide +kernel
theorem dX14_dropLine_88 : decode cX14_dropLine 88 = .ok (.iadd, 1) := by decide +kernel
theorem dX14_dropLine_89 : decode cX14_dropLine 89 = .ok (.iload_n 1, 1) := by decide +kernel
theorem dX14_dropLine_90 : decode cX14_dropLine 90 = .ok (.iastore, 1) := by decide +kernel
theorem dX14_dropLine_91 : decode cX14_dropLine 91 = .ok (.aload_n 0, 1) := by decide +kernel
theorem dX14_dropLine_92 : decode cX14_dropLine 92 = .ok (.getfield 66, 3) := by decide +kernel
theorem dX14_dropLine_95 : decode cX14_dropLine 95 = .ok (.bipush 16, 2) := by decide +kernel
theorem dX14_dropLine_97 : decode cX14_dropLine 97 = .ok (.aload_n 0, 1) := by decide +kernel
theorem dX14_dropLine_98 : decode cX14_dropLine 98 = .ok (.getfield 224, 3) := by decide +kernel
theorem dX14_dropLine_101 : decode cX14_dropLine 101 = .ok (.iadd, 1) := by decide +kernel
theorem dX14_dropLine_102 : decode cX14_dropLine 102 = .ok (.aload_n 0, 1) := by decide +kernel
theorem dX14_dropLine_103 : decode cX14_dropLine 103 = .ok (.getfield 196, 3) := by decide +kernel
theorem dX14_dropLine_106 : decode cX14_dropLine 106 = .ok (.iastore, 1) := by decide +kernel
theorem dX14_dropLine_107 : decode cX14_dropLine 107 = .ok (.aload_n 0, 1) := by decide +kernel
theorem dX14_dropLine_108 : decode cX14_dropLine 108 = .ok (.iconst 0, 1) := by decide +kernel
theorem dX14_dropLine_109 : decode cX14_dropLine 109 = .ok (.bipush 99, 2) := by decide +kernel
theorem dX14_dropLine_111 : decode cX14_dropLine 111 = .ok (.invokevirtual 205, 3) := by decide +kernel
theorem dX14_dropLine_114 : decode cX14_dropLine 114 = .ok (.ifCond .ne 5, 3) := by decide +kernel
theorem dX14_dropLine_117 : decode cX14_dropLine 117 = .ok (.iconst 0, 1) := by decide +kernel
theorem dX14_dropLine_118 : decode cX14_dropLine 118 = .ok (.ireturn, 1) := by decide +kernel
theorem dX14_dropLine_119 : decode cX14_dropLine 119 = .ok (.aload_n 0, 1) := by decide +kernel
theorem dX14_dropLine_120 : decode cX14_dropLine 120 = .ok (.getfield 69, 3) := by decide +kernel
theorem dX14_dropLine_123 : decode cX14_dropLine 123 = .ok (.bipush 16, 2) := by decide +kernel
theorem dX14_dropLine_125 : decode cX14_dropLine 125 = .ok (.aload_n 0, 1) := by decide +kernel
theorem dX14_dropLine_126 : decode cX14_dropLine 126 = .ok (.getfield 224, 3) := by decide +kernel
theorem dX14_dropLine_129 : decode cX14_dropLine 129 = .ok (.iadd, 1) := by decide +kernel
theorem dX14_dropLine_130 : decode cX14_dropLine 130 = .ok (.aload_n 0, 1) := by decide +kernel
theorem dX14_dropLine_131 : decode cX14_dropLine 131 = .ok (.getfield 196, 3) := by decide +kernel
theorem dX14_dropLine_134 : decode cX14_dropLine 134 = .ok (.iastore, 1) := by decide +kernel
theorem dX14_dropLine_135 : decode cX14_dropLine 135 = .ok (.aload_n 0, 1) := by decide +kernel
theorem dX14_dropLine_136 : decode cX14_dropLine 136 = .ok (.dup, 1) := by decide +kernel
theorem dX14_dropLine_137 : decode cX14_dropLine 137 = .ok (.getfield 224, 3) := by decide +kernel
theorem dX14_dropLine_140 : decode cX14_dropLine 140 = .ok (.iconst 1, 1) := by decide +kernel
theorem dX14_dropLine_141 : decode cX14_dropLine 141 = .ok (.iadd, 1) := by decide +kernel
theorem dX14_dropLine_142 : decode cX14_dropLine 142 = .ok (.putfield 224, 3) := by decide +kernel
theorem dX14_dropLine_145 : decode cX14_dropLine 145 = .ok (.iconst 1, 1) := by decide +kernel
theorem dX14_dropLine_146 : decode cX14_dropLine 146 = .ok (.ireturn, 1) := by decide +kernel
theorem dX14_fails_0 : decode cX14_fails 0 = .ok (.aload_n 0, 1) := by decide +kernel
theorem dX14_fails_1 : decode cX14_fails 1 = .ok (.iload_n 1, 1) := by decide +kernel
theorem dX14_fails_2 : decode cX14_fails 2 = .ok (.putfield 148, 3) := by decide +kernel
theorem dX14_fails_5 : decode cX14_fails 5 = .ok (.iconst 0, 1) := by decide +kernel
theorem dX14_fails_6 : decode cX14_fails 6 = .ok (.ireturn, 1) := by decide +kernel
theorem dX14_fall_0 : decode cX14_fall 0 = .ok (.aload_n 0, 1) := by decide +kernel
theorem dX14_fall_1 : decode cX14_fall 1 = .ok (.iconst 0, 1) := by decide +kernel
theorem dX14_fall_2 : decode cX14_fall 2 = .ok (.putfield 148, 3) := by decide +kernel
theorem dX14_fall_5 : decode cX14_fall 5 = .ok (.aload_n 0, 1) := by decide +kernel
theorem dX14_fall_6 : decode cX14_fall 6 = .ok (.getfield 298, 3) := by decide +kernel
theorem dX14_fall_9 : decode cX14_fall 9 = .ok (.bipush 16, 2) := by decide +kernel
theorem dX14_fall_11 : decode cX14_fall 11 = .ok (.if_icmp .eq 29, 3) := by decide +kernel
theorem dX14_fall_14 : decode cX14_fall 14 = .ok (.aload_n 0, 1) := by decide +kernel
theorem dX14_fall_15 : decode cX14_fall 15 = .ok (.iload_n 1, 1) := by decide +kernel
theorem dX14_fall_16 : decode cX14_fall 16 = .ok (.invokevirtual 442, 3) := by decide +kernel
theorem dX14_fall_19 : decode cX14_fall 19 = .ok (.ifCond .eq 21, 3) := by decide +kernel
theorem dX14_fall_22 : decode cX14_fall 22 = .ok (.aload_n 0, 1) := by decide +kernel
theorem dX14_fall_23 : decode cX14_fall 23 = .ok (.iload_n 2, 1) := by decide +kernel
theorem dX14_fall_24 : decode cX14_fall 24 = .ok (.invokevirtual 432, 3) := by decide +kernel
theorem dX14_fall_27 : decode cX14_fall 27 = .ok (.ifCond .eq 13, 3) := by decide +kernel
theorem dX14_fall_30 : decode cX14_fall 30 = .ok (.iload_n 3, 1) := by decide +kernel
theorem dX14_fall_31 : decode cX14_fall 31 = .ok (.iconst 0, 1) := by decide +kernel
theorem dX14_fall_32 : decode cX14_fall 32 = .ok (.bipush 99, 2) := by decide +kernel
theorem dX14_fall_34 : decode cX14_fall 34 = .ok (.invokestatic 192, 3) := by decide +kernel
theorem dX14_fall_37 : decode cX14_fall 37 = .ok (.ifCond .ne 5, 3) := by decide +kernel
theorem dX14_fall_40 : decode cX14_fall 40 = .ok (.iconst (-1), 1) := by decide +kernel
theorem dX14_fall_41 : decode cX14_fall 41 = .ok (.ireturn, 1) := by decide +kernel
theorem dX14_fall_42 : decode cX14_fall 42 = .ok (.aload_n 0, 1) := by decide +kernel
theorem dX14_fall_43 : decode cX14_fall 43 = .ok (.iconst (-1), 1) := by decide +kernel
theorem dX14_fall_44 : decode cX14_fall 44 = .ok (.invokevirtual 497, 3) := by decide +kernel
theorem dX14_fall_47 : decode cX14_fall 47 = .ok (.aload_n 0, 1) := by decide +kernel
theorem dX14_fall_48 : decode cX14_fall 48 = .ok (.getfield 63, 3) := by decide +kernel
theorem dX14_fall_51 : decode cX14_fall 51 = .ok (.aload_n 0, 1) := by decide +kernel
theorem dX14_fall_52 : decode cX14_fall 52 = .ok (.getfield 298, 3) := by decide +kernel
theorem dX14_fall_55 : decode cX14_fall 55 = .ok (.iload_n 1, 1) := by decide +kernel
theorem dX14_fall_56 : decode cX14_fall 56 = .ok (.iastore, 1) := by decide +kernel
theorem dX14_fall_57 : decode cX14_fall 57 = .ok (.aload_n 0, 1) := by decide +kernel
theorem dX14_fall_58 : decode cX14_fall 58 = .ok (.getfield 66, 3) := by decide +kernel
theorem dX14_fall_61 : decode cX14_fall 61 = .ok (.aload_n 0, 1) := by decide +kernel
theorem dX14_fall_62 : decode cX14_fall 62 = .ok (.getfield 298, 3) := by decide +kernel
theorem dX14_fall_65 : decode cX14_fall 65 = .ok (.iload_n 2, 1) := by decide +kernel
theorem dX14_fall_66 : decode cX14_fall 66 = .ok (.iastore, 1) := by decide +kernel
theorem dX14_fall_67 : decode cX14_fall 67 = .ok (.aload_n 0, 1) := by decide +kernel
theorem dX14_fall_68 : decode cX14_fall 68 = .ok (.getfield 69, 3) := by decide +kernel
theorem dX14_fall_71 : decode cX14_fall 71 = .ok (.aload_n 0, 1) := by decide +kernel
theorem dX14_fall_72 : decode cX14_fall 72 = .ok (.getfield 298, 3) := by decide +kernel
theorem dX14_fall_75 : decode cX14_fall 75 = .ok (.iload_n 3, 1) := by decide +kernel
theorem dX14_fall_76 : decode cX14_fall 76 = .ok (.iastore, 1) := by decide +kernel
theorem dX14_fall_77 : decode cX14_fall 77 = .ok (.aload_n 0, 1) := by decide +kernel
theorem dX14_fall_78 : decode cX14_fall 78 = .ok (.dup, 1) := by decide +kernel
theorem dX14_fall_79 : decode cX14_fall 79 = .ok (.getfield 298, 3) := by decide +kernel
theorem dX14_fall_82 : decode cX14_fall 82 = .ok (.iconst 1, 1) := by decide +kernel
theorem dX14_fall_83 : decode cX14_fall 83 = .ok (.iadd, 1) := by decide +kernel
theorem dX14_fall_84 : decode cX14_fall 84 = .ok (.putfield 298, 3) := by decide +kernel
theorem dX14_fall_87 : decode cX14_fall 87 = .ok (.aload_n 0, 1) := by decide +kernel
theorem dX14_fall_88 : decode cX14_fall 88 = .ok (.getfield 298, 3) := by decide +kernel
theorem dX14_fall_91 : decode cX14_fall 91 = .ok (.iconst 1, 1) := by decide +kernel
theorem dX14_fall_92 : decode cX14_fall 92 = .ok (.isub, 1) := by decide +kernel
theorem dX14_fall_93 : decode cX14_fall 93 = .ok (.ireturn, 1) := by decide +kernel
theorem dX14_far_0 : decode cX14_far 0 = .ok (.aload_n 0, 1) := by decide +kernel
theorem dX14_far_1 : decode cX14_far 1 = .ok (.iconst 0, 1) := by decide +kernel
theorem dX14_far_2 : decode cX14_far 2 = .ok (.putfield 148, 3) := by decide +kernel
theorem dX14_far_5 : decode cX14_far 5 = .ok (.aload_n 0, 1) := by decide +kernel
theorem dX14_far_6 : decode cX14_far 6 = .ok (.iload_n 1, 1) := by decide +kernel
theorem dX14_far_7 : decode cX14_far 7 = .ok (.invokevirtual 432, 3) := by decide +kernel
theorem dX14_far_10 : decode cX14_far 10 = .ok (.ifCond .eq 11, 3) := by decide +kernel
theorem dX14_far_13 : decode cX14_far 13 = .ok (.aload_n 0, 1) := by decide +kernel
theorem dX14_far_14 : decode cX14_far 14 = .ok (.iload_n 2, 1) := by decide +kernel
theorem dX14_far_15 : decode cX14_far 15 = .ok (.invokevirtual 432, 3) := by decide +kernel
theorem dX14_far_18 : decode cX14_far 18 = .ok (.ifCond .ne 7, 3) := by decide +kernel
theorem dX14_far_21 : decode cX14_far 21 = .ok (.iconst (-1), 1) := by decide +kernel
theorem dX14_far_22 : decode cX14_far 22 = .ok (.goto 36, 3) := by decide +kernel
theorem dX14_far_25 : decode cX14_far 25 = .ok (.aload_n 0, 1) := by decide +kernel
theorem dX14_far_26 : decode cX14_far 26 = .ok (.getfield 103, 3) := by decide +kernel
theorem dX14_far_29 : decode cX14_far 29 = .ok (.bipush 48, 2) := by decide +kernel
theorem dX14_far_31 : decode cX14_far 31 = .ok (.iload_n 1, 1) := by decide +kernel
theorem dX14_far_32 : decode cX14_far 32 = .ok (.imul, 1) := by decide +kernel
theorem dX14_far_33 : decode cX14_far 33 = .ok (.iload_n 2, 1) := by decide +kernel
theorem dX14_far_34 : decode cX14_far 34 = .ok (.iadd, 1) := by decide +kernel
theorem dX14_far_35 : decode cX14_far 35 = .ok (.iaload, 1) := by decide +kernel
theorem dX14_far_36 : decode cX14_far 36 = .ok (.sipush 999, 3) := by decide +kernel
theorem dX14_far_39 : decode cX14_far 39 = .ok (.if_icmp .ne 8, 3) := by decide +kernel
theorem dX14_far_42 : decode cX14_far 42 = .ok (.bipush (-2), 2) := by decide +kernel
theorem dX14_far_44 : decode cX14_far 44 = .ok (.goto 14, 3) := by decide +kernel
theorem dX14_far_47 : decode cX14_far 47 = .ok (.aload_n 0, 1) := by decide +kernel
theorem dX14_far_48 : decode cX14_far 48 = .ok (.getfield 103, 3) := by decide +kernel
theorem dX14_far_51 : decode cX14_far 51 = .ok (.bipush 48, 2) := by decide +kernel
theorem dX14_far_53 : decode cX14_far 53 = .ok (.iload_n 1, 1) := by decide +kernel
theorem dX14_far_54 : decode cX14_far 54 = .ok (.imul, 1) := by decide +kernel
theorem dX14_far_55 : decode cX14_far 55 = .ok (.iload_n 2, 1) := by decide +kernel
theorem dX14_far_56 : decode cX14_far 56 = .ok (.iadd, 1) := by decide +kernel
theorem dX14_far_57 : decode cX14_far 57 = .ok (.iaload, 1) := by decide +kernel
theorem dX14_far_58 : decode cX14_far 58 = .ok (.ireturn, 1) := by decide +kernel
theorem dX14_fault_0 : decode cX14_fault 0 = .ok (.aload_n 0, 1) := by decide +kernel
theorem dX14_fault_1 : decode cX14_fault 1 = .ok (.iconst 0, 1) := by decide +kernel
theorem dX14_fault_2 : decode cX14_fault 2 = .ok (.putfield 148, 3) := by decide +kernel
theorem dX14_fault_5 : decode cX14_fault 5 = .ok (.iload_n 1, 1) := by decide +kernel
theorem dX14_fault_6 : decode cX14_fault 6 = .ok (.ifCond .ne 10, 3) := by decide +kernel
theorem dX14_fault_9 : decode cX14_fault 9 = .ok (.aload_n 0, 1) := by decide +kernel
theorem dX14_fault_10 : decode cX14_fault 10 = .ok (.getfield 154, 3) := by decide +kernel
theorem dX14_fault_13 : decode cX14_fault 13 = .ok (.goto 16, 3) := by decide +kernel
theorem dX14_fault_16 : decode cX14_fault 16 = .ok (.iload_n 1, 1) := by decide +kernel
theorem dX14_fault_17 : decode cX14_fault 17 = .ok (.iconst 1, 1) := by decide +kernel
theorem dX14_fault_18 : decode cX14_fault 18 = .ok (.if_icmp .ne 10, 3) := by decide +kernel
theorem dX14_fault_21 : decode cX14_fault 21 = .ok (.aload_n 0, 1) := by decide +kernel
theorem dX14_fault_22 : decode cX14_fault 22 = .ok (.getfield 16, 3) := by decide +kernel
theorem dX14_fault_25 : decode cX14_fault 25 = .ok (.goto 4, 3) := by decide +kernel
theorem dX14_fault_28 : decode cX14_fault 28 = .ok (.iconst (-1), 1) := by decide +kernel
theorem dX14_fault_29 : decode cX14_fault 29 = .ok (.ireturn, 1) := by decide +kernel
theorem dX14_feed_0 : decode cX14_feed 0 = .ok (.aload_n 0, 1) := by decide +kernel
theorem dX14_feed_1 : decode cX14_feed 1 = .ok (.iconst 0, 1) := by decide +kernel
theorem dX14_feed_2 : decode cX14_feed 2 = .ok (.putfield 148, 3) := by decide +kernel
theorem dX14_feed_5 : decode cX14_feed 5 = .ok (.aload_n 0, 1) := by decide +kernel
theorem dX14_feed_6 : decode cX14_feed 6 = .ok (.getfield 151, 3) := by decide +kernel
theorem dX14_feed_9 : decode cX14_feed 9 = .ok (.bipush 20, 2) := by decide +kernel
theorem dX14_feed_11 : decode cX14_feed 11 = .ok (.iadd, 1) := by decide +kernel
theorem dX14_feed_12 : decode cX14_feed 12 = .ok (.sipush 800, 3) := by decide +kernel
theorem dX14_feed_15 : decode cX14_feed 15 = .ok (.if_icmp .le 5, 3) := by decide +kernel
theorem dX14_feed_18 : decode cX14_feed 18 = .ok (.iconst (-1), 1) := by decide +kernel
theorem dX14_feed_19 : decode cX14_feed 19 = .ok (.ireturn, 1) := by decide +kernel
theorem dX14_feed_20 : decode cX14_feed 20 = .ok (.iconst 0, 1) := by decide +kernel
theorem dX14_feed_21 : decode cX14_feed 21 = .ok (.istore 6, 2) := by decide +kernel
theorem dX14_feed_23 : decode cX14_feed 23 = .ok (.iload 6, 2) := by decide +kernel
theorem dX14_feed_25 : decode cX14_feed 25 = .ok (.bipush 20, 2) := by decide +kernel
theorem dX14_feed_27 : decode cX14_feed 27 = .ok (.if_icmp .ge 86, 3) := by decide +kernel
theorem dX14_feed_30 : decode cX14_feed 30 = .ok (.iload 6, 2) := by decide +kernel
theorem dX14_feed_32 : decode cX14_feed 32 = .ok (.iconst 4, 1) := by decide +kernel
theorem dX14_feed_33 : decode cX14_feed 33 = .ok (.if_icmp .ge 7, 3) := by decide +kernel
theorem dX14_feed_36 : decode cX14_feed 36 = .ok (.iload_n 1, 1) := by decide +kernel
theorem dX14_feed_37 : decode cX14_feed 37 = .ok (.goto 39, 3) := by decide +kernel
theorem dX14_feed_40 : decode cX14_feed 40 = .ok (.iload 6, 2) := by decide +kernel
theorem dX14_feed_42 : decode cX14_feed 42 = .ok (.bipush 8, 2) := by decide +kernel
theorem dX14_feed_44 : decode cX14_feed 44 = .ok (.if_icmp .ge 7, 3) := by decide +kernel
theorem dX14_feed_47 : decode cX14_feed 47 = .ok (.iload_n 2, 1) := by decide +kernel
theorem dX14_feed_48 : decode cX14_feed 48 = .ok (.goto 28, 3) := by decide +kernel
theorem dX14_feed_51 : decode cX14_feed 51 = .ok (.iload 6, 2) := by decide +kernel
theorem dX14_feed_53 : decode cX14_feed 53 = .ok (.bipush 12, 2) := by decide +kernel
theorem dX14_feed_55 : decode cX14_feed 55 = .ok (.if_icmp .ge 7, 3) := by decide +kernel
theorem dX14_feed_58 : decode cX14_feed 58 = .ok (.iload_n 3, 1) := by decide +kernel
theorem dX14_feed_59 : decode cX14_feed 59 = .ok (.goto 17, 3) := by decide +kernel
theorem dX14_feed_62 : decode cX14_feed 62 = .ok (.iload 6, 2) := by decide +kernel
theorem dX14_feed_64 : decode cX14_feed 64 = .ok (.bipush 16, 2) := by decide +kernel
theorem dX14_feed_66 : decode cX14_feed 66 = .ok (.if_icmp .ge 8, 3) := by decide +kernel
theorem dX14_feed_69 : decode cX14_feed 69 = .ok (.iload 4, 2) := by decide +kernel
theorem dX14_feed_71 : decode cX14_feed 71 = .ok (.goto 5, 3) := by decide +kernel
theorem dX14_feed_74 : decode cX14_feed 74 = .ok (.iload 5, 2) := by decide +kernel
theorem dX14_feed_76 : decode cX14_feed 76 = .ok (.istore 7, 2) := by decide +kernel
theorem dX14_feed_78 : decode cX14_feed 78 = .ok (.aload_n 0, 1) := by decide +kernel
theorem dX14_feed_79 : decode cX14_feed 79 = .ok (.getfield 7, 3) := by decide +kernel
theorem dX14_feed_82 : decode cX14_feed 82 = .ok (.aload_n 0, 1) := by decide +kernel
theorem dX14_feed_83 : decode cX14_feed 83 = .ok (.getfield 151, 3) := by decide +kernel
theorem dX14_feed_86 : decode cX14_feed 86 = .ok (.iload 6, 2) := by decide +kernel
theorem dX14_feed_88 : decode cX14_feed 88 = .ok (.iadd, 1) := by decide +kernel
theorem dX14_feed_89 : decode cX14_feed 89 = .ok (.iload 7, 2) := by decide +kernel
theorem dX14_feed_91 : decode cX14_feed 91 = .ok (.bipush 24, 2) := by decide +kernel
theorem dX14_feed_93 : decode cX14_feed 93 = .ok (.bipush 8, 2) := by decide +kernel
theorem dX14_feed_95 : decode cX14_feed 95 = .ok (.iload 6, 2) := by decide +kernel
theorem dX14_feed_97 : decode cX14_feed 97 = .ok (.iconst 4, 1) := by decide +kernel
theorem dX14_feed_98 : decode cX14_feed 98 = .ok (.irem, 1) := by decide +kernel
theorem dX14_feed_99 : decode cX14_feed 99 = .ok (.imul, 1) := by decide +kernel
theorem dX14_feed_100 : decode cX14_feed 100 = .ok (.isub, 1) := by decide +kernel
theorem dX14_feed_101 : decode cX14_feed 101 = .ok (.ishr, 1) := by decide +kernel
theorem dX14_feed_102 : decode cX14_feed 102 = .ok (.sipush 255, 3) := by decide +kernel
theorem dX14_feed_105 : decode cX14_feed 105 = .ok (.iand, 1) := by decide +kernel
theorem dX14_feed_106 : decode cX14_feed 106 = .ok (.iastore, 1) := by decide +kernel
theorem dX14_feed_107 : decode cX14_feed 107 = .ok (.iinc 6 1, 3) := by decide +kernel
theorem dX14_feed_110 : decode cX14_feed 110 = .ok (.goto (-87), 3) := by decide +kernel
theorem dX14_feed_113 : decode cX14_feed 113 = .ok (.aload_n 0, 1) := by decide +kernel
theorem dX14_feed_114 : decode cX14_feed 114 = .ok (.dup, 1) := by decide +kernel
theorem dX14_feed_115 : decode cX14_feed 115 = .ok (.getfield 151, 3) := by decide +kernel
theorem dX14_feed_118 : decode cX14_feed 118 = .ok (.bipush 20, 2) := by decide +kernel
theorem dX14_feed_120 : decode cX14_feed 120 = .ok (.iadd, 1) := by decide +kernel
theorem dX14_feed_121 : decode cX14_feed 121 = .ok (.putfield 151, 3) := by decide +kernel
theorem dX14_feed_124 : decode cX14_feed 124 = .ok (.aload_n 0, 1) := by decide +kernel
theorem dX14_feed_125 : decode cX14_feed 125 = .ok (.getfield 151, 3) := by decide +kernel
theorem dX14_feed_128 : decode cX14_feed 128 = .ok (.ireturn, 1) := by decide +kernel
theorem dX14_first_0 : decode cX14_first 0 = .ok (.aload_n 0, 1) := by decide +kernel
theorem dX14_first_1 : decode cX14_first 1 = .ok (.iconst 0, 1) := by decide +kernel
theorem dX14_first_2 : decode cX14_first 2 = .ok (.putfield 148, 3) := by decide +kernel
theorem dX14_first_5 : decode cX14_first 5 = .ok (.aload_n 0, 1) := by decide +kernel
theorem dX14_first_6 : decode cX14_first 6 = .ok (.iload_n 1, 1) := by decide +kernel
theorem dX14_first_7 : decode cX14_first 7 = .ok (.invokevirtual 429, 3) := by decide +kernel
theorem dX14_first_10 : decode cX14_first 10 = .ok (.ifCond .ne 5, 3) := by decide +kernel
theorem dX14_first_13 : decode cX14_first 13 = .ok (.iconst (-1), 1) := by decide +kernel
theorem dX14_first_14 : decode cX14_first 14 = .ok (.ireturn, 1) := by decide +kernel
theorem dX14_first_15 : decode cX14_first 15 = .ok (.bipush (-2), 2) := by decide +kernel
theorem dX14_first_17 : decode cX14_first 17 = .ok (.istore_n 2, 1) := by decide +kernel
theorem dX14_first_18 : decode cX14_first 18 = .ok (.bipush 101, 2) := by decide +kernel
theorem dX14_first_20 : decode cX14_first 20 = .ok (.istore_n 3, 1) := by decide +kernel
theorem dX14_first_21 : decode cX14_first 21 = .ok (.iconst 0, 1) := by decide +kernel
theorem dX14_first_22 : decode cX14_first 22 = .ok (.istore 4, 2) := by decide +kernel
theorem dX14_first_24 : decode cX14_first 24 = .ok (.iload 4, 2) := by decide +kernel
theorem dX14_first_26 : decode cX14_first 26 = .ok (.aload_n 0, 1) := by decide +kernel
theorem dX14_first_27 : decode cX14_first 27 = .ok (.getfield 267, 3) := by decide +kernel
theorem dX14_first_30 : decode cX14_first 30 = .ok (.if_icmp .ge 41, 3) := by decide +kernel
theorem dX14_first_33 : decode cX14_first 33 = .ok (.aload_n 0, 1) := by decide +kernel
theorem dX14_first_34 : decode cX14_first 34 = .ok (.iload 4, 2) := by decide +kernel
theorem dX14_first_36 : decode cX14_first 36 = .ok (.iload_n 1, 1) := by decide +kernel
theorem dX14_first_37 : decode cX14_first 37 = .ok (.iload_n 3, 1) := by decide +kernel
theorem dX14_first_38 : decode cX14_first 38 = .ok (.iconst 1, 1) := by decide +kernel
theorem dX14_first_39 : decode cX14_first 39 = .ok (.isub, 1) := by decide +kernel
theorem dX14_first_40 : decode cX14_first 40 = .ok (.invokevirtual 494, 3) := by decide +kernel
theorem dX14_first_43 : decode cX14_first 43 = .ok (.istore 5, 2) := by decide +kernel
theorem dX14_first_45 : decode cX14_first 45 = .ok (.iload 5, 2) := by decide +kernel
theorem dX14_first_47 : decode cX14_first 47 = .ok (.ifCond .lt 18, 3) := by decide +kernel
theorem dX14_first_50 : decode cX14_first 50 = .ok (.iload 5, 2) := by decide +kernel
theorem dX14_first_52 : decode cX14_first 52 = .ok (.iload_n 3, 1) := by decide +kernel
theorem dX14_first_53 : decode cX14_first 53 = .ok (.if_icmp .lt 6, 3) := by decide +kernel
theorem dX14_first_56 : decode cX14_first 56 = .ok (.goto 9, 3) := by decide +kernel
theorem dX14_first_59 : decode cX14_first 59 = .ok (.iload 4, 2) := by decide +kernel
theorem dX14_first_61 : decode cX14_first 61 = .ok (.istore_n 2, 1) := by decide +kernel
theorem dX14_first_62 : decode cX14_first 62 = .ok (.iload 5, 2) := by decide +kernel
theorem dX14_first_64 : decode cX14_first 64 = .ok (.istore_n 3, 1) := by decide +kernel
theorem dX14_first_65 : decode cX14_first 65 = .ok (.iinc 4 1, 3) := by decide +kernel
theorem dX14_first_68 : decode cX14_first 68 = .ok (.goto (-44), 3) := by decide +kernel
theorem dX14_first_71 : decode cX14_first 71 = .ok (.iload_n 2, 1) := by decide +kernel
theorem dX14_first_72 : decode cX14_first 72 = .ok (.ireturn, 1) := by decide +kernel
theorem dX14_isFit_0 : decode cX14_isFit 0 = .ok (.iconst 0, 1) := by decide +kernel
theorem dX14_isFit_1 : decode cX14_isFit 1 = .ok (.istore_n 1, 1) := by decide +kernel
theorem dX14_isFit_2 : decode cX14_isFit 2 = .ok (.iload_n 1, 1) := by decide +kernel
theorem dX14_isFit_3 : decode cX14_isFit 3 = .ok (.aload_n 0, 1) := by decide +kernel
theorem dX14_isFit_4 : decode cX14_isFit 4 = .ok (.invokevirtual 503, 3) := by decide +kernel
theorem dX14_isFit_7 : decode cX14_isFit 7 = .ok (.if_icmp .ge 60, 3) := by decide +kernel
theorem dX14_isFit_10 : decode cX14_isFit 10 = .ok (.aload_n 0, 1) := by decide +kernel
theorem dX14_isFit_11 : decode cX14_isFit 11 = .ok (.getfield 124, 3) := by decide +kernel
theorem dX14_isFit_14 : decode cX14_isFit 14 = .ok (.iload_n 1, 1) := by decide +kernel
theorem dX14_isFit_15 : decode cX14_isFit 15 = .ok (.baload, 1) := by decide +kernel
theorem dX14_isFit_16 : decode cX14_isFit 16 = .ok (.ifCond .eq 45, 3) := by decide +kernel
theorem dX14_isFit_19 : decode cX14_isFit 19 = .ok (.aload_n 0, 1) := by decide +kernel
theorem dX14_isFit_20 : decode cX14_isFit 20 = .ok (.aload_n 0, 1) := by decide +kernel
theorem dX14_isFit_21 : decode cX14_isFit 21 = .ok (.getfield 54, 3) := by decide +kernel
theorem dX14_isFit_24 : decode cX14_isFit 24 = .ok (.aload_n 0, 1) := by decide +kernel
theorem dX14_isFit_25 : decode cX14_isFit 25 = .ok (.getfield 121, 3) := by decide +kernel
theorem dX14_isFit_28 : decode cX14_isFit 28 = .ok (.iconst 3, 1) := by decide +kernel
theorem dX14_isFit_29 : decode cX14_isFit 29 = .ok (.iload_n 1, 1) := by decide +kernel
theorem dX14_isFit_30 : decode cX14_isFit 30 = .ok (.imul, 1) := by decide +kernel
theorem dX14_isFit_31 : decode cX14_isFit 31 = .ok (.iaload, 1) := by decide +kernel
theorem dX14_isFit_32 : decode cX14_isFit 32 = .ok (.iaload, 1) := by decide +kernel
theorem dX14_isFit_33 : decode cX14_isFit 33 = .ok (.aload_n 0, 1) := by decide +kernel
theorem dX14_isFit_34 : decode cX14_isFit 34 = .ok (.getfield 121, 3) := by decide +kernel
theorem dX14_isFit_37 : decode cX14_isFit 37 = .ok (.iconst 3, 1) := by decide +kernel
theorem dX14_isFit_38 : decode cX14_isFit 38 = .ok (.iload_n 1, 1) := by decide +kernel
theorem dX14_isFit_39 : decode cX14_isFit 39 = .ok (.imul, 1) := by decide +kernel
theorem dX14_isFit_40 : decode cX14_isFit 40 = .ok (.iconst 1, 1) := by decide +kernel
theorem dX14_isFit_41 : decode cX14_isFit 41 = .ok (.iadd, 1) := by decide +kernel
theorem dX14_isFit_42 : decode cX14_isFit 42 = .ok (.iaload, 1) := by decide +kernel
theorem dX14_isFit_43 : decode cX14_isFit 43 = .ok (.invokevirtual 471, 3) := by decide +kernel
theorem dX14_isFit_46 : decode cX14_isFit 46 = .ok (.aload_n 0, 1) := by decide +kernel
theorem dX14_isFit_47 : decode cX14_isFit 47 = .ok (.getfield 121, 3) := by decide +kernel
theorem dX14_isFit_50 : decode cX14_isFit 50 = .ok (.iconst 3, 1) := by decide +kernel
theorem dX14_isFit_51 : decode cX14_isFit 51 = .ok (.iload_n 1, 1) := by decide +kernel
theorem dX14_isFit_52 : decode cX14_isFit 52 = .ok (.imul, 1) := by decide +kernel
theorem dX14_isFit_53 : decode cX14_isFit 53 = .ok (.iconst 2, 1) := by decide +kernel
theorem dX14_isFit_54 : decode cX14_isFit 54 = .ok (.iadd, 1) := by decide +kernel
theorem dX14_isFit_55 : decode cX14_isFit 55 = .ok (.iaload, 1) := by decide +kernel
theorem dX14_isFit_56 : decode cX14_isFit 56 = .ok (.if_icmp .eq 5, 3) := by decide +kernel
theorem dX14_isFit_59 : decode cX14_isFit 59 = .ok (.iconst 0, 1) := by decide +kernel
theorem dX14_isFit_60 : decode cX14_isFit 60 = .ok (.ireturn, 1) := by decide +kernel
theorem dX14_isFit_61 : decode cX14_isFit 61 = .ok (.iinc 1 1, 3) := by decide +kernel
theorem dX14_isFit_64 : decode cX14_isFit 64 = .ok (.goto (-62), 3) := by decide +kernel
theorem dX14_isFit_67 : decode cX14_isFit 67 = .ok (.iconst 1, 1) := by decide +kernel
theorem dX14_isFit_68 : decode cX14_isFit 68 = .ok (.ireturn, 1) := by decide +kernel
theorem dX14_layCounts_0 : decode cX14_layCounts 0 = .ok (.iconst 0, 1) := by decide +kernel
theorem dX14_layCounts_1 : decode cX14_layCounts 1 = .ok (.istore_n 1, 1) := by decide +kernel
theorem dX14_layCounts_2 : decode cX14_layCounts 2 = .ok (.iload_n 1, 1) := by decide +kernel
theorem dX14_layCounts_3 : decode cX14_layCounts 3 = .ok (.aload_n 0, 1) := by decide +kernel
theorem dX14_layCounts_4 : decode cX14_layCounts 4 = .ok (.invokevirtual 503, 3) := by decide +kernel
theorem dX14_layCounts_7 : decode cX14_layCounts 7 = .ok (.if_icmp .ge 16, 3) := by decide +kernel
theorem dX14_layCounts_10 : decode cX14_layCounts 10 = .ok (.aload_n 0, 1) := by decide +kernel
theorem dX14_layCounts_11 : decode cX14_layCounts 11 = .ok (.getfield 124, 3) := by decide +kernel
theorem dX14_layCounts_14 : decode cX14_layCounts 14 = .ok (.iload_n 1, 1) := by decide +kernel
theorem dX14_layCounts_15 : decode cX14_layCounts 15 = .ok (.iconst 1, 1) := by decide +kernel
theorem dX14_layCounts_16 : decode cX14_layCounts 16 = .ok (.bastore, 1) := by decide +kernel
theorem dX14_layCounts_17 : decode cX14_layCounts 17 = .ok (.iinc 1 1, 3) := by decide +kernel
theorem dX14_layCounts_20 : decode cX14_layCounts 20 = .ok (.goto (-18), 3) := by decide +kernel
theorem dX14_layCounts_23 : decode cX14_layCounts 23 = .ok (.aload_n 0, 1) := by decide +kernel
theorem dX14_layCounts_24 : decode cX14_layCounts 24 = .ok (.invokevirtual 503, 3) := by decide +kernel
theorem dX14_layCounts_27 : decode cX14_layCounts 27 = .ok (.iconst 1, 1) := by decide +kernel
theorem dX14_layCounts_28 : decode cX14_layCounts 28 = .ok (.isub, 1) := by decide +kernel
theorem dX14_layCounts_29 : decode cX14_layCounts 29 = .ok (.istore_n 1, 1) := by decide +kernel
theorem dX14_layCounts_30 : decode cX14_layCounts 30 = .ok (.iload_n 1, 1) := by decide +kernel
theorem dX14_layCounts_31 : decode cX14_layCounts 31 = .ok (.ifCond .lt 45, 3) := by decide +kernel
theorem dX14_layCounts_34 : decode cX14_layCounts 34 = .ok (.aload_n 0, 1) := by decide +kernel
theorem dX14_layCounts_35 : decode cX14_layCounts 35 = .ok (.getfield 124, 3) := by decide +kernel
theorem dX14_layCounts_38 : decode cX14_layCounts 38 = .ok (.iload_n 1, 1) := by decide +kernel
theorem dX14_layCounts_39 : decode cX14_layCounts 39 = .ok (.baload, 1) := by decide +kernel
theorem dX14_layCounts_40 : decode cX14_layCounts 40 = .ok (.ifCond .eq 30, 3) := by decide +kernel
theorem dX14_layCounts_43 : decode cX14_layCounts 43 = .ok (.aload_n 0, 1) := by decide +kernel
theorem dX14_layCounts_44 : decode cX14_layCounts 44 = .ok (.getfield 121, 3) := by decide +kernel
theorem dX14_layCounts_47 : decode cX14_layCounts 47 = .ok (.iconst 3, 1) := by decide +kernel
theorem dX14_layCounts_48 : decode cX14_layCounts 48 = .ok (.iload_n 1, 1) := by decide +kernel
theorem dX14_layCounts_49 : decode cX14_layCounts 49 = .ok (.imul, 1) := by decide +kernel
theorem dX14_layCounts_50 : decode cX14_layCounts 50 = .ok (.iaload, 1) := by decide +kernel
theorem dX14_layCounts_51 : decode cX14_layCounts 51 = .ok (.ifCond .ge 19, 3) := by decide +kernel
theorem dX14_layCounts_54 : decode cX14_layCounts 54 = .ok (.aload_n 0, 1) := by decide +kernel
theorem dX14_layCounts_55 : decode cX14_layCounts 55 = .ok (.getfield 124, 3) := by decide +kernel
theorem dX14_layCounts_58 : decode cX14_layCounts 58 = .ok (.aload_n 0, 1) := by decide +kernel
theorem dX14_layCounts_59 : decode cX14_layCounts 59 = .ok (.getfield 121, 3) := by decide +kernel
theorem dX14_layCounts_62 : decode cX14_layCounts 62 = .ok (.iconst 3, 1) := by decide +kernel
theorem dX14_layCounts_63 : decode cX14_layCounts 63 = .ok (.iload_n 1, 1) := by decide +kernel
theorem dX14_layCounts_64 : decode cX14_layCounts 64 = .ok (.imul, 1) := by decide +kernel
theorem dX14_layCounts_65 : decode cX14_layCounts 65 = .ok (.iconst 2, 1) := by decide +kernel
theorem dX14_layCounts_66 : decode cX14_layCounts 66 = .ok (.iadd, 1) := by decide +kernel
theorem dX14_layCounts_67 : decode cX14_layCounts 67 = .ok (.iaload, 1) := by decide +kernel
theorem dX14_layCounts_68 : decode cX14_layCounts 68 = .ok (.iconst 0, 1) := by decide +kernel
theorem dX14_layCounts_69 : decode cX14_layCounts 69 = .ok (.bastore, 1) := by decide +kernel
theorem dX14_layCounts_70 : decode cX14_layCounts 70 = .ok (.iinc 1 (-1), 3) := by decide +kernel
theorem dX14_layCounts_73 : decode cX14_layCounts 73 = .ok (.goto (-43), 3) := by decide +kernel
theorem dX14_layCounts_76 : decode cX14_layCounts 76 = .ok (.iconst 0, 1) := by decide +kernel
theorem dX14_layCounts_77 : decode cX14_layCounts 77 = .ok (.istore_n 1, 1) := by decide +kernel
theorem dX14_layCounts_78 : decode cX14_layCounts 78 = .ok (.iload_n 1, 1) := by decide +kernel
theorem dX14_layCounts_79 : decode cX14_layCounts 79 = .ok (.aload_n 0, 1) := by decide +kernel
theorem dX14_layCounts_80 : decode cX14_layCounts 80 = .ok (.invokevirtual 503, 3) := by decide +kernel
theorem dX14_layCounts_83 : decode cX14_layCounts 83 = .ok (.if_icmp .ge 40, 3) := by decide +kernel
theorem dX14_layCounts_86 : decode cX14_layCounts 86 = .ok (.aload_n 0, 1) := by decide +kernel
theorem dX14_layCounts_87 : decode cX14_layCounts 87 = .ok (.getfield 124, 3) := by decide +kernel
theorem dX14_layCounts_90 : decode cX14_layCounts 90 = .ok (.iload_n 1, 1) := by decide +kernel
theorem dX14_layCounts_91 : decode cX14_layCounts 91 = .ok (.aload_n 0, 1) := by decide +kernel
theorem dX14_layCounts_92 : decode cX14_layCounts 92 = .ok (.getfield 124, 3) := by decide +kernel
theorem dX14_layCounts_95 : decode cX14_layCounts 95 = .ok (.iload_n 1, 1) := by decide +kernel
theorem dX14_layCounts_96 : decode cX14_layCounts 96 = .ok (.baload, 1) := by decide +kernel
theorem dX14_layCounts_97 : decode cX14_layCounts 97 = .ok (.ifCond .eq 18, 3) := by decide +kernel
theorem dX14_layCounts_100 : decode cX14_layCounts 100 = .ok (.aload_n 0, 1) := by decide +kernel
theorem dX14_layCounts_101 : decode cX14_layCounts 101 = .ok (.getfield 121, 3) := by decide +kernel
theorem dX14_layCounts_104 : decode cX14_layCounts 104 = .ok (.iconst 3, 1) := by decide +kernel
theorem dX14_layCounts_105 : decode cX14_layCounts 105 = .ok (.iload_n 1, 1) := by decide +kernel
theorem dX14_layCounts_106 : decode cX14_layCounts 106 = .ok (.imul, 1) := by decide +kernel
theorem dX14_layCounts_107 : decode cX14_layCounts 107 = .ok (.iaload, 1) := by decide +kernel
theorem dX14_layCounts_108 : decode cX14_layCounts 108 = .ok (.ifCond .lt 7, 3) := by decide +kernel
theorem dX14_layCounts_111 : decode cX14_layCounts 111 = .ok (.iconst 1, 1) := by decide +kernel
theorem dX14_layCounts_112 : decode cX14_layCounts 112 = .ok (.goto 4, 3) := by decide +kernel
theorem dX14_layCounts_115 : decode cX14_layCounts 115 = .ok (.iconst 0, 1) := by decide +kernel
theorem dX14_layCounts_116 : decode cX14_layCounts 116 = .ok (.bastore, 1) := by decide +kernel
theorem dX14_layCounts_117 : decode cX14_layCounts 117 = .ok (.iinc 1 1, 3) := by decide +kernel
theorem dX14_layCounts_120 : decode cX14_layCounts 120 = .ok (.goto (-42), 3) := by decide +kernel
theorem dX14_layCounts_123 : decode cX14_layCounts 123 = .ok (.return_, 1) := by decide +kernel
theorem dX14_plainShores_0 : decode cX14_plainShores 0 = .ok (.aload_n 0, 1) := by decide +kernel
theorem dX14_plainShores_1 : decode cX14_plainShores 1 = .ok (.aload_n 0, 1) := by decide +kernel
theorem dX14_plainShores_2 : decode cX14_plainShores 2 = .ok (.getfield 273, 3) := by decide +kernel
theorem dX14_plainShores_5 : decode cX14_plainShores 5 = .ok (.putfield 448, 3) := by decide +kernel
theorem dX14_plainShores_8 : decode cX14_plainShores 8 = .ok (.iconst 0, 1) := by decide +kernel
theorem dX14_plainShores_9 : decode cX14_plainShores 9 = .ok (.istore_n 1, 1) := by decide +kernel
theorem dX14_plainShores_10 : decode cX14_plainShores 10 = .ok (.iload_n 1, 1) := by decide +kernel
theorem dX14_plainShores_11 : decode cX14_plainShores 11 = .ok (.iconst 3, 1) := by decide +kernel
theorem dX14_plainShores_12 : decode cX14_plainShores 12 = .ok (.if_icmp .ge 21, 3) := by decide +kernel
theorem dX14_plainShores_15 : decode cX14_plainShores 15 = .ok (.aload_n 0, 1) := by decide +kernel
theorem dX14_plainShores_16 : decode cX14_plainShores 16 = .ok (.getfield 109, 3) := by decide +kernel
theorem dX14_plainShores_19 : decode cX14_plainShores 19 = .ok (.iload_n 1, 1) := by decide +kernel
theorem dX14_plainShores_20 : decode cX14_plainShores 20 = .ok (.aload_n 0, 1) := by decide +kernel
theorem dX14_plainShores_21 : decode cX14_plainShores 21 = .ok (.getfield 36, 3) := by decide +kernel
theorem dX14_plainShores_24 : decode cX14_plainShores 24 = .ok (.iload_n 1, 1) := by decide +kernel
theorem dX14_plainShores_25 : decode cX14_plainShores 25 = .ok (.iaload, 1) := by decide +kernel
theorem dX14_plainShores_26 : decode cX14_plainShores 26 = .ok (.iastore, 1) := by decide +kernel
theorem dX14_plainShores_27 : decode cX14_plainShores 27 = .ok (.iinc 1 1, 3) := by decide +kernel
theorem dX14_plainShores_30 : decode cX14_plainShores 30 = .ok (.goto (-20), 3) := by decide +kernel
theorem dX14_plainShores_33 : decode cX14_plainShores 33 = .ok (.return_, 1) := by decide +kernel
theorem dX14_fits_0 : decode cX14_fits 0 = .ok (.aload_n 0, 1) := by decide +kernel
theorem dX14_fits_1 : decode cX14_fits 1 = .ok (.iconst 0, 1) := by decide +kernel
theorem dX14_fits_2 : decode cX14_fits 2 = .ok (.putfield 148, 3) := by decide +kernel
theorem dX14_fits_5 : decode cX14_fits 5 = .ok (.aload_n 0, 1) := by decide +kernel
theorem dX14_fits_6 : decode cX14_fits 6 = .ok (.invokevirtual 506, 3) := by decide +kernel
theorem dX14_fits_9 : decode cX14_fits 9 = .ok (.aload_n 0, 1) := by decide +kernel
theorem dX14_fits_10 : decode cX14_fits 10 = .ok (.invokevirtual 527, 3) := by decide +kernel
theorem dX14_fits_13 : decode cX14_fits 13 = .ok (.ifCond .eq 12, 3) := by decide +kernel
theorem dX14_fits_16 : decode cX14_fits 16 = .ok (.iconst 1, 1) := by decide +kernel
theorem dX14_fits_17 : decode cX14_fits 17 = .ok (.aload_n 0, 1) := by decide +kernel
theorem dX14_fits_18 : decode cX14_fits 18 = .ok (.getfield 276, 3) := by decide +kernel
theorem dX14_fits_21 : decode cX14_fits 21 = .ok (.ishl, 1) := by decide +kernel
theorem dX14_fits_22 : decode cX14_fits 22 = .ok (.goto 4, 3) := by decide +kernel
theorem dX14_fits_25 : decode cX14_fits 25 = .ok (.iconst 0, 1) := by decide +kernel
theorem dX14_fits_26 : decode cX14_fits 26 = .ok (.istore_n 1, 1) := by decide +kernel
theorem dX14_fits_27 : decode cX14_fits 27 = .ok (.iconst 0, 1) := by decide +kernel
theorem dX14_fits_28 : decode cX14_fits 28 = .ok (.istore_n 2, 1) := by decide +kernel
theorem dX14_fits_29 : decode cX14_fits 29 = .ok (.iload_n 2, 1) := by decide +kernel
theorem dX14_fits_30 : decode cX14_fits 30 = .ok (.aload_n 0, 1) := by decide +kernel
theorem dX14_fits_31 : decode cX14_fits 31 = .ok (.getfield 276, 3) := by decide +kernel
theorem dX14_fits_34 : decode cX14_fits 34 = .ok (.if_icmp .ge 65, 3) := by decide +kernel
theorem dX14_fits_37 : decode cX14_fits 37 = .ok (.aload_n 0, 1) := by decide +kernel
theorem dX14_fits_38 : decode cX14_fits 38 = .ok (.aload_n 0, 1) := by decide +kernel
theorem dX14_fits_39 : decode cX14_fits 39 = .ok (.getfield 75, 3) := by decide +kernel
theorem dX14_fits_42 : decode cX14_fits 42 = .ok (.iload_n 2, 1) := by decide +kernel
theorem dX14_fits_43 : decode cX14_fits 43 = .ok (.iaload, 1) := by decide +kernel
theorem dX14_fits_44 : decode cX14_fits 44 = .ok (.putfield 448, 3) := by decide +kernel
theorem dX14_fits_47 : decode cX14_fits 47 = .ok (.iconst 0, 1) := by decide +kernel
theorem dX14_fits_48 : decode cX14_fits 48 = .ok (.istore_n 3, 1) := by decide +kernel
theorem dX14_fits_49 : decode cX14_fits 49 = .ok (.iload_n 3, 1) := by decide +kernel
theorem dX14_fits_50 : decode cX14_fits 50 = .ok (.iconst 3, 1) := by decide +kernel
theorem dX14_fits_51 : decode cX14_fits 51 = .ok (.if_icmp .ge 25, 3) := by decide +kernel
theorem dX14_fits_54 : decode cX14_fits 54 = .ok (.aload_n 0, 1) := by decide +kernel
theorem dX14_fits_55 : decode cX14_fits 55 = .ok (.getfield 109, 3) := by decide +kernel
theorem dX14_fits_58 : decode cX14_fits 58 = .ok (.iload_n 3, 1) := by decide +kernel
theorem dX14_fits_59 : decode cX14_fits 59 = .ok (.aload_n 0, 1) := by decide +kernel
theorem dX14_fits_60 : decode cX14_fits 60 = .ok (.getfield 78, 3) := by decide +kernel
theorem dX14_fits_63 : decode cX14_fits 63 = .ok (.iconst 3, 1) := by decide +kernel
theorem dX14_fits_64 : decode cX14_fits 64 = .ok (.iload_n 2, 1) := by decide +kernel
theorem dX14_fits_65 : decode cX14_fits 65 = .ok (.imul, 1) := by decide +kernel
theorem dX14_fits_66 : decode cX14_fits 66 = .ok (.iload_n 3, 1) := by decide +kernel
theorem dX14_fits_67 : decode cX14_fits 67 = .ok (.iadd, 1) := by decide +kernel
theorem dX14_fits_68 : decode cX14_fits 68 = .ok (.iaload, 1) := by decide +kernel
theorem dX14_fits_69 : decode cX14_fits 69 = .ok (.iastore, 1) := by decide +kernel
theorem dX14_fits_70 : decode cX14_fits 70 = .ok (.iinc 3 1, 3) := by decide +kernel
theorem dX14_fits_73 : decode cX14_fits 73 = .ok (.goto (-24), 3) := by decide +kernel
theorem dX14_fits_76 : decode cX14_fits 76 = .ok (.iload_n 1, 1) := by decide +kernel
theorem dX14_fits_77 : decode cX14_fits 77 = .ok (.aload_n 0, 1) := by decide +kernel
theorem dX14_fits_78 : decode cX14_fits 78 = .ok (.invokevirtual 527, 3) := by decide +kernel
theorem dX14_fits_81 : decode cX14_fits 81 = .ok (.ifCond .eq 9, 3) := by decide +kernel
theorem dX14_fits_84 : decode cX14_fits 84 = .ok (.iconst 1, 1) := by decide +kernel
theorem dX14_fits_85 : decode cX14_fits 85 = .ok (.iload_n 2, 1) := by decide +kernel
theorem dX14_fits_86 : decode cX14_fits 86 = .ok (.ishl, 1) := by decide +kernel
theorem dX14_fits_87 : decode cX14_fits 87 = .ok (.goto 4, 3) := by decide +kernel
theorem dX14_fits_90 : decode cX14_fits 90 = .ok (.iconst 0, 1) := by decide +kernel
theorem dX14_fits_91 : decode cX14_fits 91 = .ok (.ior, 1) := by decide +kernel
theorem dX14_fits_92 : decode cX14_fits 92 = .ok (.istore_n 1, 1) := by decide +kernel
theorem dX14_fits_93 : decode cX14_fits 93 = .ok (.iinc 2 1, 3) := by decide +kernel
theorem dX14_fits_96 : decode cX14_fits 96 = .ok (.goto (-67), 3) := by decide +kernel
theorem dX14_fits_99 : decode cX14_fits 99 = .ok (.aload_n 0, 1) := by decide +kernel
theorem dX14_fits_100 : decode cX14_fits 100 = .ok (.invokevirtual 313, 3) := by decide +kernel
theorem dX14_fits_103 : decode cX14_fits 103 = .ok (.iload_n 1, 1) := by decide +kernel
theorem dX14_fits_104 : decode cX14_fits 104 = .ok (.ireturn, 1) := by decide +kernel
theorem dX14_groundLine_0 : decode cX14_groundLine 0 = .ok (.iload_n 1, 1) := by decide +kernel
theorem dX14_groundLine_1 : decode cX14_groundLine 1 = .ok (.iconst 1, 1) := by decide +kernel
theorem dX14_groundLine_2 : decode cX14_groundLine 2 = .ok (.if_icmp .ne 12, 3) := by decide +kernel
theorem dX14_groundLine_5 : decode cX14_groundLine 5 = .ok (.aload_n 0, 1) := by decide +kernel
theorem dX14_groundLine_6 : decode cX14_groundLine 6 = .ok (.getfield 236, 3) := by decide +kernel
theorem dX14_groundLine_9 : decode cX14_groundLine 9 = .ok (.bipush 20, 2) := by decide +kernel
theorem dX14_groundLine_11 : decode cX14_groundLine 11 = .ok (.if_icmp .eq 30, 3) := by decide +kernel
theorem dX14_groundLine_14 : decode cX14_groundLine 14 = .ok (.iload_n 1, 1) := by decide +kernel
theorem dX14_groundLine_15 : decode cX14_groundLine 15 = .ok (.iconst 2, 1) := by decide +kernel
theorem dX14_groundLine_16 : decode cX14_groundLine 16 = .ok (.if_icmp .ne 12, 3) := by decide +kernel
theorem dX14_groundLine_19 : decode cX14_groundLine 19 = .ok (.aload_n 0, 1) := by decide +kernel
theorem dX14_groundLine_20 : decode cX14_groundLine 20 = .ok (.getfield 239, 3) := by decide +kernel
theorem dX14_groundLine_23 : decode cX14_groundLine 23 = .ok (.bipush 20, 2) := by decide +kernel
theorem dX14_groundLine_25 : decode cX14_groundLine 25 = .ok (.if_icmp .eq 16, 3) := by decide +kernel
theorem dX14_groundLine_28 : decode cX14_groundLine 28 = .ok (.iload_n 1, 1) := by decide +kernel
theorem dX14_groundLine_29 : decode cX14_groundLine 29 = .ok (.iconst 3, 1) := by decide +kernel
theorem dX14_groundLine_30 : decode cX14_groundLine 30 = .ok (.if_icmp .ne 17, 3) := by decide +kernel
theorem dX14_groundLine_33 : decode cX14_groundLine 33 = .ok (.aload_n 0, 1) := by decide +kernel
theorem dX14_groundLine_34 : decode cX14_groundLine 34 = .ok (.getfield 227, 3) := by decide +kernel
theorem dX14_groundLine_37 : decode cX14_groundLine 37 = .ok (.iconst 3, 1) := by decide +kernel
theorem dX14_groundLine_38 : decode cX14_groundLine 38 = .ok (.if_icmp .ne 9, 3) := by decide +kernel
theorem dX14_groundLine_41 : decode cX14_groundLine 41 = .ok (.aload_n 0, 1) := by decide +kernel
theorem dX14_groundLine_42 : decode cX14_groundLine 42 = .ok (.iconst 2, 1) := by decide +kernel
theorem dX14_groundLine_43 : decode cX14_groundLine 43 = .ok (.invokevirtual 189, 3) := by decide +kernel
theorem dX14_groundLine_46 : decode cX14_groundLine 46 = .ok (.ireturn, 1) := by decide +kernel
theorem dX14_groundLine_47 : decode cX14_groundLine 47 = .ok (.aload_n 0, 1) := by decide +kernel
theorem dX14_groundLine_48 : decode cX14_groundLine 48 = .ok (.invokevirtual 199, 3) := by decide +kernel
theorem dX14_groundLine_51 : decode cX14_groundLine 51 = .ok (.aload_n 0, 1) := by decide +kernel
theorem dX14_groundLine_52 : decode cX14_groundLine 52 = .ok (.invokevirtual 323, 3) := by decide +kernel
theorem dX14_groundLine_55 : decode cX14_groundLine 55 = .ok (.ifCond .ne 5, 3) := by decide +kernel
theorem dX14_groundLine_58 : decode cX14_groundLine 58 = .ok (.iconst 0, 1) := by decide +kernel
theorem dX14_groundLine_59 : decode cX14_groundLine 59 = .ok (.ireturn, 1) := by decide +kernel
theorem dX14_groundLine_60 : decode cX14_groundLine 60 = .ok (.bipush 48, 2) := by decide +kernel
theorem dX14_groundLine_62 : decode cX14_groundLine 62 = .ok (.aload_n 0, 1) := by decide +kernel
theorem dX14_groundLine_63 : decode cX14_groundLine 63 = .ok (.getfield 196, 3) := by decide +kernel
theorem dX14_groundLine_66 : decode cX14_groundLine 66 = .ok (.iadd, 1) := by decide +kernel
theorem dX14_groundLine_67 : decode cX14_groundLine 67 = .ok (.istore_n 2, 1) := by decide +kernel
theorem dX14_groundLine_68 : decode cX14_groundLine 68 = .ok (.iload_n 1, 1) := by decide +kernel
theorem dX14_groundLine_69 : decode cX14_groundLine 69 = .ok (.iconst 1, 1) := by decide +kernel
theorem dX14_groundLine_70 : decode cX14_groundLine 70 = .ok (.if_icmp .ne 41, 3) := by decide +kernel
theorem dX14_groundLine_73 : decode cX14_groundLine 73 = .ok (.aload_n 0, 1) := by decide +kernel
theorem dX14_groundLine_74 : decode cX14_groundLine 74 = .ok (.getfield 27, 3) := by decide +kernel
theorem dX14_groundLine_77 : decode cX14_groundLine 77 = .ok (.iload_n 2, 1) := by decide +kernel
theorem dX14_groundLine_78 : decode cX14_groundLine 78 = .ok (.iaload, 1) := by decide +kernel
theorem dX14_groundLine_79 : decode cX14_groundLine 79 = .ok (.ifCond .ne 28, 3) := by decide +kernel
theorem dX14_groundLine_82 : decode cX14_groundLine 82 = .ok (.aload_n 0, 1) := by decide +kernel
theorem dX14_groundLine_83 : decode cX14_groundLine 83 = .ok (.getfield 30, 3) := by decide +kernel
theorem dX14_groundLine_86 : decode cX14_groundLine 86 = .ok (.iload_n 2, 1) := by decide +kernel
theorem dX14_groundLine_87 : decode cX14_groundLine 87 = .ok (.baload, 1) := by decide +kernel
theorem dX14_groundLine_88 : decode cX14_groundLine 88 = .ok (.ifCond .ne 19, 3) := by decide +kernel
theorem dX14_groundLine_91 : decode cX14_groundLine 91 = .ok (.aload_n 0, 1) := by decide +kernel
theorem dX14_groundLine_92 : decode cX14_groundLine 92 = .ok (.getfield 33, 3) := by decide +kernel
theorem dX14_groundLine_95 : decode cX14_groundLine 95 = .ok (.iload_n 2, 1) := by decide +kernel
theorem dX14_groundLine_96 : decode cX14_groundLine 96 = .ok (.bipush 48, 2) := by decide +kernel
theorem dX14_groundLine_98 : decode cX14_groundLine 98 = .ok (.isub, 1) := by decide +kernel
theorem dX14_groundLine_99 : decode cX14_groundLine 99 = .ok (.baload, 1) := by decide +kernel
theorem dX14_groundLine_100 : decode cX14_groundLine 100 = .ok (.ifCond .ne 7, 3) := by decide +kernel
theorem dX14_groundLine_103 : decode cX14_groundLine 103 = .ok (.iconst 1, 1) := by decide +kernel
theorem dX14_groundLine_104 : decode cX14_groundLine 104 = .ok (.goto 53, 3) := by decide +kernel
theorem dX14_groundLine_107 : decode cX14_groundLine 107 = .ok (.iconst 0, 1) := by decide +kernel
theorem dX14_groundLine_108 : decode cX14_groundLine 108 = .ok (.goto 49, 3) := by decide +kernel
theorem dX14_groundLine_111 : decode cX14_groundLine 111 = .ok (.iload_n 1, 1) := by decide +kernel
theorem dX14_groundLine_112 : decode cX14_groundLine 112 = .ok (.iconst 2, 1) := by decide +kernel
theorem dX14_groundLine_113 : decode cX14_groundLine 113 = .ok (.if_icmp .ne 20, 3) := by decide +kernel
theorem dX14_groundLine_116 : decode cX14_groundLine 116 = .ok (.aload_n 0, 1) := by decide +kernel
theorem dX14_groundLine_117 : decode cX14_groundLine 117 = .ok (.getfield 27, 3) := by decide +kernel
theorem dX14_groundLine_120 : decode cX14_groundLine 120 = .ok (.iload_n 2, 1) := by decide +kernel
theorem dX14_groundLine_121 : decode cX14_groundLine 121 = .ok (.iaload, 1) := by decide +kernel
theorem dX14_groundLine_122 : decode cX14_groundLine 122 = .ok (.ifCond .ne 7, 3) := by decide +kernel
theorem dX14_groundLine_125 : decode cX14_groundLine 125 = .ok (.iconst 1, 1) := by decide +kernel
theorem dX14_groundLine_126 : decode cX14_groundLine 126 = .ok (.goto 31, 3) := by decide +kernel
theorem dX14_groundLine_129 : decode cX14_groundLine 129 = .ok (.iconst 0, 1) := by decide +kernel
theorem dX14_groundLine_130 : decode cX14_groundLine 130 = .ok (.goto 27, 3) := by decide +kernel
theorem dX14_groundLine_133 : decode cX14_groundLine 133 = .ok (.aload_n 0, 1) := by decide +kernel
theorem dX14_groundLine_134 : decode cX14_groundLine 134 = .ok (.getfield 27, 3) := by decide +kernel
theorem dX14_groundLine_137 : decode cX14_groundLine 137 = .ok (.iload_n 2, 1) := by decide +kernel
theorem dX14_groundLine_138 : decode cX14_groundLine 138 = .ok (.iaload, 1) := by decide +kernel
theorem dX14_groundLine_139 : decode cX14_groundLine 139 = .ok (.iconst 2, 1) := by decide +kernel
theorem dX14_groundLine_140 : decode cX14_groundLine 140 = .ok (.if_icmp .eq 16, 3) := by decide +kernel
theorem dX14_groundLine_143 : decode cX14_groundLine 143 = .ok (.aload_n 0, 1) := by decide +kernel
theorem dX14_groundLine_144 : decode cX14_groundLine 144 = .ok (.getfield 30, 3) := by decide +kernel
theorem dX14_groundLine_147 : decode cX14_groundLine 147 = .ok (.iload_n 2, 1) := by decide +kernel
theorem dX14_groundLine_148 : decode cX14_groundLine 148 = .ok (.baload, 1) := by decide +kernel
theorem dX14_groundLine_149 : decode cX14_groundLine 149 = .ok (.ifCond .ne 7, 3) := by decide +kernel
theorem dX14_groundLine_152 : decode cX14_groundLine 152 = .ok (.iconst 1, 1) := by decide +kernel
theorem dX14_groundLine_153 : decode cX14_groundLine 153 = .ok (.goto 4, 3) := by decide +kernel
theorem dX14_groundLine_156 : decode cX14_groundLine 156 = .ok (.iconst 0, 1) := by decide +kernel
theorem dX14_groundLine_157 : decode cX14_groundLine 157 = .ok (.istore_n 3, 1) := by decide +kernel
theorem dX14_groundLine_158 : decode cX14_groundLine 158 = .ok (.iload_n 3, 1) := by decide +kernel
theorem dX14_groundLine_159 : decode cX14_groundLine 159 = .ok (.ifCond .ne 8, 3) := by decide +kernel
theorem dX14_groundLine_162 : decode cX14_groundLine 162 = .ok (.aload_n 0, 1) := by decide +kernel
theorem dX14_groundLine_163 : decode cX14_groundLine 163 = .ok (.invokevirtual 327, 3) := by decide +kernel
theorem dX14_groundLine_166 : decode cX14_groundLine 166 = .ok (.ireturn, 1) := by decide +kernel
theorem dX14_groundLine_167 : decode cX14_groundLine 167 = .ok (.iload_n 1, 1) := by decide +kernel
theorem dX14_groundLine_168 : decode cX14_groundLine 168 = .ok (.iconst 3, 1) := by decide +kernel
theorem dX14_groundLine_169 : decode cX14_groundLine 169 = .ok (.if_icmp .ne 37, 3) := by decide +kernel
theorem dX14_groundLine_172 : decode cX14_groundLine 172 = .ok (.aload_n 0, 1) := by decide +kernel
theorem dX14_groundLine_173 : decode cX14_groundLine 173 = .ok (.getfield 30, 3) := by decide +kernel
theorem dX14_groundLine_176 : decode cX14_groundLine 176 = .ok (.iload_n 2, 1) := by decide +kernel
theorem dX14_groundLine_177 : decode cX14_groundLine 177 = .ok (.iconst 1, 1) := by decide +kernel
theorem dX14_groundLine_178 : decode cX14_groundLine 178 = .ok (.bastore, 1) := by decide +kernel
theorem dX14_groundLine_179 : decode cX14_groundLine 179 = .ok (.aload_n 0, 1) := by decide +kernel
theorem dX14_groundLine_180 : decode cX14_groundLine 180 = .ok (.getfield 36, 3) := by decide +kernel
theorem dX14_groundLine_183 : decode cX14_groundLine 183 = .ok (.iconst 3, 1) := by decide +kernel
theorem dX14_groundLine_184 : decode cX14_groundLine 184 = .ok (.aload_n 0, 1) := by decide +kernel
theorem dX14_groundLine_185 : decode cX14_groundLine 185 = .ok (.getfield 227, 3) := by decide +kernel
theorem dX14_groundLine_188 : decode cX14_groundLine 188 = .ok (.iadd, 1) := by decide +kernel
theorem dX14_groundLine_189 : decode cX14_groundLine 189 = .ok (.aload_n 0, 1) := by decide +kernel
theorem dX14_groundLine_190 : decode cX14_groundLine 190 = .ok (.getfield 196, 3) := by decide +kernel
theorem dX14_groundLine_193 : decode cX14_groundLine 193 = .ok (.iastore, 1) := by decide +kernel
theorem dX14_groundLine_194 : decode cX14_groundLine 194 = .ok (.aload_n 0, 1) := by decide +kernel
theorem dX14_groundLine_195 : decode cX14_groundLine 195 = .ok (.dup, 1) := by decide +kernel
theorem dX14_groundLine_196 : decode cX14_groundLine 196 = .ok (.getfield 227, 3) := by decide +kernel
theorem dX14_groundLine_199 : decode cX14_groundLine 199 = .ok (.iconst 1, 1) := by decide +kernel
theorem dX14_groundLine_200 : decode cX14_groundLine 200 = .ok (.iadd, 1) := by decide +kernel
theorem dX14_groundLine_201 : decode cX14_groundLine 201 = .ok (.putfield 227, 3) := by decide +kernel
theorem dX14_groundLine_204 : decode cX14_groundLine 204 = .ok (.iconst 1, 1) := by decide +kernel
theorem dX14_groundLine_205 : decode cX14_groundLine 205 = .ok (.ireturn, 1) := by decide +kernel
theorem dX14_groundLine_206 : decode cX14_groundLine 206 = .ok (.aload_n 0, 1) := by decide +kernel
theorem dX14_groundLine_207 : decode cX14_groundLine 207 = .ok (.getfield 27, 3) := by decide +kernel
theorem dX14_groundLine_210 : decode cX14_groundLine 210 = .ok (.iload_n 2, 1) := by decide +kernel
theorem dX14_groundLine_211 : decode cX14_groundLine 211 = .ok (.iload_n 1, 1) := by decide +kernel
theorem dX14_groundLine_212 : decode cX14_groundLine 212 = .ok (.iconst 1, 1) := by decide +kernel
theorem dX14_groundLine_213 : decode cX14_groundLine 213 = .ok (.if_icmp .ne 7, 3) := by decide +kernel
theorem dX14_groundLine_216 : decode cX14_groundLine 216 = .ok (.iconst 2, 1) := by decide +kernel
theorem dX14_groundLine_217 : decode cX14_groundLine 217 = .ok (.goto 4, 3) := by decide +kernel
theorem dX14_groundLine_220 : decode cX14_groundLine 220 = .ok (.iconst 1, 1) := by decide +kernel
theorem dX14_groundLine_221 : decode cX14_groundLine 221 = .ok (.iastore, 1) := by decide +kernel
theorem dX14_groundLine_222 : decode cX14_groundLine 222 = .ok (.aload_n 0, 1) := by decide +kernel
theorem dX14_groundLine_223 : decode cX14_groundLine 223 = .ok (.dup, 1) := by decide +kernel
theorem dX14_groundLine_224 : decode cX14_groundLine 224 = .ok (.getfield 236, 3) := by decide +kernel
theorem dX14_groundLine_227 : decode cX14_groundLine 227 = .ok (.iload_n 1, 1) := by decide +kernel
theorem dX14_groundLine_228 : decode cX14_groundLine 228 = .ok (.iconst 1, 1) := by decide +kernel
theorem dX14_groundLine_229 : decode cX14_groundLine 229 = .ok (.if_icmp .ne 7, 3) := by decide +kernel
theorem dX14_groundLine_232 : decode cX14_groundLine 232 = .ok (.iconst 1, 1) := by decide +kernel
theorem dX14_groundLine_233 : decode cX14_groundLine 233 = .ok (.goto 4, 3) := by decide +kernel
theorem dX14_groundLine_236 : decode cX14_groundLine 236 = .ok (.iconst 0, 1) := by decide +kernel
theorem dX14_groundLine_237 : decode cX14_groundLine 237 = .ok (.iadd, 1) := by decide +kernel
theorem dX14_groundLine_238 : decode cX14_groundLine 238 = .ok (.putfield 236, 3) := by decide +kernel
theorem dX14_groundLine_241 : decode cX14_groundLine 241 = .ok (.aload_n 0, 1) := by decide +kernel
theorem dX14_groundLine_242 : decode cX14_groundLine 242 = .ok (.dup, 1) := by decide +kernel
theorem dX14_groundLine_243 : decode cX14_groundLine 243 = .ok (.getfield 239, 3) := by decide +kernel
theorem dX14_groundLine_246 : decode cX14_groundLine 246 = .ok (.iload_n 1, 1) := by decide +kernel
theorem dX14_groundLine_247 : decode cX14_groundLine 247 = .ok (.iconst 2, 1) := by decide +kernel
theorem dX14_groundLine_248 : decode cX14_groundLine 248 = .ok (.if_icmp .ne 7, 3) := by decide +kernel
theorem dX14_groundLine_251 : decode cX14_groundLine 251 = .ok (.iconst 1, 1) := by decide +kernel
theorem dX14_groundLine_252 : decode cX14_groundLine 252 = .ok (.goto 4, 3) := by decide +kernel
theorem dX14_groundLine_255 : decode cX14_groundLine 255 = .ok (.iconst 0, 1) := by decide +kernel
theorem dX14_groundLine_256 : decode cX14_groundLine 256 = .ok (.iadd, 1) := by decide +kernel
theorem dX14_groundLine_257 : decode cX14_groundLine 257 = .ok (.putfield 239, 3) := by decide +kernel
theorem dX14_groundLine_260 : decode cX14_groundLine 260 = .ok (.iconst 1, 1) := by decide +kernel
theorem dX14_groundLine_261 : decode cX14_groundLine 261 = .ok (.ireturn, 1) := by decide +kernel
theorem dX14_isCounted_0 : decode cX14_isCounted 0 = .ok (.aload_n 0, 1) := by decide +kernel
theorem dX14_isCounted_1 : decode cX14_isCounted 1 = .ok (.getfield 242, 3) := by decide +kernel
theorem dX14_isCounted_4 : decode cX14_isCounted 4 = .ok (.bipush 64, 2) := by decide +kernel
theorem dX14_isCounted_6 : decode cX14_isCounted 6 = .ok (.if_icmp .ne 9, 3) := by decide +kernel
theorem dX14_isCounted_9 : decode cX14_isCounted 9 = .ok (.aload_n 0, 1) := by decide +kernel
theorem dX14_isCounted_10 : decode cX14_isCounted 10 = .ok (.iconst 2, 1) := by decide +kernel
theorem dX14_isCounted_11 : decode cX14_isCounted 11 = .ok (.invokevirtual 189, 3) := by decide +kernel
theorem dX14_isCounted_14 : decode cX14_isCounted 14 = .ok (.ireturn, 1) := by decide +kernel
theorem dX14_isCounted_15 : decode cX14_isCounted 15 = .ok (.aload_n 0, 1) := by decide +kernel
theorem dX14_isCounted_16 : decode cX14_isCounted 16 = .ok (.dup, 1) := by decide +kernel
theorem dX14_isCounted_17 : decode cX14_isCounted 17 = .ok (.getfield 242, 3) := by decide +kernel
theorem dX14_isCounted_20 : decode cX14_isCounted 20 = .ok (.iconst 1, 1) := by decide +kernel
theorem dX14_isCounted_21 : decode cX14_isCounted 21 = .ok (.iadd, 1) := by decide +kernel
theorem dX14_isCounted_22 : decode cX14_isCounted 22 = .ok (.putfield 242, 3) := by decide +kernel
theorem dX14_isCounted_25 : decode cX14_isCounted 25 = .ok (.iconst 1, 1) := by decide +kernel
theorem dX14_isCounted_26 : decode cX14_isCounted 26 = .ok (.ireturn, 1) := by decide +kernel
theorem dX14_isKey_0 : decode cX14_isKey 0 = .ok (.aload_n 0, 1) := by decide +kernel
theorem dX14_isKey_1 : decode cX14_isKey 1 = .ok (.getfield 166, 3) := by decide +kernel
theorem dX14_isKey_4 : decode cX14_isKey 4 = .ok (.iconst 1, 1) := by decide +kernel
theorem dX14_isKey_5 : decode cX14_isKey 5 = .ok (.if_icmp .ne 15, 3) := by decide +kernel
theorem dX14_isKey_8 : decode cX14_isKey 8 = .ok (.aload_n 0, 1) := by decide +kernel
theorem dX14_isKey_9 : decode cX14_isKey 9 = .ok (.getfield 177, 3) := by decide +kernel
theorem dX14_isKey_12 : decode cX14_isKey 12 = .ok (.iload_n 1, 1) := by decide +kernel
theorem dX14_isKey_13 : decode cX14_isKey 13 = .ok (.if_icmp .ne 7, 3) := by decide +kernel
theorem dX14_isKey_16 : decode cX14_isKey 16 = .ok (.iconst 1, 1) := by decide +kernel
theorem dX14_isKey_17 : decode cX14_isKey 17 = .ok (.goto 4, 3) := by decide +kernel
theorem dX14_isKey_20 : decode cX14_isKey 20 = .ok (.iconst 0, 1) := by decide +kernel
theorem dX14_isKey_21 : decode cX14_isKey 21 = .ok (.ireturn, 1) := by decide +kernel
