theorem dX2_walkTales_98 : decode cX2_walkTales 98 = .ok (.getfield 20, 3) := by decide +kernel
theorem dX2_walkTales_101 : decode cX2_walkTales 101 = .ok (.aload_n 0, 1) := by decide +kernel
theorem dX2_walkTales_102 : decode cX2_walkTales 102 = .ok (.getfield 30, 3) := by decide +kernel
theorem dX2_walkTales_105 : decode cX2_walkTales 105 = .ok (.invokevirtual 83, 3) := by decide +kernel
theorem dX2_walkTales_108 : decode cX2_walkTales 108 = .ok (.iinc 5 1, 3) := by decide +kernel
theorem dX2_walkTales_111 : decode cX2_walkTales 111 = .ok (.goto (-81), 3) := by decide +kernel
theorem dX2_walkTales_114 : decode cX2_walkTales 114 = .ok (.iload 4, 2) := by decide +kernel
theorem dX2_walkTales_116 : decode cX2_walkTales 116 = .ok (.ireturn, 1) := by decide +kernel
theorem dX13_likeliest_0 : decode cX13_likeliest 0 = .ok (.iload_n 1, 1) := by decide +kernel
theorem dX13_likeliest_1 : decode cX13_likeliest 1 = .ok (.ifCond .lt 8, 3) := by decide +kernel
theorem dX13_likeliest_4 : decode cX13_likeliest 4 = .ok (.iload_n 1, 1) := by decide +kernel
theorem dX13_likeliest_5 : decode cX13_likeliest 5 = .ok (.iconst 2, 1) := by decide +kernel
theorem dX13_likeliest_6 : decode cX13_likeliest 6 = .ok (.if_icmp .le 5, 3) := by decide +kernel
theorem dX13_likeliest_9 : decode cX13_likeliest 9 = .ok (.iconst (-1), 1) := by decide +kernel
theorem dX13_likeliest_10 : decode cX13_likeliest 10 = .ok (.ireturn, 1) := by decide +kernel
theorem dX13_likeliest_11 : decode cX13_likeliest 11 = .ok (.aload_n 0, 1) := by decide +kernel
theorem dX13_likeliest_12 : decode cX13_likeliest 12 = .ok (.getfield 52, 3) := by decide +kernel
theorem dX13_likeliest_15 : decode cX13_likeliest 15 = .ok (.invokevirtual 180, 3) := by decide +kernel
theorem dX13_likeliest_18 : decode cX13_likeliest 18 = .ok (.aload_n 0, 1) := by decide +kernel
theorem dX13_likeliest_19 : decode cX13_likeliest 19 = .ok (.getfield 70, 3) := by decide +kernel
theorem dX13_likeliest_22 : decode cX13_likeliest 22 = .ok (.iconst (-1), 1) := by decide +kernel
theorem dX13_likeliest_23 : decode cX13_likeliest 23 = .ok (.invokevirtual 269, 3) := by decide +kernel
theorem dX13_likeliest_26 : decode cX13_likeliest 26 = .ok (.ifCond .le 18, 3) := by decide +kernel
theorem dX13_likeliest_29 : decode cX13_likeliest 29 = .ok (.aload_n 0, 1) := by decide +kernel
theorem dX13_likeliest_30 : decode cX13_likeliest 30 = .ok (.getfield 70, 3) := by decide +kernel
theorem dX13_likeliest_33 : decode cX13_likeliest 33 = .ok (.getfield 275, 3) := by decide +kernel
theorem dX13_likeliest_36 : decode cX13_likeliest 36 = .ok (.iconst 0, 1) := by decide +kernel
theorem dX13_likeliest_37 : decode cX13_likeliest 37 = .ok (.iload_n 1, 1) := by decide +kernel
theorem dX13_likeliest_38 : decode cX13_likeliest 38 = .ok (.invokevirtual 176, 3) := by decide +kernel
theorem dX13_likeliest_41 : decode cX13_likeliest 41 = .ok (.goto 5, 3) := by decide +kernel
theorem dX13_likeliest_44 : decode cX13_likeliest 44 = .ok (.bipush (-2), 2) := by decide +kernel
theorem dX13_likeliest_46 : decode cX13_likeliest 46 = .ok (.ireturn, 1) := by decide +kernel
theorem dX2_differenceFrom_0 : decode cX2_differenceFrom 0 = .ok (.iconst 0, 1) := by decide +kernel
theorem dX2_differenceFrom_1 : decode cX2_differenceFrom 1 = .ok (.istore_n 3, 1) := by decide +kernel
theorem dX2_differenceFrom_2 : decode cX2_differenceFrom 2 = .ok (.iconst 0, 1) := by decide +kernel
theorem dX2_differenceFrom_3 : decode cX2_differenceFrom 3 = .ok (.istore 4, 2) := by decide +kernel
theorem dX2_differenceFrom_5 : decode cX2_differenceFrom 5 = .ok (.iload 4, 2) := by decide +kernel
theorem dX2_differenceFrom_7 : decode cX2_differenceFrom 7 = .ok (.aload_n 0, 1) := by decide +kernel
theorem dX2_differenceFrom_8 : decode cX2_differenceFrom 8 = .ok (.getfield 33, 3) := by decide +kernel
theorem dX2_differenceFrom_11 : decode cX2_differenceFrom 11 = .ok (.getfield 54, 3) := by decide +kernel
theorem dX2_differenceFrom_14 : decode cX2_differenceFrom 14 = .ok (.getfield 158, 3) := by decide +kernel
theorem dX2_differenceFrom_17 : decode cX2_differenceFrom 17 = .ok (.getfield 66, 3) := by decide +kernel
theorem dX2_differenceFrom_20 : decode cX2_differenceFrom 20 = .ok (.if_icmp .ge 89, 3) := by decide +kernel
theorem dX2_differenceFrom_23 : decode cX2_differenceFrom 23 = .ok (.aload_n 0, 1) := by decide +kernel
theorem dX2_differenceFrom_24 : decode cX2_differenceFrom 24 = .ok (.getfield 33, 3) := by decide +kernel
theorem dX2_differenceFrom_27 : decode cX2_differenceFrom 27 = .ok (.getfield 54, 3) := by decide +kernel
theorem dX2_differenceFrom_30 : decode cX2_differenceFrom 30 = .ok (.getfield 109, 3) := by decide +kernel
theorem dX2_differenceFrom_33 : decode cX2_differenceFrom 33 = .ok (.iload 4, 2) := by decide +kernel
theorem dX2_differenceFrom_35 : decode cX2_differenceFrom 35 = .ok (.invokevirtual 79, 3) := by decide +kernel
theorem dX2_differenceFrom_38 : decode cX2_differenceFrom 38 = .ok (.istore 5, 2) := by decide +kernel
theorem dX2_differenceFrom_40 : decode cX2_differenceFrom 40 = .ok (.iconst 0, 1) := by decide +kernel
theorem dX2_differenceFrom_41 : decode cX2_differenceFrom 41 = .ok (.istore 6, 2) := by decide +kernel
theorem dX2_differenceFrom_43 : decode cX2_differenceFrom 43 = .ok (.iload 6, 2) := by decide +kernel
theorem dX2_differenceFrom_45 : decode cX2_differenceFrom 45 = .ok (.bipush 31, 2) := by decide +kernel
theorem dX2_differenceFrom_47 : decode cX2_differenceFrom 47 = .ok (.if_icmp .ge 56, 3) := by decide +kernel
theorem dX2_differenceFrom_50 : decode cX2_differenceFrom 50 = .ok (.aload_n 0, 1) := by decide +kernel
theorem dX2_differenceFrom_51 : decode cX2_differenceFrom 51 = .ok (.getfield 37, 3) := by decide +kernel
theorem dX2_differenceFrom_54 : decode cX2_differenceFrom 54 = .ok (.iload_n 1, 1) := by decide +kernel
theorem dX2_differenceFrom_55 : decode cX2_differenceFrom 55 = .ok (.iload_n 2, 1) := by decide +kernel
theorem dX2_differenceFrom_56 : decode cX2_differenceFrom 56 = .ok (.iload 5, 2) := by decide +kernel
theorem dX2_differenceFrom_58 : decode cX2_differenceFrom 58 = .ok (.iload 6, 2) := by decide +kernel
theorem dX2_differenceFrom_60 : decode cX2_differenceFrom 60 = .ok (.aload_n 0, 1) := by decide +kernel
theorem dX2_differenceFrom_61 : decode cX2_differenceFrom 61 = .ok (.getfield 33, 3) := by decide +kernel
theorem dX2_differenceFrom_64 : decode cX2_differenceFrom 64 = .ok (.getfield 54, 3) := by decide +kernel
theorem dX2_differenceFrom_67 : decode cX2_differenceFrom 67 = .ok (.getfield 118, 3) := by decide +kernel
theorem dX2_differenceFrom_70 : decode cX2_differenceFrom 70 = .ok (.invokevirtual 121, 3) := by decide +kernel
theorem dX2_differenceFrom_73 : decode cX2_differenceFrom 73 = .ok (.istore 7, 2) := by decide +kernel
theorem dX2_differenceFrom_75 : decode cX2_differenceFrom 75 = .ok (.iload_n 3, 1) := by decide +kernel
theorem dX2_differenceFrom_76 : decode cX2_differenceFrom 76 = .ok (.iload 7, 2) := by decide +kernel
theorem dX2_differenceFrom_78 : decode cX2_differenceFrom 78 = .ok (.aload_n 0, 1) := by decide +kernel
theorem dX2_differenceFrom_79 : decode cX2_differenceFrom 79 = .ok (.getfield 23, 3) := by decide +kernel
theorem dX2_differenceFrom_82 : decode cX2_differenceFrom 82 = .ok (.iload 4, 2) := by decide +kernel
theorem dX2_differenceFrom_84 : decode cX2_differenceFrom 84 = .ok (.bipush 31, 2) := by decide +kernel
theorem dX2_differenceFrom_86 : decode cX2_differenceFrom 86 = .ok (.imul, 1) := by decide +kernel
theorem dX2_differenceFrom_87 : decode cX2_differenceFrom 87 = .ok (.iload 6, 2) := by decide +kernel
theorem dX2_differenceFrom_89 : decode cX2_differenceFrom 89 = .ok (.iadd, 1) := by decide +kernel
theorem dX2_differenceFrom_90 : decode cX2_differenceFrom 90 = .ok (.iaload, 1) := by decide +kernel
theorem dX2_differenceFrom_91 : decode cX2_differenceFrom 91 = .ok (.isub, 1) := by decide +kernel
theorem dX2_differenceFrom_92 : decode cX2_differenceFrom 92 = .ok (.invokestatic 193, 3) := by decide +kernel
theorem dX2_differenceFrom_95 : decode cX2_differenceFrom 95 = .ok (.iadd, 1) := by decide +kernel
theorem dX2_differenceFrom_96 : decode cX2_differenceFrom 96 = .ok (.istore_n 3, 1) := by decide +kernel
theorem dX2_differenceFrom_97 : decode cX2_differenceFrom 97 = .ok (.iinc 6 1, 3) := by decide +kernel
theorem dX2_differenceFrom_100 : decode cX2_differenceFrom 100 = .ok (.goto (-57), 3) := by decide +kernel
theorem dX2_differenceFrom_103 : decode cX2_differenceFrom 103 = .ok (.iinc 4 1, 3) := by decide +kernel
theorem dX2_differenceFrom_106 : decode cX2_differenceFrom 106 = .ok (.goto (-101), 3) := by decide +kernel
theorem dX2_differenceFrom_109 : decode cX2_differenceFrom 109 = .ok (.iload_n 3, 1) := by decide +kernel
theorem dX2_differenceFrom_110 : decode cX2_differenceFrom 110 = .ok (.ireturn, 1) := by decide +kernel
theorem dX2_seekNearest_0 : decode cX2_seekNearest 0 = .ok (.aload_n 0, 1) := by decide +kernel
theorem dX2_seekNearest_1 : decode cX2_seekNearest 1 = .ok (.getfield 33, 3) := by decide +kernel
theorem dX2_seekNearest_4 : decode cX2_seekNearest 4 = .ok (.getfield 54, 3) := by decide +kernel
theorem dX2_seekNearest_7 : decode cX2_seekNearest 7 = .ok (.getfield 158, 3) := by decide +kernel
theorem dX2_seekNearest_10 : decode cX2_seekNearest 10 = .ok (.getfield 66, 3) := by decide +kernel
theorem dX2_seekNearest_13 : decode cX2_seekNearest 13 = .ok (.istore 4, 2) := by decide +kernel
theorem dX2_seekNearest_15 : decode cX2_seekNearest 15 = .ok (.iconst 0, 1) := by decide +kernel
theorem dX2_seekNearest_16 : decode cX2_seekNearest 16 = .ok (.istore 5, 2) := by decide +kernel
theorem dX2_seekNearest_18 : decode cX2_seekNearest 18 = .ok (.iload 5, 2) := by decide +kernel
theorem dX2_seekNearest_20 : decode cX2_seekNearest 20 = .ok (.iload 4, 2) := by decide +kernel
theorem dX2_seekNearest_22 : decode cX2_seekNearest 22 = .ok (.if_icmp .ge 32, 3) := by decide +kernel
theorem dX2_seekNearest_25 : decode cX2_seekNearest 25 = .ok (.aload_n 0, 1) := by decide +kernel
theorem dX2_seekNearest_26 : decode cX2_seekNearest 26 = .ok (.iload 5, 2) := by decide +kernel
theorem dX2_seekNearest_28 : decode cX2_seekNearest 28 = .ok (.iload_n 2, 1) := by decide +kernel
theorem dX2_seekNearest_29 : decode cX2_seekNearest 29 = .ok (.iload_n 3, 1) := by decide +kernel
theorem dX2_seekNearest_30 : decode cX2_seekNearest 30 = .ok (.aload_n 0, 1) := by decide +kernel
theorem dX2_seekNearest_31 : decode cX2_seekNearest 31 = .ok (.getfield 33, 3) := by decide +kernel
theorem dX2_seekNearest_34 : decode cX2_seekNearest 34 = .ok (.getfield 54, 3) := by decide +kernel
theorem dX2_seekNearest_37 : decode cX2_seekNearest 37 = .ok (.getfield 109, 3) := by decide +kernel
theorem dX2_seekNearest_40 : decode cX2_seekNearest 40 = .ok (.iload 5, 2) := by decide +kernel
theorem dX2_seekNearest_42 : decode cX2_seekNearest 42 = .ok (.invokevirtual 79, 3) := by decide +kernel
theorem dX2_seekNearest_45 : decode cX2_seekNearest 45 = .ok (.invokevirtual 176, 3) := by decide +kernel
theorem dX2_seekNearest_48 : decode cX2_seekNearest 48 = .ok (.iinc 5 1, 3) := by decide +kernel
theorem dX2_seekNearest_51 : decode cX2_seekNearest 51 = .ok (.goto (-33), 3) := by decide +kernel
theorem dX2_seekNearest_54 : decode cX2_seekNearest 54 = .ok (.aload_n 0, 1) := by decide +kernel
theorem dX2_seekNearest_55 : decode cX2_seekNearest 55 = .ok (.iconst (-1), 1) := by decide +kernel
theorem dX2_seekNearest_56 : decode cX2_seekNearest 56 = .ok (.putfield 184, 3) := by decide +kernel
theorem dX2_seekNearest_59 : decode cX2_seekNearest 59 = .ok (.aload_n 0, 1) := by decide +kernel
theorem dX2_seekNearest_60 : decode cX2_seekNearest 60 = .ok (.iconst (-1), 1) := by decide +kernel
theorem dX2_seekNearest_61 : decode cX2_seekNearest 61 = .ok (.putfield 187, 3) := by decide +kernel
theorem dX2_seekNearest_64 : decode cX2_seekNearest 64 = .ok (.iconst 0, 1) := by decide +kernel
theorem dX2_seekNearest_65 : decode cX2_seekNearest 65 = .ok (.istore 5, 2) := by decide +kernel
theorem dX2_seekNearest_67 : decode cX2_seekNearest 67 = .ok (.iload 5, 2) := by decide +kernel
theorem dX2_seekNearest_69 : decode cX2_seekNearest 69 = .ok (.aload_n 0, 1) := by decide +kernel
theorem dX2_seekNearest_70 : decode cX2_seekNearest 70 = .ok (.getfield 33, 3) := by decide +kernel
theorem dX2_seekNearest_73 : decode cX2_seekNearest 73 = .ok (.getfield 54, 3) := by decide +kernel
theorem dX2_seekNearest_76 : decode cX2_seekNearest 76 = .ok (.invokevirtual 87, 3) := by decide +kernel
theorem dX2_seekNearest_79 : decode cX2_seekNearest 79 = .ok (.if_icmp .ge 92, 3) := by decide +kernel
theorem dX2_seekNearest_82 : decode cX2_seekNearest 82 = .ok (.aload_n 0, 1) := by decide +kernel
theorem dX2_seekNearest_83 : decode cX2_seekNearest 83 = .ok (.getfield 33, 3) := by decide +kernel
theorem dX2_seekNearest_86 : decode cX2_seekNearest 86 = .ok (.getfield 54, 3) := by decide +kernel
theorem dX2_seekNearest_89 : decode cX2_seekNearest 89 = .ok (.iload 5, 2) := by decide +kernel
theorem dX2_seekNearest_91 : decode cX2_seekNearest 91 = .ok (.invokevirtual 91, 3) := by decide +kernel
theorem dX2_seekNearest_94 : decode cX2_seekNearest 94 = .ok (.ifCond .eq 71, 3) := by decide +kernel
theorem dX2_seekNearest_97 : decode cX2_seekNearest 97 = .ok (.aload_n 0, 1) := by decide +kernel
theorem dX2_seekNearest_98 : decode cX2_seekNearest 98 = .ok (.iload_n 1, 1) := by decide +kernel
theorem dX2_seekNearest_99 : decode cX2_seekNearest 99 = .ok (.iload 5, 2) := by decide +kernel
theorem dX2_seekNearest_101 : decode cX2_seekNearest 101 = .ok (.invokevirtual 190, 3) := by decide +kernel
theorem dX2_seekNearest_104 : decode cX2_seekNearest 104 = .ok (.istore 6, 2) := by decide +kernel
theorem dX2_seekNearest_106 : decode cX2_seekNearest 106 = .ok (.aload_n 0, 1) := by decide +kernel
theorem dX2_seekNearest_107 : decode cX2_seekNearest 107 = .ok (.getfield 184, 3) := by decide +kernel
theorem dX2_seekNearest_110 : decode cX2_seekNearest 110 = .ok (.ifCond .lt 12, 3) := by decide +kernel
theorem dX2_seekNearest_113 : decode cX2_seekNearest 113 = .ok (.iload 6, 2) := by decide +kernel
theorem dX2_seekNearest_115 : decode cX2_seekNearest 115 = .ok (.aload_n 0, 1) := by decide +kernel
theorem dX2_seekNearest_116 : decode cX2_seekNearest 116 = .ok (.getfield 187, 3) := by decide +kernel
theorem dX2_seekNearest_119 : decode cX2_seekNearest 119 = .ok (.if_icmp .ge 7, 3) := by decide +kernel
theorem dX2_seekNearest_122 : decode cX2_seekNearest 122 = .ok (.iconst 1, 1) := by decide +kernel
theorem dX2_seekNearest_123 : decode cX2_seekNearest 123 = .ok (.goto 4, 3) := by decide +kernel
theorem dX2_seekNearest_126 : decode cX2_seekNearest 126 = .ok (.iconst 0, 1) := by decide +kernel
theorem dX2_seekNearest_127 : decode cX2_seekNearest 127 = .ok (.istore 7, 2) := by decide +kernel
theorem dX2_seekNearest_129 : decode cX2_seekNearest 129 = .ok (.aload_n 0, 1) := by decide +kernel
theorem dX2_seekNearest_130 : decode cX2_seekNearest 130 = .ok (.iload 7, 2) := by decide +kernel
theorem dX2_seekNearest_132 : decode cX2_seekNearest 132 = .ok (.ifCond .eq 8, 3) := by decide +kernel
theorem dX2_seekNearest_135 : decode cX2_seekNearest 135 = .ok (.iload 5, 2) := by decide +kernel
theorem dX2_seekNearest_137 : decode cX2_seekNearest 137 = .ok (.goto 7, 3) := by decide +kernel
theorem dX2_seekNearest_140 : decode cX2_seekNearest 140 = .ok (.aload_n 0, 1) := by decide +kernel
theorem dX2_seekNearest_141 : decode cX2_seekNearest 141 = .ok (.getfield 184, 3) := by decide +kernel
theorem dX2_seekNearest_144 : decode cX2_seekNearest 144 = .ok (.putfield 184, 3) := by decide +kernel
theorem dX2_seekNearest_147 : decode cX2_seekNearest 147 = .ok (.aload_n 0, 1) := by decide +kernel
theorem dX2_seekNearest_148 : decode cX2_seekNearest 148 = .ok (.iload 7, 2) := by decide +kernel
theorem dX2_seekNearest_150 : decode cX2_seekNearest 150 = .ok (.ifCond .eq 8, 3) := by decide +kernel
theorem dX2_seekNearest_153 : decode cX2_seekNearest 153 = .ok (.iload 6, 2) := by decide +kernel
theorem dX2_seekNearest_155 : decode cX2_seekNearest 155 = .ok (.goto 7, 3) := by decide +kernel
theorem dX2_seekNearest_158 : decode cX2_seekNearest 158 = .ok (.aload_n 0, 1) := by decide +kernel
theorem dX2_seekNearest_159 : decode cX2_seekNearest 159 = .ok (.getfield 187, 3) := by decide +kernel
theorem dX2_seekNearest_162 : decode cX2_seekNearest 162 = .ok (.putfield 187, 3) := by decide +kernel
theorem dX2_seekNearest_165 : decode cX2_seekNearest 165 = .ok (.iinc 5 1, 3) := by decide +kernel
theorem dX2_seekNearest_168 : decode cX2_seekNearest 168 = .ok (.goto (-101), 3) := by decide +kernel
theorem dX2_seekNearest_171 : decode cX2_seekNearest 171 = .ok (.return_, 1) := by decide +kernel
theorem dX13_looks_0 : decode cX13_looks 0 = .ok (.aload_n 0, 1) := by decide +kernel
theorem dX13_looks_1 : decode cX13_looks 1 = .ok (.getfield 36, 3) := by decide +kernel
theorem dX13_looks_4 : decode cX13_looks 4 = .ok (.getfield 86, 3) := by decide +kernel
theorem dX13_looks_7 : decode cX13_looks 7 = .ok (.astore 5, 2) := by decide +kernel
theorem dX13_looks_9 : decode cX13_looks 9 = .ok (.aload 5, 2) := by decide +kernel
theorem dX13_looks_11 : decode cX13_looks 11 = .ok (.getfield 104, 3) := by decide +kernel
theorem dX13_looks_14 : decode cX13_looks 14 = .ok (.iload_n 1, 1) := by decide +kernel
theorem dX13_looks_15 : decode cX13_looks 15 = .ok (.invokevirtual 123, 3) := by decide +kernel
theorem dX13_looks_18 : decode cX13_looks 18 = .ok (.ifCond .eq 28, 3) := by decide +kernel
theorem dX13_looks_21 : decode cX13_looks 21 = .ok (.aload 5, 2) := by decide +kernel
theorem dX13_looks_23 : decode cX13_looks 23 = .ok (.getfield 104, 3) := by decide +kernel
theorem dX13_looks_26 : decode cX13_looks 26 = .ok (.iload_n 2, 1) := by decide +kernel
theorem dX13_looks_27 : decode cX13_looks 27 = .ok (.invokevirtual 123, 3) := by decide +kernel
theorem dX13_looks_30 : decode cX13_looks 30 = .ok (.ifCond .eq 16, 3) := by decide +kernel
theorem dX13_looks_33 : decode cX13_looks 33 = .ok (.aload 5, 2) := by decide +kernel
theorem dX13_looks_35 : decode cX13_looks 35 = .ok (.iload_n 3, 1) := by decide +kernel
theorem dX13_looks_36 : decode cX13_looks 36 = .ok (.invokevirtual 155, 3) := by decide +kernel
theorem dX13_looks_39 : decode cX13_looks 39 = .ok (.ifCond .eq 7, 3) := by decide +kernel
theorem dX13_looks_42 : decode cX13_looks 42 = .ok (.iconst 1, 1) := by decide +kernel
theorem dX13_looks_43 : decode cX13_looks 43 = .ok (.goto 4, 3) := by decide +kernel
theorem dX13_looks_46 : decode cX13_looks 46 = .ok (.iconst 0, 1) := by decide +kernel
theorem dX13_looks_47 : decode cX13_looks 47 = .ok (.istore 6, 2) := by decide +kernel
theorem dX13_looks_49 : decode cX13_looks 49 = .ok (.iload 6, 2) := by decide +kernel
theorem dX13_looks_51 : decode cX13_looks 51 = .ok (.ifCond .eq 14, 3) := by decide +kernel
theorem dX13_looks_54 : decode cX13_looks 54 = .ok (.iload 4, 2) := by decide +kernel
theorem dX13_looks_56 : decode cX13_looks 56 = .ok (.ifCond .lt 9, 3) := by decide +kernel
theorem dX13_looks_59 : decode cX13_looks 59 = .ok (.iload 4, 2) := by decide +kernel
theorem dX13_looks_61 : decode cX13_looks 61 = .ok (.iconst 1, 1) := by decide +kernel
theorem dX13_looks_62 : decode cX13_looks 62 = .ok (.if_icmp .le 5, 3) := by decide +kernel
theorem dX13_looks_65 : decode cX13_looks 65 = .ok (.iconst (-1), 1) := by decide +kernel
theorem dX13_looks_66 : decode cX13_looks 66 = .ok (.ireturn, 1) := by decide +kernel
theorem dX13_looks_67 : decode cX13_looks 67 = .ok (.aload_n 0, 1) := by decide +kernel
theorem dX13_looks_68 : decode cX13_looks 68 = .ok (.getfield 52, 3) := by decide +kernel
theorem dX13_looks_71 : decode cX13_looks 71 = .ok (.invokevirtual 180, 3) := by decide +kernel
theorem dX13_looks_74 : decode cX13_looks 74 = .ok (.aload_n 0, 1) := by decide +kernel
theorem dX13_looks_75 : decode cX13_looks 75 = .ok (.getfield 70, 3) := by decide +kernel
theorem dX13_looks_78 : decode cX13_looks 78 = .ok (.iload_n 1, 1) := by decide +kernel
theorem dX13_looks_79 : decode cX13_looks 79 = .ok (.iload_n 2, 1) := by decide +kernel
theorem dX13_looks_80 : decode cX13_looks 80 = .ok (.iload_n 3, 1) := by decide +kernel
theorem dX13_looks_81 : decode cX13_looks 81 = .ok (.invokevirtual 285, 3) := by decide +kernel
theorem dX13_looks_84 : decode cX13_looks 84 = .ok (.iload 4, 2) := by decide +kernel
theorem dX13_looks_86 : decode cX13_looks 86 = .ok (.ifCond .ne 13, 3) := by decide +kernel
theorem dX13_looks_89 : decode cX13_looks 89 = .ok (.aload_n 0, 1) := by decide +kernel
theorem dX13_looks_90 : decode cX13_looks 90 = .ok (.getfield 70, 3) := by decide +kernel
theorem dX13_looks_93 : decode cX13_looks 93 = .ok (.getfield 289, 3) := by decide +kernel
theorem dX13_looks_96 : decode cX13_looks 96 = .ok (.goto 10, 3) := by decide +kernel
theorem dX13_looks_99 : decode cX13_looks 99 = .ok (.aload_n 0, 1) := by decide +kernel
theorem dX13_looks_100 : decode cX13_looks 100 = .ok (.getfield 70, 3) := by decide +kernel
theorem dX13_looks_103 : decode cX13_looks 103 = .ok (.getfield 292, 3) := by decide +kernel
theorem dX13_looks_106 : decode cX13_looks 106 = .ok (.ireturn, 1) := by decide +kernel
theorem dX6_peakStep_0 : decode cX6_peakStep 0 = .ok (.iconst 0, 1) := by decide +kernel
theorem dX6_peakStep_1 : decode cX6_peakStep 1 = .ok (.istore_n 3, 1) := by decide +kernel
theorem dX6_peakStep_2 : decode cX6_peakStep 2 = .ok (.iconst 1, 1) := by decide +kernel
theorem dX6_peakStep_3 : decode cX6_peakStep 3 = .ok (.istore 4, 2) := by decide +kernel
theorem dX6_peakStep_5 : decode cX6_peakStep 5 = .ok (.iload 4, 2) := by decide +kernel
theorem dX6_peakStep_7 : decode cX6_peakStep 7 = .ok (.sipush 200, 3) := by decide +kernel
theorem dX6_peakStep_10 : decode cX6_peakStep 10 = .ok (.if_icmp .ge 32, 3) := by decide +kernel
theorem dX6_peakStep_13 : decode cX6_peakStep 13 = .ok (.iload_n 2, 1) := by decide +kernel
theorem dX6_peakStep_14 : decode cX6_peakStep 14 = .ok (.aload_n 0, 1) := by decide +kernel
theorem dX6_peakStep_15 : decode cX6_peakStep 15 = .ok (.iload_n 1, 1) := by decide +kernel
theorem dX6_peakStep_16 : decode cX6_peakStep 16 = .ok (.iload 4, 2) := by decide +kernel
theorem dX6_peakStep_18 : decode cX6_peakStep 18 = .ok (.invokevirtual 169, 3) := by decide +kernel
theorem dX6_peakStep_21 : decode cX6_peakStep 21 = .ok (.imul, 1) := by decide +kernel
theorem dX6_peakStep_22 : decode cX6_peakStep 22 = .ok (.iload_n 2, 1) := by decide +kernel
theorem dX6_peakStep_23 : decode cX6_peakStep 23 = .ok (.aload_n 0, 1) := by decide +kernel
theorem dX6_peakStep_24 : decode cX6_peakStep 24 = .ok (.iload_n 1, 1) := by decide +kernel
theorem dX6_peakStep_25 : decode cX6_peakStep 25 = .ok (.iload_n 3, 1) := by decide +kernel
theorem dX6_peakStep_26 : decode cX6_peakStep 26 = .ok (.invokevirtual 169, 3) := by decide +kernel
theorem dX6_peakStep_29 : decode cX6_peakStep 29 = .ok (.imul, 1) := by decide +kernel
theorem dX6_peakStep_30 : decode cX6_peakStep 30 = .ok (.if_icmp .le 6, 3) := by decide +kernel
theorem dX6_peakStep_33 : decode cX6_peakStep 33 = .ok (.iload 4, 2) := by decide +kernel
theorem dX6_peakStep_35 : decode cX6_peakStep 35 = .ok (.istore_n 3, 1) := by decide +kernel
theorem dX6_peakStep_36 : decode cX6_peakStep 36 = .ok (.iinc 4 1, 3) := by decide +kernel
theorem dX6_peakStep_39 : decode cX6_peakStep 39 = .ok (.goto (-34), 3) := by decide +kernel
theorem dX6_peakStep_42 : decode cX6_peakStep 42 = .ok (.iload_n 3, 1) := by decide +kernel
theorem dX6_peakStep_43 : decode cX6_peakStep 43 = .ok (.ireturn, 1) := by decide +kernel
theorem dX13_most_0 : decode cX13_most 0 = .ok (.aload_n 0, 1) := by decide +kernel
theorem dX13_most_1 : decode cX13_most 1 = .ok (.getfield 36, 3) := by decide +kernel
theorem dX13_most_4 : decode cX13_most 4 = .ok (.getfield 86, 3) := by decide +kernel
theorem dX13_most_7 : decode cX13_most 7 = .ok (.iload_n 1, 1) := by decide +kernel
theorem dX13_most_8 : decode cX13_most 8 = .ok (.invokevirtual 155, 3) := by decide +kernel
theorem dX13_most_11 : decode cX13_most 11 = .ok (.ifCond .eq 12, 3) := by decide +kernel
theorem dX13_most_14 : decode cX13_most 14 = .ok (.iload_n 2, 1) := by decide +kernel
theorem dX13_most_15 : decode cX13_most 15 = .ok (.ifCond .lt 8, 3) := by decide +kernel
theorem dX13_most_18 : decode cX13_most 18 = .ok (.iload_n 2, 1) := by decide +kernel
theorem dX13_most_19 : decode cX13_most 19 = .ok (.iconst 3, 1) := by decide +kernel
theorem dX13_most_20 : decode cX13_most 20 = .ok (.if_icmp .le 6, 3) := by decide +kernel
theorem dX13_most_23 : decode cX13_most 23 = .ok (.ldc 195, 2) := by decide +kernel
theorem dX13_most_25 : decode cX13_most 25 = .ok (.ireturn, 1) := by decide +kernel
theorem dX13_most_26 : decode cX13_most 26 = .ok (.aload_n 0, 1) := by decide +kernel
theorem dX13_most_27 : decode cX13_most 27 = .ok (.getfield 52, 3) := by decide +kernel
theorem dX13_most_30 : decode cX13_most 30 = .ok (.invokevirtual 196, 3) := by decide +kernel
theorem dX13_most_33 : decode cX13_most 33 = .ok (.iload_n 2, 1) := by decide +kernel
theorem dX13_most_34 : decode cX13_most 34 = .ok (.iconst 2, 1) := by decide +kernel
theorem dX13_most_35 : decode cX13_most 35 = .ok (.if_icmp .ge 7, 3) := by decide +kernel
theorem dX13_most_38 : decode cX13_most 38 = .ok (.iconst 1, 1) := by decide +kernel
theorem dX13_most_39 : decode cX13_most 39 = .ok (.goto 4, 3) := by decide +kernel
theorem dX13_most_42 : decode cX13_most 42 = .ok (.iconst (-1), 1) := by decide +kernel
theorem dX13_most_43 : decode cX13_most 43 = .ok (.istore_n 3, 1) := by decide +kernel
theorem dX13_most_44 : decode cX13_most 44 = .ok (.aload_n 0, 1) := by decide +kernel
theorem dX13_most_45 : decode cX13_most 45 = .ok (.getfield 52, 3) := by decide +kernel
theorem dX13_most_48 : decode cX13_most 48 = .ok (.iload_n 1, 1) := by decide +kernel
theorem dX13_most_49 : decode cX13_most 49 = .ok (.iload_n 3, 1) := by decide +kernel
theorem dX13_most_50 : decode cX13_most 50 = .ok (.invokevirtual 205, 3) := by decide +kernel
theorem dX13_most_53 : decode cX13_most 53 = .ok (.istore 4, 2) := by decide +kernel
theorem dX13_most_55 : decode cX13_most 55 = .ok (.iload_n 2, 1) := by decide +kernel
theorem dX13_most_56 : decode cX13_most 56 = .ok (.ifCond .eq 8, 3) := by decide +kernel
theorem dX13_most_59 : decode cX13_most 59 = .ok (.iload_n 2, 1) := by decide +kernel
theorem dX13_most_60 : decode cX13_most 60 = .ok (.iconst 2, 1) := by decide +kernel
theorem dX13_most_61 : decode cX13_most 61 = .ok (.if_icmp .ne 16, 3) := by decide +kernel
theorem dX13_most_64 : decode cX13_most 64 = .ok (.aload_n 0, 1) := by decide +kernel
theorem dX13_most_65 : decode cX13_most 65 = .ok (.getfield 52, 3) := by decide +kernel
theorem dX13_most_68 : decode cX13_most 68 = .ok (.iload_n 1, 1) := by decide +kernel
theorem dX13_most_69 : decode cX13_most 69 = .ok (.iload 4, 2) := by decide +kernel
theorem dX13_most_71 : decode cX13_most 71 = .ok (.invokevirtual 199, 3) := by decide +kernel
theorem dX13_most_74 : decode cX13_most 74 = .ok (.goto 5, 3) := by decide +kernel
theorem dX13_most_77 : decode cX13_most 77 = .ok (.iload 4, 2) := by decide +kernel
theorem dX13_most_79 : decode cX13_most 79 = .ok (.ireturn, 1) := by decide +kernel
theorem dX13_named_0 : decode cX13_named 0 = .ok (.aload_n 0, 1) := by decide +kernel
theorem dX13_named_1 : decode cX13_named 1 = .ok (.getfield 36, 3) := by decide +kernel
theorem dX13_named_4 : decode cX13_named 4 = .ok (.getfield 86, 3) := by decide +kernel
theorem dX13_named_7 : decode cX13_named 7 = .ok (.astore_n 3, 1) := by decide +kernel
theorem dX13_named_8 : decode cX13_named 8 = .ok (.iload_n 1, 1) := by decide +kernel
theorem dX13_named_9 : decode cX13_named 9 = .ok (.tableswitch 67 0 3 #[31, 40, 49, 58], 31) := by decide +kernel
theorem dX13_named_40 : decode cX13_named 40 = .ok (.aload_n 3, 1) := by decide +kernel
theorem dX13_named_41 : decode cX13_named 41 = .ok (.getfield 104, 3) := by decide +kernel
theorem dX13_named_44 : decode cX13_named 44 = .ok (.iload_n 2, 1) := by decide +kernel
theorem dX13_named_45 : decode cX13_named 45 = .ok (.invokevirtual 108, 3) := by decide +kernel
theorem dX13_named_48 : decode cX13_named 48 = .ok (.ireturn, 1) := by decide +kernel
theorem dX13_named_49 : decode cX13_named 49 = .ok (.aload_n 3, 1) := by decide +kernel
theorem dX13_named_50 : decode cX13_named 50 = .ok (.getfield 114, 3) := by decide +kernel
theorem dX13_named_53 : decode cX13_named 53 = .ok (.iload_n 2, 1) := by decide +kernel
theorem dX13_named_54 : decode cX13_named 54 = .ok (.invokevirtual 108, 3) := by decide +kernel
theorem dX13_named_57 : decode cX13_named 57 = .ok (.ireturn, 1) := by decide +kernel
theorem dX13_named_58 : decode cX13_named 58 = .ok (.aload_n 3, 1) := by decide +kernel
theorem dX13_named_59 : decode cX13_named 59 = .ok (.getfield 117, 3) := by decide +kernel
theorem dX13_named_62 : decode cX13_named 62 = .ok (.iload_n 2, 1) := by decide +kernel
theorem dX13_named_63 : decode cX13_named 63 = .ok (.invokevirtual 108, 3) := by decide +kernel
theorem dX13_named_66 : decode cX13_named 66 = .ok (.ireturn, 1) := by decide +kernel
theorem dX13_named_67 : decode cX13_named 67 = .ok (.aload_n 3, 1) := by decide +kernel
theorem dX13_named_68 : decode cX13_named 68 = .ok (.getfield 120, 3) := by decide +kernel
theorem dX13_named_71 : decode cX13_named 71 = .ok (.iload_n 2, 1) := by decide +kernel
theorem dX13_named_72 : decode cX13_named 72 = .ok (.invokevirtual 108, 3) := by decide +kernel
theorem dX13_named_75 : decode cX13_named 75 = .ok (.ireturn, 1) := by decide +kernel
theorem dX13_named_76 : decode cX13_named 76 = .ok (.iconst (-1), 1) := by decide +kernel
theorem dX13_named_77 : decode cX13_named 77 = .ok (.ireturn, 1) := by decide +kernel
theorem dX4_addSight_0 : decode cX4_addSight 0 = .ok (.aload_n 0, 1) := by decide +kernel
theorem dX4_addSight_1 : decode cX4_addSight 1 = .ok (.getfield 41, 3) := by decide +kernel
theorem dX4_addSight_4 : decode cX4_addSight 4 = .ok (.ifCond .lt 12, 3) := by decide +kernel
theorem dX4_addSight_7 : decode cX4_addSight 7 = .ok (.aload_n 0, 1) := by decide +kernel
theorem dX4_addSight_8 : decode cX4_addSight 8 = .ok (.getfield 41, 3) := by decide +kernel
theorem dX4_addSight_11 : decode cX4_addSight 11 = .ok (.bipush 32, 2) := by decide +kernel
theorem dX4_addSight_13 : decode cX4_addSight 13 = .ok (.if_icmp .lt 5, 3) := by decide +kernel
theorem dX4_addSight_16 : decode cX4_addSight 16 = .ok (.iconst (-1), 1) := by decide +kernel
theorem dX4_addSight_17 : decode cX4_addSight 17 = .ok (.ireturn, 1) := by decide +kernel
theorem dX4_addSight_18 : decode cX4_addSight 18 = .ok (.aload_n 0, 1) := by decide +kernel
theorem dX4_addSight_19 : decode cX4_addSight 19 = .ok (.getfield 9, 3) := by decide +kernel
theorem dX4_addSight_22 : decode cX4_addSight 22 = .ok (.aload_n 0, 1) := by decide +kernel
theorem dX4_addSight_23 : decode cX4_addSight 23 = .ok (.getfield 41, 3) := by decide +kernel
theorem dX4_addSight_26 : decode cX4_addSight 26 = .ok (.iload_n 1, 1) := by decide +kernel
theorem dX4_addSight_27 : decode cX4_addSight 27 = .ok (.iastore, 1) := by decide +kernel
theorem dX4_addSight_28 : decode cX4_addSight 28 = .ok (.aload_n 0, 1) := by decide +kernel
theorem dX4_addSight_29 : decode cX4_addSight 29 = .ok (.getfield 15, 3) := by decide +kernel
theorem dX4_addSight_32 : decode cX4_addSight 32 = .ok (.aload_n 0, 1) := by decide +kernel
theorem dX4_addSight_33 : decode cX4_addSight 33 = .ok (.getfield 41, 3) := by decide +kernel
theorem dX4_addSight_36 : decode cX4_addSight 36 = .ok (.iload_n 2, 1) := by decide +kernel
theorem dX4_addSight_37 : decode cX4_addSight 37 = .ok (.iastore, 1) := by decide +kernel
theorem dX4_addSight_38 : decode cX4_addSight 38 = .ok (.aload_n 0, 1) := by decide +kernel
theorem dX4_addSight_39 : decode cX4_addSight 39 = .ok (.getfield 18, 3) := by decide +kernel
theorem dX4_addSight_42 : decode cX4_addSight 42 = .ok (.aload_n 0, 1) := by decide +kernel
theorem dX4_addSight_43 : decode cX4_addSight 43 = .ok (.getfield 41, 3) := by decide +kernel
theorem dX4_addSight_46 : decode cX4_addSight 46 = .ok (.iload_n 3, 1) := by decide +kernel
theorem dX4_addSight_47 : decode cX4_addSight 47 = .ok (.iastore, 1) := by decide +kernel
theorem dX4_addSight_48 : decode cX4_addSight 48 = .ok (.aload_n 0, 1) := by decide +kernel
theorem dX4_addSight_49 : decode cX4_addSight 49 = .ok (.getfield 21, 3) := by decide +kernel
theorem dX4_addSight_52 : decode cX4_addSight 52 = .ok (.aload_n 0, 1) := by decide +kernel
theorem dX4_addSight_53 : decode cX4_addSight 53 = .ok (.getfield 41, 3) := by decide +kernel
theorem dX4_addSight_56 : decode cX4_addSight 56 = .ok (.iconst (-1), 1) := by decide +kernel
theorem dX4_addSight_57 : decode cX4_addSight 57 = .ok (.iastore, 1) := by decide +kernel
theorem dX4_addSight_58 : decode cX4_addSight 58 = .ok (.aload_n 0, 1) := by decide +kernel
theorem dX4_addSight_59 : decode cX4_addSight 59 = .ok (.dup, 1) := by decide +kernel
theorem dX4_addSight_60 : decode cX4_addSight 60 = .ok (.getfield 41, 3) := by decide +kernel
theorem dX4_addSight_63 : decode cX4_addSight 63 = .ok (.iconst 1, 1) := by decide +kernel
theorem dX4_addSight_64 : decode cX4_addSight 64 = .ok (.iadd, 1) := by decide +kernel
theorem dX4_addSight_65 : decode cX4_addSight 65 = .ok (.putfield 41, 3) := by decide +kernel
theorem dX4_addSight_68 : decode cX4_addSight 68 = .ok (.aload_n 0, 1) := by decide +kernel
theorem dX4_addSight_69 : decode cX4_addSight 69 = .ok (.getfield 41, 3) := by decide +kernel
theorem dX4_addSight_72 : decode cX4_addSight 72 = .ok (.iconst 1, 1) := by decide +kernel
theorem dX4_addSight_73 : decode cX4_addSight 73 = .ok (.isub, 1) := by decide +kernel
theorem dX4_addSight_74 : decode cX4_addSight 74 = .ok (.ireturn, 1) := by decide +kernel
theorem dX13_note_0 : decode cX13_note 0 = .ok (.aload_n 0, 1) := by decide +kernel
theorem dX13_note_1 : decode cX13_note 1 = .ok (.getfield 36, 3) := by decide +kernel
theorem dX13_note_4 : decode cX13_note 4 = .ok (.getfield 86, 3) := by decide +kernel
theorem dX13_note_7 : decode cX13_note 7 = .ok (.getfield 114, 3) := by decide +kernel
theorem dX13_note_10 : decode cX13_note 10 = .ok (.iload_n 1, 1) := by decide +kernel
theorem dX13_note_11 : decode cX13_note 11 = .ok (.invokevirtual 123, 3) := by decide +kernel
theorem dX13_note_14 : decode cX13_note 14 = .ok (.ifCond .eq 17, 3) := by decide +kernel
theorem dX13_note_17 : decode cX13_note 17 = .ok (.iload_n 2, 1) := by decide +kernel
theorem dX13_note_18 : decode cX13_note 18 = .ok (.sipush 199, 3) := by decide +kernel
theorem dX13_note_21 : decode cX13_note 21 = .ok (.invokestatic 189, 3) := by decide +kernel
theorem dX13_note_24 : decode cX13_note 24 = .ok (.ifCond .eq 7, 3) := by decide +kernel
theorem dX13_note_27 : decode cX13_note 27 = .ok (.iconst 1, 1) := by decide +kernel
theorem dX13_note_28 : decode cX13_note 28 = .ok (.goto 4, 3) := by decide +kernel
theorem dX13_note_31 : decode cX13_note 31 = .ok (.iconst 0, 1) := by decide +kernel
theorem dX13_note_32 : decode cX13_note 32 = .ok (.istore 4, 2) := by decide +kernel
theorem dX13_note_34 : decode cX13_note 34 = .ok (.iload 4, 2) := by decide +kernel
theorem dX13_note_36 : decode cX13_note 36 = .ok (.ifCond .eq 17, 3) := by decide +kernel
theorem dX13_note_39 : decode cX13_note 39 = .ok (.iload_n 3, 1) := by decide +kernel
theorem dX13_note_40 : decode cX13_note 40 = .ok (.sipush (-9999), 3) := by decide +kernel
theorem dX13_note_43 : decode cX13_note 43 = .ok (.if_icmp .lt 10, 3) := by decide +kernel
theorem dX13_note_46 : decode cX13_note 46 = .ok (.iload_n 3, 1) := by decide +kernel
theorem dX13_note_47 : decode cX13_note 47 = .ok (.sipush 9999, 3) := by decide +kernel
theorem dX13_note_50 : decode cX13_note 50 = .ok (.if_icmp .le 5, 3) := by decide +kernel
theorem dX13_note_53 : decode cX13_note 53 = .ok (.iconst (-1), 1) := by decide +kernel
theorem dX13_note_54 : decode cX13_note 54 = .ok (.ireturn, 1) := by decide +kernel
theorem dX13_note_55 : decode cX13_note 55 = .ok (.aload_n 0, 1) := by decide +kernel
theorem dX13_note_56 : decode cX13_note 56 = .ok (.getfield 43, 3) := by decide +kernel
theorem dX13_note_59 : decode cX13_note 59 = .ok (.iload_n 1, 1) := by decide +kernel
theorem dX13_note_60 : decode cX13_note 60 = .ok (.iload_n 2, 1) := by decide +kernel
theorem dX13_note_61 : decode cX13_note 61 = .ok (.iload_n 3, 1) := by decide +kernel
theorem dX13_note_62 : decode cX13_note 62 = .ok (.invokevirtual 260, 3) := by decide +kernel
theorem dX13_note_65 : decode cX13_note 65 = .ok (.ireturn, 1) := by decide +kernel
theorem dX8_arrival_0 : decode cX8_arrival 0 = .ok (.aload_n 0, 1) := by decide +kernel
theorem dX8_arrival_1 : decode cX8_arrival 1 = .ok (.iload_n 1, 1) := by decide +kernel
theorem dX8_arrival_2 : decode cX8_arrival 2 = .ok (.bipush 100, 2) := by decide +kernel
theorem dX8_arrival_4 : decode cX8_arrival 4 = .ok (.invokevirtual 23, 3) := by decide +kernel
theorem dX8_arrival_7 : decode cX8_arrival 7 = .ok (.aload_n 0, 1) := by decide +kernel
theorem dX8_arrival_8 : decode cX8_arrival 8 = .ok (.iload_n 2, 1) := by decide +kernel
theorem dX8_arrival_9 : decode cX8_arrival 9 = .ok (.bipush 100, 2) := by decide +kernel
theorem dX8_arrival_11 : decode cX8_arrival 11 = .ok (.invokevirtual 27, 3) := by decide +kernel
theorem dX8_arrival_14 : decode cX8_arrival 14 = .ok (.ireturn, 1) := by decide +kernel
theorem dX13_reaches_0 : decode cX13_reaches 0 = .ok (.aload_n 0, 1) := by decide +kernel
theorem dX13_reaches_1 : decode cX13_reaches 1 = .ok (.getfield 36, 3) := by decide +kernel
theorem dX13_reaches_4 : decode cX13_reaches 4 = .ok (.getfield 86, 3) := by decide +kernel
theorem dX13_reaches_7 : decode cX13_reaches 7 = .ok (.getfield 117, 3) := by decide +kernel
theorem dX13_reaches_10 : decode cX13_reaches 10 = .ok (.iload_n 1, 1) := by decide +kernel
theorem dX13_reaches_11 : decode cX13_reaches 11 = .ok (.invokevirtual 123, 3) := by decide +kernel
theorem dX13_reaches_14 : decode cX13_reaches 14 = .ok (.ifCond .eq 17, 3) := by decide +kernel
theorem dX13_reaches_17 : decode cX13_reaches 17 = .ok (.aload_n 0, 1) := by decide +kernel
theorem dX13_reaches_18 : decode cX13_reaches 18 = .ok (.getfield 36, 3) := by decide +kernel
theorem dX13_reaches_21 : decode cX13_reaches 21 = .ok (.getfield 86, 3) := by decide +kernel
theorem dX13_reaches_24 : decode cX13_reaches 24 = .ok (.iload_n 2, 1) := by decide +kernel
theorem dX13_reaches_25 : decode cX13_reaches 25 = .ok (.invokevirtual 152, 3) := by decide +kernel
theorem dX13_reaches_28 : decode cX13_reaches 28 = .ok (.ifCond .ne 5, 3) := by decide +kernel
theorem dX13_reaches_31 : decode cX13_reaches 31 = .ok (.iconst (-1), 1) := by decide +kernel
theorem dX13_reaches_32 : decode cX13_reaches 32 = .ok (.ireturn, 1) := by decide +kernel
theorem dX13_reaches_33 : decode cX13_reaches 33 = .ok (.aload_n 0, 1) := by decide +kernel
theorem dX13_reaches_34 : decode cX13_reaches 34 = .ok (.getfield 52, 3) := by decide +kernel
theorem dX13_reaches_37 : decode cX13_reaches 37 = .ok (.invokevirtual 196, 3) := by decide +kernel
theorem dX13_reaches_40 : decode cX13_reaches 40 = .ok (.aload_n 0, 1) := by decide +kernel
theorem dX13_reaches_41 : decode cX13_reaches 41 = .ok (.getfield 61, 3) := by decide +kernel
theorem dX13_reaches_44 : decode cX13_reaches 44 = .ok (.iload_n 1, 1) := by decide +kernel
theorem dX13_reaches_45 : decode cX13_reaches 45 = .ok (.iload_n 2, 1) := by decide +kernel
theorem dX13_reaches_46 : decode cX13_reaches 46 = .ok (.invokevirtual 230, 3) := by decide +kernel
theorem dX13_reaches_49 : decode cX13_reaches 49 = .ok (.ireturn, 1) := by decide +kernel
theorem dX13_rise_0 : decode cX13_rise 0 = .ok (.aload_n 0, 1) := by decide +kernel
theorem dX13_rise_1 : decode cX13_rise 1 = .ok (.getfield 36, 3) := by decide +kernel
theorem dX13_rise_4 : decode cX13_rise 4 = .ok (.getfield 86, 3) := by decide +kernel
theorem dX13_rise_7 : decode cX13_rise 7 = .ok (.iload_n 1, 1) := by decide +kernel
theorem dX13_rise_8 : decode cX13_rise 8 = .ok (.invokevirtual 155, 3) := by decide +kernel
theorem dX13_rise_11 : decode cX13_rise 11 = .ok (.ifCond .eq 13, 3) := by decide +kernel
theorem dX13_rise_14 : decode cX13_rise 14 = .ok (.iload_n 2, 1) := by decide +kernel
theorem dX13_rise_15 : decode cX13_rise 15 = .ok (.sipush 199, 3) := by decide +kernel
theorem dX13_rise_18 : decode cX13_rise 18 = .ok (.invokestatic 189, 3) := by decide +kernel
theorem dX13_rise_21 : decode cX13_rise 21 = .ok (.ifCond .ne 6, 3) := by decide +kernel
theorem dX13_rise_24 : decode cX13_rise 24 = .ok (.ldc 195, 2) := by decide +kernel
theorem dX13_rise_26 : decode cX13_rise 26 = .ok (.ireturn, 1) := by decide +kernel
theorem dX13_rise_27 : decode cX13_rise 27 = .ok (.aload_n 0, 1) := by decide +kernel
theorem dX13_rise_28 : decode cX13_rise 28 = .ok (.getfield 52, 3) := by decide +kernel
theorem dX13_rise_31 : decode cX13_rise 31 = .ok (.invokevirtual 196, 3) := by decide +kernel
theorem dX13_rise_34 : decode cX13_rise 34 = .ok (.aload_n 0, 1) := by decide +kernel
theorem dX13_rise_35 : decode cX13_rise 35 = .ok (.getfield 52, 3) := by decide +kernel
theorem dX13_rise_38 : decode cX13_rise 38 = .ok (.iload_n 1, 1) := by decide +kernel
theorem dX13_rise_39 : decode cX13_rise 39 = .ok (.iload_n 2, 1) := by decide +kernel
theorem dX13_rise_40 : decode cX13_rise 40 = .ok (.invokevirtual 199, 3) := by decide +kernel
theorem dX13_rise_43 : decode cX13_rise 43 = .ok (.ireturn, 1) := by decide +kernel
theorem dX13_shows_0 : decode cX13_shows 0 = .ok (.aload_n 0, 1) := by decide +kernel
theorem dX13_shows_1 : decode cX13_shows 1 = .ok (.getfield 36, 3) := by decide +kernel
theorem dX13_shows_4 : decode cX13_shows 4 = .ok (.getfield 86, 3) := by decide +kernel
theorem dX13_shows_7 : decode cX13_shows 7 = .ok (.getfield 114, 3) := by decide +kernel
theorem dX13_shows_10 : decode cX13_shows 10 = .ok (.iload_n 1, 1) := by decide +kernel
theorem dX13_shows_11 : decode cX13_shows 11 = .ok (.invokevirtual 123, 3) := by decide +kernel
theorem dX13_shows_14 : decode cX13_shows 14 = .ok (.ifCond .ne 6, 3) := by decide +kernel
theorem dX13_shows_17 : decode cX13_shows 17 = .ok (.ldc 195, 2) := by decide +kernel
theorem dX13_shows_19 : decode cX13_shows 19 = .ok (.ireturn, 1) := by decide +kernel
theorem dX13_shows_20 : decode cX13_shows 20 = .ok (.aload_n 0, 1) := by decide +kernel
theorem dX13_shows_21 : decode cX13_shows 21 = .ok (.aload_n 0, 1) := by decide +kernel
theorem dX13_shows_22 : decode cX13_shows 22 = .ok (.getfield 36, 3) := by decide +kernel
theorem dX13_shows_25 : decode cX13_shows 25 = .ok (.getfield 86, 3) := by decide +kernel
theorem dX13_shows_28 : decode cX13_shows 28 = .ok (.getfield 164, 3) := by decide +kernel
theorem dX13_shows_31 : decode cX13_shows 31 = .ok (.iload_n 1, 1) := by decide +kernel
theorem dX13_shows_32 : decode cX13_shows 32 = .ok (.invokevirtual 144, 3) := by decide +kernel
theorem dX13_shows_35 : decode cX13_shows 35 = .ok (.iload_n 2, 1) := by decide +kernel
theorem dX13_shows_36 : decode cX13_shows 36 = .ok (.invokevirtual 202, 3) := by decide +kernel
theorem dX13_shows_39 : decode cX13_shows 39 = .ok (.ireturn, 1) := by decide +kernel
theorem dX2_stillCells_0 : decode cX2_stillCells 0 = .ok (.lconst 0, 1) := by decide +kernel
theorem dX2_stillCells_1 : decode cX2_stillCells 1 = .ok (.lstore 6, 2) := by decide +kernel
theorem dX2_stillCells_3 : decode cX2_stillCells 3 = .ok (.aload_n 0, 1) := by decide +kernel
theorem dX2_stillCells_4 : decode cX2_stillCells 4 = .ok (.getfield 33, 3) := by decide +kernel
theorem dX2_stillCells_7 : decode cX2_stillCells 7 = .ok (.getfield 54, 3) := by decide +kernel
theorem dX2_stillCells_10 : decode cX2_stillCells 10 = .ok (.getfield 118, 3) := by decide +kernel
theorem dX2_stillCells_13 : decode cX2_stillCells 13 = .ok (.astore 8, 2) := by decide +kernel
theorem dX2_stillCells_15 : decode cX2_stillCells 15 = .ok (.iconst 0, 1) := by decide +kernel
theorem dX2_stillCells_16 : decode cX2_stillCells 16 = .ok (.istore 9, 2) := by decide +kernel
theorem dX2_stillCells_18 : decode cX2_stillCells 18 = .ok (.iload 9, 2) := by decide +kernel
theorem dX2_stillCells_20 : decode cX2_stillCells 20 = .ok (.aload_n 0, 1) := by decide +kernel
theorem dX2_stillCells_21 : decode cX2_stillCells 21 = .ok (.getfield 33, 3) := by decide +kernel
theorem dX2_stillCells_24 : decode cX2_stillCells 24 = .ok (.getfield 54, 3) := by decide +kernel
theorem dX2_stillCells_27 : decode cX2_stillCells 27 = .ok (.invokevirtual 87, 3) := by decide +kernel
theorem dX2_stillCells_30 : decode cX2_stillCells 30 = .ok (.if_icmp .ge 104, 3) := by decide +kernel
theorem dX2_stillCells_33 : decode cX2_stillCells 33 = .ok (.aload_n 0, 1) := by decide +kernel
theorem dX2_stillCells_34 : decode cX2_stillCells 34 = .ok (.getfield 33, 3) := by decide +kernel
theorem dX2_stillCells_37 : decode cX2_stillCells 37 = .ok (.getfield 54, 3) := by decide +kernel
theorem dX2_stillCells_40 : decode cX2_stillCells 40 = .ok (.iload 9, 2) := by decide +kernel
theorem dX2_stillCells_42 : decode cX2_stillCells 42 = .ok (.invokevirtual 91, 3) := by decide +kernel
theorem dX2_stillCells_45 : decode cX2_stillCells 45 = .ok (.istore 10, 2) := by decide +kernel
theorem dX2_stillCells_47 : decode cX2_stillCells 47 = .ok (.iconst 0, 1) := by decide +kernel
theorem dX2_stillCells_48 : decode cX2_stillCells 48 = .ok (.istore 11, 2) := by decide +kernel
theorem dX2_stillCells_50 : decode cX2_stillCells 50 = .ok (.iload 11, 2) := by decide +kernel
theorem dX2_stillCells_52 : decode cX2_stillCells 52 = .ok (.iload 5, 2) := by decide +kernel
theorem dX2_stillCells_54 : decode cX2_stillCells 54 = .ok (.if_icmp .gt 60, 3) := by decide +kernel
theorem dX2_stillCells_57 : decode cX2_stillCells 57 = .ok (.iload 10, 2) := by decide +kernel
theorem dX2_stillCells_59 : decode cX2_stillCells 59 = .ok (.ifCond .eq 55, 3) := by decide +kernel
theorem dX2_stillCells_62 : decode cX2_stillCells 62 = .ok (.aload_n 0, 1) := by decide +kernel
theorem dX2_stillCells_63 : decode cX2_stillCells 63 = .ok (.getfield 37, 3) := by decide +kernel
theorem dX2_stillCells_66 : decode cX2_stillCells 66 = .ok (.iload_n 1, 1) := by decide +kernel
theorem dX2_stillCells_67 : decode cX2_stillCells 67 = .ok (.iload_n 2, 1) := by decide +kernel
theorem dX2_stillCells_68 : decode cX2_stillCells 68 = .ok (.iload 9, 2) := by decide +kernel
theorem dX2_stillCells_70 : decode cX2_stillCells 70 = .ok (.iload 11, 2) := by decide +kernel
theorem dX2_stillCells_72 : decode cX2_stillCells 72 = .ok (.aload 8, 2) := by decide +kernel
theorem dX2_stillCells_74 : decode cX2_stillCells 74 = .ok (.invokevirtual 121, 3) := by decide +kernel
theorem dX2_stillCells_77 : decode cX2_stillCells 77 = .ok (.istore 12, 2) := by decide +kernel
theorem dX2_stillCells_79 : decode cX2_stillCells 79 = .ok (.iload 12, 2) := by decide +kernel
theorem dX2_stillCells_81 : decode cX2_stillCells 81 = .ok (.aload_n 0, 1) := by decide +kernel
theorem dX2_stillCells_82 : decode cX2_stillCells 82 = .ok (.getfield 37, 3) := by decide +kernel
theorem dX2_stillCells_85 : decode cX2_stillCells 85 = .ok (.iload_n 3, 1) := by decide +kernel
theorem dX2_stillCells_86 : decode cX2_stillCells 86 = .ok (.iload 4, 2) := by decide +kernel
theorem dX2_stillCells_88 : decode cX2_stillCells 88 = .ok (.iload 9, 2) := by decide +kernel
theorem dX2_stillCells_90 : decode cX2_stillCells 90 = .ok (.iload 11, 2) := by decide +kernel
theorem dX2_stillCells_92 : decode cX2_stillCells 92 = .ok (.aload 8, 2) := by decide +kernel
theorem dX2_stillCells_94 : decode cX2_stillCells 94 = .ok (.invokevirtual 121, 3) := by decide +kernel
theorem dX2_stillCells_97 : decode cX2_stillCells 97 = .ok (.iadd, 1) := by decide +kernel
theorem dX2_stillCells_98 : decode cX2_stillCells 98 = .ok (.ifCond .ne 7, 3) := by decide +kernel
theorem dX2_stillCells_101 : decode cX2_stillCells 101 = .ok (.iconst 1, 1) := by decide +kernel
theorem dX2_stillCells_102 : decode cX2_stillCells 102 = .ok (.goto 4, 3) := by decide +kernel
theorem dX2_stillCells_105 : decode cX2_stillCells 105 = .ok (.iconst 0, 1) := by decide +kernel
theorem dX2_stillCells_106 : decode cX2_stillCells 106 = .ok (.istore 10, 2) := by decide +kernel
theorem dX2_stillCells_108 : decode cX2_stillCells 108 = .ok (.iinc 11 1, 3) := by decide +kernel
theorem dX2_stillCells_111 : decode cX2_stillCells 111 = .ok (.goto (-61), 3) := by decide +kernel
theorem dX2_stillCells_114 : decode cX2_stillCells 114 = .ok (.iload 10, 2) := by decide +kernel
theorem dX2_stillCells_116 : decode cX2_stillCells 116 = .ok (.ifCond .eq 12, 3) := by decide +kernel
theorem dX2_stillCells_119 : decode cX2_stillCells 119 = .ok (.lload 6, 2) := by decide +kernel
theorem dX2_stillCells_121 : decode cX2_stillCells 121 = .ok (.lconst 1, 1) := by decide +kernel
theorem dX2_stillCells_122 : decode cX2_stillCells 122 = .ok (.iload 9, 2) := by decide +kernel
theorem dX2_stillCells_124 : decode cX2_stillCells 124 = .ok (.lshl, 1) := by decide +kernel
theorem dX2_stillCells_125 : decode cX2_stillCells 125 = .ok (.lor, 1) := by decide +kernel
theorem dX2_stillCells_126 : decode cX2_stillCells 126 = .ok (.lstore 6, 2) := by decide +kernel
theorem dX2_stillCells_128 : decode cX2_stillCells 128 = .ok (.iinc 9 1, 3) := by decide +kernel
theorem dX2_stillCells_131 : decode cX2_stillCells 131 = .ok (.goto (-113), 3) := by decide +kernel
theorem dX2_stillCells_134 : decode cX2_stillCells 134 = .ok (.lload 6, 2) := by decide +kernel
theorem dX2_stillCells_136 : decode cX2_stillCells 136 = .ok (.lreturn, 1) := by decide +kernel
theorem dX13_still_0 : decode cX13_still 0 = .ok (.aload_n 0, 1) := by decide +kernel
theorem dX13_still_1 : decode cX13_still 1 = .ok (.getfield 36, 3) := by decide +kernel
theorem dX13_still_4 : decode cX13_still 4 = .ok (.getfield 86, 3) := by decide +kernel
theorem dX13_still_7 : decode cX13_still 7 = .ok (.astore 6, 2) := by decide +kernel
theorem dX13_still_9 : decode cX13_still 9 = .ok (.aload 6, 2) := by decide +kernel
theorem dX13_still_11 : decode cX13_still 11 = .ok (.getfield 104, 3) := by decide +kernel
theorem dX13_still_14 : decode cX13_still 14 = .ok (.iload_n 1, 1) := by decide +kernel
theorem dX13_still_15 : decode cX13_still 15 = .ok (.invokevirtual 123, 3) := by decide +kernel
theorem dX13_still_18 : decode cX13_still 18 = .ok (.ifCond .eq 38, 3) := by decide +kernel
theorem dX13_still_21 : decode cX13_still 21 = .ok (.aload 6, 2) := by decide +kernel
theorem dX13_still_23 : decode cX13_still 23 = .ok (.iload_n 2, 1) := by decide +kernel
theorem dX13_still_24 : decode cX13_still 24 = .ok (.invokevirtual 155, 3) := by decide +kernel
theorem dX13_still_27 : decode cX13_still 27 = .ok (.ifCond .eq 29, 3) := by decide +kernel
theorem dX13_still_30 : decode cX13_still 30 = .ok (.aload 6, 2) := by decide +kernel
theorem dX13_still_32 : decode cX13_still 32 = .ok (.getfield 104, 3) := by decide +kernel
theorem dX13_still_35 : decode cX13_still 35 = .ok (.iload_n 3, 1) := by decide +kernel
theorem dX13_still_36 : decode cX13_still 36 = .ok (.invokevirtual 123, 3) := by decide +kernel
theorem dX13_still_39 : decode cX13_still 39 = .ok (.ifCond .eq 17, 3) := by decide +kernel
theorem dX13_still_42 : decode cX13_still 42 = .ok (.aload 6, 2) := by decide +kernel
theorem dX13_still_44 : decode cX13_still 44 = .ok (.iload 4, 2) := by decide +kernel
theorem dX13_still_46 : decode cX13_still 46 = .ok (.invokevirtual 155, 3) := by decide +kernel
theorem dX13_still_49 : decode cX13_still 49 = .ok (.ifCond .eq 7, 3) := by decide +kernel
theorem dX13_still_52 : decode cX13_still 52 = .ok (.iconst 1, 1) := by decide +kernel
theorem dX13_still_53 : decode cX13_still 53 = .ok (.goto 4, 3) := by decide +kernel
theorem dX13_still_56 : decode cX13_still 56 = .ok (.iconst 0, 1) := by decide +kernel
theorem dX13_still_57 : decode cX13_still 57 = .ok (.istore 7, 2) := by decide +kernel
theorem dX13_still_59 : decode cX13_still 59 = .ok (.iload 7, 2) := by decide +kernel
theorem dX13_still_61 : decode cX13_still 61 = .ok (.ifCond .eq 13, 3) := by decide +kernel
theorem dX13_still_64 : decode cX13_still 64 = .ok (.iload 5, 2) := by decide +kernel
theorem dX13_still_66 : decode cX13_still 66 = .ok (.bipush 60, 2) := by decide +kernel
theorem dX13_still_68 : decode cX13_still 68 = .ok (.invokestatic 189, 3) := by decide +kernel
theorem dX13_still_71 : decode cX13_still 71 = .ok (.ifCond .ne 7, 3) := by decide +kernel
theorem dX13_still_74 : decode cX13_still 74 = .ok (.ldc2_w 295, 3) := by decide +kernel
theorem dX13_still_77 : decode cX13_still 77 = .ok (.lreturn, 1) := by decide +kernel
theorem dX13_still_78 : decode cX13_still 78 = .ok (.aload_n 0, 1) := by decide +kernel
theorem dX13_still_79 : decode cX13_still 79 = .ok (.getfield 52, 3) := by decide +kernel
theorem dX13_still_82 : decode cX13_still 82 = .ok (.invokevirtual 180, 3) := by decide +kernel
theorem dX13_still_85 : decode cX13_still 85 = .ok (.aload_n 0, 1) := by decide +kernel
theorem dX13_still_86 : decode cX13_still 86 = .ok (.getfield 70, 3) := by decide +kernel
theorem dX13_still_89 : decode cX13_still 89 = .ok (.iload_n 1, 1) := by decide +kernel
theorem dX13_still_90 : decode cX13_still 90 = .ok (.iload_n 2, 1) := by decide +kernel
theorem dX13_still_91 : decode cX13_still 91 = .ok (.iload_n 3, 1) := by decide +kernel
theorem dX13_still_92 : decode cX13_still 92 = .ok (.iload 4, 2) := by decide +kernel
theorem dX13_still_94 : decode cX13_still 94 = .ok (.iload 5, 2) := by decide +kernel
theorem dX13_still_96 : decode cX13_still 96 = .ok (.invokevirtual 297, 3) := by decide +kernel
theorem dX13_still_99 : decode cX13_still 99 = .ok (.lreturn, 1) := by decide +kernel
theorem dX4_addStrike_0 : decode cX4_addStrike 0 = .ok (.iload_n 1, 1) := by decide +kernel
theorem dX4_addStrike_1 : decode cX4_addStrike 1 = .ok (.ifCond .lt 20, 3) := by decide +kernel
theorem dX4_addStrike_4 : decode cX4_addStrike 4 = .ok (.iload_n 1, 1) := by decide +kernel
theorem dX4_addStrike_5 : decode cX4_addStrike 5 = .ok (.aload_n 0, 1) := by decide +kernel
theorem dX4_addStrike_6 : decode cX4_addStrike 6 = .ok (.getfield 41, 3) := by decide +kernel
theorem dX4_addStrike_9 : decode cX4_addStrike 9 = .ok (.if_icmp .ge 12, 3) := by decide +kernel
theorem dX4_addStrike_12 : decode cX4_addStrike 12 = .ok (.aload_n 0, 1) := by decide +kernel
theorem dX4_addStrike_13 : decode cX4_addStrike 13 = .ok (.getfield 41, 3) := by decide +kernel
theorem dX4_addStrike_16 : decode cX4_addStrike 16 = .ok (.bipush 32, 2) := by decide +kernel
theorem dX4_addStrike_18 : decode cX4_addStrike 18 = .ok (.if_icmp .lt 5, 3) := by decide +kernel
theorem dX4_addStrike_21 : decode cX4_addStrike 21 = .ok (.iconst (-1), 1) := by decide +kernel
theorem dX4_addStrike_22 : decode cX4_addStrike 22 = .ok (.ireturn, 1) := by decide +kernel
theorem dX4_addStrike_23 : decode cX4_addStrike 23 = .ok (.aload_n 0, 1) := by decide +kernel
theorem dX4_addStrike_24 : decode cX4_addStrike 24 = .ok (.getfield 21, 3) := by decide +kernel
theorem dX4_addStrike_27 : decode cX4_addStrike 27 = .ok (.aload_n 0, 1) := by decide +kernel
theorem dX4_addStrike_28 : decode cX4_addStrike 28 = .ok (.getfield 41, 3) := by decide +kernel
theorem dX4_addStrike_31 : decode cX4_addStrike 31 = .ok (.iload_n 1, 1) := by decide +kernel
theorem dX4_addStrike_32 : decode cX4_addStrike 32 = .ok (.iastore, 1) := by decide +kernel
theorem dX4_addStrike_33 : decode cX4_addStrike 33 = .ok (.aload_n 0, 1) := by decide +kernel
theorem dX4_addStrike_34 : decode cX4_addStrike 34 = .ok (.dup, 1) := by decide +kernel
theorem dX4_addStrike_35 : decode cX4_addStrike 35 = .ok (.getfield 41, 3) := by decide +kernel
theorem dX4_addStrike_38 : decode cX4_addStrike 38 = .ok (.iconst 1, 1) := by decide +kernel
theorem dX4_addStrike_39 : decode cX4_addStrike 39 = .ok (.iadd, 1) := by decide +kernel
theorem dX4_addStrike_40 : decode cX4_addStrike 40 = .ok (.putfield 41, 3) := by decide +kernel
theorem dX4_addStrike_43 : decode cX4_addStrike 43 = .ok (.aload_n 0, 1) := by decide +kernel
theorem dX4_addStrike_44 : decode cX4_addStrike 44 = .ok (.getfield 41, 3) := by decide +kernel
theorem dX4_addStrike_47 : decode cX4_addStrike 47 = .ok (.iconst 1, 1) := by decide +kernel
theorem dX4_addStrike_48 : decode cX4_addStrike 48 = .ok (.isub, 1) := by decide +kernel
theorem dX4_addStrike_49 : decode cX4_addStrike 49 = .ok (.ireturn, 1) := by decide +kernel
theorem dX13_strike_0 : decode cX13_strike 0 = .ok (.aload_n 0, 1) := by decide +kernel
theorem dX13_strike_1 : decode cX13_strike 1 = .ok (.getfield 43, 3) := by decide +kernel
theorem dX13_strike_4 : decode cX13_strike 4 = .ok (.iload_n 1, 1) := by decide +kernel
theorem dX13_strike_5 : decode cX13_strike 5 = .ok (.invokevirtual 263, 3) := by decide +kernel
theorem dX13_strike_8 : decode cX13_strike 8 = .ok (.ireturn, 1) := by decide +kernel
theorem dX13_tale_0 : decode cX13_tale 0 = .ok (.iload_n 1, 1) := by decide +kernel
theorem dX13_tale_1 : decode cX13_tale 1 = .ok (.ifCond .lt 12, 3) := by decide +kernel
theorem dX13_tale_4 : decode cX13_tale 4 = .ok (.iload_n 2, 1) := by decide +kernel
theorem dX13_tale_5 : decode cX13_tale 5 = .ok (.ifCond .lt 8, 3) := by decide +kernel
theorem dX13_tale_8 : decode cX13_tale 8 = .ok (.iload_n 2, 1) := by decide +kernel
theorem dX13_tale_9 : decode cX13_tale 9 = .ok (.iconst 2, 1) := by decide +kernel
theorem dX13_tale_10 : decode cX13_tale 10 = .ok (.if_icmp .le 5, 3) := by decide +kernel
theorem dX13_tale_13 : decode cX13_tale 13 = .ok (.iconst (-1), 1) := by decide +kernel
theorem dX13_tale_14 : decode cX13_tale 14 = .ok (.ireturn, 1) := by decide +kernel
theorem dX13_tale_15 : decode cX13_tale 15 = .ok (.aload_n 0, 1) := by decide +kernel
theorem dX13_tale_16 : decode cX13_tale 16 = .ok (.getfield 52, 3) := by decide +kernel
theorem dX13_tale_19 : decode cX13_tale 19 = .ok (.invokevirtual 180, 3) := by decide +kernel
theorem dX13_tale_22 : decode cX13_tale 22 = .ok (.aload_n 0, 1) := by decide +kernel
theorem dX13_tale_23 : decode cX13_tale 23 = .ok (.getfield 70, 3) := by decide +kernel
theorem dX13_tale_26 : decode cX13_tale 26 = .ok (.iload_n 1, 1) := by decide +kernel
theorem dX13_tale_27 : decode cX13_tale 27 = .ok (.invokevirtual 269, 3) := by decide +kernel
theorem dX13_tale_30 : decode cX13_tale 30 = .ok (.iload_n 1, 1) := by decide +kernel
theorem dX13_tale_31 : decode cX13_tale 31 = .ok (.if_icmp .le 18, 3) := by decide +kernel
theorem dX13_tale_34 : decode cX13_tale 34 = .ok (.aload_n 0, 1) := by decide +kernel
theorem dX13_tale_35 : decode cX13_tale 35 = .ok (.getfield 70, 3) := by decide +kernel
theorem dX13_tale_38 : decode cX13_tale 38 = .ok (.getfield 272, 3) := by decide +kernel
theorem dX13_tale_41 : decode cX13_tale 41 = .ok (.iconst 0, 1) := by decide +kernel
theorem dX13_tale_42 : decode cX13_tale 42 = .ok (.iload_n 2, 1) := by decide +kernel
theorem dX13_tale_43 : decode cX13_tale 43 = .ok (.invokevirtual 176, 3) := by decide +kernel
theorem dX13_tale_46 : decode cX13_tale 46 = .ok (.goto 5, 3) := by decide +kernel
theorem dX13_tale_49 : decode cX13_tale 49 = .ok (.bipush (-2), 2) := by decide +kernel
theorem dX13_tale_51 : decode cX13_tale 51 = .ok (.ireturn, 1) := by decide +kernel
theorem dX13_tales_0 : decode cX13_tales 0 = .ok (.aload_n 0, 1) := by decide +kernel
theorem dX13_tales_1 : decode cX13_tales 1 = .ok (.getfield 52, 3) := by decide +kernel
theorem dX13_tales_4 : decode cX13_tales 4 = .ok (.invokevirtual 180, 3) := by decide +kernel
theorem dX13_tales_7 : decode cX13_tales 7 = .ok (.aload_n 0, 1) := by decide +kernel
theorem dX13_tales_8 : decode cX13_tales 8 = .ok (.getfield 70, 3) := by decide +kernel
theorem dX13_tales_11 : decode cX13_tales 11 = .ok (.iconst (-1), 1) := by decide +kernel
theorem dX13_tales_12 : decode cX13_tales 12 = .ok (.invokevirtual 269, 3) := by decide +kernel
theorem dX13_tales_15 : decode cX13_tales 15 = .ok (.ireturn, 1) := by decide +kernel
theorem dX4_clear_0 : decode cX4_clear 0 = .ok (.aload_n 0, 1) := by decide +kernel
theorem dX4_clear_1 : decode cX4_clear 1 = .ok (.iconst 0, 1) := by decide +kernel
theorem dX4_clear_2 : decode cX4_clear 2 = .ok (.putfield 41, 3) := by decide +kernel
theorem dX4_clear_5 : decode cX4_clear 5 = .ok (.aload_n 0, 1) := by decide +kernel
theorem dX4_clear_6 : decode cX4_clear 6 = .ok (.iconst (-1), 1) := by decide +kernel
theorem dX4_clear_7 : decode cX4_clear 7 = .ok (.putfield 37, 3) := by decide +kernel
theorem dX4_clear_10 : decode cX4_clear 10 = .ok (.return_, 1) := by decide +kernel
theorem dX9_refuse_0 : decode cX9_refuse 0 = .ok (.aload_n 0, 1) := by decide +kernel
theorem dX9_refuse_1 : decode cX9_refuse 1 = .ok (.iload_n 1, 1) := by decide +kernel
theorem dX9_refuse_2 : decode cX9_refuse 2 = .ok (.putfield 40, 3) := by decide +kernel
theorem dX9_refuse_5 : decode cX9_refuse 5 = .ok (.aload_n 0, 1) := by decide +kernel
theorem dX9_refuse_6 : decode cX9_refuse 6 = .ok (.aload_n 0, 1) := by decide +kernel
theorem dX9_refuse_7 : decode cX9_refuse 7 = .ok (.getfield 27, 3) := by decide +kernel
theorem dX9_refuse_10 : decode cX9_refuse 10 = .ok (.getfield 76, 3) := by decide +kernel
theorem dX9_refuse_13 : decode cX9_refuse 13 = .ok (.putfield 9, 3) := by decide +kernel
theorem dX9_refuse_16 : decode cX9_refuse 16 = .ok (.iconst 0, 1) := by decide +kernel
theorem dX9_refuse_17 : decode cX9_refuse 17 = .ok (.ireturn, 1) := by decide +kernel
theorem dX9_lineEnds_0 : decode cX9_lineEnds 0 = .ok (.aload_n 0, 1) := by decide +kernel
theorem dX9_lineEnds_1 : decode cX9_lineEnds 1 = .ok (.getfield 27, 3) := by decide +kernel
theorem dX9_lineEnds_4 : decode cX9_lineEnds 4 = .ok (.bipush 21, 2) := by decide +kernel
theorem dX9_lineEnds_6 : decode cX9_lineEnds 6 = .ok (.invokevirtual 79, 3) := by decide +kernel
theorem dX9_lineEnds_9 : decode cX9_lineEnds 9 = .ok (.ifCond .ne 9, 3) := by decide +kernel
theorem dX9_lineEnds_12 : decode cX9_lineEnds 12 = .ok (.aload_n 0, 1) := by decide +kernel
theorem dX9_lineEnds_13 : decode cX9_lineEnds 13 = .ok (.iconst 1, 1) := by decide +kernel
theorem dX9_lineEnds_14 : decode cX9_lineEnds 14 = .ok (.invokevirtual 83, 3) := by decide +kernel
theorem dX9_lineEnds_17 : decode cX9_lineEnds 17 = .ok (.ireturn, 1) := by decide +kernel
theorem dX9_lineEnds_18 : decode cX9_lineEnds 18 = .ok (.aload_n 0, 1) := by decide +kernel
theorem dX9_lineEnds_19 : decode cX9_lineEnds 19 = .ok (.getfield 27, 3) := by decide +kernel
theorem dX9_lineEnds_22 : decode cX9_lineEnds 22 = .ok (.invokevirtual 86, 3) := by decide +kernel
theorem dX9_lineEnds_25 : decode cX9_lineEnds 25 = .ok (.iconst 1, 1) := by decide +kernel
theorem dX9_lineEnds_26 : decode cX9_lineEnds 26 = .ok (.ireturn, 1) := by decide +kernel
theorem dX9_beginCells_0 : decode cX9_beginCells 0 = .ok (.iload_n 1, 1) := by decide +kernel
theorem dX9_beginCells_1 : decode cX9_beginCells 1 = .ok (.ifCond .eq 9, 3) := by decide +kernel
theorem dX9_beginCells_4 : decode cX9_beginCells 4 = .ok (.aload_n 0, 1) := by decide +kernel
theorem dX9_beginCells_5 : decode cX9_beginCells 5 = .ok (.iconst 2, 1) := by decide +kernel
theorem dX9_beginCells_6 : decode cX9_beginCells 6 = .ok (.invokevirtual 83, 3) := by decide +kernel
theorem dX9_beginCells_9 : decode cX9_beginCells 9 = .ok (.ireturn, 1) := by decide +kernel
theorem dX9_beginCells_10 : decode cX9_beginCells 10 = .ok (.aload_n 0, 1) := by decide +kernel
theorem dX9_beginCells_11 : decode cX9_beginCells 11 = .ok (.iconst 1, 1) := by decide +kernel
theorem dX9_beginCells_12 : decode cX9_beginCells 12 = .ok (.putfield 59, 3) := by decide +kernel
theorem dX9_beginCells_15 : decode cX9_beginCells 15 = .ok (.aload_n 0, 1) := by decide +kernel
theorem dX9_beginCells_16 : decode cX9_beginCells 16 = .ok (.getfield 27, 3) := by decide +kernel
theorem dX9_beginCells_19 : decode cX9_beginCells 19 = .ok (.invokevirtual 86, 3) := by decide +kernel
theorem dX9_beginCells_22 : decode cX9_beginCells 22 = .ok (.iconst 1, 1) := by decide +kernel
theorem dX9_beginCells_23 : decode cX9_beginCells 23 = .ok (.ireturn, 1) := by decide +kernel
theorem dX9_readNumber_0 : decode cX9_readNumber 0 = .ok (.aload_n 0, 1) := by decide +kernel
theorem dX9_readNumber_1 : decode cX9_readNumber 1 = .ok (.getfield 27, 3) := by decide +kernel
theorem dX9_readNumber_4 : decode cX9_readNumber 4 = .ok (.getfield 66, 3) := by decide +kernel
theorem dX9_readNumber_7 : decode cX9_readNumber 7 = .ok (.iconst 1, 1) := by decide +kernel
theorem dX9_readNumber_8 : decode cX9_readNumber 8 = .ok (.if_icmp .eq 11, 3) := by decide +kernel
theorem dX9_readNumber_11 : decode cX9_readNumber 11 = .ok (.aload_n 0, 1) := by decide +kernel
theorem dX9_readNumber_12 : decode cX9_readNumber 12 = .ok (.iconst 1, 1) := by decide +kernel
theorem dX9_readNumber_13 : decode cX9_readNumber 13 = .ok (.invokevirtual 83, 3) := by decide +kernel
theorem dX9_readNumber_16 : decode cX9_readNumber 16 = .ok (.pop, 1) := by decide +kernel
theorem dX9_readNumber_17 : decode cX9_readNumber 17 = .ok (.iconst (-1), 1) := by decide +kernel
theorem dX9_readNumber_18 : decode cX9_readNumber 18 = .ok (.ireturn, 1) := by decide +kernel
theorem dX9_readNumber_19 : decode cX9_readNumber 19 = .ok (.aload_n 0, 1) := by decide +kernel
theorem dX9_readNumber_20 : decode cX9_readNumber 20 = .ok (.getfield 27, 3) := by decide +kernel
theorem dX9_readNumber_23 : decode cX9_readNumber 23 = .ok (.getfield 89, 3) := by decide +kernel
theorem dX9_readNumber_26 : decode cX9_readNumber 26 = .ok (.istore_n 3, 1) := by decide +kernel
theorem dX9_readNumber_27 : decode cX9_readNumber 27 = .ok (.iload_n 3, 1) := by decide +kernel
theorem dX9_readNumber_28 : decode cX9_readNumber 28 = .ok (.iload_n 1, 1) := by decide +kernel
theorem dX9_readNumber_29 : decode cX9_readNumber 29 = .ok (.if_icmp .lt 8, 3) := by decide +kernel
theorem dX9_readNumber_32 : decode cX9_readNumber 32 = .ok (.iload_n 3, 1) := by decide +kernel
theorem dX9_readNumber_33 : decode cX9_readNumber 33 = .ok (.iload_n 2, 1) := by decide +kernel
theorem dX9_readNumber_34 : decode cX9_readNumber 34 = .ok (.if_icmp .le 11, 3) := by decide +kernel
theorem dX9_readNumber_37 : decode cX9_readNumber 37 = .ok (.aload_n 0, 1) := by decide +kernel
theorem dX9_readNumber_38 : decode cX9_readNumber 38 = .ok (.iconst 2, 1) := by decide +kernel
theorem dX9_readNumber_39 : decode cX9_readNumber 39 = .ok (.invokevirtual 83, 3) := by decide +kernel
theorem dX9_readNumber_42 : decode cX9_readNumber 42 = .ok (.pop, 1) := by decide +kernel
theorem dX9_readNumber_43 : decode cX9_readNumber 43 = .ok (.iconst (-1), 1) := by decide +kernel
theorem dX9_readNumber_44 : decode cX9_readNumber 44 = .ok (.ireturn, 1) := by decide +kernel
theorem dX9_readNumber_45 : decode cX9_readNumber 45 = .ok (.aload_n 0, 1) := by decide +kernel
theorem dX9_readNumber_46 : decode cX9_readNumber 46 = .ok (.getfield 27, 3) := by decide +kernel
theorem dX9_readNumber_49 : decode cX9_readNumber 49 = .ok (.invokevirtual 86, 3) := by decide +kernel
theorem dX9_readNumber_52 : decode cX9_readNumber 52 = .ok (.iload_n 3, 1) := by decide +kernel
theorem dX9_readNumber_53 : decode cX9_readNumber 53 = .ok (.ireturn, 1) := by decide +kernel
theorem dX9_readCell_0 : decode cX9_readCell 0 = .ok (.aload_n 0, 1) := by decide +kernel
theorem dX9_readCell_1 : decode cX9_readCell 1 = .ok (.iconst 0, 1) := by decide +kernel
theorem dX9_readCell_2 : decode cX9_readCell 2 = .ok (.aload_n 0, 1) := by decide +kernel
theorem dX9_readCell_3 : decode cX9_readCell 3 = .ok (.getfield 31, 3) := by decide +kernel
theorem dX9_readCell_6 : decode cX9_readCell 6 = .ok (.getfield 170, 3) := by decide +kernel
theorem dX9_readCell_9 : decode cX9_readCell 9 = .ok (.iconst 1, 1) := by decide +kernel
theorem dX9_readCell_10 : decode cX9_readCell 10 = .ok (.isub, 1) := by decide +kernel
theorem dX9_readCell_11 : decode cX9_readCell 11 = .ok (.invokevirtual 173, 3) := by decide +kernel
theorem dX9_readCell_14 : decode cX9_readCell 14 = .ok (.istore_n 3, 1) := by decide +kernel
theorem dX9_readCell_15 : decode cX9_readCell 15 = .ok (.aload_n 0, 1) := by decide +kernel
theorem dX9_readCell_16 : decode cX9_readCell 16 = .ok (.getfield 27, 3) := by decide +kernel
theorem dX9_readCell_19 : decode cX9_readCell 19 = .ok (.getfield 76, 3) := by decide +kernel
theorem dX9_readCell_22 : decode cX9_readCell 22 = .ok (.istore 4, 2) := by decide +kernel
theorem dX9_readCell_24 : decode cX9_readCell 24 = .ok (.iload_n 3, 1) := by decide +kernel
theorem dX9_readCell_25 : decode cX9_readCell 25 = .ok (.ifCond .ge 7, 3) := by decide +kernel
theorem dX9_readCell_28 : decode cX9_readCell 28 = .ok (.iconst (-1), 1) := by decide +kernel
theorem dX9_readCell_29 : decode cX9_readCell 29 = .ok (.goto 17, 3) := by decide +kernel
theorem dX9_readCell_32 : decode cX9_readCell 32 = .ok (.aload_n 0, 1) := by decide +kernel
theorem dX9_readCell_33 : decode cX9_readCell 33 = .ok (.iconst 0, 1) := by decide +kernel
theorem dX9_readCell_34 : decode cX9_readCell 34 = .ok (.aload_n 0, 1) := by decide +kernel
theorem dX9_readCell_35 : decode cX9_readCell 35 = .ok (.getfield 31, 3) := by decide +kernel
theorem dX9_readCell_38 : decode cX9_readCell 38 = .ok (.getfield 177, 3) := by decide +kernel
theorem dX9_readCell_41 : decode cX9_readCell 41 = .ok (.iconst 1, 1) := by decide +kernel
theorem dX9_readCell_42 : decode cX9_readCell 42 = .ok (.isub, 1) := by decide +kernel
theorem dX9_readCell_43 : decode cX9_readCell 43 = .ok (.invokevirtual 173, 3) := by decide +kernel
theorem dX9_readCell_46 : decode cX9_readCell 46 = .ok (.istore 5, 2) := by decide +kernel
theorem dX9_readCell_48 : decode cX9_readCell 48 = .ok (.iload 5, 2) := by decide +kernel
theorem dX9_readCell_50 : decode cX9_readCell 50 = .ok (.ifCond .ge 5, 3) := by decide +kernel
theorem dX9_readCell_53 : decode cX9_readCell 53 = .ok (.iconst (-1), 1) := by decide +kernel
theorem dX9_readCell_54 : decode cX9_readCell 54 = .ok (.ireturn, 1) := by decide +kernel
theorem dX9_readCell_55 : decode cX9_readCell 55 = .ok (.iload 5, 2) := by decide +kernel
theorem dX9_readCell_57 : decode cX9_readCell 57 = .ok (.aload_n 0, 1) := by decide +kernel
theorem dX9_readCell_58 : decode cX9_readCell 58 = .ok (.getfield 31, 3) := by decide +kernel
theorem dX9_readCell_61 : decode cX9_readCell 61 = .ok (.getfield 170, 3) := by decide +kernel
theorem dX9_readCell_64 : decode cX9_readCell 64 = .ok (.imul, 1) := by decide +kernel
theorem dX9_readCell_65 : decode cX9_readCell 65 = .ok (.iload_n 3, 1) := by decide +kernel
theorem dX9_readCell_66 : decode cX9_readCell 66 = .ok (.iadd, 1) := by decide +kernel
theorem dX9_readCell_67 : decode cX9_readCell 67 = .ok (.istore 6, 2) := by decide +kernel
theorem dX9_readCell_69 : decode cX9_readCell 69 = .ok (.lload_n 1, 1) := by decide +kernel
theorem dX9_readCell_70 : decode cX9_readCell 70 = .ok (.iload 6, 2) := by decide +kernel
theorem dX9_readCell_72 : decode cX9_readCell 72 = .ok (.lushr, 1) := by decide +kernel
theorem dX9_readCell_73 : decode cX9_readCell 73 = .ok (.lconst 1, 1) := by decide +kernel
theorem dX9_readCell_74 : decode cX9_readCell 74 = .ok (.land, 1) := by decide +kernel
theorem dX9_readCell_75 : decode cX9_readCell 75 = .ok (.lconst 0, 1) := by decide +kernel
theorem dX9_readCell_76 : decode cX9_readCell 76 = .ok (.lcmp, 1) := by decide +kernel
theorem dX9_readCell_77 : decode cX9_readCell 77 = .ok (.ifCond .eq 16, 3) := by decide +kernel
theorem dX9_readCell_80 : decode cX9_readCell 80 = .ok (.aload_n 0, 1) := by decide +kernel
theorem dX9_readCell_81 : decode cX9_readCell 81 = .ok (.iconst 5, 1) := by decide +kernel
theorem dX9_readCell_82 : decode cX9_readCell 82 = .ok (.putfield 40, 3) := by decide +kernel
theorem dX9_readCell_85 : decode cX9_readCell 85 = .ok (.aload_n 0, 1) := by decide +kernel
theorem dX9_readCell_86 : decode cX9_readCell 86 = .ok (.iload 4, 2) := by decide +kernel
theorem dX9_readCell_88 : decode cX9_readCell 88 = .ok (.putfield 9, 3) := by decide +kernel
theorem dX9_readCell_91 : decode cX9_readCell 91 = .ok (.iconst (-1), 1) := by decide +kernel
theorem dX9_readCell_92 : decode cX9_readCell 92 = .ok (.ireturn, 1) := by decide +kernel
theorem dX9_readCell_93 : decode cX9_readCell 93 = .ok (.iload 6, 2) := by decide +kernel
theorem dX9_readCell_95 : decode cX9_readCell 95 = .ok (.ireturn, 1) := by decide +kernel
theorem dX9_readDrop_0 : decode cX9_readDrop 0 = .ok (.aload_n 0, 1) := by decide +kernel
theorem dX9_readDrop_1 : decode cX9_readDrop 1 = .ok (.aload_n 0, 1) := by decide +kernel
theorem dX9_readDrop_2 : decode cX9_readDrop 2 = .ok (.getfield 31, 3) := by decide +kernel
theorem dX9_readDrop_5 : decode cX9_readDrop 5 = .ok (.getfield 237, 3) := by decide +kernel
theorem dX9_readDrop_8 : decode cX9_readDrop 8 = .ok (.invokevirtual 241, 3) := by decide +kernel
theorem dX9_readDrop_11 : decode cX9_readDrop 11 = .ok (.invokevirtual 125, 3) := by decide +kernel
theorem dX9_readDrop_14 : decode cX9_readDrop 14 = .ok (.ifCond .ne 5, 3) := by decide +kernel
theorem dX9_readDrop_17 : decode cX9_readDrop 17 = .ok (.iconst 0, 1) := by decide +kernel
theorem dX9_readDrop_18 : decode cX9_readDrop 18 = .ok (.ireturn, 1) := by decide +kernel
theorem dX9_readDrop_19 : decode cX9_readDrop 19 = .ok (.aload_n 0, 1) := by decide +kernel
theorem dX9_readDrop_20 : decode cX9_readDrop 20 = .ok (.getfield 27, 3) := by decide +kernel
theorem dX9_readDrop_23 : decode cX9_readDrop 23 = .ok (.getfield 66, 3) := by decide +kernel
theorem dX9_readDrop_26 : decode cX9_readDrop 26 = .ok (.iconst 2, 1) := by decide +kernel
theorem dX9_readDrop_27 : decode cX9_readDrop 27 = .ok (.if_icmp .eq 9, 3) := by decide +kernel
theorem dX9_readDrop_30 : decode cX9_readDrop 30 = .ok (.aload_n 0, 1) := by decide +kernel
theorem dX9_readDrop_31 : decode cX9_readDrop 31 = .ok (.iconst 1, 1) := by decide +kernel
theorem dX9_readDrop_32 : decode cX9_readDrop 32 = .ok (.invokevirtual 83, 3) := by decide +kernel
theorem dX9_readDrop_35 : decode cX9_readDrop 35 = .ok (.ireturn, 1) := by decide +kernel
theorem dX9_readDrop_36 : decode cX9_readDrop 36 = .ok (.aload_n 0, 1) := by decide +kernel
theorem dX9_readDrop_37 : decode cX9_readDrop 37 = .ok (.getfield 31, 3) := by decide +kernel
theorem dX9_readDrop_40 : decode cX9_readDrop 40 = .ok (.getfield 210, 3) := by decide +kernel
theorem dX9_readDrop_43 : decode cX9_readDrop 43 = .ok (.aload_n 0, 1) := by decide +kernel
theorem dX9_readDrop_44 : decode cX9_readDrop 44 = .ok (.getfield 27, 3) := by decide +kernel
theorem dX9_readDrop_47 : decode cX9_readDrop 47 = .ok (.getfield 89, 3) := by decide +kernel
theorem dX9_readDrop_50 : decode cX9_readDrop 50 = .ok (.invokevirtual 180, 3) := by decide +kernel
theorem dX9_readDrop_53 : decode cX9_readDrop 53 = .ok (.istore_n 1, 1) := by decide +kernel
theorem dX9_readDrop_54 : decode cX9_readDrop 54 = .ok (.iload_n 1, 1) := by decide +kernel
theorem dX9_readDrop_55 : decode cX9_readDrop 55 = .ok (.ifCond .ge 9, 3) := by decide +kernel
theorem dX9_readDrop_58 : decode cX9_readDrop 58 = .ok (.aload_n 0, 1) := by decide +kernel
theorem dX9_readDrop_59 : decode cX9_readDrop 59 = .ok (.iconst 4, 1) := by decide +kernel
theorem dX9_readDrop_60 : decode cX9_readDrop 60 = .ok (.invokevirtual 83, 3) := by decide +kernel
theorem dX9_readDrop_63 : decode cX9_readDrop 63 = .ok (.ireturn, 1) := by decide +kernel
theorem dX9_readDrop_64 : decode cX9_readDrop 64 = .ok (.aload_n 0, 1) := by decide +kernel
theorem dX9_readDrop_65 : decode cX9_readDrop 65 = .ok (.getfield 27, 3) := by decide +kernel
theorem dX9_readDrop_68 : decode cX9_readDrop 68 = .ok (.invokevirtual 86, 3) := by decide +kernel
theorem dX9_readDrop_71 : decode cX9_readDrop 71 = .ok (.aload_n 0, 1) := by decide +kernel
theorem dX9_readDrop_72 : decode cX9_readDrop 72 = .ok (.aload_n 0, 1) := by decide +kernel
theorem dX9_readDrop_73 : decode cX9_readDrop 73 = .ok (.getfield 31, 3) := by decide +kernel
theorem dX9_readDrop_76 : decode cX9_readDrop 76 = .ok (.getfield 187, 3) := by decide +kernel
theorem dX9_readDrop_79 : decode cX9_readDrop 79 = .ok (.invokevirtual 201, 3) := by decide +kernel
theorem dX9_readDrop_82 : decode cX9_readDrop 82 = .ok (.istore_n 2, 1) := by decide +kernel
theorem dX9_readDrop_83 : decode cX9_readDrop 83 = .ok (.iload_n 2, 1) := by decide +kernel
theorem dX9_readDrop_84 : decode cX9_readDrop 84 = .ok (.ifCond .ge 7, 3) := by decide +kernel
theorem dX9_readDrop_87 : decode cX9_readDrop 87 = .ok (.iconst (-1), 1) := by decide +kernel
theorem dX9_readDrop_88 : decode cX9_readDrop 88 = .ok (.goto 10, 3) := by decide +kernel
theorem dX9_readDrop_91 : decode cX9_readDrop 91 = .ok (.aload_n 0, 1) := by decide +kernel
theorem dX9_readDrop_92 : decode cX9_readDrop 92 = .ok (.iconst 0, 1) := by decide +kernel
theorem dX9_readDrop_93 : decode cX9_readDrop 93 = .ok (.bipush 99, 2) := by decide +kernel
theorem dX9_readDrop_95 : decode cX9_readDrop 95 = .ok (.invokevirtual 173, 3) := by decide +kernel
theorem dX9_readDrop_98 : decode cX9_readDrop 98 = .ok (.istore_n 3, 1) := by decide +kernel
theorem dX9_readDrop_99 : decode cX9_readDrop 99 = .ok (.iload_n 3, 1) := by decide +kernel
theorem dX9_readDrop_100 : decode cX9_readDrop 100 = .ok (.ifCond .ge 5, 3) := by decide +kernel
theorem dX9_readDrop_103 : decode cX9_readDrop 103 = .ok (.iconst 0, 1) := by decide +kernel
theorem dX9_readDrop_104 : decode cX9_readDrop 104 = .ok (.ireturn, 1) := by decide +kernel
theorem dX9_readDrop_105 : decode cX9_readDrop 105 = .ok (.aload_n 0, 1) := by decide +kernel
theorem dX9_readDrop_106 : decode cX9_readDrop 106 = .ok (.getfield 31, 3) := by decide +kernel
theorem dX9_readDrop_109 : decode cX9_readDrop 109 = .ok (.getfield 237, 3) := by decide +kernel
theorem dX9_readDrop_112 : decode cX9_readDrop 112 = .ok (.iload_n 1, 1) := by decide +kernel
theorem dX9_readDrop_113 : decode cX9_readDrop 113 = .ok (.iload_n 2, 1) := by decide +kernel
theorem dX9_readDrop_114 : decode cX9_readDrop 114 = .ok (.iload_n 3, 1) := by decide +kernel
theorem dX9_readDrop_115 : decode cX9_readDrop 115 = .ok (.invokevirtual 244, 3) := by decide +kernel
theorem dX9_readDrop_118 : decode cX9_readDrop 118 = .ok (.iconst 1, 1) := by decide +kernel
theorem dX9_readDrop_119 : decode cX9_readDrop 119 = .ok (.ireturn, 1) := by decide +kernel
theorem dX9_readNewName_0 : decode cX9_readNewName 0 = .ok (.aload_n 0, 1) := by decide +kernel
theorem dX9_readNewName_1 : decode cX9_readNewName 1 = .ok (.getfield 27, 3) := by decide +kernel
theorem dX9_readNewName_4 : decode cX9_readNewName 4 = .ok (.getfield 66, 3) := by decide +kernel
theorem dX9_readNewName_7 : decode cX9_readNewName 7 = .ok (.iconst 2, 1) := by decide +kernel
theorem dX9_readNewName_8 : decode cX9_readNewName 8 = .ok (.if_icmp .eq 9, 3) := by decide +kernel
theorem dX9_readNewName_11 : decode cX9_readNewName 11 = .ok (.aload_n 0, 1) := by decide +kernel
theorem dX9_readNewName_12 : decode cX9_readNewName 12 = .ok (.iconst 1, 1) := by decide +kernel
theorem dX9_readNewName_13 : decode cX9_readNewName 13 = .ok (.invokevirtual 83, 3) := by decide +kernel
theorem dX9_readNewName_16 : decode cX9_readNewName 16 = .ok (.ireturn, 1) := by decide +kernel
theorem dX9_readNewName_17 : decode cX9_readNewName 17 = .ok (.aload_n 1, 1) := by decide +kernel
theorem dX9_readNewName_18 : decode cX9_readNewName 18 = .ok (.aload_n 0, 1) := by decide +kernel
theorem dX9_readNewName_19 : decode cX9_readNewName 19 = .ok (.getfield 27, 3) := by decide +kernel
theorem dX9_readNewName_22 : decode cX9_readNewName 22 = .ok (.getfield 89, 3) := by decide +kernel
theorem dX9_readNewName_25 : decode cX9_readNewName 25 = .ok (.invokevirtual 180, 3) := by decide +kernel
theorem dX9_readNewName_28 : decode cX9_readNewName 28 = .ok (.ifCond .lt 9, 3) := by decide +kernel
theorem dX9_readNewName_31 : decode cX9_readNewName 31 = .ok (.aload_n 0, 1) := by decide +kernel
theorem dX9_readNewName_32 : decode cX9_readNewName 32 = .ok (.iconst 3, 1) := by decide +kernel
theorem dX9_readNewName_33 : decode cX9_readNewName 33 = .ok (.invokevirtual 83, 3) := by decide +kernel
theorem dX9_readNewName_36 : decode cX9_readNewName 36 = .ok (.ireturn, 1) := by decide +kernel
theorem dX9_readNewName_37 : decode cX9_readNewName 37 = .ok (.aload_n 1, 1) := by decide +kernel
theorem dX9_readNewName_38 : decode cX9_readNewName 38 = .ok (.aload_n 0, 1) := by decide +kernel
theorem dX9_readNewName_39 : decode cX9_readNewName 39 = .ok (.getfield 27, 3) := by decide +kernel
theorem dX9_readNewName_42 : decode cX9_readNewName 42 = .ok (.getfield 89, 3) := by decide +kernel
theorem dX9_readNewName_45 : decode cX9_readNewName 45 = .ok (.invokevirtual 184, 3) := by decide +kernel
theorem dX9_readNewName_48 : decode cX9_readNewName 48 = .ok (.aload_n 0, 1) := by decide +kernel
theorem dX9_readNewName_49 : decode cX9_readNewName 49 = .ok (.getfield 27, 3) := by decide +kernel
theorem dX9_readNewName_52 : decode cX9_readNewName 52 = .ok (.invokevirtual 86, 3) := by decide +kernel
theorem dX9_readNewName_55 : decode cX9_readNewName 55 = .ok (.iconst 1, 1) := by decide +kernel
theorem dX9_readNewName_56 : decode cX9_readNewName 56 = .ok (.ireturn, 1) := by decide +kernel
theorem dX9_readRises_0 : decode cX9_readRises 0 = .ok (.iconst 0, 1) := by decide +kernel
theorem dX9_readRises_1 : decode cX9_readRises 1 = .ok (.istore_n 2, 1) := by decide +kernel
theorem dX9_readRises_2 : decode cX9_readRises 2 = .ok (.iload_n 2, 1) := by decide +kernel
theorem dX9_readRises_3 : decode cX9_readRises 3 = .ok (.bipush 6, 2) := by decide +kernel
theorem dX9_readRises_5 : decode cX9_readRises 5 = .ok (.if_icmp .gt 107, 3) := by decide +kernel
theorem dX9_readRises_8 : decode cX9_readRises 8 = .ok (.aload_n 0, 1) := by decide +kernel
theorem dX9_readRises_9 : decode cX9_readRises 9 = .ok (.getfield 27, 3) := by decide +kernel
theorem dX9_readRises_12 : decode cX9_readRises 12 = .ok (.bipush 16, 2) := by decide +kernel
theorem dX9_readRises_14 : decode cX9_readRises 14 = .ok (.invokevirtual 79, 3) := by decide +kernel
theorem dX9_readRises_17 : decode cX9_readRises 17 = .ok (.istore_n 3, 1) := by decide +kernel
theorem dX9_readRises_18 : decode cX9_readRises 18 = .ok (.iload_n 3, 1) := by decide +kernel
theorem dX9_readRises_19 : decode cX9_readRises 19 = .ok (.ifCond .ne 32, 3) := by decide +kernel
theorem dX9_readRises_22 : decode cX9_readRises 22 = .ok (.aload_n 0, 1) := by decide +kernel
theorem dX9_readRises_23 : decode cX9_readRises 23 = .ok (.getfield 27, 3) := by decide +kernel
theorem dX9_readRises_26 : decode cX9_readRises 26 = .ok (.getfield 66, 3) := by decide +kernel
theorem dX9_readRises_29 : decode cX9_readRises 29 = .ok (.iconst 1, 1) := by decide +kernel
theorem dX9_readRises_30 : decode cX9_readRises 30 = .ok (.if_icmp .eq 21, 3) := by decide +kernel
theorem dX9_readRises_33 : decode cX9_readRises 33 = .ok (.iload_n 2, 1) := by decide +kernel
theorem dX9_readRises_34 : decode cX9_readRises 34 = .ok (.ifCond .gt 11, 3) := by decide +kernel
theorem dX9_readRises_37 : decode cX9_readRises 37 = .ok (.aload_n 0, 1) := by decide +kernel
theorem dX9_readRises_38 : decode cX9_readRises 38 = .ok (.iconst 1, 1) := by decide +kernel
theorem dX9_readRises_39 : decode cX9_readRises 39 = .ok (.invokevirtual 83, 3) := by decide +kernel
theorem dX9_readRises_42 : decode cX9_readRises 42 = .ok (.ifCond .eq 7, 3) := by decide +kernel
theorem dX9_readRises_45 : decode cX9_readRises 45 = .ok (.iconst 1, 1) := by decide +kernel
theorem dX9_readRises_46 : decode cX9_readRises 46 = .ok (.goto 4, 3) := by decide +kernel
theorem dX9_readRises_49 : decode cX9_readRises 49 = .ok (.iconst 0, 1) := by decide +kernel
theorem dX9_readRises_50 : decode cX9_readRises 50 = .ok (.ireturn, 1) := by decide +kernel
theorem dX9_readRises_51 : decode cX9_readRises 51 = .ok (.iload_n 2, 1) := by decide +kernel
theorem dX9_readRises_52 : decode cX9_readRises 52 = .ok (.bipush 6, 2) := by decide +kernel
theorem dX9_readRises_54 : decode cX9_readRises 54 = .ok (.if_icmp .ne 9, 3) := by decide +kernel
theorem dX9_readRises_57 : decode cX9_readRises 57 = .ok (.aload_n 0, 1) := by decide +kernel
theorem dX9_readRises_58 : decode cX9_readRises 58 = .ok (.iconst 2, 1) := by decide +kernel
theorem dX9_readRises_59 : decode cX9_readRises 59 = .ok (.invokevirtual 83, 3) := by decide +kernel
theorem dX9_readRises_62 : decode cX9_readRises 62 = .ok (.ireturn, 1) := by decide +kernel
theorem dX9_readRises_63 : decode cX9_readRises 63 = .ok (.iload_n 3, 1) := by decide +kernel
theorem dX9_readRises_64 : decode cX9_readRises 64 = .ok (.ifCond .eq 10, 3) := by decide +kernel
theorem dX9_readRises_67 : decode cX9_readRises 67 = .ok (.aload_n 0, 1) := by decide +kernel
theorem dX9_readRises_68 : decode cX9_readRises 68 = .ok (.getfield 27, 3) := by decide +kernel
theorem dX9_readRises_71 : decode cX9_readRises 71 = .ok (.invokevirtual 86, 3) := by decide +kernel
theorem dX9_readRises_74 : decode cX9_readRises 74 = .ok (.aload_n 0, 1) := by decide +kernel
theorem dX9_readRises_75 : decode cX9_readRises 75 = .ok (.iconst 0, 1) := by decide +kernel
theorem dX9_readRises_76 : decode cX9_readRises 76 = .ok (.bipush 99, 2) := by decide +kernel
theorem dX9_readRises_78 : decode cX9_readRises 78 = .ok (.invokevirtual 173, 3) := by decide +kernel
theorem dX9_readRises_81 : decode cX9_readRises 81 = .ok (.istore 4, 2) := by decide +kernel
theorem dX9_readRises_83 : decode cX9_readRises 83 = .ok (.iload 4, 2) := by decide +kernel
theorem dX9_readRises_85 : decode cX9_readRises 85 = .ok (.ifCond .ge 5, 3) := by decide +kernel
theorem dX9_readRises_88 : decode cX9_readRises 88 = .ok (.iconst 0, 1) := by decide +kernel
theorem dX9_readRises_89 : decode cX9_readRises 89 = .ok (.ireturn, 1) := by decide +kernel
theorem dX9_readRises_90 : decode cX9_readRises 90 = .ok (.aload_n 1, 1) := by decide +kernel
theorem dX9_readRises_91 : decode cX9_readRises 91 = .ok (.iload_n 3, 1) := by decide +kernel
theorem dX9_readRises_92 : decode cX9_readRises 92 = .ok (.ifCond .eq 9, 3) := by decide +kernel
theorem dX9_readRises_95 : decode cX9_readRises 95 = .ok (.iload 4, 2) := by decide +kernel
theorem dX9_readRises_97 : decode cX9_readRises 97 = .ok (.ineg, 1) := by decide +kernel
theorem dX9_readRises_98 : decode cX9_readRises 98 = .ok (.goto 5, 3) := by decide +kernel
theorem dX9_readRises_101 : decode cX9_readRises 101 = .ok (.iload 4, 2) := by decide +kernel
theorem dX9_readRises_103 : decode cX9_readRises 103 = .ok (.invokevirtual 184, 3) := by decide +kernel
theorem dX9_readRises_106 : decode cX9_readRises 106 = .ok (.iinc 2 1, 3) := by decide +kernel
theorem dX9_readRises_109 : decode cX9_readRises 109 = .ok (.goto (-107), 3) := by decide +kernel
theorem dX9_readRises_112 : decode cX9_readRises 112 = .ok (.iconst 1, 1) := by decide +kernel
theorem dX9_readRises_113 : decode cX9_readRises 113 = .ok (.ireturn, 1) := by decide +kernel
theorem dX9_readKind_0 : decode cX9_readKind 0 = .ok (.aload_n 0, 1) := by decide +kernel
theorem dX9_readKind_1 : decode cX9_readKind 1 = .ok (.getfield 31, 3) := by decide +kernel
theorem dX9_readKind_4 : decode cX9_readKind 4 = .ok (.getfield 210, 3) := by decide +kernel
theorem dX9_readKind_7 : decode cX9_readKind 7 = .ok (.invokevirtual 120, 3) := by decide +kernel
theorem dX9_readKind_10 : decode cX9_readKind 10 = .ok (.ifCond .eq 9, 3) := by decide +kernel
theorem dX9_readKind_13 : decode cX9_readKind 13 = .ok (.aload_n 0, 1) := by decide +kernel
theorem dX9_readKind_14 : decode cX9_readKind 14 = .ok (.iconst 2, 1) := by decide +kernel
theorem dX9_readKind_15 : decode cX9_readKind 15 = .ok (.invokevirtual 83, 3) := by decide +kernel
theorem dX9_readKind_18 : decode cX9_readKind 18 = .ok (.ireturn, 1) := by decide +kernel
theorem dX9_readKind_19 : decode cX9_readKind 19 = .ok (.aload_n 0, 1) := by decide +kernel
theorem dX9_readKind_20 : decode cX9_readKind 20 = .ok (.getfield 27, 3) := by decide +kernel
theorem dX9_readKind_23 : decode cX9_readKind 23 = .ok (.invokevirtual 86, 3) := by decide +kernel
theorem dX9_readKind_26 : decode cX9_readKind 26 = .ok (.aload_n 0, 1) := by decide +kernel
theorem dX9_readKind_27 : decode cX9_readKind 27 = .ok (.getfield 31, 3) := by decide +kernel
theorem dX9_readKind_30 : decode cX9_readKind 30 = .ok (.aload_n 0, 1) := by decide +kernel
theorem dX9_readKind_31 : decode cX9_readKind 31 = .ok (.getfield 31, 3) := by decide +kernel
theorem dX9_readKind_34 : decode cX9_readKind 34 = .ok (.getfield 210, 3) := by decide +kernel
theorem dX9_readKind_37 : decode cX9_readKind 37 = .ok (.getfield 213, 3) := by decide +kernel
theorem dX9_readKind_40 : decode cX9_readKind 40 = .ok (.invokevirtual 216, 3) := by decide +kernel
theorem dX9_readKind_43 : decode cX9_readKind 43 = .ok (.astore_n 1, 1) := by decide +kernel
theorem dX9_readKind_44 : decode cX9_readKind 44 = .ok (.aload_n 0, 1) := by decide +kernel
theorem dX9_readKind_45 : decode cX9_readKind 45 = .ok (.aload_n 0, 1) := by decide +kernel
theorem dX9_readKind_46 : decode cX9_readKind 46 = .ok (.getfield 31, 3) := by decide +kernel
theorem dX9_readKind_49 : decode cX9_readKind 49 = .ok (.getfield 210, 3) := by decide +kernel
theorem dX9_readKind_52 : decode cX9_readKind 52 = .ok (.invokevirtual 220, 3) := by decide +kernel
theorem dX9_readKind_55 : decode cX9_readKind 55 = .ok (.ifCond .eq 11, 3) := by decide +kernel
theorem dX9_readKind_58 : decode cX9_readKind 58 = .ok (.aload_n 0, 1) := by decide +kernel
theorem dX9_readKind_59 : decode cX9_readKind 59 = .ok (.aload_n 1, 1) := by decide +kernel
theorem dX9_readKind_60 : decode cX9_readKind 60 = .ok (.invokevirtual 223, 3) := by decide +kernel
theorem dX9_readKind_63 : decode cX9_readKind 63 = .ok (.ifCond .ne 5, 3) := by decide +kernel
theorem dX9_readKind_66 : decode cX9_readKind 66 = .ok (.iconst 0, 1) := by decide +kernel
theorem dX9_readKind_67 : decode cX9_readKind 67 = .ok (.ireturn, 1) := by decide +kernel
theorem dX9_readKind_68 : decode cX9_readKind 68 = .ok (.iconst 1, 1) := by decide +kernel
theorem dX9_readKind_69 : decode cX9_readKind 69 = .ok (.istore_n 2, 1) := by decide +kernel
theorem dX9_readKind_70 : decode cX9_readKind 70 = .ok (.aload_n 0, 1) := by decide +kernel
theorem dX9_readKind_71 : decode cX9_readKind 71 = .ok (.getfield 27, 3) := by decide +kernel
theorem dX9_readKind_74 : decode cX9_readKind 74 = .ok (.getstatic 226, 3) := by decide +kernel
theorem dX9_readKind_77 : decode cX9_readKind 77 = .ok (.invokevirtual 230, 3) := by decide +kernel
theorem dX9_readKind_80 : decode cX9_readKind 80 = .ok (.ifCond .eq 18, 3) := by decide +kernel
theorem dX9_readKind_83 : decode cX9_readKind 83 = .ok (.aload_n 0, 1) := by decide +kernel
theorem dX9_readKind_84 : decode cX9_readKind 84 = .ok (.getfield 27, 3) := by decide +kernel
theorem dX9_readKind_87 : decode cX9_readKind 87 = .ok (.invokevirtual 86, 3) := by decide +kernel
theorem dX9_readKind_90 : decode cX9_readKind 90 = .ok (.aload_n 0, 1) := by decide +kernel
theorem dX9_readKind_91 : decode cX9_readKind 91 = .ok (.iconst 1, 1) := by decide +kernel
theorem dX9_readKind_92 : decode cX9_readKind 92 = .ok (.bipush 99, 2) := by decide +kernel
theorem dX9_readKind_94 : decode cX9_readKind 94 = .ok (.invokevirtual 173, 3) := by decide +kernel
theorem dX9_readKind_97 : decode cX9_readKind 97 = .ok (.istore_n 2, 1) := by decide +kernel
theorem dX9_readKind_98 : decode cX9_readKind 98 = .ok (.aload_n 0, 1) := by decide +kernel
theorem dX9_readKind_99 : decode cX9_readKind 99 = .ok (.getfield 31, 3) := by decide +kernel
theorem dX9_readKind_102 : decode cX9_readKind 102 = .ok (.getfield 234, 3) := by decide +kernel
theorem dX9_readKind_105 : decode cX9_readKind 105 = .ok (.iload_n 2, 1) := by decide +kernel
theorem dX9_readKind_106 : decode cX9_readKind 106 = .ok (.invokevirtual 184, 3) := by decide +kernel
theorem dX9_readKind_109 : decode cX9_readKind 109 = .ok (.iload_n 2, 1) := by decide +kernel
theorem dX9_readKind_110 : decode cX9_readKind 110 = .ok (.ifCond .le 7, 3) := by decide +kernel
theorem dX9_readKind_113 : decode cX9_readKind 113 = .ok (.iconst 1, 1) := by decide +kernel
theorem dX9_readKind_114 : decode cX9_readKind 114 = .ok (.goto 4, 3) := by decide +kernel
theorem dX9_readKind_117 : decode cX9_readKind 117 = .ok (.iconst 0, 1) := by decide +kernel
theorem dX9_readKind_118 : decode cX9_readKind 118 = .ok (.ireturn, 1) := by decide +kernel
theorem dX9_readLand_0 : decode cX9_readLand 0 = .ok (.aload_n 0, 1) := by decide +kernel
theorem dX9_readLand_1 : decode cX9_readLand 1 = .ok (.aload_n 0, 1) := by decide +kernel
theorem dX9_readLand_2 : decode cX9_readLand 2 = .ok (.getfield 31, 3) := by decide +kernel
theorem dX9_readLand_5 : decode cX9_readLand 5 = .ok (.getfield 187, 3) := by decide +kernel
theorem dX9_readLand_8 : decode cX9_readLand 8 = .ok (.invokestatic 191, 3) := by decide +kernel
theorem dX9_readLand_11 : decode cX9_readLand 11 = .ok (.bipush 20, 2) := by decide +kernel
theorem dX9_readLand_13 : decode cX9_readLand 13 = .ok (.if_icmp .lt 7, 3) := by decide +kernel
theorem dX9_readLand_16 : decode cX9_readLand 16 = .ok (.iconst 1, 1) := by decide +kernel
theorem dX9_readLand_17 : decode cX9_readLand 17 = .ok (.goto 4, 3) := by decide +kernel
theorem dX9_readLand_20 : decode cX9_readLand 20 = .ok (.iconst 0, 1) := by decide +kernel
theorem dX9_readLand_21 : decode cX9_readLand 21 = .ok (.invokevirtual 125, 3) := by decide +kernel
theorem dX9_readLand_24 : decode cX9_readLand 24 = .ok (.ifCond .ne 5, 3) := by decide +kernel
theorem dX9_readLand_27 : decode cX9_readLand 27 = .ok (.iconst 0, 1) := by decide +kernel
theorem dX9_readLand_28 : decode cX9_readLand 28 = .ok (.ireturn, 1) := by decide +kernel
theorem dX9_readLand_29 : decode cX9_readLand 29 = .ok (.aload_n 0, 1) := by decide +kernel
theorem dX9_readLand_30 : decode cX9_readLand 30 = .ok (.aload_n 0, 1) := by decide +kernel
theorem dX9_readLand_31 : decode cX9_readLand 31 = .ok (.getfield 31, 3) := by decide +kernel
theorem dX9_readLand_34 : decode cX9_readLand 34 = .ok (.getfield 187, 3) := by decide +kernel
theorem dX9_readLand_37 : decode cX9_readLand 37 = .ok (.aload_n 0, 1) := by decide +kernel
theorem dX9_readLand_38 : decode cX9_readLand 38 = .ok (.getfield 31, 3) := by decide +kernel
theorem dX9_readLand_41 : decode cX9_readLand 41 = .ok (.invokevirtual 197, 3) := by decide +kernel
theorem dX9_readLand_44 : decode cX9_readLand 44 = .ok (.lor, 1) := by decide +kernel
theorem dX9_readLand_45 : decode cX9_readLand 45 = .ok (.invokevirtual 201, 3) := by decide +kernel
theorem dX9_readLand_48 : decode cX9_readLand 48 = .ok (.istore_n 1, 1) := by decide +kernel
theorem dX9_readLand_49 : decode cX9_readLand 49 = .ok (.iload_n 1, 1) := by decide +kernel
theorem dX9_readLand_50 : decode cX9_readLand 50 = .ok (.ifCond .ge 5, 3) := by decide +kernel
theorem dX9_readLand_53 : decode cX9_readLand 53 = .ok (.iconst 0, 1) := by decide +kernel
theorem dX9_readLand_54 : decode cX9_readLand 54 = .ok (.ireturn, 1) := by decide +kernel
theorem dX9_readLand_55 : decode cX9_readLand 55 = .ok (.aload_n 0, 1) := by decide +kernel
theorem dX9_readLand_56 : decode cX9_readLand 56 = .ok (.getfield 31, 3) := by decide +kernel
theorem dX9_readLand_59 : decode cX9_readLand 59 = .ok (.dup, 1) := by decide +kernel
theorem dX9_readLand_60 : decode cX9_readLand 60 = .ok (.getfield 187, 3) := by decide +kernel
theorem dX9_readLand_63 : decode cX9_readLand 63 = .ok (.lconst 1, 1) := by decide +kernel
theorem dX9_readLand_64 : decode cX9_readLand 64 = .ok (.iload_n 1, 1) := by decide +kernel
theorem dX9_readLand_65 : decode cX9_readLand 65 = .ok (.lshl, 1) := by decide +kernel
theorem dX9_readLand_66 : decode cX9_readLand 66 = .ok (.lor, 1) := by decide +kernel
theorem dX9_readLand_67 : decode cX9_readLand 67 = .ok (.putfield 187, 3) := by decide +kernel
theorem dX9_readLand_70 : decode cX9_readLand 70 = .ok (.iconst 1, 1) := by decide +kernel
theorem dX9_readLand_71 : decode cX9_readLand 71 = .ok (.ireturn, 1) := by decide +kernel
theorem dX9_lawEnds_0 : decode cX9_lawEnds 0 = .ok (.aload_n 0, 1) := by decide +kernel
theorem dX9_lawEnds_1 : decode cX9_lawEnds 1 = .ok (.getfield 292, 3) := by decide +kernel
theorem dX9_lawEnds_4 : decode cX9_lawEnds 4 = .ok (.ifCond .eq 26, 3) := by decide +kernel
theorem dX9_lawEnds_7 : decode cX9_lawEnds 7 = .ok (.aload_n 0, 1) := by decide +kernel
theorem dX9_lawEnds_8 : decode cX9_lawEnds 8 = .ok (.getfield 286, 3) := by decide +kernel
theorem dX9_lawEnds_11 : decode cX9_lawEnds 11 = .ok (.ifCond .ne 19, 3) := by decide +kernel
theorem dX9_lawEnds_14 : decode cX9_lawEnds 14 = .ok (.aload_n 0, 1) := by decide +kernel
theorem dX9_lawEnds_15 : decode cX9_lawEnds 15 = .ok (.getfield 27, 3) := by decide +kernel
theorem dX9_lawEnds_18 : decode cX9_lawEnds 18 = .ok (.bipush 21, 2) := by decide +kernel
theorem dX9_lawEnds_20 : decode cX9_lawEnds 20 = .ok (.invokevirtual 79, 3) := by decide +kernel
theorem dX9_lawEnds_23 : decode cX9_lawEnds 23 = .ok (.ifCond .eq 7, 3) := by decide +kernel
theorem dX9_lawEnds_26 : decode cX9_lawEnds 26 = .ok (.iconst 1, 1) := by decide +kernel
theorem dX9_lawEnds_27 : decode cX9_lawEnds 27 = .ok (.goto 4, 3) := by decide +kernel
theorem dX9_lawEnds_30 : decode cX9_lawEnds 30 = .ok (.iconst 0, 1) := by decide +kernel
theorem dX9_lawEnds_31 : decode cX9_lawEnds 31 = .ok (.ireturn, 1) := by decide +kernel
theorem dX9_hold_0 : decode cX9_hold 0 = .ok (.aload_n 0, 1) := by decide +kernel
theorem dX9_hold_1 : decode cX9_hold 1 = .ok (.getfield 283, 3) := by decide +kernel
theorem dX9_hold_4 : decode cX9_hold 4 = .ok (.ifCond .lt 15, 3) := by decide +kernel
theorem dX9_hold_7 : decode cX9_hold 7 = .ok (.aload_n 0, 1) := by decide +kernel
theorem dX9_hold_8 : decode cX9_hold 8 = .ok (.getfield 283, 3) := by decide +kernel
theorem dX9_hold_11 : decode cX9_hold 11 = .ok (.aload_n 0, 1) := by decide +kernel
theorem dX9_hold_12 : decode cX9_hold 12 = .ok (.getfield 15, 3) := by decide +kernel
theorem dX9_hold_15 : decode cX9_hold 15 = .ok (.arraylength, 1) := by decide +kernel
theorem dX9_hold_16 : decode cX9_hold 16 = .ok (.if_icmp .lt 9, 3) := by decide +kernel
theorem dX9_hold_19 : decode cX9_hold 19 = .ok (.aload_n 0, 1) := by decide +kernel
theorem dX9_hold_20 : decode cX9_hold 20 = .ok (.iconst 2, 1) := by decide +kernel
theorem dX9_hold_21 : decode cX9_hold 21 = .ok (.invokevirtual 83, 3) := by decide +kernel
theorem dX9_hold_24 : decode cX9_hold 24 = .ok (.ireturn, 1) := by decide +kernel
theorem dX9_hold_25 : decode cX9_hold 25 = .ok (.aload_n 0, 1) := by decide +kernel
theorem dX9_hold_26 : decode cX9_hold 26 = .ok (.getfield 15, 3) := by decide +kernel
theorem dX9_hold_29 : decode cX9_hold 29 = .ok (.aload_n 0, 1) := by decide +kernel
theorem dX9_hold_30 : decode cX9_hold 30 = .ok (.getfield 283, 3) := by decide +kernel
theorem dX9_hold_33 : decode cX9_hold 33 = .ok (.iload_n 1, 1) := by decide +kernel
theorem dX9_hold_34 : decode cX9_hold 34 = .ok (.iastore, 1) := by decide +kernel
theorem dX9_hold_35 : decode cX9_hold 35 = .ok (.aload_n 0, 1) := by decide +kernel
theorem dX9_hold_36 : decode cX9_hold 36 = .ok (.getfield 19, 3) := by decide +kernel
theorem dX9_hold_39 : decode cX9_hold 39 = .ok (.aload_n 0, 1) := by decide +kernel
theorem dX9_hold_40 : decode cX9_hold 40 = .ok (.getfield 283, 3) := by decide +kernel
theorem dX9_hold_43 : decode cX9_hold 43 = .ok (.iload_n 2, 1) := by decide +kernel
theorem dX9_hold_44 : decode cX9_hold 44 = .ok (.iastore, 1) := by decide +kernel
theorem dX9_hold_45 : decode cX9_hold 45 = .ok (.aload_n 0, 1) := by decide +kernel
theorem dX9_hold_46 : decode cX9_hold 46 = .ok (.dup, 1) := by decide +kernel
theorem dX9_hold_47 : decode cX9_hold 47 = .ok (.getfield 283, 3) := by decide +kernel
theorem dX9_hold_50 : decode cX9_hold 50 = .ok (.iconst 1, 1) := by decide +kernel
theorem dX9_hold_51 : decode cX9_hold 51 = .ok (.iadd, 1) := by decide +kernel
theorem dX9_hold_52 : decode cX9_hold 52 = .ok (.putfield 283, 3) := by decide +kernel
theorem dX9_hold_55 : decode cX9_hold 55 = .ok (.iconst 1, 1) := by decide +kernel
theorem dX9_hold_56 : decode cX9_hold 56 = .ok (.ireturn, 1) := by decide +kernel
theorem dX9_isRoomForKnot_0 : decode cX9_isRoomForKnot 0 = .ok (.aload_n 0, 1) := by decide +kernel
theorem dX9_isRoomForKnot_1 : decode cX9_isRoomForKnot 1 = .ok (.getfield 289, 3) := by decide +kernel
theorem dX9_isRoomForKnot_4 : decode cX9_isRoomForKnot 4 = .ok (.bipush 64, 2) := by decide +kernel
theorem dX9_isRoomForKnot_6 : decode cX9_isRoomForKnot 6 = .ok (.if_icmp .lt 9, 3) := by decide +kernel
theorem dX9_isRoomForKnot_9 : decode cX9_isRoomForKnot 9 = .ok (.aload_n 0, 1) := by decide +kernel
theorem dX9_isRoomForKnot_10 : decode cX9_isRoomForKnot 10 = .ok (.iconst 2, 1) := by decide +kernel
theorem dX9_isRoomForKnot_11 : decode cX9_isRoomForKnot 11 = .ok (.invokevirtual 83, 3) := by decide +kernel
theorem dX9_isRoomForKnot_14 : decode cX9_isRoomForKnot 14 = .ok (.ireturn, 1) := by decide +kernel
theorem dX9_isRoomForKnot_15 : decode cX9_isRoomForKnot 15 = .ok (.aload_n 0, 1) := by decide +kernel
theorem dX9_isRoomForKnot_16 : decode cX9_isRoomForKnot 16 = .ok (.dup, 1) := by decide +kernel
theorem dX9_isRoomForKnot_17 : decode cX9_isRoomForKnot 17 = .ok (.getfield 289, 3) := by decide +kernel
theorem dX9_isRoomForKnot_20 : decode cX9_isRoomForKnot 20 = .ok (.iconst 1, 1) := by decide +kernel
theorem dX9_isRoomForKnot_21 : decode cX9_isRoomForKnot 21 = .ok (.iadd, 1) := by decide +kernel
theorem dX9_isRoomForKnot_22 : decode cX9_isRoomForKnot 22 = .ok (.putfield 289, 3) := by decide +kernel
theorem dX9_isRoomForKnot_25 : decode cX9_isRoomForKnot 25 = .ok (.iconst 1, 1) := by decide +kernel
theorem dX9_isRoomForKnot_26 : decode cX9_isRoomForKnot 26 = .ok (.ireturn, 1) := by decide +kernel
theorem dX9_rankOf_0 : decode cX9_rankOf 0 = .ok (.iload_n 0, 1) := by decide +kernel
theorem dX9_rankOf_1 : decode cX9_rankOf 1 = .ok (.tableswitch 72 7 18 #[63, 65, 72, 72, 72, 72, 72, 72, 67, 67, 69, 69], 63) := by decide +kernel
theorem dX9_rankOf_64 : decode cX9_rankOf 64 = .ok (.iconst 1, 1) := by decide +kernel
theorem dX9_rankOf_65 : decode cX9_rankOf 65 = .ok (.ireturn, 1) := by decide +kernel
theorem dX9_rankOf_66 : decode cX9_rankOf 66 = .ok (.iconst 2, 1) := by decide +kernel
theorem dX9_rankOf_67 : decode cX9_rankOf 67 = .ok (.ireturn, 1) := by decide +kernel
theorem dX9_rankOf_68 : decode cX9_rankOf 68 = .ok (.iconst 5, 1) := by decide +kernel
theorem dX9_rankOf_69 : decode cX9_rankOf 69 = .ok (.ireturn, 1) := by decide +kernel
theorem dX9_rankOf_70 : decode cX9_rankOf 70 = .ok (.bipush 6, 2) := by decide +kernel
theorem dX9_rankOf_72 : decode cX9_rankOf 72 = .ok (.ireturn, 1) := by decide +kernel
theorem dX9_rankOf_73 : decode cX9_rankOf 73 = .ok (.iconst 4, 1) := by decide +kernel
theorem dX9_rankOf_74 : decode cX9_rankOf 74 = .ok (.ireturn, 1) := by decide +kernel
theorem dX9_topRank_0 : decode cX9_topRank 0 = .ok (.aload_n 0, 1) := by decide +kernel
theorem dX9_topRank_1 : decode cX9_topRank 1 = .ok (.getfield 283, 3) := by decide +kernel
theorem dX9_topRank_4 : decode cX9_topRank 4 = .ok (.ifCond .le 19, 3) := by decide +kernel
theorem dX9_topRank_7 : decode cX9_topRank 7 = .ok (.aload_n 0, 1) := by decide +kernel
theorem dX9_topRank_8 : decode cX9_topRank 8 = .ok (.getfield 283, 3) := by decide +kernel
theorem dX9_topRank_11 : decode cX9_topRank 11 = .ok (.aload_n 0, 1) := by decide +kernel
theorem dX9_topRank_12 : decode cX9_topRank 12 = .ok (.getfield 19, 3) := by decide +kernel
theorem dX9_topRank_15 : decode cX9_topRank 15 = .ok (.arraylength, 1) := by decide +kernel
theorem dX9_topRank_16 : decode cX9_topRank 16 = .ok (.if_icmp .gt 7, 3) := by decide +kernel
theorem dX9_topRank_19 : decode cX9_topRank 19 = .ok (.iconst 1, 1) := by decide +kernel
theorem dX9_topRank_20 : decode cX9_topRank 20 = .ok (.goto 4, 3) := by decide +kernel
theorem dX9_topRank_23 : decode cX9_topRank 23 = .ok (.iconst 0, 1) := by decide +kernel
theorem dX9_topRank_24 : decode cX9_topRank 24 = .ok (.istore_n 1, 1) := by decide +kernel
theorem dX9_topRank_25 : decode cX9_topRank 25 = .ok (.iload_n 1, 1) := by decide +kernel
theorem dX9_topRank_26 : decode cX9_topRank 26 = .ok (.ifCond .eq 17, 3) := by decide +kernel
theorem dX9_topRank_29 : decode cX9_topRank 29 = .ok (.aload_n 0, 1) := by decide +kernel
theorem dX9_topRank_30 : decode cX9_topRank 30 = .ok (.getfield 19, 3) := by decide +kernel
theorem dX9_topRank_33 : decode cX9_topRank 33 = .ok (.aload_n 0, 1) := by decide +kernel
theorem dX9_topRank_34 : decode cX9_topRank 34 = .ok (.getfield 283, 3) := by decide +kernel
theorem dX9_topRank_37 : decode cX9_topRank 37 = .ok (.iconst 1, 1) := by decide +kernel
theorem dX9_topRank_38 : decode cX9_topRank 38 = .ok (.isub, 1) := by decide +kernel
theorem dX9_topRank_39 : decode cX9_topRank 39 = .ok (.iaload, 1) := by decide +kernel
theorem dX9_topRank_40 : decode cX9_topRank 40 = .ok (.goto 4, 3) := by decide +kernel
theorem dX9_topRank_43 : decode cX9_topRank 43 = .ok (.iconst 0, 1) := by decide +kernel
theorem dX9_topRank_44 : decode cX9_topRank 44 = .ok (.ireturn, 1) := by decide +kernel
theorem dX9_release_0 : decode cX9_release 0 = .ok (.aload_n 0, 1) := by decide +kernel
theorem dX9_release_1 : decode cX9_release 1 = .ok (.getfield 283, 3) := by decide +kernel
theorem dX9_release_4 : decode cX9_release 4 = .ok (.ifCond .le 56, 3) := by decide +kernel
theorem dX9_release_7 : decode cX9_release 7 = .ok (.aload_n 0, 1) := by decide +kernel
theorem dX9_release_8 : decode cX9_release 8 = .ok (.getfield 283, 3) := by decide +kernel
theorem dX9_release_11 : decode cX9_release 11 = .ok (.aload_n 0, 1) := by decide +kernel
theorem dX9_release_12 : decode cX9_release 12 = .ok (.getfield 15, 3) := by decide +kernel
theorem dX9_release_15 : decode cX9_release 15 = .ok (.arraylength, 1) := by decide +kernel
theorem dX9_release_16 : decode cX9_release 16 = .ok (.if_icmp .gt 44, 3) := by decide +kernel
theorem dX9_release_19 : decode cX9_release 19 = .ok (.aload_n 0, 1) := by decide +kernel
theorem dX9_release_20 : decode cX9_release 20 = .ok (.invokevirtual 317, 3) := by decide +kernel
theorem dX9_release_23 : decode cX9_release 23 = .ok (.iload_n 1, 1) := by decide +kernel
theorem dX9_release_24 : decode cX9_release 24 = .ok (.if_icmp .lt 36, 3) := by decide +kernel
theorem dX9_release_27 : decode cX9_release 27 = .ok (.aload_n 0, 1) := by decide +kernel
theorem dX9_release_28 : decode cX9_release 28 = .ok (.dup, 1) := by decide +kernel
theorem dX9_release_29 : decode cX9_release 29 = .ok (.getfield 283, 3) := by decide +kernel
theorem dX9_release_32 : decode cX9_release 32 = .ok (.iconst 1, 1) := by decide +kernel
theorem dX9_release_33 : decode cX9_release 33 = .ok (.isub, 1) := by decide +kernel
theorem dX9_release_34 : decode cX9_release 34 = .ok (.putfield 283, 3) := by decide +kernel
theorem dX9_release_37 : decode cX9_release 37 = .ok (.aload_n 0, 1) := by decide +kernel
theorem dX9_release_38 : decode cX9_release 38 = .ok (.getfield 31, 3) := by decide +kernel
theorem dX9_release_41 : decode cX9_release 41 = .ok (.getfield 274, 3) := by decide +kernel
theorem dX9_release_44 : decode cX9_release 44 = .ok (.aload_n 0, 1) := by decide +kernel
theorem dX9_release_45 : decode cX9_release 45 = .ok (.getfield 15, 3) := by decide +kernel
theorem dX9_release_48 : decode cX9_release 48 = .ok (.aload_n 0, 1) := by decide +kernel
theorem dX9_release_49 : decode cX9_release 49 = .ok (.getfield 283, 3) := by decide +kernel
theorem dX9_release_52 : decode cX9_release 52 = .ok (.iaload, 1) := by decide +kernel
theorem dX9_release_53 : decode cX9_release 53 = .ok (.iconst 0, 1) := by decide +kernel
theorem dX9_release_54 : decode cX9_release 54 = .ok (.invokevirtual 326, 3) := by decide +kernel
theorem dX9_release_57 : decode cX9_release 57 = .ok (.goto (-57), 3) := by decide +kernel
theorem dX9_release_60 : decode cX9_release 60 = .ok (.return_, 1) := by decide +kernel
theorem dX9_readClose_0 : decode cX9_readClose 0 = .ok (.aload_n 0, 1) := by decide +kernel
theorem dX9_readClose_1 : decode cX9_readClose 1 = .ok (.getfield 286, 3) := by decide +kernel
theorem dX9_readClose_4 : decode cX9_readClose 4 = .ok (.ifCond .gt 9, 3) := by decide +kernel
theorem dX9_readClose_7 : decode cX9_readClose 7 = .ok (.aload_n 0, 1) := by decide +kernel
theorem dX9_readClose_8 : decode cX9_readClose 8 = .ok (.iconst 1, 1) := by decide +kernel
theorem dX9_readClose_9 : decode cX9_readClose 9 = .ok (.invokevirtual 83, 3) := by decide +kernel
theorem dX9_readClose_12 : decode cX9_readClose 12 = .ok (.ireturn, 1) := by decide +kernel
theorem dX9_readClose_13 : decode cX9_readClose 13 = .ok (.aload_n 0, 1) := by decide +kernel
theorem dX9_readClose_14 : decode cX9_readClose 14 = .ok (.iconst 1, 1) := by decide +kernel
theorem dX9_readClose_15 : decode cX9_readClose 15 = .ok (.invokevirtual 304, 3) := by decide +kernel
theorem dX9_readClose_18 : decode cX9_readClose 18 = .ok (.aload_n 0, 1) := by decide +kernel
theorem dX9_readClose_19 : decode cX9_readClose 19 = .ok (.dup, 1) := by decide +kernel
theorem dX9_readClose_20 : decode cX9_readClose 20 = .ok (.getfield 286, 3) := by decide +kernel
theorem dX9_readClose_23 : decode cX9_readClose 23 = .ok (.iconst 1, 1) := by decide +kernel
theorem dX9_readClose_24 : decode cX9_readClose 24 = .ok (.isub, 1) := by decide +kernel
theorem dX9_readClose_25 : decode cX9_readClose 25 = .ok (.putfield 286, 3) := by decide +kernel
theorem dX9_readClose_28 : decode cX9_readClose 28 = .ok (.aload_n 0, 1) := by decide +kernel
theorem dX9_readClose_29 : decode cX9_readClose 29 = .ok (.aload_n 0, 1) := by decide +kernel
theorem dX9_readClose_30 : decode cX9_readClose 30 = .ok (.getfield 283, 3) := by decide +kernel
theorem dX9_readClose_33 : decode cX9_readClose 33 = .ok (.iconst 1, 1) := by decide +kernel
theorem dX9_readClose_34 : decode cX9_readClose 34 = .ok (.isub, 1) := by decide +kernel
theorem dX9_readClose_35 : decode cX9_readClose 35 = .ok (.iconst 0, 1) := by decide +kernel
theorem dX9_readClose_36 : decode cX9_readClose 36 = .ok (.invokestatic 251, 3) := by decide +kernel
theorem dX9_readClose_39 : decode cX9_readClose 39 = .ok (.putfield 283, 3) := by decide +kernel
theorem dX9_readClose_42 : decode cX9_readClose 42 = .ok (.iconst 1, 1) := by decide +kernel
theorem dX9_readClose_43 : decode cX9_readClose 43 = .ok (.ireturn, 1) := by decide +kernel
theorem dX9_wordCode_0 : decode cX9_wordCode 0 = .ok (.aload_n 0, 1) := by decide +kernel
theorem dX9_wordCode_1 : decode cX9_wordCode 1 = .ok (.getfield 27, 3) := by decide +kernel
theorem dX9_wordCode_4 : decode cX9_wordCode 4 = .ok (.getfield 66, 3) := by decide +kernel
theorem dX9_wordCode_7 : decode cX9_wordCode 7 = .ok (.iconst 3, 1) := by decide +kernel
theorem dX9_wordCode_8 : decode cX9_wordCode 8 = .ok (.if_icmp .ne 16, 3) := by decide +kernel
theorem dX9_wordCode_11 : decode cX9_wordCode 11 = .ok (.aload_n 0, 1) := by decide +kernel
theorem dX9_wordCode_12 : decode cX9_wordCode 12 = .ok (.getfield 27, 3) := by decide +kernel
theorem dX9_wordCode_15 : decode cX9_wordCode 15 = .ok (.getfield 89, 3) := by decide +kernel
theorem dX9_wordCode_18 : decode cX9_wordCode 18 = .ok (.invokestatic 92, 3) := by decide +kernel
theorem dX9_wordCode_21 : decode cX9_wordCode 21 = .ok (.goto 4, 3) := by decide +kernel
theorem dX9_wordCode_24 : decode cX9_wordCode 24 = .ok (.aconst_null, 1) := by decide +kernel
theorem dX9_wordCode_25 : decode cX9_wordCode 25 = .ok (.astore_n 1, 1) := by decide +kernel
theorem dX9_wordCode_26 : decode cX9_wordCode 26 = .ok (.aload_n 1, 1) := by decide +kernel
theorem dX9_wordCode_27 : decode cX9_wordCode 27 = .ok (.ifnonnull 7, 3) := by decide +kernel
theorem dX9_wordCode_30 : decode cX9_wordCode 30 = .ok (.iconst (-1), 1) := by decide +kernel
theorem dX9_wordCode_31 : decode cX9_wordCode 31 = .ok (.goto 7, 3) := by decide +kernel
theorem dX9_wordCode_34 : decode cX9_wordCode 34 = .ok (.aload_n 1, 1) := by decide +kernel
theorem dX9_wordCode_35 : decode cX9_wordCode 35 = .ok (.getfield 323, 3) := by decide +kernel
theorem dX9_wordCode_38 : decode cX9_wordCode 38 = .ok (.ireturn, 1) := by decide +kernel
theorem dX9_readBehindOperand_0 : decode cX9_readBehindOperand 0 = .ok (.aload_n 0, 1) := by decide +kernel
theorem dX9_readBehindOperand_1 : decode cX9_readBehindOperand 1 = .ok (.getfield 27, 3) := by decide +kernel
theorem dX9_readBehindOperand_4 : decode cX9_readBehindOperand 4 = .ok (.bipush 20, 2) := by decide +kernel
theorem dX9_readBehindOperand_6 : decode cX9_readBehindOperand 6 = .ok (.invokevirtual 79, 3) := by decide +kernel
theorem dX9_readBehindOperand_9 : decode cX9_readBehindOperand 9 = .ok (.ifCond .eq 8, 3) := by decide +kernel
theorem dX9_readBehindOperand_12 : decode cX9_readBehindOperand 12 = .ok (.aload_n 0, 1) := by decide +kernel
theorem dX9_readBehindOperand_13 : decode cX9_readBehindOperand 13 = .ok (.invokevirtual 329, 3) := by decide +kernel
theorem dX9_readBehindOperand_16 : decode cX9_readBehindOperand 16 = .ok (.ireturn, 1) := by decide +kernel
theorem dX9_readBehindOperand_17 : decode cX9_readBehindOperand 17 = .ok (.aload_n 0, 1) := by decide +kernel
theorem dX9_readBehindOperand_18 : decode cX9_readBehindOperand 18 = .ok (.getfield 27, 3) := by decide +kernel
theorem dX9_readBehindOperand_21 : decode cX9_readBehindOperand 21 = .ok (.getfield 66, 3) := by decide +kernel
theorem dX9_readBehindOperand_24 : decode cX9_readBehindOperand 24 = .ok (.iconst 4, 1) := by decide +kernel
theorem dX9_readBehindOperand_25 : decode cX9_readBehindOperand 25 = .ok (.if_icmp .ne 13, 3) := by decide +kernel
theorem dX9_readBehindOperand_28 : decode cX9_readBehindOperand 28 = .ok (.aload_n 0, 1) := by decide +kernel
theorem dX9_readBehindOperand_29 : decode cX9_readBehindOperand 29 = .ok (.getfield 27, 3) := by decide +kernel
theorem dX9_readBehindOperand_32 : decode cX9_readBehindOperand 32 = .ok (.getfield 89, 3) := by decide +kernel
theorem dX9_readBehindOperand_35 : decode cX9_readBehindOperand 35 = .ok (.goto 7, 3) := by decide +kernel
theorem dX9_readBehindOperand_38 : decode cX9_readBehindOperand 38 = .ok (.aload_n 0, 1) := by decide +kernel
theorem dX9_readBehindOperand_39 : decode cX9_readBehindOperand 39 = .ok (.invokevirtual 314, 3) := by decide +kernel
theorem dX9_readBehindOperand_42 : decode cX9_readBehindOperand 42 = .ok (.istore_n 1, 1) := by decide +kernel
theorem dX9_readBehindOperand_43 : decode cX9_readBehindOperand 43 = .ok (.iload_n 1, 1) := by decide +kernel
theorem dX9_readBehindOperand_44 : decode cX9_readBehindOperand 44 = .ok (.bipush 7, 2) := by decide +kernel
theorem dX9_readBehindOperand_46 : decode cX9_readBehindOperand 46 = .ok (.if_icmp .lt 9, 3) := by decide +kernel
theorem dX9_readBehindOperand_49 : decode cX9_readBehindOperand 49 = .ok (.iload_n 1, 1) := by decide +kernel
theorem dX9_readBehindOperand_50 : decode cX9_readBehindOperand 50 = .ok (.bipush 18, 2) := by decide +kernel
theorem dX9_readBehindOperand_52 : decode cX9_readBehindOperand 52 = .ok (.if_icmp .le 9, 3) := by decide +kernel
theorem dX9_readBehindOperand_55 : decode cX9_readBehindOperand 55 = .ok (.aload_n 0, 1) := by decide +kernel
theorem dX9_readBehindOperand_56 : decode cX9_readBehindOperand 56 = .ok (.iconst 1, 1) := by decide +kernel
theorem dX9_readBehindOperand_57 : decode cX9_readBehindOperand 57 = .ok (.invokevirtual 83, 3) := by decide +kernel
theorem dX9_readBehindOperand_60 : decode cX9_readBehindOperand 60 = .ok (.ireturn, 1) := by decide +kernel
theorem dX9_readBehindOperand_61 : decode cX9_readBehindOperand 61 = .ok (.iload_n 1, 1) := by decide +kernel
theorem dX9_readBehindOperand_62 : decode cX9_readBehindOperand 62 = .ok (.invokestatic 332, 3) := by decide +kernel
theorem dX9_readBehindOperand_65 : decode cX9_readBehindOperand 65 = .ok (.istore_n 2, 1) := by decide +kernel
theorem dX9_readBehindOperand_66 : decode cX9_readBehindOperand 66 = .ok (.aload_n 0, 1) := by decide +kernel
theorem dX9_readBehindOperand_67 : decode cX9_readBehindOperand 67 = .ok (.iload_n 2, 1) := by decide +kernel
theorem dX9_readBehindOperand_68 : decode cX9_readBehindOperand 68 = .ok (.iconst 4, 1) := by decide +kernel
theorem dX9_readBehindOperand_69 : decode cX9_readBehindOperand 69 = .ok (.if_icmp .ne 7, 3) := by decide +kernel
theorem dX9_readBehindOperand_72 : decode cX9_readBehindOperand 72 = .ok (.iconst 5, 1) := by decide +kernel
theorem dX9_readBehindOperand_73 : decode cX9_readBehindOperand 73 = .ok (.goto 4, 3) := by decide +kernel
theorem dX9_readBehindOperand_76 : decode cX9_readBehindOperand 76 = .ok (.iload_n 2, 1) := by decide +kernel
theorem dX9_readBehindOperand_77 : decode cX9_readBehindOperand 77 = .ok (.invokevirtual 304, 3) := by decide +kernel
theorem dX9_readBehindOperand_80 : decode cX9_readBehindOperand 80 = .ok (.iload_n 2, 1) := by decide +kernel
theorem dX9_readBehindOperand_81 : decode cX9_readBehindOperand 81 = .ok (.iconst 4, 1) := by decide +kernel
theorem dX9_readBehindOperand_82 : decode cX9_readBehindOperand 82 = .ok (.if_icmp .ne 17, 3) := by decide +kernel
theorem dX9_readBehindOperand_85 : decode cX9_readBehindOperand 85 = .ok (.aload_n 0, 1) := by decide +kernel
theorem dX9_readBehindOperand_86 : decode cX9_readBehindOperand 86 = .ok (.invokevirtual 317, 3) := by decide +kernel
theorem dX9_readBehindOperand_89 : decode cX9_readBehindOperand 89 = .ok (.iconst 4, 1) := by decide +kernel
theorem dX9_readBehindOperand_90 : decode cX9_readBehindOperand 90 = .ok (.if_icmp .ne 9, 3) := by decide +kernel
theorem dX9_readBehindOperand_93 : decode cX9_readBehindOperand 93 = .ok (.aload_n 0, 1) := by decide +kernel
theorem dX9_readBehindOperand_94 : decode cX9_readBehindOperand 94 = .ok (.iconst 1, 1) := by decide +kernel
theorem dX9_readBehindOperand_95 : decode cX9_readBehindOperand 95 = .ok (.invokevirtual 83, 3) := by decide +kernel
theorem dX9_readBehindOperand_98 : decode cX9_readBehindOperand 98 = .ok (.ireturn, 1) := by decide +kernel
theorem dX9_readBehindOperand_99 : decode cX9_readBehindOperand 99 = .ok (.aload_n 0, 1) := by decide +kernel
theorem dX9_readBehindOperand_100 : decode cX9_readBehindOperand 100 = .ok (.iconst 0, 1) := by decide +kernel
theorem dX9_readBehindOperand_101 : decode cX9_readBehindOperand 101 = .ok (.putfield 292, 3) := by decide +kernel
theorem dX9_readBehindOperand_104 : decode cX9_readBehindOperand 104 = .ok (.aload_n 0, 1) := by decide +kernel
theorem dX9_readBehindOperand_105 : decode cX9_readBehindOperand 105 = .ok (.invokevirtual 320, 3) := by decide +kernel
theorem dX9_readBehindOperand_108 : decode cX9_readBehindOperand 108 = .ok (.ifCond .eq 16, 3) := by decide +kernel
theorem dX9_readBehindOperand_111 : decode cX9_readBehindOperand 111 = .ok (.aload_n 0, 1) := by decide +kernel
theorem dX9_readBehindOperand_112 : decode cX9_readBehindOperand 112 = .ok (.iload_n 1, 1) := by decide +kernel
theorem dX9_readBehindOperand_113 : decode cX9_readBehindOperand 113 = .ok (.iload_n 2, 1) := by decide +kernel
theorem dX9_readBehindOperand_114 : decode cX9_readBehindOperand 114 = .ok (.invokevirtual 310, 3) := by decide +kernel
theorem dX9_readBehindOperand_117 : decode cX9_readBehindOperand 117 = .ok (.ifCond .eq 7, 3) := by decide +kernel
theorem dX9_readBehindOperand_120 : decode cX9_readBehindOperand 120 = .ok (.iconst 1, 1) := by decide +kernel
theorem dX9_readBehindOperand_121 : decode cX9_readBehindOperand 121 = .ok (.goto 4, 3) := by decide +kernel
theorem dX9_readBehindOperand_124 : decode cX9_readBehindOperand 124 = .ok (.iconst 0, 1) := by decide +kernel
theorem dX9_readBehindOperand_125 : decode cX9_readBehindOperand 125 = .ok (.ireturn, 1) := by decide +kernel
theorem dX9_readLeaf_0 : decode cX9_readLeaf 0 = .ok (.aload_n 0, 1) := by decide +kernel
theorem dX9_readLeaf_1 : decode cX9_readLeaf 1 = .ok (.invokevirtual 320, 3) := by decide +kernel
theorem dX9_readLeaf_4 : decode cX9_readLeaf 4 = .ok (.ifCond .ne 5, 3) := by decide +kernel
theorem dX9_readLeaf_7 : decode cX9_readLeaf 7 = .ok (.iconst 0, 1) := by decide +kernel
theorem dX9_readLeaf_8 : decode cX9_readLeaf 8 = .ok (.ireturn, 1) := by decide +kernel
theorem dX9_readLeaf_9 : decode cX9_readLeaf 9 = .ok (.aload_n 0, 1) := by decide +kernel
theorem dX9_readLeaf_10 : decode cX9_readLeaf 10 = .ok (.getfield 31, 3) := by decide +kernel
theorem dX9_readLeaf_13 : decode cX9_readLeaf 13 = .ok (.getfield 274, 3) := by decide +kernel
theorem dX9_readLeaf_16 : decode cX9_readLeaf 16 = .ok (.iload_n 1, 1) := by decide +kernel
theorem dX9_readLeaf_17 : decode cX9_readLeaf 17 = .ok (.aload_n 0, 1) := by decide +kernel
theorem dX9_readLeaf_18 : decode cX9_readLeaf 18 = .ok (.getfield 27, 3) := by decide +kernel
theorem dX9_readLeaf_21 : decode cX9_readLeaf 21 = .ok (.getfield 89, 3) := by decide +kernel
theorem dX9_readLeaf_24 : decode cX9_readLeaf 24 = .ok (.invokevirtual 326, 3) := by decide +kernel
theorem dX9_readLeaf_27 : decode cX9_readLeaf 27 = .ok (.aload_n 0, 1) := by decide +kernel
theorem dX9_readLeaf_28 : decode cX9_readLeaf 28 = .ok (.iconst 1, 1) := by decide +kernel
theorem dX9_readLeaf_29 : decode cX9_readLeaf 29 = .ok (.putfield 292, 3) := by decide +kernel
theorem dX9_readLeaf_32 : decode cX9_readLeaf 32 = .ok (.iconst 1, 1) := by decide +kernel
theorem dX9_readLeaf_33 : decode cX9_readLeaf 33 = .ok (.ireturn, 1) := by decide +kernel
theorem dX9_readOperand_0 : decode cX9_readOperand 0 = .ok (.aload_n 0, 1) := by decide +kernel
theorem dX9_readOperand_1 : decode cX9_readOperand 1 = .ok (.getfield 27, 3) := by decide +kernel
theorem dX9_readOperand_4 : decode cX9_readOperand 4 = .ok (.getfield 66, 3) := by decide +kernel
theorem dX9_readOperand_7 : decode cX9_readOperand 7 = .ok (.iconst 1, 1) := by decide +kernel
theorem dX9_readOperand_8 : decode cX9_readOperand 8 = .ok (.if_icmp .ne 28, 3) := by decide +kernel
theorem dX9_readOperand_11 : decode cX9_readOperand 11 = .ok (.aload_n 0, 1) := by decide +kernel
theorem dX9_readOperand_12 : decode cX9_readOperand 12 = .ok (.getfield 27, 3) := by decide +kernel
theorem dX9_readOperand_15 : decode cX9_readOperand 15 = .ok (.getfield 89, 3) := by decide +kernel
theorem dX9_readOperand_18 : decode cX9_readOperand 18 = .ok (.sipush 9999, 3) := by decide +kernel
theorem dX9_readOperand_21 : decode cX9_readOperand 21 = .ok (.if_icmp .le 9, 3) := by decide +kernel
theorem dX9_readOperand_24 : decode cX9_readOperand 24 = .ok (.aload_n 0, 1) := by decide +kernel
theorem dX9_readOperand_25 : decode cX9_readOperand 25 = .ok (.iconst 2, 1) := by decide +kernel
theorem dX9_readOperand_26 : decode cX9_readOperand 26 = .ok (.invokevirtual 83, 3) := by decide +kernel
theorem dX9_readOperand_29 : decode cX9_readOperand 29 = .ok (.ireturn, 1) := by decide +kernel
theorem dX9_readOperand_30 : decode cX9_readOperand 30 = .ok (.aload_n 0, 1) := by decide +kernel
theorem dX9_readOperand_31 : decode cX9_readOperand 31 = .ok (.iconst 0, 1) := by decide +kernel
theorem dX9_readOperand_32 : decode cX9_readOperand 32 = .ok (.invokevirtual 307, 3) := by decide +kernel
theorem dX9_readOperand_35 : decode cX9_readOperand 35 = .ok (.ireturn, 1) := by decide +kernel
theorem dX9_readOperand_36 : decode cX9_readOperand 36 = .ok (.aload_n 0, 1) := by decide +kernel
theorem dX9_readOperand_37 : decode cX9_readOperand 37 = .ok (.getfield 27, 3) := by decide +kernel
theorem dX9_readOperand_40 : decode cX9_readOperand 40 = .ok (.bipush 19, 2) := by decide +kernel
theorem dX9_readOperand_42 : decode cX9_readOperand 42 = .ok (.invokevirtual 79, 3) := by decide +kernel
theorem dX9_readOperand_45 : decode cX9_readOperand 45 = .ok (.ifCond .eq 36, 3) := by decide +kernel
theorem dX9_readOperand_48 : decode cX9_readOperand 48 = .ok (.aload_n 0, 1) := by decide +kernel
theorem dX9_readOperand_49 : decode cX9_readOperand 49 = .ok (.getfield 286, 3) := by decide +kernel
theorem dX9_readOperand_52 : decode cX9_readOperand 52 = .ok (.bipush 8, 2) := by decide +kernel
theorem dX9_readOperand_54 : decode cX9_readOperand 54 = .ok (.if_icmp .lt 9, 3) := by decide +kernel
theorem dX9_readOperand_57 : decode cX9_readOperand 57 = .ok (.aload_n 0, 1) := by decide +kernel
theorem dX9_readOperand_58 : decode cX9_readOperand 58 = .ok (.iconst 2, 1) := by decide +kernel
theorem dX9_readOperand_59 : decode cX9_readOperand 59 = .ok (.invokevirtual 83, 3) := by decide +kernel
theorem dX9_readOperand_62 : decode cX9_readOperand 62 = .ok (.ireturn, 1) := by decide +kernel
theorem dX9_readOperand_63 : decode cX9_readOperand 63 = .ok (.aload_n 0, 1) := by decide +kernel
theorem dX9_readOperand_64 : decode cX9_readOperand 64 = .ok (.dup, 1) := by decide +kernel
theorem dX9_readOperand_65 : decode cX9_readOperand 65 = .ok (.getfield 286, 3) := by decide +kernel
theorem dX9_readOperand_68 : decode cX9_readOperand 68 = .ok (.iconst 1, 1) := by decide +kernel
theorem dX9_readOperand_69 : decode cX9_readOperand 69 = .ok (.iadd, 1) := by decide +kernel
theorem dX9_readOperand_70 : decode cX9_readOperand 70 = .ok (.putfield 286, 3) := by decide +kernel
theorem dX9_readOperand_73 : decode cX9_readOperand 73 = .ok (.aload_n 0, 1) := by decide +kernel
theorem dX9_readOperand_74 : decode cX9_readOperand 74 = .ok (.bipush 19, 2) := by decide +kernel
theorem dX9_readOperand_76 : decode cX9_readOperand 76 = .ok (.iconst 0, 1) := by decide +kernel
theorem dX9_readOperand_77 : decode cX9_readOperand 77 = .ok (.invokevirtual 310, 3) := by decide +kernel
theorem dX9_readOperand_80 : decode cX9_readOperand 80 = .ok (.ireturn, 1) := by decide +kernel
theorem dX9_readOperand_81 : decode cX9_readOperand 81 = .ok (.aload_n 0, 1) := by decide +kernel
theorem dX9_readOperand_82 : decode cX9_readOperand 82 = .ok (.invokevirtual 314, 3) := by decide +kernel
theorem dX9_readOperand_85 : decode cX9_readOperand 85 = .ok (.istore_n 1, 1) := by decide +kernel
theorem dX9_readOperand_86 : decode cX9_readOperand 86 = .ok (.iload_n 1, 1) := by decide +kernel
theorem dX9_readOperand_87 : decode cX9_readOperand 87 = .ok (.iconst 1, 1) := by decide +kernel
theorem dX9_readOperand_88 : decode cX9_readOperand 88 = .ok (.if_icmp .lt 14, 3) := by decide +kernel
theorem dX9_readOperand_91 : decode cX9_readOperand 91 = .ok (.iload_n 1, 1) := by decide +kernel
theorem dX9_readOperand_92 : decode cX9_readOperand 92 = .ok (.iconst 5, 1) := by decide +kernel
theorem dX9_readOperand_93 : decode cX9_readOperand 93 = .ok (.if_icmp .gt 9, 3) := by decide +kernel
theorem dX9_readOperand_96 : decode cX9_readOperand 96 = .ok (.aload_n 0, 1) := by decide +kernel
theorem dX9_readOperand_97 : decode cX9_readOperand 97 = .ok (.iload_n 1, 1) := by decide +kernel
theorem dX9_readOperand_98 : decode cX9_readOperand 98 = .ok (.invokevirtual 307, 3) := by decide +kernel
theorem dX9_readOperand_101 : decode cX9_readOperand 101 = .ok (.ireturn, 1) := by decide +kernel
theorem dX9_readOperand_102 : decode cX9_readOperand 102 = .ok (.iload_n 1, 1) := by decide +kernel
theorem dX9_readOperand_103 : decode cX9_readOperand 103 = .ok (.bipush 6, 2) := by decide +kernel
theorem dX9_readOperand_105 : decode cX9_readOperand 105 = .ok (.if_icmp .ne 33, 3) := by decide +kernel
theorem dX9_readOperand_108 : decode cX9_readOperand 108 = .ok (.aload_n 0, 1) := by decide +kernel
theorem dX9_readOperand_109 : decode cX9_readOperand 109 = .ok (.invokevirtual 317, 3) := by decide +kernel
theorem dX9_readOperand_112 : decode cX9_readOperand 112 = .ok (.iconst 3, 1) := by decide +kernel
theorem dX9_readOperand_113 : decode cX9_readOperand 113 = .ok (.if_icmp .gt 25, 3) := by decide +kernel
theorem dX9_readOperand_116 : decode cX9_readOperand 116 = .ok (.aload_n 0, 1) := by decide +kernel
theorem dX9_readOperand_117 : decode cX9_readOperand 117 = .ok (.invokevirtual 320, 3) := by decide +kernel
theorem dX9_readOperand_120 : decode cX9_readOperand 120 = .ok (.ifCond .eq 16, 3) := by decide +kernel
theorem dX9_readOperand_123 : decode cX9_readOperand 123 = .ok (.aload_n 0, 1) := by decide +kernel
theorem dX9_readOperand_124 : decode cX9_readOperand 124 = .ok (.iload_n 1, 1) := by decide +kernel
theorem dX9_readOperand_125 : decode cX9_readOperand 125 = .ok (.iconst 3, 1) := by decide +kernel
theorem dX9_readOperand_126 : decode cX9_readOperand 126 = .ok (.invokevirtual 310, 3) := by decide +kernel
theorem dX9_readOperand_129 : decode cX9_readOperand 129 = .ok (.ifCond .eq 7, 3) := by decide +kernel
theorem dX9_readOperand_132 : decode cX9_readOperand 132 = .ok (.iconst 1, 1) := by decide +kernel
theorem dX9_readOperand_133 : decode cX9_readOperand 133 = .ok (.goto 4, 3) := by decide +kernel
theorem dX9_readOperand_136 : decode cX9_readOperand 136 = .ok (.iconst 0, 1) := by decide +kernel
theorem dX9_readOperand_137 : decode cX9_readOperand 137 = .ok (.ireturn, 1) := by decide +kernel
theorem dX9_readOperand_138 : decode cX9_readOperand 138 = .ok (.aload_n 0, 1) := by decide +kernel
theorem dX9_readOperand_139 : decode cX9_readOperand 139 = .ok (.iconst 1, 1) := by decide +kernel
theorem dX9_readOperand_140 : decode cX9_readOperand 140 = .ok (.invokevirtual 83, 3) := by decide +kernel
theorem dX9_readOperand_143 : decode cX9_readOperand 143 = .ok (.ireturn, 1) := by decide +kernel
theorem dX9_readLaw_0 : decode cX9_readLaw 0 = .ok (.aload_n 0, 1) := by decide +kernel
theorem dX9_readLaw_1 : decode cX9_readLaw 1 = .ok (.getfield 31, 3) := by decide +kernel
theorem dX9_readLaw_4 : decode cX9_readLaw 4 = .ok (.getfield 274, 3) := by decide +kernel
theorem dX9_readLaw_7 : decode cX9_readLaw 7 = .ok (.invokevirtual 278, 3) := by decide +kernel
theorem dX9_readLaw_10 : decode cX9_readLaw 10 = .ok (.ifCond .ne 9, 3) := by decide +kernel
theorem dX9_readLaw_13 : decode cX9_readLaw 13 = .ok (.aload_n 0, 1) := by decide +kernel
theorem dX9_readLaw_14 : decode cX9_readLaw 14 = .ok (.iconst 3, 1) := by decide +kernel
theorem dX9_readLaw_15 : decode cX9_readLaw 15 = .ok (.invokevirtual 83, 3) := by decide +kernel
theorem dX9_readLaw_18 : decode cX9_readLaw 18 = .ok (.ireturn, 1) := by decide +kernel
theorem dX9_readLaw_19 : decode cX9_readLaw 19 = .ok (.aload_n 0, 1) := by decide +kernel
theorem dX9_readLaw_20 : decode cX9_readLaw 20 = .ok (.iconst 0, 1) := by decide +kernel
theorem dX9_readLaw_21 : decode cX9_readLaw 21 = .ok (.putfield 283, 3) := by decide +kernel
theorem dX9_readLaw_24 : decode cX9_readLaw 24 = .ok (.aload_n 0, 1) := by decide +kernel
theorem dX9_readLaw_25 : decode cX9_readLaw 25 = .ok (.iconst 0, 1) := by decide +kernel
theorem dX9_readLaw_26 : decode cX9_readLaw 26 = .ok (.putfield 286, 3) := by decide +kernel
theorem dX9_readLaw_29 : decode cX9_readLaw 29 = .ok (.aload_n 0, 1) := by decide +kernel
theorem dX9_readLaw_30 : decode cX9_readLaw 30 = .ok (.iconst 0, 1) := by decide +kernel
theorem dX9_readLaw_31 : decode cX9_readLaw 31 = .ok (.putfield 289, 3) := by decide +kernel
theorem dX9_readLaw_34 : decode cX9_readLaw 34 = .ok (.aload_n 0, 1) := by decide +kernel
theorem dX9_readLaw_35 : decode cX9_readLaw 35 = .ok (.iconst 0, 1) := by decide +kernel
theorem dX9_readLaw_36 : decode cX9_readLaw 36 = .ok (.putfield 292, 3) := by decide +kernel
theorem dX9_readLaw_39 : decode cX9_readLaw 39 = .ok (.aload_n 0, 1) := by decide +kernel
theorem dX9_readLaw_40 : decode cX9_readLaw 40 = .ok (.getfield 27, 3) := by decide +kernel
theorem dX9_readLaw_43 : decode cX9_readLaw 43 = .ok (.invokevirtual 86, 3) := by decide +kernel
theorem dX9_readLaw_46 : decode cX9_readLaw 46 = .ok (.sipush 800, 3) := by decide +kernel
theorem dX9_readLaw_49 : decode cX9_readLaw 49 = .ok (.istore_n 1, 1) := by decide +kernel
theorem dX9_readLaw_50 : decode cX9_readLaw 50 = .ok (.iload_n 1, 1) := by decide +kernel
theorem dX9_readLaw_51 : decode cX9_readLaw 51 = .ok (.ifCond .le 49, 3) := by decide +kernel
theorem dX9_readLaw_54 : decode cX9_readLaw 54 = .ok (.aload_n 0, 1) := by decide +kernel
theorem dX9_readLaw_55 : decode cX9_readLaw 55 = .ok (.invokevirtual 295, 3) := by decide +kernel
theorem dX9_readLaw_58 : decode cX9_readLaw 58 = .ok (.ifCond .ne 42, 3) := by decide +kernel
theorem dX9_readLaw_61 : decode cX9_readLaw 61 = .ok (.aload_n 0, 1) := by decide +kernel
theorem dX9_readLaw_62 : decode cX9_readLaw 62 = .ok (.getfield 292, 3) := by decide +kernel
theorem dX9_readLaw_65 : decode cX9_readLaw 65 = .ok (.ifCond .eq 13, 3) := by decide +kernel
theorem dX9_readLaw_68 : decode cX9_readLaw 68 = .ok (.aload_n 0, 1) := by decide +kernel
theorem dX9_readLaw_69 : decode cX9_readLaw 69 = .ok (.invokevirtual 298, 3) := by decide +kernel
theorem dX9_readLaw_72 : decode cX9_readLaw 72 = .ok (.ifCond .eq 13, 3) := by decide +kernel
theorem dX9_readLaw_75 : decode cX9_readLaw 75 = .ok (.goto 12, 3) := by decide +kernel
theorem dX9_readLaw_78 : decode cX9_readLaw 78 = .ok (.aload_n 0, 1) := by decide +kernel
theorem dX9_readLaw_79 : decode cX9_readLaw 79 = .ok (.invokevirtual 301, 3) := by decide +kernel
theorem dX9_readLaw_82 : decode cX9_readLaw 82 = .ok (.ifCond .ne 5, 3) := by decide +kernel
theorem dX9_readLaw_85 : decode cX9_readLaw 85 = .ok (.iconst 0, 1) := by decide +kernel
theorem dX9_readLaw_86 : decode cX9_readLaw 86 = .ok (.ireturn, 1) := by decide +kernel
theorem dX9_readLaw_87 : decode cX9_readLaw 87 = .ok (.aload_n 0, 1) := by decide +kernel
theorem dX9_readLaw_88 : decode cX9_readLaw 88 = .ok (.getfield 27, 3) := by decide +kernel
theorem dX9_readLaw_91 : decode cX9_readLaw 91 = .ok (.invokevirtual 86, 3) := by decide +kernel
theorem dX9_readLaw_94 : decode cX9_readLaw 94 = .ok (.iinc 1 (-1), 3) := by decide +kernel
theorem dX9_readLaw_97 : decode cX9_readLaw 97 = .ok (.goto (-47), 3) := by decide +kernel
theorem dX9_readLaw_100 : decode cX9_readLaw 100 = .ok (.aload_n 0, 1) := by decide +kernel
theorem dX9_readLaw_101 : decode cX9_readLaw 101 = .ok (.iconst 1, 1) := by decide +kernel
theorem dX9_readLaw_102 : decode cX9_readLaw 102 = .ok (.invokevirtual 304, 3) := by decide +kernel
theorem dX9_readLaw_105 : decode cX9_readLaw 105 = .ok (.iconst 1, 1) := by decide +kernel
theorem dX9_readLaw_106 : decode cX9_readLaw 106 = .ok (.ireturn, 1) := by decide +kernel
theorem dX9_readOnce_0 : decode cX9_readOnce 0 = .ok (.iload_n 1, 1) := by decide +kernel
theorem dX9_readOnce_1 : decode cX9_readOnce 1 = .ok (.ifCond .eq 11, 3) := by decide +kernel
theorem dX9_readOnce_4 : decode cX9_readOnce 4 = .ok (.aload_n 0, 1) := by decide +kernel
theorem dX9_readOnce_5 : decode cX9_readOnce 5 = .ok (.iconst 3, 1) := by decide +kernel
theorem dX9_readOnce_6 : decode cX9_readOnce 6 = .ok (.invokevirtual 83, 3) := by decide +kernel
theorem dX9_readOnce_9 : decode cX9_readOnce 9 = .ok (.pop, 1) := by decide +kernel
theorem dX9_readOnce_10 : decode cX9_readOnce 10 = .ok (.iconst (-1), 1) := by decide +kernel
theorem dX9_readOnce_11 : decode cX9_readOnce 11 = .ok (.ireturn, 1) := by decide +kernel
theorem dX9_readOnce_12 : decode cX9_readOnce 12 = .ok (.aload_n 0, 1) := by decide +kernel
theorem dX9_readOnce_13 : decode cX9_readOnce 13 = .ok (.getfield 27, 3) := by decide +kernel
theorem dX9_readOnce_16 : decode cX9_readOnce 16 = .ok (.invokevirtual 86, 3) := by decide +kernel
theorem dX9_readOnce_19 : decode cX9_readOnce 19 = .ok (.aload_n 0, 1) := by decide +kernel
theorem dX9_readOnce_20 : decode cX9_readOnce 20 = .ok (.iconst 0, 1) := by decide +kernel
theorem dX9_readOnce_21 : decode cX9_readOnce 21 = .ok (.iload_n 2, 1) := by decide +kernel
theorem dX9_readOnce_22 : decode cX9_readOnce 22 = .ok (.invokevirtual 173, 3) := by decide +kernel
theorem dX9_readOnce_25 : decode cX9_readOnce 25 = .ok (.ireturn, 1) := by decide +kernel
theorem dX9_readLoss_0 : decode cX9_readLoss 0 = .ok (.aload_n 0, 1) := by decide +kernel
theorem dX9_readLoss_1 : decode cX9_readLoss 1 = .ok (.aload_n 0, 1) := by decide +kernel
theorem dX9_readLoss_2 : decode cX9_readLoss 2 = .ok (.getfield 50, 3) := by decide +kernel
theorem dX9_readLoss_5 : decode cX9_readLoss 5 = .ok (.bipush 50, 2) := by decide +kernel
theorem dX9_readLoss_7 : decode cX9_readLoss 7 = .ok (.invokevirtual 247, 3) := by decide +kernel
theorem dX9_readLoss_10 : decode cX9_readLoss 10 = .ok (.istore_n 1, 1) := by decide +kernel
theorem dX9_readLoss_11 : decode cX9_readLoss 11 = .ok (.aload_n 0, 1) := by decide +kernel
theorem dX9_readLoss_12 : decode cX9_readLoss 12 = .ok (.iconst 1, 1) := by decide +kernel
theorem dX9_readLoss_13 : decode cX9_readLoss 13 = .ok (.putfield 50, 3) := by decide +kernel
theorem dX9_readLoss_16 : decode cX9_readLoss 16 = .ok (.aload_n 0, 1) := by decide +kernel
theorem dX9_readLoss_17 : decode cX9_readLoss 17 = .ok (.getfield 31, 3) := by decide +kernel
theorem dX9_readLoss_20 : decode cX9_readLoss 20 = .ok (.iload_n 1, 1) := by decide +kernel
theorem dX9_readLoss_21 : decode cX9_readLoss 21 = .ok (.iconst 0, 1) := by decide +kernel
theorem dX9_readLoss_22 : decode cX9_readLoss 22 = .ok (.invokestatic 251, 3) := by decide +kernel
theorem dX9_readLoss_25 : decode cX9_readLoss 25 = .ok (.putfield 256, 3) := by decide +kernel
theorem dX9_readLoss_28 : decode cX9_readLoss 28 = .ok (.iload_n 1, 1) := by decide +kernel
theorem dX9_readLoss_29 : decode cX9_readLoss 29 = .ok (.ifCond .lt 7, 3) := by decide +kernel
theorem dX9_readLoss_32 : decode cX9_readLoss 32 = .ok (.iconst 1, 1) := by decide +kernel
theorem dX9_readLoss_33 : decode cX9_readLoss 33 = .ok (.goto 4, 3) := by decide +kernel
theorem dX9_readLoss_36 : decode cX9_readLoss 36 = .ok (.iconst 0, 1) := by decide +kernel
theorem dX9_readLoss_37 : decode cX9_readLoss 37 = .ok (.ireturn, 1) := by decide +kernel
theorem dX9_readShoreCell_0 : decode cX9_readShoreCell 0 = .ok (.aload_n 0, 1) := by decide +kernel
theorem dX9_readShoreCell_1 : decode cX9_readShoreCell 1 = .ok (.aload_n 0, 1) := by decide +kernel
theorem dX9_readShoreCell_2 : decode cX9_readShoreCell 2 = .ok (.getfield 31, 3) := by decide +kernel
theorem dX9_readShoreCell_5 : decode cX9_readShoreCell 5 = .ok (.getfield 187, 3) := by decide +kernel
theorem dX9_readShoreCell_8 : decode cX9_readShoreCell 8 = .ok (.aload_n 1, 1) := by decide +kernel
theorem dX9_readShoreCell_9 : decode cX9_readShoreCell 9 = .ok (.invokevirtual 207, 3) := by decide +kernel
theorem dX9_readShoreCell_12 : decode cX9_readShoreCell 12 = .ok (.lor, 1) := by decide +kernel
theorem dX9_readShoreCell_13 : decode cX9_readShoreCell 13 = .ok (.invokevirtual 201, 3) := by decide +kernel
theorem dX9_readShoreCell_16 : decode cX9_readShoreCell 16 = .ok (.istore_n 2, 1) := by decide +kernel
theorem dX9_readShoreCell_17 : decode cX9_readShoreCell 17 = .ok (.iload_n 2, 1) := by decide +kernel
theorem dX9_readShoreCell_18 : decode cX9_readShoreCell 18 = .ok (.ifCond .ge 5, 3) := by decide +kernel
theorem dX9_readShoreCell_21 : decode cX9_readShoreCell 21 = .ok (.iconst 0, 1) := by decide +kernel
theorem dX9_readShoreCell_22 : decode cX9_readShoreCell 22 = .ok (.ireturn, 1) := by decide +kernel
theorem dX9_readShoreCell_23 : decode cX9_readShoreCell 23 = .ok (.aload_n 1, 1) := by decide +kernel
theorem dX9_readShoreCell_24 : decode cX9_readShoreCell 24 = .ok (.iload_n 2, 1) := by decide +kernel
theorem dX9_readShoreCell_25 : decode cX9_readShoreCell 25 = .ok (.invokevirtual 184, 3) := by decide +kernel
theorem dX9_readShoreCell_28 : decode cX9_readShoreCell 28 = .ok (.iconst 1, 1) := by decide +kernel
theorem dX9_readShoreCell_29 : decode cX9_readShoreCell 29 = .ok (.ireturn, 1) := by decide +kernel
theorem dX9_readMay_0 : decode cX9_readMay 0 = .ok (.aload_n 0, 1) := by decide +kernel
theorem dX9_readMay_1 : decode cX9_readMay 1 = .ok (.aload_n 0, 1) := by decide +kernel
theorem dX9_readMay_2 : decode cX9_readMay 2 = .ok (.getfield 31, 3) := by decide +kernel
theorem dX9_readMay_5 : decode cX9_readMay 5 = .ok (.getfield 265, 3) := by decide +kernel
theorem dX9_readMay_8 : decode cX9_readMay 8 = .ok (.invokevirtual 120, 3) := by decide +kernel
theorem dX9_readMay_11 : decode cX9_readMay 11 = .ok (.invokevirtual 125, 3) := by decide +kernel
theorem dX9_readMay_14 : decode cX9_readMay 14 = .ok (.ifCond .ne 5, 3) := by decide +kernel
theorem dX9_readMay_17 : decode cX9_readMay 17 = .ok (.iconst 0, 1) := by decide +kernel
theorem dX9_readMay_18 : decode cX9_readMay 18 = .ok (.ireturn, 1) := by decide +kernel
theorem dX9_readMay_19 : decode cX9_readMay 19 = .ok (.aload_n 0, 1) := by decide +kernel
theorem dX9_readMay_20 : decode cX9_readMay 20 = .ok (.getfield 31, 3) := by decide +kernel
theorem dX9_readMay_23 : decode cX9_readMay 23 = .ok (.aload_n 0, 1) := by decide +kernel
theorem dX9_readMay_24 : decode cX9_readMay 24 = .ok (.getfield 31, 3) := by decide +kernel
theorem dX9_readMay_27 : decode cX9_readMay 27 = .ok (.getfield 265, 3) := by decide +kernel
theorem dX9_readMay_30 : decode cX9_readMay 30 = .ok (.getfield 213, 3) := by decide +kernel
theorem dX9_readMay_33 : decode cX9_readMay 33 = .ok (.invokevirtual 268, 3) := by decide +kernel
theorem dX9_readMay_36 : decode cX9_readMay 36 = .ok (.astore_n 1, 1) := by decide +kernel
theorem dX9_readMay_37 : decode cX9_readMay 37 = .ok (.aload_n 0, 1) := by decide +kernel
theorem dX9_readMay_38 : decode cX9_readMay 38 = .ok (.aload_n 0, 1) := by decide +kernel
theorem dX9_readMay_39 : decode cX9_readMay 39 = .ok (.getfield 31, 3) := by decide +kernel
theorem dX9_readMay_42 : decode cX9_readMay 42 = .ok (.getfield 265, 3) := by decide +kernel
theorem dX9_readMay_45 : decode cX9_readMay 45 = .ok (.invokevirtual 220, 3) := by decide +kernel
theorem dX9_readMay_48 : decode cX9_readMay 48 = .ok (.ifCond .ne 5, 3) := by decide +kernel
theorem dX9_readMay_51 : decode cX9_readMay 51 = .ok (.iconst 0, 1) := by decide +kernel
theorem dX9_readMay_52 : decode cX9_readMay 52 = .ok (.ireturn, 1) := by decide +kernel
theorem dX9_readMay_53 : decode cX9_readMay 53 = .ok (.iconst 0, 1) := by decide +kernel
theorem dX9_readMay_54 : decode cX9_readMay 54 = .ok (.istore_n 2, 1) := by decide +kernel
theorem dX9_readMay_55 : decode cX9_readMay 55 = .ok (.iload_n 2, 1) := by decide +kernel
