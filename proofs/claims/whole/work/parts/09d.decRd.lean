theorem dX14_looks_78 : decode cX14_looks 78 = .ok (.aload_n 0, 1) := by decide +kernel
theorem dX14_looks_79 : decode cX14_looks 79 = .ok (.getfield 27, 3) := by decide +kernel
theorem dX14_looks_82 : decode cX14_looks 82 = .ok (.iload 7, 2) := by decide +kernel
theorem dX14_looks_84 : decode cX14_looks 84 = .ok (.iaload, 1) := by decide +kernel
theorem dX14_looks_85 : decode cX14_looks 85 = .ok (.iconst 2, 1) := by decide +kernel
theorem dX14_looks_86 : decode cX14_looks 86 = .ok (.if_icmp .ne 6, 3) := by decide +kernel
theorem dX14_looks_89 : decode cX14_looks 89 = .ok (.goto 109, 3) := by decide +kernel
theorem dX14_looks_92 : decode cX14_looks 92 = .ok (.aload_n 0, 1) := by decide +kernel
theorem dX14_looks_93 : decode cX14_looks 93 = .ok (.getfield 130, 3) := by decide +kernel
theorem dX14_looks_96 : decode cX14_looks 96 = .ok (.iconst 1, 1) := by decide +kernel
theorem dX14_looks_97 : decode cX14_looks 97 = .ok (.iload_n 1, 1) := by decide +kernel
theorem dX14_looks_98 : decode cX14_looks 98 = .ok (.iastore, 1) := by decide +kernel
theorem dX14_looks_99 : decode cX14_looks 99 = .ok (.aload_n 0, 1) := by decide +kernel
theorem dX14_looks_100 : decode cX14_looks 100 = .ok (.getfield 133, 3) := by decide +kernel
theorem dX14_looks_103 : decode cX14_looks 103 = .ok (.iconst 1, 1) := by decide +kernel
theorem dX14_looks_104 : decode cX14_looks 104 = .ok (.iload 7, 2) := by decide +kernel
theorem dX14_looks_106 : decode cX14_looks 106 = .ok (.iastore, 1) := by decide +kernel
theorem dX14_looks_107 : decode cX14_looks 107 = .ok (.aload_n 0, 1) := by decide +kernel
theorem dX14_looks_108 : decode cX14_looks 108 = .ok (.iconst 1, 1) := by decide +kernel
theorem dX14_looks_109 : decode cX14_looks 109 = .ok (.invokevirtual 541, 3) := by decide +kernel
theorem dX14_looks_112 : decode cX14_looks 112 = .ok (.iconst 0, 1) := by decide +kernel
theorem dX14_looks_113 : decode cX14_looks 113 = .ok (.istore 8, 2) := by decide +kernel
theorem dX14_looks_115 : decode cX14_looks 115 = .ok (.iconst 0, 1) := by decide +kernel
theorem dX14_looks_116 : decode cX14_looks 116 = .ok (.istore 9, 2) := by decide +kernel
theorem dX14_looks_118 : decode cX14_looks 118 = .ok (.iload 9, 2) := by decide +kernel
theorem dX14_looks_120 : decode cX14_looks 120 = .ok (.bipush 31, 2) := by decide +kernel
theorem dX14_looks_122 : decode cX14_looks 122 = .ok (.aload_n 0, 1) := by decide +kernel
theorem dX14_looks_123 : decode cX14_looks 123 = .ok (.getfield 264, 3) := by decide +kernel
theorem dX14_looks_126 : decode cX14_looks 126 = .ok (.imul, 1) := by decide +kernel
theorem dX14_looks_127 : decode cX14_looks 127 = .ok (.if_icmp .ge 48, 3) := by decide +kernel
theorem dX14_looks_130 : decode cX14_looks 130 = .ok (.aload_n 0, 1) := by decide +kernel
theorem dX14_looks_131 : decode cX14_looks 131 = .ok (.getfield 127, 3) := by decide +kernel
theorem dX14_looks_134 : decode cX14_looks 134 = .ok (.iload 9, 2) := by decide +kernel
theorem dX14_looks_136 : decode cX14_looks 136 = .ok (.iaload, 1) := by decide +kernel
theorem dX14_looks_137 : decode cX14_looks 137 = .ok (.aload_n 0, 1) := by decide +kernel
theorem dX14_looks_138 : decode cX14_looks 138 = .ok (.getfield 127, 3) := by decide +kernel
theorem dX14_looks_141 : decode cX14_looks 141 = .ok (.sipush 186, 3) := by decide +kernel
theorem dX14_looks_144 : decode cX14_looks 144 = .ok (.iload 9, 2) := by decide +kernel
theorem dX14_looks_146 : decode cX14_looks 146 = .ok (.iadd, 1) := by decide +kernel
theorem dX14_looks_147 : decode cX14_looks 147 = .ok (.iaload, 1) := by decide +kernel
theorem dX14_looks_148 : decode cX14_looks 148 = .ok (.isub, 1) := by decide +kernel
theorem dX14_looks_149 : decode cX14_looks 149 = .ok (.istore 10, 2) := by decide +kernel
theorem dX14_looks_151 : decode cX14_looks 151 = .ok (.iload 8, 2) := by decide +kernel
theorem dX14_looks_153 : decode cX14_looks 153 = .ok (.iload 10, 2) := by decide +kernel
theorem dX14_looks_155 : decode cX14_looks 155 = .ok (.ifCond .ge 9, 3) := by decide +kernel
theorem dX14_looks_158 : decode cX14_looks 158 = .ok (.iload 10, 2) := by decide +kernel
theorem dX14_looks_160 : decode cX14_looks 160 = .ok (.ineg, 1) := by decide +kernel
theorem dX14_looks_161 : decode cX14_looks 161 = .ok (.goto 5, 3) := by decide +kernel
theorem dX14_looks_164 : decode cX14_looks 164 = .ok (.iload 10, 2) := by decide +kernel
theorem dX14_looks_166 : decode cX14_looks 166 = .ok (.iadd, 1) := by decide +kernel
theorem dX14_looks_167 : decode cX14_looks 167 = .ok (.istore 8, 2) := by decide +kernel
theorem dX14_looks_169 : decode cX14_looks 169 = .ok (.iinc 9 1, 3) := by decide +kernel
theorem dX14_looks_172 : decode cX14_looks 172 = .ok (.goto (-54), 3) := by decide +kernel
theorem dX14_looks_175 : decode cX14_looks 175 = .ok (.iload 5, 2) := by decide +kernel
theorem dX14_looks_177 : decode cX14_looks 177 = .ok (.ifCond .lt 13, 3) := by decide +kernel
theorem dX14_looks_180 : decode cX14_looks 180 = .ok (.iload 8, 2) := by decide +kernel
theorem dX14_looks_182 : decode cX14_looks 182 = .ok (.iload 6, 2) := by decide +kernel
theorem dX14_looks_184 : decode cX14_looks 184 = .ok (.if_icmp .lt 6, 3) := by decide +kernel
theorem dX14_looks_187 : decode cX14_looks 187 = .ok (.goto 11, 3) := by decide +kernel
theorem dX14_looks_190 : decode cX14_looks 190 = .ok (.iload 7, 2) := by decide +kernel
theorem dX14_looks_192 : decode cX14_looks 192 = .ok (.istore 5, 2) := by decide +kernel
theorem dX14_looks_194 : decode cX14_looks 194 = .ok (.iload 8, 2) := by decide +kernel
theorem dX14_looks_196 : decode cX14_looks 196 = .ok (.istore 6, 2) := by decide +kernel
theorem dX14_looks_198 : decode cX14_looks 198 = .ok (.iinc 7 1, 3) := by decide +kernel
theorem dX14_looks_201 : decode cX14_looks 201 = .ok (.goto (-132), 3) := by decide +kernel
theorem dX14_looks_204 : decode cX14_looks 204 = .ok (.iload 4, 2) := by decide +kernel
theorem dX14_looks_206 : decode cX14_looks 206 = .ok (.ifCond .ne 8, 3) := by decide +kernel
theorem dX14_looks_209 : decode cX14_looks 209 = .ok (.iload 5, 2) := by decide +kernel
theorem dX14_looks_211 : decode cX14_looks 211 = .ok (.goto 5, 3) := by decide +kernel
theorem dX14_looks_214 : decode cX14_looks 214 = .ok (.iload 6, 2) := by decide +kernel
theorem dX14_looks_216 : decode cX14_looks 216 = .ok (.ireturn, 1) := by decide +kernel
theorem dX14_most_0 : decode cX14_most 0 = .ok (.aload_n 0, 1) := by decide +kernel
theorem dX14_most_1 : decode cX14_most 1 = .ok (.iconst 0, 1) := by decide +kernel
theorem dX14_most_2 : decode cX14_most 2 = .ok (.putfield 148, 3) := by decide +kernel
theorem dX14_most_5 : decode cX14_most 5 = .ok (.aload_n 0, 1) := by decide +kernel
theorem dX14_most_6 : decode cX14_most 6 = .ok (.iload_n 1, 1) := by decide +kernel
theorem dX14_most_7 : decode cX14_most 7 = .ok (.invokevirtual 432, 3) := by decide +kernel
theorem dX14_most_10 : decode cX14_most 10 = .ok (.ifCond .eq 12, 3) := by decide +kernel
theorem dX14_most_13 : decode cX14_most 13 = .ok (.iload_n 2, 1) := by decide +kernel
theorem dX14_most_14 : decode cX14_most 14 = .ok (.iconst 0, 1) := by decide +kernel
theorem dX14_most_15 : decode cX14_most 15 = .ok (.iconst 3, 1) := by decide +kernel
theorem dX14_most_16 : decode cX14_most 16 = .ok (.invokestatic 192, 3) := by decide +kernel
theorem dX14_most_19 : decode cX14_most 19 = .ok (.ifCond .ne 7, 3) := by decide +kernel
theorem dX14_most_22 : decode cX14_most 22 = .ok (.ldc_w 474, 3) := by decide +kernel
theorem dX14_most_25 : decode cX14_most 25 = .ok (.ireturn, 1) := by decide +kernel
theorem dX14_most_26 : decode cX14_most 26 = .ok (.aload_n 0, 1) := by decide +kernel
theorem dX14_most_27 : decode cX14_most 27 = .ok (.iload_n 1, 1) := by decide +kernel
theorem dX14_most_28 : decode cX14_most 28 = .ok (.iconst 0, 1) := by decide +kernel
theorem dX14_most_29 : decode cX14_most 29 = .ok (.invokevirtual 471, 3) := by decide +kernel
theorem dX14_most_32 : decode cX14_most 32 = .ok (.istore_n 3, 1) := by decide +kernel
theorem dX14_most_33 : decode cX14_most 33 = .ok (.iconst 0, 1) := by decide +kernel
theorem dX14_most_34 : decode cX14_most 34 = .ok (.istore 4, 2) := by decide +kernel
theorem dX14_most_36 : decode cX14_most 36 = .ok (.iconst 1, 1) := by decide +kernel
theorem dX14_most_37 : decode cX14_most 37 = .ok (.istore 5, 2) := by decide +kernel
theorem dX14_most_39 : decode cX14_most 39 = .ok (.iload 5, 2) := by decide +kernel
theorem dX14_most_41 : decode cX14_most 41 = .ok (.sipush 200, 3) := by decide +kernel
theorem dX14_most_44 : decode cX14_most 44 = .ok (.if_icmp .ge 76, 3) := by decide +kernel
theorem dX14_most_47 : decode cX14_most 47 = .ok (.aload_n 0, 1) := by decide +kernel
theorem dX14_most_48 : decode cX14_most 48 = .ok (.iload_n 1, 1) := by decide +kernel
theorem dX14_most_49 : decode cX14_most 49 = .ok (.iload 5, 2) := by decide +kernel
theorem dX14_most_51 : decode cX14_most 51 = .ok (.invokevirtual 471, 3) := by decide +kernel
theorem dX14_most_54 : decode cX14_most 54 = .ok (.istore 6, 2) := by decide +kernel
theorem dX14_most_56 : decode cX14_most 56 = .ok (.iload_n 2, 1) := by decide +kernel
theorem dX14_most_57 : decode cX14_most 57 = .ok (.iconst 2, 1) := by decide +kernel
theorem dX14_most_58 : decode cX14_most 58 = .ok (.if_icmp .ge 17, 3) := by decide +kernel
theorem dX14_most_61 : decode cX14_most 61 = .ok (.iload 6, 2) := by decide +kernel
theorem dX14_most_63 : decode cX14_most 63 = .ok (.iload_n 3, 1) := by decide +kernel
theorem dX14_most_64 : decode cX14_most 64 = .ok (.if_icmp .le 7, 3) := by decide +kernel
theorem dX14_most_67 : decode cX14_most 67 = .ok (.iconst 1, 1) := by decide +kernel
theorem dX14_most_68 : decode cX14_most 68 = .ok (.goto 18, 3) := by decide +kernel
theorem dX14_most_71 : decode cX14_most 71 = .ok (.iconst 0, 1) := by decide +kernel
theorem dX14_most_72 : decode cX14_most 72 = .ok (.goto 14, 3) := by decide +kernel
theorem dX14_most_75 : decode cX14_most 75 = .ok (.iload 6, 2) := by decide +kernel
theorem dX14_most_77 : decode cX14_most 77 = .ok (.iload_n 3, 1) := by decide +kernel
theorem dX14_most_78 : decode cX14_most 78 = .ok (.if_icmp .ge 7, 3) := by decide +kernel
theorem dX14_most_81 : decode cX14_most 81 = .ok (.iconst 1, 1) := by decide +kernel
theorem dX14_most_82 : decode cX14_most 82 = .ok (.goto 4, 3) := by decide +kernel
theorem dX14_most_85 : decode cX14_most 85 = .ok (.iconst 0, 1) := by decide +kernel
theorem dX14_most_86 : decode cX14_most 86 = .ok (.istore 7, 2) := by decide +kernel
theorem dX14_most_88 : decode cX14_most 88 = .ok (.iload 7, 2) := by decide +kernel
theorem dX14_most_90 : decode cX14_most 90 = .ok (.ifCond .eq 8, 3) := by decide +kernel
theorem dX14_most_93 : decode cX14_most 93 = .ok (.iload 5, 2) := by decide +kernel
theorem dX14_most_95 : decode cX14_most 95 = .ok (.goto 5, 3) := by decide +kernel
theorem dX14_most_98 : decode cX14_most 98 = .ok (.iload 4, 2) := by decide +kernel
theorem dX14_most_100 : decode cX14_most 100 = .ok (.istore 4, 2) := by decide +kernel
theorem dX14_most_102 : decode cX14_most 102 = .ok (.iload 7, 2) := by decide +kernel
theorem dX14_most_104 : decode cX14_most 104 = .ok (.ifCond .eq 8, 3) := by decide +kernel
theorem dX14_most_107 : decode cX14_most 107 = .ok (.iload 6, 2) := by decide +kernel
theorem dX14_most_109 : decode cX14_most 109 = .ok (.goto 4, 3) := by decide +kernel
theorem dX14_most_112 : decode cX14_most 112 = .ok (.iload_n 3, 1) := by decide +kernel
theorem dX14_most_113 : decode cX14_most 113 = .ok (.istore_n 3, 1) := by decide +kernel
theorem dX14_most_114 : decode cX14_most 114 = .ok (.iinc 5 1, 3) := by decide +kernel
theorem dX14_most_117 : decode cX14_most 117 = .ok (.goto (-78), 3) := by decide +kernel
theorem dX14_most_120 : decode cX14_most 120 = .ok (.iload_n 2, 1) := by decide +kernel
theorem dX14_most_121 : decode cX14_most 121 = .ok (.iconst 2, 1) := by decide +kernel
theorem dX14_most_122 : decode cX14_most 122 = .ok (.irem, 1) := by decide +kernel
theorem dX14_most_123 : decode cX14_most 123 = .ok (.ifCond .ne 7, 3) := by decide +kernel
theorem dX14_most_126 : decode cX14_most 126 = .ok (.iload_n 3, 1) := by decide +kernel
theorem dX14_most_127 : decode cX14_most 127 = .ok (.goto 5, 3) := by decide +kernel
theorem dX14_most_130 : decode cX14_most 130 = .ok (.iload 4, 2) := by decide +kernel
theorem dX14_most_132 : decode cX14_most 132 = .ok (.ireturn, 1) := by decide +kernel
theorem dX14_named_0 : decode cX14_named 0 = .ok (.aload_n 0, 1) := by decide +kernel
theorem dX14_named_1 : decode cX14_named 1 = .ok (.iconst 0, 1) := by decide +kernel
theorem dX14_named_2 : decode cX14_named 2 = .ok (.putfield 148, 3) := by decide +kernel
theorem dX14_named_5 : decode cX14_named 5 = .ok (.iload_n 1, 1) := by decide +kernel
theorem dX14_named_6 : decode cX14_named 6 = .ok (.tableswitch 86 0 3 #[30, 44, 58, 72], 30) := by decide +kernel
theorem dX14_named_36 : decode cX14_named 36 = .ok (.aload_n 0, 1) := by decide +kernel
theorem dX14_named_37 : decode cX14_named 37 = .ok (.getfield 39, 3) := by decide +kernel
theorem dX14_named_40 : decode cX14_named 40 = .ok (.iconst 0, 1) := by decide +kernel
theorem dX14_named_41 : decode cX14_named 41 = .ok (.aload_n 0, 1) := by decide +kernel
theorem dX14_named_42 : decode cX14_named 42 = .ok (.getfield 261, 3) := by decide +kernel
theorem dX14_named_45 : decode cX14_named 45 = .ok (.iload_n 2, 1) := by decide +kernel
theorem dX14_named_46 : decode cX14_named 46 = .ok (.invokestatic 316, 3) := by decide +kernel
theorem dX14_named_49 : decode cX14_named 49 = .ok (.ireturn, 1) := by decide +kernel
theorem dX14_named_50 : decode cX14_named 50 = .ok (.aload_n 0, 1) := by decide +kernel
theorem dX14_named_51 : decode cX14_named 51 = .ok (.getfield 51, 3) := by decide +kernel
theorem dX14_named_54 : decode cX14_named 54 = .ok (.iconst 0, 1) := by decide +kernel
theorem dX14_named_55 : decode cX14_named 55 = .ok (.aload_n 0, 1) := by decide +kernel
theorem dX14_named_56 : decode cX14_named 56 = .ok (.getfield 264, 3) := by decide +kernel
theorem dX14_named_59 : decode cX14_named 59 = .ok (.iload_n 2, 1) := by decide +kernel
theorem dX14_named_60 : decode cX14_named 60 = .ok (.invokestatic 316, 3) := by decide +kernel
theorem dX14_named_63 : decode cX14_named 63 = .ok (.ireturn, 1) := by decide +kernel
theorem dX14_named_64 : decode cX14_named 64 = .ok (.aload_n 0, 1) := by decide +kernel
theorem dX14_named_65 : decode cX14_named 65 = .ok (.getfield 57, 3) := by decide +kernel
theorem dX14_named_68 : decode cX14_named 68 = .ok (.iconst 0, 1) := by decide +kernel
theorem dX14_named_69 : decode cX14_named 69 = .ok (.aload_n 0, 1) := by decide +kernel
theorem dX14_named_70 : decode cX14_named 70 = .ok (.getfield 267, 3) := by decide +kernel
theorem dX14_named_73 : decode cX14_named 73 = .ok (.iload_n 2, 1) := by decide +kernel
theorem dX14_named_74 : decode cX14_named 74 = .ok (.invokestatic 316, 3) := by decide +kernel
theorem dX14_named_77 : decode cX14_named 77 = .ok (.ireturn, 1) := by decide +kernel
theorem dX14_named_78 : decode cX14_named 78 = .ok (.aload_n 0, 1) := by decide +kernel
theorem dX14_named_79 : decode cX14_named 79 = .ok (.getfield 72, 3) := by decide +kernel
theorem dX14_named_82 : decode cX14_named 82 = .ok (.iconst 0, 1) := by decide +kernel
theorem dX14_named_83 : decode cX14_named 83 = .ok (.aload_n 0, 1) := by decide +kernel
theorem dX14_named_84 : decode cX14_named 84 = .ok (.getfield 276, 3) := by decide +kernel
theorem dX14_named_87 : decode cX14_named 87 = .ok (.iload_n 2, 1) := by decide +kernel
theorem dX14_named_88 : decode cX14_named 88 = .ok (.invokestatic 316, 3) := by decide +kernel
theorem dX14_named_91 : decode cX14_named 91 = .ok (.ireturn, 1) := by decide +kernel
theorem dX14_named_92 : decode cX14_named 92 = .ok (.iconst (-1), 1) := by decide +kernel
theorem dX14_named_93 : decode cX14_named 93 = .ok (.ireturn, 1) := by decide +kernel
theorem dX14_noted_0 : decode cX14_noted 0 = .ok (.aload_n 0, 1) := by decide +kernel
theorem dX14_noted_1 : decode cX14_noted 1 = .ok (.getfield 121, 3) := by decide +kernel
theorem dX14_noted_4 : decode cX14_noted 4 = .ok (.iconst 3, 1) := by decide +kernel
theorem dX14_noted_5 : decode cX14_noted 5 = .ok (.aload_n 0, 1) := by decide +kernel
theorem dX14_noted_6 : decode cX14_noted 6 = .ok (.getfield 304, 3) := by decide +kernel
theorem dX14_noted_9 : decode cX14_noted 9 = .ok (.imul, 1) := by decide +kernel
theorem dX14_noted_10 : decode cX14_noted 10 = .ok (.iload_n 1, 1) := by decide +kernel
theorem dX14_noted_11 : decode cX14_noted 11 = .ok (.iastore, 1) := by decide +kernel
theorem dX14_noted_12 : decode cX14_noted 12 = .ok (.aload_n 0, 1) := by decide +kernel
theorem dX14_noted_13 : decode cX14_noted 13 = .ok (.getfield 121, 3) := by decide +kernel
theorem dX14_noted_16 : decode cX14_noted 16 = .ok (.iconst 3, 1) := by decide +kernel
theorem dX14_noted_17 : decode cX14_noted 17 = .ok (.aload_n 0, 1) := by decide +kernel
theorem dX14_noted_18 : decode cX14_noted 18 = .ok (.getfield 304, 3) := by decide +kernel
theorem dX14_noted_21 : decode cX14_noted 21 = .ok (.imul, 1) := by decide +kernel
theorem dX14_noted_22 : decode cX14_noted 22 = .ok (.iconst 1, 1) := by decide +kernel
theorem dX14_noted_23 : decode cX14_noted 23 = .ok (.iadd, 1) := by decide +kernel
theorem dX14_noted_24 : decode cX14_noted 24 = .ok (.iload_n 2, 1) := by decide +kernel
theorem dX14_noted_25 : decode cX14_noted 25 = .ok (.iastore, 1) := by decide +kernel
theorem dX14_noted_26 : decode cX14_noted 26 = .ok (.aload_n 0, 1) := by decide +kernel
theorem dX14_noted_27 : decode cX14_noted 27 = .ok (.getfield 121, 3) := by decide +kernel
theorem dX14_noted_30 : decode cX14_noted 30 = .ok (.iconst 3, 1) := by decide +kernel
theorem dX14_noted_31 : decode cX14_noted 31 = .ok (.aload_n 0, 1) := by decide +kernel
theorem dX14_noted_32 : decode cX14_noted 32 = .ok (.getfield 304, 3) := by decide +kernel
theorem dX14_noted_35 : decode cX14_noted 35 = .ok (.imul, 1) := by decide +kernel
theorem dX14_noted_36 : decode cX14_noted 36 = .ok (.iconst 2, 1) := by decide +kernel
theorem dX14_noted_37 : decode cX14_noted 37 = .ok (.iadd, 1) := by decide +kernel
theorem dX14_noted_38 : decode cX14_noted 38 = .ok (.iload_n 3, 1) := by decide +kernel
theorem dX14_noted_39 : decode cX14_noted 39 = .ok (.iastore, 1) := by decide +kernel
theorem dX14_noted_40 : decode cX14_noted 40 = .ok (.aload_n 0, 1) := by decide +kernel
theorem dX14_noted_41 : decode cX14_noted 41 = .ok (.dup, 1) := by decide +kernel
theorem dX14_noted_42 : decode cX14_noted 42 = .ok (.getfield 304, 3) := by decide +kernel
theorem dX14_noted_45 : decode cX14_noted 45 = .ok (.iconst 1, 1) := by decide +kernel
theorem dX14_noted_46 : decode cX14_noted 46 = .ok (.iadd, 1) := by decide +kernel
theorem dX14_noted_47 : decode cX14_noted 47 = .ok (.putfield 304, 3) := by decide +kernel
theorem dX14_noted_50 : decode cX14_noted 50 = .ok (.aload_n 0, 1) := by decide +kernel
theorem dX14_noted_51 : decode cX14_noted 51 = .ok (.getfield 304, 3) := by decide +kernel
theorem dX14_noted_54 : decode cX14_noted 54 = .ok (.iconst 1, 1) := by decide +kernel
theorem dX14_noted_55 : decode cX14_noted 55 = .ok (.isub, 1) := by decide +kernel
theorem dX14_noted_56 : decode cX14_noted 56 = .ok (.ireturn, 1) := by decide +kernel
theorem dX14_note_0 : decode cX14_note 0 = .ok (.aload_n 0, 1) := by decide +kernel
theorem dX14_note_1 : decode cX14_note 1 = .ok (.iconst 0, 1) := by decide +kernel
theorem dX14_note_2 : decode cX14_note 2 = .ok (.putfield 148, 3) := by decide +kernel
theorem dX14_note_5 : decode cX14_note 5 = .ok (.aload_n 0, 1) := by decide +kernel
theorem dX14_note_6 : decode cX14_note 6 = .ok (.getfield 304, 3) := by decide +kernel
theorem dX14_note_9 : decode cX14_note 9 = .ok (.bipush 32, 2) := by decide +kernel
theorem dX14_note_11 : decode cX14_note 11 = .ok (.if_icmp .eq 31, 3) := by decide +kernel
theorem dX14_note_14 : decode cX14_note 14 = .ok (.aload_n 0, 1) := by decide +kernel
theorem dX14_note_15 : decode cX14_note 15 = .ok (.iload_n 1, 1) := by decide +kernel
theorem dX14_note_16 : decode cX14_note 16 = .ok (.invokevirtual 475, 3) := by decide +kernel
theorem dX14_note_19 : decode cX14_note 19 = .ok (.ifCond .eq 23, 3) := by decide +kernel
theorem dX14_note_22 : decode cX14_note 22 = .ok (.iload_n 2, 1) := by decide +kernel
theorem dX14_note_23 : decode cX14_note 23 = .ok (.invokestatic 468, 3) := by decide +kernel
theorem dX14_note_26 : decode cX14_note 26 = .ok (.ifCond .eq 16, 3) := by decide +kernel
theorem dX14_note_29 : decode cX14_note 29 = .ok (.iload_n 3, 1) := by decide +kernel
theorem dX14_note_30 : decode cX14_note 30 = .ok (.sipush (-9999), 3) := by decide +kernel
theorem dX14_note_33 : decode cX14_note 33 = .ok (.sipush 9999, 3) := by decide +kernel
theorem dX14_note_36 : decode cX14_note 36 = .ok (.invokestatic 192, 3) := by decide +kernel
theorem dX14_note_39 : decode cX14_note 39 = .ok (.ifCond .ne 7, 3) := by decide +kernel
theorem dX14_note_42 : decode cX14_note 42 = .ok (.iconst (-1), 1) := by decide +kernel
theorem dX14_note_43 : decode cX14_note 43 = .ok (.goto 10, 3) := by decide +kernel
theorem dX14_note_46 : decode cX14_note 46 = .ok (.aload_n 0, 1) := by decide +kernel
theorem dX14_note_47 : decode cX14_note 47 = .ok (.iload_n 1, 1) := by decide +kernel
theorem dX14_note_48 : decode cX14_note 48 = .ok (.iload_n 2, 1) := by decide +kernel
theorem dX14_note_49 : decode cX14_note 49 = .ok (.iload_n 3, 1) := by decide +kernel
theorem dX14_note_50 : decode cX14_note 50 = .ok (.invokevirtual 500, 3) := by decide +kernel
theorem dX14_note_53 : decode cX14_note 53 = .ok (.ireturn, 1) := by decide +kernel
theorem dX14_plain_0 : decode cX14_plain 0 = .ok (.aload_n 0, 1) := by decide +kernel
theorem dX14_plain_1 : decode cX14_plain 1 = .ok (.iconst 4, 1) := by decide +kernel
theorem dX14_plain_2 : decode cX14_plain 2 = .ok (.putfield 209, 3) := by decide +kernel
theorem dX14_plain_5 : decode cX14_plain 5 = .ok (.aload_n 0, 1) := by decide +kernel
theorem dX14_plain_6 : decode cX14_plain 6 = .ok (.iconst 4, 1) := by decide +kernel
theorem dX14_plain_7 : decode cX14_plain 7 = .ok (.putfield 212, 3) := by decide +kernel
theorem dX14_plain_10 : decode cX14_plain 10 = .ok (.aload_n 0, 1) := by decide +kernel
theorem dX14_plain_11 : decode cX14_plain 11 = .ok (.iconst 0, 1) := by decide +kernel
theorem dX14_plain_12 : decode cX14_plain 12 = .ok (.putfield 215, 3) := by decide +kernel
theorem dX14_plain_15 : decode cX14_plain 15 = .ok (.aload_n 0, 1) := by decide +kernel
theorem dX14_plain_16 : decode cX14_plain 16 = .ok (.iconst 0, 1) := by decide +kernel
theorem dX14_plain_17 : decode cX14_plain 17 = .ok (.putfield 218, 3) := by decide +kernel
theorem dX14_plain_20 : decode cX14_plain 20 = .ok (.aload_n 0, 1) := by decide +kernel
theorem dX14_plain_21 : decode cX14_plain 21 = .ok (.iconst 0, 1) := by decide +kernel
theorem dX14_plain_22 : decode cX14_plain 22 = .ok (.putfield 221, 3) := by decide +kernel
theorem dX14_plain_25 : decode cX14_plain 25 = .ok (.aload_n 0, 1) := by decide +kernel
theorem dX14_plain_26 : decode cX14_plain 26 = .ok (.iconst 0, 1) := by decide +kernel
theorem dX14_plain_27 : decode cX14_plain 27 = .ok (.putfield 224, 3) := by decide +kernel
theorem dX14_plain_30 : decode cX14_plain 30 = .ok (.aload_n 0, 1) := by decide +kernel
theorem dX14_plain_31 : decode cX14_plain 31 = .ok (.iconst 0, 1) := by decide +kernel
theorem dX14_plain_32 : decode cX14_plain 32 = .ok (.putfield 227, 3) := by decide +kernel
theorem dX14_plain_35 : decode cX14_plain 35 = .ok (.aload_n 0, 1) := by decide +kernel
theorem dX14_plain_36 : decode cX14_plain 36 = .ok (.iconst 0, 1) := by decide +kernel
theorem dX14_plain_37 : decode cX14_plain 37 = .ok (.putfield 230, 3) := by decide +kernel
theorem dX14_plain_40 : decode cX14_plain 40 = .ok (.aload_n 0, 1) := by decide +kernel
theorem dX14_plain_41 : decode cX14_plain 41 = .ok (.iconst 0, 1) := by decide +kernel
theorem dX14_plain_42 : decode cX14_plain 42 = .ok (.putfield 233, 3) := by decide +kernel
theorem dX14_plain_45 : decode cX14_plain 45 = .ok (.aload_n 0, 1) := by decide +kernel
theorem dX14_plain_46 : decode cX14_plain 46 = .ok (.iconst 0, 1) := by decide +kernel
theorem dX14_plain_47 : decode cX14_plain 47 = .ok (.putfield 236, 3) := by decide +kernel
theorem dX14_plain_50 : decode cX14_plain 50 = .ok (.aload_n 0, 1) := by decide +kernel
theorem dX14_plain_51 : decode cX14_plain 51 = .ok (.iconst 0, 1) := by decide +kernel
theorem dX14_plain_52 : decode cX14_plain 52 = .ok (.putfield 239, 3) := by decide +kernel
theorem dX14_plain_55 : decode cX14_plain 55 = .ok (.aload_n 0, 1) := by decide +kernel
theorem dX14_plain_56 : decode cX14_plain 56 = .ok (.iconst 0, 1) := by decide +kernel
theorem dX14_plain_57 : decode cX14_plain 57 = .ok (.putfield 242, 3) := by decide +kernel
theorem dX14_plain_60 : decode cX14_plain 60 = .ok (.aload_n 0, 1) := by decide +kernel
theorem dX14_plain_61 : decode cX14_plain 61 = .ok (.iconst 0, 1) := by decide +kernel
theorem dX14_plain_62 : decode cX14_plain 62 = .ok (.putfield 245, 3) := by decide +kernel
theorem dX14_plain_65 : decode cX14_plain 65 = .ok (.aload_n 0, 1) := by decide +kernel
theorem dX14_plain_66 : decode cX14_plain 66 = .ok (.iconst 0, 1) := by decide +kernel
theorem dX14_plain_67 : decode cX14_plain 67 = .ok (.putfield 249, 3) := by decide +kernel
theorem dX14_plain_70 : decode cX14_plain 70 = .ok (.aload_n 0, 1) := by decide +kernel
theorem dX14_plain_71 : decode cX14_plain 71 = .ok (.iconst 0, 1) := by decide +kernel
theorem dX14_plain_72 : decode cX14_plain 72 = .ok (.putfield 252, 3) := by decide +kernel
theorem dX14_plain_75 : decode cX14_plain 75 = .ok (.aload_n 0, 1) := by decide +kernel
theorem dX14_plain_76 : decode cX14_plain 76 = .ok (.getfield 20, 3) := by decide +kernel
theorem dX14_plain_79 : decode cX14_plain 79 = .ok (.iconst 0, 1) := by decide +kernel
theorem dX14_plain_80 : decode cX14_plain 80 = .ok (.bipush 10, 2) := by decide +kernel
theorem dX14_plain_82 : decode cX14_plain 82 = .ok (.iastore, 1) := by decide +kernel
theorem dX14_plain_83 : decode cX14_plain 83 = .ok (.aload_n 0, 1) := by decide +kernel
theorem dX14_plain_84 : decode cX14_plain 84 = .ok (.getfield 20, 3) := by decide +kernel
theorem dX14_plain_87 : decode cX14_plain 87 = .ok (.iconst 1, 1) := by decide +kernel
theorem dX14_plain_88 : decode cX14_plain 88 = .ok (.bipush 30, 2) := by decide +kernel
theorem dX14_plain_90 : decode cX14_plain 90 = .ok (.iastore, 1) := by decide +kernel
theorem dX14_plain_91 : decode cX14_plain 91 = .ok (.aload_n 0, 1) := by decide +kernel
theorem dX14_plain_92 : decode cX14_plain 92 = .ok (.getfield 20, 3) := by decide +kernel
theorem dX14_plain_95 : decode cX14_plain 95 = .ok (.iconst 2, 1) := by decide +kernel
theorem dX14_plain_96 : decode cX14_plain 96 = .ok (.bipush 50, 2) := by decide +kernel
theorem dX14_plain_98 : decode cX14_plain 98 = .ok (.iastore, 1) := by decide +kernel
theorem dX14_plain_99 : decode cX14_plain 99 = .ok (.iconst 0, 1) := by decide +kernel
theorem dX14_plain_100 : decode cX14_plain 100 = .ok (.istore_n 1, 1) := by decide +kernel
theorem dX14_plain_101 : decode cX14_plain 101 = .ok (.iload_n 1, 1) := by decide +kernel
theorem dX14_plain_102 : decode cX14_plain 102 = .ok (.iconst 3, 1) := by decide +kernel
theorem dX14_plain_103 : decode cX14_plain 103 = .ok (.if_icmp .ge 16, 3) := by decide +kernel
theorem dX14_plain_106 : decode cX14_plain 106 = .ok (.aload_n 0, 1) := by decide +kernel
theorem dX14_plain_107 : decode cX14_plain 107 = .ok (.getfield 23, 3) := by decide +kernel
theorem dX14_plain_110 : decode cX14_plain 110 = .ok (.iload_n 1, 1) := by decide +kernel
theorem dX14_plain_111 : decode cX14_plain 111 = .ok (.iconst 0, 1) := by decide +kernel
theorem dX14_plain_112 : decode cX14_plain 112 = .ok (.bastore, 1) := by decide +kernel
theorem dX14_plain_113 : decode cX14_plain 113 = .ok (.iinc 1 1, 3) := by decide +kernel
theorem dX14_plain_116 : decode cX14_plain 116 = .ok (.goto (-15), 3) := by decide +kernel
theorem dX14_plain_119 : decode cX14_plain 119 = .ok (.iconst 0, 1) := by decide +kernel
theorem dX14_plain_120 : decode cX14_plain 120 = .ok (.istore_n 1, 1) := by decide +kernel
theorem dX14_plain_121 : decode cX14_plain 121 = .ok (.iload_n 1, 1) := by decide +kernel
theorem dX14_plain_122 : decode cX14_plain 122 = .ok (.bipush 48, 2) := by decide +kernel
theorem dX14_plain_124 : decode cX14_plain 124 = .ok (.if_icmp .ge 36, 3) := by decide +kernel
theorem dX14_plain_127 : decode cX14_plain 127 = .ok (.aload_n 0, 1) := by decide +kernel
theorem dX14_plain_128 : decode cX14_plain 128 = .ok (.getfield 27, 3) := by decide +kernel
theorem dX14_plain_131 : decode cX14_plain 131 = .ok (.bipush 48, 2) := by decide +kernel
theorem dX14_plain_133 : decode cX14_plain 133 = .ok (.iload_n 1, 1) := by decide +kernel
theorem dX14_plain_134 : decode cX14_plain 134 = .ok (.iadd, 1) := by decide +kernel
theorem dX14_plain_135 : decode cX14_plain 135 = .ok (.iconst 0, 1) := by decide +kernel
theorem dX14_plain_136 : decode cX14_plain 136 = .ok (.iastore, 1) := by decide +kernel
theorem dX14_plain_137 : decode cX14_plain 137 = .ok (.aload_n 0, 1) := by decide +kernel
theorem dX14_plain_138 : decode cX14_plain 138 = .ok (.getfield 30, 3) := by decide +kernel
theorem dX14_plain_141 : decode cX14_plain 141 = .ok (.bipush 48, 2) := by decide +kernel
theorem dX14_plain_143 : decode cX14_plain 143 = .ok (.iload_n 1, 1) := by decide +kernel
theorem dX14_plain_144 : decode cX14_plain 144 = .ok (.iadd, 1) := by decide +kernel
theorem dX14_plain_145 : decode cX14_plain 145 = .ok (.iconst 0, 1) := by decide +kernel
theorem dX14_plain_146 : decode cX14_plain 146 = .ok (.bastore, 1) := by decide +kernel
theorem dX14_plain_147 : decode cX14_plain 147 = .ok (.aload_n 0, 1) := by decide +kernel
theorem dX14_plain_148 : decode cX14_plain 148 = .ok (.getfield 33, 3) := by decide +kernel
theorem dX14_plain_151 : decode cX14_plain 151 = .ok (.iload_n 1, 1) := by decide +kernel
theorem dX14_plain_152 : decode cX14_plain 152 = .ok (.iconst 0, 1) := by decide +kernel
theorem dX14_plain_153 : decode cX14_plain 153 = .ok (.bastore, 1) := by decide +kernel
theorem dX14_plain_154 : decode cX14_plain 154 = .ok (.iinc 1 1, 3) := by decide +kernel
theorem dX14_plain_157 : decode cX14_plain 157 = .ok (.goto (-36), 3) := by decide +kernel
theorem dX14_plain_160 : decode cX14_plain 160 = .ok (.return_, 1) := by decide +kernel
theorem dX14_reaches_0 : decode cX14_reaches 0 = .ok (.aload_n 0, 1) := by decide +kernel
theorem dX14_reaches_1 : decode cX14_reaches 1 = .ok (.iconst 0, 1) := by decide +kernel
theorem dX14_reaches_2 : decode cX14_reaches 2 = .ok (.putfield 148, 3) := by decide +kernel
theorem dX14_reaches_5 : decode cX14_reaches 5 = .ok (.aload_n 0, 1) := by decide +kernel
theorem dX14_reaches_6 : decode cX14_reaches 6 = .ok (.iload_n 1, 1) := by decide +kernel
theorem dX14_reaches_7 : decode cX14_reaches 7 = .ok (.invokevirtual 482, 3) := by decide +kernel
theorem dX14_reaches_10 : decode cX14_reaches 10 = .ok (.ifCond .eq 11, 3) := by decide +kernel
theorem dX14_reaches_13 : decode cX14_reaches 13 = .ok (.aload_n 0, 1) := by decide +kernel
theorem dX14_reaches_14 : decode cX14_reaches 14 = .ok (.iload_n 2, 1) := by decide +kernel
theorem dX14_reaches_15 : decode cX14_reaches 15 = .ok (.invokevirtual 429, 3) := by decide +kernel
theorem dX14_reaches_18 : decode cX14_reaches 18 = .ok (.ifCond .ne 5, 3) := by decide +kernel
theorem dX14_reaches_21 : decode cX14_reaches 21 = .ok (.iconst (-1), 1) := by decide +kernel
theorem dX14_reaches_22 : decode cX14_reaches 22 = .ok (.ireturn, 1) := by decide +kernel
theorem dX14_reaches_23 : decode cX14_reaches 23 = .ok (.aload_n 0, 1) := by decide +kernel
theorem dX14_reaches_24 : decode cX14_reaches 24 = .ok (.iload_n 1, 1) := by decide +kernel
theorem dX14_reaches_25 : decode cX14_reaches 25 = .ok (.iload_n 2, 1) := by decide +kernel
theorem dX14_reaches_26 : decode cX14_reaches 26 = .ok (.bipush 100, 2) := by decide +kernel
theorem dX14_reaches_28 : decode cX14_reaches 28 = .ok (.invokevirtual 494, 3) := by decide +kernel
theorem dX14_reaches_31 : decode cX14_reaches 31 = .ok (.istore_n 3, 1) := by decide +kernel
theorem dX14_reaches_32 : decode cX14_reaches 32 = .ok (.iload_n 3, 1) := by decide +kernel
theorem dX14_reaches_33 : decode cX14_reaches 33 = .ok (.ifCond .ge 8, 3) := by decide +kernel
theorem dX14_reaches_36 : decode cX14_reaches 36 = .ok (.bipush (-2), 2) := by decide +kernel
theorem dX14_reaches_38 : decode cX14_reaches 38 = .ok (.goto 4, 3) := by decide +kernel
theorem dX14_reaches_41 : decode cX14_reaches 41 = .ok (.iload_n 3, 1) := by decide +kernel
theorem dX14_reaches_42 : decode cX14_reaches 42 = .ok (.ireturn, 1) := by decide +kernel
theorem dX14_rise_0 : decode cX14_rise 0 = .ok (.aload_n 0, 1) := by decide +kernel
theorem dX14_rise_1 : decode cX14_rise 1 = .ok (.iconst 0, 1) := by decide +kernel
theorem dX14_rise_2 : decode cX14_rise 2 = .ok (.putfield 148, 3) := by decide +kernel
theorem dX14_rise_5 : decode cX14_rise 5 = .ok (.aload_n 0, 1) := by decide +kernel
theorem dX14_rise_6 : decode cX14_rise 6 = .ok (.iload_n 1, 1) := by decide +kernel
theorem dX14_rise_7 : decode cX14_rise 7 = .ok (.invokevirtual 432, 3) := by decide +kernel
theorem dX14_rise_10 : decode cX14_rise 10 = .ok (.ifCond .eq 19, 3) := by decide +kernel
theorem dX14_rise_13 : decode cX14_rise 13 = .ok (.iload_n 2, 1) := by decide +kernel
theorem dX14_rise_14 : decode cX14_rise 14 = .ok (.invokestatic 468, 3) := by decide +kernel
theorem dX14_rise_17 : decode cX14_rise 17 = .ok (.ifCond .eq 12, 3) := by decide +kernel
theorem dX14_rise_20 : decode cX14_rise 20 = .ok (.aload_n 0, 1) := by decide +kernel
theorem dX14_rise_21 : decode cX14_rise 21 = .ok (.iload_n 1, 1) := by decide +kernel
theorem dX14_rise_22 : decode cX14_rise 22 = .ok (.iload_n 2, 1) := by decide +kernel
theorem dX14_rise_23 : decode cX14_rise 23 = .ok (.invokevirtual 471, 3) := by decide +kernel
theorem dX14_rise_26 : decode cX14_rise 26 = .ok (.goto 6, 3) := by decide +kernel
theorem dX14_rise_29 : decode cX14_rise 29 = .ok (.ldc_w 474, 3) := by decide +kernel
theorem dX14_rise_32 : decode cX14_rise 32 = .ok (.ireturn, 1) := by decide +kernel
theorem dX14_shows_0 : decode cX14_shows 0 = .ok (.aload_n 0, 1) := by decide +kernel
theorem dX14_shows_1 : decode cX14_shows 1 = .ok (.iconst 0, 1) := by decide +kernel
theorem dX14_shows_2 : decode cX14_shows 2 = .ok (.putfield 148, 3) := by decide +kernel
theorem dX14_shows_5 : decode cX14_shows 5 = .ok (.aload_n 0, 1) := by decide +kernel
theorem dX14_shows_6 : decode cX14_shows 6 = .ok (.iload_n 1, 1) := by decide +kernel
theorem dX14_shows_7 : decode cX14_shows 7 = .ok (.invokevirtual 475, 3) := by decide +kernel
theorem dX14_shows_10 : decode cX14_shows 10 = .ok (.ifCond .eq 24, 3) := by decide +kernel
theorem dX14_shows_13 : decode cX14_shows 13 = .ok (.iload_n 2, 1) := by decide +kernel
theorem dX14_shows_14 : decode cX14_shows 14 = .ok (.invokestatic 468, 3) := by decide +kernel
theorem dX14_shows_17 : decode cX14_shows 17 = .ok (.ifCond .eq 17, 3) := by decide +kernel
theorem dX14_shows_20 : decode cX14_shows 20 = .ok (.aload_n 0, 1) := by decide +kernel
theorem dX14_shows_21 : decode cX14_shows 21 = .ok (.aload_n 0, 1) := by decide +kernel
theorem dX14_shows_22 : decode cX14_shows 22 = .ok (.getfield 54, 3) := by decide +kernel
theorem dX14_shows_25 : decode cX14_shows 25 = .ok (.iload_n 1, 1) := by decide +kernel
theorem dX14_shows_26 : decode cX14_shows 26 = .ok (.iaload, 1) := by decide +kernel
theorem dX14_shows_27 : decode cX14_shows 27 = .ok (.iload_n 2, 1) := by decide +kernel
theorem dX14_shows_28 : decode cX14_shows 28 = .ok (.invokevirtual 471, 3) := by decide +kernel
theorem dX14_shows_31 : decode cX14_shows 31 = .ok (.goto 6, 3) := by decide +kernel
theorem dX14_shows_34 : decode cX14_shows 34 = .ok (.ldc_w 474, 3) := by decide +kernel
theorem dX14_shows_37 : decode cX14_shows 37 = .ok (.ireturn, 1) := by decide +kernel
theorem dX14_still_0 : decode cX14_still 0 = .ok (.aload_n 0, 1) := by decide +kernel
theorem dX14_still_1 : decode cX14_still 1 = .ok (.iconst 0, 1) := by decide +kernel
theorem dX14_still_2 : decode cX14_still 2 = .ok (.putfield 148, 3) := by decide +kernel
theorem dX14_still_5 : decode cX14_still 5 = .ok (.aload_n 0, 1) := by decide +kernel
theorem dX14_still_6 : decode cX14_still 6 = .ok (.iload_n 1, 1) := by decide +kernel
theorem dX14_still_7 : decode cX14_still 7 = .ok (.invokevirtual 442, 3) := by decide +kernel
theorem dX14_still_10 : decode cX14_still 10 = .ok (.ifCond .eq 39, 3) := by decide +kernel
theorem dX14_still_13 : decode cX14_still 13 = .ok (.aload_n 0, 1) := by decide +kernel
theorem dX14_still_14 : decode cX14_still 14 = .ok (.iload_n 3, 1) := by decide +kernel
theorem dX14_still_15 : decode cX14_still 15 = .ok (.invokevirtual 442, 3) := by decide +kernel
theorem dX14_still_18 : decode cX14_still 18 = .ok (.ifCond .eq 31, 3) := by decide +kernel
theorem dX14_still_21 : decode cX14_still 21 = .ok (.aload_n 0, 1) := by decide +kernel
theorem dX14_still_22 : decode cX14_still 22 = .ok (.iload_n 2, 1) := by decide +kernel
theorem dX14_still_23 : decode cX14_still 23 = .ok (.invokevirtual 432, 3) := by decide +kernel
theorem dX14_still_26 : decode cX14_still 26 = .ok (.ifCond .eq 23, 3) := by decide +kernel
theorem dX14_still_29 : decode cX14_still 29 = .ok (.aload_n 0, 1) := by decide +kernel
theorem dX14_still_30 : decode cX14_still 30 = .ok (.iload 4, 2) := by decide +kernel
theorem dX14_still_32 : decode cX14_still 32 = .ok (.invokevirtual 432, 3) := by decide +kernel
theorem dX14_still_35 : decode cX14_still 35 = .ok (.ifCond .eq 14, 3) := by decide +kernel
theorem dX14_still_38 : decode cX14_still 38 = .ok (.iload 5, 2) := by decide +kernel
theorem dX14_still_40 : decode cX14_still 40 = .ok (.iconst 0, 1) := by decide +kernel
theorem dX14_still_41 : decode cX14_still 41 = .ok (.bipush 60, 2) := by decide +kernel
theorem dX14_still_43 : decode cX14_still 43 = .ok (.invokestatic 192, 3) := by decide +kernel
theorem dX14_still_46 : decode cX14_still 46 = .ok (.ifCond .ne 7, 3) := by decide +kernel
theorem dX14_still_49 : decode cX14_still 49 = .ok (.ldc2_w 554, 3) := by decide +kernel
theorem dX14_still_52 : decode cX14_still 52 = .ok (.lreturn, 1) := by decide +kernel
theorem dX14_still_53 : decode cX14_still 53 = .ok (.lconst 0, 1) := by decide +kernel
theorem dX14_still_54 : decode cX14_still 54 = .ok (.lstore 6, 2) := by decide +kernel
theorem dX14_still_56 : decode cX14_still 56 = .ok (.iconst 0, 1) := by decide +kernel
theorem dX14_still_57 : decode cX14_still 57 = .ok (.istore 8, 2) := by decide +kernel
theorem dX14_still_59 : decode cX14_still 59 = .ok (.iload 8, 2) := by decide +kernel
theorem dX14_still_61 : decode cX14_still 61 = .ok (.aload_n 0, 1) := by decide +kernel
theorem dX14_still_62 : decode cX14_still 62 = .ok (.invokevirtual 426, 3) := by decide +kernel
theorem dX14_still_65 : decode cX14_still 65 = .ok (.if_icmp .ge 98, 3) := by decide +kernel
theorem dX14_still_68 : decode cX14_still 68 = .ok (.aload_n 0, 1) := by decide +kernel
theorem dX14_still_69 : decode cX14_still 69 = .ok (.getfield 27, 3) := by decide +kernel
theorem dX14_still_72 : decode cX14_still 72 = .ok (.iload 8, 2) := by decide +kernel
theorem dX14_still_74 : decode cX14_still 74 = .ok (.iaload, 1) := by decide +kernel
theorem dX14_still_75 : decode cX14_still 75 = .ok (.iconst 2, 1) := by decide +kernel
theorem dX14_still_76 : decode cX14_still 76 = .ok (.if_icmp .eq 7, 3) := by decide +kernel
theorem dX14_still_79 : decode cX14_still 79 = .ok (.iconst 1, 1) := by decide +kernel
theorem dX14_still_80 : decode cX14_still 80 = .ok (.goto 4, 3) := by decide +kernel
theorem dX14_still_83 : decode cX14_still 83 = .ok (.iconst 0, 1) := by decide +kernel
theorem dX14_still_84 : decode cX14_still 84 = .ok (.istore 9, 2) := by decide +kernel
theorem dX14_still_86 : decode cX14_still 86 = .ok (.iconst 0, 1) := by decide +kernel
theorem dX14_still_87 : decode cX14_still 87 = .ok (.istore 10, 2) := by decide +kernel
theorem dX14_still_89 : decode cX14_still 89 = .ok (.iload 10, 2) := by decide +kernel
theorem dX14_still_91 : decode cX14_still 91 = .ok (.iload 5, 2) := by decide +kernel
theorem dX14_still_93 : decode cX14_still 93 = .ok (.if_icmp .gt 46, 3) := by decide +kernel
theorem dX14_still_96 : decode cX14_still 96 = .ok (.iload 9, 2) := by decide +kernel
theorem dX14_still_98 : decode cX14_still 98 = .ok (.ifCond .eq 41, 3) := by decide +kernel
theorem dX14_still_101 : decode cX14_still 101 = .ok (.aload_n 0, 1) := by decide +kernel
theorem dX14_still_102 : decode cX14_still 102 = .ok (.iload_n 1, 1) := by decide +kernel
theorem dX14_still_103 : decode cX14_still 103 = .ok (.iload_n 2, 1) := by decide +kernel
theorem dX14_still_104 : decode cX14_still 104 = .ok (.iload 8, 2) := by decide +kernel
theorem dX14_still_106 : decode cX14_still 106 = .ok (.iload 10, 2) := by decide +kernel
theorem dX14_still_108 : decode cX14_still 108 = .ok (.invokevirtual 464, 3) := by decide +kernel
theorem dX14_still_111 : decode cX14_still 111 = .ok (.aload_n 0, 1) := by decide +kernel
theorem dX14_still_112 : decode cX14_still 112 = .ok (.iload_n 3, 1) := by decide +kernel
theorem dX14_still_113 : decode cX14_still 113 = .ok (.iload 4, 2) := by decide +kernel
theorem dX14_still_115 : decode cX14_still 115 = .ok (.iload 8, 2) := by decide +kernel
theorem dX14_still_117 : decode cX14_still 117 = .ok (.iload 10, 2) := by decide +kernel
theorem dX14_still_119 : decode cX14_still 119 = .ok (.invokevirtual 464, 3) := by decide +kernel
theorem dX14_still_122 : decode cX14_still 122 = .ok (.iadd, 1) := by decide +kernel
theorem dX14_still_123 : decode cX14_still 123 = .ok (.ifCond .ne 7, 3) := by decide +kernel
theorem dX14_still_126 : decode cX14_still 126 = .ok (.iconst 1, 1) := by decide +kernel
theorem dX14_still_127 : decode cX14_still 127 = .ok (.goto 4, 3) := by decide +kernel
theorem dX14_still_130 : decode cX14_still 130 = .ok (.iconst 0, 1) := by decide +kernel
theorem dX14_still_131 : decode cX14_still 131 = .ok (.istore 9, 2) := by decide +kernel
theorem dX14_still_133 : decode cX14_still 133 = .ok (.iinc 10 1, 3) := by decide +kernel
theorem dX14_still_136 : decode cX14_still 136 = .ok (.goto (-47), 3) := by decide +kernel
theorem dX14_still_139 : decode cX14_still 139 = .ok (.lload 6, 2) := by decide +kernel
theorem dX14_still_141 : decode cX14_still 141 = .ok (.iload 9, 2) := by decide +kernel
theorem dX14_still_143 : decode cX14_still 143 = .ok (.ifCond .eq 10, 3) := by decide +kernel
theorem dX14_still_146 : decode cX14_still 146 = .ok (.lconst 1, 1) := by decide +kernel
theorem dX14_still_147 : decode cX14_still 147 = .ok (.iload 8, 2) := by decide +kernel
theorem dX14_still_149 : decode cX14_still 149 = .ok (.lshl, 1) := by decide +kernel
theorem dX14_still_150 : decode cX14_still 150 = .ok (.goto 4, 3) := by decide +kernel
theorem dX14_still_153 : decode cX14_still 153 = .ok (.lconst 0, 1) := by decide +kernel
theorem dX14_still_154 : decode cX14_still 154 = .ok (.lor, 1) := by decide +kernel
theorem dX14_still_155 : decode cX14_still 155 = .ok (.lstore 6, 2) := by decide +kernel
theorem dX14_still_157 : decode cX14_still 157 = .ok (.iinc 8 1, 3) := by decide +kernel
theorem dX14_still_160 : decode cX14_still 160 = .ok (.goto (-101), 3) := by decide +kernel
theorem dX14_still_163 : decode cX14_still 163 = .ok (.lload 6, 2) := by decide +kernel
theorem dX14_still_165 : decode cX14_still 165 = .ok (.lreturn, 1) := by decide +kernel
theorem dX14_strike_0 : decode cX14_strike 0 = .ok (.aload_n 0, 1) := by decide +kernel
theorem dX14_strike_1 : decode cX14_strike 1 = .ok (.iconst 0, 1) := by decide +kernel
theorem dX14_strike_2 : decode cX14_strike 2 = .ok (.putfield 148, 3) := by decide +kernel
theorem dX14_strike_5 : decode cX14_strike 5 = .ok (.aload_n 0, 1) := by decide +kernel
theorem dX14_strike_6 : decode cX14_strike 6 = .ok (.getfield 304, 3) := by decide +kernel
theorem dX14_strike_9 : decode cX14_strike 9 = .ok (.bipush 32, 2) := by decide +kernel
theorem dX14_strike_11 : decode cX14_strike 11 = .ok (.if_icmp .eq 15, 3) := by decide +kernel
theorem dX14_strike_14 : decode cX14_strike 14 = .ok (.iload_n 1, 1) := by decide +kernel
theorem dX14_strike_15 : decode cX14_strike 15 = .ok (.ifCond .lt 11, 3) := by decide +kernel
theorem dX14_strike_18 : decode cX14_strike 18 = .ok (.iload_n 1, 1) := by decide +kernel
theorem dX14_strike_19 : decode cX14_strike 19 = .ok (.aload_n 0, 1) := by decide +kernel
theorem dX14_strike_20 : decode cX14_strike 20 = .ok (.getfield 304, 3) := by decide +kernel
theorem dX14_strike_23 : decode cX14_strike 23 = .ok (.if_icmp .lt 7, 3) := by decide +kernel
theorem dX14_strike_26 : decode cX14_strike 26 = .ok (.iconst (-1), 1) := by decide +kernel
theorem dX14_strike_27 : decode cX14_strike 27 = .ok (.goto 10, 3) := by decide +kernel
theorem dX14_strike_30 : decode cX14_strike 30 = .ok (.aload_n 0, 1) := by decide +kernel
theorem dX14_strike_31 : decode cX14_strike 31 = .ok (.iconst (-1), 1) := by decide +kernel
theorem dX14_strike_32 : decode cX14_strike 32 = .ok (.iconst 0, 1) := by decide +kernel
theorem dX14_strike_33 : decode cX14_strike 33 = .ok (.iload_n 1, 1) := by decide +kernel
theorem dX14_strike_34 : decode cX14_strike 34 = .ok (.invokevirtual 500, 3) := by decide +kernel
theorem dX14_strike_37 : decode cX14_strike 37 = .ok (.ireturn, 1) := by decide +kernel
theorem dX14_tale_0 : decode cX14_tale 0 = .ok (.aload_n 0, 1) := by decide +kernel
theorem dX14_tale_1 : decode cX14_tale 1 = .ok (.iconst 0, 1) := by decide +kernel
theorem dX14_tale_2 : decode cX14_tale 2 = .ok (.putfield 148, 3) := by decide +kernel
theorem dX14_tale_5 : decode cX14_tale 5 = .ok (.iload_n 1, 1) := by decide +kernel
theorem dX14_tale_6 : decode cX14_tale 6 = .ok (.ifCond .lt 12, 3) := by decide +kernel
theorem dX14_tale_9 : decode cX14_tale 9 = .ok (.iload_n 2, 1) := by decide +kernel
theorem dX14_tale_10 : decode cX14_tale 10 = .ok (.iconst 0, 1) := by decide +kernel
theorem dX14_tale_11 : decode cX14_tale 11 = .ok (.iconst 2, 1) := by decide +kernel
theorem dX14_tale_12 : decode cX14_tale 12 = .ok (.invokestatic 192, 3) := by decide +kernel
theorem dX14_tale_15 : decode cX14_tale 15 = .ok (.ifCond .ne 5, 3) := by decide +kernel
theorem dX14_tale_18 : decode cX14_tale 18 = .ok (.iconst (-1), 1) := by decide +kernel
theorem dX14_tale_19 : decode cX14_tale 19 = .ok (.ireturn, 1) := by decide +kernel
theorem dX14_tale_20 : decode cX14_tale 20 = .ok (.aload_n 0, 1) := by decide +kernel
theorem dX14_tale_21 : decode cX14_tale 21 = .ok (.iload_n 1, 1) := by decide +kernel
theorem dX14_tale_22 : decode cX14_tale 22 = .ok (.invokevirtual 521, 3) := by decide +kernel
theorem dX14_tale_25 : decode cX14_tale 25 = .ok (.aload_n 0, 1) := by decide +kernel
theorem dX14_tale_26 : decode cX14_tale 26 = .ok (.getfield 512, 3) := by decide +kernel
theorem dX14_tale_29 : decode cX14_tale 29 = .ok (.iload_n 2, 1) := by decide +kernel
theorem dX14_tale_30 : decode cX14_tale 30 = .ok (.invokestatic 524, 3) := by decide +kernel
theorem dX14_tale_33 : decode cX14_tale 33 = .ok (.ireturn, 1) := by decide +kernel
theorem dX14_tales_0 : decode cX14_tales 0 = .ok (.aload_n 0, 1) := by decide +kernel
theorem dX14_tales_1 : decode cX14_tales 1 = .ok (.iconst 0, 1) := by decide +kernel
theorem dX14_tales_2 : decode cX14_tales 2 = .ok (.putfield 148, 3) := by decide +kernel
theorem dX14_tales_5 : decode cX14_tales 5 = .ok (.aload_n 0, 1) := by decide +kernel
theorem dX14_tales_6 : decode cX14_tales 6 = .ok (.iconst (-1), 1) := by decide +kernel
theorem dX14_tales_7 : decode cX14_tales 7 = .ok (.invokevirtual 521, 3) := by decide +kernel
theorem dX14_tales_10 : decode cX14_tales 10 = .ok (.aload_n 0, 1) := by decide +kernel
theorem dX14_tales_11 : decode cX14_tales 11 = .ok (.getfield 509, 3) := by decide +kernel
theorem dX14_tales_14 : decode cX14_tales 14 = .ok (.ireturn, 1) := by decide +kernel
theorem dX14_text_0 : decode cX14_text 0 = .ok (.aload_n 0, 1) := by decide +kernel
theorem dX14_text_1 : decode cX14_text 1 = .ok (.iconst 0, 1) := by decide +kernel
theorem dX14_text_2 : decode cX14_text 2 = .ok (.putfield 148, 3) := by decide +kernel
theorem dX14_text_5 : decode cX14_text 5 = .ok (.iload_n 1, 1) := by decide +kernel
theorem dX14_text_6 : decode cX14_text 6 = .ok (.ifCond .lt 11, 3) := by decide +kernel
theorem dX14_text_9 : decode cX14_text 9 = .ok (.iload_n 1, 1) := by decide +kernel
theorem dX14_text_10 : decode cX14_text 10 = .ok (.aload_n 0, 1) := by decide +kernel
theorem dX14_text_11 : decode cX14_text 11 = .ok (.getfield 151, 3) := by decide +kernel
theorem dX14_text_14 : decode cX14_text 14 = .ok (.if_icmp .le 6, 3) := by decide +kernel
theorem dX14_text_17 : decode cX14_text 17 = .ok (.bipush (-2), 2) := by decide +kernel
theorem dX14_text_19 : decode cX14_text 19 = .ok (.ireturn, 1) := by decide +kernel
theorem dX14_text_20 : decode cX14_text 20 = .ok (.aload_n 0, 1) := by decide +kernel
theorem dX14_text_21 : decode cX14_text 21 = .ok (.iload_n 1, 1) := by decide +kernel
theorem dX14_text_22 : decode cX14_text 22 = .ok (.putfield 160, 3) := by decide +kernel
theorem dX14_text_25 : decode cX14_text 25 = .ok (.aload_n 0, 1) := by decide +kernel
theorem dX14_text_26 : decode cX14_text 26 = .ok (.iconst 0, 1) := by decide +kernel
theorem dX14_text_27 : decode cX14_text 27 = .ok (.putfield 151, 3) := by decide +kernel
theorem dX14_text_30 : decode cX14_text 30 = .ok (.aload_n 0, 1) := by decide +kernel
theorem dX14_text_31 : decode cX14_text 31 = .ok (.iconst 0, 1) := by decide +kernel
theorem dX14_text_32 : decode cX14_text 32 = .ok (.putfield 154, 3) := by decide +kernel
theorem dX14_text_35 : decode cX14_text 35 = .ok (.aload_n 0, 1) := by decide +kernel
theorem dX14_text_36 : decode cX14_text 36 = .ok (.iconst (-1), 1) := by decide +kernel
theorem dX14_text_37 : decode cX14_text 37 = .ok (.putfield 16, 3) := by decide +kernel
theorem dX14_text_40 : decode cX14_text 40 = .ok (.aload_n 0, 1) := by decide +kernel
theorem dX14_text_41 : decode cX14_text 41 = .ok (.iconst 0, 1) := by decide +kernel
theorem dX14_text_42 : decode cX14_text 42 = .ok (.putfield 163, 3) := by decide +kernel
theorem dX14_text_45 : decode cX14_text 45 = .ok (.aload_n 0, 1) := by decide +kernel
theorem dX14_text_46 : decode cX14_text 46 = .ok (.invokevirtual 142, 3) := by decide +kernel
theorem dX14_text_49 : decode cX14_text 49 = .ok (.aload_n 0, 1) := by decide +kernel
theorem dX14_text_50 : decode cX14_text 50 = .ok (.invokevirtual 199, 3) := by decide +kernel
theorem dX14_text_53 : decode cX14_text 53 = .ok (.iconst 0, 1) := by decide +kernel
theorem dX14_text_54 : decode cX14_text 54 = .ok (.istore_n 2, 1) := by decide +kernel
theorem dX14_text_55 : decode cX14_text 55 = .ok (.aload_n 0, 1) := by decide +kernel
theorem dX14_text_56 : decode cX14_text 56 = .ok (.getfield 166, 3) := by decide +kernel
theorem dX14_text_59 : decode cX14_text 59 = .ok (.ifCond .eq 18, 3) := by decide +kernel
theorem dX14_text_62 : decode cX14_text 62 = .ok (.aload_n 0, 1) := by decide +kernel
theorem dX14_text_63 : decode cX14_text 63 = .ok (.invokevirtual 358, 3) := by decide +kernel
theorem dX14_text_66 : decode cX14_text 66 = .ok (.ifCond .ne 5, 3) := by decide +kernel
theorem dX14_text_69 : decode cX14_text 69 = .ok (.iconst (-1), 1) := by decide +kernel
theorem dX14_text_70 : decode cX14_text 70 = .ok (.ireturn, 1) := by decide +kernel
theorem dX14_text_71 : decode cX14_text 71 = .ok (.iinc 2 1, 3) := by decide +kernel
theorem dX14_text_74 : decode cX14_text 74 = .ok (.goto (-19), 3) := by decide +kernel
theorem dX14_text_77 : decode cX14_text 77 = .ok (.aload_n 0, 1) := by decide +kernel
theorem dX14_text_78 : decode cX14_text 78 = .ok (.invokevirtual 145, 3) := by decide +kernel
theorem dX14_text_81 : decode cX14_text 81 = .ok (.iload_n 2, 1) := by decide +kernel
theorem dX14_text_82 : decode cX14_text 82 = .ok (.ireturn, 1) := by decide +kernel
theorem dX14_thrown_0 : decode cX14_thrown 0 = .ok (.aload_n 0, 1) := by decide +kernel
theorem dX14_thrown_1 : decode cX14_thrown 1 = .ok (.getfield 148, 3) := by decide +kernel
theorem dX14_thrown_4 : decode cX14_thrown 4 = .ok (.ireturn, 1) := by decide +kernel
theorem dX14_undo_0 : decode cX14_undo 0 = .ok (.aload_n 0, 1) := by decide +kernel
theorem dX14_undo_1 : decode cX14_undo 1 = .ok (.iconst 0, 1) := by decide +kernel
theorem dX14_undo_2 : decode cX14_undo 2 = .ok (.putfield 148, 3) := by decide +kernel
theorem dX14_undo_5 : decode cX14_undo 5 = .ok (.aload_n 0, 1) := by decide +kernel
theorem dX14_undo_6 : decode cX14_undo 6 = .ok (.getfield 301, 3) := by decide +kernel
theorem dX14_undo_9 : decode cX14_undo 9 = .ok (.ifCond .ne 5, 3) := by decide +kernel
theorem dX14_undo_12 : decode cX14_undo 12 = .ok (.iconst (-1), 1) := by decide +kernel
theorem dX14_undo_13 : decode cX14_undo 13 = .ok (.ireturn, 1) := by decide +kernel
theorem dX14_undo_14 : decode cX14_undo 14 = .ok (.aload_n 0, 1) := by decide +kernel
theorem dX14_undo_15 : decode cX14_undo 15 = .ok (.dup, 1) := by decide +kernel
theorem dX14_undo_16 : decode cX14_undo 16 = .ok (.getfield 301, 3) := by decide +kernel
theorem dX14_undo_19 : decode cX14_undo 19 = .ok (.iconst 1, 1) := by decide +kernel
theorem dX14_undo_20 : decode cX14_undo 20 = .ok (.isub, 1) := by decide +kernel
theorem dX14_undo_21 : decode cX14_undo 21 = .ok (.putfield 301, 3) := by decide +kernel
theorem dX14_undo_24 : decode cX14_undo 24 = .ok (.aload_n 0, 1) := by decide +kernel
theorem dX14_undo_25 : decode cX14_undo 25 = .ok (.getfield 115, 3) := by decide +kernel
theorem dX14_undo_28 : decode cX14_undo 28 = .ok (.aload_n 0, 1) := by decide +kernel
theorem dX14_undo_29 : decode cX14_undo 29 = .ok (.getfield 301, 3) := by decide +kernel
theorem dX14_undo_32 : decode cX14_undo 32 = .ok (.iaload, 1) := by decide +kernel
theorem dX14_undo_33 : decode cX14_undo 33 = .ok (.ifCond .ge 16, 3) := by decide +kernel
theorem dX14_undo_36 : decode cX14_undo 36 = .ok (.aload_n 0, 1) := by decide +kernel
theorem dX14_undo_37 : decode cX14_undo 37 = .ok (.dup, 1) := by decide +kernel
theorem dX14_undo_38 : decode cX14_undo 38 = .ok (.getfield 298, 3) := by decide +kernel
theorem dX14_undo_41 : decode cX14_undo 41 = .ok (.iconst 1, 1) := by decide +kernel
theorem dX14_undo_42 : decode cX14_undo 42 = .ok (.isub, 1) := by decide +kernel
theorem dX14_undo_43 : decode cX14_undo 43 = .ok (.putfield 298, 3) := by decide +kernel
theorem dX14_undo_46 : decode cX14_undo 46 = .ok (.goto 22, 3) := by decide +kernel
theorem dX14_undo_49 : decode cX14_undo 49 = .ok (.aload_n 0, 1) := by decide +kernel
theorem dX14_undo_50 : decode cX14_undo 50 = .ok (.getfield 27, 3) := by decide +kernel
theorem dX14_undo_53 : decode cX14_undo 53 = .ok (.aload_n 0, 1) := by decide +kernel
theorem dX14_undo_54 : decode cX14_undo 54 = .ok (.getfield 115, 3) := by decide +kernel
theorem dX14_undo_57 : decode cX14_undo 57 = .ok (.aload_n 0, 1) := by decide +kernel
theorem dX14_undo_58 : decode cX14_undo 58 = .ok (.getfield 301, 3) := by decide +kernel
theorem dX14_undo_61 : decode cX14_undo 61 = .ok (.iaload, 1) := by decide +kernel
theorem dX14_undo_62 : decode cX14_undo 62 = .ok (.iconst 1, 1) := by decide +kernel
theorem dX14_undo_63 : decode cX14_undo 63 = .ok (.iastore, 1) := by decide +kernel
theorem dX14_undo_64 : decode cX14_undo 64 = .ok (.aload_n 0, 1) := by decide +kernel
theorem dX14_undo_65 : decode cX14_undo 65 = .ok (.invokevirtual 310, 3) := by decide +kernel
theorem dX14_undo_68 : decode cX14_undo 68 = .ok (.aload_n 0, 1) := by decide +kernel
theorem dX14_undo_69 : decode cX14_undo 69 = .ok (.getfield 301, 3) := by decide +kernel
theorem dX14_undo_72 : decode cX14_undo 72 = .ok (.ireturn, 1) := by decide +kernel
theorem dX14_weak_0 : decode cX14_weak 0 = .ok (.aload_n 0, 1) := by decide +kernel
theorem dX14_weak_1 : decode cX14_weak 1 = .ok (.iconst 0, 1) := by decide +kernel
theorem dX14_weak_2 : decode cX14_weak 2 = .ok (.putfield 148, 3) := by decide +kernel
theorem dX14_weak_5 : decode cX14_weak 5 = .ok (.aload_n 0, 1) := by decide +kernel
theorem dX14_weak_6 : decode cX14_weak 6 = .ok (.iload_n 1, 1) := by decide +kernel
theorem dX14_weak_7 : decode cX14_weak 7 = .ok (.invokevirtual 432, 3) := by decide +kernel
theorem dX14_weak_10 : decode cX14_weak 10 = .ok (.ifCond .eq 11, 3) := by decide +kernel
theorem dX14_weak_13 : decode cX14_weak 13 = .ok (.aload_n 0, 1) := by decide +kernel
theorem dX14_weak_14 : decode cX14_weak 14 = .ok (.iload_n 2, 1) := by decide +kernel
theorem dX14_weak_15 : decode cX14_weak 15 = .ok (.invokevirtual 432, 3) := by decide +kernel
theorem dX14_weak_18 : decode cX14_weak 18 = .ok (.ifCond .ne 7, 3) := by decide +kernel
theorem dX14_weak_21 : decode cX14_weak 21 = .ok (.iconst (-1), 1) := by decide +kernel
theorem dX14_weak_22 : decode cX14_weak 22 = .ok (.goto 36, 3) := by decide +kernel
theorem dX14_weak_25 : decode cX14_weak 25 = .ok (.aload_n 0, 1) := by decide +kernel
theorem dX14_weak_26 : decode cX14_weak 26 = .ok (.getfield 103, 3) := by decide +kernel
theorem dX14_weak_29 : decode cX14_weak 29 = .ok (.bipush 48, 2) := by decide +kernel
theorem dX14_weak_31 : decode cX14_weak 31 = .ok (.iload_n 1, 1) := by decide +kernel
theorem dX14_weak_32 : decode cX14_weak 32 = .ok (.imul, 1) := by decide +kernel
theorem dX14_weak_33 : decode cX14_weak 33 = .ok (.iload_n 2, 1) := by decide +kernel
theorem dX14_weak_34 : decode cX14_weak 34 = .ok (.iadd, 1) := by decide +kernel
theorem dX14_weak_35 : decode cX14_weak 35 = .ok (.iaload, 1) := by decide +kernel
theorem dX14_weak_36 : decode cX14_weak 36 = .ok (.sipush 999, 3) := by decide +kernel
theorem dX14_weak_39 : decode cX14_weak 39 = .ok (.if_icmp .ne 8, 3) := by decide +kernel
theorem dX14_weak_42 : decode cX14_weak 42 = .ok (.bipush (-2), 2) := by decide +kernel
theorem dX14_weak_44 : decode cX14_weak 44 = .ok (.goto 14, 3) := by decide +kernel
theorem dX14_weak_47 : decode cX14_weak 47 = .ok (.aload_n 0, 1) := by decide +kernel
theorem dX14_weak_48 : decode cX14_weak 48 = .ok (.getfield 106, 3) := by decide +kernel
theorem dX14_weak_51 : decode cX14_weak 51 = .ok (.bipush 48, 2) := by decide +kernel
theorem dX14_weak_53 : decode cX14_weak 53 = .ok (.iload_n 1, 1) := by decide +kernel
theorem dX14_weak_54 : decode cX14_weak 54 = .ok (.imul, 1) := by decide +kernel
theorem dX14_weak_55 : decode cX14_weak 55 = .ok (.iload_n 2, 1) := by decide +kernel
theorem dX14_weak_56 : decode cX14_weak 56 = .ok (.iadd, 1) := by decide +kernel
theorem dX14_weak_57 : decode cX14_weak 57 = .ok (.iaload, 1) := by decide +kernel
theorem dX14_weak_58 : decode cX14_weak 58 = .ok (.ireturn, 1) := by decide +kernel
theorem dX14_where_0 : decode cX14_where 0 = .ok (.aload_n 0, 1) := by decide +kernel
theorem dX14_where_1 : decode cX14_where 1 = .ok (.iconst 0, 1) := by decide +kernel
theorem dX14_where_2 : decode cX14_where 2 = .ok (.putfield 148, 3) := by decide +kernel
theorem dX14_where_5 : decode cX14_where 5 = .ok (.aload_n 0, 1) := by decide +kernel
theorem dX14_where_6 : decode cX14_where 6 = .ok (.iload_n 1, 1) := by decide +kernel
theorem dX14_where_7 : decode cX14_where 7 = .ok (.invokevirtual 482, 3) := by decide +kernel
theorem dX14_where_10 : decode cX14_where 10 = .ok (.ifCond .eq 13, 3) := by decide +kernel
theorem dX14_where_13 : decode cX14_where 13 = .ok (.iload_n 2, 1) := by decide +kernel
theorem dX14_where_14 : decode cX14_where 14 = .ok (.iconst 0, 1) := by decide +kernel
theorem dX14_where_15 : decode cX14_where 15 = .ok (.bipush 100, 2) := by decide +kernel
theorem dX14_where_17 : decode cX14_where 17 = .ok (.invokestatic 192, 3) := by decide +kernel
theorem dX14_where_20 : decode cX14_where 20 = .ok (.ifCond .ne 5, 3) := by decide +kernel
theorem dX14_where_23 : decode cX14_where 23 = .ok (.iconst (-1), 1) := by decide +kernel
theorem dX14_where_24 : decode cX14_where 24 = .ok (.ireturn, 1) := by decide +kernel
theorem dX14_where_25 : decode cX14_where 25 = .ok (.aload_n 0, 1) := by decide +kernel
theorem dX14_where_26 : decode cX14_where 26 = .ok (.getfield 60, 3) := by decide +kernel
theorem dX14_where_29 : decode cX14_where 29 = .ok (.iload_n 1, 1) := by decide +kernel
theorem dX14_where_30 : decode cX14_where 30 = .ok (.iaload, 1) := by decide +kernel
theorem dX14_where_31 : decode cX14_where 31 = .ok (.istore_n 3, 1) := by decide +kernel
theorem dX14_where_32 : decode cX14_where 32 = .ok (.iconst 0, 1) := by decide +kernel
theorem dX14_where_33 : decode cX14_where 33 = .ok (.istore 4, 2) := by decide +kernel
theorem dX14_where_35 : decode cX14_where 35 = .ok (.iload 4, 2) := by decide +kernel
theorem dX14_where_37 : decode cX14_where 37 = .ok (.iload_n 2, 1) := by decide +kernel
theorem dX14_where_38 : decode cX14_where 38 = .ok (.if_icmp .ge 17, 3) := by decide +kernel
theorem dX14_where_41 : decode cX14_where 41 = .ok (.aload_n 0, 1) := by decide +kernel
theorem dX14_where_42 : decode cX14_where 42 = .ok (.iload_n 3, 1) := by decide +kernel
theorem dX14_where_43 : decode cX14_where 43 = .ok (.iload 4, 2) := by decide +kernel
theorem dX14_where_45 : decode cX14_where 45 = .ok (.invokevirtual 491, 3) := by decide +kernel
theorem dX14_where_48 : decode cX14_where 48 = .ok (.istore_n 3, 1) := by decide +kernel
theorem dX14_where_49 : decode cX14_where 49 = .ok (.iinc 4 1, 3) := by decide +kernel
theorem dX14_where_52 : decode cX14_where 52 = .ok (.goto (-17), 3) := by decide +kernel
theorem dX14_where_55 : decode cX14_where 55 = .ok (.iload_n 3, 1) := by decide +kernel
theorem dX14_where_56 : decode cX14_where 56 = .ok (.ireturn, 1) := by decide +kernel
