theorem dX14_isSign_0 : decode cX14_isSign 0 = .ok (.aload_n 0, 1) := by decide +kernel
theorem dX14_isSign_1 : decode cX14_isSign 1 = .ok (.getfield 166, 3) := by decide +kernel
theorem dX14_isSign_4 : decode cX14_isSign 4 = .ok (.iconst 4, 1) := by decide +kernel
theorem dX14_isSign_5 : decode cX14_isSign 5 = .ok (.if_icmp .ne 15, 3) := by decide +kernel
theorem dX14_isSign_8 : decode cX14_isSign 8 = .ok (.aload_n 0, 1) := by decide +kernel
theorem dX14_isSign_9 : decode cX14_isSign 9 = .ok (.getfield 177, 3) := by decide +kernel
theorem dX14_isSign_12 : decode cX14_isSign 12 = .ok (.iload_n 1, 1) := by decide +kernel
theorem dX14_isSign_13 : decode cX14_isSign 13 = .ok (.if_icmp .ne 7, 3) := by decide +kernel
theorem dX14_isSign_16 : decode cX14_isSign 16 = .ok (.iconst 1, 1) := by decide +kernel
theorem dX14_isSign_17 : decode cX14_isSign 17 = .ok (.goto 4, 3) := by decide +kernel
theorem dX14_isSign_20 : decode cX14_isSign 20 = .ok (.iconst 0, 1) := by decide +kernel
theorem dX14_isSign_21 : decode cX14_isSign 21 = .ok (.ireturn, 1) := by decide +kernel
theorem dX14_isSkater_0 : decode cX14_isSkater 0 = .ok (.iload_n 1, 1) := by decide +kernel
theorem dX14_isSkater_1 : decode cX14_isSkater 1 = .ok (.ifCond .lt 15, 3) := by decide +kernel
theorem dX14_isSkater_4 : decode cX14_isSkater 4 = .ok (.iload_n 1, 1) := by decide +kernel
theorem dX14_isSkater_5 : decode cX14_isSkater 5 = .ok (.aload_n 0, 1) := by decide +kernel
theorem dX14_isSkater_6 : decode cX14_isSkater 6 = .ok (.getfield 267, 3) := by decide +kernel
theorem dX14_isSkater_9 : decode cX14_isSkater 9 = .ok (.if_icmp .ge 7, 3) := by decide +kernel
theorem dX14_isSkater_12 : decode cX14_isSkater 12 = .ok (.iconst 1, 1) := by decide +kernel
theorem dX14_isSkater_13 : decode cX14_isSkater 13 = .ok (.goto 4, 3) := by decide +kernel
theorem dX14_isSkater_16 : decode cX14_isSkater 16 = .ok (.iconst 0, 1) := by decide +kernel
theorem dX14_isSkater_17 : decode cX14_isSkater 17 = .ok (.ireturn, 1) := by decide +kernel
theorem dX14_isStep_0 : decode cX14_isStep 0 = .ok (.iload_n 0, 1) := by decide +kernel
theorem dX14_isStep_1 : decode cX14_isStep 1 = .ok (.iconst 0, 1) := by decide +kernel
theorem dX14_isStep_2 : decode cX14_isStep 2 = .ok (.sipush 199, 3) := by decide +kernel
theorem dX14_isStep_5 : decode cX14_isStep 5 = .ok (.invokestatic 192, 3) := by decide +kernel
theorem dX14_isStep_8 : decode cX14_isStep 8 = .ok (.ireturn, 1) := by decide +kernel
theorem dX14_keep_0 : decode cX14_keep 0 = .ok (.aload_n 0, 1) := by decide +kernel
theorem dX14_keep_1 : decode cX14_keep 1 = .ok (.iconst 0, 1) := by decide +kernel
theorem dX14_keep_2 : decode cX14_keep 2 = .ok (.putfield 148, 3) := by decide +kernel
theorem dX14_keep_5 : decode cX14_keep 5 = .ok (.aload_n 0, 1) := by decide +kernel
theorem dX14_keep_6 : decode cX14_keep 6 = .ok (.iconst 1, 1) := by decide +kernel
theorem dX14_keep_7 : decode cX14_keep 7 = .ok (.putfield 307, 3) := by decide +kernel
theorem dX14_keep_10 : decode cX14_keep 10 = .ok (.aload_n 0, 1) := by decide +kernel
theorem dX14_keep_11 : decode cX14_keep 11 = .ok (.aload_n 0, 1) := by decide +kernel
theorem dX14_keep_12 : decode cX14_keep 12 = .ok (.getfield 298, 3) := by decide +kernel
theorem dX14_keep_15 : decode cX14_keep 15 = .ok (.putfield 571, 3) := by decide +kernel
theorem dX14_keep_18 : decode cX14_keep 18 = .ok (.iconst 0, 1) := by decide +kernel
theorem dX14_keep_19 : decode cX14_keep 19 = .ok (.istore_n 1, 1) := by decide +kernel
theorem dX14_keep_20 : decode cX14_keep 20 = .ok (.iload_n 1, 1) := by decide +kernel
theorem dX14_keep_21 : decode cX14_keep 21 = .ok (.bipush 48, 2) := by decide +kernel
theorem dX14_keep_23 : decode cX14_keep 23 = .ok (.if_icmp .ge 21, 3) := by decide +kernel
theorem dX14_keep_26 : decode cX14_keep 26 = .ok (.aload_n 0, 1) := by decide +kernel
theorem dX14_keep_27 : decode cX14_keep 27 = .ok (.getfield 136, 3) := by decide +kernel
theorem dX14_keep_30 : decode cX14_keep 30 = .ok (.iload_n 1, 1) := by decide +kernel
theorem dX14_keep_31 : decode cX14_keep 31 = .ok (.aload_n 0, 1) := by decide +kernel
theorem dX14_keep_32 : decode cX14_keep 32 = .ok (.getfield 27, 3) := by decide +kernel
theorem dX14_keep_35 : decode cX14_keep 35 = .ok (.iload_n 1, 1) := by decide +kernel
theorem dX14_keep_36 : decode cX14_keep 36 = .ok (.iaload, 1) := by decide +kernel
theorem dX14_keep_37 : decode cX14_keep 37 = .ok (.iastore, 1) := by decide +kernel
theorem dX14_keep_38 : decode cX14_keep 38 = .ok (.iinc 1 1, 3) := by decide +kernel
theorem dX14_keep_41 : decode cX14_keep 41 = .ok (.goto (-21), 3) := by decide +kernel
theorem dX14_keep_44 : decode cX14_keep 44 = .ok (.iconst 0, 1) := by decide +kernel
theorem dX14_keep_45 : decode cX14_keep 45 = .ok (.istore_n 1, 1) := by decide +kernel
theorem dX14_keep_46 : decode cX14_keep 46 = .ok (.iload_n 1, 1) := by decide +kernel
theorem dX14_keep_47 : decode cX14_keep 47 = .ok (.bipush 16, 2) := by decide +kernel
theorem dX14_keep_49 : decode cX14_keep 49 = .ok (.if_icmp .ge 55, 3) := by decide +kernel
theorem dX14_keep_52 : decode cX14_keep 52 = .ok (.aload_n 0, 1) := by decide +kernel
theorem dX14_keep_53 : decode cX14_keep 53 = .ok (.getfield 139, 3) := by decide +kernel
theorem dX14_keep_56 : decode cX14_keep 56 = .ok (.iconst 3, 1) := by decide +kernel
theorem dX14_keep_57 : decode cX14_keep 57 = .ok (.iload_n 1, 1) := by decide +kernel
theorem dX14_keep_58 : decode cX14_keep 58 = .ok (.imul, 1) := by decide +kernel
theorem dX14_keep_59 : decode cX14_keep 59 = .ok (.aload_n 0, 1) := by decide +kernel
theorem dX14_keep_60 : decode cX14_keep 60 = .ok (.getfield 63, 3) := by decide +kernel
theorem dX14_keep_63 : decode cX14_keep 63 = .ok (.iload_n 1, 1) := by decide +kernel
theorem dX14_keep_64 : decode cX14_keep 64 = .ok (.iaload, 1) := by decide +kernel
theorem dX14_keep_65 : decode cX14_keep 65 = .ok (.iastore, 1) := by decide +kernel
theorem dX14_keep_66 : decode cX14_keep 66 = .ok (.aload_n 0, 1) := by decide +kernel
theorem dX14_keep_67 : decode cX14_keep 67 = .ok (.getfield 139, 3) := by decide +kernel
theorem dX14_keep_70 : decode cX14_keep 70 = .ok (.iconst 3, 1) := by decide +kernel
theorem dX14_keep_71 : decode cX14_keep 71 = .ok (.iload_n 1, 1) := by decide +kernel
theorem dX14_keep_72 : decode cX14_keep 72 = .ok (.imul, 1) := by decide +kernel
theorem dX14_keep_73 : decode cX14_keep 73 = .ok (.iconst 1, 1) := by decide +kernel
theorem dX14_keep_74 : decode cX14_keep 74 = .ok (.iadd, 1) := by decide +kernel
theorem dX14_keep_75 : decode cX14_keep 75 = .ok (.aload_n 0, 1) := by decide +kernel
theorem dX14_keep_76 : decode cX14_keep 76 = .ok (.getfield 66, 3) := by decide +kernel
theorem dX14_keep_79 : decode cX14_keep 79 = .ok (.iload_n 1, 1) := by decide +kernel
theorem dX14_keep_80 : decode cX14_keep 80 = .ok (.iaload, 1) := by decide +kernel
theorem dX14_keep_81 : decode cX14_keep 81 = .ok (.iastore, 1) := by decide +kernel
theorem dX14_keep_82 : decode cX14_keep 82 = .ok (.aload_n 0, 1) := by decide +kernel
theorem dX14_keep_83 : decode cX14_keep 83 = .ok (.getfield 139, 3) := by decide +kernel
theorem dX14_keep_86 : decode cX14_keep 86 = .ok (.iconst 3, 1) := by decide +kernel
theorem dX14_keep_87 : decode cX14_keep 87 = .ok (.iload_n 1, 1) := by decide +kernel
theorem dX14_keep_88 : decode cX14_keep 88 = .ok (.imul, 1) := by decide +kernel
theorem dX14_keep_89 : decode cX14_keep 89 = .ok (.iconst 2, 1) := by decide +kernel
theorem dX14_keep_90 : decode cX14_keep 90 = .ok (.iadd, 1) := by decide +kernel
theorem dX14_keep_91 : decode cX14_keep 91 = .ok (.aload_n 0, 1) := by decide +kernel
theorem dX14_keep_92 : decode cX14_keep 92 = .ok (.getfield 69, 3) := by decide +kernel
theorem dX14_keep_95 : decode cX14_keep 95 = .ok (.iload_n 1, 1) := by decide +kernel
theorem dX14_keep_96 : decode cX14_keep 96 = .ok (.iaload, 1) := by decide +kernel
theorem dX14_keep_97 : decode cX14_keep 97 = .ok (.iastore, 1) := by decide +kernel
theorem dX14_keep_98 : decode cX14_keep 98 = .ok (.iinc 1 1, 3) := by decide +kernel
theorem dX14_keep_101 : decode cX14_keep 101 = .ok (.goto (-55), 3) := by decide +kernel
theorem dX14_keep_104 : decode cX14_keep 104 = .ok (.aload_n 0, 1) := by decide +kernel
theorem dX14_keep_105 : decode cX14_keep 105 = .ok (.getfield 298, 3) := by decide +kernel
theorem dX14_keep_108 : decode cX14_keep 108 = .ok (.ireturn, 1) := by decide +kernel
theorem dX14_keepText_0 : decode cX14_keepText 0 = .ok (.aload_n 0, 1) := by decide +kernel
theorem dX14_keepText_1 : decode cX14_keepText 1 = .ok (.aload_n 0, 1) := by decide +kernel
theorem dX14_keepText_2 : decode cX14_keepText 2 = .ok (.getfield 209, 3) := by decide +kernel
theorem dX14_keepText_5 : decode cX14_keepText 5 = .ok (.putfield 255, 3) := by decide +kernel
theorem dX14_keepText_8 : decode cX14_keepText 8 = .ok (.aload_n 0, 1) := by decide +kernel
theorem dX14_keepText_9 : decode cX14_keepText 9 = .ok (.aload_n 0, 1) := by decide +kernel
theorem dX14_keepText_10 : decode cX14_keepText 10 = .ok (.getfield 212, 3) := by decide +kernel
theorem dX14_keepText_13 : decode cX14_keepText 13 = .ok (.putfield 258, 3) := by decide +kernel
theorem dX14_keepText_16 : decode cX14_keepText 16 = .ok (.aload_n 0, 1) := by decide +kernel
theorem dX14_keepText_17 : decode cX14_keepText 17 = .ok (.aload_n 0, 1) := by decide +kernel
theorem dX14_keepText_18 : decode cX14_keepText 18 = .ok (.getfield 215, 3) := by decide +kernel
theorem dX14_keepText_21 : decode cX14_keepText 21 = .ok (.putfield 261, 3) := by decide +kernel
theorem dX14_keepText_24 : decode cX14_keepText 24 = .ok (.aload_n 0, 1) := by decide +kernel
theorem dX14_keepText_25 : decode cX14_keepText 25 = .ok (.aload_n 0, 1) := by decide +kernel
theorem dX14_keepText_26 : decode cX14_keepText 26 = .ok (.getfield 218, 3) := by decide +kernel
theorem dX14_keepText_29 : decode cX14_keepText 29 = .ok (.putfield 264, 3) := by decide +kernel
theorem dX14_keepText_32 : decode cX14_keepText 32 = .ok (.aload_n 0, 1) := by decide +kernel
theorem dX14_keepText_33 : decode cX14_keepText 33 = .ok (.aload_n 0, 1) := by decide +kernel
theorem dX14_keepText_34 : decode cX14_keepText 34 = .ok (.getfield 221, 3) := by decide +kernel
theorem dX14_keepText_37 : decode cX14_keepText 37 = .ok (.putfield 267, 3) := by decide +kernel
theorem dX14_keepText_40 : decode cX14_keepText 40 = .ok (.aload_n 0, 1) := by decide +kernel
theorem dX14_keepText_41 : decode cX14_keepText 41 = .ok (.aload_n 0, 1) := by decide +kernel
theorem dX14_keepText_42 : decode cX14_keepText 42 = .ok (.getfield 224, 3) := by decide +kernel
theorem dX14_keepText_45 : decode cX14_keepText 45 = .ok (.putfield 270, 3) := by decide +kernel
theorem dX14_keepText_48 : decode cX14_keepText 48 = .ok (.aload_n 0, 1) := by decide +kernel
theorem dX14_keepText_49 : decode cX14_keepText 49 = .ok (.aload_n 0, 1) := by decide +kernel
theorem dX14_keepText_50 : decode cX14_keepText 50 = .ok (.getfield 227, 3) := by decide +kernel
theorem dX14_keepText_53 : decode cX14_keepText 53 = .ok (.putfield 273, 3) := by decide +kernel
theorem dX14_keepText_56 : decode cX14_keepText 56 = .ok (.aload_n 0, 1) := by decide +kernel
theorem dX14_keepText_57 : decode cX14_keepText 57 = .ok (.aload_n 0, 1) := by decide +kernel
theorem dX14_keepText_58 : decode cX14_keepText 58 = .ok (.getfield 230, 3) := by decide +kernel
theorem dX14_keepText_61 : decode cX14_keepText 61 = .ok (.putfield 276, 3) := by decide +kernel
theorem dX14_keepText_64 : decode cX14_keepText 64 = .ok (.aload_n 0, 1) := by decide +kernel
theorem dX14_keepText_65 : decode cX14_keepText 65 = .ok (.aload_n 0, 1) := by decide +kernel
theorem dX14_keepText_66 : decode cX14_keepText 66 = .ok (.getfield 233, 3) := by decide +kernel
theorem dX14_keepText_69 : decode cX14_keepText 69 = .ok (.putfield 279, 3) := by decide +kernel
theorem dX14_keepText_72 : decode cX14_keepText 72 = .ok (.aload_n 0, 1) := by decide +kernel
theorem dX14_keepText_73 : decode cX14_keepText 73 = .ok (.aload_n 0, 1) := by decide +kernel
theorem dX14_keepText_74 : decode cX14_keepText 74 = .ok (.getfield 20, 3) := by decide +kernel
theorem dX14_keepText_77 : decode cX14_keepText 77 = .ok (.iconst 0, 1) := by decide +kernel
theorem dX14_keepText_78 : decode cX14_keepText 78 = .ok (.iaload, 1) := by decide +kernel
theorem dX14_keepText_79 : decode cX14_keepText 79 = .ok (.putfield 282, 3) := by decide +kernel
theorem dX14_keepText_82 : decode cX14_keepText 82 = .ok (.aload_n 0, 1) := by decide +kernel
theorem dX14_keepText_83 : decode cX14_keepText 83 = .ok (.aload_n 0, 1) := by decide +kernel
theorem dX14_keepText_84 : decode cX14_keepText 84 = .ok (.getfield 20, 3) := by decide +kernel
theorem dX14_keepText_87 : decode cX14_keepText 87 = .ok (.iconst 1, 1) := by decide +kernel
theorem dX14_keepText_88 : decode cX14_keepText 88 = .ok (.iaload, 1) := by decide +kernel
theorem dX14_keepText_89 : decode cX14_keepText 89 = .ok (.putfield 285, 3) := by decide +kernel
theorem dX14_keepText_92 : decode cX14_keepText 92 = .ok (.aload_n 0, 1) := by decide +kernel
theorem dX14_keepText_93 : decode cX14_keepText 93 = .ok (.aload_n 0, 1) := by decide +kernel
theorem dX14_keepText_94 : decode cX14_keepText 94 = .ok (.getfield 20, 3) := by decide +kernel
theorem dX14_keepText_97 : decode cX14_keepText 97 = .ok (.iconst 2, 1) := by decide +kernel
theorem dX14_keepText_98 : decode cX14_keepText 98 = .ok (.iaload, 1) := by decide +kernel
theorem dX14_keepText_99 : decode cX14_keepText 99 = .ok (.putfield 288, 3) := by decide +kernel
theorem dX14_keepText_102 : decode cX14_keepText 102 = .ok (.aload_n 0, 1) := by decide +kernel
theorem dX14_keepText_103 : decode cX14_keepText 103 = .ok (.aload_n 0, 1) := by decide +kernel
theorem dX14_keepText_104 : decode cX14_keepText 104 = .ok (.getfield 252, 3) := by decide +kernel
theorem dX14_keepText_107 : decode cX14_keepText 107 = .ok (.putfield 291, 3) := by decide +kernel
theorem dX14_keepText_110 : decode cX14_keepText 110 = .ok (.aload_n 0, 1) := by decide +kernel
theorem dX14_keepText_111 : decode cX14_keepText 111 = .ok (.getfield 27, 3) := by decide +kernel
theorem dX14_keepText_114 : decode cX14_keepText 114 = .ok (.bipush 48, 2) := by decide +kernel
theorem dX14_keepText_116 : decode cX14_keepText 116 = .ok (.invokestatic 294, 3) := by decide +kernel
theorem dX14_keepText_119 : decode cX14_keepText 119 = .ok (.iconst 0, 1) := by decide +kernel
theorem dX14_keepText_120 : decode cX14_keepText 120 = .ok (.istore_n 1, 1) := by decide +kernel
theorem dX14_keepText_121 : decode cX14_keepText 121 = .ok (.iload_n 1, 1) := by decide +kernel
theorem dX14_keepText_122 : decode cX14_keepText 122 = .ok (.bipush 48, 2) := by decide +kernel
theorem dX14_keepText_124 : decode cX14_keepText 124 = .ok (.if_icmp .ge 24, 3) := by decide +kernel
theorem dX14_keepText_127 : decode cX14_keepText 127 = .ok (.aload_n 0, 1) := by decide +kernel
theorem dX14_keepText_128 : decode cX14_keepText 128 = .ok (.getfield 30, 3) := by decide +kernel
theorem dX14_keepText_131 : decode cX14_keepText 131 = .ok (.iload_n 1, 1) := by decide +kernel
theorem dX14_keepText_132 : decode cX14_keepText 132 = .ok (.aload_n 0, 1) := by decide +kernel
theorem dX14_keepText_133 : decode cX14_keepText 133 = .ok (.getfield 30, 3) := by decide +kernel
theorem dX14_keepText_136 : decode cX14_keepText 136 = .ok (.bipush 48, 2) := by decide +kernel
theorem dX14_keepText_138 : decode cX14_keepText 138 = .ok (.iload_n 1, 1) := by decide +kernel
theorem dX14_keepText_139 : decode cX14_keepText 139 = .ok (.iadd, 1) := by decide +kernel
theorem dX14_keepText_140 : decode cX14_keepText 140 = .ok (.baload, 1) := by decide +kernel
theorem dX14_keepText_141 : decode cX14_keepText 141 = .ok (.bastore, 1) := by decide +kernel
theorem dX14_keepText_142 : decode cX14_keepText 142 = .ok (.iinc 1 1, 3) := by decide +kernel
theorem dX14_keepText_145 : decode cX14_keepText 145 = .ok (.goto (-24), 3) := by decide +kernel
theorem dX14_keepText_148 : decode cX14_keepText 148 = .ok (.aload_n 0, 1) := by decide +kernel
theorem dX14_keepText_149 : decode cX14_keepText 149 = .ok (.getfield 36, 3) := by decide +kernel
theorem dX14_keepText_152 : decode cX14_keepText 152 = .ok (.iconst 3, 1) := by decide +kernel
theorem dX14_keepText_153 : decode cX14_keepText 153 = .ok (.invokestatic 294, 3) := by decide +kernel
theorem dX14_keepText_156 : decode cX14_keepText 156 = .ok (.aload_n 0, 1) := by decide +kernel
theorem dX14_keepText_157 : decode cX14_keepText 157 = .ok (.getfield 39, 3) := by decide +kernel
theorem dX14_keepText_160 : decode cX14_keepText 160 = .ok (.iconst 4, 1) := by decide +kernel
theorem dX14_keepText_161 : decode cX14_keepText 161 = .ok (.invokestatic 294, 3) := by decide +kernel
theorem dX14_keepText_164 : decode cX14_keepText 164 = .ok (.aload_n 0, 1) := by decide +kernel
theorem dX14_keepText_165 : decode cX14_keepText 165 = .ok (.getfield 42, 3) := by decide +kernel
theorem dX14_keepText_168 : decode cX14_keepText 168 = .ok (.iconst 4, 1) := by decide +kernel
theorem dX14_keepText_169 : decode cX14_keepText 169 = .ok (.invokestatic 294, 3) := by decide +kernel
theorem dX14_keepText_172 : decode cX14_keepText 172 = .ok (.aload_n 0, 1) := by decide +kernel
theorem dX14_keepText_173 : decode cX14_keepText 173 = .ok (.getfield 45, 3) := by decide +kernel
theorem dX14_keepText_176 : decode cX14_keepText 176 = .ok (.iconst 4, 1) := by decide +kernel
theorem dX14_keepText_177 : decode cX14_keepText 177 = .ok (.invokestatic 294, 3) := by decide +kernel
theorem dX14_keepText_180 : decode cX14_keepText 180 = .ok (.aload_n 0, 1) := by decide +kernel
theorem dX14_keepText_181 : decode cX14_keepText 181 = .ok (.getfield 48, 3) := by decide +kernel
theorem dX14_keepText_184 : decode cX14_keepText 184 = .ok (.bipush 24, 2) := by decide +kernel
theorem dX14_keepText_186 : decode cX14_keepText 186 = .ok (.invokestatic 294, 3) := by decide +kernel
theorem dX14_keepText_189 : decode cX14_keepText 189 = .ok (.aload_n 0, 1) := by decide +kernel
theorem dX14_keepText_190 : decode cX14_keepText 190 = .ok (.getfield 51, 3) := by decide +kernel
theorem dX14_keepText_193 : decode cX14_keepText 193 = .ok (.bipush 6, 2) := by decide +kernel
theorem dX14_keepText_195 : decode cX14_keepText 195 = .ok (.invokestatic 294, 3) := by decide +kernel
theorem dX14_keepText_198 : decode cX14_keepText 198 = .ok (.aload_n 0, 1) := by decide +kernel
theorem dX14_keepText_199 : decode cX14_keepText 199 = .ok (.getfield 54, 3) := by decide +kernel
theorem dX14_keepText_202 : decode cX14_keepText 202 = .ok (.bipush 6, 2) := by decide +kernel
theorem dX14_keepText_204 : decode cX14_keepText 204 = .ok (.invokestatic 294, 3) := by decide +kernel
theorem dX14_keepText_207 : decode cX14_keepText 207 = .ok (.aload_n 0, 1) := by decide +kernel
theorem dX14_keepText_208 : decode cX14_keepText 208 = .ok (.getfield 57, 3) := by decide +kernel
theorem dX14_keepText_211 : decode cX14_keepText 211 = .ok (.iconst 3, 1) := by decide +kernel
theorem dX14_keepText_212 : decode cX14_keepText 212 = .ok (.invokestatic 294, 3) := by decide +kernel
theorem dX14_keepText_215 : decode cX14_keepText 215 = .ok (.aload_n 0, 1) := by decide +kernel
theorem dX14_keepText_216 : decode cX14_keepText 216 = .ok (.getfield 60, 3) := by decide +kernel
theorem dX14_keepText_219 : decode cX14_keepText 219 = .ok (.iconst 3, 1) := by decide +kernel
theorem dX14_keepText_220 : decode cX14_keepText 220 = .ok (.invokestatic 294, 3) := by decide +kernel
theorem dX14_keepText_223 : decode cX14_keepText 223 = .ok (.aload_n 0, 1) := by decide +kernel
theorem dX14_keepText_224 : decode cX14_keepText 224 = .ok (.getfield 63, 3) := by decide +kernel
theorem dX14_keepText_227 : decode cX14_keepText 227 = .ok (.bipush 16, 2) := by decide +kernel
theorem dX14_keepText_229 : decode cX14_keepText 229 = .ok (.invokestatic 294, 3) := by decide +kernel
theorem dX14_keepText_232 : decode cX14_keepText 232 = .ok (.aload_n 0, 1) := by decide +kernel
theorem dX14_keepText_233 : decode cX14_keepText 233 = .ok (.getfield 66, 3) := by decide +kernel
theorem dX14_keepText_236 : decode cX14_keepText 236 = .ok (.bipush 16, 2) := by decide +kernel
theorem dX14_keepText_238 : decode cX14_keepText 238 = .ok (.invokestatic 294, 3) := by decide +kernel
theorem dX14_keepText_241 : decode cX14_keepText 241 = .ok (.aload_n 0, 1) := by decide +kernel
theorem dX14_keepText_242 : decode cX14_keepText 242 = .ok (.getfield 69, 3) := by decide +kernel
theorem dX14_keepText_245 : decode cX14_keepText 245 = .ok (.bipush 16, 2) := by decide +kernel
theorem dX14_keepText_247 : decode cX14_keepText 247 = .ok (.invokestatic 294, 3) := by decide +kernel
theorem dX14_keepText_250 : decode cX14_keepText 250 = .ok (.aload_n 0, 1) := by decide +kernel
theorem dX14_keepText_251 : decode cX14_keepText 251 = .ok (.getfield 72, 3) := by decide +kernel
theorem dX14_keepText_254 : decode cX14_keepText 254 = .ok (.iconst 3, 1) := by decide +kernel
theorem dX14_keepText_255 : decode cX14_keepText 255 = .ok (.invokestatic 294, 3) := by decide +kernel
theorem dX14_keepText_258 : decode cX14_keepText 258 = .ok (.aload_n 0, 1) := by decide +kernel
theorem dX14_keepText_259 : decode cX14_keepText 259 = .ok (.getfield 75, 3) := by decide +kernel
theorem dX14_keepText_262 : decode cX14_keepText 262 = .ok (.iconst 3, 1) := by decide +kernel
theorem dX14_keepText_263 : decode cX14_keepText 263 = .ok (.invokestatic 294, 3) := by decide +kernel
theorem dX14_keepText_266 : decode cX14_keepText 266 = .ok (.aload_n 0, 1) := by decide +kernel
theorem dX14_keepText_267 : decode cX14_keepText 267 = .ok (.getfield 78, 3) := by decide +kernel
theorem dX14_keepText_270 : decode cX14_keepText 270 = .ok (.bipush 9, 2) := by decide +kernel
theorem dX14_keepText_272 : decode cX14_keepText 272 = .ok (.invokestatic 294, 3) := by decide +kernel
theorem dX14_keepText_275 : decode cX14_keepText 275 = .ok (.aload_n 0, 1) := by decide +kernel
theorem dX14_keepText_276 : decode cX14_keepText 276 = .ok (.getfield 81, 3) := by decide +kernel
theorem dX14_keepText_279 : decode cX14_keepText 279 = .ok (.bipush 64, 2) := by decide +kernel
theorem dX14_keepText_281 : decode cX14_keepText 281 = .ok (.invokestatic 294, 3) := by decide +kernel
theorem dX14_keepText_284 : decode cX14_keepText 284 = .ok (.aload_n 0, 1) := by decide +kernel
theorem dX14_keepText_285 : decode cX14_keepText 285 = .ok (.getfield 84, 3) := by decide +kernel
theorem dX14_keepText_288 : decode cX14_keepText 288 = .ok (.bipush 64, 2) := by decide +kernel
theorem dX14_keepText_290 : decode cX14_keepText 290 = .ok (.invokestatic 294, 3) := by decide +kernel
theorem dX14_keepText_293 : decode cX14_keepText 293 = .ok (.aload_n 0, 1) := by decide +kernel
theorem dX14_keepText_294 : decode cX14_keepText 294 = .ok (.getfield 87, 3) := by decide +kernel
theorem dX14_keepText_297 : decode cX14_keepText 297 = .ok (.bipush 64, 2) := by decide +kernel
theorem dX14_keepText_299 : decode cX14_keepText 299 = .ok (.invokestatic 294, 3) := by decide +kernel
theorem dX14_keepText_302 : decode cX14_keepText 302 = .ok (.aload_n 0, 1) := by decide +kernel
theorem dX14_keepText_303 : decode cX14_keepText 303 = .ok (.aload_n 0, 1) := by decide +kernel
theorem dX14_keepText_304 : decode cX14_keepText 304 = .ok (.getfield 270, 3) := by decide +kernel
theorem dX14_keepText_307 : decode cX14_keepText 307 = .ok (.putfield 298, 3) := by decide +kernel
theorem dX14_keepText_310 : decode cX14_keepText 310 = .ok (.aload_n 0, 1) := by decide +kernel
theorem dX14_keepText_311 : decode cX14_keepText 311 = .ok (.iconst 0, 1) := by decide +kernel
theorem dX14_keepText_312 : decode cX14_keepText 312 = .ok (.putfield 301, 3) := by decide +kernel
theorem dX14_keepText_315 : decode cX14_keepText 315 = .ok (.aload_n 0, 1) := by decide +kernel
theorem dX14_keepText_316 : decode cX14_keepText 316 = .ok (.iconst 0, 1) := by decide +kernel
theorem dX14_keepText_317 : decode cX14_keepText 317 = .ok (.putfield 304, 3) := by decide +kernel
theorem dX14_keepText_320 : decode cX14_keepText 320 = .ok (.aload_n 0, 1) := by decide +kernel
theorem dX14_keepText_321 : decode cX14_keepText 321 = .ok (.iconst (-1), 1) := by decide +kernel
theorem dX14_keepText_322 : decode cX14_keepText 322 = .ok (.putfield 118, 3) := by decide +kernel
theorem dX14_keepText_325 : decode cX14_keepText 325 = .ok (.aload_n 0, 1) := by decide +kernel
theorem dX14_keepText_326 : decode cX14_keepText 326 = .ok (.iconst 0, 1) := by decide +kernel
theorem dX14_keepText_327 : decode cX14_keepText 327 = .ok (.putfield 307, 3) := by decide +kernel
theorem dX14_keepText_330 : decode cX14_keepText 330 = .ok (.aload_n 0, 1) := by decide +kernel
theorem dX14_keepText_331 : decode cX14_keepText 331 = .ok (.invokevirtual 310, 3) := by decide +kernel
theorem dX14_keepText_334 : decode cX14_keepText 334 = .ok (.aload_n 0, 1) := by decide +kernel
theorem dX14_keepText_335 : decode cX14_keepText 335 = .ok (.invokevirtual 313, 3) := by decide +kernel
theorem dX14_keepText_338 : decode cX14_keepText 338 = .ok (.return_, 1) := by decide +kernel
theorem dX14_newName_0 : decode cX14_newName 0 = .ok (.aload_n 0, 1) := by decide +kernel
theorem dX14_newName_1 : decode cX14_newName 1 = .ok (.getfield 166, 3) := by decide +kernel
theorem dX14_newName_4 : decode cX14_newName 4 = .ok (.iconst 2, 1) := by decide +kernel
theorem dX14_newName_5 : decode cX14_newName 5 = .ok (.if_icmp .eq 9, 3) := by decide +kernel
theorem dX14_newName_8 : decode cX14_newName 8 = .ok (.aload_n 0, 1) := by decide +kernel
theorem dX14_newName_9 : decode cX14_newName 9 = .ok (.iconst 1, 1) := by decide +kernel
theorem dX14_newName_10 : decode cX14_newName 10 = .ok (.invokevirtual 189, 3) := by decide +kernel
theorem dX14_newName_13 : decode cX14_newName 13 = .ok (.ireturn, 1) := by decide +kernel
theorem dX14_newName_14 : decode cX14_newName 14 = .ok (.aload_n 1, 1) := by decide +kernel
theorem dX14_newName_15 : decode cX14_newName 15 = .ok (.iload_n 2, 1) := by decide +kernel
theorem dX14_newName_16 : decode cX14_newName 16 = .ok (.iload_n 3, 1) := by decide +kernel
theorem dX14_newName_17 : decode cX14_newName 17 = .ok (.aload_n 0, 1) := by decide +kernel
theorem dX14_newName_18 : decode cX14_newName 18 = .ok (.getfield 177, 3) := by decide +kernel
theorem dX14_newName_21 : decode cX14_newName 21 = .ok (.invokestatic 316, 3) := by decide +kernel
theorem dX14_newName_24 : decode cX14_newName 24 = .ok (.ifCond .lt 9, 3) := by decide +kernel
theorem dX14_newName_27 : decode cX14_newName 27 = .ok (.aload_n 0, 1) := by decide +kernel
theorem dX14_newName_28 : decode cX14_newName 28 = .ok (.iconst 3, 1) := by decide +kernel
theorem dX14_newName_29 : decode cX14_newName 29 = .ok (.invokevirtual 189, 3) := by decide +kernel
theorem dX14_newName_32 : decode cX14_newName 32 = .ok (.ireturn, 1) := by decide +kernel
theorem dX14_newName_33 : decode cX14_newName 33 = .ok (.aload_n 1, 1) := by decide +kernel
theorem dX14_newName_34 : decode cX14_newName 34 = .ok (.iload_n 2, 1) := by decide +kernel
theorem dX14_newName_35 : decode cX14_newName 35 = .ok (.iload_n 3, 1) := by decide +kernel
theorem dX14_newName_36 : decode cX14_newName 36 = .ok (.iadd, 1) := by decide +kernel
theorem dX14_newName_37 : decode cX14_newName 37 = .ok (.aload_n 0, 1) := by decide +kernel
theorem dX14_newName_38 : decode cX14_newName 38 = .ok (.getfield 177, 3) := by decide +kernel
theorem dX14_newName_41 : decode cX14_newName 41 = .ok (.iastore, 1) := by decide +kernel
theorem dX14_newName_42 : decode cX14_newName 42 = .ok (.aload_n 0, 1) := by decide +kernel
theorem dX14_newName_43 : decode cX14_newName 43 = .ok (.invokevirtual 199, 3) := by decide +kernel
theorem dX14_newName_46 : decode cX14_newName 46 = .ok (.iconst 1, 1) := by decide +kernel
theorem dX14_newName_47 : decode cX14_newName 47 = .ok (.ireturn, 1) := by decide +kernel
theorem dX14_signed_0 : decode cX14_signed 0 = .ok (.aload_n 0, 1) := by decide +kernel
theorem dX14_signed_1 : decode cX14_signed 1 = .ok (.bipush 45, 2) := by decide +kernel
theorem dX14_signed_3 : decode cX14_signed 3 = .ok (.invokevirtual 202, 3) := by decide +kernel
theorem dX14_signed_6 : decode cX14_signed 6 = .ok (.istore_n 2, 1) := by decide +kernel
theorem dX14_signed_7 : decode cX14_signed 7 = .ok (.iload_n 2, 1) := by decide +kernel
theorem dX14_signed_8 : decode cX14_signed 8 = .ok (.ifCond .eq 7, 3) := by decide +kernel
theorem dX14_signed_11 : decode cX14_signed 11 = .ok (.aload_n 0, 1) := by decide +kernel
theorem dX14_signed_12 : decode cX14_signed 12 = .ok (.invokevirtual 199, 3) := by decide +kernel
theorem dX14_signed_15 : decode cX14_signed 15 = .ok (.aload_n 0, 1) := by decide +kernel
theorem dX14_signed_16 : decode cX14_signed 16 = .ok (.iconst 0, 1) := by decide +kernel
theorem dX14_signed_17 : decode cX14_signed 17 = .ok (.iload_n 1, 1) := by decide +kernel
theorem dX14_signed_18 : decode cX14_signed 18 = .ok (.invokevirtual 205, 3) := by decide +kernel
theorem dX14_signed_21 : decode cX14_signed 21 = .ok (.ifCond .ne 5, 3) := by decide +kernel
theorem dX14_signed_24 : decode cX14_signed 24 = .ok (.iconst 0, 1) := by decide +kernel
theorem dX14_signed_25 : decode cX14_signed 25 = .ok (.ireturn, 1) := by decide +kernel
theorem dX14_signed_26 : decode cX14_signed 26 = .ok (.aload_n 0, 1) := by decide +kernel
theorem dX14_signed_27 : decode cX14_signed 27 = .ok (.iload_n 2, 1) := by decide +kernel
theorem dX14_signed_28 : decode cX14_signed 28 = .ok (.ifCond .eq 11, 3) := by decide +kernel
theorem dX14_signed_31 : decode cX14_signed 31 = .ok (.aload_n 0, 1) := by decide +kernel
theorem dX14_signed_32 : decode cX14_signed 32 = .ok (.getfield 196, 3) := by decide +kernel
theorem dX14_signed_35 : decode cX14_signed 35 = .ok (.ineg, 1) := by decide +kernel
theorem dX14_signed_36 : decode cX14_signed 36 = .ok (.goto 7, 3) := by decide +kernel
theorem dX14_signed_39 : decode cX14_signed 39 = .ok (.aload_n 0, 1) := by decide +kernel
theorem dX14_signed_40 : decode cX14_signed 40 = .ok (.getfield 196, 3) := by decide +kernel
theorem dX14_signed_43 : decode cX14_signed 43 = .ok (.putfield 196, 3) := by decide +kernel
theorem dX14_signed_46 : decode cX14_signed 46 = .ok (.iconst 1, 1) := by decide +kernel
theorem dX14_signed_47 : decode cX14_signed 47 = .ok (.ireturn, 1) := by decide +kernel
theorem dX14_kindLine_0 : decode cX14_kindLine 0 = .ok (.aload_n 0, 1) := by decide +kernel
theorem dX14_kindLine_1 : decode cX14_kindLine 1 = .ok (.getfield 215, 3) := by decide +kernel
theorem dX14_kindLine_4 : decode cX14_kindLine 4 = .ok (.iconst 4, 1) := by decide +kernel
theorem dX14_kindLine_5 : decode cX14_kindLine 5 = .ok (.if_icmp .ne 9, 3) := by decide +kernel
theorem dX14_kindLine_8 : decode cX14_kindLine 8 = .ok (.aload_n 0, 1) := by decide +kernel
theorem dX14_kindLine_9 : decode cX14_kindLine 9 = .ok (.iconst 2, 1) := by decide +kernel
theorem dX14_kindLine_10 : decode cX14_kindLine 10 = .ok (.invokevirtual 189, 3) := by decide +kernel
theorem dX14_kindLine_13 : decode cX14_kindLine 13 = .ok (.ireturn, 1) := by decide +kernel
theorem dX14_kindLine_14 : decode cX14_kindLine 14 = .ok (.aload_n 0, 1) := by decide +kernel
theorem dX14_kindLine_15 : decode cX14_kindLine 15 = .ok (.invokevirtual 199, 3) := by decide +kernel
theorem dX14_kindLine_18 : decode cX14_kindLine 18 = .ok (.iconst 4, 1) := by decide +kernel
theorem dX14_kindLine_19 : decode cX14_kindLine 19 = .ok (.aload_n 0, 1) := by decide +kernel
theorem dX14_kindLine_20 : decode cX14_kindLine 20 = .ok (.getfield 215, 3) := by decide +kernel
theorem dX14_kindLine_23 : decode cX14_kindLine 23 = .ok (.iadd, 1) := by decide +kernel
theorem dX14_kindLine_24 : decode cX14_kindLine 24 = .ok (.istore_n 1, 1) := by decide +kernel
theorem dX14_kindLine_25 : decode cX14_kindLine 25 = .ok (.aload_n 0, 1) := by decide +kernel
theorem dX14_kindLine_26 : decode cX14_kindLine 26 = .ok (.aload_n 0, 1) := by decide +kernel
theorem dX14_kindLine_27 : decode cX14_kindLine 27 = .ok (.getfield 39, 3) := by decide +kernel
theorem dX14_kindLine_30 : decode cX14_kindLine 30 = .ok (.iconst 4, 1) := by decide +kernel
theorem dX14_kindLine_31 : decode cX14_kindLine 31 = .ok (.aload_n 0, 1) := by decide +kernel
theorem dX14_kindLine_32 : decode cX14_kindLine 32 = .ok (.getfield 215, 3) := by decide +kernel
theorem dX14_kindLine_35 : decode cX14_kindLine 35 = .ok (.invokevirtual 330, 3) := by decide +kernel
theorem dX14_kindLine_38 : decode cX14_kindLine 38 = .ok (.ifCond .ne 5, 3) := by decide +kernel
theorem dX14_kindLine_41 : decode cX14_kindLine 41 = .ok (.iconst 0, 1) := by decide +kernel
theorem dX14_kindLine_42 : decode cX14_kindLine 42 = .ok (.ireturn, 1) := by decide +kernel
theorem dX14_kindLine_43 : decode cX14_kindLine 43 = .ok (.aload_n 0, 1) := by decide +kernel
theorem dX14_kindLine_44 : decode cX14_kindLine 44 = .ok (.getfield 42, 3) := by decide +kernel
theorem dX14_kindLine_47 : decode cX14_kindLine 47 = .ok (.iload_n 1, 1) := by decide +kernel
theorem dX14_kindLine_48 : decode cX14_kindLine 48 = .ok (.iconst 0, 1) := by decide +kernel
theorem dX14_kindLine_49 : decode cX14_kindLine 49 = .ok (.iastore, 1) := by decide +kernel
theorem dX14_kindLine_50 : decode cX14_kindLine 50 = .ok (.aload_n 0, 1) := by decide +kernel
theorem dX14_kindLine_51 : decode cX14_kindLine 51 = .ok (.getfield 45, 3) := by decide +kernel
theorem dX14_kindLine_54 : decode cX14_kindLine 54 = .ok (.iload_n 1, 1) := by decide +kernel
theorem dX14_kindLine_55 : decode cX14_kindLine 55 = .ok (.iconst 1, 1) := by decide +kernel
theorem dX14_kindLine_56 : decode cX14_kindLine 56 = .ok (.iastore, 1) := by decide +kernel
theorem dX14_kindLine_57 : decode cX14_kindLine 57 = .ok (.iconst 1, 1) := by decide +kernel
theorem dX14_kindLine_58 : decode cX14_kindLine 58 = .ok (.istore_n 2, 1) := by decide +kernel
theorem dX14_kindLine_59 : decode cX14_kindLine 59 = .ok (.iload_n 2, 1) := by decide +kernel
theorem dX14_kindLine_60 : decode cX14_kindLine 60 = .ok (.ifCond .eq 87, 3) := by decide +kernel
theorem dX14_kindLine_63 : decode cX14_kindLine 63 = .ok (.aload_n 0, 1) := by decide +kernel
theorem dX14_kindLine_64 : decode cX14_kindLine 64 = .ok (.getfield 42, 3) := by decide +kernel
theorem dX14_kindLine_67 : decode cX14_kindLine 67 = .ok (.iload_n 1, 1) := by decide +kernel
theorem dX14_kindLine_68 : decode cX14_kindLine 68 = .ok (.iaload, 1) := by decide +kernel
theorem dX14_kindLine_69 : decode cX14_kindLine 69 = .ok (.bipush 6, 2) := by decide +kernel
theorem dX14_kindLine_71 : decode cX14_kindLine 71 = .ok (.if_icmp .ne 9, 3) := by decide +kernel
theorem dX14_kindLine_74 : decode cX14_kindLine 74 = .ok (.aload_n 0, 1) := by decide +kernel
theorem dX14_kindLine_75 : decode cX14_kindLine 75 = .ok (.iconst 2, 1) := by decide +kernel
theorem dX14_kindLine_76 : decode cX14_kindLine 76 = .ok (.invokevirtual 189, 3) := by decide +kernel
theorem dX14_kindLine_79 : decode cX14_kindLine 79 = .ok (.ireturn, 1) := by decide +kernel
theorem dX14_kindLine_80 : decode cX14_kindLine 80 = .ok (.aload_n 0, 1) := by decide +kernel
theorem dX14_kindLine_81 : decode cX14_kindLine 81 = .ok (.bipush 99, 2) := by decide +kernel
theorem dX14_kindLine_83 : decode cX14_kindLine 83 = .ok (.invokevirtual 334, 3) := by decide +kernel
theorem dX14_kindLine_86 : decode cX14_kindLine 86 = .ok (.ifCond .ne 5, 3) := by decide +kernel
theorem dX14_kindLine_89 : decode cX14_kindLine 89 = .ok (.iconst 0, 1) := by decide +kernel
theorem dX14_kindLine_90 : decode cX14_kindLine 90 = .ok (.ireturn, 1) := by decide +kernel
theorem dX14_kindLine_91 : decode cX14_kindLine 91 = .ok (.aload_n 0, 1) := by decide +kernel
theorem dX14_kindLine_92 : decode cX14_kindLine 92 = .ok (.getfield 48, 3) := by decide +kernel
theorem dX14_kindLine_95 : decode cX14_kindLine 95 = .ok (.bipush 6, 2) := by decide +kernel
theorem dX14_kindLine_97 : decode cX14_kindLine 97 = .ok (.iload_n 1, 1) := by decide +kernel
theorem dX14_kindLine_98 : decode cX14_kindLine 98 = .ok (.imul, 1) := by decide +kernel
theorem dX14_kindLine_99 : decode cX14_kindLine 99 = .ok (.aload_n 0, 1) := by decide +kernel
theorem dX14_kindLine_100 : decode cX14_kindLine 100 = .ok (.getfield 42, 3) := by decide +kernel
theorem dX14_kindLine_103 : decode cX14_kindLine 103 = .ok (.iload_n 1, 1) := by decide +kernel
theorem dX14_kindLine_104 : decode cX14_kindLine 104 = .ok (.iaload, 1) := by decide +kernel
theorem dX14_kindLine_105 : decode cX14_kindLine 105 = .ok (.iadd, 1) := by decide +kernel
theorem dX14_kindLine_106 : decode cX14_kindLine 106 = .ok (.aload_n 0, 1) := by decide +kernel
theorem dX14_kindLine_107 : decode cX14_kindLine 107 = .ok (.getfield 196, 3) := by decide +kernel
theorem dX14_kindLine_110 : decode cX14_kindLine 110 = .ok (.iastore, 1) := by decide +kernel
theorem dX14_kindLine_111 : decode cX14_kindLine 111 = .ok (.aload_n 0, 1) := by decide +kernel
theorem dX14_kindLine_112 : decode cX14_kindLine 112 = .ok (.getfield 42, 3) := by decide +kernel
theorem dX14_kindLine_115 : decode cX14_kindLine 115 = .ok (.iload_n 1, 1) := by decide +kernel
theorem dX14_kindLine_116 : decode cX14_kindLine 116 = .ok (.dup2, 1) := by decide +kernel
theorem dX14_kindLine_117 : decode cX14_kindLine 117 = .ok (.iaload, 1) := by decide +kernel
theorem dX14_kindLine_118 : decode cX14_kindLine 118 = .ok (.iconst 1, 1) := by decide +kernel
theorem dX14_kindLine_119 : decode cX14_kindLine 119 = .ok (.iadd, 1) := by decide +kernel
theorem dX14_kindLine_120 : decode cX14_kindLine 120 = .ok (.iastore, 1) := by decide +kernel
theorem dX14_kindLine_121 : decode cX14_kindLine 121 = .ok (.aload_n 0, 1) := by decide +kernel
theorem dX14_kindLine_122 : decode cX14_kindLine 122 = .ok (.getfield 166, 3) := by decide +kernel
theorem dX14_kindLine_125 : decode cX14_kindLine 125 = .ok (.iconst 3, 1) := by decide +kernel
theorem dX14_kindLine_126 : decode cX14_kindLine 126 = .ok (.if_icmp .eq 12, 3) := by decide +kernel
theorem dX14_kindLine_129 : decode cX14_kindLine 129 = .ok (.aload_n 0, 1) := by decide +kernel
theorem dX14_kindLine_130 : decode cX14_kindLine 130 = .ok (.bipush 45, 2) := by decide +kernel
theorem dX14_kindLine_132 : decode cX14_kindLine 132 = .ok (.invokevirtual 202, 3) := by decide +kernel
theorem dX14_kindLine_135 : decode cX14_kindLine 135 = .ok (.ifCond .eq 7, 3) := by decide +kernel
theorem dX14_kindLine_138 : decode cX14_kindLine 138 = .ok (.iconst 1, 1) := by decide +kernel
theorem dX14_kindLine_139 : decode cX14_kindLine 139 = .ok (.goto 4, 3) := by decide +kernel
theorem dX14_kindLine_142 : decode cX14_kindLine 142 = .ok (.iconst 0, 1) := by decide +kernel
theorem dX14_kindLine_143 : decode cX14_kindLine 143 = .ok (.istore_n 2, 1) := by decide +kernel
theorem dX14_kindLine_144 : decode cX14_kindLine 144 = .ok (.goto (-85), 3) := by decide +kernel
theorem dX14_kindLine_147 : decode cX14_kindLine 147 = .ok (.aload_n 0, 1) := by decide +kernel
theorem dX14_kindLine_148 : decode cX14_kindLine 148 = .ok (.bipush 13, 2) := by decide +kernel
theorem dX14_kindLine_150 : decode cX14_kindLine 150 = .ok (.invokevirtual 337, 3) := by decide +kernel
theorem dX14_kindLine_153 : decode cX14_kindLine 153 = .ok (.ifCond .eq 29, 3) := by decide +kernel
theorem dX14_kindLine_156 : decode cX14_kindLine 156 = .ok (.aload_n 0, 1) := by decide +kernel
theorem dX14_kindLine_157 : decode cX14_kindLine 157 = .ok (.invokevirtual 199, 3) := by decide +kernel
theorem dX14_kindLine_160 : decode cX14_kindLine 160 = .ok (.aload_n 0, 1) := by decide +kernel
theorem dX14_kindLine_161 : decode cX14_kindLine 161 = .ok (.iconst 1, 1) := by decide +kernel
theorem dX14_kindLine_162 : decode cX14_kindLine 162 = .ok (.bipush 99, 2) := by decide +kernel
theorem dX14_kindLine_164 : decode cX14_kindLine 164 = .ok (.invokevirtual 205, 3) := by decide +kernel
theorem dX14_kindLine_167 : decode cX14_kindLine 167 = .ok (.ifCond .ne 5, 3) := by decide +kernel
theorem dX14_kindLine_170 : decode cX14_kindLine 170 = .ok (.iconst 0, 1) := by decide +kernel
theorem dX14_kindLine_171 : decode cX14_kindLine 171 = .ok (.ireturn, 1) := by decide +kernel
theorem dX14_kindLine_172 : decode cX14_kindLine 172 = .ok (.aload_n 0, 1) := by decide +kernel
theorem dX14_kindLine_173 : decode cX14_kindLine 173 = .ok (.getfield 45, 3) := by decide +kernel
theorem dX14_kindLine_176 : decode cX14_kindLine 176 = .ok (.iload_n 1, 1) := by decide +kernel
theorem dX14_kindLine_177 : decode cX14_kindLine 177 = .ok (.aload_n 0, 1) := by decide +kernel
theorem dX14_kindLine_178 : decode cX14_kindLine 178 = .ok (.getfield 196, 3) := by decide +kernel
theorem dX14_kindLine_181 : decode cX14_kindLine 181 = .ok (.iastore, 1) := by decide +kernel
theorem dX14_kindLine_182 : decode cX14_kindLine 182 = .ok (.aload_n 0, 1) := by decide +kernel
theorem dX14_kindLine_183 : decode cX14_kindLine 183 = .ok (.dup, 1) := by decide +kernel
theorem dX14_kindLine_184 : decode cX14_kindLine 184 = .ok (.getfield 215, 3) := by decide +kernel
theorem dX14_kindLine_187 : decode cX14_kindLine 187 = .ok (.iconst 1, 1) := by decide +kernel
theorem dX14_kindLine_188 : decode cX14_kindLine 188 = .ok (.iadd, 1) := by decide +kernel
theorem dX14_kindLine_189 : decode cX14_kindLine 189 = .ok (.putfield 215, 3) := by decide +kernel
theorem dX14_kindLine_192 : decode cX14_kindLine 192 = .ok (.iconst 1, 1) := by decide +kernel
theorem dX14_kindLine_193 : decode cX14_kindLine 193 = .ok (.ireturn, 1) := by decide +kernel
theorem dX14_known_0 : decode cX14_known 0 = .ok (.aload_n 0, 1) := by decide +kernel
theorem dX14_known_1 : decode cX14_known 1 = .ok (.iconst 0, 1) := by decide +kernel
theorem dX14_known_2 : decode cX14_known 2 = .ok (.putfield 148, 3) := by decide +kernel
theorem dX14_known_5 : decode cX14_known 5 = .ok (.iload_n 1, 1) := by decide +kernel
theorem dX14_known_6 : decode cX14_known 6 = .ok (.iconst (-1), 1) := by decide +kernel
theorem dX14_known_7 : decode cX14_known 7 = .ok (.aload_n 0, 1) := by decide +kernel
theorem dX14_known_8 : decode cX14_known 8 = .ok (.getfield 304, 3) := by decide +kernel
theorem dX14_known_11 : decode cX14_known 11 = .ok (.invokestatic 192, 3) := by decide +kernel
theorem dX14_known_14 : decode cX14_known 14 = .ok (.ifCond .ne 5, 3) := by decide +kernel
theorem dX14_known_17 : decode cX14_known 17 = .ok (.iconst 0, 1) := by decide +kernel
theorem dX14_known_18 : decode cX14_known 18 = .ok (.ireturn, 1) := by decide +kernel
theorem dX14_known_19 : decode cX14_known 19 = .ok (.aload_n 0, 1) := by decide +kernel
theorem dX14_known_20 : decode cX14_known 20 = .ok (.iload_n 1, 1) := by decide +kernel
theorem dX14_known_21 : decode cX14_known 21 = .ok (.putfield 118, 3) := by decide +kernel
theorem dX14_known_24 : decode cX14_known 24 = .ok (.iconst 1, 1) := by decide +kernel
theorem dX14_known_25 : decode cX14_known 25 = .ok (.ireturn, 1) := by decide +kernel
theorem dX14_law_0 : decode cX14_law 0 = .ok (.aload_n 0, 1) := by decide +kernel
theorem dX14_law_1 : decode cX14_law 1 = .ok (.iconst 0, 1) := by decide +kernel
theorem dX14_law_2 : decode cX14_law 2 = .ok (.putfield 148, 3) := by decide +kernel
theorem dX14_law_5 : decode cX14_law 5 = .ok (.aload_n 0, 1) := by decide +kernel
theorem dX14_law_6 : decode cX14_law 6 = .ok (.getfield 291, 3) := by decide +kernel
theorem dX14_law_9 : decode cX14_law 9 = .ok (.ifCond .eq 34, 3) := by decide +kernel
theorem dX14_law_12 : decode cX14_law 12 = .ok (.aload_n 0, 1) := by decide +kernel
theorem dX14_law_13 : decode cX14_law 13 = .ok (.iload_n 1, 1) := by decide +kernel
theorem dX14_law_14 : decode cX14_law 14 = .ok (.invokevirtual 482, 3) := by decide +kernel
theorem dX14_law_17 : decode cX14_law 17 = .ok (.ifCond .eq 26, 3) := by decide +kernel
theorem dX14_law_20 : decode cX14_law 20 = .ok (.iload_n 2, 1) := by decide +kernel
theorem dX14_law_21 : decode cX14_law 21 = .ok (.iconst 0, 1) := by decide +kernel
theorem dX14_law_22 : decode cX14_law 22 = .ok (.iconst 4, 1) := by decide +kernel
theorem dX14_law_23 : decode cX14_law 23 = .ok (.invokestatic 192, 3) := by decide +kernel
theorem dX14_law_26 : decode cX14_law 26 = .ok (.ifCond .eq 17, 3) := by decide +kernel
theorem dX14_law_29 : decode cX14_law 29 = .ok (.aload_n 0, 1) := by decide +kernel
theorem dX14_law_30 : decode cX14_law 30 = .ok (.aload_n 0, 1) := by decide +kernel
theorem dX14_law_31 : decode cX14_law 31 = .ok (.getfield 60, 3) := by decide +kernel
theorem dX14_law_34 : decode cX14_law 34 = .ok (.iload_n 1, 1) := by decide +kernel
theorem dX14_law_35 : decode cX14_law 35 = .ok (.iaload, 1) := by decide +kernel
theorem dX14_law_36 : decode cX14_law 36 = .ok (.iload_n 2, 1) := by decide +kernel
theorem dX14_law_37 : decode cX14_law 37 = .ok (.invokevirtual 439, 3) := by decide +kernel
theorem dX14_law_40 : decode cX14_law 40 = .ok (.ifCond .ge 7, 3) := by decide +kernel
theorem dX14_law_43 : decode cX14_law 43 = .ok (.ldc2_w 485, 3) := by decide +kernel
theorem dX14_law_46 : decode cX14_law 46 = .ok (.lreturn, 1) := by decide +kernel
theorem dX14_law_47 : decode cX14_law 47 = .ok (.aload_n 0, 1) := by decide +kernel
theorem dX14_law_48 : decode cX14_law 48 = .ok (.aload_n 0, 1) := by decide +kernel
theorem dX14_law_49 : decode cX14_law 49 = .ok (.getfield 60, 3) := by decide +kernel
theorem dX14_law_52 : decode cX14_law 52 = .ok (.iload_n 1, 1) := by decide +kernel
theorem dX14_law_53 : decode cX14_law 53 = .ok (.iaload, 1) := by decide +kernel
theorem dX14_law_54 : decode cX14_law 54 = .ok (.iload_n 2, 1) := by decide +kernel
theorem dX14_law_55 : decode cX14_law 55 = .ok (.iconst 0, 1) := by decide +kernel
theorem dX14_law_56 : decode cX14_law 56 = .ok (.invokevirtual 487, 3) := by decide +kernel
theorem dX14_law_59 : decode cX14_law 59 = .ok (.lstore_n 3, 1) := by decide +kernel
theorem dX14_law_60 : decode cX14_law 60 = .ok (.aload_n 0, 1) := by decide +kernel
theorem dX14_law_61 : decode cX14_law 61 = .ok (.getfield 407, 3) := by decide +kernel
theorem dX14_law_64 : decode cX14_law 64 = .ok (.ifCond .eq 9, 3) := by decide +kernel
theorem dX14_law_67 : decode cX14_law 67 = .ok (.ldc2_w 485, 3) := by decide +kernel
theorem dX14_law_70 : decode cX14_law 70 = .ok (.goto 4, 3) := by decide +kernel
theorem dX14_law_73 : decode cX14_law 73 = .ok (.lload_n 3, 1) := by decide +kernel
theorem dX14_law_74 : decode cX14_law 74 = .ok (.lreturn, 1) := by decide +kernel
theorem dX14_tells_0 : decode cX14_tells 0 = .ok (.iconst 0, 1) := by decide +kernel
theorem dX14_tells_1 : decode cX14_tells 1 = .ok (.istore 4, 2) := by decide +kernel
theorem dX14_tells_3 : decode cX14_tells 3 = .ok (.iload 4, 2) := by decide +kernel
theorem dX14_tells_5 : decode cX14_tells 5 = .ok (.aload_n 0, 1) := by decide +kernel
theorem dX14_tells_6 : decode cX14_tells 6 = .ok (.invokevirtual 503, 3) := by decide +kernel
theorem dX14_tells_9 : decode cX14_tells 9 = .ok (.if_icmp .ge 68, 3) := by decide +kernel
theorem dX14_tells_12 : decode cX14_tells 12 = .ok (.aload_n 0, 1) := by decide +kernel
theorem dX14_tells_13 : decode cX14_tells 13 = .ok (.getfield 124, 3) := by decide +kernel
theorem dX14_tells_16 : decode cX14_tells 16 = .ok (.iload 4, 2) := by decide +kernel
theorem dX14_tells_18 : decode cX14_tells 18 = .ok (.baload, 1) := by decide +kernel
theorem dX14_tells_19 : decode cX14_tells 19 = .ok (.ifCond .eq 52, 3) := by decide +kernel
theorem dX14_tells_22 : decode cX14_tells 22 = .ok (.aload_n 0, 1) := by decide +kernel
theorem dX14_tells_23 : decode cX14_tells 23 = .ok (.iload_n 1, 1) := by decide +kernel
theorem dX14_tells_24 : decode cX14_tells 24 = .ok (.iload_n 2, 1) := by decide +kernel
theorem dX14_tells_25 : decode cX14_tells 25 = .ok (.aload_n 0, 1) := by decide +kernel
theorem dX14_tells_26 : decode cX14_tells 26 = .ok (.getfield 54, 3) := by decide +kernel
theorem dX14_tells_29 : decode cX14_tells 29 = .ok (.aload_n 0, 1) := by decide +kernel
theorem dX14_tells_30 : decode cX14_tells 30 = .ok (.getfield 121, 3) := by decide +kernel
theorem dX14_tells_33 : decode cX14_tells 33 = .ok (.iconst 3, 1) := by decide +kernel
theorem dX14_tells_34 : decode cX14_tells 34 = .ok (.iload 4, 2) := by decide +kernel
theorem dX14_tells_36 : decode cX14_tells 36 = .ok (.imul, 1) := by decide +kernel
theorem dX14_tells_37 : decode cX14_tells 37 = .ok (.iaload, 1) := by decide +kernel
theorem dX14_tells_38 : decode cX14_tells 38 = .ok (.iaload, 1) := by decide +kernel
theorem dX14_tells_39 : decode cX14_tells 39 = .ok (.aload_n 0, 1) := by decide +kernel
theorem dX14_tells_40 : decode cX14_tells 40 = .ok (.getfield 121, 3) := by decide +kernel
theorem dX14_tells_43 : decode cX14_tells 43 = .ok (.iconst 3, 1) := by decide +kernel
theorem dX14_tells_44 : decode cX14_tells 44 = .ok (.iload 4, 2) := by decide +kernel
theorem dX14_tells_46 : decode cX14_tells 46 = .ok (.imul, 1) := by decide +kernel
theorem dX14_tells_47 : decode cX14_tells 47 = .ok (.iconst 1, 1) := by decide +kernel
theorem dX14_tells_48 : decode cX14_tells 48 = .ok (.iadd, 1) := by decide +kernel
theorem dX14_tells_49 : decode cX14_tells 49 = .ok (.iaload, 1) := by decide +kernel
theorem dX14_tells_50 : decode cX14_tells 50 = .ok (.iload_n 3, 1) := by decide +kernel
theorem dX14_tells_51 : decode cX14_tells 51 = .ok (.isub, 1) := by decide +kernel
theorem dX14_tells_52 : decode cX14_tells 52 = .ok (.invokevirtual 464, 3) := by decide +kernel
theorem dX14_tells_55 : decode cX14_tells 55 = .ok (.aload_n 0, 1) := by decide +kernel
theorem dX14_tells_56 : decode cX14_tells 56 = .ok (.getfield 121, 3) := by decide +kernel
theorem dX14_tells_59 : decode cX14_tells 59 = .ok (.iconst 3, 1) := by decide +kernel
theorem dX14_tells_60 : decode cX14_tells 60 = .ok (.iload 4, 2) := by decide +kernel
theorem dX14_tells_62 : decode cX14_tells 62 = .ok (.imul, 1) := by decide +kernel
theorem dX14_tells_63 : decode cX14_tells 63 = .ok (.iconst 2, 1) := by decide +kernel
theorem dX14_tells_64 : decode cX14_tells 64 = .ok (.iadd, 1) := by decide +kernel
theorem dX14_tells_65 : decode cX14_tells 65 = .ok (.iaload, 1) := by decide +kernel
theorem dX14_tells_66 : decode cX14_tells 66 = .ok (.if_icmp .eq 5, 3) := by decide +kernel
theorem dX14_tells_69 : decode cX14_tells 69 = .ok (.iconst 0, 1) := by decide +kernel
theorem dX14_tells_70 : decode cX14_tells 70 = .ok (.ireturn, 1) := by decide +kernel
theorem dX14_tells_71 : decode cX14_tells 71 = .ok (.iinc 4 1, 3) := by decide +kernel
theorem dX14_tells_74 : decode cX14_tells 74 = .ok (.goto (-71), 3) := by decide +kernel
theorem dX14_tells_77 : decode cX14_tells 77 = .ok (.iconst 1, 1) := by decide +kernel
theorem dX14_tells_78 : decode cX14_tells 78 = .ok (.ireturn, 1) := by decide +kernel
theorem dX14_layTales_0 : decode cX14_layTales 0 = .ok (.aload_n 0, 1) := by decide +kernel
theorem dX14_layTales_1 : decode cX14_layTales 1 = .ok (.invokevirtual 506, 3) := by decide +kernel
theorem dX14_layTales_4 : decode cX14_layTales 4 = .ok (.aload_n 0, 1) := by decide +kernel
theorem dX14_layTales_5 : decode cX14_layTales 5 = .ok (.iconst 0, 1) := by decide +kernel
theorem dX14_layTales_6 : decode cX14_layTales 6 = .ok (.putfield 509, 3) := by decide +kernel
theorem dX14_layTales_9 : decode cX14_layTales 9 = .ok (.aload_n 0, 1) := by decide +kernel
theorem dX14_layTales_10 : decode cX14_layTales 10 = .ok (.iconst (-1), 1) := by decide +kernel
theorem dX14_layTales_11 : decode cX14_layTales 11 = .ok (.putfield 512, 3) := by decide +kernel
theorem dX14_layTales_14 : decode cX14_layTales 14 = .ok (.aload_n 0, 1) := by decide +kernel
theorem dX14_layTales_15 : decode cX14_layTales 15 = .ok (.iconst (-1), 1) := by decide +kernel
theorem dX14_layTales_16 : decode cX14_layTales 16 = .ok (.putfield 515, 3) := by decide +kernel
theorem dX14_layTales_19 : decode cX14_layTales 19 = .ok (.iconst 0, 1) := by decide +kernel
theorem dX14_layTales_20 : decode cX14_layTales 20 = .ok (.istore_n 2, 1) := by decide +kernel
theorem dX14_layTales_21 : decode cX14_layTales 21 = .ok (.iload_n 2, 1) := by decide +kernel
theorem dX14_layTales_22 : decode cX14_layTales 22 = .ok (.aload_n 0, 1) := by decide +kernel
theorem dX14_layTales_23 : decode cX14_layTales 23 = .ok (.getfield 261, 3) := by decide +kernel
theorem dX14_layTales_26 : decode cX14_layTales 26 = .ok (.if_icmp .ge 153, 3) := by decide +kernel
theorem dX14_layTales_29 : decode cX14_layTales 29 = .ok (.iconst 0, 1) := by decide +kernel
theorem dX14_layTales_30 : decode cX14_layTales 30 = .ok (.istore_n 3, 1) := by decide +kernel
theorem dX14_layTales_31 : decode cX14_layTales 31 = .ok (.iload_n 3, 1) := by decide +kernel
theorem dX14_layTales_32 : decode cX14_layTales 32 = .ok (.aload_n 0, 1) := by decide +kernel
theorem dX14_layTales_33 : decode cX14_layTales 33 = .ok (.invokevirtual 426, 3) := by decide +kernel
theorem dX14_layTales_36 : decode cX14_layTales 36 = .ok (.if_icmp .ge 137, 3) := by decide +kernel
theorem dX14_layTales_39 : decode cX14_layTales 39 = .ok (.iconst 0, 1) := by decide +kernel
theorem dX14_layTales_40 : decode cX14_layTales 40 = .ok (.istore 4, 2) := by decide +kernel
theorem dX14_layTales_42 : decode cX14_layTales 42 = .ok (.iload 4, 2) := by decide +kernel
theorem dX14_layTales_44 : decode cX14_layTales 44 = .ok (.bipush 21, 2) := by decide +kernel
theorem dX14_layTales_46 : decode cX14_layTales 46 = .ok (.if_icmp .ge 121, 3) := by decide +kernel
theorem dX14_layTales_49 : decode cX14_layTales 49 = .ok (.aload_n 0, 1) := by decide +kernel
theorem dX14_layTales_50 : decode cX14_layTales 50 = .ok (.getfield 27, 3) := by decide +kernel
theorem dX14_layTales_53 : decode cX14_layTales 53 = .ok (.iload_n 3, 1) := by decide +kernel
theorem dX14_layTales_54 : decode cX14_layTales 54 = .ok (.iaload, 1) := by decide +kernel
theorem dX14_layTales_55 : decode cX14_layTales 55 = .ok (.iconst 2, 1) := by decide +kernel
theorem dX14_layTales_56 : decode cX14_layTales 56 = .ok (.if_icmp .eq 105, 3) := by decide +kernel
theorem dX14_layTales_59 : decode cX14_layTales 59 = .ok (.aload_n 0, 1) := by decide +kernel
theorem dX14_layTales_60 : decode cX14_layTales 60 = .ok (.iload_n 2, 1) := by decide +kernel
theorem dX14_layTales_61 : decode cX14_layTales 61 = .ok (.iload_n 3, 1) := by decide +kernel
theorem dX14_layTales_62 : decode cX14_layTales 62 = .ok (.iload 4, 2) := by decide +kernel
theorem dX14_layTales_64 : decode cX14_layTales 64 = .ok (.invokevirtual 518, 3) := by decide +kernel
theorem dX14_layTales_67 : decode cX14_layTales 67 = .ok (.ifCond .ne 6, 3) := by decide +kernel
theorem dX14_layTales_70 : decode cX14_layTales 70 = .ok (.goto 91, 3) := by decide +kernel
theorem dX14_layTales_73 : decode cX14_layTales 73 = .ok (.sipush 1008, 3) := by decide +kernel
theorem dX14_layTales_76 : decode cX14_layTales 76 = .ok (.iload_n 2, 1) := by decide +kernel
theorem dX14_layTales_77 : decode cX14_layTales 77 = .ok (.imul, 1) := by decide +kernel
theorem dX14_layTales_78 : decode cX14_layTales 78 = .ok (.bipush 21, 2) := by decide +kernel
theorem dX14_layTales_80 : decode cX14_layTales 80 = .ok (.iload_n 3, 1) := by decide +kernel
theorem dX14_layTales_81 : decode cX14_layTales 81 = .ok (.imul, 1) := by decide +kernel
theorem dX14_layTales_82 : decode cX14_layTales 82 = .ok (.iadd, 1) := by decide +kernel
theorem dX14_layTales_83 : decode cX14_layTales 83 = .ok (.iload 4, 2) := by decide +kernel
theorem dX14_layTales_85 : decode cX14_layTales 85 = .ok (.iadd, 1) := by decide +kernel
theorem dX14_layTales_86 : decode cX14_layTales 86 = .ok (.istore 5, 2) := by decide +kernel
theorem dX14_layTales_88 : decode cX14_layTales 88 = .ok (.aload_n 0, 1) := by decide +kernel
theorem dX14_layTales_89 : decode cX14_layTales 89 = .ok (.aload_n 0, 1) := by decide +kernel
theorem dX14_layTales_90 : decode cX14_layTales 90 = .ok (.getfield 509, 3) := by decide +kernel
theorem dX14_layTales_93 : decode cX14_layTales 93 = .ok (.iload_n 1, 1) := by decide +kernel
theorem dX14_layTales_94 : decode cX14_layTales 94 = .ok (.if_icmp .ne 8, 3) := by decide +kernel
theorem dX14_layTales_97 : decode cX14_layTales 97 = .ok (.iload 5, 2) := by decide +kernel
theorem dX14_layTales_99 : decode cX14_layTales 99 = .ok (.goto 7, 3) := by decide +kernel
theorem dX14_layTales_102 : decode cX14_layTales 102 = .ok (.aload_n 0, 1) := by decide +kernel
theorem dX14_layTales_103 : decode cX14_layTales 103 = .ok (.getfield 512, 3) := by decide +kernel
theorem dX14_layTales_106 : decode cX14_layTales 106 = .ok (.putfield 512, 3) := by decide +kernel
theorem dX14_layTales_109 : decode cX14_layTales 109 = .ok (.aload_n 0, 1) := by decide +kernel
theorem dX14_layTales_110 : decode cX14_layTales 110 = .ok (.aload_n 0, 1) := by decide +kernel
theorem dX14_layTales_111 : decode cX14_layTales 111 = .ok (.getfield 515, 3) := by decide +kernel
theorem dX14_layTales_114 : decode cX14_layTales 114 = .ok (.ifCond .lt 25, 3) := by decide +kernel
theorem dX14_layTales_117 : decode cX14_layTales 117 = .ok (.aload_n 0, 1) := by decide +kernel
theorem dX14_layTales_118 : decode cX14_layTales 118 = .ok (.getfield 45, 3) := by decide +kernel
theorem dX14_layTales_121 : decode cX14_layTales 121 = .ok (.iload_n 2, 1) := by decide +kernel
theorem dX14_layTales_122 : decode cX14_layTales 122 = .ok (.iaload, 1) := by decide +kernel
theorem dX14_layTales_123 : decode cX14_layTales 123 = .ok (.aload_n 0, 1) := by decide +kernel
theorem dX14_layTales_124 : decode cX14_layTales 124 = .ok (.getfield 45, 3) := by decide +kernel
theorem dX14_layTales_127 : decode cX14_layTales 127 = .ok (.aload_n 0, 1) := by decide +kernel
theorem dX14_layTales_128 : decode cX14_layTales 128 = .ok (.getfield 515, 3) := by decide +kernel
theorem dX14_layTales_131 : decode cX14_layTales 131 = .ok (.sipush 1008, 3) := by decide +kernel
theorem dX14_layTales_134 : decode cX14_layTales 134 = .ok (.idiv, 1) := by decide +kernel
theorem dX14_layTales_135 : decode cX14_layTales 135 = .ok (.iaload, 1) := by decide +kernel
theorem dX14_layTales_136 : decode cX14_layTales 136 = .ok (.if_icmp .le 8, 3) := by decide +kernel
theorem dX14_layTales_139 : decode cX14_layTales 139 = .ok (.iload 5, 2) := by decide +kernel
theorem dX14_layTales_141 : decode cX14_layTales 141 = .ok (.goto 7, 3) := by decide +kernel
theorem dX14_layTales_144 : decode cX14_layTales 144 = .ok (.aload_n 0, 1) := by decide +kernel
theorem dX14_layTales_145 : decode cX14_layTales 145 = .ok (.getfield 515, 3) := by decide +kernel
theorem dX14_layTales_148 : decode cX14_layTales 148 = .ok (.putfield 515, 3) := by decide +kernel
theorem dX14_layTales_151 : decode cX14_layTales 151 = .ok (.aload_n 0, 1) := by decide +kernel
theorem dX14_layTales_152 : decode cX14_layTales 152 = .ok (.dup, 1) := by decide +kernel
theorem dX14_layTales_153 : decode cX14_layTales 153 = .ok (.getfield 509, 3) := by decide +kernel
theorem dX14_layTales_156 : decode cX14_layTales 156 = .ok (.iconst 1, 1) := by decide +kernel
theorem dX14_layTales_157 : decode cX14_layTales 157 = .ok (.iadd, 1) := by decide +kernel
theorem dX14_layTales_158 : decode cX14_layTales 158 = .ok (.putfield 509, 3) := by decide +kernel
theorem dX14_layTales_161 : decode cX14_layTales 161 = .ok (.iinc 4 1, 3) := by decide +kernel
theorem dX14_layTales_164 : decode cX14_layTales 164 = .ok (.goto (-122), 3) := by decide +kernel
theorem dX14_layTales_167 : decode cX14_layTales 167 = .ok (.iinc 3 1, 3) := by decide +kernel
theorem dX14_layTales_170 : decode cX14_layTales 170 = .ok (.goto (-139), 3) := by decide +kernel
theorem dX14_layTales_173 : decode cX14_layTales 173 = .ok (.iinc 2 1, 3) := by decide +kernel
theorem dX14_layTales_176 : decode cX14_layTales 176 = .ok (.goto (-155), 3) := by decide +kernel
theorem dX14_layTales_179 : decode cX14_layTales 179 = .ok (.return_, 1) := by decide +kernel
theorem dX14_nameMet_0 : decode cX14_nameMet 0 = .ok (.aload_n 0, 1) := by decide +kernel
theorem dX14_nameMet_1 : decode cX14_nameMet 1 = .ok (.getfield 166, 3) := by decide +kernel
theorem dX14_nameMet_4 : decode cX14_nameMet 4 = .ok (.iconst 1, 1) := by decide +kernel
theorem dX14_nameMet_5 : decode cX14_nameMet 5 = .ok (.if_icmp .ne 22, 3) := by decide +kernel
theorem dX14_nameMet_8 : decode cX14_nameMet 8 = .ok (.aload_n 0, 1) := by decide +kernel
theorem dX14_nameMet_9 : decode cX14_nameMet 9 = .ok (.getfield 177, 3) := by decide +kernel
theorem dX14_nameMet_12 : decode cX14_nameMet 12 = .ok (.bipush 17, 2) := by decide +kernel
theorem dX14_nameMet_14 : decode cX14_nameMet 14 = .ok (.if_icmp .lt 13, 3) := by decide +kernel
theorem dX14_nameMet_17 : decode cX14_nameMet 17 = .ok (.aload_n 0, 1) := by decide +kernel
theorem dX14_nameMet_18 : decode cX14_nameMet 18 = .ok (.getfield 177, 3) := by decide +kernel
theorem dX14_nameMet_21 : decode cX14_nameMet 21 = .ok (.bipush 17, 2) := by decide +kernel
theorem dX14_nameMet_23 : decode cX14_nameMet 23 = .ok (.isub, 1) := by decide +kernel
theorem dX14_nameMet_24 : decode cX14_nameMet 24 = .ok (.goto 4, 3) := by decide +kernel
theorem dX14_nameMet_27 : decode cX14_nameMet 27 = .ok (.iconst (-1), 1) := by decide +kernel
theorem dX14_nameMet_28 : decode cX14_nameMet 28 = .ok (.ireturn, 1) := by decide +kernel
theorem dX14_waitsFor_0 : decode cX14_waitsFor 0 = .ok (.aload_n 0, 1) := by decide +kernel
theorem dX14_waitsFor_1 : decode cX14_waitsFor 1 = .ok (.getfield 90, 3) := by decide +kernel
theorem dX14_waitsFor_4 : decode cX14_waitsFor 4 = .ok (.aload_n 0, 1) := by decide +kernel
theorem dX14_waitsFor_5 : decode cX14_waitsFor 5 = .ok (.getfield 364, 3) := by decide +kernel
theorem dX14_waitsFor_8 : decode cX14_waitsFor 8 = .ok (.iload_n 1, 1) := by decide +kernel
theorem dX14_waitsFor_9 : decode cX14_waitsFor 9 = .ok (.iastore, 1) := by decide +kernel
theorem dX14_waitsFor_10 : decode cX14_waitsFor 10 = .ok (.aload_n 0, 1) := by decide +kernel
theorem dX14_waitsFor_11 : decode cX14_waitsFor 11 = .ok (.dup, 1) := by decide +kernel
theorem dX14_waitsFor_12 : decode cX14_waitsFor 12 = .ok (.getfield 364, 3) := by decide +kernel
theorem dX14_waitsFor_15 : decode cX14_waitsFor 15 = .ok (.iconst 1, 1) := by decide +kernel
theorem dX14_waitsFor_16 : decode cX14_waitsFor 16 = .ok (.iadd, 1) := by decide +kernel
theorem dX14_waitsFor_17 : decode cX14_waitsFor 17 = .ok (.putfield 364, 3) := by decide +kernel
theorem dX14_waitsFor_20 : decode cX14_waitsFor 20 = .ok (.return_, 1) := by decide +kernel
theorem dX14_leafRead_0 : decode cX14_leafRead 0 = .ok (.aload_n 0, 1) := by decide +kernel
theorem dX14_leafRead_1 : decode cX14_leafRead 1 = .ok (.bipush 40, 2) := by decide +kernel
theorem dX14_leafRead_3 : decode cX14_leafRead 3 = .ok (.invokevirtual 202, 3) := by decide +kernel
theorem dX14_leafRead_6 : decode cX14_leafRead 6 = .ok (.ifCond .eq 44, 3) := by decide +kernel
theorem dX14_leafRead_9 : decode cX14_leafRead 9 = .ok (.aload_n 0, 1) := by decide +kernel
theorem dX14_leafRead_10 : decode cX14_leafRead 10 = .ok (.getfield 379, 3) := by decide +kernel
theorem dX14_leafRead_13 : decode cX14_leafRead 13 = .ok (.bipush 8, 2) := by decide +kernel
theorem dX14_leafRead_15 : decode cX14_leafRead 15 = .ok (.if_icmp .ne 9, 3) := by decide +kernel
theorem dX14_leafRead_18 : decode cX14_leafRead 18 = .ok (.aload_n 0, 1) := by decide +kernel
theorem dX14_leafRead_19 : decode cX14_leafRead 19 = .ok (.iconst 2, 1) := by decide +kernel
theorem dX14_leafRead_20 : decode cX14_leafRead 20 = .ok (.invokevirtual 189, 3) := by decide +kernel
theorem dX14_leafRead_23 : decode cX14_leafRead 23 = .ok (.ireturn, 1) := by decide +kernel
theorem dX14_leafRead_24 : decode cX14_leafRead 24 = .ok (.aload_n 0, 1) := by decide +kernel
theorem dX14_leafRead_25 : decode cX14_leafRead 25 = .ok (.dup, 1) := by decide +kernel
theorem dX14_leafRead_26 : decode cX14_leafRead 26 = .ok (.getfield 379, 3) := by decide +kernel
theorem dX14_leafRead_29 : decode cX14_leafRead 29 = .ok (.iconst 1, 1) := by decide +kernel
theorem dX14_leafRead_30 : decode cX14_leafRead 30 = .ok (.iadd, 1) := by decide +kernel
theorem dX14_leafRead_31 : decode cX14_leafRead 31 = .ok (.putfield 379, 3) := by decide +kernel
theorem dX14_leafRead_34 : decode cX14_leafRead 34 = .ok (.aload_n 0, 1) := by decide +kernel
theorem dX14_leafRead_35 : decode cX14_leafRead 35 = .ok (.iconst 0, 1) := by decide +kernel
theorem dX14_leafRead_36 : decode cX14_leafRead 36 = .ok (.invokevirtual 382, 3) := by decide +kernel
theorem dX14_leafRead_39 : decode cX14_leafRead 39 = .ok (.aload_n 0, 1) := by decide +kernel
theorem dX14_leafRead_40 : decode cX14_leafRead 40 = .ok (.iconst 1, 1) := by decide +kernel
theorem dX14_leafRead_41 : decode cX14_leafRead 41 = .ok (.putfield 386, 3) := by decide +kernel
theorem dX14_leafRead_44 : decode cX14_leafRead 44 = .ok (.aload_n 0, 1) := by decide +kernel
theorem dX14_leafRead_45 : decode cX14_leafRead 45 = .ok (.invokevirtual 199, 3) := by decide +kernel
theorem dX14_leafRead_48 : decode cX14_leafRead 48 = .ok (.iconst 1, 1) := by decide +kernel
theorem dX14_leafRead_49 : decode cX14_leafRead 49 = .ok (.ireturn, 1) := by decide +kernel
theorem dX14_leafRead_50 : decode cX14_leafRead 50 = .ok (.aload_n 0, 1) := by decide +kernel
theorem dX14_leafRead_51 : decode cX14_leafRead 51 = .ok (.bipush 16, 2) := by decide +kernel
theorem dX14_leafRead_53 : decode cX14_leafRead 53 = .ok (.invokevirtual 337, 3) := by decide +kernel
theorem dX14_leafRead_56 : decode cX14_leafRead 56 = .ok (.ifCond .eq 30, 3) := by decide +kernel
theorem dX14_leafRead_59 : decode cX14_leafRead 59 = .ok (.aload_n 0, 1) := by decide +kernel
theorem dX14_leafRead_60 : decode cX14_leafRead 60 = .ok (.getfield 386, 3) := by decide +kernel
theorem dX14_leafRead_63 : decode cX14_leafRead 63 = .ok (.ifCond .eq 23, 3) := by decide +kernel
theorem dX14_leafRead_66 : decode cX14_leafRead 66 = .ok (.aload_n 0, 1) := by decide +kernel
theorem dX14_leafRead_67 : decode cX14_leafRead 67 = .ok (.invokevirtual 389, 3) := by decide +kernel
theorem dX14_leafRead_70 : decode cX14_leafRead 70 = .ok (.ifCond .ne 5, 3) := by decide +kernel
theorem dX14_leafRead_73 : decode cX14_leafRead 73 = .ok (.iconst 0, 1) := by decide +kernel
theorem dX14_leafRead_74 : decode cX14_leafRead 74 = .ok (.ireturn, 1) := by decide +kernel
theorem dX14_leafRead_75 : decode cX14_leafRead 75 = .ok (.aload_n 0, 1) := by decide +kernel
theorem dX14_leafRead_76 : decode cX14_leafRead 76 = .ok (.iconst 2, 1) := by decide +kernel
theorem dX14_leafRead_77 : decode cX14_leafRead 77 = .ok (.invokevirtual 382, 3) := by decide +kernel
theorem dX14_leafRead_80 : decode cX14_leafRead 80 = .ok (.aload_n 0, 1) := by decide +kernel
theorem dX14_leafRead_81 : decode cX14_leafRead 81 = .ok (.invokevirtual 199, 3) := by decide +kernel
theorem dX14_leafRead_84 : decode cX14_leafRead 84 = .ok (.iconst 1, 1) := by decide +kernel
theorem dX14_leafRead_85 : decode cX14_leafRead 85 = .ok (.ireturn, 1) := by decide +kernel
theorem dX14_leafRead_86 : decode cX14_leafRead 86 = .ok (.aload_n 0, 1) := by decide +kernel
theorem dX14_leafRead_87 : decode cX14_leafRead 87 = .ok (.invokevirtual 392, 3) := by decide +kernel
theorem dX14_leafRead_90 : decode cX14_leafRead 90 = .ok (.istore_n 1, 1) := by decide +kernel
theorem dX14_leafRead_91 : decode cX14_leafRead 91 = .ok (.iload_n 1, 1) := by decide +kernel
theorem dX14_leafRead_92 : decode cX14_leafRead 92 = .ok (.ifCond .ge 17, 3) := by decide +kernel
theorem dX14_leafRead_95 : decode cX14_leafRead 95 = .ok (.aload_n 0, 1) := by decide +kernel
theorem dX14_leafRead_96 : decode cX14_leafRead 96 = .ok (.getfield 166, 3) := by decide +kernel
theorem dX14_leafRead_99 : decode cX14_leafRead 99 = .ok (.iconst 3, 1) := by decide +kernel
theorem dX14_leafRead_100 : decode cX14_leafRead 100 = .ok (.if_icmp .eq 9, 3) := by decide +kernel
theorem dX14_leafRead_103 : decode cX14_leafRead 103 = .ok (.aload_n 0, 1) := by decide +kernel
theorem dX14_leafRead_104 : decode cX14_leafRead 104 = .ok (.iconst 1, 1) := by decide +kernel
theorem dX14_leafRead_105 : decode cX14_leafRead 105 = .ok (.invokevirtual 189, 3) := by decide +kernel
theorem dX14_leafRead_108 : decode cX14_leafRead 108 = .ok (.ireturn, 1) := by decide +kernel
theorem dX14_leafRead_109 : decode cX14_leafRead 109 = .ok (.iload_n 1, 1) := by decide +kernel
theorem dX14_leafRead_110 : decode cX14_leafRead 110 = .ok (.ifCond .ge 19, 3) := by decide +kernel
theorem dX14_leafRead_113 : decode cX14_leafRead 113 = .ok (.aload_n 0, 1) := by decide +kernel
theorem dX14_leafRead_114 : decode cX14_leafRead 114 = .ok (.getfield 177, 3) := by decide +kernel
theorem dX14_leafRead_117 : decode cX14_leafRead 117 = .ok (.sipush 9999, 3) := by decide +kernel
theorem dX14_leafRead_120 : decode cX14_leafRead 120 = .ok (.if_icmp .le 9, 3) := by decide +kernel
theorem dX14_leafRead_123 : decode cX14_leafRead 123 = .ok (.aload_n 0, 1) := by decide +kernel
theorem dX14_leafRead_124 : decode cX14_leafRead 124 = .ok (.iconst 2, 1) := by decide +kernel
theorem dX14_leafRead_125 : decode cX14_leafRead 125 = .ok (.invokevirtual 189, 3) := by decide +kernel
theorem dX14_leafRead_128 : decode cX14_leafRead 128 = .ok (.ireturn, 1) := by decide +kernel
theorem dX14_leafRead_129 : decode cX14_leafRead 129 = .ok (.aload_n 0, 1) := by decide +kernel
theorem dX14_leafRead_130 : decode cX14_leafRead 130 = .ok (.invokevirtual 389, 3) := by decide +kernel
theorem dX14_leafRead_133 : decode cX14_leafRead 133 = .ok (.ifCond .ne 5, 3) := by decide +kernel
theorem dX14_leafRead_136 : decode cX14_leafRead 136 = .ok (.iconst 0, 1) := by decide +kernel
theorem dX14_leafRead_137 : decode cX14_leafRead 137 = .ok (.ireturn, 1) := by decide +kernel
theorem dX14_leafRead_138 : decode cX14_leafRead 138 = .ok (.aload_n 0, 1) := by decide +kernel
theorem dX14_leafRead_139 : decode cX14_leafRead 139 = .ok (.iload_n 1, 1) := by decide +kernel
theorem dX14_leafRead_140 : decode cX14_leafRead 140 = .ok (.ifCond .lt 7, 3) := by decide +kernel
theorem dX14_leafRead_143 : decode cX14_leafRead 143 = .ok (.iconst 1, 1) := by decide +kernel
theorem dX14_leafRead_144 : decode cX14_leafRead 144 = .ok (.goto 4, 3) := by decide +kernel
theorem dX14_leafRead_147 : decode cX14_leafRead 147 = .ok (.iconst 0, 1) := by decide +kernel
theorem dX14_leafRead_148 : decode cX14_leafRead 148 = .ok (.iload_n 1, 1) := by decide +kernel
theorem dX14_leafRead_149 : decode cX14_leafRead 149 = .ok (.ifCond .lt 7, 3) := by decide +kernel
theorem dX14_leafRead_152 : decode cX14_leafRead 152 = .ok (.iload_n 1, 1) := by decide +kernel
theorem dX14_leafRead_153 : decode cX14_leafRead 153 = .ok (.goto 7, 3) := by decide +kernel
theorem dX14_leafRead_156 : decode cX14_leafRead 156 = .ok (.aload_n 0, 1) := by decide +kernel
theorem dX14_leafRead_157 : decode cX14_leafRead 157 = .ok (.getfield 177, 3) := by decide +kernel
theorem dX14_leafRead_160 : decode cX14_leafRead 160 = .ok (.iconst 0, 1) := by decide +kernel
theorem dX14_leafRead_161 : decode cX14_leafRead 161 = .ok (.invokevirtual 375, 3) := by decide +kernel
theorem dX14_leafRead_164 : decode cX14_leafRead 164 = .ok (.aload_n 0, 1) := by decide +kernel
theorem dX14_leafRead_165 : decode cX14_leafRead 165 = .ok (.iconst 0, 1) := by decide +kernel
theorem dX14_leafRead_166 : decode cX14_leafRead 166 = .ok (.putfield 395, 3) := by decide +kernel
theorem dX14_leafRead_169 : decode cX14_leafRead 169 = .ok (.aload_n 0, 1) := by decide +kernel
theorem dX14_leafRead_170 : decode cX14_leafRead 170 = .ok (.invokevirtual 199, 3) := by decide +kernel
theorem dX14_leafRead_173 : decode cX14_leafRead 173 = .ok (.iconst 1, 1) := by decide +kernel
theorem dX14_leafRead_174 : decode cX14_leafRead 174 = .ok (.ireturn, 1) := by decide +kernel
theorem dX14_lie_0 : decode cX14_lie 0 = .ok (.aload_n 0, 1) := by decide +kernel
theorem dX14_lie_1 : decode cX14_lie 1 = .ok (.iconst 0, 1) := by decide +kernel
theorem dX14_lie_2 : decode cX14_lie 2 = .ok (.putfield 148, 3) := by decide +kernel
theorem dX14_lie_5 : decode cX14_lie 5 = .ok (.aload_n 0, 1) := by decide +kernel
theorem dX14_lie_6 : decode cX14_lie 6 = .ok (.iload_n 1, 1) := by decide +kernel
theorem dX14_lie_7 : decode cX14_lie 7 = .ok (.invokevirtual 482, 3) := by decide +kernel
theorem dX14_lie_10 : decode cX14_lie 10 = .ok (.ifCond .eq 40, 3) := by decide +kernel
theorem dX14_lie_13 : decode cX14_lie 13 = .ok (.aload_n 0, 1) := by decide +kernel
theorem dX14_lie_14 : decode cX14_lie 14 = .ok (.iload_n 2, 1) := by decide +kernel
theorem dX14_lie_15 : decode cX14_lie 15 = .ok (.invokevirtual 429, 3) := by decide +kernel
theorem dX14_lie_18 : decode cX14_lie 18 = .ok (.ifCond .eq 32, 3) := by decide +kernel
theorem dX14_lie_21 : decode cX14_lie 21 = .ok (.aload_n 0, 1) := by decide +kernel
theorem dX14_lie_22 : decode cX14_lie 22 = .ok (.iload_n 3, 1) := by decide +kernel
theorem dX14_lie_23 : decode cX14_lie 23 = .ok (.invokevirtual 442, 3) := by decide +kernel
theorem dX14_lie_26 : decode cX14_lie 26 = .ok (.ifCond .eq 24, 3) := by decide +kernel
theorem dX14_lie_29 : decode cX14_lie 29 = .ok (.iload 4, 2) := by decide +kernel
theorem dX14_lie_31 : decode cX14_lie 31 = .ok (.iconst 0, 1) := by decide +kernel
theorem dX14_lie_32 : decode cX14_lie 32 = .ok (.bipush 60, 2) := by decide +kernel
theorem dX14_lie_34 : decode cX14_lie 34 = .ok (.invokestatic 192, 3) := by decide +kernel
theorem dX14_lie_37 : decode cX14_lie 37 = .ok (.ifCond .eq 13, 3) := by decide +kernel
theorem dX14_lie_40 : decode cX14_lie 40 = .ok (.iload 5, 2) := by decide +kernel
theorem dX14_lie_42 : decode cX14_lie 42 = .ok (.iconst 0, 1) := by decide +kernel
theorem dX14_lie_43 : decode cX14_lie 43 = .ok (.iconst 1, 1) := by decide +kernel
theorem dX14_lie_44 : decode cX14_lie 44 = .ok (.invokestatic 192, 3) := by decide +kernel
theorem dX14_lie_47 : decode cX14_lie 47 = .ok (.ifCond .ne 5, 3) := by decide +kernel
theorem dX14_lie_50 : decode cX14_lie 50 = .ok (.iconst (-1), 1) := by decide +kernel
theorem dX14_lie_51 : decode cX14_lie 51 = .ok (.ireturn, 1) := by decide +kernel
theorem dX14_lie_52 : decode cX14_lie 52 = .ok (.aload_n 0, 1) := by decide +kernel
theorem dX14_lie_53 : decode cX14_lie 53 = .ok (.iload_n 1, 1) := by decide +kernel
theorem dX14_lie_54 : decode cX14_lie 54 = .ok (.iload_n 2, 1) := by decide +kernel
theorem dX14_lie_55 : decode cX14_lie 55 = .ok (.iload 4, 2) := by decide +kernel
theorem dX14_lie_57 : decode cX14_lie 57 = .ok (.invokevirtual 494, 3) := by decide +kernel
theorem dX14_lie_60 : decode cX14_lie 60 = .ok (.ifCond .ge 6, 3) := by decide +kernel
theorem dX14_lie_63 : decode cX14_lie 63 = .ok (.bipush (-3), 2) := by decide +kernel
theorem dX14_lie_65 : decode cX14_lie 65 = .ok (.ireturn, 1) := by decide +kernel
theorem dX14_lie_66 : decode cX14_lie 66 = .ok (.iconst (-1), 1) := by decide +kernel
theorem dX14_lie_67 : decode cX14_lie 67 = .ok (.istore 6, 2) := by decide +kernel
theorem dX14_lie_69 : decode cX14_lie 69 = .ok (.iconst 0, 1) := by decide +kernel
theorem dX14_lie_70 : decode cX14_lie 70 = .ok (.istore 7, 2) := by decide +kernel
theorem dX14_lie_72 : decode cX14_lie 72 = .ok (.iload 7, 2) := by decide +kernel
theorem dX14_lie_74 : decode cX14_lie 74 = .ok (.bipush 16, 2) := by decide +kernel
theorem dX14_lie_76 : decode cX14_lie 76 = .ok (.if_icmp .ge 93, 3) := by decide +kernel
theorem dX14_lie_79 : decode cX14_lie 79 = .ok (.iload 6, 2) := by decide +kernel
theorem dX14_lie_81 : decode cX14_lie 81 = .ok (.ifCond .ge 88, 3) := by decide +kernel
theorem dX14_lie_84 : decode cX14_lie 84 = .ok (.iconst 0, 1) := by decide +kernel
theorem dX14_lie_85 : decode cX14_lie 85 = .ok (.istore 8, 2) := by decide +kernel
theorem dX14_lie_87 : decode cX14_lie 87 = .ok (.iload 8, 2) := by decide +kernel
theorem dX14_lie_89 : decode cX14_lie 89 = .ok (.aload_n 0, 1) := by decide +kernel
theorem dX14_lie_90 : decode cX14_lie 90 = .ok (.invokevirtual 426, 3) := by decide +kernel
theorem dX14_lie_93 : decode cX14_lie 93 = .ok (.if_icmp .ge 70, 3) := by decide +kernel
theorem dX14_lie_96 : decode cX14_lie 96 = .ok (.iload 6, 2) := by decide +kernel
theorem dX14_lie_98 : decode cX14_lie 98 = .ok (.ifCond .ge 65, 3) := by decide +kernel
theorem dX14_lie_101 : decode cX14_lie 101 = .ok (.aload_n 0, 1) := by decide +kernel
theorem dX14_lie_102 : decode cX14_lie 102 = .ok (.getfield 27, 3) := by decide +kernel
theorem dX14_lie_105 : decode cX14_lie 105 = .ok (.iload 8, 2) := by decide +kernel
theorem dX14_lie_107 : decode cX14_lie 107 = .ok (.iaload, 1) := by decide +kernel
theorem dX14_lie_108 : decode cX14_lie 108 = .ok (.iconst 2, 1) := by decide +kernel
theorem dX14_lie_109 : decode cX14_lie 109 = .ok (.if_icmp .ne 6, 3) := by decide +kernel
theorem dX14_lie_112 : decode cX14_lie 112 = .ok (.goto 45, 3) := by decide +kernel
theorem dX14_lie_115 : decode cX14_lie 115 = .ok (.aload_n 0, 1) := by decide +kernel
theorem dX14_lie_116 : decode cX14_lie 116 = .ok (.iload_n 3, 1) := by decide +kernel
theorem dX14_lie_117 : decode cX14_lie 117 = .ok (.putfield 112, 3) := by decide +kernel
theorem dX14_lie_120 : decode cX14_lie 120 = .ok (.aload_n 0, 1) := by decide +kernel
theorem dX14_lie_121 : decode cX14_lie 121 = .ok (.iload 8, 2) := by decide +kernel
theorem dX14_lie_123 : decode cX14_lie 123 = .ok (.putfield 458, 3) := by decide +kernel
theorem dX14_lie_126 : decode cX14_lie 126 = .ok (.aload_n 0, 1) := by decide +kernel
theorem dX14_lie_127 : decode cX14_lie 127 = .ok (.iload 7, 2) := by decide +kernel
theorem dX14_lie_129 : decode cX14_lie 129 = .ok (.putfield 461, 3) := by decide +kernel
theorem dX14_lie_132 : decode cX14_lie 132 = .ok (.aload_n 0, 1) := by decide +kernel
theorem dX14_lie_133 : decode cX14_lie 133 = .ok (.iload_n 1, 1) := by decide +kernel
theorem dX14_lie_134 : decode cX14_lie 134 = .ok (.iload_n 2, 1) := by decide +kernel
theorem dX14_lie_135 : decode cX14_lie 135 = .ok (.iload 4, 2) := by decide +kernel
theorem dX14_lie_137 : decode cX14_lie 137 = .ok (.invokevirtual 494, 3) := by decide +kernel
theorem dX14_lie_140 : decode cX14_lie 140 = .ok (.ifCond .ge 14, 3) := by decide +kernel
theorem dX14_lie_143 : decode cX14_lie 143 = .ok (.bipush 48, 2) := by decide +kernel
theorem dX14_lie_145 : decode cX14_lie 145 = .ok (.iload 7, 2) := by decide +kernel
theorem dX14_lie_147 : decode cX14_lie 147 = .ok (.imul, 1) := by decide +kernel
theorem dX14_lie_148 : decode cX14_lie 148 = .ok (.iload 8, 2) := by decide +kernel
theorem dX14_lie_150 : decode cX14_lie 150 = .ok (.iadd, 1) := by decide +kernel
theorem dX14_lie_151 : decode cX14_lie 151 = .ok (.goto 4, 3) := by decide +kernel
theorem dX14_lie_154 : decode cX14_lie 154 = .ok (.iconst (-1), 1) := by decide +kernel
theorem dX14_lie_155 : decode cX14_lie 155 = .ok (.istore 6, 2) := by decide +kernel
theorem dX14_lie_157 : decode cX14_lie 157 = .ok (.iinc 8 1, 3) := by decide +kernel
theorem dX14_lie_160 : decode cX14_lie 160 = .ok (.goto (-73), 3) := by decide +kernel
theorem dX14_lie_163 : decode cX14_lie 163 = .ok (.iinc 7 1, 3) := by decide +kernel
theorem dX14_lie_166 : decode cX14_lie 166 = .ok (.goto (-94), 3) := by decide +kernel
theorem dX14_lie_169 : decode cX14_lie 169 = .ok (.aload_n 0, 1) := by decide +kernel
theorem dX14_lie_170 : decode cX14_lie 170 = .ok (.iconst (-1), 1) := by decide +kernel
theorem dX14_lie_171 : decode cX14_lie 171 = .ok (.putfield 112, 3) := by decide +kernel
theorem dX14_lie_174 : decode cX14_lie 174 = .ok (.iload 6, 2) := by decide +kernel
theorem dX14_lie_176 : decode cX14_lie 176 = .ok (.ifCond .ge 8, 3) := by decide +kernel
theorem dX14_lie_179 : decode cX14_lie 179 = .ok (.bipush (-2), 2) := by decide +kernel
theorem dX14_lie_181 : decode cX14_lie 181 = .ok (.goto 21, 3) := by decide +kernel
theorem dX14_lie_184 : decode cX14_lie 184 = .ok (.iload 5, 2) := by decide +kernel
theorem dX14_lie_186 : decode cX14_lie 186 = .ok (.ifCond .ne 11, 3) := by decide +kernel
theorem dX14_lie_189 : decode cX14_lie 189 = .ok (.iload 6, 2) := by decide +kernel
theorem dX14_lie_191 : decode cX14_lie 191 = .ok (.bipush 48, 2) := by decide +kernel
theorem dX14_lie_193 : decode cX14_lie 193 = .ok (.idiv, 1) := by decide +kernel
theorem dX14_lie_194 : decode cX14_lie 194 = .ok (.goto 8, 3) := by decide +kernel
theorem dX14_lie_197 : decode cX14_lie 197 = .ok (.iload 6, 2) := by decide +kernel
theorem dX14_lie_199 : decode cX14_lie 199 = .ok (.bipush 48, 2) := by decide +kernel
theorem dX14_lie_201 : decode cX14_lie 201 = .ok (.irem, 1) := by decide +kernel
theorem dX14_lie_202 : decode cX14_lie 202 = .ok (.ireturn, 1) := by decide +kernel
theorem dX14_told_0 : decode cX14_told 0 = .ok (.iload_n 0, 1) := by decide +kernel
theorem dX14_told_1 : decode cX14_told 1 = .ok (.ifCond .ge 8, 3) := by decide +kernel
theorem dX14_told_4 : decode cX14_told 4 = .ok (.bipush (-2), 2) := by decide +kernel
theorem dX14_told_6 : decode cX14_told 6 = .ok (.goto 34, 3) := by decide +kernel
theorem dX14_told_9 : decode cX14_told 9 = .ok (.iload_n 1, 1) := by decide +kernel
theorem dX14_told_10 : decode cX14_told 10 = .ok (.ifCond .ne 11, 3) := by decide +kernel
theorem dX14_told_13 : decode cX14_told 13 = .ok (.iload_n 0, 1) := by decide +kernel
theorem dX14_told_14 : decode cX14_told 14 = .ok (.sipush 1008, 3) := by decide +kernel
theorem dX14_told_17 : decode cX14_told 17 = .ok (.idiv, 1) := by decide +kernel
theorem dX14_told_18 : decode cX14_told 18 = .ok (.goto 22, 3) := by decide +kernel
theorem dX14_told_21 : decode cX14_told 21 = .ok (.iload_n 1, 1) := by decide +kernel
theorem dX14_told_22 : decode cX14_told 22 = .ok (.iconst 1, 1) := by decide +kernel
theorem dX14_told_23 : decode cX14_told 23 = .ok (.if_icmp .ne 13, 3) := by decide +kernel
theorem dX14_told_26 : decode cX14_told 26 = .ok (.iload_n 0, 1) := by decide +kernel
theorem dX14_told_27 : decode cX14_told 27 = .ok (.bipush 21, 2) := by decide +kernel
theorem dX14_told_29 : decode cX14_told 29 = .ok (.idiv, 1) := by decide +kernel
theorem dX14_told_30 : decode cX14_told 30 = .ok (.bipush 48, 2) := by decide +kernel
theorem dX14_told_32 : decode cX14_told 32 = .ok (.irem, 1) := by decide +kernel
theorem dX14_told_33 : decode cX14_told 33 = .ok (.goto 7, 3) := by decide +kernel
theorem dX14_told_36 : decode cX14_told 36 = .ok (.iload_n 0, 1) := by decide +kernel
theorem dX14_told_37 : decode cX14_told 37 = .ok (.bipush 21, 2) := by decide +kernel
theorem dX14_told_39 : decode cX14_told 39 = .ok (.irem, 1) := by decide +kernel
theorem dX14_told_40 : decode cX14_told 40 = .ok (.ireturn, 1) := by decide +kernel
theorem dX14_likeliest_0 : decode cX14_likeliest 0 = .ok (.aload_n 0, 1) := by decide +kernel
theorem dX14_likeliest_1 : decode cX14_likeliest 1 = .ok (.iconst 0, 1) := by decide +kernel
theorem dX14_likeliest_2 : decode cX14_likeliest 2 = .ok (.putfield 148, 3) := by decide +kernel
theorem dX14_likeliest_5 : decode cX14_likeliest 5 = .ok (.iload_n 1, 1) := by decide +kernel
theorem dX14_likeliest_6 : decode cX14_likeliest 6 = .ok (.iconst 0, 1) := by decide +kernel
theorem dX14_likeliest_7 : decode cX14_likeliest 7 = .ok (.iconst 2, 1) := by decide +kernel
theorem dX14_likeliest_8 : decode cX14_likeliest 8 = .ok (.invokestatic 192, 3) := by decide +kernel
theorem dX14_likeliest_11 : decode cX14_likeliest 11 = .ok (.ifCond .ne 5, 3) := by decide +kernel
theorem dX14_likeliest_14 : decode cX14_likeliest 14 = .ok (.iconst (-1), 1) := by decide +kernel
theorem dX14_likeliest_15 : decode cX14_likeliest 15 = .ok (.ireturn, 1) := by decide +kernel
theorem dX14_likeliest_16 : decode cX14_likeliest 16 = .ok (.aload_n 0, 1) := by decide +kernel
theorem dX14_likeliest_17 : decode cX14_likeliest 17 = .ok (.iconst (-1), 1) := by decide +kernel
theorem dX14_likeliest_18 : decode cX14_likeliest 18 = .ok (.invokevirtual 521, 3) := by decide +kernel
theorem dX14_likeliest_21 : decode cX14_likeliest 21 = .ok (.aload_n 0, 1) := by decide +kernel
theorem dX14_likeliest_22 : decode cX14_likeliest 22 = .ok (.getfield 515, 3) := by decide +kernel
theorem dX14_likeliest_25 : decode cX14_likeliest 25 = .ok (.iload_n 1, 1) := by decide +kernel
theorem dX14_likeliest_26 : decode cX14_likeliest 26 = .ok (.invokestatic 524, 3) := by decide +kernel
theorem dX14_likeliest_29 : decode cX14_likeliest 29 = .ok (.ireturn, 1) := by decide +kernel
theorem dX14_mayLine_0 : decode cX14_mayLine 0 = .ok (.aload_n 0, 1) := by decide +kernel
theorem dX14_mayLine_1 : decode cX14_mayLine 1 = .ok (.getfield 230, 3) := by decide +kernel
theorem dX14_mayLine_4 : decode cX14_mayLine 4 = .ok (.iconst 3, 1) := by decide +kernel
theorem dX14_mayLine_5 : decode cX14_mayLine 5 = .ok (.if_icmp .ne 9, 3) := by decide +kernel
theorem dX14_mayLine_8 : decode cX14_mayLine 8 = .ok (.aload_n 0, 1) := by decide +kernel
theorem dX14_mayLine_9 : decode cX14_mayLine 9 = .ok (.iconst 2, 1) := by decide +kernel
theorem dX14_mayLine_10 : decode cX14_mayLine 10 = .ok (.invokevirtual 189, 3) := by decide +kernel
theorem dX14_mayLine_13 : decode cX14_mayLine 13 = .ok (.ireturn, 1) := by decide +kernel
theorem dX14_mayLine_14 : decode cX14_mayLine 14 = .ok (.aload_n 0, 1) := by decide +kernel
theorem dX14_mayLine_15 : decode cX14_mayLine 15 = .ok (.iconst 1, 1) := by decide +kernel
theorem dX14_mayLine_16 : decode cX14_mayLine 16 = .ok (.putfield 249, 3) := by decide +kernel
theorem dX14_mayLine_19 : decode cX14_mayLine 19 = .ok (.aload_n 0, 1) := by decide +kernel
theorem dX14_mayLine_20 : decode cX14_mayLine 20 = .ok (.invokevirtual 199, 3) := by decide +kernel
theorem dX14_mayLine_23 : decode cX14_mayLine 23 = .ok (.aload_n 0, 1) := by decide +kernel
theorem dX14_mayLine_24 : decode cX14_mayLine 24 = .ok (.aload_n 0, 1) := by decide +kernel
theorem dX14_mayLine_25 : decode cX14_mayLine 25 = .ok (.getfield 72, 3) := by decide +kernel
theorem dX14_mayLine_28 : decode cX14_mayLine 28 = .ok (.iconst 3, 1) := by decide +kernel
theorem dX14_mayLine_29 : decode cX14_mayLine 29 = .ok (.aload_n 0, 1) := by decide +kernel
theorem dX14_mayLine_30 : decode cX14_mayLine 30 = .ok (.getfield 230, 3) := by decide +kernel
theorem dX14_mayLine_33 : decode cX14_mayLine 33 = .ok (.invokevirtual 330, 3) := by decide +kernel
theorem dX14_mayLine_36 : decode cX14_mayLine 36 = .ok (.ifCond .ne 5, 3) := by decide +kernel
theorem dX14_mayLine_39 : decode cX14_mayLine 39 = .ok (.iconst 0, 1) := by decide +kernel
theorem dX14_mayLine_40 : decode cX14_mayLine 40 = .ok (.ireturn, 1) := by decide +kernel
theorem dX14_mayLine_41 : decode cX14_mayLine 41 = .ok (.iconst 3, 1) := by decide +kernel
theorem dX14_mayLine_42 : decode cX14_mayLine 42 = .ok (.aload_n 0, 1) := by decide +kernel
theorem dX14_mayLine_43 : decode cX14_mayLine 43 = .ok (.getfield 230, 3) := by decide +kernel
theorem dX14_mayLine_46 : decode cX14_mayLine 46 = .ok (.iadd, 1) := by decide +kernel
theorem dX14_mayLine_47 : decode cX14_mayLine 47 = .ok (.istore_n 1, 1) := by decide +kernel
theorem dX14_mayLine_48 : decode cX14_mayLine 48 = .ok (.aload_n 0, 1) := by decide +kernel
theorem dX14_mayLine_49 : decode cX14_mayLine 49 = .ok (.getfield 75, 3) := by decide +kernel
theorem dX14_mayLine_52 : decode cX14_mayLine 52 = .ok (.iload_n 1, 1) := by decide +kernel
theorem dX14_mayLine_53 : decode cX14_mayLine 53 = .ok (.iconst 0, 1) := by decide +kernel
theorem dX14_mayLine_54 : decode cX14_mayLine 54 = .ok (.iastore, 1) := by decide +kernel
theorem dX14_mayLine_55 : decode cX14_mayLine 55 = .ok (.aload_n 0, 1) := by decide +kernel
theorem dX14_mayLine_56 : decode cX14_mayLine 56 = .ok (.iconst 3, 1) := by decide +kernel
theorem dX14_mayLine_57 : decode cX14_mayLine 57 = .ok (.invokevirtual 337, 3) := by decide +kernel
theorem dX14_mayLine_60 : decode cX14_mayLine 60 = .ok (.ifCond .eq 104, 3) := by decide +kernel
theorem dX14_mayLine_63 : decode cX14_mayLine 63 = .ok (.aload_n 0, 1) := by decide +kernel
theorem dX14_mayLine_64 : decode cX14_mayLine 64 = .ok (.getfield 75, 3) := by decide +kernel
theorem dX14_mayLine_67 : decode cX14_mayLine 67 = .ok (.iload_n 1, 1) := by decide +kernel
theorem dX14_mayLine_68 : decode cX14_mayLine 68 = .ok (.iaload, 1) := by decide +kernel
theorem dX14_mayLine_69 : decode cX14_mayLine 69 = .ok (.iconst 3, 1) := by decide +kernel
theorem dX14_mayLine_70 : decode cX14_mayLine 70 = .ok (.if_icmp .ne 9, 3) := by decide +kernel
theorem dX14_mayLine_73 : decode cX14_mayLine 73 = .ok (.aload_n 0, 1) := by decide +kernel
theorem dX14_mayLine_74 : decode cX14_mayLine 74 = .ok (.iconst 2, 1) := by decide +kernel
theorem dX14_mayLine_75 : decode cX14_mayLine 75 = .ok (.invokevirtual 189, 3) := by decide +kernel
theorem dX14_mayLine_78 : decode cX14_mayLine 78 = .ok (.ireturn, 1) := by decide +kernel
theorem dX14_mayLine_79 : decode cX14_mayLine 79 = .ok (.aload_n 0, 1) := by decide +kernel
theorem dX14_mayLine_80 : decode cX14_mayLine 80 = .ok (.invokevirtual 199, 3) := by decide +kernel
theorem dX14_mayLine_83 : decode cX14_mayLine 83 = .ok (.aload_n 0, 1) := by decide +kernel
theorem dX14_mayLine_84 : decode cX14_mayLine 84 = .ok (.invokevirtual 340, 3) := by decide +kernel
theorem dX14_mayLine_87 : decode cX14_mayLine 87 = .ok (.ifCond .ne 5, 3) := by decide +kernel
theorem dX14_mayLine_90 : decode cX14_mayLine 90 = .ok (.iconst 0, 1) := by decide +kernel
theorem dX14_mayLine_91 : decode cX14_mayLine 91 = .ok (.ireturn, 1) := by decide +kernel
theorem dX14_mayLine_92 : decode cX14_mayLine 92 = .ok (.iconst 0, 1) := by decide +kernel
theorem dX14_mayLine_93 : decode cX14_mayLine 93 = .ok (.istore_n 2, 1) := by decide +kernel
theorem dX14_mayLine_94 : decode cX14_mayLine 94 = .ok (.iload_n 2, 1) := by decide +kernel
theorem dX14_mayLine_95 : decode cX14_mayLine 95 = .ok (.aload_n 0, 1) := by decide +kernel
theorem dX14_mayLine_96 : decode cX14_mayLine 96 = .ok (.getfield 75, 3) := by decide +kernel
theorem dX14_mayLine_99 : decode cX14_mayLine 99 = .ok (.iload_n 1, 1) := by decide +kernel
theorem dX14_mayLine_100 : decode cX14_mayLine 100 = .ok (.iaload, 1) := by decide +kernel
theorem dX14_mayLine_101 : decode cX14_mayLine 101 = .ok (.if_icmp .ge 31, 3) := by decide +kernel
theorem dX14_mayLine_104 : decode cX14_mayLine 104 = .ok (.aload_n 0, 1) := by decide +kernel
theorem dX14_mayLine_105 : decode cX14_mayLine 105 = .ok (.getfield 78, 3) := by decide +kernel
theorem dX14_mayLine_108 : decode cX14_mayLine 108 = .ok (.iconst 3, 1) := by decide +kernel
theorem dX14_mayLine_109 : decode cX14_mayLine 109 = .ok (.iload_n 1, 1) := by decide +kernel
theorem dX14_mayLine_110 : decode cX14_mayLine 110 = .ok (.imul, 1) := by decide +kernel
theorem dX14_mayLine_111 : decode cX14_mayLine 111 = .ok (.iload_n 2, 1) := by decide +kernel
theorem dX14_mayLine_112 : decode cX14_mayLine 112 = .ok (.iadd, 1) := by decide +kernel
theorem dX14_mayLine_113 : decode cX14_mayLine 113 = .ok (.iaload, 1) := by decide +kernel
theorem dX14_mayLine_114 : decode cX14_mayLine 114 = .ok (.aload_n 0, 1) := by decide +kernel
theorem dX14_mayLine_115 : decode cX14_mayLine 115 = .ok (.getfield 196, 3) := by decide +kernel
theorem dX14_mayLine_118 : decode cX14_mayLine 118 = .ok (.if_icmp .ne 8, 3) := by decide +kernel
theorem dX14_mayLine_121 : decode cX14_mayLine 121 = .ok (.aload_n 0, 1) := by decide +kernel
theorem dX14_mayLine_122 : decode cX14_mayLine 122 = .ok (.invokevirtual 327, 3) := by decide +kernel
theorem dX14_mayLine_125 : decode cX14_mayLine 125 = .ok (.ireturn, 1) := by decide +kernel
theorem dX14_mayLine_126 : decode cX14_mayLine 126 = .ok (.iinc 2 1, 3) := by decide +kernel
theorem dX14_mayLine_129 : decode cX14_mayLine 129 = .ok (.goto (-35), 3) := by decide +kernel
theorem dX14_mayLine_132 : decode cX14_mayLine 132 = .ok (.aload_n 0, 1) := by decide +kernel
theorem dX14_mayLine_133 : decode cX14_mayLine 133 = .ok (.getfield 78, 3) := by decide +kernel
theorem dX14_mayLine_136 : decode cX14_mayLine 136 = .ok (.iconst 3, 1) := by decide +kernel
theorem dX14_mayLine_137 : decode cX14_mayLine 137 = .ok (.iload_n 1, 1) := by decide +kernel
theorem dX14_mayLine_138 : decode cX14_mayLine 138 = .ok (.imul, 1) := by decide +kernel
theorem dX14_mayLine_139 : decode cX14_mayLine 139 = .ok (.aload_n 0, 1) := by decide +kernel
theorem dX14_mayLine_140 : decode cX14_mayLine 140 = .ok (.getfield 75, 3) := by decide +kernel
theorem dX14_mayLine_143 : decode cX14_mayLine 143 = .ok (.iload_n 1, 1) := by decide +kernel
theorem dX14_mayLine_144 : decode cX14_mayLine 144 = .ok (.iaload, 1) := by decide +kernel
theorem dX14_mayLine_145 : decode cX14_mayLine 145 = .ok (.iadd, 1) := by decide +kernel
theorem dX14_mayLine_146 : decode cX14_mayLine 146 = .ok (.aload_n 0, 1) := by decide +kernel
theorem dX14_mayLine_147 : decode cX14_mayLine 147 = .ok (.getfield 196, 3) := by decide +kernel
theorem dX14_mayLine_150 : decode cX14_mayLine 150 = .ok (.iastore, 1) := by decide +kernel
theorem dX14_mayLine_151 : decode cX14_mayLine 151 = .ok (.aload_n 0, 1) := by decide +kernel
theorem dX14_mayLine_152 : decode cX14_mayLine 152 = .ok (.getfield 75, 3) := by decide +kernel
theorem dX14_mayLine_155 : decode cX14_mayLine 155 = .ok (.iload_n 1, 1) := by decide +kernel
theorem dX14_mayLine_156 : decode cX14_mayLine 156 = .ok (.dup2, 1) := by decide +kernel
theorem dX14_mayLine_157 : decode cX14_mayLine 157 = .ok (.iaload, 1) := by decide +kernel
theorem dX14_mayLine_158 : decode cX14_mayLine 158 = .ok (.iconst 1, 1) := by decide +kernel
theorem dX14_mayLine_159 : decode cX14_mayLine 159 = .ok (.iadd, 1) := by decide +kernel
theorem dX14_mayLine_160 : decode cX14_mayLine 160 = .ok (.iastore, 1) := by decide +kernel
theorem dX14_mayLine_161 : decode cX14_mayLine 161 = .ok (.goto (-106), 3) := by decide +kernel
theorem dX14_mayLine_164 : decode cX14_mayLine 164 = .ok (.aload_n 0, 1) := by decide +kernel
theorem dX14_mayLine_165 : decode cX14_mayLine 165 = .ok (.dup, 1) := by decide +kernel
theorem dX14_mayLine_166 : decode cX14_mayLine 166 = .ok (.getfield 230, 3) := by decide +kernel
theorem dX14_mayLine_169 : decode cX14_mayLine 169 = .ok (.iconst 1, 1) := by decide +kernel
theorem dX14_mayLine_170 : decode cX14_mayLine 170 = .ok (.iadd, 1) := by decide +kernel
theorem dX14_mayLine_171 : decode cX14_mayLine 171 = .ok (.putfield 230, 3) := by decide +kernel
theorem dX14_mayLine_174 : decode cX14_mayLine 174 = .ok (.iconst 1, 1) := by decide +kernel
theorem dX14_mayLine_175 : decode cX14_mayLine 175 = .ok (.ireturn, 1) := by decide +kernel
theorem dX14_signs_0 : decode cX14_signs 0 = .ok (.aload_n 0, 1) := by decide +kernel
theorem dX14_signs_1 : decode cX14_signs 1 = .ok (.bipush 41, 2) := by decide +kernel
theorem dX14_signs_3 : decode cX14_signs 3 = .ok (.invokevirtual 202, 3) := by decide +kernel
theorem dX14_signs_6 : decode cX14_signs 6 = .ok (.ifCond .eq 41, 3) := by decide +kernel
theorem dX14_signs_9 : decode cX14_signs 9 = .ok (.aload_n 0, 1) := by decide +kernel
theorem dX14_signs_10 : decode cX14_signs 10 = .ok (.getfield 379, 3) := by decide +kernel
theorem dX14_signs_13 : decode cX14_signs 13 = .ok (.ifCond .le 34, 3) := by decide +kernel
theorem dX14_signs_16 : decode cX14_signs 16 = .ok (.aload_n 0, 1) := by decide +kernel
theorem dX14_signs_17 : decode cX14_signs 17 = .ok (.iconst 1, 1) := by decide +kernel
theorem dX14_signs_18 : decode cX14_signs 18 = .ok (.invokevirtual 398, 3) := by decide +kernel
theorem dX14_signs_21 : decode cX14_signs 21 = .ok (.aload_n 0, 1) := by decide +kernel
theorem dX14_signs_22 : decode cX14_signs 22 = .ok (.dup, 1) := by decide +kernel
theorem dX14_signs_23 : decode cX14_signs 23 = .ok (.getfield 364, 3) := by decide +kernel
theorem dX14_signs_26 : decode cX14_signs 26 = .ok (.iconst 1, 1) := by decide +kernel
theorem dX14_signs_27 : decode cX14_signs 27 = .ok (.isub, 1) := by decide +kernel
theorem dX14_signs_28 : decode cX14_signs 28 = .ok (.putfield 364, 3) := by decide +kernel
theorem dX14_signs_31 : decode cX14_signs 31 = .ok (.aload_n 0, 1) := by decide +kernel
theorem dX14_signs_32 : decode cX14_signs 32 = .ok (.dup, 1) := by decide +kernel
theorem dX14_signs_33 : decode cX14_signs 33 = .ok (.getfield 379, 3) := by decide +kernel
theorem dX14_signs_36 : decode cX14_signs 36 = .ok (.iconst 1, 1) := by decide +kernel
theorem dX14_signs_37 : decode cX14_signs 37 = .ok (.isub, 1) := by decide +kernel
theorem dX14_signs_38 : decode cX14_signs 38 = .ok (.putfield 379, 3) := by decide +kernel
theorem dX14_signs_41 : decode cX14_signs 41 = .ok (.aload_n 0, 1) := by decide +kernel
theorem dX14_signs_42 : decode cX14_signs 42 = .ok (.invokevirtual 199, 3) := by decide +kernel
theorem dX14_signs_45 : decode cX14_signs 45 = .ok (.iconst 1, 1) := by decide +kernel
theorem dX14_signs_46 : decode cX14_signs 46 = .ok (.ireturn, 1) := by decide +kernel
theorem dX14_signs_47 : decode cX14_signs 47 = .ok (.aload_n 0, 1) := by decide +kernel
theorem dX14_signs_48 : decode cX14_signs 48 = .ok (.bipush 14, 2) := by decide +kernel
theorem dX14_signs_50 : decode cX14_signs 50 = .ok (.invokevirtual 337, 3) := by decide +kernel
theorem dX14_signs_53 : decode cX14_signs 53 = .ok (.ifCond .eq 7, 3) := by decide +kernel
theorem dX14_signs_56 : decode cX14_signs 56 = .ok (.iconst 3, 1) := by decide +kernel
theorem dX14_signs_57 : decode cX14_signs 57 = .ok (.goto 90, 3) := by decide +kernel
theorem dX14_signs_60 : decode cX14_signs 60 = .ok (.aload_n 0, 1) := by decide +kernel
theorem dX14_signs_61 : decode cX14_signs 61 = .ok (.bipush 15, 2) := by decide +kernel
theorem dX14_signs_63 : decode cX14_signs 63 = .ok (.invokevirtual 337, 3) := by decide +kernel
theorem dX14_signs_66 : decode cX14_signs 66 = .ok (.ifCond .eq 7, 3) := by decide +kernel
theorem dX14_signs_69 : decode cX14_signs 69 = .ok (.iconst 4, 1) := by decide +kernel
theorem dX14_signs_70 : decode cX14_signs 70 = .ok (.goto 77, 3) := by decide +kernel
theorem dX14_signs_73 : decode cX14_signs 73 = .ok (.aload_n 0, 1) := by decide +kernel
theorem dX14_signs_74 : decode cX14_signs 74 = .ok (.getfield 166, 3) := by decide +kernel
theorem dX14_signs_77 : decode cX14_signs 77 = .ok (.iconst 5, 1) := by decide +kernel
theorem dX14_signs_78 : decode cX14_signs 78 = .ok (.if_icmp .ne 12, 3) := by decide +kernel
theorem dX14_signs_81 : decode cX14_signs 81 = .ok (.iconst 5, 1) := by decide +kernel
theorem dX14_signs_82 : decode cX14_signs 82 = .ok (.aload_n 0, 1) := by decide +kernel
theorem dX14_signs_83 : decode cX14_signs 83 = .ok (.getfield 177, 3) := by decide +kernel
theorem dX14_signs_86 : decode cX14_signs 86 = .ok (.iadd, 1) := by decide +kernel
theorem dX14_signs_87 : decode cX14_signs 87 = .ok (.goto 60, 3) := by decide +kernel
theorem dX14_signs_90 : decode cX14_signs 90 = .ok (.aload_n 0, 1) := by decide +kernel
theorem dX14_signs_91 : decode cX14_signs 91 = .ok (.bipush 43, 2) := by decide +kernel
theorem dX14_signs_93 : decode cX14_signs 93 = .ok (.invokevirtual 202, 3) := by decide +kernel
theorem dX14_signs_96 : decode cX14_signs 96 = .ok (.ifCond .eq 8, 3) := by decide +kernel
theorem dX14_signs_99 : decode cX14_signs 99 = .ok (.bipush 11, 2) := by decide +kernel
theorem dX14_signs_101 : decode cX14_signs 101 = .ok (.goto 46, 3) := by decide +kernel
theorem dX14_signs_104 : decode cX14_signs 104 = .ok (.aload_n 0, 1) := by decide +kernel
theorem dX14_signs_105 : decode cX14_signs 105 = .ok (.bipush 45, 2) := by decide +kernel
theorem dX14_signs_107 : decode cX14_signs 107 = .ok (.invokevirtual 202, 3) := by decide +kernel
theorem dX14_signs_110 : decode cX14_signs 110 = .ok (.ifCond .eq 8, 3) := by decide +kernel
theorem dX14_signs_113 : decode cX14_signs 113 = .ok (.bipush 12, 2) := by decide +kernel
theorem dX14_signs_115 : decode cX14_signs 115 = .ok (.goto 32, 3) := by decide +kernel
theorem dX14_signs_118 : decode cX14_signs 118 = .ok (.aload_n 0, 1) := by decide +kernel
theorem dX14_signs_119 : decode cX14_signs 119 = .ok (.bipush 42, 2) := by decide +kernel
theorem dX14_signs_121 : decode cX14_signs 121 = .ok (.invokevirtual 202, 3) := by decide +kernel
theorem dX14_signs_124 : decode cX14_signs 124 = .ok (.ifCond .eq 8, 3) := by decide +kernel
theorem dX14_signs_127 : decode cX14_signs 127 = .ok (.bipush 13, 2) := by decide +kernel
theorem dX14_signs_129 : decode cX14_signs 129 = .ok (.goto 18, 3) := by decide +kernel
theorem dX14_signs_132 : decode cX14_signs 132 = .ok (.aload_n 0, 1) := by decide +kernel
theorem dX14_signs_133 : decode cX14_signs 133 = .ok (.bipush 47, 2) := by decide +kernel
theorem dX14_signs_135 : decode cX14_signs 135 = .ok (.invokevirtual 202, 3) := by decide +kernel
theorem dX14_signs_138 : decode cX14_signs 138 = .ok (.ifCond .eq 8, 3) := by decide +kernel
theorem dX14_signs_141 : decode cX14_signs 141 = .ok (.bipush 14, 2) := by decide +kernel
theorem dX14_signs_143 : decode cX14_signs 143 = .ok (.goto 4, 3) := by decide +kernel
theorem dX14_signs_146 : decode cX14_signs 146 = .ok (.iconst 0, 1) := by decide +kernel
theorem dX14_signs_147 : decode cX14_signs 147 = .ok (.istore_n 1, 1) := by decide +kernel
theorem dX14_signs_148 : decode cX14_signs 148 = .ok (.iload_n 1, 1) := by decide +kernel
theorem dX14_signs_149 : decode cX14_signs 149 = .ok (.ifCond .ne 9, 3) := by decide +kernel
theorem dX14_signs_152 : decode cX14_signs 152 = .ok (.aload_n 0, 1) := by decide +kernel
theorem dX14_signs_153 : decode cX14_signs 153 = .ok (.iconst 1, 1) := by decide +kernel
theorem dX14_signs_154 : decode cX14_signs 154 = .ok (.invokevirtual 189, 3) := by decide +kernel
theorem dX14_signs_157 : decode cX14_signs 157 = .ok (.ireturn, 1) := by decide +kernel
theorem dX14_signs_158 : decode cX14_signs 158 = .ok (.aload_n 0, 1) := by decide +kernel
theorem dX14_signs_159 : decode cX14_signs 159 = .ok (.iload_n 1, 1) := by decide +kernel
theorem dX14_signs_160 : decode cX14_signs 160 = .ok (.invokestatic 367, 3) := by decide +kernel
theorem dX14_signs_163 : decode cX14_signs 163 = .ok (.iconst 4, 1) := by decide +kernel
theorem dX14_signs_164 : decode cX14_signs 164 = .ok (.if_icmp .ne 7, 3) := by decide +kernel
theorem dX14_signs_167 : decode cX14_signs 167 = .ok (.iconst 5, 1) := by decide +kernel
theorem dX14_signs_168 : decode cX14_signs 168 = .ok (.goto 7, 3) := by decide +kernel
theorem dX14_signs_171 : decode cX14_signs 171 = .ok (.iload_n 1, 1) := by decide +kernel
theorem dX14_signs_172 : decode cX14_signs 172 = .ok (.invokestatic 367, 3) := by decide +kernel
theorem dX14_signs_175 : decode cX14_signs 175 = .ok (.invokevirtual 398, 3) := by decide +kernel
theorem dX14_signs_178 : decode cX14_signs 178 = .ok (.iload_n 1, 1) := by decide +kernel
theorem dX14_signs_179 : decode cX14_signs 179 = .ok (.invokestatic 367, 3) := by decide +kernel
theorem dX14_signs_182 : decode cX14_signs 182 = .ok (.iconst 4, 1) := by decide +kernel
theorem dX14_signs_183 : decode cX14_signs 183 = .ok (.if_icmp .ne 34, 3) := by decide +kernel
theorem dX14_signs_186 : decode cX14_signs 186 = .ok (.aload_n 0, 1) := by decide +kernel
theorem dX14_signs_187 : decode cX14_signs 187 = .ok (.getfield 364, 3) := by decide +kernel
theorem dX14_signs_190 : decode cX14_signs 190 = .ok (.ifCond .le 27, 3) := by decide +kernel
theorem dX14_signs_193 : decode cX14_signs 193 = .ok (.aload_n 0, 1) := by decide +kernel
theorem dX14_signs_194 : decode cX14_signs 194 = .ok (.getfield 90, 3) := by decide +kernel
theorem dX14_signs_197 : decode cX14_signs 197 = .ok (.aload_n 0, 1) := by decide +kernel
theorem dX14_signs_198 : decode cX14_signs 198 = .ok (.getfield 364, 3) := by decide +kernel
theorem dX14_signs_201 : decode cX14_signs 201 = .ok (.iconst 1, 1) := by decide +kernel
theorem dX14_signs_202 : decode cX14_signs 202 = .ok (.isub, 1) := by decide +kernel
theorem dX14_signs_203 : decode cX14_signs 203 = .ok (.iaload, 1) := by decide +kernel
theorem dX14_signs_204 : decode cX14_signs 204 = .ok (.invokestatic 367, 3) := by decide +kernel
theorem dX14_signs_207 : decode cX14_signs 207 = .ok (.iconst 4, 1) := by decide +kernel
theorem dX14_signs_208 : decode cX14_signs 208 = .ok (.if_icmp .ne 9, 3) := by decide +kernel
theorem dX14_signs_211 : decode cX14_signs 211 = .ok (.aload_n 0, 1) := by decide +kernel
theorem dX14_signs_212 : decode cX14_signs 212 = .ok (.iconst 1, 1) := by decide +kernel
theorem dX14_signs_213 : decode cX14_signs 213 = .ok (.invokevirtual 189, 3) := by decide +kernel
theorem dX14_signs_216 : decode cX14_signs 216 = .ok (.ireturn, 1) := by decide +kernel
theorem dX14_signs_217 : decode cX14_signs 217 = .ok (.aload_n 0, 1) := by decide +kernel
theorem dX14_signs_218 : decode cX14_signs 218 = .ok (.invokevirtual 389, 3) := by decide +kernel
theorem dX14_signs_221 : decode cX14_signs 221 = .ok (.ifCond .ne 5, 3) := by decide +kernel
theorem dX14_signs_224 : decode cX14_signs 224 = .ok (.iconst 0, 1) := by decide +kernel
theorem dX14_signs_225 : decode cX14_signs 225 = .ok (.ireturn, 1) := by decide +kernel
theorem dX14_signs_226 : decode cX14_signs 226 = .ok (.aload_n 0, 1) := by decide +kernel
theorem dX14_signs_227 : decode cX14_signs 227 = .ok (.iload_n 1, 1) := by decide +kernel
theorem dX14_signs_228 : decode cX14_signs 228 = .ok (.invokevirtual 382, 3) := by decide +kernel
theorem dX14_signs_231 : decode cX14_signs 231 = .ok (.aload_n 0, 1) := by decide +kernel
theorem dX14_signs_232 : decode cX14_signs 232 = .ok (.iconst 1, 1) := by decide +kernel
theorem dX14_signs_233 : decode cX14_signs 233 = .ok (.putfield 395, 3) := by decide +kernel
theorem dX14_signs_236 : decode cX14_signs 236 = .ok (.aload_n 0, 1) := by decide +kernel
theorem dX14_signs_237 : decode cX14_signs 237 = .ok (.iload_n 1, 1) := by decide +kernel
theorem dX14_signs_238 : decode cX14_signs 238 = .ok (.invokestatic 367, 3) := by decide +kernel
theorem dX14_signs_241 : decode cX14_signs 241 = .ok (.iconst 3, 1) := by decide +kernel
theorem dX14_signs_242 : decode cX14_signs 242 = .ok (.if_icmp .ge 7, 3) := by decide +kernel
theorem dX14_signs_245 : decode cX14_signs 245 = .ok (.iconst 1, 1) := by decide +kernel
theorem dX14_signs_246 : decode cX14_signs 246 = .ok (.goto 4, 3) := by decide +kernel
theorem dX14_signs_249 : decode cX14_signs 249 = .ok (.iconst 0, 1) := by decide +kernel
theorem dX14_signs_250 : decode cX14_signs 250 = .ok (.putfield 386, 3) := by decide +kernel
theorem dX14_signs_253 : decode cX14_signs 253 = .ok (.aload_n 0, 1) := by decide +kernel
theorem dX14_signs_254 : decode cX14_signs 254 = .ok (.invokevirtual 199, 3) := by decide +kernel
theorem dX14_signs_257 : decode cX14_signs 257 = .ok (.iconst 1, 1) := by decide +kernel
theorem dX14_signs_258 : decode cX14_signs 258 = .ok (.ireturn, 1) := by decide +kernel
theorem dX14_sumRead_0 : decode cX14_sumRead 0 = .ok (.aload_n 0, 1) := by decide +kernel
theorem dX14_sumRead_1 : decode cX14_sumRead 1 = .ok (.iconst 0, 1) := by decide +kernel
theorem dX14_sumRead_2 : decode cX14_sumRead 2 = .ok (.putfield 364, 3) := by decide +kernel
theorem dX14_sumRead_5 : decode cX14_sumRead 5 = .ok (.aload_n 0, 1) := by decide +kernel
theorem dX14_sumRead_6 : decode cX14_sumRead 6 = .ok (.iconst 0, 1) := by decide +kernel
theorem dX14_sumRead_7 : decode cX14_sumRead 7 = .ok (.putfield 361, 3) := by decide +kernel
theorem dX14_sumRead_10 : decode cX14_sumRead 10 = .ok (.aload_n 0, 1) := by decide +kernel
theorem dX14_sumRead_11 : decode cX14_sumRead 11 = .ok (.iconst 0, 1) := by decide +kernel
theorem dX14_sumRead_12 : decode cX14_sumRead 12 = .ok (.putfield 379, 3) := by decide +kernel
theorem dX14_sumRead_15 : decode cX14_sumRead 15 = .ok (.aload_n 0, 1) := by decide +kernel
theorem dX14_sumRead_16 : decode cX14_sumRead 16 = .ok (.iconst 1, 1) := by decide +kernel
theorem dX14_sumRead_17 : decode cX14_sumRead 17 = .ok (.putfield 395, 3) := by decide +kernel
theorem dX14_sumRead_20 : decode cX14_sumRead 20 = .ok (.aload_n 0, 1) := by decide +kernel
theorem dX14_sumRead_21 : decode cX14_sumRead 21 = .ok (.iconst 1, 1) := by decide +kernel
theorem dX14_sumRead_22 : decode cX14_sumRead 22 = .ok (.putfield 386, 3) := by decide +kernel
theorem dX14_sumRead_25 : decode cX14_sumRead 25 = .ok (.aload_n 0, 1) := by decide +kernel
theorem dX14_sumRead_26 : decode cX14_sumRead 26 = .ok (.bipush 59, 2) := by decide +kernel
theorem dX14_sumRead_28 : decode cX14_sumRead 28 = .ok (.invokevirtual 202, 3) := by decide +kernel
theorem dX14_sumRead_31 : decode cX14_sumRead 31 = .ok (.ifCond .eq 17, 3) := by decide +kernel
theorem dX14_sumRead_34 : decode cX14_sumRead 34 = .ok (.aload_n 0, 1) := by decide +kernel
theorem dX14_sumRead_35 : decode cX14_sumRead 35 = .ok (.getfield 395, 3) := by decide +kernel
theorem dX14_sumRead_38 : decode cX14_sumRead 38 = .ok (.ifCond .ne 10, 3) := by decide +kernel
theorem dX14_sumRead_41 : decode cX14_sumRead 41 = .ok (.aload_n 0, 1) := by decide +kernel
theorem dX14_sumRead_42 : decode cX14_sumRead 42 = .ok (.getfield 379, 3) := by decide +kernel
theorem dX14_sumRead_45 : decode cX14_sumRead 45 = .ok (.ifCond .le 29, 3) := by decide +kernel
theorem dX14_sumRead_48 : decode cX14_sumRead 48 = .ok (.aload_n 0, 1) := by decide +kernel
theorem dX14_sumRead_49 : decode cX14_sumRead 49 = .ok (.getfield 395, 3) := by decide +kernel
theorem dX14_sumRead_52 : decode cX14_sumRead 52 = .ok (.ifCond .eq 13, 3) := by decide +kernel
theorem dX14_sumRead_55 : decode cX14_sumRead 55 = .ok (.aload_n 0, 1) := by decide +kernel
theorem dX14_sumRead_56 : decode cX14_sumRead 56 = .ok (.invokevirtual 401, 3) := by decide +kernel
theorem dX14_sumRead_59 : decode cX14_sumRead 59 = .ok (.ifCond .eq 13, 3) := by decide +kernel
theorem dX14_sumRead_62 : decode cX14_sumRead 62 = .ok (.goto (-37), 3) := by decide +kernel
theorem dX14_sumRead_65 : decode cX14_sumRead 65 = .ok (.aload_n 0, 1) := by decide +kernel
theorem dX14_sumRead_66 : decode cX14_sumRead 66 = .ok (.invokevirtual 404, 3) := by decide +kernel
theorem dX14_sumRead_69 : decode cX14_sumRead 69 = .ok (.ifCond .ne (-44), 3) := by decide +kernel
theorem dX14_sumRead_72 : decode cX14_sumRead 72 = .ok (.iconst 0, 1) := by decide +kernel
theorem dX14_sumRead_73 : decode cX14_sumRead 73 = .ok (.ireturn, 1) := by decide +kernel
theorem dX14_sumRead_74 : decode cX14_sumRead 74 = .ok (.aload_n 0, 1) := by decide +kernel
theorem dX14_sumRead_75 : decode cX14_sumRead 75 = .ok (.iconst 1, 1) := by decide +kernel
theorem dX14_sumRead_76 : decode cX14_sumRead 76 = .ok (.invokevirtual 398, 3) := by decide +kernel
theorem dX14_sumRead_79 : decode cX14_sumRead 79 = .ok (.iconst 1, 1) := by decide +kernel
theorem dX14_sumRead_80 : decode cX14_sumRead 80 = .ok (.ireturn, 1) := by decide +kernel
theorem dX14_lineRead_0 : decode cX14_lineRead 0 = .ok (.aload_n 0, 1) := by decide +kernel
theorem dX14_lineRead_1 : decode cX14_lineRead 1 = .ok (.getfield 166, 3) := by decide +kernel
theorem dX14_lineRead_4 : decode cX14_lineRead 4 = .ok (.iconst 1, 1) := by decide +kernel
theorem dX14_lineRead_5 : decode cX14_lineRead 5 = .ok (.if_icmp .ne 12, 3) := by decide +kernel
theorem dX14_lineRead_8 : decode cX14_lineRead 8 = .ok (.aload_n 0, 1) := by decide +kernel
theorem dX14_lineRead_9 : decode cX14_lineRead 9 = .ok (.getfield 177, 3) := by decide +kernel
theorem dX14_lineRead_12 : decode cX14_lineRead 12 = .ok (.bipush 12, 2) := by decide +kernel
theorem dX14_lineRead_14 : decode cX14_lineRead 14 = .ok (.if_icmp .le 9, 3) := by decide +kernel
theorem dX14_lineRead_17 : decode cX14_lineRead 17 = .ok (.aload_n 0, 1) := by decide +kernel
theorem dX14_lineRead_18 : decode cX14_lineRead 18 = .ok (.iconst 1, 1) := by decide +kernel
theorem dX14_lineRead_19 : decode cX14_lineRead 19 = .ok (.invokevirtual 189, 3) := by decide +kernel
theorem dX14_lineRead_22 : decode cX14_lineRead 22 = .ok (.ireturn, 1) := by decide +kernel
theorem dX14_lineRead_23 : decode cX14_lineRead 23 = .ok (.aload_n 0, 1) := by decide +kernel
theorem dX14_lineRead_24 : decode cX14_lineRead 24 = .ok (.getfield 177, 3) := by decide +kernel
theorem dX14_lineRead_27 : decode cX14_lineRead 27 = .ok (.tableswitch 426 0 11 #[61, 135, 135, 135, 147, 155, 241, 324, 332, 332, 332, 396], 61) := by decide +kernel
theorem dX14_lineRead_88 : decode cX14_lineRead 88 = .ok (.aload_n 0, 1) := by decide +kernel
theorem dX14_lineRead_89 : decode cX14_lineRead 89 = .ok (.getfield 245, 3) := by decide +kernel
theorem dX14_lineRead_92 : decode cX14_lineRead 92 = .ok (.ifCond .eq 9, 3) := by decide +kernel
theorem dX14_lineRead_95 : decode cX14_lineRead 95 = .ok (.aload_n 0, 1) := by decide +kernel
theorem dX14_lineRead_96 : decode cX14_lineRead 96 = .ok (.iconst 3, 1) := by decide +kernel
theorem dX14_lineRead_97 : decode cX14_lineRead 97 = .ok (.invokevirtual 189, 3) := by decide +kernel
theorem dX14_lineRead_100 : decode cX14_lineRead 100 = .ok (.ireturn, 1) := by decide +kernel
theorem dX14_lineRead_101 : decode cX14_lineRead 101 = .ok (.aload_n 0, 1) := by decide +kernel
theorem dX14_lineRead_102 : decode cX14_lineRead 102 = .ok (.getfield 249, 3) := by decide +kernel
theorem dX14_lineRead_105 : decode cX14_lineRead 105 = .ok (.ifCond .eq 9, 3) := by decide +kernel
theorem dX14_lineRead_108 : decode cX14_lineRead 108 = .ok (.aload_n 0, 1) := by decide +kernel
theorem dX14_lineRead_109 : decode cX14_lineRead 109 = .ok (.iconst 4, 1) := by decide +kernel
theorem dX14_lineRead_110 : decode cX14_lineRead 110 = .ok (.invokevirtual 189, 3) := by decide +kernel
theorem dX14_lineRead_113 : decode cX14_lineRead 113 = .ok (.ireturn, 1) := by decide +kernel
theorem dX14_lineRead_114 : decode cX14_lineRead 114 = .ok (.aload_n 0, 1) := by decide +kernel
theorem dX14_lineRead_115 : decode cX14_lineRead 115 = .ok (.iconst 1, 1) := by decide +kernel
theorem dX14_lineRead_116 : decode cX14_lineRead 116 = .ok (.putfield 245, 3) := by decide +kernel
theorem dX14_lineRead_119 : decode cX14_lineRead 119 = .ok (.aload_n 0, 1) := by decide +kernel
theorem dX14_lineRead_120 : decode cX14_lineRead 120 = .ok (.invokevirtual 199, 3) := by decide +kernel
theorem dX14_lineRead_123 : decode cX14_lineRead 123 = .ok (.aload_n 0, 1) := by decide +kernel
theorem dX14_lineRead_124 : decode cX14_lineRead 124 = .ok (.iconst 1, 1) := by decide +kernel
theorem dX14_lineRead_125 : decode cX14_lineRead 125 = .ok (.bipush 8, 2) := by decide +kernel
theorem dX14_lineRead_127 : decode cX14_lineRead 127 = .ok (.invokevirtual 205, 3) := by decide +kernel
theorem dX14_lineRead_130 : decode cX14_lineRead 130 = .ok (.ifCond .ne 5, 3) := by decide +kernel
theorem dX14_lineRead_133 : decode cX14_lineRead 133 = .ok (.iconst 0, 1) := by decide +kernel
theorem dX14_lineRead_134 : decode cX14_lineRead 134 = .ok (.ireturn, 1) := by decide +kernel
theorem dX14_lineRead_135 : decode cX14_lineRead 135 = .ok (.aload_n 0, 1) := by decide +kernel
theorem dX14_lineRead_136 : decode cX14_lineRead 136 = .ok (.aload_n 0, 1) := by decide +kernel
theorem dX14_lineRead_137 : decode cX14_lineRead 137 = .ok (.getfield 196, 3) := by decide +kernel
theorem dX14_lineRead_140 : decode cX14_lineRead 140 = .ok (.putfield 209, 3) := by decide +kernel
theorem dX14_lineRead_143 : decode cX14_lineRead 143 = .ok (.aload_n 0, 1) := by decide +kernel
theorem dX14_lineRead_144 : decode cX14_lineRead 144 = .ok (.iconst 1, 1) := by decide +kernel
theorem dX14_lineRead_145 : decode cX14_lineRead 145 = .ok (.bipush 6, 2) := by decide +kernel
theorem dX14_lineRead_147 : decode cX14_lineRead 147 = .ok (.invokevirtual 205, 3) := by decide +kernel
theorem dX14_lineRead_150 : decode cX14_lineRead 150 = .ok (.istore_n 1, 1) := by decide +kernel
theorem dX14_lineRead_151 : decode cX14_lineRead 151 = .ok (.aload_n 0, 1) := by decide +kernel
theorem dX14_lineRead_152 : decode cX14_lineRead 152 = .ok (.aload_n 0, 1) := by decide +kernel
theorem dX14_lineRead_153 : decode cX14_lineRead 153 = .ok (.getfield 196, 3) := by decide +kernel
theorem dX14_lineRead_156 : decode cX14_lineRead 156 = .ok (.putfield 212, 3) := by decide +kernel
theorem dX14_lineRead_159 : decode cX14_lineRead 159 = .ok (.goto 299, 3) := by decide +kernel
theorem dX14_lineRead_162 : decode cX14_lineRead 162 = .ok (.aload_n 0, 1) := by decide +kernel
theorem dX14_lineRead_163 : decode cX14_lineRead 163 = .ok (.aload_n 0, 1) := by decide +kernel
theorem dX14_lineRead_164 : decode cX14_lineRead 164 = .ok (.getfield 177, 3) := by decide +kernel
theorem dX14_lineRead_167 : decode cX14_lineRead 167 = .ok (.invokevirtual 343, 3) := by decide +kernel
theorem dX14_lineRead_170 : decode cX14_lineRead 170 = .ok (.istore_n 1, 1) := by decide +kernel
theorem dX14_lineRead_171 : decode cX14_lineRead 171 = .ok (.goto 287, 3) := by decide +kernel
theorem dX14_lineRead_174 : decode cX14_lineRead 174 = .ok (.aload_n 0, 1) := by decide +kernel
theorem dX14_lineRead_175 : decode cX14_lineRead 175 = .ok (.invokevirtual 346, 3) := by decide +kernel
theorem dX14_lineRead_178 : decode cX14_lineRead 178 = .ok (.istore_n 1, 1) := by decide +kernel
theorem dX14_lineRead_179 : decode cX14_lineRead 179 = .ok (.goto 279, 3) := by decide +kernel
theorem dX14_lineRead_182 : decode cX14_lineRead 182 = .ok (.aload_n 0, 1) := by decide +kernel
theorem dX14_lineRead_183 : decode cX14_lineRead 183 = .ok (.getfield 218, 3) := by decide +kernel
theorem dX14_lineRead_186 : decode cX14_lineRead 186 = .ok (.bipush 6, 2) := by decide +kernel
theorem dX14_lineRead_188 : decode cX14_lineRead 188 = .ok (.if_icmp .ne 9, 3) := by decide +kernel
theorem dX14_lineRead_191 : decode cX14_lineRead 191 = .ok (.aload_n 0, 1) := by decide +kernel
theorem dX14_lineRead_192 : decode cX14_lineRead 192 = .ok (.iconst 2, 1) := by decide +kernel
theorem dX14_lineRead_193 : decode cX14_lineRead 193 = .ok (.invokevirtual 189, 3) := by decide +kernel
theorem dX14_lineRead_196 : decode cX14_lineRead 196 = .ok (.ireturn, 1) := by decide +kernel
theorem dX14_lineRead_197 : decode cX14_lineRead 197 = .ok (.aload_n 0, 1) := by decide +kernel
theorem dX14_lineRead_198 : decode cX14_lineRead 198 = .ok (.invokevirtual 199, 3) := by decide +kernel
theorem dX14_lineRead_201 : decode cX14_lineRead 201 = .ok (.aload_n 0, 1) := by decide +kernel
theorem dX14_lineRead_202 : decode cX14_lineRead 202 = .ok (.aload_n 0, 1) := by decide +kernel
theorem dX14_lineRead_203 : decode cX14_lineRead 203 = .ok (.getfield 51, 3) := by decide +kernel
theorem dX14_lineRead_206 : decode cX14_lineRead 206 = .ok (.bipush 6, 2) := by decide +kernel
theorem dX14_lineRead_208 : decode cX14_lineRead 208 = .ok (.aload_n 0, 1) := by decide +kernel
theorem dX14_lineRead_209 : decode cX14_lineRead 209 = .ok (.getfield 218, 3) := by decide +kernel
theorem dX14_lineRead_212 : decode cX14_lineRead 212 = .ok (.invokevirtual 330, 3) := by decide +kernel
theorem dX14_lineRead_215 : decode cX14_lineRead 215 = .ok (.ifCond .eq 14, 3) := by decide +kernel
theorem dX14_lineRead_218 : decode cX14_lineRead 218 = .ok (.aload_n 0, 1) := by decide +kernel
theorem dX14_lineRead_219 : decode cX14_lineRead 219 = .ok (.invokevirtual 340, 3) := by decide +kernel
theorem dX14_lineRead_222 : decode cX14_lineRead 222 = .ok (.ifCond .eq 7, 3) := by decide +kernel
theorem dX14_lineRead_225 : decode cX14_lineRead 225 = .ok (.iconst 1, 1) := by decide +kernel
theorem dX14_lineRead_226 : decode cX14_lineRead 226 = .ok (.goto 4, 3) := by decide +kernel
theorem dX14_lineRead_229 : decode cX14_lineRead 229 = .ok (.iconst 0, 1) := by decide +kernel
theorem dX14_lineRead_230 : decode cX14_lineRead 230 = .ok (.istore_n 1, 1) := by decide +kernel
theorem dX14_lineRead_231 : decode cX14_lineRead 231 = .ok (.aload_n 0, 1) := by decide +kernel
theorem dX14_lineRead_232 : decode cX14_lineRead 232 = .ok (.getfield 54, 3) := by decide +kernel
theorem dX14_lineRead_235 : decode cX14_lineRead 235 = .ok (.bipush 6, 2) := by decide +kernel
theorem dX14_lineRead_237 : decode cX14_lineRead 237 = .ok (.aload_n 0, 1) := by decide +kernel
theorem dX14_lineRead_238 : decode cX14_lineRead 238 = .ok (.getfield 218, 3) := by decide +kernel
theorem dX14_lineRead_241 : decode cX14_lineRead 241 = .ok (.iadd, 1) := by decide +kernel
theorem dX14_lineRead_242 : decode cX14_lineRead 242 = .ok (.aload_n 0, 1) := by decide +kernel
theorem dX14_lineRead_243 : decode cX14_lineRead 243 = .ok (.getfield 196, 3) := by decide +kernel
theorem dX14_lineRead_246 : decode cX14_lineRead 246 = .ok (.iastore, 1) := by decide +kernel
theorem dX14_lineRead_247 : decode cX14_lineRead 247 = .ok (.aload_n 0, 1) := by decide +kernel
theorem dX14_lineRead_248 : decode cX14_lineRead 248 = .ok (.dup, 1) := by decide +kernel
theorem dX14_lineRead_249 : decode cX14_lineRead 249 = .ok (.getfield 218, 3) := by decide +kernel
theorem dX14_lineRead_252 : decode cX14_lineRead 252 = .ok (.iload_n 1, 1) := by decide +kernel
theorem dX14_lineRead_253 : decode cX14_lineRead 253 = .ok (.ifCond .eq 7, 3) := by decide +kernel
theorem dX14_lineRead_256 : decode cX14_lineRead 256 = .ok (.iconst 1, 1) := by decide +kernel
theorem dX14_lineRead_257 : decode cX14_lineRead 257 = .ok (.goto 4, 3) := by decide +kernel
theorem dX14_lineRead_260 : decode cX14_lineRead 260 = .ok (.iconst 0, 1) := by decide +kernel
theorem dX14_lineRead_261 : decode cX14_lineRead 261 = .ok (.iadd, 1) := by decide +kernel
theorem dX14_lineRead_262 : decode cX14_lineRead 262 = .ok (.putfield 218, 3) := by decide +kernel
theorem dX14_lineRead_265 : decode cX14_lineRead 265 = .ok (.goto 193, 3) := by decide +kernel
theorem dX14_lineRead_268 : decode cX14_lineRead 268 = .ok (.aload_n 0, 1) := by decide +kernel
theorem dX14_lineRead_269 : decode cX14_lineRead 269 = .ok (.getfield 221, 3) := by decide +kernel
theorem dX14_lineRead_272 : decode cX14_lineRead 272 = .ok (.iconst 3, 1) := by decide +kernel
theorem dX14_lineRead_273 : decode cX14_lineRead 273 = .ok (.if_icmp .ne 9, 3) := by decide +kernel
theorem dX14_lineRead_276 : decode cX14_lineRead 276 = .ok (.aload_n 0, 1) := by decide +kernel
theorem dX14_lineRead_277 : decode cX14_lineRead 277 = .ok (.iconst 2, 1) := by decide +kernel
theorem dX14_lineRead_278 : decode cX14_lineRead 278 = .ok (.invokevirtual 189, 3) := by decide +kernel
theorem dX14_lineRead_281 : decode cX14_lineRead 281 = .ok (.ireturn, 1) := by decide +kernel
theorem dX14_lineRead_282 : decode cX14_lineRead 282 = .ok (.aload_n 0, 1) := by decide +kernel
theorem dX14_lineRead_283 : decode cX14_lineRead 283 = .ok (.invokevirtual 199, 3) := by decide +kernel
theorem dX14_lineRead_286 : decode cX14_lineRead 286 = .ok (.aload_n 0, 1) := by decide +kernel
theorem dX14_lineRead_287 : decode cX14_lineRead 287 = .ok (.aload_n 0, 1) := by decide +kernel
theorem dX14_lineRead_288 : decode cX14_lineRead 288 = .ok (.getfield 57, 3) := by decide +kernel
theorem dX14_lineRead_291 : decode cX14_lineRead 291 = .ok (.iconst 3, 1) := by decide +kernel
theorem dX14_lineRead_292 : decode cX14_lineRead 292 = .ok (.aload_n 0, 1) := by decide +kernel
theorem dX14_lineRead_293 : decode cX14_lineRead 293 = .ok (.getfield 221, 3) := by decide +kernel
theorem dX14_lineRead_296 : decode cX14_lineRead 296 = .ok (.invokevirtual 330, 3) := by decide +kernel
theorem dX14_lineRead_299 : decode cX14_lineRead 299 = .ok (.ifCond .eq 14, 3) := by decide +kernel
theorem dX14_lineRead_302 : decode cX14_lineRead 302 = .ok (.aload_n 0, 1) := by decide +kernel
theorem dX14_lineRead_303 : decode cX14_lineRead 303 = .ok (.invokevirtual 340, 3) := by decide +kernel
theorem dX14_lineRead_306 : decode cX14_lineRead 306 = .ok (.ifCond .eq 7, 3) := by decide +kernel
theorem dX14_lineRead_309 : decode cX14_lineRead 309 = .ok (.iconst 1, 1) := by decide +kernel
theorem dX14_lineRead_310 : decode cX14_lineRead 310 = .ok (.goto 4, 3) := by decide +kernel
theorem dX14_lineRead_313 : decode cX14_lineRead 313 = .ok (.iconst 0, 1) := by decide +kernel
theorem dX14_lineRead_314 : decode cX14_lineRead 314 = .ok (.istore_n 1, 1) := by decide +kernel
theorem dX14_lineRead_315 : decode cX14_lineRead 315 = .ok (.aload_n 0, 1) := by decide +kernel
theorem dX14_lineRead_316 : decode cX14_lineRead 316 = .ok (.getfield 60, 3) := by decide +kernel
theorem dX14_lineRead_319 : decode cX14_lineRead 319 = .ok (.iconst 3, 1) := by decide +kernel
theorem dX14_lineRead_320 : decode cX14_lineRead 320 = .ok (.aload_n 0, 1) := by decide +kernel
theorem dX14_lineRead_321 : decode cX14_lineRead 321 = .ok (.getfield 221, 3) := by decide +kernel
theorem dX14_lineRead_324 : decode cX14_lineRead 324 = .ok (.iadd, 1) := by decide +kernel
theorem dX14_lineRead_325 : decode cX14_lineRead 325 = .ok (.aload_n 0, 1) := by decide +kernel
theorem dX14_lineRead_326 : decode cX14_lineRead 326 = .ok (.getfield 196, 3) := by decide +kernel
theorem dX14_lineRead_329 : decode cX14_lineRead 329 = .ok (.iastore, 1) := by decide +kernel
theorem dX14_lineRead_330 : decode cX14_lineRead 330 = .ok (.aload_n 0, 1) := by decide +kernel
theorem dX14_lineRead_331 : decode cX14_lineRead 331 = .ok (.dup, 1) := by decide +kernel
theorem dX14_lineRead_332 : decode cX14_lineRead 332 = .ok (.getfield 221, 3) := by decide +kernel
theorem dX14_lineRead_335 : decode cX14_lineRead 335 = .ok (.iload_n 1, 1) := by decide +kernel
theorem dX14_lineRead_336 : decode cX14_lineRead 336 = .ok (.ifCond .eq 7, 3) := by decide +kernel
theorem dX14_lineRead_339 : decode cX14_lineRead 339 = .ok (.iconst 1, 1) := by decide +kernel
theorem dX14_lineRead_340 : decode cX14_lineRead 340 = .ok (.goto 4, 3) := by decide +kernel
theorem dX14_lineRead_343 : decode cX14_lineRead 343 = .ok (.iconst 0, 1) := by decide +kernel
theorem dX14_lineRead_344 : decode cX14_lineRead 344 = .ok (.iadd, 1) := by decide +kernel
theorem dX14_lineRead_345 : decode cX14_lineRead 345 = .ok (.putfield 221, 3) := by decide +kernel
theorem dX14_lineRead_348 : decode cX14_lineRead 348 = .ok (.goto 110, 3) := by decide +kernel
theorem dX14_lineRead_351 : decode cX14_lineRead 351 = .ok (.aload_n 0, 1) := by decide +kernel
theorem dX14_lineRead_352 : decode cX14_lineRead 352 = .ok (.invokevirtual 349, 3) := by decide +kernel
theorem dX14_lineRead_355 : decode cX14_lineRead 355 = .ok (.istore_n 1, 1) := by decide +kernel
theorem dX14_lineRead_356 : decode cX14_lineRead 356 = .ok (.goto 102, 3) := by decide +kernel
theorem dX14_lineRead_359 : decode cX14_lineRead 359 = .ok (.aload_n 0, 1) := by decide +kernel
theorem dX14_lineRead_360 : decode cX14_lineRead 360 = .ok (.getfield 177, 3) := by decide +kernel
theorem dX14_lineRead_363 : decode cX14_lineRead 363 = .ok (.bipush 8, 2) := by decide +kernel
theorem dX14_lineRead_365 : decode cX14_lineRead 365 = .ok (.isub, 1) := by decide +kernel
theorem dX14_lineRead_366 : decode cX14_lineRead 366 = .ok (.istore_n 2, 1) := by decide +kernel
theorem dX14_lineRead_367 : decode cX14_lineRead 367 = .ok (.aload_n 0, 1) := by decide +kernel
theorem dX14_lineRead_368 : decode cX14_lineRead 368 = .ok (.getfield 23, 3) := by decide +kernel
theorem dX14_lineRead_371 : decode cX14_lineRead 371 = .ok (.iload_n 2, 1) := by decide +kernel
theorem dX14_lineRead_372 : decode cX14_lineRead 372 = .ok (.baload, 1) := by decide +kernel
theorem dX14_lineRead_373 : decode cX14_lineRead 373 = .ok (.ifCond .eq 9, 3) := by decide +kernel
theorem dX14_lineRead_376 : decode cX14_lineRead 376 = .ok (.aload_n 0, 1) := by decide +kernel
theorem dX14_lineRead_377 : decode cX14_lineRead 377 = .ok (.iconst 3, 1) := by decide +kernel
theorem dX14_lineRead_378 : decode cX14_lineRead 378 = .ok (.invokevirtual 189, 3) := by decide +kernel
theorem dX14_lineRead_381 : decode cX14_lineRead 381 = .ok (.ireturn, 1) := by decide +kernel
theorem dX14_lineRead_382 : decode cX14_lineRead 382 = .ok (.aload_n 0, 1) := by decide +kernel
theorem dX14_lineRead_383 : decode cX14_lineRead 383 = .ok (.getfield 23, 3) := by decide +kernel
theorem dX14_lineRead_386 : decode cX14_lineRead 386 = .ok (.iload_n 2, 1) := by decide +kernel
theorem dX14_lineRead_387 : decode cX14_lineRead 387 = .ok (.iconst 1, 1) := by decide +kernel
theorem dX14_lineRead_388 : decode cX14_lineRead 388 = .ok (.bastore, 1) := by decide +kernel
theorem dX14_lineRead_389 : decode cX14_lineRead 389 = .ok (.aload_n 0, 1) := by decide +kernel
theorem dX14_lineRead_390 : decode cX14_lineRead 390 = .ok (.invokevirtual 199, 3) := by decide +kernel
theorem dX14_lineRead_393 : decode cX14_lineRead 393 = .ok (.aload_n 0, 1) := by decide +kernel
theorem dX14_lineRead_394 : decode cX14_lineRead 394 = .ok (.iconst 0, 1) := by decide +kernel
theorem dX14_lineRead_395 : decode cX14_lineRead 395 = .ok (.iload_n 2, 1) := by decide +kernel
theorem dX14_lineRead_396 : decode cX14_lineRead 396 = .ok (.ifCond .ne 8, 3) := by decide +kernel
theorem dX14_lineRead_399 : decode cX14_lineRead 399 = .ok (.bipush 50, 2) := by decide +kernel
theorem dX14_lineRead_401 : decode cX14_lineRead 401 = .ok (.goto 5, 3) := by decide +kernel
theorem dX14_lineRead_404 : decode cX14_lineRead 404 = .ok (.bipush 99, 2) := by decide +kernel
theorem dX14_lineRead_406 : decode cX14_lineRead 406 = .ok (.invokevirtual 205, 3) := by decide +kernel
theorem dX14_lineRead_409 : decode cX14_lineRead 409 = .ok (.istore_n 1, 1) := by decide +kernel
theorem dX14_lineRead_410 : decode cX14_lineRead 410 = .ok (.aload_n 0, 1) := by decide +kernel
theorem dX14_lineRead_411 : decode cX14_lineRead 411 = .ok (.getfield 20, 3) := by decide +kernel
theorem dX14_lineRead_414 : decode cX14_lineRead 414 = .ok (.iload_n 2, 1) := by decide +kernel
theorem dX14_lineRead_415 : decode cX14_lineRead 415 = .ok (.aload_n 0, 1) := by decide +kernel
theorem dX14_lineRead_416 : decode cX14_lineRead 416 = .ok (.getfield 196, 3) := by decide +kernel
theorem dX14_lineRead_419 : decode cX14_lineRead 419 = .ok (.iastore, 1) := by decide +kernel
theorem dX14_lineRead_420 : decode cX14_lineRead 420 = .ok (.goto 38, 3) := by decide +kernel
theorem dX14_lineRead_423 : decode cX14_lineRead 423 = .ok (.aload_n 0, 1) := by decide +kernel
theorem dX14_lineRead_424 : decode cX14_lineRead 424 = .ok (.getfield 252, 3) := by decide +kernel
theorem dX14_lineRead_427 : decode cX14_lineRead 427 = .ok (.ifCond .eq 9, 3) := by decide +kernel
theorem dX14_lineRead_430 : decode cX14_lineRead 430 = .ok (.aload_n 0, 1) := by decide +kernel
theorem dX14_lineRead_431 : decode cX14_lineRead 431 = .ok (.iconst 3, 1) := by decide +kernel
theorem dX14_lineRead_432 : decode cX14_lineRead 432 = .ok (.invokevirtual 189, 3) := by decide +kernel
theorem dX14_lineRead_435 : decode cX14_lineRead 435 = .ok (.ireturn, 1) := by decide +kernel
theorem dX14_lineRead_436 : decode cX14_lineRead 436 = .ok (.aload_n 0, 1) := by decide +kernel
theorem dX14_lineRead_437 : decode cX14_lineRead 437 = .ok (.iconst 1, 1) := by decide +kernel
theorem dX14_lineRead_438 : decode cX14_lineRead 438 = .ok (.putfield 252, 3) := by decide +kernel
theorem dX14_lineRead_441 : decode cX14_lineRead 441 = .ok (.aload_n 0, 1) := by decide +kernel
theorem dX14_lineRead_442 : decode cX14_lineRead 442 = .ok (.invokevirtual 199, 3) := by decide +kernel
theorem dX14_lineRead_445 : decode cX14_lineRead 445 = .ok (.aload_n 0, 1) := by decide +kernel
theorem dX14_lineRead_446 : decode cX14_lineRead 446 = .ok (.invokevirtual 352, 3) := by decide +kernel
theorem dX14_lineRead_449 : decode cX14_lineRead 449 = .ok (.istore_n 1, 1) := by decide +kernel
theorem dX14_lineRead_450 : decode cX14_lineRead 450 = .ok (.goto 8, 3) := by decide +kernel
theorem dX14_lineRead_453 : decode cX14_lineRead 453 = .ok (.aload_n 0, 1) := by decide +kernel
theorem dX14_lineRead_454 : decode cX14_lineRead 454 = .ok (.invokevirtual 355, 3) := by decide +kernel
theorem dX14_lineRead_457 : decode cX14_lineRead 457 = .ok (.istore_n 1, 1) := by decide +kernel
theorem dX14_lineRead_458 : decode cX14_lineRead 458 = .ok (.iload_n 1, 1) := by decide +kernel
theorem dX14_lineRead_459 : decode cX14_lineRead 459 = .ok (.ifCond .ne 5, 3) := by decide +kernel
theorem dX14_lineRead_462 : decode cX14_lineRead 462 = .ok (.iconst 0, 1) := by decide +kernel
theorem dX14_lineRead_463 : decode cX14_lineRead 463 = .ok (.ireturn, 1) := by decide +kernel
theorem dX14_lineRead_464 : decode cX14_lineRead 464 = .ok (.aload_n 0, 1) := by decide +kernel
theorem dX14_lineRead_465 : decode cX14_lineRead 465 = .ok (.bipush 59, 2) := by decide +kernel
theorem dX14_lineRead_467 : decode cX14_lineRead 467 = .ok (.invokevirtual 202, 3) := by decide +kernel
theorem dX14_lineRead_470 : decode cX14_lineRead 470 = .ok (.ifCond .ne 9, 3) := by decide +kernel
theorem dX14_lineRead_473 : decode cX14_lineRead 473 = .ok (.aload_n 0, 1) := by decide +kernel
theorem dX14_lineRead_474 : decode cX14_lineRead 474 = .ok (.iconst 1, 1) := by decide +kernel
theorem dX14_lineRead_475 : decode cX14_lineRead 475 = .ok (.invokevirtual 189, 3) := by decide +kernel
theorem dX14_lineRead_478 : decode cX14_lineRead 478 = .ok (.ireturn, 1) := by decide +kernel
theorem dX14_lineRead_479 : decode cX14_lineRead 479 = .ok (.aload_n 0, 1) := by decide +kernel
theorem dX14_lineRead_480 : decode cX14_lineRead 480 = .ok (.invokevirtual 199, 3) := by decide +kernel
theorem dX14_lineRead_483 : decode cX14_lineRead 483 = .ok (.iconst 1, 1) := by decide +kernel
theorem dX14_lineRead_484 : decode cX14_lineRead 484 = .ok (.ireturn, 1) := by decide +kernel
theorem dX14_look_0 : decode cX14_look 0 = .ok (.aload_n 0, 1) := by decide +kernel
theorem dX14_look_1 : decode cX14_look 1 = .ok (.iconst 0, 1) := by decide +kernel
theorem dX14_look_2 : decode cX14_look 2 = .ok (.putfield 148, 3) := by decide +kernel
theorem dX14_look_5 : decode cX14_look 5 = .ok (.aload_n 0, 1) := by decide +kernel
theorem dX14_look_6 : decode cX14_look 6 = .ok (.iload_n 1, 1) := by decide +kernel
theorem dX14_look_7 : decode cX14_look 7 = .ok (.invokevirtual 442, 3) := by decide +kernel
theorem dX14_look_10 : decode cX14_look 10 = .ok (.ifCond .ne 9, 3) := by decide +kernel
theorem dX14_look_13 : decode cX14_look 13 = .ok (.aload_n 0, 1) := by decide +kernel
theorem dX14_look_14 : decode cX14_look 14 = .ok (.iconst 1, 1) := by decide +kernel
theorem dX14_look_15 : decode cX14_look 15 = .ok (.invokevirtual 445, 3) := by decide +kernel
theorem dX14_look_18 : decode cX14_look 18 = .ok (.ireturn, 1) := by decide +kernel
theorem dX14_look_19 : decode cX14_look 19 = .ok (.iload_n 2, 1) := by decide +kernel
theorem dX14_look_20 : decode cX14_look 20 = .ok (.ifCond .ne 12, 3) := by decide +kernel
theorem dX14_look_23 : decode cX14_look 23 = .ok (.aload_n 0, 1) := by decide +kernel
theorem dX14_look_24 : decode cX14_look 24 = .ok (.getfield 42, 3) := by decide +kernel
theorem dX14_look_27 : decode cX14_look 27 = .ok (.iload_n 1, 1) := by decide +kernel
theorem dX14_look_28 : decode cX14_look 28 = .ok (.iaload, 1) := by decide +kernel
theorem dX14_look_29 : decode cX14_look 29 = .ok (.goto 22, 3) := by decide +kernel
theorem dX14_look_32 : decode cX14_look 32 = .ok (.iload_n 2, 1) := by decide +kernel
theorem dX14_look_33 : decode cX14_look 33 = .ok (.iconst 1, 1) := by decide +kernel
theorem dX14_look_34 : decode cX14_look 34 = .ok (.if_icmp .ne 12, 3) := by decide +kernel
theorem dX14_look_37 : decode cX14_look 37 = .ok (.aload_n 0, 1) := by decide +kernel
theorem dX14_look_38 : decode cX14_look 38 = .ok (.getfield 45, 3) := by decide +kernel
theorem dX14_look_41 : decode cX14_look 41 = .ok (.iload_n 1, 1) := by decide +kernel
theorem dX14_look_42 : decode cX14_look 42 = .ok (.iaload, 1) := by decide +kernel
theorem dX14_look_43 : decode cX14_look 43 = .ok (.goto 8, 3) := by decide +kernel
theorem dX14_look_46 : decode cX14_look 46 = .ok (.aload_n 0, 1) := by decide +kernel
theorem dX14_look_47 : decode cX14_look 47 = .ok (.iconst 2, 1) := by decide +kernel
theorem dX14_look_48 : decode cX14_look 48 = .ok (.invokevirtual 445, 3) := by decide +kernel
theorem dX14_look_51 : decode cX14_look 51 = .ok (.ireturn, 1) := by decide +kernel
theorem dX14_looks_0 : decode cX14_looks 0 = .ok (.aload_n 0, 1) := by decide +kernel
theorem dX14_looks_1 : decode cX14_looks 1 = .ok (.iconst 0, 1) := by decide +kernel
theorem dX14_looks_2 : decode cX14_looks 2 = .ok (.putfield 148, 3) := by decide +kernel
theorem dX14_looks_5 : decode cX14_looks 5 = .ok (.aload_n 0, 1) := by decide +kernel
theorem dX14_looks_6 : decode cX14_looks 6 = .ok (.iload_n 1, 1) := by decide +kernel
theorem dX14_looks_7 : decode cX14_looks 7 = .ok (.invokevirtual 442, 3) := by decide +kernel
theorem dX14_looks_10 : decode cX14_looks 10 = .ok (.ifCond .eq 29, 3) := by decide +kernel
theorem dX14_looks_13 : decode cX14_looks 13 = .ok (.aload_n 0, 1) := by decide +kernel
theorem dX14_looks_14 : decode cX14_looks 14 = .ok (.iload_n 2, 1) := by decide +kernel
theorem dX14_looks_15 : decode cX14_looks 15 = .ok (.invokevirtual 442, 3) := by decide +kernel
theorem dX14_looks_18 : decode cX14_looks 18 = .ok (.ifCond .eq 21, 3) := by decide +kernel
theorem dX14_looks_21 : decode cX14_looks 21 = .ok (.aload_n 0, 1) := by decide +kernel
theorem dX14_looks_22 : decode cX14_looks 22 = .ok (.iload_n 3, 1) := by decide +kernel
theorem dX14_looks_23 : decode cX14_looks 23 = .ok (.invokevirtual 432, 3) := by decide +kernel
theorem dX14_looks_26 : decode cX14_looks 26 = .ok (.ifCond .eq 13, 3) := by decide +kernel
theorem dX14_looks_29 : decode cX14_looks 29 = .ok (.iload 4, 2) := by decide +kernel
theorem dX14_looks_31 : decode cX14_looks 31 = .ok (.iconst 0, 1) := by decide +kernel
theorem dX14_looks_32 : decode cX14_looks 32 = .ok (.iconst 1, 1) := by decide +kernel
theorem dX14_looks_33 : decode cX14_looks 33 = .ok (.invokestatic 192, 3) := by decide +kernel
theorem dX14_looks_36 : decode cX14_looks 36 = .ok (.ifCond .ne 5, 3) := by decide +kernel
theorem dX14_looks_39 : decode cX14_looks 39 = .ok (.iconst (-1), 1) := by decide +kernel
theorem dX14_looks_40 : decode cX14_looks 40 = .ok (.ireturn, 1) := by decide +kernel
theorem dX14_looks_41 : decode cX14_looks 41 = .ok (.aload_n 0, 1) := by decide +kernel
theorem dX14_looks_42 : decode cX14_looks 42 = .ok (.getfield 130, 3) := by decide +kernel
theorem dX14_looks_45 : decode cX14_looks 45 = .ok (.iconst 0, 1) := by decide +kernel
theorem dX14_looks_46 : decode cX14_looks 46 = .ok (.iload_n 2, 1) := by decide +kernel
theorem dX14_looks_47 : decode cX14_looks 47 = .ok (.iastore, 1) := by decide +kernel
theorem dX14_looks_48 : decode cX14_looks 48 = .ok (.aload_n 0, 1) := by decide +kernel
theorem dX14_looks_49 : decode cX14_looks 49 = .ok (.getfield 133, 3) := by decide +kernel
theorem dX14_looks_52 : decode cX14_looks 52 = .ok (.iconst 0, 1) := by decide +kernel
theorem dX14_looks_53 : decode cX14_looks 53 = .ok (.iload_n 3, 1) := by decide +kernel
theorem dX14_looks_54 : decode cX14_looks 54 = .ok (.iastore, 1) := by decide +kernel
theorem dX14_looks_55 : decode cX14_looks 55 = .ok (.aload_n 0, 1) := by decide +kernel
theorem dX14_looks_56 : decode cX14_looks 56 = .ok (.iconst 0, 1) := by decide +kernel
theorem dX14_looks_57 : decode cX14_looks 57 = .ok (.invokevirtual 541, 3) := by decide +kernel
theorem dX14_looks_60 : decode cX14_looks 60 = .ok (.iconst (-1), 1) := by decide +kernel
theorem dX14_looks_61 : decode cX14_looks 61 = .ok (.istore 5, 2) := by decide +kernel
theorem dX14_looks_63 : decode cX14_looks 63 = .ok (.iconst 0, 1) := by decide +kernel
theorem dX14_looks_64 : decode cX14_looks 64 = .ok (.istore 6, 2) := by decide +kernel
theorem dX14_looks_66 : decode cX14_looks 66 = .ok (.iconst 0, 1) := by decide +kernel
theorem dX14_looks_67 : decode cX14_looks 67 = .ok (.istore 7, 2) := by decide +kernel
theorem dX14_looks_69 : decode cX14_looks 69 = .ok (.iload 7, 2) := by decide +kernel
theorem dX14_looks_71 : decode cX14_looks 71 = .ok (.aload_n 0, 1) := by decide +kernel
theorem dX14_looks_72 : decode cX14_looks 72 = .ok (.invokevirtual 426, 3) := by decide +kernel
theorem dX14_looks_75 : decode cX14_looks 75 = .ok (.if_icmp .ge 129, 3) := by decide +kernel
