theorem dX14_isIn_0 : decode cX14_isIn 0 = .ok (.iload_n 0, 1) := by decide +kernel
theorem dX14_isIn_1 : decode cX14_isIn 1 = .ok (.iload_n 1, 1) := by decide +kernel
theorem dX14_isIn_2 : decode cX14_isIn 2 = .ok (.if_icmp .lt 12, 3) := by decide +kernel
theorem dX14_isIn_5 : decode cX14_isIn 5 = .ok (.iload_n 0, 1) := by decide +kernel
theorem dX14_isIn_6 : decode cX14_isIn 6 = .ok (.iload_n 2, 1) := by decide +kernel
theorem dX14_isIn_7 : decode cX14_isIn 7 = .ok (.if_icmp .gt 7, 3) := by decide +kernel
theorem dX14_isIn_10 : decode cX14_isIn 10 = .ok (.iconst 1, 1) := by decide +kernel
theorem dX14_isIn_11 : decode cX14_isIn 11 = .ok (.goto 4, 3) := by decide +kernel
theorem dX14_isIn_14 : decode cX14_isIn 14 = .ok (.iconst 0, 1) := by decide +kernel
theorem dX14_isIn_15 : decode cX14_isIn 15 = .ok (.ireturn, 1) := by decide +kernel
theorem dX14_isOf_0 : decode cX14_isOf 0 = .ok (.iload_n 0, 1) := by decide +kernel
theorem dX14_isOf_1 : decode cX14_isOf 1 = .ok (.iload_n 1, 1) := by decide +kernel
theorem dX14_isOf_2 : decode cX14_isOf 2 = .ok (.ishr, 1) := by decide +kernel
theorem dX14_isOf_3 : decode cX14_isOf 3 = .ok (.iconst 1, 1) := by decide +kernel
theorem dX14_isOf_4 : decode cX14_isOf 4 = .ok (.iand, 1) := by decide +kernel
theorem dX14_isOf_5 : decode cX14_isOf 5 = .ok (.iconst 1, 1) := by decide +kernel
theorem dX14_isOf_6 : decode cX14_isOf 6 = .ok (.if_icmp .ne 7, 3) := by decide +kernel
theorem dX14_isOf_9 : decode cX14_isOf 9 = .ok (.iconst 1, 1) := by decide +kernel
theorem dX14_isOf_10 : decode cX14_isOf 10 = .ok (.goto 4, 3) := by decide +kernel
theorem dX14_isOf_13 : decode cX14_isOf 13 = .ok (.iconst 0, 1) := by decide +kernel
theorem dX14_isOf_14 : decode cX14_isOf 14 = .ok (.ireturn, 1) := by decide +kernel
theorem dX14_cells_0 : decode cX14_cells 0 = .ok (.aload_n 0, 1) := by decide +kernel
theorem dX14_cells_1 : decode cX14_cells 1 = .ok (.getfield 255, 3) := by decide +kernel
theorem dX14_cells_4 : decode cX14_cells 4 = .ok (.aload_n 0, 1) := by decide +kernel
theorem dX14_cells_5 : decode cX14_cells 5 = .ok (.getfield 258, 3) := by decide +kernel
theorem dX14_cells_8 : decode cX14_cells 8 = .ok (.imul, 1) := by decide +kernel
theorem dX14_cells_9 : decode cX14_cells 9 = .ok (.ireturn, 1) := by decide +kernel
theorem dX14_isCell_0 : decode cX14_isCell 0 = .ok (.iload_n 1, 1) := by decide +kernel
theorem dX14_isCell_1 : decode cX14_isCell 1 = .ok (.ifCond .lt 15, 3) := by decide +kernel
theorem dX14_isCell_4 : decode cX14_isCell 4 = .ok (.iload_n 1, 1) := by decide +kernel
theorem dX14_isCell_5 : decode cX14_isCell 5 = .ok (.aload_n 0, 1) := by decide +kernel
theorem dX14_isCell_6 : decode cX14_isCell 6 = .ok (.invokevirtual 426, 3) := by decide +kernel
theorem dX14_isCell_9 : decode cX14_isCell 9 = .ok (.if_icmp .ge 7, 3) := by decide +kernel
theorem dX14_isCell_12 : decode cX14_isCell 12 = .ok (.iconst 1, 1) := by decide +kernel
theorem dX14_isCell_13 : decode cX14_isCell 13 = .ok (.goto 4, 3) := by decide +kernel
theorem dX14_isCell_16 : decode cX14_isCell 16 = .ok (.iconst 0, 1) := by decide +kernel
theorem dX14_isCell_17 : decode cX14_isCell 17 = .ok (.ireturn, 1) := by decide +kernel
theorem dX14_isWater_0 : decode cX14_isWater 0 = .ok (.aload_n 0, 1) := by decide +kernel
theorem dX14_isWater_1 : decode cX14_isWater 1 = .ok (.iload_n 1, 1) := by decide +kernel
theorem dX14_isWater_2 : decode cX14_isWater 2 = .ok (.invokevirtual 429, 3) := by decide +kernel
theorem dX14_isWater_5 : decode cX14_isWater 5 = .ok (.ifCond .eq 17, 3) := by decide +kernel
theorem dX14_isWater_8 : decode cX14_isWater 8 = .ok (.aload_n 0, 1) := by decide +kernel
theorem dX14_isWater_9 : decode cX14_isWater 9 = .ok (.getfield 27, 3) := by decide +kernel
theorem dX14_isWater_12 : decode cX14_isWater 12 = .ok (.iload_n 1, 1) := by decide +kernel
theorem dX14_isWater_13 : decode cX14_isWater 13 = .ok (.iaload, 1) := by decide +kernel
theorem dX14_isWater_14 : decode cX14_isWater 14 = .ok (.iconst 2, 1) := by decide +kernel
theorem dX14_isWater_15 : decode cX14_isWater 15 = .ok (.if_icmp .eq 7, 3) := by decide +kernel
theorem dX14_isWater_18 : decode cX14_isWater 18 = .ok (.iconst 1, 1) := by decide +kernel
theorem dX14_isWater_19 : decode cX14_isWater 19 = .ok (.goto 4, 3) := by decide +kernel
theorem dX14_isWater_22 : decode cX14_isWater 22 = .ok (.iconst 0, 1) := by decide +kernel
theorem dX14_isWater_23 : decode cX14_isWater 23 = .ok (.ireturn, 1) := by decide +kernel
theorem dX14_partOf_0 : decode cX14_partOf 0 = .ok (.bipush 100, 2) := by decide +kernel
theorem dX14_partOf_2 : decode cX14_partOf 2 = .ok (.aload_n 0, 1) := by decide +kernel
theorem dX14_partOf_3 : decode cX14_partOf 3 = .ok (.getfield 106, 3) := by decide +kernel
theorem dX14_partOf_6 : decode cX14_partOf 6 = .ok (.bipush 48, 2) := by decide +kernel
theorem dX14_partOf_8 : decode cX14_partOf 8 = .ok (.iload_n 2, 1) := by decide +kernel
theorem dX14_partOf_9 : decode cX14_partOf 9 = .ok (.imul, 1) := by decide +kernel
theorem dX14_partOf_10 : decode cX14_partOf 10 = .ok (.iload_n 3, 1) := by decide +kernel
theorem dX14_partOf_11 : decode cX14_partOf 11 = .ok (.iadd, 1) := by decide +kernel
theorem dX14_partOf_12 : decode cX14_partOf 12 = .ok (.iaload, 1) := by decide +kernel
theorem dX14_partOf_13 : decode cX14_partOf 13 = .ok (.isub, 1) := by decide +kernel
theorem dX14_partOf_14 : decode cX14_partOf 14 = .ok (.istore 4, 2) := by decide +kernel
theorem dX14_partOf_16 : decode cX14_partOf 16 = .ok (.iload 4, 2) := by decide +kernel
theorem dX14_partOf_18 : decode cX14_partOf 18 = .ok (.ifCond .gt 7, 3) := by decide +kernel
theorem dX14_partOf_21 : decode cX14_partOf 21 = .ok (.iconst 0, 1) := by decide +kernel
theorem dX14_partOf_22 : decode cX14_partOf 22 = .ok (.goto 10, 3) := by decide +kernel
theorem dX14_partOf_25 : decode cX14_partOf 25 = .ok (.iload_n 1, 1) := by decide +kernel
theorem dX14_partOf_26 : decode cX14_partOf 26 = .ok (.iload 4, 2) := by decide +kernel
theorem dX14_partOf_28 : decode cX14_partOf 28 = .ok (.imul, 1) := by decide +kernel
theorem dX14_partOf_29 : decode cX14_partOf 29 = .ok (.bipush 100, 2) := by decide +kernel
theorem dX14_partOf_31 : decode cX14_partOf 31 = .ok (.idiv, 1) := by decide +kernel
theorem dX14_partOf_32 : decode cX14_partOf 32 = .ok (.ireturn, 1) := by decide +kernel
theorem dX14_riseAt_0 : decode cX14_riseAt 0 = .ok (.iload_n 2, 1) := by decide +kernel
theorem dX14_riseAt_1 : decode cX14_riseAt 1 = .ok (.ifCond .lt 13, 3) := by decide +kernel
theorem dX14_riseAt_4 : decode cX14_riseAt 4 = .ok (.iload_n 2, 1) := by decide +kernel
theorem dX14_riseAt_5 : decode cX14_riseAt 5 = .ok (.aload_n 0, 1) := by decide +kernel
theorem dX14_riseAt_6 : decode cX14_riseAt 6 = .ok (.getfield 42, 3) := by decide +kernel
theorem dX14_riseAt_9 : decode cX14_riseAt 9 = .ok (.iload_n 1, 1) := by decide +kernel
theorem dX14_riseAt_10 : decode cX14_riseAt 10 = .ok (.iaload, 1) := by decide +kernel
theorem dX14_riseAt_11 : decode cX14_riseAt 11 = .ok (.if_icmp .lt 7, 3) := by decide +kernel
theorem dX14_riseAt_14 : decode cX14_riseAt 14 = .ok (.iconst 0, 1) := by decide +kernel
theorem dX14_riseAt_15 : decode cX14_riseAt 15 = .ok (.goto 14, 3) := by decide +kernel
theorem dX14_riseAt_18 : decode cX14_riseAt 18 = .ok (.aload_n 0, 1) := by decide +kernel
theorem dX14_riseAt_19 : decode cX14_riseAt 19 = .ok (.getfield 48, 3) := by decide +kernel
theorem dX14_riseAt_22 : decode cX14_riseAt 22 = .ok (.bipush 6, 2) := by decide +kernel
theorem dX14_riseAt_24 : decode cX14_riseAt 24 = .ok (.iload_n 1, 1) := by decide +kernel
theorem dX14_riseAt_25 : decode cX14_riseAt 25 = .ok (.imul, 1) := by decide +kernel
theorem dX14_riseAt_26 : decode cX14_riseAt 26 = .ok (.iload_n 2, 1) := by decide +kernel
theorem dX14_riseAt_27 : decode cX14_riseAt 27 = .ok (.iadd, 1) := by decide +kernel
theorem dX14_riseAt_28 : decode cX14_riseAt 28 = .ok (.iaload, 1) := by decide +kernel
theorem dX14_riseAt_29 : decode cX14_riseAt 29 = .ok (.ireturn, 1) := by decide +kernel
theorem dX14_gives_0 : decode cX14_gives 0 = .ok (.iconst 0, 1) := by decide +kernel
theorem dX14_gives_1 : decode cX14_gives 1 = .ok (.istore 5, 2) := by decide +kernel
theorem dX14_gives_3 : decode cX14_gives 3 = .ok (.aload_n 0, 1) := by decide +kernel
theorem dX14_gives_4 : decode cX14_gives 4 = .ok (.getfield 103, 3) := by decide +kernel
theorem dX14_gives_7 : decode cX14_gives 7 = .ok (.bipush 48, 2) := by decide +kernel
theorem dX14_gives_9 : decode cX14_gives 9 = .ok (.iload_n 2, 1) := by decide +kernel
theorem dX14_gives_10 : decode cX14_gives 10 = .ok (.imul, 1) := by decide +kernel
theorem dX14_gives_11 : decode cX14_gives 11 = .ok (.iload_n 3, 1) := by decide +kernel
theorem dX14_gives_12 : decode cX14_gives 12 = .ok (.iadd, 1) := by decide +kernel
theorem dX14_gives_13 : decode cX14_gives 13 = .ok (.iaload, 1) := by decide +kernel
theorem dX14_gives_14 : decode cX14_gives 14 = .ok (.sipush 999, 3) := by decide +kernel
theorem dX14_gives_17 : decode cX14_gives 17 = .ok (.if_icmp .ge 30, 3) := by decide +kernel
theorem dX14_gives_20 : decode cX14_gives 20 = .ok (.aload_n 0, 1) := by decide +kernel
theorem dX14_gives_21 : decode cX14_gives 21 = .ok (.aload_n 0, 1) := by decide +kernel
theorem dX14_gives_22 : decode cX14_gives 22 = .ok (.iload_n 1, 1) := by decide +kernel
theorem dX14_gives_23 : decode cX14_gives 23 = .ok (.iload 4, 2) := by decide +kernel
theorem dX14_gives_25 : decode cX14_gives 25 = .ok (.aload_n 0, 1) := by decide +kernel
theorem dX14_gives_26 : decode cX14_gives 26 = .ok (.getfield 103, 3) := by decide +kernel
theorem dX14_gives_29 : decode cX14_gives 29 = .ok (.bipush 48, 2) := by decide +kernel
theorem dX14_gives_31 : decode cX14_gives 31 = .ok (.iload_n 2, 1) := by decide +kernel
theorem dX14_gives_32 : decode cX14_gives 32 = .ok (.imul, 1) := by decide +kernel
theorem dX14_gives_33 : decode cX14_gives 33 = .ok (.iload_n 3, 1) := by decide +kernel
theorem dX14_gives_34 : decode cX14_gives 34 = .ok (.iadd, 1) := by decide +kernel
theorem dX14_gives_35 : decode cX14_gives 35 = .ok (.iaload, 1) := by decide +kernel
theorem dX14_gives_36 : decode cX14_gives 36 = .ok (.isub, 1) := by decide +kernel
theorem dX14_gives_37 : decode cX14_gives 37 = .ok (.invokevirtual 451, 3) := by decide +kernel
theorem dX14_gives_40 : decode cX14_gives 40 = .ok (.iload_n 2, 1) := by decide +kernel
theorem dX14_gives_41 : decode cX14_gives 41 = .ok (.iload_n 3, 1) := by decide +kernel
theorem dX14_gives_42 : decode cX14_gives 42 = .ok (.invokevirtual 454, 3) := by decide +kernel
theorem dX14_gives_45 : decode cX14_gives 45 = .ok (.istore 5, 2) := by decide +kernel
theorem dX14_gives_47 : decode cX14_gives 47 = .ok (.iconst 0, 1) := by decide +kernel
theorem dX14_gives_48 : decode cX14_gives 48 = .ok (.istore 6, 2) := by decide +kernel
theorem dX14_gives_50 : decode cX14_gives 50 = .ok (.iload 6, 2) := by decide +kernel
theorem dX14_gives_52 : decode cX14_gives 52 = .ok (.aload_n 0, 1) := by decide +kernel
theorem dX14_gives_53 : decode cX14_gives 53 = .ok (.getfield 448, 3) := by decide +kernel
theorem dX14_gives_56 : decode cX14_gives 56 = .ok (.if_icmp .ge 121, 3) := by decide +kernel
theorem dX14_gives_59 : decode cX14_gives 59 = .ok (.aload_n 0, 1) := by decide +kernel
theorem dX14_gives_60 : decode cX14_gives 60 = .ok (.getfield 109, 3) := by decide +kernel
theorem dX14_gives_63 : decode cX14_gives 63 = .ok (.iload 6, 2) := by decide +kernel
theorem dX14_gives_65 : decode cX14_gives 65 = .ok (.iaload, 1) := by decide +kernel
theorem dX14_gives_66 : decode cX14_gives 66 = .ok (.istore 7, 2) := by decide +kernel
theorem dX14_gives_68 : decode cX14_gives 68 = .ok (.aload_n 0, 1) := by decide +kernel
theorem dX14_gives_69 : decode cX14_gives 69 = .ok (.getfield 103, 3) := by decide +kernel
theorem dX14_gives_72 : decode cX14_gives 72 = .ok (.bipush 48, 2) := by decide +kernel
theorem dX14_gives_74 : decode cX14_gives 74 = .ok (.iload_n 2, 1) := by decide +kernel
theorem dX14_gives_75 : decode cX14_gives 75 = .ok (.imul, 1) := by decide +kernel
theorem dX14_gives_76 : decode cX14_gives 76 = .ok (.iload 7, 2) := by decide +kernel
theorem dX14_gives_78 : decode cX14_gives 78 = .ok (.iadd, 1) := by decide +kernel
theorem dX14_gives_79 : decode cX14_gives 79 = .ok (.iaload, 1) := by decide +kernel
theorem dX14_gives_80 : decode cX14_gives 80 = .ok (.sipush 999, 3) := by decide +kernel
theorem dX14_gives_83 : decode cX14_gives 83 = .ok (.if_icmp .eq 88, 3) := by decide +kernel
theorem dX14_gives_86 : decode cX14_gives 86 = .ok (.aload_n 0, 1) := by decide +kernel
theorem dX14_gives_87 : decode cX14_gives 87 = .ok (.getfield 103, 3) := by decide +kernel
theorem dX14_gives_90 : decode cX14_gives 90 = .ok (.bipush 48, 2) := by decide +kernel
theorem dX14_gives_92 : decode cX14_gives 92 = .ok (.iload 7, 2) := by decide +kernel
theorem dX14_gives_94 : decode cX14_gives 94 = .ok (.imul, 1) := by decide +kernel
theorem dX14_gives_95 : decode cX14_gives 95 = .ok (.iload_n 3, 1) := by decide +kernel
theorem dX14_gives_96 : decode cX14_gives 96 = .ok (.iadd, 1) := by decide +kernel
theorem dX14_gives_97 : decode cX14_gives 97 = .ok (.iaload, 1) := by decide +kernel
theorem dX14_gives_98 : decode cX14_gives 98 = .ok (.sipush 999, 3) := by decide +kernel
theorem dX14_gives_101 : decode cX14_gives 101 = .ok (.if_icmp .ne 6, 3) := by decide +kernel
theorem dX14_gives_104 : decode cX14_gives 104 = .ok (.goto 67, 3) := by decide +kernel
theorem dX14_gives_107 : decode cX14_gives 107 = .ok (.aload_n 0, 1) := by decide +kernel
theorem dX14_gives_108 : decode cX14_gives 108 = .ok (.iload_n 1, 1) := by decide +kernel
theorem dX14_gives_109 : decode cX14_gives 109 = .ok (.iload 4, 2) := by decide +kernel
theorem dX14_gives_111 : decode cX14_gives 111 = .ok (.aload_n 0, 1) := by decide +kernel
theorem dX14_gives_112 : decode cX14_gives 112 = .ok (.getfield 103, 3) := by decide +kernel
theorem dX14_gives_115 : decode cX14_gives 115 = .ok (.bipush 48, 2) := by decide +kernel
theorem dX14_gives_117 : decode cX14_gives 117 = .ok (.iload_n 2, 1) := by decide +kernel
theorem dX14_gives_118 : decode cX14_gives 118 = .ok (.imul, 1) := by decide +kernel
theorem dX14_gives_119 : decode cX14_gives 119 = .ok (.iload 7, 2) := by decide +kernel
theorem dX14_gives_121 : decode cX14_gives 121 = .ok (.iadd, 1) := by decide +kernel
theorem dX14_gives_122 : decode cX14_gives 122 = .ok (.iaload, 1) := by decide +kernel
theorem dX14_gives_123 : decode cX14_gives 123 = .ok (.isub, 1) := by decide +kernel
theorem dX14_gives_124 : decode cX14_gives 124 = .ok (.aload_n 0, 1) := by decide +kernel
theorem dX14_gives_125 : decode cX14_gives 125 = .ok (.getfield 103, 3) := by decide +kernel
theorem dX14_gives_128 : decode cX14_gives 128 = .ok (.bipush 48, 2) := by decide +kernel
theorem dX14_gives_130 : decode cX14_gives 130 = .ok (.iload 7, 2) := by decide +kernel
theorem dX14_gives_132 : decode cX14_gives 132 = .ok (.imul, 1) := by decide +kernel
theorem dX14_gives_133 : decode cX14_gives 133 = .ok (.iload_n 3, 1) := by decide +kernel
theorem dX14_gives_134 : decode cX14_gives 134 = .ok (.iadd, 1) := by decide +kernel
theorem dX14_gives_135 : decode cX14_gives 135 = .ok (.iaload, 1) := by decide +kernel
theorem dX14_gives_136 : decode cX14_gives 136 = .ok (.isub, 1) := by decide +kernel
theorem dX14_gives_137 : decode cX14_gives 137 = .ok (.invokevirtual 451, 3) := by decide +kernel
theorem dX14_gives_140 : decode cX14_gives 140 = .ok (.istore 8, 2) := by decide +kernel
theorem dX14_gives_142 : decode cX14_gives 142 = .ok (.iload 5, 2) := by decide +kernel
theorem dX14_gives_144 : decode cX14_gives 144 = .ok (.aload_n 0, 1) := by decide +kernel
theorem dX14_gives_145 : decode cX14_gives 145 = .ok (.aload_n 0, 1) := by decide +kernel
theorem dX14_gives_146 : decode cX14_gives 146 = .ok (.iload 8, 2) := by decide +kernel
theorem dX14_gives_148 : decode cX14_gives 148 = .ok (.iload_n 2, 1) := by decide +kernel
theorem dX14_gives_149 : decode cX14_gives 149 = .ok (.iload 7, 2) := by decide +kernel
theorem dX14_gives_151 : decode cX14_gives 151 = .ok (.invokevirtual 454, 3) := by decide +kernel
theorem dX14_gives_154 : decode cX14_gives 154 = .ok (.aload_n 0, 1) := by decide +kernel
theorem dX14_gives_155 : decode cX14_gives 155 = .ok (.getfield 288, 3) := by decide +kernel
theorem dX14_gives_158 : decode cX14_gives 158 = .ok (.imul, 1) := by decide +kernel
theorem dX14_gives_159 : decode cX14_gives 159 = .ok (.bipush 100, 2) := by decide +kernel
theorem dX14_gives_161 : decode cX14_gives 161 = .ok (.idiv, 1) := by decide +kernel
theorem dX14_gives_162 : decode cX14_gives 162 = .ok (.iload 7, 2) := by decide +kernel
theorem dX14_gives_164 : decode cX14_gives 164 = .ok (.iload_n 3, 1) := by decide +kernel
theorem dX14_gives_165 : decode cX14_gives 165 = .ok (.invokevirtual 454, 3) := by decide +kernel
theorem dX14_gives_168 : decode cX14_gives 168 = .ok (.iadd, 1) := by decide +kernel
theorem dX14_gives_169 : decode cX14_gives 169 = .ok (.istore 5, 2) := by decide +kernel
theorem dX14_gives_171 : decode cX14_gives 171 = .ok (.iinc 6 1, 3) := by decide +kernel
theorem dX14_gives_174 : decode cX14_gives 174 = .ok (.goto (-124), 3) := by decide +kernel
theorem dX14_gives_177 : decode cX14_gives 177 = .ok (.iload 5, 2) := by decide +kernel
theorem dX14_gives_179 : decode cX14_gives 179 = .ok (.ireturn, 1) := by decide +kernel
theorem dX14_layShown_0 : decode cX14_layShown 0 = .ok (.iconst 0, 1) := by decide +kernel
theorem dX14_layShown_1 : decode cX14_layShown 1 = .ok (.istore_n 2, 1) := by decide +kernel
theorem dX14_layShown_2 : decode cX14_layShown 2 = .ok (.iload_n 2, 1) := by decide +kernel
theorem dX14_layShown_3 : decode cX14_layShown 3 = .ok (.aload_n 0, 1) := by decide +kernel
theorem dX14_layShown_4 : decode cX14_layShown 4 = .ok (.getfield 264, 3) := by decide +kernel
theorem dX14_layShown_7 : decode cX14_layShown 7 = .ok (.if_icmp .ge 62, 3) := by decide +kernel
theorem dX14_layShown_10 : decode cX14_layShown 10 = .ok (.iconst 0, 1) := by decide +kernel
theorem dX14_layShown_11 : decode cX14_layShown 11 = .ok (.istore_n 3, 1) := by decide +kernel
theorem dX14_layShown_12 : decode cX14_layShown 12 = .ok (.iload_n 3, 1) := by decide +kernel
theorem dX14_layShown_13 : decode cX14_layShown 13 = .ok (.bipush 31, 2) := by decide +kernel
theorem dX14_layShown_15 : decode cX14_layShown 15 = .ok (.if_icmp .ge 48, 3) := by decide +kernel
theorem dX14_layShown_18 : decode cX14_layShown 18 = .ok (.aload_n 0, 1) := by decide +kernel
theorem dX14_layShown_19 : decode cX14_layShown 19 = .ok (.getfield 127, 3) := by decide +kernel
theorem dX14_layShown_22 : decode cX14_layShown 22 = .ok (.bipush 6, 2) := by decide +kernel
theorem dX14_layShown_24 : decode cX14_layShown 24 = .ok (.iload_n 1, 1) := by decide +kernel
theorem dX14_layShown_25 : decode cX14_layShown 25 = .ok (.imul, 1) := by decide +kernel
theorem dX14_layShown_26 : decode cX14_layShown 26 = .ok (.iload_n 2, 1) := by decide +kernel
theorem dX14_layShown_27 : decode cX14_layShown 27 = .ok (.iadd, 1) := by decide +kernel
theorem dX14_layShown_28 : decode cX14_layShown 28 = .ok (.bipush 31, 2) := by decide +kernel
theorem dX14_layShown_30 : decode cX14_layShown 30 = .ok (.imul, 1) := by decide +kernel
theorem dX14_layShown_31 : decode cX14_layShown 31 = .ok (.iload_n 3, 1) := by decide +kernel
theorem dX14_layShown_32 : decode cX14_layShown 32 = .ok (.iadd, 1) := by decide +kernel
theorem dX14_layShown_33 : decode cX14_layShown 33 = .ok (.aload_n 0, 1) := by decide +kernel
theorem dX14_layShown_34 : decode cX14_layShown 34 = .ok (.aload_n 0, 1) := by decide +kernel
theorem dX14_layShown_35 : decode cX14_layShown 35 = .ok (.getfield 130, 3) := by decide +kernel
theorem dX14_layShown_38 : decode cX14_layShown 38 = .ok (.iload_n 1, 1) := by decide +kernel
theorem dX14_layShown_39 : decode cX14_layShown 39 = .ok (.iaload, 1) := by decide +kernel
theorem dX14_layShown_40 : decode cX14_layShown 40 = .ok (.aload_n 0, 1) := by decide +kernel
theorem dX14_layShown_41 : decode cX14_layShown 41 = .ok (.getfield 133, 3) := by decide +kernel
theorem dX14_layShown_44 : decode cX14_layShown 44 = .ok (.iload_n 1, 1) := by decide +kernel
theorem dX14_layShown_45 : decode cX14_layShown 45 = .ok (.iaload, 1) := by decide +kernel
theorem dX14_layShown_46 : decode cX14_layShown 46 = .ok (.aload_n 0, 1) := by decide +kernel
theorem dX14_layShown_47 : decode cX14_layShown 47 = .ok (.getfield 54, 3) := by decide +kernel
theorem dX14_layShown_50 : decode cX14_layShown 50 = .ok (.iload_n 2, 1) := by decide +kernel
theorem dX14_layShown_51 : decode cX14_layShown 51 = .ok (.iaload, 1) := by decide +kernel
theorem dX14_layShown_52 : decode cX14_layShown 52 = .ok (.iload_n 3, 1) := by decide +kernel
theorem dX14_layShown_53 : decode cX14_layShown 53 = .ok (.invokevirtual 464, 3) := by decide +kernel
theorem dX14_layShown_56 : decode cX14_layShown 56 = .ok (.iastore, 1) := by decide +kernel
theorem dX14_layShown_57 : decode cX14_layShown 57 = .ok (.iinc 3 1, 3) := by decide +kernel
theorem dX14_layShown_60 : decode cX14_layShown 60 = .ok (.goto (-48), 3) := by decide +kernel
theorem dX14_layShown_63 : decode cX14_layShown 63 = .ok (.iinc 2 1, 3) := by decide +kernel
theorem dX14_layShown_66 : decode cX14_layShown 66 = .ok (.goto (-64), 3) := by decide +kernel
theorem dX14_layShown_69 : decode cX14_layShown 69 = .ok (.return_, 1) := by decide +kernel
theorem dX14_layFalls_0 : decode cX14_layFalls 0 = .ok (.iload_n 1, 1) := by decide +kernel
theorem dX14_layFalls_1 : decode cX14_layFalls 1 = .ok (.iconst 1, 1) := by decide +kernel
theorem dX14_layFalls_2 : decode cX14_layFalls 2 = .ok (.if_icmp .lt 22, 3) := by decide +kernel
theorem dX14_layFalls_5 : decode cX14_layFalls 5 = .ok (.iload_n 1, 1) := by decide +kernel
theorem dX14_layFalls_6 : decode cX14_layFalls 6 = .ok (.aload_n 0, 1) := by decide +kernel
theorem dX14_layFalls_7 : decode cX14_layFalls 7 = .ok (.getfield 261, 3) := by decide +kernel
theorem dX14_layFalls_10 : decode cX14_layFalls 10 = .ok (.ishr, 1) := by decide +kernel
theorem dX14_layFalls_11 : decode cX14_layFalls 11 = .ok (.ifCond .ne 13, 3) := by decide +kernel
theorem dX14_layFalls_14 : decode cX14_layFalls 14 = .ok (.iload_n 2, 1) := by decide +kernel
theorem dX14_layFalls_15 : decode cX14_layFalls 15 = .ok (.iconst 1, 1) := by decide +kernel
theorem dX14_layFalls_16 : decode cX14_layFalls 16 = .ok (.bipush 6, 2) := by decide +kernel
theorem dX14_layFalls_18 : decode cX14_layFalls 18 = .ok (.invokestatic 192, 3) := by decide +kernel
theorem dX14_layFalls_21 : decode cX14_layFalls 21 = .ok (.ifCond .ne 5, 3) := by decide +kernel
theorem dX14_layFalls_24 : decode cX14_layFalls 24 = .ok (.iconst 0, 1) := by decide +kernel
theorem dX14_layFalls_25 : decode cX14_layFalls 25 = .ok (.ireturn, 1) := by decide +kernel
theorem dX14_layFalls_26 : decode cX14_layFalls 26 = .ok (.aload_n 0, 1) := by decide +kernel
theorem dX14_layFalls_27 : decode cX14_layFalls 27 = .ok (.iconst 0, 1) := by decide +kernel
theorem dX14_layFalls_28 : decode cX14_layFalls 28 = .ok (.putfield 530, 3) := by decide +kernel
theorem dX14_layFalls_31 : decode cX14_layFalls 31 = .ok (.iconst 0, 1) := by decide +kernel
theorem dX14_layFalls_32 : decode cX14_layFalls 32 = .ok (.istore 5, 2) := by decide +kernel
theorem dX14_layFalls_34 : decode cX14_layFalls 34 = .ok (.iload 5, 2) := by decide +kernel
theorem dX14_layFalls_36 : decode cX14_layFalls 36 = .ok (.iload_n 2, 1) := by decide +kernel
theorem dX14_layFalls_37 : decode cX14_layFalls 37 = .ok (.if_icmp .ge 139, 3) := by decide +kernel
theorem dX14_layFalls_40 : decode cX14_layFalls 40 = .ok (.lload_n 3, 1) := by decide +kernel
theorem dX14_layFalls_41 : decode cX14_layFalls 41 = .ok (.bipush 8, 2) := by decide +kernel
theorem dX14_layFalls_43 : decode cX14_layFalls 43 = .ok (.iload 5, 2) := by decide +kernel
theorem dX14_layFalls_45 : decode cX14_layFalls 45 = .ok (.imul, 1) := by decide +kernel
theorem dX14_layFalls_46 : decode cX14_layFalls 46 = .ok (.lshr, 1) := by decide +kernel
theorem dX14_layFalls_47 : decode cX14_layFalls 47 = .ok (.ldc2_w 536, 3) := by decide +kernel
theorem dX14_layFalls_50 : decode cX14_layFalls 50 = .ok (.land, 1) := by decide +kernel
theorem dX14_layFalls_51 : decode cX14_layFalls 51 = .ok (.l2i, 1) := by decide +kernel
theorem dX14_layFalls_52 : decode cX14_layFalls 52 = .ok (.istore 6, 2) := by decide +kernel
theorem dX14_layFalls_54 : decode cX14_layFalls 54 = .ok (.aload_n 0, 1) := by decide +kernel
theorem dX14_layFalls_55 : decode cX14_layFalls 55 = .ok (.iload 6, 2) := by decide +kernel
theorem dX14_layFalls_57 : decode cX14_layFalls 57 = .ok (.invokevirtual 432, 3) := by decide +kernel
theorem dX14_layFalls_60 : decode cX14_layFalls 60 = .ok (.ifCond .ne 5, 3) := by decide +kernel
theorem dX14_layFalls_63 : decode cX14_layFalls 63 = .ok (.iconst 0, 1) := by decide +kernel
theorem dX14_layFalls_64 : decode cX14_layFalls 64 = .ok (.ireturn, 1) := by decide +kernel
theorem dX14_layFalls_65 : decode cX14_layFalls 65 = .ok (.iconst 0, 1) := by decide +kernel
theorem dX14_layFalls_66 : decode cX14_layFalls 66 = .ok (.istore 7, 2) := by decide +kernel
theorem dX14_layFalls_68 : decode cX14_layFalls 68 = .ok (.iload 7, 2) := by decide +kernel
theorem dX14_layFalls_70 : decode cX14_layFalls 70 = .ok (.iload 5, 2) := by decide +kernel
theorem dX14_layFalls_72 : decode cX14_layFalls 72 = .ok (.if_icmp .ge 28, 3) := by decide +kernel
theorem dX14_layFalls_75 : decode cX14_layFalls 75 = .ok (.lload_n 3, 1) := by decide +kernel
theorem dX14_layFalls_76 : decode cX14_layFalls 76 = .ok (.bipush 8, 2) := by decide +kernel
theorem dX14_layFalls_78 : decode cX14_layFalls 78 = .ok (.iload 7, 2) := by decide +kernel
theorem dX14_layFalls_80 : decode cX14_layFalls 80 = .ok (.imul, 1) := by decide +kernel
theorem dX14_layFalls_81 : decode cX14_layFalls 81 = .ok (.lshr, 1) := by decide +kernel
theorem dX14_layFalls_82 : decode cX14_layFalls 82 = .ok (.ldc2_w 536, 3) := by decide +kernel
theorem dX14_layFalls_85 : decode cX14_layFalls 85 = .ok (.land, 1) := by decide +kernel
theorem dX14_layFalls_86 : decode cX14_layFalls 86 = .ok (.l2i, 1) := by decide +kernel
theorem dX14_layFalls_87 : decode cX14_layFalls 87 = .ok (.iload 6, 2) := by decide +kernel
theorem dX14_layFalls_89 : decode cX14_layFalls 89 = .ok (.if_icmp .ne 5, 3) := by decide +kernel
theorem dX14_layFalls_92 : decode cX14_layFalls 92 = .ok (.iconst 0, 1) := by decide +kernel
theorem dX14_layFalls_93 : decode cX14_layFalls 93 = .ok (.ireturn, 1) := by decide +kernel
theorem dX14_layFalls_94 : decode cX14_layFalls 94 = .ok (.iinc 7 1, 3) := by decide +kernel
theorem dX14_layFalls_97 : decode cX14_layFalls 97 = .ok (.goto (-29), 3) := by decide +kernel
theorem dX14_layFalls_100 : decode cX14_layFalls 100 = .ok (.iconst 0, 1) := by decide +kernel
theorem dX14_layFalls_101 : decode cX14_layFalls 101 = .ok (.istore 7, 2) := by decide +kernel
theorem dX14_layFalls_103 : decode cX14_layFalls 103 = .ok (.iload 7, 2) := by decide +kernel
theorem dX14_layFalls_105 : decode cX14_layFalls 105 = .ok (.aload_n 0, 1) := by decide +kernel
theorem dX14_layFalls_106 : decode cX14_layFalls 106 = .ok (.getfield 261, 3) := by decide +kernel
theorem dX14_layFalls_109 : decode cX14_layFalls 109 = .ok (.if_icmp .ge 61, 3) := by decide +kernel
theorem dX14_layFalls_112 : decode cX14_layFalls 112 = .ok (.iload_n 1, 1) := by decide +kernel
theorem dX14_layFalls_113 : decode cX14_layFalls 113 = .ok (.iload 7, 2) := by decide +kernel
theorem dX14_layFalls_115 : decode cX14_layFalls 115 = .ok (.invokestatic 538, 3) := by decide +kernel
theorem dX14_layFalls_118 : decode cX14_layFalls 118 = .ok (.ifCond .ne 6, 3) := by decide +kernel
theorem dX14_layFalls_121 : decode cX14_layFalls 121 = .ok (.goto 43, 3) := by decide +kernel
theorem dX14_layFalls_124 : decode cX14_layFalls 124 = .ok (.aload_n 0, 1) := by decide +kernel
theorem dX14_layFalls_125 : decode cX14_layFalls 125 = .ok (.getfield 130, 3) := by decide +kernel
theorem dX14_layFalls_128 : decode cX14_layFalls 128 = .ok (.aload_n 0, 1) := by decide +kernel
theorem dX14_layFalls_129 : decode cX14_layFalls 129 = .ok (.getfield 530, 3) := by decide +kernel
theorem dX14_layFalls_132 : decode cX14_layFalls 132 = .ok (.iload 7, 2) := by decide +kernel
theorem dX14_layFalls_134 : decode cX14_layFalls 134 = .ok (.iastore, 1) := by decide +kernel
theorem dX14_layFalls_135 : decode cX14_layFalls 135 = .ok (.aload_n 0, 1) := by decide +kernel
theorem dX14_layFalls_136 : decode cX14_layFalls 136 = .ok (.getfield 133, 3) := by decide +kernel
theorem dX14_layFalls_139 : decode cX14_layFalls 139 = .ok (.aload_n 0, 1) := by decide +kernel
theorem dX14_layFalls_140 : decode cX14_layFalls 140 = .ok (.getfield 530, 3) := by decide +kernel
theorem dX14_layFalls_143 : decode cX14_layFalls 143 = .ok (.iload 6, 2) := by decide +kernel
theorem dX14_layFalls_145 : decode cX14_layFalls 145 = .ok (.iastore, 1) := by decide +kernel
theorem dX14_layFalls_146 : decode cX14_layFalls 146 = .ok (.aload_n 0, 1) := by decide +kernel
theorem dX14_layFalls_147 : decode cX14_layFalls 147 = .ok (.aload_n 0, 1) := by decide +kernel
theorem dX14_layFalls_148 : decode cX14_layFalls 148 = .ok (.getfield 530, 3) := by decide +kernel
theorem dX14_layFalls_151 : decode cX14_layFalls 151 = .ok (.invokevirtual 541, 3) := by decide +kernel
theorem dX14_layFalls_154 : decode cX14_layFalls 154 = .ok (.aload_n 0, 1) := by decide +kernel
theorem dX14_layFalls_155 : decode cX14_layFalls 155 = .ok (.dup, 1) := by decide +kernel
theorem dX14_layFalls_156 : decode cX14_layFalls 156 = .ok (.getfield 530, 3) := by decide +kernel
theorem dX14_layFalls_159 : decode cX14_layFalls 159 = .ok (.iconst 1, 1) := by decide +kernel
theorem dX14_layFalls_160 : decode cX14_layFalls 160 = .ok (.iadd, 1) := by decide +kernel
theorem dX14_layFalls_161 : decode cX14_layFalls 161 = .ok (.putfield 530, 3) := by decide +kernel
theorem dX14_layFalls_164 : decode cX14_layFalls 164 = .ok (.iinc 7 1, 3) := by decide +kernel
theorem dX14_layFalls_167 : decode cX14_layFalls 167 = .ok (.goto (-64), 3) := by decide +kernel
theorem dX14_layFalls_170 : decode cX14_layFalls 170 = .ok (.iinc 5 1, 3) := by decide +kernel
theorem dX14_layFalls_173 : decode cX14_layFalls 173 = .ok (.goto (-139), 3) := by decide +kernel
theorem dX14_layFalls_176 : decode cX14_layFalls 176 = .ok (.iconst 1, 1) := by decide +kernel
theorem dX14_layFalls_177 : decode cX14_layFalls 177 = .ok (.ireturn, 1) := by decide +kernel
theorem dX14_manyOf_0 : decode cX14_manyOf 0 = .ok (.iconst 0, 1) := by decide +kernel
theorem dX14_manyOf_1 : decode cX14_manyOf 1 = .ok (.istore_n 1, 1) := by decide +kernel
theorem dX14_manyOf_2 : decode cX14_manyOf 2 = .ok (.iconst 0, 1) := by decide +kernel
theorem dX14_manyOf_3 : decode cX14_manyOf 3 = .ok (.istore_n 2, 1) := by decide +kernel
theorem dX14_manyOf_4 : decode cX14_manyOf 4 = .ok (.iload_n 2, 1) := by decide +kernel
theorem dX14_manyOf_5 : decode cX14_manyOf 5 = .ok (.bipush 8, 2) := by decide +kernel
theorem dX14_manyOf_7 : decode cX14_manyOf 7 = .ok (.if_icmp .ge 17, 3) := by decide +kernel
theorem dX14_manyOf_10 : decode cX14_manyOf 10 = .ok (.iload_n 1, 1) := by decide +kernel
theorem dX14_manyOf_11 : decode cX14_manyOf 11 = .ok (.iload_n 0, 1) := by decide +kernel
theorem dX14_manyOf_12 : decode cX14_manyOf 12 = .ok (.iload_n 2, 1) := by decide +kernel
theorem dX14_manyOf_13 : decode cX14_manyOf 13 = .ok (.ishr, 1) := by decide +kernel
theorem dX14_manyOf_14 : decode cX14_manyOf 14 = .ok (.iconst 1, 1) := by decide +kernel
theorem dX14_manyOf_15 : decode cX14_manyOf 15 = .ok (.iand, 1) := by decide +kernel
theorem dX14_manyOf_16 : decode cX14_manyOf 16 = .ok (.iadd, 1) := by decide +kernel
theorem dX14_manyOf_17 : decode cX14_manyOf 17 = .ok (.istore_n 1, 1) := by decide +kernel
theorem dX14_manyOf_18 : decode cX14_manyOf 18 = .ok (.iinc 2 1, 3) := by decide +kernel
theorem dX14_manyOf_21 : decode cX14_manyOf 21 = .ok (.goto (-17), 3) := by decide +kernel
theorem dX14_manyOf_24 : decode cX14_manyOf 24 = .ok (.iload_n 1, 1) := by decide +kernel
theorem dX14_manyOf_25 : decode cX14_manyOf 25 = .ok (.ireturn, 1) := by decide +kernel
theorem dX14_unlike_0 : decode cX14_unlike 0 = .ok (.iconst 0, 1) := by decide +kernel
theorem dX14_unlike_1 : decode cX14_unlike 1 = .ok (.istore_n 3, 1) := by decide +kernel
theorem dX14_unlike_2 : decode cX14_unlike 2 = .ok (.iconst 0, 1) := by decide +kernel
theorem dX14_unlike_3 : decode cX14_unlike 3 = .ok (.istore 4, 2) := by decide +kernel
theorem dX14_unlike_5 : decode cX14_unlike 5 = .ok (.iload 4, 2) := by decide +kernel
theorem dX14_unlike_7 : decode cX14_unlike 7 = .ok (.aload_n 0, 1) := by decide +kernel
theorem dX14_unlike_8 : decode cX14_unlike 8 = .ok (.getfield 264, 3) := by decide +kernel
theorem dX14_unlike_11 : decode cX14_unlike 11 = .ok (.if_icmp .ge 75, 3) := by decide +kernel
theorem dX14_unlike_14 : decode cX14_unlike 14 = .ok (.iconst 0, 1) := by decide +kernel
theorem dX14_unlike_15 : decode cX14_unlike 15 = .ok (.istore 5, 2) := by decide +kernel
theorem dX14_unlike_17 : decode cX14_unlike 17 = .ok (.iload 5, 2) := by decide +kernel
theorem dX14_unlike_19 : decode cX14_unlike 19 = .ok (.bipush 31, 2) := by decide +kernel
theorem dX14_unlike_21 : decode cX14_unlike 21 = .ok (.if_icmp .ge 59, 3) := by decide +kernel
theorem dX14_unlike_24 : decode cX14_unlike 24 = .ok (.iload_n 3, 1) := by decide +kernel
theorem dX14_unlike_25 : decode cX14_unlike 25 = .ok (.aload_n 0, 1) := by decide +kernel
theorem dX14_unlike_26 : decode cX14_unlike 26 = .ok (.getfield 127, 3) := by decide +kernel
theorem dX14_unlike_29 : decode cX14_unlike 29 = .ok (.bipush 6, 2) := by decide +kernel
theorem dX14_unlike_31 : decode cX14_unlike 31 = .ok (.iload_n 1, 1) := by decide +kernel
theorem dX14_unlike_32 : decode cX14_unlike 32 = .ok (.imul, 1) := by decide +kernel
theorem dX14_unlike_33 : decode cX14_unlike 33 = .ok (.iload 4, 2) := by decide +kernel
theorem dX14_unlike_35 : decode cX14_unlike 35 = .ok (.iadd, 1) := by decide +kernel
theorem dX14_unlike_36 : decode cX14_unlike 36 = .ok (.bipush 31, 2) := by decide +kernel
theorem dX14_unlike_38 : decode cX14_unlike 38 = .ok (.imul, 1) := by decide +kernel
theorem dX14_unlike_39 : decode cX14_unlike 39 = .ok (.iload 5, 2) := by decide +kernel
theorem dX14_unlike_41 : decode cX14_unlike 41 = .ok (.iadd, 1) := by decide +kernel
theorem dX14_unlike_42 : decode cX14_unlike 42 = .ok (.iaload, 1) := by decide +kernel
theorem dX14_unlike_43 : decode cX14_unlike 43 = .ok (.aload_n 0, 1) := by decide +kernel
theorem dX14_unlike_44 : decode cX14_unlike 44 = .ok (.getfield 127, 3) := by decide +kernel
theorem dX14_unlike_47 : decode cX14_unlike 47 = .ok (.bipush 6, 2) := by decide +kernel
theorem dX14_unlike_49 : decode cX14_unlike 49 = .ok (.iload_n 2, 1) := by decide +kernel
theorem dX14_unlike_50 : decode cX14_unlike 50 = .ok (.imul, 1) := by decide +kernel
theorem dX14_unlike_51 : decode cX14_unlike 51 = .ok (.iload 4, 2) := by decide +kernel
theorem dX14_unlike_53 : decode cX14_unlike 53 = .ok (.iadd, 1) := by decide +kernel
theorem dX14_unlike_54 : decode cX14_unlike 54 = .ok (.bipush 31, 2) := by decide +kernel
theorem dX14_unlike_56 : decode cX14_unlike 56 = .ok (.imul, 1) := by decide +kernel
theorem dX14_unlike_57 : decode cX14_unlike 57 = .ok (.iload 5, 2) := by decide +kernel
theorem dX14_unlike_59 : decode cX14_unlike 59 = .ok (.iadd, 1) := by decide +kernel
theorem dX14_unlike_60 : decode cX14_unlike 60 = .ok (.iaload, 1) := by decide +kernel
theorem dX14_unlike_61 : decode cX14_unlike 61 = .ok (.if_icmp .eq 10, 3) := by decide +kernel
theorem dX14_unlike_64 : decode cX14_unlike 64 = .ok (.iconst 1, 1) := by decide +kernel
theorem dX14_unlike_65 : decode cX14_unlike 65 = .ok (.iload 4, 2) := by decide +kernel
theorem dX14_unlike_67 : decode cX14_unlike 67 = .ok (.ishl, 1) := by decide +kernel
theorem dX14_unlike_68 : decode cX14_unlike 68 = .ok (.goto 4, 3) := by decide +kernel
theorem dX14_unlike_71 : decode cX14_unlike 71 = .ok (.iconst 0, 1) := by decide +kernel
theorem dX14_unlike_72 : decode cX14_unlike 72 = .ok (.ior, 1) := by decide +kernel
theorem dX14_unlike_73 : decode cX14_unlike 73 = .ok (.istore_n 3, 1) := by decide +kernel
theorem dX14_unlike_74 : decode cX14_unlike 74 = .ok (.iinc 5 1, 3) := by decide +kernel
theorem dX14_unlike_77 : decode cX14_unlike 77 = .ok (.goto (-60), 3) := by decide +kernel
theorem dX14_unlike_80 : decode cX14_unlike 80 = .ok (.iinc 4 1, 3) := by decide +kernel
theorem dX14_unlike_83 : decode cX14_unlike 83 = .ok (.goto (-78), 3) := by decide +kernel
theorem dX14_unlike_86 : decode cX14_unlike 86 = .ok (.iload_n 3, 1) := by decide +kernel
theorem dX14_unlike_87 : decode cX14_unlike 87 = .ok (.ireturn, 1) := by decide +kernel
theorem dX14_tellsAll_0 : decode cX14_tellsAll 0 = .ok (.iconst 0, 1) := by decide +kernel
theorem dX14_tellsAll_1 : decode cX14_tellsAll 1 = .ok (.istore_n 2, 1) := by decide +kernel
theorem dX14_tellsAll_2 : decode cX14_tellsAll 2 = .ok (.iload_n 2, 1) := by decide +kernel
theorem dX14_tellsAll_3 : decode cX14_tellsAll 3 = .ok (.aload_n 0, 1) := by decide +kernel
theorem dX14_tellsAll_4 : decode cX14_tellsAll 4 = .ok (.getfield 530, 3) := by decide +kernel
theorem dX14_tellsAll_7 : decode cX14_tellsAll 7 = .ok (.if_icmp .ge 35, 3) := by decide +kernel
theorem dX14_tellsAll_10 : decode cX14_tellsAll 10 = .ok (.iconst 0, 1) := by decide +kernel
theorem dX14_tellsAll_11 : decode cX14_tellsAll 11 = .ok (.istore_n 3, 1) := by decide +kernel
theorem dX14_tellsAll_12 : decode cX14_tellsAll 12 = .ok (.iload_n 3, 1) := by decide +kernel
theorem dX14_tellsAll_13 : decode cX14_tellsAll 13 = .ok (.iload_n 2, 1) := by decide +kernel
theorem dX14_tellsAll_14 : decode cX14_tellsAll 14 = .ok (.if_icmp .ge 22, 3) := by decide +kernel
theorem dX14_tellsAll_17 : decode cX14_tellsAll 17 = .ok (.aload_n 0, 1) := by decide +kernel
theorem dX14_tellsAll_18 : decode cX14_tellsAll 18 = .ok (.iload_n 2, 1) := by decide +kernel
theorem dX14_tellsAll_19 : decode cX14_tellsAll 19 = .ok (.iload_n 3, 1) := by decide +kernel
theorem dX14_tellsAll_20 : decode cX14_tellsAll 20 = .ok (.invokevirtual 533, 3) := by decide +kernel
theorem dX14_tellsAll_23 : decode cX14_tellsAll 23 = .ok (.iload_n 1, 1) := by decide +kernel
theorem dX14_tellsAll_24 : decode cX14_tellsAll 24 = .ok (.iand, 1) := by decide +kernel
theorem dX14_tellsAll_25 : decode cX14_tellsAll 25 = .ok (.ifCond .ne 5, 3) := by decide +kernel
theorem dX14_tellsAll_28 : decode cX14_tellsAll 28 = .ok (.iconst 0, 1) := by decide +kernel
theorem dX14_tellsAll_29 : decode cX14_tellsAll 29 = .ok (.ireturn, 1) := by decide +kernel
theorem dX14_tellsAll_30 : decode cX14_tellsAll 30 = .ok (.iinc 3 1, 3) := by decide +kernel
theorem dX14_tellsAll_33 : decode cX14_tellsAll 33 = .ok (.goto (-21), 3) := by decide +kernel
theorem dX14_tellsAll_36 : decode cX14_tellsAll 36 = .ok (.iinc 2 1, 3) := by decide +kernel
theorem dX14_tellsAll_39 : decode cX14_tellsAll 39 = .ok (.goto (-37), 3) := by decide +kernel
theorem dX14_tellsAll_42 : decode cX14_tellsAll 42 = .ok (.iconst 1, 1) := by decide +kernel
theorem dX14_tellsAll_43 : decode cX14_tellsAll 43 = .ok (.ireturn, 1) := by decide +kernel
theorem dX14_apart_0 : decode cX14_apart 0 = .ok (.aload_n 0, 1) := by decide +kernel
theorem dX14_apart_1 : decode cX14_apart 1 = .ok (.iconst 0, 1) := by decide +kernel
theorem dX14_apart_2 : decode cX14_apart 2 = .ok (.putfield 148, 3) := by decide +kernel
theorem dX14_apart_5 : decode cX14_apart 5 = .ok (.aload_n 0, 1) := by decide +kernel
theorem dX14_apart_6 : decode cX14_apart 6 = .ok (.iload_n 1, 1) := by decide +kernel
theorem dX14_apart_7 : decode cX14_apart 7 = .ok (.iload_n 2, 1) := by decide +kernel
theorem dX14_apart_8 : decode cX14_apart 8 = .ok (.lload_n 3, 1) := by decide +kernel
theorem dX14_apart_9 : decode cX14_apart 9 = .ok (.invokevirtual 544, 3) := by decide +kernel
theorem dX14_apart_12 : decode cX14_apart 12 = .ok (.ifCond .ne 5, 3) := by decide +kernel
theorem dX14_apart_15 : decode cX14_apart 15 = .ok (.iconst (-1), 1) := by decide +kernel
theorem dX14_apart_16 : decode cX14_apart 16 = .ok (.ireturn, 1) := by decide +kernel
theorem dX14_apart_17 : decode cX14_apart 17 = .ok (.iconst 0, 1) := by decide +kernel
theorem dX14_apart_18 : decode cX14_apart 18 = .ok (.istore 5, 2) := by decide +kernel
theorem dX14_apart_20 : decode cX14_apart 20 = .ok (.iload 5, 2) := by decide +kernel
theorem dX14_apart_22 : decode cX14_apart 22 = .ok (.aload_n 0, 1) := by decide +kernel
theorem dX14_apart_23 : decode cX14_apart 23 = .ok (.getfield 264, 3) := by decide +kernel
theorem dX14_apart_26 : decode cX14_apart 26 = .ok (.if_icmp .gt 51, 3) := by decide +kernel
theorem dX14_apart_29 : decode cX14_apart 29 = .ok (.iconst 0, 1) := by decide +kernel
theorem dX14_apart_30 : decode cX14_apart 30 = .ok (.istore 6, 2) := by decide +kernel
theorem dX14_apart_32 : decode cX14_apart 32 = .ok (.iload 6, 2) := by decide +kernel
theorem dX14_apart_34 : decode cX14_apart 34 = .ok (.iconst 1, 1) := by decide +kernel
theorem dX14_apart_35 : decode cX14_apart 35 = .ok (.aload_n 0, 1) := by decide +kernel
theorem dX14_apart_36 : decode cX14_apart 36 = .ok (.getfield 264, 3) := by decide +kernel
theorem dX14_apart_39 : decode cX14_apart 39 = .ok (.ishl, 1) := by decide +kernel
theorem dX14_apart_40 : decode cX14_apart 40 = .ok (.if_icmp .ge 31, 3) := by decide +kernel
theorem dX14_apart_43 : decode cX14_apart 43 = .ok (.iload 6, 2) := by decide +kernel
theorem dX14_apart_45 : decode cX14_apart 45 = .ok (.invokestatic 548, 3) := by decide +kernel
theorem dX14_apart_48 : decode cX14_apart 48 = .ok (.iload 5, 2) := by decide +kernel
theorem dX14_apart_50 : decode cX14_apart 50 = .ok (.if_icmp .ne 15, 3) := by decide +kernel
theorem dX14_apart_53 : decode cX14_apart 53 = .ok (.aload_n 0, 1) := by decide +kernel
theorem dX14_apart_54 : decode cX14_apart 54 = .ok (.iload 6, 2) := by decide +kernel
theorem dX14_apart_56 : decode cX14_apart 56 = .ok (.invokevirtual 551, 3) := by decide +kernel
theorem dX14_apart_59 : decode cX14_apart 59 = .ok (.ifCond .eq 6, 3) := by decide +kernel
theorem dX14_apart_62 : decode cX14_apart 62 = .ok (.iload 6, 2) := by decide +kernel
theorem dX14_apart_64 : decode cX14_apart 64 = .ok (.ireturn, 1) := by decide +kernel
theorem dX14_apart_65 : decode cX14_apart 65 = .ok (.iinc 6 1, 3) := by decide +kernel
theorem dX14_apart_68 : decode cX14_apart 68 = .ok (.goto (-36), 3) := by decide +kernel
theorem dX14_apart_71 : decode cX14_apart 71 = .ok (.iinc 5 1, 3) := by decide +kernel
theorem dX14_apart_74 : decode cX14_apart 74 = .ok (.goto (-54), 3) := by decide +kernel
theorem dX14_apart_77 : decode cX14_apart 77 = .ok (.bipush (-2), 2) := by decide +kernel
theorem dX14_apart_79 : decode cX14_apart 79 = .ok (.ireturn, 1) := by decide +kernel
theorem dX14_nextTo_0 : decode cX14_nextTo 0 = .ok (.iload_n 1, 1) := by decide +kernel
theorem dX14_nextTo_1 : decode cX14_nextTo 1 = .ok (.aload_n 0, 1) := by decide +kernel
theorem dX14_nextTo_2 : decode cX14_nextTo 2 = .ok (.getfield 255, 3) := by decide +kernel
theorem dX14_nextTo_5 : decode cX14_nextTo 5 = .ok (.irem, 1) := by decide +kernel
theorem dX14_nextTo_6 : decode cX14_nextTo 6 = .ok (.iload_n 2, 1) := by decide +kernel
theorem dX14_nextTo_7 : decode cX14_nextTo 7 = .ok (.iconst 2, 1) := by decide +kernel
theorem dX14_nextTo_8 : decode cX14_nextTo 8 = .ok (.if_icmp .ne 7, 3) := by decide +kernel
theorem dX14_nextTo_11 : decode cX14_nextTo 11 = .ok (.iconst 1, 1) := by decide +kernel
theorem dX14_nextTo_12 : decode cX14_nextTo 12 = .ok (.goto 13, 3) := by decide +kernel
theorem dX14_nextTo_15 : decode cX14_nextTo 15 = .ok (.iload_n 2, 1) := by decide +kernel
theorem dX14_nextTo_16 : decode cX14_nextTo 16 = .ok (.iconst 4, 1) := by decide +kernel
theorem dX14_nextTo_17 : decode cX14_nextTo 17 = .ok (.if_icmp .ne 7, 3) := by decide +kernel
theorem dX14_nextTo_20 : decode cX14_nextTo 20 = .ok (.iconst (-1), 1) := by decide +kernel
theorem dX14_nextTo_21 : decode cX14_nextTo 21 = .ok (.goto 4, 3) := by decide +kernel
theorem dX14_nextTo_24 : decode cX14_nextTo 24 = .ok (.iconst 0, 1) := by decide +kernel
theorem dX14_nextTo_25 : decode cX14_nextTo 25 = .ok (.iadd, 1) := by decide +kernel
theorem dX14_nextTo_26 : decode cX14_nextTo 26 = .ok (.istore_n 3, 1) := by decide +kernel
theorem dX14_nextTo_27 : decode cX14_nextTo 27 = .ok (.iload_n 1, 1) := by decide +kernel
theorem dX14_nextTo_28 : decode cX14_nextTo 28 = .ok (.aload_n 0, 1) := by decide +kernel
theorem dX14_nextTo_29 : decode cX14_nextTo 29 = .ok (.getfield 255, 3) := by decide +kernel
theorem dX14_nextTo_32 : decode cX14_nextTo 32 = .ok (.idiv, 1) := by decide +kernel
theorem dX14_nextTo_33 : decode cX14_nextTo 33 = .ok (.iload_n 2, 1) := by decide +kernel
theorem dX14_nextTo_34 : decode cX14_nextTo 34 = .ok (.iconst 1, 1) := by decide +kernel
theorem dX14_nextTo_35 : decode cX14_nextTo 35 = .ok (.if_icmp .ne 7, 3) := by decide +kernel
theorem dX14_nextTo_38 : decode cX14_nextTo 38 = .ok (.iconst (-1), 1) := by decide +kernel
theorem dX14_nextTo_39 : decode cX14_nextTo 39 = .ok (.goto 13, 3) := by decide +kernel
theorem dX14_nextTo_42 : decode cX14_nextTo 42 = .ok (.iload_n 2, 1) := by decide +kernel
theorem dX14_nextTo_43 : decode cX14_nextTo 43 = .ok (.iconst 3, 1) := by decide +kernel
theorem dX14_nextTo_44 : decode cX14_nextTo 44 = .ok (.if_icmp .ne 7, 3) := by decide +kernel
theorem dX14_nextTo_47 : decode cX14_nextTo 47 = .ok (.iconst 1, 1) := by decide +kernel
theorem dX14_nextTo_48 : decode cX14_nextTo 48 = .ok (.goto 4, 3) := by decide +kernel
theorem dX14_nextTo_51 : decode cX14_nextTo 51 = .ok (.iconst 0, 1) := by decide +kernel
theorem dX14_nextTo_52 : decode cX14_nextTo 52 = .ok (.iadd, 1) := by decide +kernel
theorem dX14_nextTo_53 : decode cX14_nextTo 53 = .ok (.istore 4, 2) := by decide +kernel
theorem dX14_nextTo_55 : decode cX14_nextTo 55 = .ok (.iload_n 3, 1) := by decide +kernel
theorem dX14_nextTo_56 : decode cX14_nextTo 56 = .ok (.ifCond .lt 43, 3) := by decide +kernel
theorem dX14_nextTo_59 : decode cX14_nextTo 59 = .ok (.iload_n 3, 1) := by decide +kernel
theorem dX14_nextTo_60 : decode cX14_nextTo 60 = .ok (.aload_n 0, 1) := by decide +kernel
theorem dX14_nextTo_61 : decode cX14_nextTo 61 = .ok (.getfield 255, 3) := by decide +kernel
theorem dX14_nextTo_64 : decode cX14_nextTo 64 = .ok (.if_icmp .ge 35, 3) := by decide +kernel
theorem dX14_nextTo_67 : decode cX14_nextTo 67 = .ok (.iload 4, 2) := by decide +kernel
theorem dX14_nextTo_69 : decode cX14_nextTo 69 = .ok (.ifCond .lt 30, 3) := by decide +kernel
theorem dX14_nextTo_72 : decode cX14_nextTo 72 = .ok (.iload 4, 2) := by decide +kernel
theorem dX14_nextTo_74 : decode cX14_nextTo 74 = .ok (.aload_n 0, 1) := by decide +kernel
theorem dX14_nextTo_75 : decode cX14_nextTo 75 = .ok (.getfield 258, 3) := by decide +kernel
theorem dX14_nextTo_78 : decode cX14_nextTo 78 = .ok (.if_icmp .ge 21, 3) := by decide +kernel
theorem dX14_nextTo_81 : decode cX14_nextTo 81 = .ok (.aload_n 0, 1) := by decide +kernel
theorem dX14_nextTo_82 : decode cX14_nextTo 82 = .ok (.getfield 27, 3) := by decide +kernel
theorem dX14_nextTo_85 : decode cX14_nextTo 85 = .ok (.aload_n 0, 1) := by decide +kernel
theorem dX14_nextTo_86 : decode cX14_nextTo 86 = .ok (.getfield 255, 3) := by decide +kernel
theorem dX14_nextTo_89 : decode cX14_nextTo 89 = .ok (.iload 4, 2) := by decide +kernel
theorem dX14_nextTo_91 : decode cX14_nextTo 91 = .ok (.imul, 1) := by decide +kernel
theorem dX14_nextTo_92 : decode cX14_nextTo 92 = .ok (.iload_n 3, 1) := by decide +kernel
theorem dX14_nextTo_93 : decode cX14_nextTo 93 = .ok (.iadd, 1) := by decide +kernel
theorem dX14_nextTo_94 : decode cX14_nextTo 94 = .ok (.iaload, 1) := by decide +kernel
theorem dX14_nextTo_95 : decode cX14_nextTo 95 = .ok (.iconst 2, 1) := by decide +kernel
theorem dX14_nextTo_96 : decode cX14_nextTo 96 = .ok (.if_icmp .ne 7, 3) := by decide +kernel
theorem dX14_nextTo_99 : decode cX14_nextTo 99 = .ok (.iconst (-1), 1) := by decide +kernel
theorem dX14_nextTo_100 : decode cX14_nextTo 100 = .ok (.goto 12, 3) := by decide +kernel
theorem dX14_nextTo_103 : decode cX14_nextTo 103 = .ok (.aload_n 0, 1) := by decide +kernel
theorem dX14_nextTo_104 : decode cX14_nextTo 104 = .ok (.getfield 255, 3) := by decide +kernel
theorem dX14_nextTo_107 : decode cX14_nextTo 107 = .ok (.iload 4, 2) := by decide +kernel
theorem dX14_nextTo_109 : decode cX14_nextTo 109 = .ok (.imul, 1) := by decide +kernel
theorem dX14_nextTo_110 : decode cX14_nextTo 110 = .ok (.iload_n 3, 1) := by decide +kernel
theorem dX14_nextTo_111 : decode cX14_nextTo 111 = .ok (.iadd, 1) := by decide +kernel
theorem dX14_nextTo_112 : decode cX14_nextTo 112 = .ok (.ireturn, 1) := by decide +kernel
theorem dX14_layFar_0 : decode cX14_layFar 0 = .ok (.iconst 0, 1) := by decide +kernel
theorem dX14_layFar_1 : decode cX14_layFar 1 = .ok (.istore_n 3, 1) := by decide +kernel
theorem dX14_layFar_2 : decode cX14_layFar 2 = .ok (.iload_n 3, 1) := by decide +kernel
theorem dX14_layFar_3 : decode cX14_layFar 3 = .ok (.aload_n 0, 1) := by decide +kernel
theorem dX14_layFar_4 : decode cX14_layFar 4 = .ok (.invokevirtual 426, 3) := by decide +kernel
theorem dX14_layFar_7 : decode cX14_layFar 7 = .ok (.if_icmp .ge 182, 3) := by decide +kernel
theorem dX14_layFar_10 : decode cX14_layFar 10 = .ok (.aload_n 0, 1) := by decide +kernel
theorem dX14_layFar_11 : decode cX14_layFar 11 = .ok (.getfield 27, 3) := by decide +kernel
theorem dX14_layFar_14 : decode cX14_layFar 14 = .ok (.iload_n 3, 1) := by decide +kernel
theorem dX14_layFar_15 : decode cX14_layFar 15 = .ok (.iaload, 1) := by decide +kernel
theorem dX14_layFar_16 : decode cX14_layFar 16 = .ok (.iconst 2, 1) := by decide +kernel
theorem dX14_layFar_17 : decode cX14_layFar 17 = .ok (.if_icmp .eq 166, 3) := by decide +kernel
theorem dX14_layFar_20 : decode cX14_layFar 20 = .ok (.aload_n 0, 1) := by decide +kernel
theorem dX14_layFar_21 : decode cX14_layFar 21 = .ok (.getfield 103, 3) := by decide +kernel
theorem dX14_layFar_24 : decode cX14_layFar 24 = .ok (.bipush 48, 2) := by decide +kernel
theorem dX14_layFar_26 : decode cX14_layFar 26 = .ok (.iload_n 1, 1) := by decide +kernel
theorem dX14_layFar_27 : decode cX14_layFar 27 = .ok (.imul, 1) := by decide +kernel
theorem dX14_layFar_28 : decode cX14_layFar 28 = .ok (.iload_n 3, 1) := by decide +kernel
theorem dX14_layFar_29 : decode cX14_layFar 29 = .ok (.iadd, 1) := by decide +kernel
theorem dX14_layFar_30 : decode cX14_layFar 30 = .ok (.iaload, 1) := by decide +kernel
theorem dX14_layFar_31 : decode cX14_layFar 31 = .ok (.iload_n 2, 1) := by decide +kernel
theorem dX14_layFar_32 : decode cX14_layFar 32 = .ok (.if_icmp .ge 6, 3) := by decide +kernel
theorem dX14_layFar_35 : decode cX14_layFar 35 = .ok (.goto 148, 3) := by decide +kernel
theorem dX14_layFar_38 : decode cX14_layFar 38 = .ok (.iconst (-1), 1) := by decide +kernel
theorem dX14_layFar_39 : decode cX14_layFar 39 = .ok (.istore 4, 2) := by decide +kernel
theorem dX14_layFar_41 : decode cX14_layFar 41 = .ok (.iconst 1, 1) := by decide +kernel
theorem dX14_layFar_42 : decode cX14_layFar 42 = .ok (.istore 5, 2) := by decide +kernel
theorem dX14_layFar_44 : decode cX14_layFar 44 = .ok (.iload 5, 2) := by decide +kernel
theorem dX14_layFar_46 : decode cX14_layFar 46 = .ok (.iconst 5, 1) := by decide +kernel
theorem dX14_layFar_47 : decode cX14_layFar 47 = .ok (.if_icmp .ge 103, 3) := by decide +kernel
theorem dX14_layFar_50 : decode cX14_layFar 50 = .ok (.aload_n 0, 1) := by decide +kernel
theorem dX14_layFar_51 : decode cX14_layFar 51 = .ok (.iload_n 3, 1) := by decide +kernel
theorem dX14_layFar_52 : decode cX14_layFar 52 = .ok (.iload 5, 2) := by decide +kernel
theorem dX14_layFar_54 : decode cX14_layFar 54 = .ok (.invokevirtual 439, 3) := by decide +kernel
theorem dX14_layFar_57 : decode cX14_layFar 57 = .ok (.istore 6, 2) := by decide +kernel
theorem dX14_layFar_59 : decode cX14_layFar 59 = .ok (.iload 6, 2) := by decide +kernel
theorem dX14_layFar_61 : decode cX14_layFar 61 = .ok (.ifCond .lt 83, 3) := by decide +kernel
theorem dX14_layFar_64 : decode cX14_layFar 64 = .ok (.aload_n 0, 1) := by decide +kernel
theorem dX14_layFar_65 : decode cX14_layFar 65 = .ok (.getfield 103, 3) := by decide +kernel
theorem dX14_layFar_68 : decode cX14_layFar 68 = .ok (.bipush 48, 2) := by decide +kernel
theorem dX14_layFar_70 : decode cX14_layFar 70 = .ok (.iload_n 1, 1) := by decide +kernel
theorem dX14_layFar_71 : decode cX14_layFar 71 = .ok (.imul, 1) := by decide +kernel
theorem dX14_layFar_72 : decode cX14_layFar 72 = .ok (.iload 6, 2) := by decide +kernel
theorem dX14_layFar_74 : decode cX14_layFar 74 = .ok (.iadd, 1) := by decide +kernel
theorem dX14_layFar_75 : decode cX14_layFar 75 = .ok (.iaload, 1) := by decide +kernel
theorem dX14_layFar_76 : decode cX14_layFar 76 = .ok (.iload_n 2, 1) := by decide +kernel
theorem dX14_layFar_77 : decode cX14_layFar 77 = .ok (.iconst 1, 1) := by decide +kernel
theorem dX14_layFar_78 : decode cX14_layFar 78 = .ok (.isub, 1) := by decide +kernel
theorem dX14_layFar_79 : decode cX14_layFar 79 = .ok (.if_icmp .eq 6, 3) := by decide +kernel
theorem dX14_layFar_82 : decode cX14_layFar 82 = .ok (.goto 62, 3) := by decide +kernel
theorem dX14_layFar_85 : decode cX14_layFar 85 = .ok (.aload_n 0, 1) := by decide +kernel
theorem dX14_layFar_86 : decode cX14_layFar 86 = .ok (.getfield 106, 3) := by decide +kernel
theorem dX14_layFar_89 : decode cX14_layFar 89 = .ok (.bipush 48, 2) := by decide +kernel
theorem dX14_layFar_91 : decode cX14_layFar 91 = .ok (.iload_n 1, 1) := by decide +kernel
theorem dX14_layFar_92 : decode cX14_layFar 92 = .ok (.imul, 1) := by decide +kernel
theorem dX14_layFar_93 : decode cX14_layFar 93 = .ok (.iload 6, 2) := by decide +kernel
theorem dX14_layFar_95 : decode cX14_layFar 95 = .ok (.iadd, 1) := by decide +kernel
theorem dX14_layFar_96 : decode cX14_layFar 96 = .ok (.iaload, 1) := by decide +kernel
theorem dX14_layFar_97 : decode cX14_layFar 97 = .ok (.aload_n 0, 1) := by decide +kernel
theorem dX14_layFar_98 : decode cX14_layFar 98 = .ok (.getfield 282, 3) := by decide +kernel
theorem dX14_layFar_101 : decode cX14_layFar 101 = .ok (.iadd, 1) := by decide +kernel
theorem dX14_layFar_102 : decode cX14_layFar 102 = .ok (.aload_n 0, 1) := by decide +kernel
theorem dX14_layFar_103 : decode cX14_layFar 103 = .ok (.getfield 27, 3) := by decide +kernel
theorem dX14_layFar_106 : decode cX14_layFar 106 = .ok (.iload_n 3, 1) := by decide +kernel
theorem dX14_layFar_107 : decode cX14_layFar 107 = .ok (.iaload, 1) := by decide +kernel
theorem dX14_layFar_108 : decode cX14_layFar 108 = .ok (.iconst 1, 1) := by decide +kernel
theorem dX14_layFar_109 : decode cX14_layFar 109 = .ok (.if_icmp .ne 10, 3) := by decide +kernel
theorem dX14_layFar_112 : decode cX14_layFar 112 = .ok (.aload_n 0, 1) := by decide +kernel
theorem dX14_layFar_113 : decode cX14_layFar 113 = .ok (.getfield 285, 3) := by decide +kernel
theorem dX14_layFar_116 : decode cX14_layFar 116 = .ok (.goto 4, 3) := by decide +kernel
theorem dX14_layFar_119 : decode cX14_layFar 119 = .ok (.iconst 0, 1) := by decide +kernel
theorem dX14_layFar_120 : decode cX14_layFar 120 = .ok (.iadd, 1) := by decide +kernel
theorem dX14_layFar_121 : decode cX14_layFar 121 = .ok (.istore 7, 2) := by decide +kernel
theorem dX14_layFar_123 : decode cX14_layFar 123 = .ok (.iload 4, 2) := by decide +kernel
theorem dX14_layFar_125 : decode cX14_layFar 125 = .ok (.ifCond .lt 10, 3) := by decide +kernel
theorem dX14_layFar_128 : decode cX14_layFar 128 = .ok (.iload 7, 2) := by decide +kernel
theorem dX14_layFar_130 : decode cX14_layFar 130 = .ok (.iload 4, 2) := by decide +kernel
theorem dX14_layFar_132 : decode cX14_layFar 132 = .ok (.if_icmp .ge 8, 3) := by decide +kernel
theorem dX14_layFar_135 : decode cX14_layFar 135 = .ok (.iload 7, 2) := by decide +kernel
theorem dX14_layFar_137 : decode cX14_layFar 137 = .ok (.goto 5, 3) := by decide +kernel
theorem dX14_layFar_140 : decode cX14_layFar 140 = .ok (.iload 4, 2) := by decide +kernel
theorem dX14_layFar_142 : decode cX14_layFar 142 = .ok (.istore 4, 2) := by decide +kernel
theorem dX14_layFar_144 : decode cX14_layFar 144 = .ok (.iinc 5 1, 3) := by decide +kernel
theorem dX14_layFar_147 : decode cX14_layFar 147 = .ok (.goto (-103), 3) := by decide +kernel
theorem dX14_layFar_150 : decode cX14_layFar 150 = .ok (.iload 4, 2) := by decide +kernel
theorem dX14_layFar_152 : decode cX14_layFar 152 = .ok (.ifCond .ge 6, 3) := by decide +kernel
theorem dX14_layFar_155 : decode cX14_layFar 155 = .ok (.goto 28, 3) := by decide +kernel
theorem dX14_layFar_158 : decode cX14_layFar 158 = .ok (.aload_n 0, 1) := by decide +kernel
theorem dX14_layFar_159 : decode cX14_layFar 159 = .ok (.getfield 103, 3) := by decide +kernel
theorem dX14_layFar_162 : decode cX14_layFar 162 = .ok (.bipush 48, 2) := by decide +kernel
theorem dX14_layFar_164 : decode cX14_layFar 164 = .ok (.iload_n 1, 1) := by decide +kernel
theorem dX14_layFar_165 : decode cX14_layFar 165 = .ok (.imul, 1) := by decide +kernel
theorem dX14_layFar_166 : decode cX14_layFar 166 = .ok (.iload_n 3, 1) := by decide +kernel
theorem dX14_layFar_167 : decode cX14_layFar 167 = .ok (.iadd, 1) := by decide +kernel
theorem dX14_layFar_168 : decode cX14_layFar 168 = .ok (.iload_n 2, 1) := by decide +kernel
theorem dX14_layFar_169 : decode cX14_layFar 169 = .ok (.iastore, 1) := by decide +kernel
theorem dX14_layFar_170 : decode cX14_layFar 170 = .ok (.aload_n 0, 1) := by decide +kernel
theorem dX14_layFar_171 : decode cX14_layFar 171 = .ok (.getfield 106, 3) := by decide +kernel
theorem dX14_layFar_174 : decode cX14_layFar 174 = .ok (.bipush 48, 2) := by decide +kernel
theorem dX14_layFar_176 : decode cX14_layFar 176 = .ok (.iload_n 1, 1) := by decide +kernel
theorem dX14_layFar_177 : decode cX14_layFar 177 = .ok (.imul, 1) := by decide +kernel
theorem dX14_layFar_178 : decode cX14_layFar 178 = .ok (.iload_n 3, 1) := by decide +kernel
theorem dX14_layFar_179 : decode cX14_layFar 179 = .ok (.iadd, 1) := by decide +kernel
theorem dX14_layFar_180 : decode cX14_layFar 180 = .ok (.iload 4, 2) := by decide +kernel
theorem dX14_layFar_182 : decode cX14_layFar 182 = .ok (.iastore, 1) := by decide +kernel
theorem dX14_layFar_183 : decode cX14_layFar 183 = .ok (.iinc 3 1, 3) := by decide +kernel
theorem dX14_layFar_186 : decode cX14_layFar 186 = .ok (.goto (-184), 3) := by decide +kernel
theorem dX14_layFar_189 : decode cX14_layFar 189 = .ok (.return_, 1) := by decide +kernel
theorem dX14_layWays_0 : decode cX14_layWays 0 = .ok (.iconst 0, 1) := by decide +kernel
theorem dX14_layWays_1 : decode cX14_layWays 1 = .ok (.istore_n 1, 1) := by decide +kernel
theorem dX14_layWays_2 : decode cX14_layWays 2 = .ok (.iload_n 1, 1) := by decide +kernel
theorem dX14_layWays_3 : decode cX14_layWays 3 = .ok (.bipush 48, 2) := by decide +kernel
theorem dX14_layWays_5 : decode cX14_layWays 5 = .ok (.if_icmp .ge 94, 3) := by decide +kernel
theorem dX14_layWays_8 : decode cX14_layWays 8 = .ok (.iconst 0, 1) := by decide +kernel
theorem dX14_layWays_9 : decode cX14_layWays 9 = .ok (.istore_n 2, 1) := by decide +kernel
theorem dX14_layWays_10 : decode cX14_layWays 10 = .ok (.iload_n 2, 1) := by decide +kernel
theorem dX14_layWays_11 : decode cX14_layWays 11 = .ok (.bipush 48, 2) := by decide +kernel
theorem dX14_layWays_13 : decode cX14_layWays 13 = .ok (.if_icmp .ge 52, 3) := by decide +kernel
theorem dX14_layWays_16 : decode cX14_layWays 16 = .ok (.aload_n 0, 1) := by decide +kernel
theorem dX14_layWays_17 : decode cX14_layWays 17 = .ok (.getfield 103, 3) := by decide +kernel
theorem dX14_layWays_20 : decode cX14_layWays 20 = .ok (.bipush 48, 2) := by decide +kernel
theorem dX14_layWays_22 : decode cX14_layWays 22 = .ok (.iload_n 1, 1) := by decide +kernel
theorem dX14_layWays_23 : decode cX14_layWays 23 = .ok (.imul, 1) := by decide +kernel
theorem dX14_layWays_24 : decode cX14_layWays 24 = .ok (.iload_n 2, 1) := by decide +kernel
theorem dX14_layWays_25 : decode cX14_layWays 25 = .ok (.iadd, 1) := by decide +kernel
theorem dX14_layWays_26 : decode cX14_layWays 26 = .ok (.iload_n 1, 1) := by decide +kernel
theorem dX14_layWays_27 : decode cX14_layWays 27 = .ok (.iload_n 2, 1) := by decide +kernel
theorem dX14_layWays_28 : decode cX14_layWays 28 = .ok (.if_icmp .ne 15, 3) := by decide +kernel
theorem dX14_layWays_31 : decode cX14_layWays 31 = .ok (.aload_n 0, 1) := by decide +kernel
theorem dX14_layWays_32 : decode cX14_layWays 32 = .ok (.iload_n 1, 1) := by decide +kernel
theorem dX14_layWays_33 : decode cX14_layWays 33 = .ok (.invokevirtual 432, 3) := by decide +kernel
theorem dX14_layWays_36 : decode cX14_layWays 36 = .ok (.ifCond .eq 7, 3) := by decide +kernel
theorem dX14_layWays_39 : decode cX14_layWays 39 = .ok (.iconst 0, 1) := by decide +kernel
theorem dX14_layWays_40 : decode cX14_layWays 40 = .ok (.goto 6, 3) := by decide +kernel
theorem dX14_layWays_43 : decode cX14_layWays 43 = .ok (.sipush 999, 3) := by decide +kernel
theorem dX14_layWays_46 : decode cX14_layWays 46 = .ok (.iastore, 1) := by decide +kernel
theorem dX14_layWays_47 : decode cX14_layWays 47 = .ok (.aload_n 0, 1) := by decide +kernel
theorem dX14_layWays_48 : decode cX14_layWays 48 = .ok (.getfield 106, 3) := by decide +kernel
theorem dX14_layWays_51 : decode cX14_layWays 51 = .ok (.bipush 48, 2) := by decide +kernel
theorem dX14_layWays_53 : decode cX14_layWays 53 = .ok (.iload_n 1, 1) := by decide +kernel
theorem dX14_layWays_54 : decode cX14_layWays 54 = .ok (.imul, 1) := by decide +kernel
theorem dX14_layWays_55 : decode cX14_layWays 55 = .ok (.iload_n 2, 1) := by decide +kernel
theorem dX14_layWays_56 : decode cX14_layWays 56 = .ok (.iadd, 1) := by decide +kernel
theorem dX14_layWays_57 : decode cX14_layWays 57 = .ok (.iconst 0, 1) := by decide +kernel
theorem dX14_layWays_58 : decode cX14_layWays 58 = .ok (.iastore, 1) := by decide +kernel
theorem dX14_layWays_59 : decode cX14_layWays 59 = .ok (.iinc 2 1, 3) := by decide +kernel
theorem dX14_layWays_62 : decode cX14_layWays 62 = .ok (.goto (-52), 3) := by decide +kernel
theorem dX14_layWays_65 : decode cX14_layWays 65 = .ok (.iconst 1, 1) := by decide +kernel
theorem dX14_layWays_66 : decode cX14_layWays 66 = .ok (.istore_n 2, 1) := by decide +kernel
theorem dX14_layWays_67 : decode cX14_layWays 67 = .ok (.iload_n 2, 1) := by decide +kernel
theorem dX14_layWays_68 : decode cX14_layWays 68 = .ok (.bipush 48, 2) := by decide +kernel
theorem dX14_layWays_70 : decode cX14_layWays 70 = .ok (.if_icmp .ge 23, 3) := by decide +kernel
theorem dX14_layWays_73 : decode cX14_layWays 73 = .ok (.aload_n 0, 1) := by decide +kernel
theorem dX14_layWays_74 : decode cX14_layWays 74 = .ok (.iload_n 1, 1) := by decide +kernel
theorem dX14_layWays_75 : decode cX14_layWays 75 = .ok (.invokevirtual 432, 3) := by decide +kernel
theorem dX14_layWays_78 : decode cX14_layWays 78 = .ok (.ifCond .eq 15, 3) := by decide +kernel
theorem dX14_layWays_81 : decode cX14_layWays 81 = .ok (.aload_n 0, 1) := by decide +kernel
theorem dX14_layWays_82 : decode cX14_layWays 82 = .ok (.iload_n 1, 1) := by decide +kernel
theorem dX14_layWays_83 : decode cX14_layWays 83 = .ok (.iload_n 2, 1) := by decide +kernel
theorem dX14_layWays_84 : decode cX14_layWays 84 = .ok (.invokevirtual 435, 3) := by decide +kernel
theorem dX14_layWays_87 : decode cX14_layWays 87 = .ok (.iinc 2 1, 3) := by decide +kernel
theorem dX14_layWays_90 : decode cX14_layWays 90 = .ok (.goto (-23), 3) := by decide +kernel
theorem dX14_layWays_93 : decode cX14_layWays 93 = .ok (.iinc 1 1, 3) := by decide +kernel
theorem dX14_layWays_96 : decode cX14_layWays 96 = .ok (.goto (-94), 3) := by decide +kernel
theorem dX14_layWays_99 : decode cX14_layWays 99 = .ok (.return_, 1) := by decide +kernel
theorem dX14_back_0 : decode cX14_back 0 = .ok (.aload_n 0, 1) := by decide +kernel
theorem dX14_back_1 : decode cX14_back 1 = .ok (.iconst 0, 1) := by decide +kernel
theorem dX14_back_2 : decode cX14_back 2 = .ok (.putfield 148, 3) := by decide +kernel
theorem dX14_back_5 : decode cX14_back 5 = .ok (.aload_n 0, 1) := by decide +kernel
theorem dX14_back_6 : decode cX14_back 6 = .ok (.getfield 307, 3) := by decide +kernel
theorem dX14_back_9 : decode cX14_back 9 = .ok (.ifCond .ne 5, 3) := by decide +kernel
theorem dX14_back_12 : decode cX14_back 12 = .ok (.iconst (-1), 1) := by decide +kernel
theorem dX14_back_13 : decode cX14_back 13 = .ok (.ireturn, 1) := by decide +kernel
theorem dX14_back_14 : decode cX14_back 14 = .ok (.aload_n 0, 1) := by decide +kernel
theorem dX14_back_15 : decode cX14_back 15 = .ok (.aload_n 0, 1) := by decide +kernel
theorem dX14_back_16 : decode cX14_back 16 = .ok (.getfield 571, 3) := by decide +kernel
theorem dX14_back_19 : decode cX14_back 19 = .ok (.putfield 298, 3) := by decide +kernel
theorem dX14_back_22 : decode cX14_back 22 = .ok (.iconst 0, 1) := by decide +kernel
theorem dX14_back_23 : decode cX14_back 23 = .ok (.istore_n 1, 1) := by decide +kernel
theorem dX14_back_24 : decode cX14_back 24 = .ok (.iload_n 1, 1) := by decide +kernel
theorem dX14_back_25 : decode cX14_back 25 = .ok (.bipush 48, 2) := by decide +kernel
theorem dX14_back_27 : decode cX14_back 27 = .ok (.if_icmp .ge 21, 3) := by decide +kernel
theorem dX14_back_30 : decode cX14_back 30 = .ok (.aload_n 0, 1) := by decide +kernel
theorem dX14_back_31 : decode cX14_back 31 = .ok (.getfield 27, 3) := by decide +kernel
theorem dX14_back_34 : decode cX14_back 34 = .ok (.iload_n 1, 1) := by decide +kernel
theorem dX14_back_35 : decode cX14_back 35 = .ok (.aload_n 0, 1) := by decide +kernel
theorem dX14_back_36 : decode cX14_back 36 = .ok (.getfield 136, 3) := by decide +kernel
theorem dX14_back_39 : decode cX14_back 39 = .ok (.iload_n 1, 1) := by decide +kernel
theorem dX14_back_40 : decode cX14_back 40 = .ok (.iaload, 1) := by decide +kernel
theorem dX14_back_41 : decode cX14_back 41 = .ok (.iastore, 1) := by decide +kernel
theorem dX14_back_42 : decode cX14_back 42 = .ok (.iinc 1 1, 3) := by decide +kernel
theorem dX14_back_45 : decode cX14_back 45 = .ok (.goto (-21), 3) := by decide +kernel
theorem dX14_back_48 : decode cX14_back 48 = .ok (.iconst 0, 1) := by decide +kernel
theorem dX14_back_49 : decode cX14_back 49 = .ok (.istore_n 1, 1) := by decide +kernel
theorem dX14_back_50 : decode cX14_back 50 = .ok (.iload_n 1, 1) := by decide +kernel
theorem dX14_back_51 : decode cX14_back 51 = .ok (.bipush 16, 2) := by decide +kernel
theorem dX14_back_53 : decode cX14_back 53 = .ok (.if_icmp .ge 55, 3) := by decide +kernel
theorem dX14_back_56 : decode cX14_back 56 = .ok (.aload_n 0, 1) := by decide +kernel
theorem dX14_back_57 : decode cX14_back 57 = .ok (.getfield 63, 3) := by decide +kernel
theorem dX14_back_60 : decode cX14_back 60 = .ok (.iload_n 1, 1) := by decide +kernel
theorem dX14_back_61 : decode cX14_back 61 = .ok (.aload_n 0, 1) := by decide +kernel
theorem dX14_back_62 : decode cX14_back 62 = .ok (.getfield 139, 3) := by decide +kernel
theorem dX14_back_65 : decode cX14_back 65 = .ok (.iconst 3, 1) := by decide +kernel
theorem dX14_back_66 : decode cX14_back 66 = .ok (.iload_n 1, 1) := by decide +kernel
theorem dX14_back_67 : decode cX14_back 67 = .ok (.imul, 1) := by decide +kernel
theorem dX14_back_68 : decode cX14_back 68 = .ok (.iaload, 1) := by decide +kernel
theorem dX14_back_69 : decode cX14_back 69 = .ok (.iastore, 1) := by decide +kernel
theorem dX14_back_70 : decode cX14_back 70 = .ok (.aload_n 0, 1) := by decide +kernel
theorem dX14_back_71 : decode cX14_back 71 = .ok (.getfield 66, 3) := by decide +kernel
theorem dX14_back_74 : decode cX14_back 74 = .ok (.iload_n 1, 1) := by decide +kernel
theorem dX14_back_75 : decode cX14_back 75 = .ok (.aload_n 0, 1) := by decide +kernel
theorem dX14_back_76 : decode cX14_back 76 = .ok (.getfield 139, 3) := by decide +kernel
theorem dX14_back_79 : decode cX14_back 79 = .ok (.iconst 3, 1) := by decide +kernel
theorem dX14_back_80 : decode cX14_back 80 = .ok (.iload_n 1, 1) := by decide +kernel
theorem dX14_back_81 : decode cX14_back 81 = .ok (.imul, 1) := by decide +kernel
theorem dX14_back_82 : decode cX14_back 82 = .ok (.iconst 1, 1) := by decide +kernel
theorem dX14_back_83 : decode cX14_back 83 = .ok (.iadd, 1) := by decide +kernel
theorem dX14_back_84 : decode cX14_back 84 = .ok (.iaload, 1) := by decide +kernel
theorem dX14_back_85 : decode cX14_back 85 = .ok (.iastore, 1) := by decide +kernel
theorem dX14_back_86 : decode cX14_back 86 = .ok (.aload_n 0, 1) := by decide +kernel
theorem dX14_back_87 : decode cX14_back 87 = .ok (.getfield 69, 3) := by decide +kernel
theorem dX14_back_90 : decode cX14_back 90 = .ok (.iload_n 1, 1) := by decide +kernel
theorem dX14_back_91 : decode cX14_back 91 = .ok (.aload_n 0, 1) := by decide +kernel
theorem dX14_back_92 : decode cX14_back 92 = .ok (.getfield 139, 3) := by decide +kernel
theorem dX14_back_95 : decode cX14_back 95 = .ok (.iconst 3, 1) := by decide +kernel
theorem dX14_back_96 : decode cX14_back 96 = .ok (.iload_n 1, 1) := by decide +kernel
theorem dX14_back_97 : decode cX14_back 97 = .ok (.imul, 1) := by decide +kernel
theorem dX14_back_98 : decode cX14_back 98 = .ok (.iconst 2, 1) := by decide +kernel
theorem dX14_back_99 : decode cX14_back 99 = .ok (.iadd, 1) := by decide +kernel
theorem dX14_back_100 : decode cX14_back 100 = .ok (.iaload, 1) := by decide +kernel
theorem dX14_back_101 : decode cX14_back 101 = .ok (.iastore, 1) := by decide +kernel
theorem dX14_back_102 : decode cX14_back 102 = .ok (.iinc 1 1, 3) := by decide +kernel
theorem dX14_back_105 : decode cX14_back 105 = .ok (.goto (-55), 3) := by decide +kernel
theorem dX14_back_108 : decode cX14_back 108 = .ok (.aload_n 0, 1) := by decide +kernel
theorem dX14_back_109 : decode cX14_back 109 = .ok (.iconst 0, 1) := by decide +kernel
theorem dX14_back_110 : decode cX14_back 110 = .ok (.putfield 301, 3) := by decide +kernel
theorem dX14_back_113 : decode cX14_back 113 = .ok (.aload_n 0, 1) := by decide +kernel
theorem dX14_back_114 : decode cX14_back 114 = .ok (.invokevirtual 310, 3) := by decide +kernel
theorem dX14_back_117 : decode cX14_back 117 = .ok (.aload_n 0, 1) := by decide +kernel
theorem dX14_back_118 : decode cX14_back 118 = .ok (.getfield 298, 3) := by decide +kernel
theorem dX14_back_121 : decode cX14_back 121 = .ok (.ireturn, 1) := by decide +kernel
theorem dX14_dropHeld_0 : decode cX14_dropHeld 0 = .ok (.aload_n 0, 1) := by decide +kernel
theorem dX14_dropHeld_1 : decode cX14_dropHeld 1 = .ok (.dup, 1) := by decide +kernel
theorem dX14_dropHeld_2 : decode cX14_dropHeld 2 = .ok (.getfield 361, 3) := by decide +kernel
theorem dX14_dropHeld_5 : decode cX14_dropHeld 5 = .ok (.iconst 1, 1) := by decide +kernel
theorem dX14_dropHeld_6 : decode cX14_dropHeld 6 = .ok (.isub, 1) := by decide +kernel
theorem dX14_dropHeld_7 : decode cX14_dropHeld 7 = .ok (.putfield 361, 3) := by decide +kernel
theorem dX14_dropHeld_10 : decode cX14_dropHeld 10 = .ok (.aload_n 0, 1) := by decide +kernel
theorem dX14_dropHeld_11 : decode cX14_dropHeld 11 = .ok (.getfield 93, 3) := by decide +kernel
theorem dX14_dropHeld_14 : decode cX14_dropHeld 14 = .ok (.aload_n 0, 1) := by decide +kernel
theorem dX14_dropHeld_15 : decode cX14_dropHeld 15 = .ok (.getfield 361, 3) := by decide +kernel
theorem dX14_dropHeld_18 : decode cX14_dropHeld 18 = .ok (.iaload, 1) := by decide +kernel
theorem dX14_dropHeld_19 : decode cX14_dropHeld 19 = .ok (.ireturn, 1) := by decide +kernel
theorem dX14_grown_0 : decode cX14_grown 0 = .ok (.aload_n 0, 1) := by decide +kernel
theorem dX14_grown_1 : decode cX14_grown 1 = .ok (.getfield 81, 3) := by decide +kernel
theorem dX14_grown_4 : decode cX14_grown 4 = .ok (.bipush 64, 2) := by decide +kernel
theorem dX14_grown_6 : decode cX14_grown 6 = .ok (.aload_n 0, 1) := by decide +kernel
theorem dX14_grown_7 : decode cX14_grown 7 = .ok (.getfield 233, 3) := by decide +kernel
theorem dX14_grown_10 : decode cX14_grown 10 = .ok (.iadd, 1) := by decide +kernel
theorem dX14_grown_11 : decode cX14_grown 11 = .ok (.iload_n 1, 1) := by decide +kernel
theorem dX14_grown_12 : decode cX14_grown 12 = .ok (.iastore, 1) := by decide +kernel
theorem dX14_grown_13 : decode cX14_grown 13 = .ok (.aload_n 0, 1) := by decide +kernel
theorem dX14_grown_14 : decode cX14_grown 14 = .ok (.getfield 84, 3) := by decide +kernel
theorem dX14_grown_17 : decode cX14_grown 17 = .ok (.bipush 64, 2) := by decide +kernel
theorem dX14_grown_19 : decode cX14_grown 19 = .ok (.aload_n 0, 1) := by decide +kernel
theorem dX14_grown_20 : decode cX14_grown 20 = .ok (.getfield 233, 3) := by decide +kernel
theorem dX14_grown_23 : decode cX14_grown 23 = .ok (.iadd, 1) := by decide +kernel
theorem dX14_grown_24 : decode cX14_grown 24 = .ok (.iload_n 2, 1) := by decide +kernel
theorem dX14_grown_25 : decode cX14_grown 25 = .ok (.iastore, 1) := by decide +kernel
theorem dX14_grown_26 : decode cX14_grown 26 = .ok (.aload_n 0, 1) := by decide +kernel
theorem dX14_grown_27 : decode cX14_grown 27 = .ok (.getfield 87, 3) := by decide +kernel
theorem dX14_grown_30 : decode cX14_grown 30 = .ok (.bipush 64, 2) := by decide +kernel
theorem dX14_grown_32 : decode cX14_grown 32 = .ok (.aload_n 0, 1) := by decide +kernel
theorem dX14_grown_33 : decode cX14_grown 33 = .ok (.getfield 233, 3) := by decide +kernel
theorem dX14_grown_36 : decode cX14_grown 36 = .ok (.iadd, 1) := by decide +kernel
theorem dX14_grown_37 : decode cX14_grown 37 = .ok (.iload_n 3, 1) := by decide +kernel
theorem dX14_grown_38 : decode cX14_grown 38 = .ok (.iastore, 1) := by decide +kernel
theorem dX14_grown_39 : decode cX14_grown 39 = .ok (.aload_n 0, 1) := by decide +kernel
theorem dX14_grown_40 : decode cX14_grown 40 = .ok (.getfield 93, 3) := by decide +kernel
theorem dX14_grown_43 : decode cX14_grown 43 = .ok (.aload_n 0, 1) := by decide +kernel
theorem dX14_grown_44 : decode cX14_grown 44 = .ok (.getfield 361, 3) := by decide +kernel
theorem dX14_grown_47 : decode cX14_grown 47 = .ok (.aload_n 0, 1) := by decide +kernel
theorem dX14_grown_48 : decode cX14_grown 48 = .ok (.getfield 233, 3) := by decide +kernel
theorem dX14_grown_51 : decode cX14_grown 51 = .ok (.iastore, 1) := by decide +kernel
theorem dX14_grown_52 : decode cX14_grown 52 = .ok (.aload_n 0, 1) := by decide +kernel
theorem dX14_grown_53 : decode cX14_grown 53 = .ok (.dup, 1) := by decide +kernel
theorem dX14_grown_54 : decode cX14_grown 54 = .ok (.getfield 361, 3) := by decide +kernel
theorem dX14_grown_57 : decode cX14_grown 57 = .ok (.iconst 1, 1) := by decide +kernel
theorem dX14_grown_58 : decode cX14_grown 58 = .ok (.iadd, 1) := by decide +kernel
theorem dX14_grown_59 : decode cX14_grown 59 = .ok (.putfield 361, 3) := by decide +kernel
theorem dX14_grown_62 : decode cX14_grown 62 = .ok (.aload_n 0, 1) := by decide +kernel
theorem dX14_grown_63 : decode cX14_grown 63 = .ok (.dup, 1) := by decide +kernel
theorem dX14_grown_64 : decode cX14_grown 64 = .ok (.getfield 233, 3) := by decide +kernel
theorem dX14_grown_67 : decode cX14_grown 67 = .ok (.iconst 1, 1) := by decide +kernel
theorem dX14_grown_68 : decode cX14_grown 68 = .ok (.iadd, 1) := by decide +kernel
theorem dX14_grown_69 : decode cX14_grown 69 = .ok (.putfield 233, 3) := by decide +kernel
theorem dX14_grown_72 : decode cX14_grown 72 = .ok (.return_, 1) := by decide +kernel
theorem dX14_rank_0 : decode cX14_rank 0 = .ok (.iload_n 0, 1) := by decide +kernel
theorem dX14_rank_1 : decode cX14_rank 1 = .ok (.bipush 13, 2) := by decide +kernel
theorem dX14_rank_3 : decode cX14_rank 3 = .ok (.if_icmp .lt 8, 3) := by decide +kernel
theorem dX14_rank_6 : decode cX14_rank 6 = .ok (.bipush 6, 2) := by decide +kernel
theorem dX14_rank_8 : decode cX14_rank 8 = .ok (.goto 50, 3) := by decide +kernel
theorem dX14_rank_11 : decode cX14_rank 11 = .ok (.iload_n 0, 1) := by decide +kernel
theorem dX14_rank_12 : decode cX14_rank 12 = .ok (.bipush 11, 2) := by decide +kernel
theorem dX14_rank_14 : decode cX14_rank 14 = .ok (.if_icmp .lt 7, 3) := by decide +kernel
theorem dX14_rank_17 : decode cX14_rank 17 = .ok (.iconst 5, 1) := by decide +kernel
theorem dX14_rank_18 : decode cX14_rank 18 = .ok (.goto 40, 3) := by decide +kernel
theorem dX14_rank_21 : decode cX14_rank 21 = .ok (.iload_n 0, 1) := by decide +kernel
theorem dX14_rank_22 : decode cX14_rank 22 = .ok (.iconst 5, 1) := by decide +kernel
theorem dX14_rank_23 : decode cX14_rank 23 = .ok (.if_icmp .lt 7, 3) := by decide +kernel
theorem dX14_rank_26 : decode cX14_rank 26 = .ok (.iconst 4, 1) := by decide +kernel
theorem dX14_rank_27 : decode cX14_rank 27 = .ok (.goto 31, 3) := by decide +kernel
theorem dX14_rank_30 : decode cX14_rank 30 = .ok (.iload_n 0, 1) := by decide +kernel
theorem dX14_rank_31 : decode cX14_rank 31 = .ok (.iconst 2, 1) := by decide +kernel
theorem dX14_rank_32 : decode cX14_rank 32 = .ok (.if_icmp .ne 7, 3) := by decide +kernel
theorem dX14_rank_35 : decode cX14_rank 35 = .ok (.iconst 3, 1) := by decide +kernel
theorem dX14_rank_36 : decode cX14_rank 36 = .ok (.goto 22, 3) := by decide +kernel
theorem dX14_rank_39 : decode cX14_rank 39 = .ok (.iload_n 0, 1) := by decide +kernel
theorem dX14_rank_40 : decode cX14_rank 40 = .ok (.iconst 3, 1) := by decide +kernel
theorem dX14_rank_41 : decode cX14_rank 41 = .ok (.if_icmp .ne 7, 3) := by decide +kernel
theorem dX14_rank_44 : decode cX14_rank 44 = .ok (.iconst 2, 1) := by decide +kernel
theorem dX14_rank_45 : decode cX14_rank 45 = .ok (.goto 13, 3) := by decide +kernel
theorem dX14_rank_48 : decode cX14_rank 48 = .ok (.iload_n 0, 1) := by decide +kernel
theorem dX14_rank_49 : decode cX14_rank 49 = .ok (.iconst 4, 1) := by decide +kernel
theorem dX14_rank_50 : decode cX14_rank 50 = .ok (.if_icmp .ne 7, 3) := by decide +kernel
theorem dX14_rank_53 : decode cX14_rank 53 = .ok (.iconst 1, 1) := by decide +kernel
theorem dX14_rank_54 : decode cX14_rank 54 = .ok (.goto 4, 3) := by decide +kernel
theorem dX14_rank_57 : decode cX14_rank 57 = .ok (.iconst 0, 1) := by decide +kernel
theorem dX14_rank_58 : decode cX14_rank 58 = .ok (.ireturn, 1) := by decide +kernel
theorem dX14_bind_0 : decode cX14_bind 0 = .ok (.aload_n 0, 1) := by decide +kernel
theorem dX14_bind_1 : decode cX14_bind 1 = .ok (.getfield 364, 3) := by decide +kernel
theorem dX14_bind_4 : decode cX14_bind 4 = .ok (.ifCond .le 72, 3) := by decide +kernel
theorem dX14_bind_7 : decode cX14_bind 7 = .ok (.aload_n 0, 1) := by decide +kernel
theorem dX14_bind_8 : decode cX14_bind 8 = .ok (.getfield 90, 3) := by decide +kernel
theorem dX14_bind_11 : decode cX14_bind 11 = .ok (.aload_n 0, 1) := by decide +kernel
theorem dX14_bind_12 : decode cX14_bind 12 = .ok (.getfield 364, 3) := by decide +kernel
theorem dX14_bind_15 : decode cX14_bind 15 = .ok (.iconst 1, 1) := by decide +kernel
theorem dX14_bind_16 : decode cX14_bind 16 = .ok (.isub, 1) := by decide +kernel
theorem dX14_bind_17 : decode cX14_bind 17 = .ok (.iaload, 1) := by decide +kernel
theorem dX14_bind_18 : decode cX14_bind 18 = .ok (.invokestatic 367, 3) := by decide +kernel
theorem dX14_bind_21 : decode cX14_bind 21 = .ok (.iload_n 1, 1) := by decide +kernel
theorem dX14_bind_22 : decode cX14_bind 22 = .ok (.if_icmp .lt 54, 3) := by decide +kernel
theorem dX14_bind_25 : decode cX14_bind 25 = .ok (.aload_n 0, 1) := by decide +kernel
theorem dX14_bind_26 : decode cX14_bind 26 = .ok (.dup, 1) := by decide +kernel
theorem dX14_bind_27 : decode cX14_bind 27 = .ok (.getfield 364, 3) := by decide +kernel
theorem dX14_bind_30 : decode cX14_bind 30 = .ok (.iconst 1, 1) := by decide +kernel
theorem dX14_bind_31 : decode cX14_bind 31 = .ok (.isub, 1) := by decide +kernel
theorem dX14_bind_32 : decode cX14_bind 32 = .ok (.putfield 364, 3) := by decide +kernel
theorem dX14_bind_35 : decode cX14_bind 35 = .ok (.aload_n 0, 1) := by decide +kernel
theorem dX14_bind_36 : decode cX14_bind 36 = .ok (.getfield 90, 3) := by decide +kernel
theorem dX14_bind_39 : decode cX14_bind 39 = .ok (.aload_n 0, 1) := by decide +kernel
theorem dX14_bind_40 : decode cX14_bind 40 = .ok (.getfield 364, 3) := by decide +kernel
theorem dX14_bind_43 : decode cX14_bind 43 = .ok (.iaload, 1) := by decide +kernel
theorem dX14_bind_44 : decode cX14_bind 44 = .ok (.istore_n 2, 1) := by decide +kernel
theorem dX14_bind_45 : decode cX14_bind 45 = .ok (.iload_n 2, 1) := by decide +kernel
theorem dX14_bind_46 : decode cX14_bind 46 = .ok (.iconst 2, 1) := by decide +kernel
theorem dX14_bind_47 : decode cX14_bind 47 = .ok (.if_icmp .ne 7, 3) := by decide +kernel
theorem dX14_bind_50 : decode cX14_bind 50 = .ok (.iconst (-1), 1) := by decide +kernel
theorem dX14_bind_51 : decode cX14_bind 51 = .ok (.goto 7, 3) := by decide +kernel
theorem dX14_bind_54 : decode cX14_bind 54 = .ok (.aload_n 0, 1) := by decide +kernel
theorem dX14_bind_55 : decode cX14_bind 55 = .ok (.invokevirtual 371, 3) := by decide +kernel
theorem dX14_bind_58 : decode cX14_bind 58 = .ok (.istore_n 3, 1) := by decide +kernel
theorem dX14_bind_59 : decode cX14_bind 59 = .ok (.aload_n 0, 1) := by decide +kernel
theorem dX14_bind_60 : decode cX14_bind 60 = .ok (.invokevirtual 371, 3) := by decide +kernel
theorem dX14_bind_63 : decode cX14_bind 63 = .ok (.istore 4, 2) := by decide +kernel
theorem dX14_bind_65 : decode cX14_bind 65 = .ok (.aload_n 0, 1) := by decide +kernel
theorem dX14_bind_66 : decode cX14_bind 66 = .ok (.iload_n 2, 1) := by decide +kernel
theorem dX14_bind_67 : decode cX14_bind 67 = .ok (.iload 4, 2) := by decide +kernel
theorem dX14_bind_69 : decode cX14_bind 69 = .ok (.iload_n 3, 1) := by decide +kernel
theorem dX14_bind_70 : decode cX14_bind 70 = .ok (.invokevirtual 375, 3) := by decide +kernel
theorem dX14_bind_73 : decode cX14_bind 73 = .ok (.goto (-73), 3) := by decide +kernel
theorem dX14_bind_76 : decode cX14_bind 76 = .ok (.return_, 1) := by decide +kernel
theorem dX14_bounded_0 : decode cX14_bounded 0 = .ok (.aload_n 0, 1) := by decide +kernel
theorem dX14_bounded_1 : decode cX14_bounded 1 = .ok (.aload_n 0, 1) := by decide +kernel
theorem dX14_bounded_2 : decode cX14_bounded 2 = .ok (.getfield 407, 3) := by decide +kernel
theorem dX14_bounded_5 : decode cX14_bounded 5 = .ok (.ifCond .ne 19, 3) := by decide +kernel
theorem dX14_bounded_8 : decode cX14_bounded 8 = .ok (.lload_n 1, 1) := by decide +kernel
theorem dX14_bounded_9 : decode cX14_bounded 9 = .ok (.ldc2_w 410, 3) := by decide +kernel
theorem dX14_bounded_12 : decode cX14_bounded 12 = .ok (.lcmp, 1) := by decide +kernel
theorem dX14_bounded_13 : decode cX14_bounded 13 = .ok (.ifCond .gt 11, 3) := by decide +kernel
theorem dX14_bounded_16 : decode cX14_bounded 16 = .ok (.lload_n 1, 1) := by decide +kernel
theorem dX14_bounded_17 : decode cX14_bounded 17 = .ok (.ldc2_w 412, 3) := by decide +kernel
theorem dX14_bounded_20 : decode cX14_bounded 20 = .ok (.lcmp, 1) := by decide +kernel
theorem dX14_bounded_21 : decode cX14_bounded 21 = .ok (.ifCond .ge 7, 3) := by decide +kernel
theorem dX14_bounded_24 : decode cX14_bounded 24 = .ok (.iconst 1, 1) := by decide +kernel
theorem dX14_bounded_25 : decode cX14_bounded 25 = .ok (.goto 4, 3) := by decide +kernel
theorem dX14_bounded_28 : decode cX14_bounded 28 = .ok (.iconst 0, 1) := by decide +kernel
theorem dX14_bounded_29 : decode cX14_bounded 29 = .ok (.putfield 407, 3) := by decide +kernel
theorem dX14_bounded_32 : decode cX14_bounded 32 = .ok (.aload_n 0, 1) := by decide +kernel
theorem dX14_bounded_33 : decode cX14_bounded 33 = .ok (.getfield 407, 3) := by decide +kernel
theorem dX14_bounded_36 : decode cX14_bounded 36 = .ok (.ifCond .eq 7, 3) := by decide +kernel
theorem dX14_bounded_39 : decode cX14_bounded 39 = .ok (.lconst 0, 1) := by decide +kernel
theorem dX14_bounded_40 : decode cX14_bounded 40 = .ok (.goto 4, 3) := by decide +kernel
theorem dX14_bounded_43 : decode cX14_bounded 43 = .ok (.lload_n 1, 1) := by decide +kernel
theorem dX14_bounded_44 : decode cX14_bounded 44 = .ok (.lreturn, 1) := by decide +kernel
theorem dX14_cell_0 : decode cX14_cell 0 = .ok (.aload_n 0, 1) := by decide +kernel
theorem dX14_cell_1 : decode cX14_cell 1 = .ok (.iconst 0, 1) := by decide +kernel
theorem dX14_cell_2 : decode cX14_cell 2 = .ok (.putfield 148, 3) := by decide +kernel
theorem dX14_cell_5 : decode cX14_cell 5 = .ok (.aload_n 0, 1) := by decide +kernel
theorem dX14_cell_6 : decode cX14_cell 6 = .ok (.iload_n 1, 1) := by decide +kernel
theorem dX14_cell_7 : decode cX14_cell 7 = .ok (.invokevirtual 429, 3) := by decide +kernel
theorem dX14_cell_10 : decode cX14_cell 10 = .ok (.ifCond .ne 5, 3) := by decide +kernel
theorem dX14_cell_13 : decode cX14_cell 13 = .ok (.iconst (-1), 1) := by decide +kernel
theorem dX14_cell_14 : decode cX14_cell 14 = .ok (.ireturn, 1) := by decide +kernel
theorem dX14_cell_15 : decode cX14_cell 15 = .ok (.iconst 0, 1) := by decide +kernel
theorem dX14_cell_16 : decode cX14_cell 16 = .ok (.istore_n 3, 1) := by decide +kernel
theorem dX14_cell_17 : decode cX14_cell 17 = .ok (.iload_n 2, 1) := by decide +kernel
theorem dX14_cell_18 : decode cX14_cell 18 = .ok (.tableswitch 136 0 3 #[30, 37, 52, 97], 30) := by decide +kernel
theorem dX14_cell_48 : decode cX14_cell 48 = .ok (.aload_n 0, 1) := by decide +kernel
theorem dX14_cell_49 : decode cX14_cell 49 = .ok (.getfield 27, 3) := by decide +kernel
theorem dX14_cell_52 : decode cX14_cell 52 = .ok (.iload_n 1, 1) := by decide +kernel
theorem dX14_cell_53 : decode cX14_cell 53 = .ok (.iaload, 1) := by decide +kernel
theorem dX14_cell_54 : decode cX14_cell 54 = .ok (.ireturn, 1) := by decide +kernel
theorem dX14_cell_55 : decode cX14_cell 55 = .ok (.aload_n 0, 1) := by decide +kernel
theorem dX14_cell_56 : decode cX14_cell 56 = .ok (.getfield 30, 3) := by decide +kernel
theorem dX14_cell_59 : decode cX14_cell 59 = .ok (.iload_n 1, 1) := by decide +kernel
theorem dX14_cell_60 : decode cX14_cell 60 = .ok (.baload, 1) := by decide +kernel
theorem dX14_cell_61 : decode cX14_cell 61 = .ok (.ifCond .eq 7, 3) := by decide +kernel
theorem dX14_cell_64 : decode cX14_cell 64 = .ok (.iconst 1, 1) := by decide +kernel
theorem dX14_cell_65 : decode cX14_cell 65 = .ok (.goto 4, 3) := by decide +kernel
theorem dX14_cell_68 : decode cX14_cell 68 = .ok (.iconst 0, 1) := by decide +kernel
theorem dX14_cell_69 : decode cX14_cell 69 = .ok (.ireturn, 1) := by decide +kernel
theorem dX14_cell_70 : decode cX14_cell 70 = .ok (.iconst 0, 1) := by decide +kernel
theorem dX14_cell_71 : decode cX14_cell 71 = .ok (.istore 4, 2) := by decide +kernel
theorem dX14_cell_73 : decode cX14_cell 73 = .ok (.iload 4, 2) := by decide +kernel
theorem dX14_cell_75 : decode cX14_cell 75 = .ok (.aload_n 0, 1) := by decide +kernel
theorem dX14_cell_76 : decode cX14_cell 76 = .ok (.getfield 264, 3) := by decide +kernel
theorem dX14_cell_79 : decode cX14_cell 79 = .ok (.if_icmp .ge 20, 3) := by decide +kernel
theorem dX14_cell_82 : decode cX14_cell 82 = .ok (.aload_n 0, 1) := by decide +kernel
theorem dX14_cell_83 : decode cX14_cell 83 = .ok (.getfield 54, 3) := by decide +kernel
theorem dX14_cell_86 : decode cX14_cell 86 = .ok (.iload 4, 2) := by decide +kernel
theorem dX14_cell_88 : decode cX14_cell 88 = .ok (.iaload, 1) := by decide +kernel
theorem dX14_cell_89 : decode cX14_cell 89 = .ok (.iload_n 1, 1) := by decide +kernel
theorem dX14_cell_90 : decode cX14_cell 90 = .ok (.if_icmp .eq 9, 3) := by decide +kernel
theorem dX14_cell_93 : decode cX14_cell 93 = .ok (.iinc 4 1, 3) := by decide +kernel
theorem dX14_cell_96 : decode cX14_cell 96 = .ok (.goto (-23), 3) := by decide +kernel
theorem dX14_cell_99 : decode cX14_cell 99 = .ok (.iload 4, 2) := by decide +kernel
theorem dX14_cell_101 : decode cX14_cell 101 = .ok (.aload_n 0, 1) := by decide +kernel
theorem dX14_cell_102 : decode cX14_cell 102 = .ok (.getfield 264, 3) := by decide +kernel
theorem dX14_cell_105 : decode cX14_cell 105 = .ok (.if_icmp .ge 8, 3) := by decide +kernel
theorem dX14_cell_108 : decode cX14_cell 108 = .ok (.iload 4, 2) := by decide +kernel
theorem dX14_cell_110 : decode cX14_cell 110 = .ok (.goto 4, 3) := by decide +kernel
theorem dX14_cell_113 : decode cX14_cell 113 = .ok (.iconst (-1), 1) := by decide +kernel
theorem dX14_cell_114 : decode cX14_cell 114 = .ok (.ireturn, 1) := by decide +kernel
theorem dX14_cell_115 : decode cX14_cell 115 = .ok (.iconst 0, 1) := by decide +kernel
theorem dX14_cell_116 : decode cX14_cell 116 = .ok (.istore 4, 2) := by decide +kernel
theorem dX14_cell_118 : decode cX14_cell 118 = .ok (.iload 4, 2) := by decide +kernel
theorem dX14_cell_120 : decode cX14_cell 120 = .ok (.aload_n 0, 1) := by decide +kernel
theorem dX14_cell_121 : decode cX14_cell 121 = .ok (.getfield 298, 3) := by decide +kernel
theorem dX14_cell_124 : decode cX14_cell 124 = .ok (.if_icmp .ge 28, 3) := by decide +kernel
theorem dX14_cell_127 : decode cX14_cell 127 = .ok (.iload_n 3, 1) := by decide +kernel
theorem dX14_cell_128 : decode cX14_cell 128 = .ok (.aload_n 0, 1) := by decide +kernel
theorem dX14_cell_129 : decode cX14_cell 129 = .ok (.getfield 66, 3) := by decide +kernel
theorem dX14_cell_132 : decode cX14_cell 132 = .ok (.iload 4, 2) := by decide +kernel
theorem dX14_cell_134 : decode cX14_cell 134 = .ok (.iaload, 1) := by decide +kernel
theorem dX14_cell_135 : decode cX14_cell 135 = .ok (.iload_n 1, 1) := by decide +kernel
theorem dX14_cell_136 : decode cX14_cell 136 = .ok (.if_icmp .ne 7, 3) := by decide +kernel
theorem dX14_cell_139 : decode cX14_cell 139 = .ok (.iconst 1, 1) := by decide +kernel
theorem dX14_cell_140 : decode cX14_cell 140 = .ok (.goto 4, 3) := by decide +kernel
theorem dX14_cell_143 : decode cX14_cell 143 = .ok (.iconst 0, 1) := by decide +kernel
theorem dX14_cell_144 : decode cX14_cell 144 = .ok (.iadd, 1) := by decide +kernel
theorem dX14_cell_145 : decode cX14_cell 145 = .ok (.istore_n 3, 1) := by decide +kernel
theorem dX14_cell_146 : decode cX14_cell 146 = .ok (.iinc 4 1, 3) := by decide +kernel
theorem dX14_cell_149 : decode cX14_cell 149 = .ok (.goto (-31), 3) := by decide +kernel
theorem dX14_cell_152 : decode cX14_cell 152 = .ok (.iload_n 3, 1) := by decide +kernel
theorem dX14_cell_153 : decode cX14_cell 153 = .ok (.ireturn, 1) := by decide +kernel
theorem dX14_cell_154 : decode cX14_cell 154 = .ok (.iconst (-1), 1) := by decide +kernel
theorem dX14_cell_155 : decode cX14_cell 155 = .ok (.ireturn, 1) := by decide +kernel
theorem dX14_isDigit_0 : decode cX14_isDigit 0 = .ok (.iload_n 1, 1) := by decide +kernel
theorem dX14_isDigit_1 : decode cX14_isDigit 1 = .ok (.aload_n 0, 1) := by decide +kernel
theorem dX14_isDigit_2 : decode cX14_isDigit 2 = .ok (.getfield 160, 3) := by decide +kernel
theorem dX14_isDigit_5 : decode cX14_isDigit 5 = .ok (.if_icmp .ge 29, 3) := by decide +kernel
theorem dX14_isDigit_8 : decode cX14_isDigit 8 = .ok (.aload_n 0, 1) := by decide +kernel
theorem dX14_isDigit_9 : decode cX14_isDigit 9 = .ok (.getfield 7, 3) := by decide +kernel
theorem dX14_isDigit_12 : decode cX14_isDigit 12 = .ok (.iload_n 1, 1) := by decide +kernel
theorem dX14_isDigit_13 : decode cX14_isDigit 13 = .ok (.iaload, 1) := by decide +kernel
theorem dX14_isDigit_14 : decode cX14_isDigit 14 = .ok (.bipush 48, 2) := by decide +kernel
theorem dX14_isDigit_16 : decode cX14_isDigit 16 = .ok (.if_icmp .lt 18, 3) := by decide +kernel
theorem dX14_isDigit_19 : decode cX14_isDigit 19 = .ok (.aload_n 0, 1) := by decide +kernel
theorem dX14_isDigit_20 : decode cX14_isDigit 20 = .ok (.getfield 7, 3) := by decide +kernel
theorem dX14_isDigit_23 : decode cX14_isDigit 23 = .ok (.iload_n 1, 1) := by decide +kernel
theorem dX14_isDigit_24 : decode cX14_isDigit 24 = .ok (.iaload, 1) := by decide +kernel
theorem dX14_isDigit_25 : decode cX14_isDigit 25 = .ok (.bipush 57, 2) := by decide +kernel
theorem dX14_isDigit_27 : decode cX14_isDigit 27 = .ok (.if_icmp .gt 7, 3) := by decide +kernel
theorem dX14_isDigit_30 : decode cX14_isDigit 30 = .ok (.iconst 1, 1) := by decide +kernel
theorem dX14_isDigit_31 : decode cX14_isDigit 31 = .ok (.goto 4, 3) := by decide +kernel
theorem dX14_isDigit_34 : decode cX14_isDigit 34 = .ok (.iconst 0, 1) := by decide +kernel
theorem dX14_isDigit_35 : decode cX14_isDigit 35 = .ok (.ireturn, 1) := by decide +kernel
theorem dX14_isSmall_0 : decode cX14_isSmall 0 = .ok (.iload_n 1, 1) := by decide +kernel
theorem dX14_isSmall_1 : decode cX14_isSmall 1 = .ok (.aload_n 0, 1) := by decide +kernel
theorem dX14_isSmall_2 : decode cX14_isSmall 2 = .ok (.getfield 160, 3) := by decide +kernel
theorem dX14_isSmall_5 : decode cX14_isSmall 5 = .ok (.if_icmp .ge 29, 3) := by decide +kernel
theorem dX14_isSmall_8 : decode cX14_isSmall 8 = .ok (.aload_n 0, 1) := by decide +kernel
theorem dX14_isSmall_9 : decode cX14_isSmall 9 = .ok (.getfield 7, 3) := by decide +kernel
theorem dX14_isSmall_12 : decode cX14_isSmall 12 = .ok (.iload_n 1, 1) := by decide +kernel
theorem dX14_isSmall_13 : decode cX14_isSmall 13 = .ok (.iaload, 1) := by decide +kernel
theorem dX14_isSmall_14 : decode cX14_isSmall 14 = .ok (.bipush 97, 2) := by decide +kernel
theorem dX14_isSmall_16 : decode cX14_isSmall 16 = .ok (.if_icmp .lt 18, 3) := by decide +kernel
theorem dX14_isSmall_19 : decode cX14_isSmall 19 = .ok (.aload_n 0, 1) := by decide +kernel
theorem dX14_isSmall_20 : decode cX14_isSmall 20 = .ok (.getfield 7, 3) := by decide +kernel
theorem dX14_isSmall_23 : decode cX14_isSmall 23 = .ok (.iload_n 1, 1) := by decide +kernel
theorem dX14_isSmall_24 : decode cX14_isSmall 24 = .ok (.iaload, 1) := by decide +kernel
theorem dX14_isSmall_25 : decode cX14_isSmall 25 = .ok (.bipush 122, 2) := by decide +kernel
theorem dX14_isSmall_27 : decode cX14_isSmall 27 = .ok (.if_icmp .gt 7, 3) := by decide +kernel
theorem dX14_isSmall_30 : decode cX14_isSmall 30 = .ok (.iconst 1, 1) := by decide +kernel
theorem dX14_isSmall_31 : decode cX14_isSmall 31 = .ok (.goto 4, 3) := by decide +kernel
theorem dX14_isSmall_34 : decode cX14_isSmall 34 = .ok (.iconst 0, 1) := by decide +kernel
theorem dX14_isSmall_35 : decode cX14_isSmall 35 = .ok (.ireturn, 1) := by decide +kernel
theorem dX14_packed_0 : decode cX14_packed 0 = .ok (.iconst 0, 1) := by decide +kernel
theorem dX14_packed_1 : decode cX14_packed 1 = .ok (.istore_n 3, 1) := by decide +kernel
theorem dX14_packed_2 : decode cX14_packed 2 = .ok (.iload_n 1, 1) := by decide +kernel
theorem dX14_packed_3 : decode cX14_packed 3 = .ok (.istore 4, 2) := by decide +kernel
theorem dX14_packed_5 : decode cX14_packed 5 = .ok (.iload 4, 2) := by decide +kernel
theorem dX14_packed_7 : decode cX14_packed 7 = .ok (.iload_n 1, 1) := by decide +kernel
theorem dX14_packed_8 : decode cX14_packed 8 = .ok (.bipush 6, 2) := by decide +kernel
theorem dX14_packed_10 : decode cX14_packed 10 = .ok (.iadd, 1) := by decide +kernel
theorem dX14_packed_11 : decode cX14_packed 11 = .ok (.if_icmp .ge 34, 3) := by decide +kernel
theorem dX14_packed_14 : decode cX14_packed 14 = .ok (.iload_n 3, 1) := by decide +kernel
theorem dX14_packed_15 : decode cX14_packed 15 = .ok (.iconst 5, 1) := by decide +kernel
theorem dX14_packed_16 : decode cX14_packed 16 = .ok (.ishl, 1) := by decide +kernel
theorem dX14_packed_17 : decode cX14_packed 17 = .ok (.iload 4, 2) := by decide +kernel
theorem dX14_packed_19 : decode cX14_packed 19 = .ok (.iload_n 2, 1) := by decide +kernel
theorem dX14_packed_20 : decode cX14_packed 20 = .ok (.if_icmp .ge 16, 3) := by decide +kernel
theorem dX14_packed_23 : decode cX14_packed 23 = .ok (.aload_n 0, 1) := by decide +kernel
theorem dX14_packed_24 : decode cX14_packed 24 = .ok (.getfield 7, 3) := by decide +kernel
theorem dX14_packed_27 : decode cX14_packed 27 = .ok (.iload 4, 2) := by decide +kernel
theorem dX14_packed_29 : decode cX14_packed 29 = .ok (.iaload, 1) := by decide +kernel
theorem dX14_packed_30 : decode cX14_packed 30 = .ok (.bipush 96, 2) := by decide +kernel
theorem dX14_packed_32 : decode cX14_packed 32 = .ok (.isub, 1) := by decide +kernel
theorem dX14_packed_33 : decode cX14_packed 33 = .ok (.goto 4, 3) := by decide +kernel
theorem dX14_packed_36 : decode cX14_packed 36 = .ok (.iconst 0, 1) := by decide +kernel
theorem dX14_packed_37 : decode cX14_packed 37 = .ok (.ior, 1) := by decide +kernel
theorem dX14_packed_38 : decode cX14_packed 38 = .ok (.istore_n 3, 1) := by decide +kernel
theorem dX14_packed_39 : decode cX14_packed 39 = .ok (.iinc 4 1, 3) := by decide +kernel
theorem dX14_packed_42 : decode cX14_packed 42 = .ok (.goto (-37), 3) := by decide +kernel
theorem dX14_packed_45 : decode cX14_packed 45 = .ok (.iload_n 3, 1) := by decide +kernel
theorem dX14_packed_46 : decode cX14_packed 46 = .ok (.ireturn, 1) := by decide +kernel
theorem dX14_signToken_0 : decode cX14_signToken 0 = .ok (.aload_n 0, 1) := by decide +kernel
theorem dX14_signToken_1 : decode cX14_signToken 1 = .ok (.aload_n 0, 1) := by decide +kernel
theorem dX14_signToken_2 : decode cX14_signToken 2 = .ok (.getfield 7, 3) := by decide +kernel
theorem dX14_signToken_5 : decode cX14_signToken 5 = .ok (.aload_n 0, 1) := by decide +kernel
theorem dX14_signToken_6 : decode cX14_signToken 6 = .ok (.getfield 163, 3) := by decide +kernel
theorem dX14_signToken_9 : decode cX14_signToken 9 = .ok (.iaload, 1) := by decide +kernel
theorem dX14_signToken_10 : decode cX14_signToken 10 = .ok (.putfield 177, 3) := by decide +kernel
theorem dX14_signToken_13 : decode cX14_signToken 13 = .ok (.aload_n 0, 1) := by decide +kernel
theorem dX14_signToken_14 : decode cX14_signToken 14 = .ok (.dup, 1) := by decide +kernel
theorem dX14_signToken_15 : decode cX14_signToken 15 = .ok (.getfield 163, 3) := by decide +kernel
theorem dX14_signToken_18 : decode cX14_signToken 18 = .ok (.iconst 1, 1) := by decide +kernel
theorem dX14_signToken_19 : decode cX14_signToken 19 = .ok (.iadd, 1) := by decide +kernel
theorem dX14_signToken_20 : decode cX14_signToken 20 = .ok (.putfield 163, 3) := by decide +kernel
theorem dX14_signToken_23 : decode cX14_signToken 23 = .ok (.aload_n 0, 1) := by decide +kernel
theorem dX14_signToken_24 : decode cX14_signToken 24 = .ok (.getfield 177, 3) := by decide +kernel
theorem dX14_signToken_27 : decode cX14_signToken 27 = .ok (.bipush 60, 2) := by decide +kernel
theorem dX14_signToken_29 : decode cX14_signToken 29 = .ok (.if_icmp .eq 21, 3) := by decide +kernel
theorem dX14_signToken_32 : decode cX14_signToken 32 = .ok (.aload_n 0, 1) := by decide +kernel
theorem dX14_signToken_33 : decode cX14_signToken 33 = .ok (.getfield 177, 3) := by decide +kernel
theorem dX14_signToken_36 : decode cX14_signToken 36 = .ok (.bipush 62, 2) := by decide +kernel
theorem dX14_signToken_38 : decode cX14_signToken 38 = .ok (.if_icmp .eq 12, 3) := by decide +kernel
theorem dX14_signToken_41 : decode cX14_signToken 41 = .ok (.aload_n 0, 1) := by decide +kernel
theorem dX14_signToken_42 : decode cX14_signToken 42 = .ok (.getfield 177, 3) := by decide +kernel
theorem dX14_signToken_45 : decode cX14_signToken 45 = .ok (.bipush 61, 2) := by decide +kernel
theorem dX14_signToken_47 : decode cX14_signToken 47 = .ok (.if_icmp .ne 151, 3) := by decide +kernel
theorem dX14_signToken_50 : decode cX14_signToken 50 = .ok (.aload_n 0, 1) := by decide +kernel
theorem dX14_signToken_51 : decode cX14_signToken 51 = .ok (.getfield 163, 3) := by decide +kernel
theorem dX14_signToken_54 : decode cX14_signToken 54 = .ok (.aload_n 0, 1) := by decide +kernel
theorem dX14_signToken_55 : decode cX14_signToken 55 = .ok (.getfield 160, 3) := by decide +kernel
theorem dX14_signToken_58 : decode cX14_signToken 58 = .ok (.if_icmp .ge 15, 3) := by decide +kernel
theorem dX14_signToken_61 : decode cX14_signToken 61 = .ok (.aload_n 0, 1) := by decide +kernel
theorem dX14_signToken_62 : decode cX14_signToken 62 = .ok (.getfield 7, 3) := by decide +kernel
theorem dX14_signToken_65 : decode cX14_signToken 65 = .ok (.aload_n 0, 1) := by decide +kernel
theorem dX14_signToken_66 : decode cX14_signToken 66 = .ok (.getfield 163, 3) := by decide +kernel
theorem dX14_signToken_69 : decode cX14_signToken 69 = .ok (.iaload, 1) := by decide +kernel
theorem dX14_signToken_70 : decode cX14_signToken 70 = .ok (.goto 4, 3) := by decide +kernel
theorem dX14_signToken_73 : decode cX14_signToken 73 = .ok (.iconst 0, 1) := by decide +kernel
theorem dX14_signToken_74 : decode cX14_signToken 74 = .ok (.istore_n 1, 1) := by decide +kernel
theorem dX14_signToken_75 : decode cX14_signToken 75 = .ok (.aload_n 0, 1) := by decide +kernel
theorem dX14_signToken_76 : decode cX14_signToken 76 = .ok (.getfield 177, 3) := by decide +kernel
theorem dX14_signToken_79 : decode cX14_signToken 79 = .ok (.bipush 61, 2) := by decide +kernel
theorem dX14_signToken_81 : decode cX14_signToken 81 = .ok (.if_icmp .eq 13, 3) := by decide +kernel
theorem dX14_signToken_84 : decode cX14_signToken 84 = .ok (.iload_n 1, 1) := by decide +kernel
theorem dX14_signToken_85 : decode cX14_signToken 85 = .ok (.bipush 61, 2) := by decide +kernel
theorem dX14_signToken_87 : decode cX14_signToken 87 = .ok (.if_icmp .ne 7, 3) := by decide +kernel
theorem dX14_signToken_90 : decode cX14_signToken 90 = .ok (.iconst 1, 1) := by decide +kernel
theorem dX14_signToken_91 : decode cX14_signToken 91 = .ok (.goto 4, 3) := by decide +kernel
theorem dX14_signToken_94 : decode cX14_signToken 94 = .ok (.iconst 0, 1) := by decide +kernel
theorem dX14_signToken_95 : decode cX14_signToken 95 = .ok (.istore_n 2, 1) := by decide +kernel
theorem dX14_signToken_96 : decode cX14_signToken 96 = .ok (.aload_n 0, 1) := by decide +kernel
theorem dX14_signToken_97 : decode cX14_signToken 97 = .ok (.getfield 177, 3) := by decide +kernel
theorem dX14_signToken_100 : decode cX14_signToken 100 = .ok (.bipush 60, 2) := by decide +kernel
theorem dX14_signToken_102 : decode cX14_signToken 102 = .ok (.if_icmp .ne 13, 3) := by decide +kernel
theorem dX14_signToken_105 : decode cX14_signToken 105 = .ok (.iload_n 1, 1) := by decide +kernel
theorem dX14_signToken_106 : decode cX14_signToken 106 = .ok (.bipush 62, 2) := by decide +kernel
theorem dX14_signToken_108 : decode cX14_signToken 108 = .ok (.if_icmp .ne 7, 3) := by decide +kernel
theorem dX14_signToken_111 : decode cX14_signToken 111 = .ok (.iconst 1, 1) := by decide +kernel
theorem dX14_signToken_112 : decode cX14_signToken 112 = .ok (.goto 4, 3) := by decide +kernel
theorem dX14_signToken_115 : decode cX14_signToken 115 = .ok (.iconst 0, 1) := by decide +kernel
theorem dX14_signToken_116 : decode cX14_signToken 116 = .ok (.istore_n 3, 1) := by decide +kernel
theorem dX14_signToken_117 : decode cX14_signToken 117 = .ok (.iload_n 2, 1) := by decide +kernel
theorem dX14_signToken_118 : decode cX14_signToken 118 = .ok (.ifCond .ne 7, 3) := by decide +kernel
theorem dX14_signToken_121 : decode cX14_signToken 121 = .ok (.iload_n 3, 1) := by decide +kernel
theorem dX14_signToken_122 : decode cX14_signToken 122 = .ok (.ifCond .eq 13, 3) := by decide +kernel
theorem dX14_signToken_125 : decode cX14_signToken 125 = .ok (.aload_n 0, 1) := by decide +kernel
theorem dX14_signToken_126 : decode cX14_signToken 126 = .ok (.dup, 1) := by decide +kernel
theorem dX14_signToken_127 : decode cX14_signToken 127 = .ok (.getfield 163, 3) := by decide +kernel
theorem dX14_signToken_130 : decode cX14_signToken 130 = .ok (.iconst 1, 1) := by decide +kernel
theorem dX14_signToken_131 : decode cX14_signToken 131 = .ok (.iadd, 1) := by decide +kernel
theorem dX14_signToken_132 : decode cX14_signToken 132 = .ok (.putfield 163, 3) := by decide +kernel
theorem dX14_signToken_135 : decode cX14_signToken 135 = .ok (.aload_n 0, 1) := by decide +kernel
theorem dX14_signToken_136 : decode cX14_signToken 136 = .ok (.iconst 5, 1) := by decide +kernel
theorem dX14_signToken_137 : decode cX14_signToken 137 = .ok (.putfield 166, 3) := by decide +kernel
theorem dX14_signToken_140 : decode cX14_signToken 140 = .ok (.aload_n 0, 1) := by decide +kernel
theorem dX14_signToken_141 : decode cX14_signToken 141 = .ok (.aload_n 0, 1) := by decide +kernel
theorem dX14_signToken_142 : decode cX14_signToken 142 = .ok (.getfield 177, 3) := by decide +kernel
theorem dX14_signToken_145 : decode cX14_signToken 145 = .ok (.bipush 61, 2) := by decide +kernel
theorem dX14_signToken_147 : decode cX14_signToken 147 = .ok (.if_icmp .ne 7, 3) := by decide +kernel
theorem dX14_signToken_150 : decode cX14_signToken 150 = .ok (.iconst 2, 1) := by decide +kernel
theorem dX14_signToken_151 : decode cX14_signToken 151 = .ok (.goto 41, 3) := by decide +kernel
theorem dX14_signToken_154 : decode cX14_signToken 154 = .ok (.aload_n 0, 1) := by decide +kernel
theorem dX14_signToken_155 : decode cX14_signToken 155 = .ok (.getfield 177, 3) := by decide +kernel
theorem dX14_signToken_158 : decode cX14_signToken 158 = .ok (.bipush 60, 2) := by decide +kernel
theorem dX14_signToken_160 : decode cX14_signToken 160 = .ok (.if_icmp .ne 23, 3) := by decide +kernel
theorem dX14_signToken_163 : decode cX14_signToken 163 = .ok (.iload_n 2, 1) := by decide +kernel
theorem dX14_signToken_164 : decode cX14_signToken 164 = .ok (.ifCond .eq 7, 3) := by decide +kernel
theorem dX14_signToken_167 : decode cX14_signToken 167 = .ok (.iconst 1, 1) := by decide +kernel
theorem dX14_signToken_168 : decode cX14_signToken 168 = .ok (.goto 24, 3) := by decide +kernel
theorem dX14_signToken_171 : decode cX14_signToken 171 = .ok (.iload_n 3, 1) := by decide +kernel
theorem dX14_signToken_172 : decode cX14_signToken 172 = .ok (.ifCond .eq 7, 3) := by decide +kernel
theorem dX14_signToken_175 : decode cX14_signToken 175 = .ok (.iconst 3, 1) := by decide +kernel
theorem dX14_signToken_176 : decode cX14_signToken 176 = .ok (.goto 16, 3) := by decide +kernel
theorem dX14_signToken_179 : decode cX14_signToken 179 = .ok (.iconst 0, 1) := by decide +kernel
theorem dX14_signToken_180 : decode cX14_signToken 180 = .ok (.goto 12, 3) := by decide +kernel
theorem dX14_signToken_183 : decode cX14_signToken 183 = .ok (.iload_n 2, 1) := by decide +kernel
theorem dX14_signToken_184 : decode cX14_signToken 184 = .ok (.ifCond .eq 7, 3) := by decide +kernel
theorem dX14_signToken_187 : decode cX14_signToken 187 = .ok (.iconst 4, 1) := by decide +kernel
theorem dX14_signToken_188 : decode cX14_signToken 188 = .ok (.goto 4, 3) := by decide +kernel
theorem dX14_signToken_191 : decode cX14_signToken 191 = .ok (.iconst 5, 1) := by decide +kernel
theorem dX14_signToken_192 : decode cX14_signToken 192 = .ok (.putfield 177, 3) := by decide +kernel
theorem dX14_signToken_195 : decode cX14_signToken 195 = .ok (.goto 95, 3) := by decide +kernel
theorem dX14_signToken_198 : decode cX14_signToken 198 = .ok (.aload_n 0, 1) := by decide +kernel
theorem dX14_signToken_199 : decode cX14_signToken 199 = .ok (.getfield 177, 3) := by decide +kernel
theorem dX14_signToken_202 : decode cX14_signToken 202 = .ok (.bipush 59, 2) := by decide +kernel
theorem dX14_signToken_204 : decode cX14_signToken 204 = .ok (.if_icmp .eq 66, 3) := by decide +kernel
theorem dX14_signToken_207 : decode cX14_signToken 207 = .ok (.aload_n 0, 1) := by decide +kernel
theorem dX14_signToken_208 : decode cX14_signToken 208 = .ok (.getfield 177, 3) := by decide +kernel
theorem dX14_signToken_211 : decode cX14_signToken 211 = .ok (.bipush 40, 2) := by decide +kernel
theorem dX14_signToken_213 : decode cX14_signToken 213 = .ok (.if_icmp .eq 57, 3) := by decide +kernel
theorem dX14_signToken_216 : decode cX14_signToken 216 = .ok (.aload_n 0, 1) := by decide +kernel
theorem dX14_signToken_217 : decode cX14_signToken 217 = .ok (.getfield 177, 3) := by decide +kernel
theorem dX14_signToken_220 : decode cX14_signToken 220 = .ok (.bipush 41, 2) := by decide +kernel
theorem dX14_signToken_222 : decode cX14_signToken 222 = .ok (.if_icmp .eq 48, 3) := by decide +kernel
theorem dX14_signToken_225 : decode cX14_signToken 225 = .ok (.aload_n 0, 1) := by decide +kernel
theorem dX14_signToken_226 : decode cX14_signToken 226 = .ok (.getfield 177, 3) := by decide +kernel
theorem dX14_signToken_229 : decode cX14_signToken 229 = .ok (.bipush 43, 2) := by decide +kernel
theorem dX14_signToken_231 : decode cX14_signToken 231 = .ok (.if_icmp .eq 39, 3) := by decide +kernel
theorem dX14_signToken_234 : decode cX14_signToken 234 = .ok (.aload_n 0, 1) := by decide +kernel
theorem dX14_signToken_235 : decode cX14_signToken 235 = .ok (.getfield 177, 3) := by decide +kernel
theorem dX14_signToken_238 : decode cX14_signToken 238 = .ok (.bipush 45, 2) := by decide +kernel
theorem dX14_signToken_240 : decode cX14_signToken 240 = .ok (.if_icmp .eq 30, 3) := by decide +kernel
theorem dX14_signToken_243 : decode cX14_signToken 243 = .ok (.aload_n 0, 1) := by decide +kernel
theorem dX14_signToken_244 : decode cX14_signToken 244 = .ok (.getfield 177, 3) := by decide +kernel
theorem dX14_signToken_247 : decode cX14_signToken 247 = .ok (.bipush 42, 2) := by decide +kernel
theorem dX14_signToken_249 : decode cX14_signToken 249 = .ok (.if_icmp .eq 21, 3) := by decide +kernel
theorem dX14_signToken_252 : decode cX14_signToken 252 = .ok (.aload_n 0, 1) := by decide +kernel
theorem dX14_signToken_253 : decode cX14_signToken 253 = .ok (.getfield 177, 3) := by decide +kernel
theorem dX14_signToken_256 : decode cX14_signToken 256 = .ok (.bipush 47, 2) := by decide +kernel
theorem dX14_signToken_258 : decode cX14_signToken 258 = .ok (.if_icmp .eq 12, 3) := by decide +kernel
theorem dX14_signToken_261 : decode cX14_signToken 261 = .ok (.aload_n 0, 1) := by decide +kernel
theorem dX14_signToken_262 : decode cX14_signToken 262 = .ok (.getfield 177, 3) := by decide +kernel
theorem dX14_signToken_265 : decode cX14_signToken 265 = .ok (.bipush 37, 2) := by decide +kernel
theorem dX14_signToken_267 : decode cX14_signToken 267 = .ok (.if_icmp .ne 7, 3) := by decide +kernel
theorem dX14_signToken_270 : decode cX14_signToken 270 = .ok (.iconst 1, 1) := by decide +kernel
theorem dX14_signToken_271 : decode cX14_signToken 271 = .ok (.goto 4, 3) := by decide +kernel
theorem dX14_signToken_274 : decode cX14_signToken 274 = .ok (.iconst 0, 1) := by decide +kernel
theorem dX14_signToken_275 : decode cX14_signToken 275 = .ok (.istore_n 1, 1) := by decide +kernel
theorem dX14_signToken_276 : decode cX14_signToken 276 = .ok (.aload_n 0, 1) := by decide +kernel
theorem dX14_signToken_277 : decode cX14_signToken 277 = .ok (.iload_n 1, 1) := by decide +kernel
theorem dX14_signToken_278 : decode cX14_signToken 278 = .ok (.ifCond .eq 7, 3) := by decide +kernel
theorem dX14_signToken_281 : decode cX14_signToken 281 = .ok (.iconst 4, 1) := by decide +kernel
theorem dX14_signToken_282 : decode cX14_signToken 282 = .ok (.goto 5, 3) := by decide +kernel
theorem dX14_signToken_285 : decode cX14_signToken 285 = .ok (.bipush 6, 2) := by decide +kernel
theorem dX14_signToken_287 : decode cX14_signToken 287 = .ok (.putfield 166, 3) := by decide +kernel
theorem dX14_signToken_290 : decode cX14_signToken 290 = .ok (.return_, 1) := by decide +kernel
theorem dX14_wordAt_0 : decode cX14_wordAt 0 = .ok (.iconst 0, 1) := by decide +kernel
theorem dX14_wordAt_1 : decode cX14_wordAt 1 = .ok (.istore_n 3, 1) := by decide +kernel
theorem dX14_wordAt_2 : decode cX14_wordAt 2 = .ok (.iconst 0, 1) := by decide +kernel
theorem dX14_wordAt_3 : decode cX14_wordAt 3 = .ok (.istore 4, 2) := by decide +kernel
theorem dX14_wordAt_5 : decode cX14_wordAt 5 = .ok (.iload 4, 2) := by decide +kernel
theorem dX14_wordAt_7 : decode cX14_wordAt 7 = .ok (.aload_n 0, 1) := by decide +kernel
theorem dX14_wordAt_8 : decode cX14_wordAt 8 = .ok (.getfield 13, 3) := by decide +kernel
theorem dX14_wordAt_11 : decode cX14_wordAt 11 = .ok (.arraylength, 1) := by decide +kernel
theorem dX14_wordAt_12 : decode cX14_wordAt 12 = .ok (.if_icmp .ge 114, 3) := by decide +kernel
theorem dX14_wordAt_15 : decode cX14_wordAt 15 = .ok (.iconst 0, 1) := by decide +kernel
theorem dX14_wordAt_16 : decode cX14_wordAt 16 = .ok (.istore 5, 2) := by decide +kernel
theorem dX14_wordAt_18 : decode cX14_wordAt 18 = .ok (.aload_n 0, 1) := by decide +kernel
theorem dX14_wordAt_19 : decode cX14_wordAt 19 = .ok (.getfield 13, 3) := by decide +kernel
theorem dX14_wordAt_22 : decode cX14_wordAt 22 = .ok (.iload 4, 2) := by decide +kernel
theorem dX14_wordAt_24 : decode cX14_wordAt 24 = .ok (.iload 5, 2) := by decide +kernel
theorem dX14_wordAt_26 : decode cX14_wordAt 26 = .ok (.iadd, 1) := by decide +kernel
theorem dX14_wordAt_27 : decode cX14_wordAt 27 = .ok (.iaload, 1) := by decide +kernel
theorem dX14_wordAt_28 : decode cX14_wordAt 28 = .ok (.bipush 32, 2) := by decide +kernel
theorem dX14_wordAt_30 : decode cX14_wordAt 30 = .ok (.if_icmp .eq 9, 3) := by decide +kernel
theorem dX14_wordAt_33 : decode cX14_wordAt 33 = .ok (.iinc 5 1, 3) := by decide +kernel
theorem dX14_wordAt_36 : decode cX14_wordAt 36 = .ok (.goto (-18), 3) := by decide +kernel
theorem dX14_wordAt_39 : decode cX14_wordAt 39 = .ok (.iload 5, 2) := by decide +kernel
theorem dX14_wordAt_41 : decode cX14_wordAt 41 = .ok (.iload_n 2, 1) := by decide +kernel
theorem dX14_wordAt_42 : decode cX14_wordAt 42 = .ok (.iload_n 1, 1) := by decide +kernel
theorem dX14_wordAt_43 : decode cX14_wordAt 43 = .ok (.isub, 1) := by decide +kernel
theorem dX14_wordAt_44 : decode cX14_wordAt 44 = .ok (.if_icmp .ne 7, 3) := by decide +kernel
theorem dX14_wordAt_47 : decode cX14_wordAt 47 = .ok (.iconst 1, 1) := by decide +kernel
theorem dX14_wordAt_48 : decode cX14_wordAt 48 = .ok (.goto 4, 3) := by decide +kernel
theorem dX14_wordAt_51 : decode cX14_wordAt 51 = .ok (.iconst 0, 1) := by decide +kernel
theorem dX14_wordAt_52 : decode cX14_wordAt 52 = .ok (.istore 6, 2) := by decide +kernel
theorem dX14_wordAt_54 : decode cX14_wordAt 54 = .ok (.iconst 0, 1) := by decide +kernel
theorem dX14_wordAt_55 : decode cX14_wordAt 55 = .ok (.istore 7, 2) := by decide +kernel
theorem dX14_wordAt_57 : decode cX14_wordAt 57 = .ok (.iload 7, 2) := by decide +kernel
theorem dX14_wordAt_59 : decode cX14_wordAt 59 = .ok (.iload 5, 2) := by decide +kernel
theorem dX14_wordAt_61 : decode cX14_wordAt 61 = .ok (.if_icmp .ge 43, 3) := by decide +kernel
theorem dX14_wordAt_64 : decode cX14_wordAt 64 = .ok (.iload 6, 2) := by decide +kernel
theorem dX14_wordAt_66 : decode cX14_wordAt 66 = .ok (.ifCond .eq 38, 3) := by decide +kernel
theorem dX14_wordAt_69 : decode cX14_wordAt 69 = .ok (.aload_n 0, 1) := by decide +kernel
theorem dX14_wordAt_70 : decode cX14_wordAt 70 = .ok (.getfield 13, 3) := by decide +kernel
theorem dX14_wordAt_73 : decode cX14_wordAt 73 = .ok (.iload 4, 2) := by decide +kernel
theorem dX14_wordAt_75 : decode cX14_wordAt 75 = .ok (.iload 7, 2) := by decide +kernel
theorem dX14_wordAt_77 : decode cX14_wordAt 77 = .ok (.iadd, 1) := by decide +kernel
theorem dX14_wordAt_78 : decode cX14_wordAt 78 = .ok (.iaload, 1) := by decide +kernel
theorem dX14_wordAt_79 : decode cX14_wordAt 79 = .ok (.aload_n 0, 1) := by decide +kernel
theorem dX14_wordAt_80 : decode cX14_wordAt 80 = .ok (.getfield 7, 3) := by decide +kernel
theorem dX14_wordAt_83 : decode cX14_wordAt 83 = .ok (.iload_n 1, 1) := by decide +kernel
theorem dX14_wordAt_84 : decode cX14_wordAt 84 = .ok (.iload 7, 2) := by decide +kernel
theorem dX14_wordAt_86 : decode cX14_wordAt 86 = .ok (.iadd, 1) := by decide +kernel
theorem dX14_wordAt_87 : decode cX14_wordAt 87 = .ok (.iaload, 1) := by decide +kernel
theorem dX14_wordAt_88 : decode cX14_wordAt 88 = .ok (.if_icmp .ne 7, 3) := by decide +kernel
theorem dX14_wordAt_91 : decode cX14_wordAt 91 = .ok (.iconst 1, 1) := by decide +kernel
theorem dX14_wordAt_92 : decode cX14_wordAt 92 = .ok (.goto 4, 3) := by decide +kernel
theorem dX14_wordAt_95 : decode cX14_wordAt 95 = .ok (.iconst 0, 1) := by decide +kernel
theorem dX14_wordAt_96 : decode cX14_wordAt 96 = .ok (.istore 6, 2) := by decide +kernel
theorem dX14_wordAt_98 : decode cX14_wordAt 98 = .ok (.iinc 7 1, 3) := by decide +kernel
theorem dX14_wordAt_101 : decode cX14_wordAt 101 = .ok (.goto (-44), 3) := by decide +kernel
theorem dX14_wordAt_104 : decode cX14_wordAt 104 = .ok (.iload 6, 2) := by decide +kernel
theorem dX14_wordAt_106 : decode cX14_wordAt 106 = .ok (.ifCond .eq 5, 3) := by decide +kernel
theorem dX14_wordAt_109 : decode cX14_wordAt 109 = .ok (.iload_n 3, 1) := by decide +kernel
theorem dX14_wordAt_110 : decode cX14_wordAt 110 = .ok (.ireturn, 1) := by decide +kernel
theorem dX14_wordAt_111 : decode cX14_wordAt 111 = .ok (.iload 4, 2) := by decide +kernel
theorem dX14_wordAt_113 : decode cX14_wordAt 113 = .ok (.iload 5, 2) := by decide +kernel
theorem dX14_wordAt_115 : decode cX14_wordAt 115 = .ok (.iconst 1, 1) := by decide +kernel
theorem dX14_wordAt_116 : decode cX14_wordAt 116 = .ok (.iadd, 1) := by decide +kernel
theorem dX14_wordAt_117 : decode cX14_wordAt 117 = .ok (.iadd, 1) := by decide +kernel
theorem dX14_wordAt_118 : decode cX14_wordAt 118 = .ok (.istore 4, 2) := by decide +kernel
theorem dX14_wordAt_120 : decode cX14_wordAt 120 = .ok (.iinc 3 1, 3) := by decide +kernel
theorem dX14_wordAt_123 : decode cX14_wordAt 123 = .ok (.goto (-118), 3) := by decide +kernel
theorem dX14_wordAt_126 : decode cX14_wordAt 126 = .ok (.iconst (-1), 1) := by decide +kernel
theorem dX14_wordAt_127 : decode cX14_wordAt 127 = .ok (.ireturn, 1) := by decide +kernel
theorem dX14_token_0 : decode cX14_token 0 = .ok (.aload_n 0, 1) := by decide +kernel
theorem dX14_token_1 : decode cX14_token 1 = .ok (.getfield 163, 3) := by decide +kernel
theorem dX14_token_4 : decode cX14_token 4 = .ok (.aload_n 0, 1) := by decide +kernel
theorem dX14_token_5 : decode cX14_token 5 = .ok (.getfield 160, 3) := by decide +kernel
theorem dX14_token_8 : decode cX14_token 8 = .ok (.if_icmp .ge 44, 3) := by decide +kernel
theorem dX14_token_11 : decode cX14_token 11 = .ok (.aload_n 0, 1) := by decide +kernel
theorem dX14_token_12 : decode cX14_token 12 = .ok (.getfield 7, 3) := by decide +kernel
theorem dX14_token_15 : decode cX14_token 15 = .ok (.aload_n 0, 1) := by decide +kernel
theorem dX14_token_16 : decode cX14_token 16 = .ok (.getfield 163, 3) := by decide +kernel
theorem dX14_token_19 : decode cX14_token 19 = .ok (.iaload, 1) := by decide +kernel
theorem dX14_token_20 : decode cX14_token 20 = .ok (.bipush 10, 2) := by decide +kernel
theorem dX14_token_22 : decode cX14_token 22 = .ok (.if_icmp .eq 17, 3) := by decide +kernel
theorem dX14_token_25 : decode cX14_token 25 = .ok (.aload_n 0, 1) := by decide +kernel
theorem dX14_token_26 : decode cX14_token 26 = .ok (.getfield 7, 3) := by decide +kernel
theorem dX14_token_29 : decode cX14_token 29 = .ok (.aload_n 0, 1) := by decide +kernel
theorem dX14_token_30 : decode cX14_token 30 = .ok (.getfield 163, 3) := by decide +kernel
theorem dX14_token_33 : decode cX14_token 33 = .ok (.iaload, 1) := by decide +kernel
theorem dX14_token_34 : decode cX14_token 34 = .ok (.bipush 32, 2) := by decide +kernel
theorem dX14_token_36 : decode cX14_token 36 = .ok (.if_icmp .ne 16, 3) := by decide +kernel
theorem dX14_token_39 : decode cX14_token 39 = .ok (.aload_n 0, 1) := by decide +kernel
theorem dX14_token_40 : decode cX14_token 40 = .ok (.dup, 1) := by decide +kernel
theorem dX14_token_41 : decode cX14_token 41 = .ok (.getfield 163, 3) := by decide +kernel
theorem dX14_token_44 : decode cX14_token 44 = .ok (.iconst 1, 1) := by decide +kernel
theorem dX14_token_45 : decode cX14_token 45 = .ok (.iadd, 1) := by decide +kernel
theorem dX14_token_46 : decode cX14_token 46 = .ok (.putfield 163, 3) := by decide +kernel
theorem dX14_token_49 : decode cX14_token 49 = .ok (.goto (-49), 3) := by decide +kernel
theorem dX14_token_52 : decode cX14_token 52 = .ok (.aload_n 0, 1) := by decide +kernel
theorem dX14_token_53 : decode cX14_token 53 = .ok (.aload_n 0, 1) := by decide +kernel
theorem dX14_token_54 : decode cX14_token 54 = .ok (.getfield 163, 3) := by decide +kernel
theorem dX14_token_57 : decode cX14_token 57 = .ok (.putfield 157, 3) := by decide +kernel
theorem dX14_token_60 : decode cX14_token 60 = .ok (.aload_n 0, 1) := by decide +kernel
theorem dX14_token_61 : decode cX14_token 61 = .ok (.getfield 163, 3) := by decide +kernel
theorem dX14_token_64 : decode cX14_token 64 = .ok (.aload_n 0, 1) := by decide +kernel
theorem dX14_token_65 : decode cX14_token 65 = .ok (.getfield 160, 3) := by decide +kernel
theorem dX14_token_68 : decode cX14_token 68 = .ok (.if_icmp .ne 11, 3) := by decide +kernel
theorem dX14_token_71 : decode cX14_token 71 = .ok (.aload_n 0, 1) := by decide +kernel
theorem dX14_token_72 : decode cX14_token 72 = .ok (.iconst 0, 1) := by decide +kernel
theorem dX14_token_73 : decode cX14_token 73 = .ok (.putfield 166, 3) := by decide +kernel
theorem dX14_token_76 : decode cX14_token 76 = .ok (.goto 206, 3) := by decide +kernel
theorem dX14_token_79 : decode cX14_token 79 = .ok (.aload_n 0, 1) := by decide +kernel
theorem dX14_token_80 : decode cX14_token 80 = .ok (.aload_n 0, 1) := by decide +kernel
theorem dX14_token_81 : decode cX14_token 81 = .ok (.getfield 163, 3) := by decide +kernel
theorem dX14_token_84 : decode cX14_token 84 = .ok (.invokevirtual 169, 3) := by decide +kernel
theorem dX14_token_87 : decode cX14_token 87 = .ok (.ifCond .eq 105, 3) := by decide +kernel
theorem dX14_token_90 : decode cX14_token 90 = .ok (.aload_n 0, 1) := by decide +kernel
theorem dX14_token_91 : decode cX14_token 91 = .ok (.aload_n 0, 1) := by decide +kernel
theorem dX14_token_92 : decode cX14_token 92 = .ok (.getfield 163, 3) := by decide +kernel
theorem dX14_token_95 : decode cX14_token 95 = .ok (.invokevirtual 169, 3) := by decide +kernel
theorem dX14_token_98 : decode cX14_token 98 = .ok (.ifCond .eq 16, 3) := by decide +kernel
theorem dX14_token_101 : decode cX14_token 101 = .ok (.aload_n 0, 1) := by decide +kernel
theorem dX14_token_102 : decode cX14_token 102 = .ok (.dup, 1) := by decide +kernel
theorem dX14_token_103 : decode cX14_token 103 = .ok (.getfield 163, 3) := by decide +kernel
theorem dX14_token_106 : decode cX14_token 106 = .ok (.iconst 1, 1) := by decide +kernel
theorem dX14_token_107 : decode cX14_token 107 = .ok (.iadd, 1) := by decide +kernel
theorem dX14_token_108 : decode cX14_token 108 = .ok (.putfield 163, 3) := by decide +kernel
theorem dX14_token_111 : decode cX14_token 111 = .ok (.goto (-21), 3) := by decide +kernel
theorem dX14_token_114 : decode cX14_token 114 = .ok (.aload_n 0, 1) := by decide +kernel
theorem dX14_token_115 : decode cX14_token 115 = .ok (.aload_n 0, 1) := by decide +kernel
theorem dX14_token_116 : decode cX14_token 116 = .ok (.aload_n 0, 1) := by decide +kernel
theorem dX14_token_117 : decode cX14_token 117 = .ok (.getfield 157, 3) := by decide +kernel
theorem dX14_token_120 : decode cX14_token 120 = .ok (.aload_n 0, 1) := by decide +kernel
theorem dX14_token_121 : decode cX14_token 121 = .ok (.getfield 163, 3) := by decide +kernel
theorem dX14_token_124 : decode cX14_token 124 = .ok (.invokevirtual 173, 3) := by decide +kernel
theorem dX14_token_127 : decode cX14_token 127 = .ok (.putfield 177, 3) := by decide +kernel
theorem dX14_token_130 : decode cX14_token 130 = .ok (.aload_n 0, 1) := by decide +kernel
theorem dX14_token_131 : decode cX14_token 131 = .ok (.aload_n 0, 1) := by decide +kernel
theorem dX14_token_132 : decode cX14_token 132 = .ok (.getfield 177, 3) := by decide +kernel
theorem dX14_token_135 : decode cX14_token 135 = .ok (.ifCond .lt 7, 3) := by decide +kernel
theorem dX14_token_138 : decode cX14_token 138 = .ok (.iconst 1, 1) := by decide +kernel
theorem dX14_token_139 : decode cX14_token 139 = .ok (.goto 23, 3) := by decide +kernel
theorem dX14_token_142 : decode cX14_token 142 = .ok (.aload_n 0, 1) := by decide +kernel
theorem dX14_token_143 : decode cX14_token 143 = .ok (.getfield 163, 3) := by decide +kernel
theorem dX14_token_146 : decode cX14_token 146 = .ok (.aload_n 0, 1) := by decide +kernel
theorem dX14_token_147 : decode cX14_token 147 = .ok (.getfield 157, 3) := by decide +kernel
theorem dX14_token_150 : decode cX14_token 150 = .ok (.isub, 1) := by decide +kernel
theorem dX14_token_151 : decode cX14_token 151 = .ok (.bipush 6, 2) := by decide +kernel
theorem dX14_token_153 : decode cX14_token 153 = .ok (.if_icmp .le 8, 3) := by decide +kernel
theorem dX14_token_156 : decode cX14_token 156 = .ok (.bipush 6, 2) := by decide +kernel
theorem dX14_token_158 : decode cX14_token 158 = .ok (.goto 4, 3) := by decide +kernel
theorem dX14_token_161 : decode cX14_token 161 = .ok (.iconst 2, 1) := by decide +kernel
theorem dX14_token_162 : decode cX14_token 162 = .ok (.putfield 166, 3) := by decide +kernel
theorem dX14_token_165 : decode cX14_token 165 = .ok (.aload_n 0, 1) := by decide +kernel
theorem dX14_token_166 : decode cX14_token 166 = .ok (.getfield 166, 3) := by decide +kernel
theorem dX14_token_169 : decode cX14_token 169 = .ok (.iconst 2, 1) := by decide +kernel
theorem dX14_token_170 : decode cX14_token 170 = .ok (.if_icmp .ne 112, 3) := by decide +kernel
theorem dX14_token_173 : decode cX14_token 173 = .ok (.aload_n 0, 1) := by decide +kernel
theorem dX14_token_174 : decode cX14_token 174 = .ok (.aload_n 0, 1) := by decide +kernel
theorem dX14_token_175 : decode cX14_token 175 = .ok (.aload_n 0, 1) := by decide +kernel
theorem dX14_token_176 : decode cX14_token 176 = .ok (.getfield 157, 3) := by decide +kernel
theorem dX14_token_179 : decode cX14_token 179 = .ok (.aload_n 0, 1) := by decide +kernel
theorem dX14_token_180 : decode cX14_token 180 = .ok (.getfield 163, 3) := by decide +kernel
theorem dX14_token_183 : decode cX14_token 183 = .ok (.invokevirtual 180, 3) := by decide +kernel
theorem dX14_token_186 : decode cX14_token 186 = .ok (.putfield 177, 3) := by decide +kernel
theorem dX14_token_189 : decode cX14_token 189 = .ok (.goto 93, 3) := by decide +kernel
theorem dX14_token_192 : decode cX14_token 192 = .ok (.aload_n 0, 1) := by decide +kernel
theorem dX14_token_193 : decode cX14_token 193 = .ok (.aload_n 0, 1) := by decide +kernel
theorem dX14_token_194 : decode cX14_token 194 = .ok (.getfield 163, 3) := by decide +kernel
theorem dX14_token_197 : decode cX14_token 197 = .ok (.invokevirtual 183, 3) := by decide +kernel
theorem dX14_token_200 : decode cX14_token 200 = .ok (.ifCond .eq 78, 3) := by decide +kernel
theorem dX14_token_203 : decode cX14_token 203 = .ok (.aload_n 0, 1) := by decide +kernel
theorem dX14_token_204 : decode cX14_token 204 = .ok (.iconst 3, 1) := by decide +kernel
theorem dX14_token_205 : decode cX14_token 205 = .ok (.putfield 166, 3) := by decide +kernel
theorem dX14_token_208 : decode cX14_token 208 = .ok (.aload_n 0, 1) := by decide +kernel
theorem dX14_token_209 : decode cX14_token 209 = .ok (.iconst 0, 1) := by decide +kernel
theorem dX14_token_210 : decode cX14_token 210 = .ok (.putfield 177, 3) := by decide +kernel
theorem dX14_token_213 : decode cX14_token 213 = .ok (.aload_n 0, 1) := by decide +kernel
theorem dX14_token_214 : decode cX14_token 214 = .ok (.aload_n 0, 1) := by decide +kernel
theorem dX14_token_215 : decode cX14_token 215 = .ok (.getfield 163, 3) := by decide +kernel
theorem dX14_token_218 : decode cX14_token 218 = .ok (.invokevirtual 183, 3) := by decide +kernel
theorem dX14_token_221 : decode cX14_token 221 = .ok (.ifCond .eq 61, 3) := by decide +kernel
theorem dX14_token_224 : decode cX14_token 224 = .ok (.aload_n 0, 1) := by decide +kernel
theorem dX14_token_225 : decode cX14_token 225 = .ok (.aload_n 0, 1) := by decide +kernel
theorem dX14_token_226 : decode cX14_token 226 = .ok (.getfield 177, 3) := by decide +kernel
theorem dX14_token_229 : decode cX14_token 229 = .ok (.sipush 9999, 3) := by decide +kernel
theorem dX14_token_232 : decode cX14_token 232 = .ok (.if_icmp .le 10, 3) := by decide +kernel
theorem dX14_token_235 : decode cX14_token 235 = .ok (.aload_n 0, 1) := by decide +kernel
theorem dX14_token_236 : decode cX14_token 236 = .ok (.getfield 177, 3) := by decide +kernel
theorem dX14_token_239 : decode cX14_token 239 = .ok (.goto 23, 3) := by decide +kernel
theorem dX14_token_242 : decode cX14_token 242 = .ok (.bipush 10, 2) := by decide +kernel
theorem dX14_token_244 : decode cX14_token 244 = .ok (.aload_n 0, 1) := by decide +kernel
theorem dX14_token_245 : decode cX14_token 245 = .ok (.getfield 177, 3) := by decide +kernel
theorem dX14_token_248 : decode cX14_token 248 = .ok (.imul, 1) := by decide +kernel
theorem dX14_token_249 : decode cX14_token 249 = .ok (.aload_n 0, 1) := by decide +kernel
theorem dX14_token_250 : decode cX14_token 250 = .ok (.getfield 7, 3) := by decide +kernel
theorem dX14_token_253 : decode cX14_token 253 = .ok (.aload_n 0, 1) := by decide +kernel
theorem dX14_token_254 : decode cX14_token 254 = .ok (.getfield 163, 3) := by decide +kernel
theorem dX14_token_257 : decode cX14_token 257 = .ok (.iaload, 1) := by decide +kernel
theorem dX14_token_258 : decode cX14_token 258 = .ok (.iadd, 1) := by decide +kernel
theorem dX14_token_259 : decode cX14_token 259 = .ok (.bipush 48, 2) := by decide +kernel
theorem dX14_token_261 : decode cX14_token 261 = .ok (.isub, 1) := by decide +kernel
theorem dX14_token_262 : decode cX14_token 262 = .ok (.putfield 177, 3) := by decide +kernel
theorem dX14_token_265 : decode cX14_token 265 = .ok (.aload_n 0, 1) := by decide +kernel
theorem dX14_token_266 : decode cX14_token 266 = .ok (.dup, 1) := by decide +kernel
theorem dX14_token_267 : decode cX14_token 267 = .ok (.getfield 163, 3) := by decide +kernel
theorem dX14_token_270 : decode cX14_token 270 = .ok (.iconst 1, 1) := by decide +kernel
theorem dX14_token_271 : decode cX14_token 271 = .ok (.iadd, 1) := by decide +kernel
theorem dX14_token_272 : decode cX14_token 272 = .ok (.putfield 163, 3) := by decide +kernel
theorem dX14_token_275 : decode cX14_token 275 = .ok (.goto (-62), 3) := by decide +kernel
theorem dX14_token_278 : decode cX14_token 278 = .ok (.aload_n 0, 1) := by decide +kernel
theorem dX14_token_279 : decode cX14_token 279 = .ok (.invokevirtual 186, 3) := by decide +kernel
theorem dX14_token_282 : decode cX14_token 282 = .ok (.return_, 1) := by decide +kernel
theorem dX14_wrong_0 : decode cX14_wrong 0 = .ok (.aload_n 0, 1) := by decide +kernel
theorem dX14_wrong_1 : decode cX14_wrong 1 = .ok (.iload_n 1, 1) := by decide +kernel
theorem dX14_wrong_2 : decode cX14_wrong 2 = .ok (.putfield 154, 3) := by decide +kernel
theorem dX14_wrong_5 : decode cX14_wrong 5 = .ok (.aload_n 0, 1) := by decide +kernel
theorem dX14_wrong_6 : decode cX14_wrong 6 = .ok (.aload_n 0, 1) := by decide +kernel
theorem dX14_wrong_7 : decode cX14_wrong 7 = .ok (.getfield 157, 3) := by decide +kernel
theorem dX14_wrong_10 : decode cX14_wrong 10 = .ok (.putfield 16, 3) := by decide +kernel
theorem dX14_wrong_13 : decode cX14_wrong 13 = .ok (.iconst 0, 1) := by decide +kernel
theorem dX14_wrong_14 : decode cX14_wrong 14 = .ok (.ireturn, 1) := by decide +kernel
theorem dX14_number_0 : decode cX14_number 0 = .ok (.aload_n 0, 1) := by decide +kernel
theorem dX14_number_1 : decode cX14_number 1 = .ok (.getfield 166, 3) := by decide +kernel
theorem dX14_number_4 : decode cX14_number 4 = .ok (.iconst 3, 1) := by decide +kernel
theorem dX14_number_5 : decode cX14_number 5 = .ok (.if_icmp .eq 9, 3) := by decide +kernel
theorem dX14_number_8 : decode cX14_number 8 = .ok (.aload_n 0, 1) := by decide +kernel
theorem dX14_number_9 : decode cX14_number 9 = .ok (.iconst 1, 1) := by decide +kernel
theorem dX14_number_10 : decode cX14_number 10 = .ok (.invokevirtual 189, 3) := by decide +kernel
theorem dX14_number_13 : decode cX14_number 13 = .ok (.ireturn, 1) := by decide +kernel
theorem dX14_number_14 : decode cX14_number 14 = .ok (.aload_n 0, 1) := by decide +kernel
theorem dX14_number_15 : decode cX14_number 15 = .ok (.getfield 177, 3) := by decide +kernel
theorem dX14_number_18 : decode cX14_number 18 = .ok (.iload_n 1, 1) := by decide +kernel
theorem dX14_number_19 : decode cX14_number 19 = .ok (.iload_n 2, 1) := by decide +kernel
theorem dX14_number_20 : decode cX14_number 20 = .ok (.invokestatic 192, 3) := by decide +kernel
theorem dX14_number_23 : decode cX14_number 23 = .ok (.ifCond .ne 9, 3) := by decide +kernel
theorem dX14_number_26 : decode cX14_number 26 = .ok (.aload_n 0, 1) := by decide +kernel
theorem dX14_number_27 : decode cX14_number 27 = .ok (.iconst 2, 1) := by decide +kernel
theorem dX14_number_28 : decode cX14_number 28 = .ok (.invokevirtual 189, 3) := by decide +kernel
theorem dX14_number_31 : decode cX14_number 31 = .ok (.ireturn, 1) := by decide +kernel
theorem dX14_number_32 : decode cX14_number 32 = .ok (.aload_n 0, 1) := by decide +kernel
theorem dX14_number_33 : decode cX14_number 33 = .ok (.aload_n 0, 1) := by decide +kernel
theorem dX14_number_34 : decode cX14_number 34 = .ok (.getfield 177, 3) := by decide +kernel
theorem dX14_number_37 : decode cX14_number 37 = .ok (.putfield 196, 3) := by decide +kernel
theorem dX14_number_40 : decode cX14_number 40 = .ok (.aload_n 0, 1) := by decide +kernel
theorem dX14_number_41 : decode cX14_number 41 = .ok (.invokevirtual 199, 3) := by decide +kernel
theorem dX14_number_44 : decode cX14_number 44 = .ok (.iconst 1, 1) := by decide +kernel
theorem dX14_number_45 : decode cX14_number 45 = .ok (.ireturn, 1) := by decide +kernel
theorem dX14_cellRead_0 : decode cX14_cellRead 0 = .ok (.aload_n 0, 1) := by decide +kernel
theorem dX14_cellRead_1 : decode cX14_cellRead 1 = .ok (.iconst 1, 1) := by decide +kernel
theorem dX14_cellRead_2 : decode cX14_cellRead 2 = .ok (.putfield 249, 3) := by decide +kernel
theorem dX14_cellRead_5 : decode cX14_cellRead 5 = .ok (.aload_n 0, 1) := by decide +kernel
theorem dX14_cellRead_6 : decode cX14_cellRead 6 = .ok (.iconst 0, 1) := by decide +kernel
theorem dX14_cellRead_7 : decode cX14_cellRead 7 = .ok (.aload_n 0, 1) := by decide +kernel
theorem dX14_cellRead_8 : decode cX14_cellRead 8 = .ok (.getfield 209, 3) := by decide +kernel
theorem dX14_cellRead_11 : decode cX14_cellRead 11 = .ok (.iconst 1, 1) := by decide +kernel
theorem dX14_cellRead_12 : decode cX14_cellRead 12 = .ok (.isub, 1) := by decide +kernel
theorem dX14_cellRead_13 : decode cX14_cellRead 13 = .ok (.invokevirtual 205, 3) := by decide +kernel
theorem dX14_cellRead_16 : decode cX14_cellRead 16 = .ok (.ifCond .ne 5, 3) := by decide +kernel
theorem dX14_cellRead_19 : decode cX14_cellRead 19 = .ok (.iconst 0, 1) := by decide +kernel
theorem dX14_cellRead_20 : decode cX14_cellRead 20 = .ok (.ireturn, 1) := by decide +kernel
theorem dX14_cellRead_21 : decode cX14_cellRead 21 = .ok (.aload_n 0, 1) := by decide +kernel
theorem dX14_cellRead_22 : decode cX14_cellRead 22 = .ok (.getfield 196, 3) := by decide +kernel
theorem dX14_cellRead_25 : decode cX14_cellRead 25 = .ok (.istore_n 1, 1) := by decide +kernel
theorem dX14_cellRead_26 : decode cX14_cellRead 26 = .ok (.aload_n 0, 1) := by decide +kernel
theorem dX14_cellRead_27 : decode cX14_cellRead 27 = .ok (.aload_n 0, 1) := by decide +kernel
theorem dX14_cellRead_28 : decode cX14_cellRead 28 = .ok (.getfield 157, 3) := by decide +kernel
theorem dX14_cellRead_31 : decode cX14_cellRead 31 = .ok (.putfield 320, 3) := by decide +kernel
theorem dX14_cellRead_34 : decode cX14_cellRead 34 = .ok (.aload_n 0, 1) := by decide +kernel
theorem dX14_cellRead_35 : decode cX14_cellRead 35 = .ok (.iconst 0, 1) := by decide +kernel
theorem dX14_cellRead_36 : decode cX14_cellRead 36 = .ok (.aload_n 0, 1) := by decide +kernel
theorem dX14_cellRead_37 : decode cX14_cellRead 37 = .ok (.getfield 212, 3) := by decide +kernel
theorem dX14_cellRead_40 : decode cX14_cellRead 40 = .ok (.iconst 1, 1) := by decide +kernel
theorem dX14_cellRead_41 : decode cX14_cellRead 41 = .ok (.isub, 1) := by decide +kernel
theorem dX14_cellRead_42 : decode cX14_cellRead 42 = .ok (.invokevirtual 205, 3) := by decide +kernel
theorem dX14_cellRead_45 : decode cX14_cellRead 45 = .ok (.ifCond .ne 5, 3) := by decide +kernel
theorem dX14_cellRead_48 : decode cX14_cellRead 48 = .ok (.iconst 0, 1) := by decide +kernel
theorem dX14_cellRead_49 : decode cX14_cellRead 49 = .ok (.ireturn, 1) := by decide +kernel
theorem dX14_cellRead_50 : decode cX14_cellRead 50 = .ok (.aload_n 0, 1) := by decide +kernel
theorem dX14_cellRead_51 : decode cX14_cellRead 51 = .ok (.aload_n 0, 1) := by decide +kernel
