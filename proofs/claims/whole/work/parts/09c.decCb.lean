theorem dX13_cell_63 : decode cX13_cell 63 = .ok (.getfield 36, 3) := by decide +kernel
theorem dX13_cell_66 : decode cX13_cell 66 = .ok (.iload_n 1, 1) := by decide +kernel
theorem dX13_cell_67 : decode cX13_cell 67 = .ok (.invokevirtual 158, 3) := by decide +kernel
theorem dX13_cell_70 : decode cX13_cell 70 = .ok (.ifCond .eq 7, 3) := by decide +kernel
theorem dX13_cell_73 : decode cX13_cell 73 = .ok (.iconst 1, 1) := by decide +kernel
theorem dX13_cell_74 : decode cX13_cell 74 = .ok (.goto 8, 3) := by decide +kernel
theorem dX13_cell_77 : decode cX13_cell 77 = .ok (.iconst 0, 1) := by decide +kernel
theorem dX13_cell_78 : decode cX13_cell 78 = .ok (.goto 4, 3) := by decide +kernel
theorem dX13_cell_81 : decode cX13_cell 81 = .ok (.iconst 2, 1) := by decide +kernel
theorem dX13_cell_82 : decode cX13_cell 82 = .ok (.ireturn, 1) := by decide +kernel
theorem dX13_cell_83 : decode cX13_cell 83 = .ok (.aload_n 0, 1) := by decide +kernel
theorem dX13_cell_84 : decode cX13_cell 84 = .ok (.getfield 36, 3) := by decide +kernel
theorem dX13_cell_87 : decode cX13_cell 87 = .ok (.getfield 86, 3) := by decide +kernel
theorem dX13_cell_90 : decode cX13_cell 90 = .ok (.getfield 161, 3) := by decide +kernel
theorem dX13_cell_93 : decode cX13_cell 93 = .ok (.iload_n 1, 1) := by decide +kernel
theorem dX13_cell_94 : decode cX13_cell 94 = .ok (.invokevirtual 108, 3) := by decide +kernel
theorem dX13_cell_97 : decode cX13_cell 97 = .ok (.ifCond .lt 7, 3) := by decide +kernel
theorem dX13_cell_100 : decode cX13_cell 100 = .ok (.iconst 1, 1) := by decide +kernel
theorem dX13_cell_101 : decode cX13_cell 101 = .ok (.goto 4, 3) := by decide +kernel
theorem dX13_cell_104 : decode cX13_cell 104 = .ok (.iconst 0, 1) := by decide +kernel
theorem dX13_cell_105 : decode cX13_cell 105 = .ok (.ireturn, 1) := by decide +kernel
theorem dX13_cell_106 : decode cX13_cell 106 = .ok (.aload_n 0, 1) := by decide +kernel
theorem dX13_cell_107 : decode cX13_cell 107 = .ok (.getfield 36, 3) := by decide +kernel
theorem dX13_cell_110 : decode cX13_cell 110 = .ok (.getfield 86, 3) := by decide +kernel
theorem dX13_cell_113 : decode cX13_cell 113 = .ok (.getfield 164, 3) := by decide +kernel
theorem dX13_cell_116 : decode cX13_cell 116 = .ok (.iload_n 1, 1) := by decide +kernel
theorem dX13_cell_117 : decode cX13_cell 117 = .ok (.invokevirtual 108, 3) := by decide +kernel
theorem dX13_cell_120 : decode cX13_cell 120 = .ok (.ireturn, 1) := by decide +kernel
theorem dX13_cell_121 : decode cX13_cell 121 = .ok (.aload_n 0, 1) := by decide +kernel
theorem dX13_cell_122 : decode cX13_cell 122 = .ok (.getfield 36, 3) := by decide +kernel
theorem dX13_cell_125 : decode cX13_cell 125 = .ok (.getfield 167, 3) := by decide +kernel
theorem dX13_cell_128 : decode cX13_cell 128 = .ok (.iload_n 1, 1) := by decide +kernel
theorem dX13_cell_129 : decode cX13_cell 129 = .ok (.invokevirtual 171, 3) := by decide +kernel
theorem dX13_cell_132 : decode cX13_cell 132 = .ok (.ireturn, 1) := by decide +kernel
theorem dX13_cell_133 : decode cX13_cell 133 = .ok (.iconst (-1), 1) := by decide +kernel
theorem dX13_cell_134 : decode cX13_cell 134 = .ok (.ireturn, 1) := by decide +kernel
theorem dX13_isStep_0 : decode cX13_isStep 0 = .ok (.iload_n 0, 1) := by decide +kernel
theorem dX13_isStep_1 : decode cX13_isStep 1 = .ok (.ifCond .lt 12, 3) := by decide +kernel
theorem dX13_isStep_4 : decode cX13_isStep 4 = .ok (.iload_n 0, 1) := by decide +kernel
theorem dX13_isStep_5 : decode cX13_isStep 5 = .ok (.iload_n 1, 1) := by decide +kernel
theorem dX13_isStep_6 : decode cX13_isStep 6 = .ok (.if_icmp .gt 7, 3) := by decide +kernel
theorem dX13_isStep_9 : decode cX13_isStep 9 = .ok (.iconst 1, 1) := by decide +kernel
theorem dX13_isStep_10 : decode cX13_isStep 10 = .ok (.goto 4, 3) := by decide +kernel
theorem dX13_isStep_13 : decode cX13_isStep 13 = .ok (.iconst 0, 1) := by decide +kernel
theorem dX13_isStep_14 : decode cX13_isStep 14 = .ok (.ireturn, 1) := by decide +kernel
theorem dX2_drawNumber_0 : decode cX2_drawNumber 0 = .ok (.aload_n 0, 1) := by decide +kernel
theorem dX2_drawNumber_1 : decode cX2_drawNumber 1 = .ok (.aload_n 0, 1) := by decide +kernel
theorem dX2_drawNumber_2 : decode cX2_drawNumber 2 = .ok (.getfield 196, 3) := by decide +kernel
theorem dX2_drawNumber_5 : decode cX2_drawNumber 5 = .ok (.ldc2_w 207, 3) := by decide +kernel
theorem dX2_drawNumber_8 : decode cX2_drawNumber 8 = .ok (.lmul, 1) := by decide +kernel
theorem dX2_drawNumber_9 : decode cX2_drawNumber 9 = .ok (.ldc2_w 209, 3) := by decide +kernel
theorem dX2_drawNumber_12 : decode cX2_drawNumber 12 = .ok (.ladd, 1) := by decide +kernel
theorem dX2_drawNumber_13 : decode cX2_drawNumber 13 = .ok (.ldc2_w 211, 3) := by decide +kernel
theorem dX2_drawNumber_16 : decode cX2_drawNumber 16 = .ok (.land, 1) := by decide +kernel
theorem dX2_drawNumber_17 : decode cX2_drawNumber 17 = .ok (.putfield 196, 3) := by decide +kernel
theorem dX2_drawNumber_20 : decode cX2_drawNumber 20 = .ok (.iload_n 1, 1) := by decide +kernel
theorem dX2_drawNumber_21 : decode cX2_drawNumber 21 = .ok (.ifCond .le 18, 3) := by decide +kernel
theorem dX2_drawNumber_24 : decode cX2_drawNumber 24 = .ok (.aload_n 0, 1) := by decide +kernel
theorem dX2_drawNumber_25 : decode cX2_drawNumber 25 = .ok (.getfield 196, 3) := by decide +kernel
theorem dX2_drawNumber_28 : decode cX2_drawNumber 28 = .ok (.ldc2_w 213, 3) := by decide +kernel
theorem dX2_drawNumber_31 : decode cX2_drawNumber 31 = .ok (.ldiv, 1) := by decide +kernel
theorem dX2_drawNumber_32 : decode cX2_drawNumber 32 = .ok (.iload_n 1, 1) := by decide +kernel
theorem dX2_drawNumber_33 : decode cX2_drawNumber 33 = .ok (.i2l, 1) := by decide +kernel
theorem dX2_drawNumber_34 : decode cX2_drawNumber 34 = .ok (.lrem, 1) := by decide +kernel
theorem dX2_drawNumber_35 : decode cX2_drawNumber 35 = .ok (.l2i, 1) := by decide +kernel
theorem dX2_drawNumber_36 : decode cX2_drawNumber 36 = .ok (.goto 4, 3) := by decide +kernel
theorem dX2_drawNumber_39 : decode cX2_drawNumber 39 = .ok (.iconst 0, 1) := by decide +kernel
theorem dX2_drawNumber_40 : decode cX2_drawNumber 40 = .ok (.ireturn, 1) := by decide +kernel
theorem dX2_drawnRise_0 : decode cX2_drawnRise 0 = .ok (.aload_n 0, 1) := by decide +kernel
theorem dX2_drawnRise_1 : decode cX2_drawnRise 1 = .ok (.aload_n 0, 1) := by decide +kernel
theorem dX2_drawnRise_2 : decode cX2_drawnRise 2 = .ok (.getfield 33, 3) := by decide +kernel
theorem dX2_drawnRise_5 : decode cX2_drawnRise 5 = .ok (.getfield 54, 3) := by decide +kernel
theorem dX2_drawnRise_8 : decode cX2_drawnRise 8 = .ok (.invokevirtual 87, 3) := by decide +kernel
theorem dX2_drawnRise_11 : decode cX2_drawnRise 11 = .ok (.invokevirtual 204, 3) := by decide +kernel
theorem dX2_drawnRise_14 : decode cX2_drawnRise 14 = .ok (.istore 4, 2) := by decide +kernel
theorem dX2_drawnRise_16 : decode cX2_drawnRise 16 = .ok (.aload_n 0, 1) := by decide +kernel
theorem dX2_drawnRise_17 : decode cX2_drawnRise 17 = .ok (.getfield 33, 3) := by decide +kernel
theorem dX2_drawnRise_20 : decode cX2_drawnRise 20 = .ok (.getfield 54, 3) := by decide +kernel
theorem dX2_drawnRise_23 : decode cX2_drawnRise 23 = .ok (.iload 4, 2) := by decide +kernel
theorem dX2_drawnRise_25 : decode cX2_drawnRise 25 = .ok (.invokevirtual 91, 3) := by decide +kernel
theorem dX2_drawnRise_28 : decode cX2_drawnRise 28 = .ok (.ifCond .ne 5, 3) := by decide +kernel
theorem dX2_drawnRise_31 : decode cX2_drawnRise 31 = .ok (.iconst 0, 1) := by decide +kernel
theorem dX2_drawnRise_32 : decode cX2_drawnRise 32 = .ok (.ireturn, 1) := by decide +kernel
theorem dX2_drawnRise_33 : decode cX2_drawnRise 33 = .ok (.iload_n 3, 1) := by decide +kernel
theorem dX2_drawnRise_34 : decode cX2_drawnRise 34 = .ok (.aload_n 0, 1) := by decide +kernel
theorem dX2_drawnRise_35 : decode cX2_drawnRise 35 = .ok (.bipush 16, 2) := by decide +kernel
theorem dX2_drawnRise_37 : decode cX2_drawnRise 37 = .ok (.invokevirtual 204, 3) := by decide +kernel
theorem dX2_drawnRise_40 : decode cX2_drawnRise 40 = .ok (.isub, 1) := by decide +kernel
theorem dX2_drawnRise_41 : decode cX2_drawnRise 41 = .ok (.istore 5, 2) := by decide +kernel
theorem dX2_drawnRise_43 : decode cX2_drawnRise 43 = .ok (.aload_n 0, 1) := by decide +kernel
theorem dX2_drawnRise_44 : decode cX2_drawnRise 44 = .ok (.getfield 37, 3) := by decide +kernel
theorem dX2_drawnRise_47 : decode cX2_drawnRise 47 = .ok (.iload_n 1, 1) := by decide +kernel
theorem dX2_drawnRise_48 : decode cX2_drawnRise 48 = .ok (.iload 4, 2) := by decide +kernel
theorem dX2_drawnRise_50 : decode cX2_drawnRise 50 = .ok (.iload_n 2, 1) := by decide +kernel
theorem dX2_drawnRise_51 : decode cX2_drawnRise 51 = .ok (.iload 5, 2) := by decide +kernel
theorem dX2_drawnRise_53 : decode cX2_drawnRise 53 = .ok (.aload_n 0, 1) := by decide +kernel
theorem dX2_drawnRise_54 : decode cX2_drawnRise 54 = .ok (.getfield 33, 3) := by decide +kernel
theorem dX2_drawnRise_57 : decode cX2_drawnRise 57 = .ok (.getfield 54, 3) := by decide +kernel
theorem dX2_drawnRise_60 : decode cX2_drawnRise 60 = .ok (.getfield 118, 3) := by decide +kernel
theorem dX2_drawnRise_63 : decode cX2_drawnRise 63 = .ok (.invokevirtual 121, 3) := by decide +kernel
theorem dX2_drawnRise_66 : decode cX2_drawnRise 66 = .ok (.ireturn, 1) := by decide +kernel
theorem dX2_drawsAbove_0 : decode cX2_drawsAbove 0 = .ok (.iconst 0, 1) := by decide +kernel
theorem dX2_drawsAbove_1 : decode cX2_drawsAbove 1 = .ok (.istore 6, 2) := by decide +kernel
theorem dX2_drawsAbove_3 : decode cX2_drawsAbove 3 = .ok (.aload_n 0, 1) := by decide +kernel
theorem dX2_drawsAbove_4 : decode cX2_drawsAbove 4 = .ok (.getfield 33, 3) := by decide +kernel
theorem dX2_drawsAbove_7 : decode cX2_drawsAbove 7 = .ok (.getfield 54, 3) := by decide +kernel
theorem dX2_drawsAbove_10 : decode cX2_drawsAbove 10 = .ok (.getfield 109, 3) := by decide +kernel
theorem dX2_drawsAbove_13 : decode cX2_drawsAbove 13 = .ok (.iload 4, 2) := by decide +kernel
theorem dX2_drawsAbove_15 : decode cX2_drawsAbove 15 = .ok (.invokevirtual 79, 3) := by decide +kernel
theorem dX2_drawsAbove_18 : decode cX2_drawsAbove 18 = .ok (.istore 7, 2) := by decide +kernel
theorem dX2_drawsAbove_20 : decode cX2_drawsAbove 20 = .ok (.aload_n 0, 1) := by decide +kernel
theorem dX2_drawsAbove_21 : decode cX2_drawsAbove 21 = .ok (.iload_n 1, 1) := by decide +kernel
theorem dX2_drawsAbove_22 : decode cX2_drawsAbove 22 = .ok (.i2l, 1) := by decide +kernel
theorem dX2_drawsAbove_23 : decode cX2_drawsAbove 23 = .ok (.putfield 196, 3) := by decide +kernel
theorem dX2_drawsAbove_26 : decode cX2_drawsAbove 26 = .ok (.iconst 0, 1) := by decide +kernel
theorem dX2_drawsAbove_27 : decode cX2_drawsAbove 27 = .ok (.istore 8, 2) := by decide +kernel
theorem dX2_drawsAbove_29 : decode cX2_drawsAbove 29 = .ok (.iload 8, 2) := by decide +kernel
theorem dX2_drawsAbove_31 : decode cX2_drawsAbove 31 = .ok (.bipush 10, 2) := by decide +kernel
theorem dX2_drawsAbove_33 : decode cX2_drawsAbove 33 = .ok (.if_icmp .ge 49, 3) := by decide +kernel
theorem dX2_drawsAbove_36 : decode cX2_drawsAbove 36 = .ok (.iconst 0, 1) := by decide +kernel
theorem dX2_drawsAbove_37 : decode cX2_drawsAbove 37 = .ok (.istore 9, 2) := by decide +kernel
theorem dX2_drawsAbove_39 : decode cX2_drawsAbove 39 = .ok (.iconst 0, 1) := by decide +kernel
theorem dX2_drawsAbove_40 : decode cX2_drawsAbove 40 = .ok (.istore 10, 2) := by decide +kernel
theorem dX2_drawsAbove_42 : decode cX2_drawsAbove 42 = .ok (.iload 10, 2) := by decide +kernel
theorem dX2_drawsAbove_44 : decode cX2_drawsAbove 44 = .ok (.iload_n 3, 1) := by decide +kernel
theorem dX2_drawsAbove_45 : decode cX2_drawsAbove 45 = .ok (.if_icmp .ge 23, 3) := by decide +kernel
theorem dX2_drawsAbove_48 : decode cX2_drawsAbove 48 = .ok (.iload 9, 2) := by decide +kernel
theorem dX2_drawsAbove_50 : decode cX2_drawsAbove 50 = .ok (.aload_n 0, 1) := by decide +kernel
theorem dX2_drawsAbove_51 : decode cX2_drawsAbove 51 = .ok (.iload_n 2, 1) := by decide +kernel
theorem dX2_drawsAbove_52 : decode cX2_drawsAbove 52 = .ok (.iload 7, 2) := by decide +kernel
theorem dX2_drawsAbove_54 : decode cX2_drawsAbove 54 = .ok (.iload 5, 2) := by decide +kernel
theorem dX2_drawsAbove_56 : decode cX2_drawsAbove 56 = .ok (.invokevirtual 200, 3) := by decide +kernel
theorem dX2_drawsAbove_59 : decode cX2_drawsAbove 59 = .ok (.iadd, 1) := by decide +kernel
theorem dX2_drawsAbove_60 : decode cX2_drawsAbove 60 = .ok (.istore 9, 2) := by decide +kernel
theorem dX2_drawsAbove_62 : decode cX2_drawsAbove 62 = .ok (.iinc 10 1, 3) := by decide +kernel
theorem dX2_drawsAbove_65 : decode cX2_drawsAbove 65 = .ok (.goto (-23), 3) := by decide +kernel
theorem dX2_drawsAbove_68 : decode cX2_drawsAbove 68 = .ok (.iload 9, 2) := by decide +kernel
theorem dX2_drawsAbove_70 : decode cX2_drawsAbove 70 = .ok (.ifCond .le 6, 3) := by decide +kernel
theorem dX2_drawsAbove_73 : decode cX2_drawsAbove 73 = .ok (.iinc 6 1, 3) := by decide +kernel
theorem dX2_drawsAbove_76 : decode cX2_drawsAbove 76 = .ok (.iinc 8 1, 3) := by decide +kernel
theorem dX2_drawsAbove_79 : decode cX2_drawsAbove 79 = .ok (.goto (-50), 3) := by decide +kernel
theorem dX2_drawsAbove_82 : decode cX2_drawsAbove 82 = .ok (.iload 6, 2) := by decide +kernel
theorem dX2_drawsAbove_84 : decode cX2_drawsAbove 84 = .ok (.ireturn, 1) := by decide +kernel
theorem dX13_chance_0 : decode cX13_chance 0 = .ok (.aload_n 0, 1) := by decide +kernel
theorem dX13_chance_1 : decode cX13_chance 1 = .ok (.getfield 36, 3) := by decide +kernel
theorem dX13_chance_4 : decode cX13_chance 4 = .ok (.getfield 86, 3) := by decide +kernel
theorem dX13_chance_7 : decode cX13_chance 7 = .ok (.getfield 104, 3) := by decide +kernel
theorem dX13_chance_10 : decode cX13_chance 10 = .ok (.iload_n 2, 1) := by decide +kernel
theorem dX13_chance_11 : decode cX13_chance 11 = .ok (.invokevirtual 123, 3) := by decide +kernel
theorem dX13_chance_14 : decode cX13_chance 14 = .ok (.ifCond .eq 25, 3) := by decide +kernel
theorem dX13_chance_17 : decode cX13_chance 17 = .ok (.aload_n 0, 1) := by decide +kernel
theorem dX13_chance_18 : decode cX13_chance 18 = .ok (.getfield 36, 3) := by decide +kernel
theorem dX13_chance_21 : decode cX13_chance 21 = .ok (.getfield 86, 3) := by decide +kernel
theorem dX13_chance_24 : decode cX13_chance 24 = .ok (.getfield 114, 3) := by decide +kernel
theorem dX13_chance_27 : decode cX13_chance 27 = .ok (.iload 4, 2) := by decide +kernel
theorem dX13_chance_29 : decode cX13_chance 29 = .ok (.invokevirtual 123, 3) := by decide +kernel
theorem dX13_chance_32 : decode cX13_chance 32 = .ok (.ifCond .eq 7, 3) := by decide +kernel
theorem dX13_chance_35 : decode cX13_chance 35 = .ok (.iconst 1, 1) := by decide +kernel
theorem dX13_chance_36 : decode cX13_chance 36 = .ok (.goto 4, 3) := by decide +kernel
theorem dX13_chance_39 : decode cX13_chance 39 = .ok (.iconst 0, 1) := by decide +kernel
theorem dX13_chance_40 : decode cX13_chance 40 = .ok (.istore 6, 2) := by decide +kernel
theorem dX13_chance_42 : decode cX13_chance 42 = .ok (.iload 6, 2) := by decide +kernel
theorem dX13_chance_44 : decode cX13_chance 44 = .ok (.ifCond .eq 28, 3) := by decide +kernel
theorem dX13_chance_47 : decode cX13_chance 47 = .ok (.iload_n 1, 1) := by decide +kernel
theorem dX13_chance_48 : decode cX13_chance 48 = .ok (.ifCond .lt 24, 3) := by decide +kernel
theorem dX13_chance_51 : decode cX13_chance 51 = .ok (.iload_n 3, 1) := by decide +kernel
theorem dX13_chance_52 : decode cX13_chance 52 = .ok (.iconst 1, 1) := by decide +kernel
theorem dX13_chance_53 : decode cX13_chance 53 = .ok (.if_icmp .lt 19, 3) := by decide +kernel
theorem dX13_chance_56 : decode cX13_chance 56 = .ok (.iload_n 3, 1) := by decide +kernel
theorem dX13_chance_57 : decode cX13_chance 57 = .ok (.bipush 9, 2) := by decide +kernel
theorem dX13_chance_59 : decode cX13_chance 59 = .ok (.if_icmp .gt 13, 3) := by decide +kernel
theorem dX13_chance_62 : decode cX13_chance 62 = .ok (.iload 5, 2) := by decide +kernel
theorem dX13_chance_64 : decode cX13_chance 64 = .ok (.bipush 40, 2) := by decide +kernel
theorem dX13_chance_66 : decode cX13_chance 66 = .ok (.invokestatic 189, 3) := by decide +kernel
theorem dX13_chance_69 : decode cX13_chance 69 = .ok (.ifCond .ne 5, 3) := by decide +kernel
theorem dX13_chance_72 : decode cX13_chance 72 = .ok (.iconst (-1), 1) := by decide +kernel
theorem dX13_chance_73 : decode cX13_chance 73 = .ok (.ireturn, 1) := by decide +kernel
theorem dX13_chance_74 : decode cX13_chance 74 = .ok (.aload_n 0, 1) := by decide +kernel
theorem dX13_chance_75 : decode cX13_chance 75 = .ok (.getfield 52, 3) := by decide +kernel
theorem dX13_chance_78 : decode cX13_chance 78 = .ok (.invokevirtual 180, 3) := by decide +kernel
theorem dX13_chance_81 : decode cX13_chance 81 = .ok (.aload_n 0, 1) := by decide +kernel
theorem dX13_chance_82 : decode cX13_chance 82 = .ok (.getfield 70, 3) := by decide +kernel
theorem dX13_chance_85 : decode cX13_chance 85 = .ok (.iload_n 1, 1) := by decide +kernel
theorem dX13_chance_86 : decode cX13_chance 86 = .ok (.iload_n 2, 1) := by decide +kernel
theorem dX13_chance_87 : decode cX13_chance 87 = .ok (.iload_n 3, 1) := by decide +kernel
theorem dX13_chance_88 : decode cX13_chance 88 = .ok (.iload 4, 2) := by decide +kernel
theorem dX13_chance_90 : decode cX13_chance 90 = .ok (.iload 5, 2) := by decide +kernel
theorem dX13_chance_92 : decode cX13_chance 92 = .ok (.invokevirtual 301, 3) := by decide +kernel
theorem dX13_chance_95 : decode cX13_chance 95 = .ok (.ireturn, 1) := by decide +kernel
theorem dX4_knownBy_0 : decode cX4_knownBy 0 = .ok (.aload_n 0, 1) := by decide +kernel
theorem dX4_knownBy_1 : decode cX4_knownBy 1 = .ok (.getfield 37, 3) := by decide +kernel
theorem dX4_knownBy_4 : decode cX4_knownBy 4 = .ok (.ifCond .ge 10, 3) := by decide +kernel
theorem dX4_knownBy_7 : decode cX4_knownBy 7 = .ok (.aload_n 0, 1) := by decide +kernel
theorem dX4_knownBy_8 : decode cX4_knownBy 8 = .ok (.getfield 41, 3) := by decide +kernel
theorem dX4_knownBy_11 : decode cX4_knownBy 11 = .ok (.goto 7, 3) := by decide +kernel
theorem dX4_knownBy_14 : decode cX4_knownBy 14 = .ok (.aload_n 0, 1) := by decide +kernel
theorem dX4_knownBy_15 : decode cX4_knownBy 15 = .ok (.getfield 37, 3) := by decide +kernel
theorem dX4_knownBy_18 : decode cX4_knownBy 18 = .ok (.ireturn, 1) := by decide +kernel
theorem dX13_count_0 : decode cX13_count 0 = .ok (.aload_n 0, 1) := by decide +kernel
theorem dX13_count_1 : decode cX13_count 1 = .ok (.getfield 36, 3) := by decide +kernel
theorem dX13_count_4 : decode cX13_count 4 = .ok (.getfield 86, 3) := by decide +kernel
theorem dX13_count_7 : decode cX13_count 7 = .ok (.astore_n 2, 1) := by decide +kernel
theorem dX13_count_8 : decode cX13_count 8 = .ok (.iload_n 1, 1) := by decide +kernel
theorem dX13_count_9 : decode cX13_count 9 = .ok (.tableswitch 171 0 12 #[67, 72, 77, 85, 93, 101, 112, 120, 128, 136, 144, 152, 160], 67) := by decide +kernel
theorem dX13_count_76 : decode cX13_count 76 = .ok (.aload_n 2, 1) := by decide +kernel
theorem dX13_count_77 : decode cX13_count 77 = .ok (.getfield 311, 3) := by decide +kernel
theorem dX13_count_80 : decode cX13_count 80 = .ok (.ireturn, 1) := by decide +kernel
theorem dX13_count_81 : decode cX13_count 81 = .ok (.aload_n 2, 1) := by decide +kernel
theorem dX13_count_82 : decode cX13_count 82 = .ok (.getfield 314, 3) := by decide +kernel
theorem dX13_count_85 : decode cX13_count 85 = .ok (.ireturn, 1) := by decide +kernel
theorem dX13_count_86 : decode cX13_count 86 = .ok (.aload_n 2, 1) := by decide +kernel
theorem dX13_count_87 : decode cX13_count 87 = .ok (.getfield 104, 3) := by decide +kernel
theorem dX13_count_90 : decode cX13_count 90 = .ok (.getfield 138, 3) := by decide +kernel
theorem dX13_count_93 : decode cX13_count 93 = .ok (.ireturn, 1) := by decide +kernel
theorem dX13_count_94 : decode cX13_count 94 = .ok (.aload_n 2, 1) := by decide +kernel
theorem dX13_count_95 : decode cX13_count 95 = .ok (.getfield 114, 3) := by decide +kernel
theorem dX13_count_98 : decode cX13_count 98 = .ok (.getfield 138, 3) := by decide +kernel
theorem dX13_count_101 : decode cX13_count 101 = .ok (.ireturn, 1) := by decide +kernel
theorem dX13_count_102 : decode cX13_count 102 = .ok (.aload_n 2, 1) := by decide +kernel
theorem dX13_count_103 : decode cX13_count 103 = .ok (.getfield 117, 3) := by decide +kernel
theorem dX13_count_106 : decode cX13_count 106 = .ok (.getfield 138, 3) := by decide +kernel
theorem dX13_count_109 : decode cX13_count 109 = .ok (.ireturn, 1) := by decide +kernel
theorem dX13_count_110 : decode cX13_count 110 = .ok (.aload_n 0, 1) := by decide +kernel
theorem dX13_count_111 : decode cX13_count 111 = .ok (.getfield 36, 3) := by decide +kernel
theorem dX13_count_114 : decode cX13_count 114 = .ok (.getfield 167, 3) := by decide +kernel
theorem dX13_count_117 : decode cX13_count 117 = .ok (.getfield 317, 3) := by decide +kernel
theorem dX13_count_120 : decode cX13_count 120 = .ok (.ireturn, 1) := by decide +kernel
theorem dX13_count_121 : decode cX13_count 121 = .ok (.aload_n 2, 1) := by decide +kernel
theorem dX13_count_122 : decode cX13_count 122 = .ok (.getfield 161, 3) := by decide +kernel
theorem dX13_count_125 : decode cX13_count 125 = .ok (.getfield 138, 3) := by decide +kernel
theorem dX13_count_128 : decode cX13_count 128 = .ok (.ireturn, 1) := by decide +kernel
theorem dX13_count_129 : decode cX13_count 129 = .ok (.aload_n 2, 1) := by decide +kernel
theorem dX13_count_130 : decode cX13_count 130 = .ok (.getfield 120, 3) := by decide +kernel
theorem dX13_count_133 : decode cX13_count 133 = .ok (.getfield 138, 3) := by decide +kernel
theorem dX13_count_136 : decode cX13_count 136 = .ok (.ireturn, 1) := by decide +kernel
theorem dX13_count_137 : decode cX13_count 137 = .ok (.aload_n 2, 1) := by decide +kernel
theorem dX13_count_138 : decode cX13_count 138 = .ok (.getfield 208, 3) := by decide +kernel
theorem dX13_count_141 : decode cX13_count 141 = .ok (.getfield 318, 3) := by decide +kernel
theorem dX13_count_144 : decode cX13_count 144 = .ok (.ireturn, 1) := by decide +kernel
theorem dX13_count_145 : decode cX13_count 145 = .ok (.aload_n 0, 1) := by decide +kernel
theorem dX13_count_146 : decode cX13_count 146 = .ok (.getfield 43, 3) := by decide +kernel
theorem dX13_count_149 : decode cX13_count 149 = .ok (.getfield 321, 3) := by decide +kernel
theorem dX13_count_152 : decode cX13_count 152 = .ok (.ireturn, 1) := by decide +kernel
theorem dX13_count_153 : decode cX13_count 153 = .ok (.aload_n 0, 1) := by decide +kernel
theorem dX13_count_154 : decode cX13_count 154 = .ok (.getfield 43, 3) := by decide +kernel
theorem dX13_count_157 : decode cX13_count 157 = .ok (.invokevirtual 322, 3) := by decide +kernel
theorem dX13_count_160 : decode cX13_count 160 = .ok (.ireturn, 1) := by decide +kernel
theorem dX13_count_161 : decode cX13_count 161 = .ok (.aload_n 0, 1) := by decide +kernel
theorem dX13_count_162 : decode cX13_count 162 = .ok (.getfield 36, 3) := by decide +kernel
theorem dX13_count_165 : decode cX13_count 165 = .ok (.getfield 325, 3) := by decide +kernel
theorem dX13_count_168 : decode cX13_count 168 = .ok (.ireturn, 1) := by decide +kernel
theorem dX13_count_169 : decode cX13_count 169 = .ok (.aload_n 0, 1) := by decide +kernel
theorem dX13_count_170 : decode cX13_count 170 = .ok (.getfield 36, 3) := by decide +kernel
theorem dX13_count_173 : decode cX13_count 173 = .ok (.getfield 328, 3) := by decide +kernel
theorem dX13_count_176 : decode cX13_count 176 = .ok (.invokestatic 332, 3) := by decide +kernel
theorem dX13_count_179 : decode cX13_count 179 = .ok (.ireturn, 1) := by decide +kernel
theorem dX13_count_180 : decode cX13_count 180 = .ok (.iconst (-1), 1) := by decide +kernel
theorem dX13_count_181 : decode cX13_count 181 = .ok (.ireturn, 1) := by decide +kernel
theorem dX13_cut_0 : decode cX13_cut 0 = .ok (.aload_n 0, 1) := by decide +kernel
theorem dX13_cut_1 : decode cX13_cut 1 = .ok (.getfield 36, 3) := by decide +kernel
theorem dX13_cut_4 : decode cX13_cut 4 = .ok (.getfield 86, 3) := by decide +kernel
theorem dX13_cut_7 : decode cX13_cut 7 = .ok (.iload_n 1, 1) := by decide +kernel
theorem dX13_cut_8 : decode cX13_cut 8 = .ok (.invokevirtual 152, 3) := by decide +kernel
theorem dX13_cut_11 : decode cX13_cut 11 = .ok (.ifCond .eq 14, 3) := by decide +kernel
theorem dX13_cut_14 : decode cX13_cut 14 = .ok (.aload_n 0, 1) := by decide +kernel
theorem dX13_cut_15 : decode cX13_cut 15 = .ok (.getfield 36, 3) := by decide +kernel
theorem dX13_cut_18 : decode cX13_cut 18 = .ok (.iload_n 1, 1) := by decide +kernel
theorem dX13_cut_19 : decode cX13_cut 19 = .ok (.invokevirtual 158, 3) := by decide +kernel
theorem dX13_cut_22 : decode cX13_cut 22 = .ok (.ifCond .ne 5, 3) := by decide +kernel
theorem dX13_cut_25 : decode cX13_cut 25 = .ok (.iconst 0, 1) := by decide +kernel
theorem dX13_cut_26 : decode cX13_cut 26 = .ok (.ireturn, 1) := by decide +kernel
theorem dX13_cut_27 : decode cX13_cut 27 = .ok (.aload_n 0, 1) := by decide +kernel
theorem dX13_cut_28 : decode cX13_cut 28 = .ok (.getfield 36, 3) := by decide +kernel
theorem dX13_cut_31 : decode cX13_cut 31 = .ok (.iload_n 1, 1) := by decide +kernel
theorem dX13_cut_32 : decode cX13_cut 32 = .ok (.invokevirtual 253, 3) := by decide +kernel
theorem dX13_cut_35 : decode cX13_cut 35 = .ok (.iconst 1, 1) := by decide +kernel
theorem dX13_cut_36 : decode cX13_cut 36 = .ok (.ireturn, 1) := by decide +kernel
theorem dX13_drop_0 : decode cX13_drop 0 = .ok (.aload_n 0, 1) := by decide +kernel
theorem dX13_drop_1 : decode cX13_drop 1 = .ok (.getfield 36, 3) := by decide +kernel
theorem dX13_drop_4 : decode cX13_drop 4 = .ok (.getfield 167, 3) := by decide +kernel
theorem dX13_drop_7 : decode cX13_drop 7 = .ok (.iload_n 1, 1) := by decide +kernel
theorem dX13_drop_8 : decode cX13_drop 8 = .ok (.iload_n 2, 1) := by decide +kernel
theorem dX13_drop_9 : decode cX13_drop 9 = .ok (.invokevirtual 176, 3) := by decide +kernel
theorem dX13_drop_12 : decode cX13_drop 12 = .ok (.ireturn, 1) := by decide +kernel
theorem dX13_fall_0 : decode cX13_fall 0 = .ok (.aload_n 0, 1) := by decide +kernel
theorem dX13_fall_1 : decode cX13_fall 1 = .ok (.getfield 36, 3) := by decide +kernel
theorem dX13_fall_4 : decode cX13_fall 4 = .ok (.getfield 86, 3) := by decide +kernel
theorem dX13_fall_7 : decode cX13_fall 7 = .ok (.getfield 104, 3) := by decide +kernel
theorem dX13_fall_10 : decode cX13_fall 10 = .ok (.iload_n 1, 1) := by decide +kernel
theorem dX13_fall_11 : decode cX13_fall 11 = .ok (.invokevirtual 123, 3) := by decide +kernel
theorem dX13_fall_14 : decode cX13_fall 14 = .ok (.ifCond .eq 21, 3) := by decide +kernel
theorem dX13_fall_17 : decode cX13_fall 17 = .ok (.aload_n 0, 1) := by decide +kernel
theorem dX13_fall_18 : decode cX13_fall 18 = .ok (.getfield 36, 3) := by decide +kernel
theorem dX13_fall_21 : decode cX13_fall 21 = .ok (.getfield 86, 3) := by decide +kernel
theorem dX13_fall_24 : decode cX13_fall 24 = .ok (.iload_n 2, 1) := by decide +kernel
theorem dX13_fall_25 : decode cX13_fall 25 = .ok (.invokevirtual 155, 3) := by decide +kernel
theorem dX13_fall_28 : decode cX13_fall 28 = .ok (.ifCond .eq 7, 3) := by decide +kernel
theorem dX13_fall_31 : decode cX13_fall 31 = .ok (.iconst 1, 1) := by decide +kernel
theorem dX13_fall_32 : decode cX13_fall 32 = .ok (.goto 4, 3) := by decide +kernel
theorem dX13_fall_35 : decode cX13_fall 35 = .ok (.iconst 0, 1) := by decide +kernel
theorem dX13_fall_36 : decode cX13_fall 36 = .ok (.istore 4, 2) := by decide +kernel
theorem dX13_fall_38 : decode cX13_fall 38 = .ok (.iload 4, 2) := by decide +kernel
theorem dX13_fall_40 : decode cX13_fall 40 = .ok (.ifCond .eq 25, 3) := by decide +kernel
theorem dX13_fall_43 : decode cX13_fall 43 = .ok (.iload_n 3, 1) := by decide +kernel
theorem dX13_fall_44 : decode cX13_fall 44 = .ok (.bipush 99, 2) := by decide +kernel
theorem dX13_fall_46 : decode cX13_fall 46 = .ok (.invokestatic 189, 3) := by decide +kernel
theorem dX13_fall_49 : decode cX13_fall 49 = .ok (.ifCond .eq 16, 3) := by decide +kernel
theorem dX13_fall_52 : decode cX13_fall 52 = .ok (.aload_n 0, 1) := by decide +kernel
theorem dX13_fall_53 : decode cX13_fall 53 = .ok (.getfield 36, 3) := by decide +kernel
theorem dX13_fall_56 : decode cX13_fall 56 = .ok (.getfield 167, 3) := by decide +kernel
theorem dX13_fall_59 : decode cX13_fall 59 = .ok (.invokevirtual 246, 3) := by decide +kernel
theorem dX13_fall_62 : decode cX13_fall 62 = .ok (.ifCond .eq 5, 3) := by decide +kernel
theorem dX13_fall_65 : decode cX13_fall 65 = .ok (.iconst (-1), 1) := by decide +kernel
theorem dX13_fall_66 : decode cX13_fall 66 = .ok (.ireturn, 1) := by decide +kernel
theorem dX13_fall_67 : decode cX13_fall 67 = .ok (.aload_n 0, 1) := by decide +kernel
theorem dX13_fall_68 : decode cX13_fall 68 = .ok (.getfield 36, 3) := by decide +kernel
theorem dX13_fall_71 : decode cX13_fall 71 = .ok (.iload_n 1, 1) := by decide +kernel
theorem dX13_fall_72 : decode cX13_fall 72 = .ok (.iload_n 2, 1) := by decide +kernel
theorem dX13_fall_73 : decode cX13_fall 73 = .ok (.iload_n 3, 1) := by decide +kernel
theorem dX13_fall_74 : decode cX13_fall 74 = .ok (.invokevirtual 249, 3) := by decide +kernel
theorem dX13_fall_77 : decode cX13_fall 77 = .ok (.ireturn, 1) := by decide +kernel
theorem dX13_far_0 : decode cX13_far 0 = .ok (.aload_n 0, 1) := by decide +kernel
theorem dX13_far_1 : decode cX13_far 1 = .ok (.getfield 36, 3) := by decide +kernel
theorem dX13_far_4 : decode cX13_far 4 = .ok (.getfield 86, 3) := by decide +kernel
theorem dX13_far_7 : decode cX13_far 7 = .ok (.iload_n 1, 1) := by decide +kernel
theorem dX13_far_8 : decode cX13_far 8 = .ok (.invokevirtual 155, 3) := by decide +kernel
theorem dX13_far_11 : decode cX13_far 11 = .ok (.ifCond .eq 17, 3) := by decide +kernel
theorem dX13_far_14 : decode cX13_far 14 = .ok (.aload_n 0, 1) := by decide +kernel
theorem dX13_far_15 : decode cX13_far 15 = .ok (.getfield 36, 3) := by decide +kernel
theorem dX13_far_18 : decode cX13_far 18 = .ok (.getfield 86, 3) := by decide +kernel
theorem dX13_far_21 : decode cX13_far 21 = .ok (.iload_n 2, 1) := by decide +kernel
theorem dX13_far_22 : decode cX13_far 22 = .ok (.invokevirtual 155, 3) := by decide +kernel
theorem dX13_far_25 : decode cX13_far 25 = .ok (.ifCond .ne 5, 3) := by decide +kernel
theorem dX13_far_28 : decode cX13_far 28 = .ok (.iconst (-1), 1) := by decide +kernel
theorem dX13_far_29 : decode cX13_far 29 = .ok (.ireturn, 1) := by decide +kernel
theorem dX13_far_30 : decode cX13_far 30 = .ok (.aload_n 0, 1) := by decide +kernel
theorem dX13_far_31 : decode cX13_far 31 = .ok (.getfield 52, 3) := by decide +kernel
theorem dX13_far_34 : decode cX13_far 34 = .ok (.invokevirtual 180, 3) := by decide +kernel
theorem dX13_far_37 : decode cX13_far 37 = .ok (.aload_n 0, 1) := by decide +kernel
theorem dX13_far_38 : decode cX13_far 38 = .ok (.getfield 52, 3) := by decide +kernel
theorem dX13_far_41 : decode cX13_far 41 = .ok (.iload_n 1, 1) := by decide +kernel
theorem dX13_far_42 : decode cX13_far 42 = .ok (.iload_n 2, 1) := by decide +kernel
theorem dX13_far_43 : decode cX13_far 43 = .ok (.invokevirtual 183, 3) := by decide +kernel
theorem dX13_far_46 : decode cX13_far 46 = .ok (.ireturn, 1) := by decide +kernel
theorem dX13_fault_0 : decode cX13_fault 0 = .ok (.iload_n 1, 1) := by decide +kernel
theorem dX13_fault_1 : decode cX13_fault 1 = .ok (.ifCond .ne 11, 3) := by decide +kernel
theorem dX13_fault_4 : decode cX13_fault 4 = .ok (.aload_n 0, 1) := by decide +kernel
theorem dX13_fault_5 : decode cX13_fault 5 = .ok (.getfield 27, 3) := by decide +kernel
theorem dX13_fault_8 : decode cX13_fault 8 = .ok (.getfield 98, 3) := by decide +kernel
theorem dX13_fault_11 : decode cX13_fault 11 = .ok (.ireturn, 1) := by decide +kernel
theorem dX13_fault_12 : decode cX13_fault 12 = .ok (.iload_n 1, 1) := by decide +kernel
theorem dX13_fault_13 : decode cX13_fault 13 = .ok (.iconst 1, 1) := by decide +kernel
theorem dX13_fault_14 : decode cX13_fault 14 = .ok (.if_icmp .ne 13, 3) := by decide +kernel
theorem dX13_fault_17 : decode cX13_fault 17 = .ok (.aload_n 0, 1) := by decide +kernel
theorem dX13_fault_18 : decode cX13_fault 18 = .ok (.getfield 27, 3) := by decide +kernel
theorem dX13_fault_21 : decode cX13_fault 21 = .ok (.getfield 101, 3) := by decide +kernel
theorem dX13_fault_24 : decode cX13_fault 24 = .ok (.goto 4, 3) := by decide +kernel
theorem dX13_fault_27 : decode cX13_fault 27 = .ok (.iconst (-1), 1) := by decide +kernel
theorem dX13_fault_28 : decode cX13_fault 28 = .ok (.ireturn, 1) := by decide +kernel
theorem dX13_putBytes_0 : decode cX13_putBytes 0 = .ok (.bipush 24, 2) := by decide +kernel
theorem dX13_putBytes_2 : decode cX13_putBytes 2 = .ok (.istore_n 2, 1) := by decide +kernel
theorem dX13_putBytes_3 : decode cX13_putBytes 3 = .ok (.iload_n 2, 1) := by decide +kernel
theorem dX13_putBytes_4 : decode cX13_putBytes 4 = .ok (.ifCond .lt 44, 3) := by decide +kernel
theorem dX13_putBytes_7 : decode cX13_putBytes 7 = .ok (.aload_n 0, 1) := by decide +kernel
theorem dX13_putBytes_8 : decode cX13_putBytes 8 = .ok (.getfield 74, 3) := by decide +kernel
theorem dX13_putBytes_11 : decode cX13_putBytes 11 = .ok (.aload_n 0, 1) := by decide +kernel
theorem dX13_putBytes_12 : decode cX13_putBytes 12 = .ok (.getfield 11, 3) := by decide +kernel
theorem dX13_putBytes_15 : decode cX13_putBytes 15 = .ok (.arraylength, 1) := by decide +kernel
theorem dX13_putBytes_16 : decode cX13_putBytes 16 = .ok (.if_icmp .ge 32, 3) := by decide +kernel
theorem dX13_putBytes_19 : decode cX13_putBytes 19 = .ok (.aload_n 0, 1) := by decide +kernel
theorem dX13_putBytes_20 : decode cX13_putBytes 20 = .ok (.getfield 11, 3) := by decide +kernel
theorem dX13_putBytes_23 : decode cX13_putBytes 23 = .ok (.aload_n 0, 1) := by decide +kernel
theorem dX13_putBytes_24 : decode cX13_putBytes 24 = .ok (.getfield 74, 3) := by decide +kernel
theorem dX13_putBytes_27 : decode cX13_putBytes 27 = .ok (.iload_n 1, 1) := by decide +kernel
theorem dX13_putBytes_28 : decode cX13_putBytes 28 = .ok (.iload_n 2, 1) := by decide +kernel
theorem dX13_putBytes_29 : decode cX13_putBytes 29 = .ok (.iushr, 1) := by decide +kernel
theorem dX13_putBytes_30 : decode cX13_putBytes 30 = .ok (.i2b, 1) := by decide +kernel
theorem dX13_putBytes_31 : decode cX13_putBytes 31 = .ok (.bastore, 1) := by decide +kernel
theorem dX13_putBytes_32 : decode cX13_putBytes 32 = .ok (.aload_n 0, 1) := by decide +kernel
theorem dX13_putBytes_33 : decode cX13_putBytes 33 = .ok (.dup, 1) := by decide +kernel
theorem dX13_putBytes_34 : decode cX13_putBytes 34 = .ok (.getfield 74, 3) := by decide +kernel
theorem dX13_putBytes_37 : decode cX13_putBytes 37 = .ok (.iconst 1, 1) := by decide +kernel
theorem dX13_putBytes_38 : decode cX13_putBytes 38 = .ok (.iadd, 1) := by decide +kernel
theorem dX13_putBytes_39 : decode cX13_putBytes 39 = .ok (.putfield 74, 3) := by decide +kernel
theorem dX13_putBytes_42 : decode cX13_putBytes 42 = .ok (.iinc 2 (-8), 3) := by decide +kernel
theorem dX13_putBytes_45 : decode cX13_putBytes 45 = .ok (.goto (-42), 3) := by decide +kernel
theorem dX13_putBytes_48 : decode cX13_putBytes 48 = .ok (.return_, 1) := by decide +kernel
theorem dX13_feed_0 : decode cX13_feed 0 = .ok (.aload_n 0, 1) := by decide +kernel
theorem dX13_feed_1 : decode cX13_feed 1 = .ok (.getfield 74, 3) := by decide +kernel
theorem dX13_feed_4 : decode cX13_feed 4 = .ok (.sipush 780, 3) := by decide +kernel
theorem dX13_feed_7 : decode cX13_feed 7 = .ok (.if_icmp .le 5, 3) := by decide +kernel
theorem dX13_feed_10 : decode cX13_feed 10 = .ok (.iconst (-1), 1) := by decide +kernel
theorem dX13_feed_11 : decode cX13_feed 11 = .ok (.ireturn, 1) := by decide +kernel
theorem dX13_feed_12 : decode cX13_feed 12 = .ok (.aload_n 0, 1) := by decide +kernel
theorem dX13_feed_13 : decode cX13_feed 13 = .ok (.iload_n 1, 1) := by decide +kernel
theorem dX13_feed_14 : decode cX13_feed 14 = .ok (.invokevirtual 78, 3) := by decide +kernel
theorem dX13_feed_17 : decode cX13_feed 17 = .ok (.aload_n 0, 1) := by decide +kernel
theorem dX13_feed_18 : decode cX13_feed 18 = .ok (.iload_n 2, 1) := by decide +kernel
theorem dX13_feed_19 : decode cX13_feed 19 = .ok (.invokevirtual 78, 3) := by decide +kernel
theorem dX13_feed_22 : decode cX13_feed 22 = .ok (.aload_n 0, 1) := by decide +kernel
theorem dX13_feed_23 : decode cX13_feed 23 = .ok (.iload_n 3, 1) := by decide +kernel
theorem dX13_feed_24 : decode cX13_feed 24 = .ok (.invokevirtual 78, 3) := by decide +kernel
theorem dX13_feed_27 : decode cX13_feed 27 = .ok (.aload_n 0, 1) := by decide +kernel
theorem dX13_feed_28 : decode cX13_feed 28 = .ok (.iload 4, 2) := by decide +kernel
theorem dX13_feed_30 : decode cX13_feed 30 = .ok (.invokevirtual 78, 3) := by decide +kernel
theorem dX13_feed_33 : decode cX13_feed 33 = .ok (.aload_n 0, 1) := by decide +kernel
theorem dX13_feed_34 : decode cX13_feed 34 = .ok (.iload 5, 2) := by decide +kernel
theorem dX13_feed_36 : decode cX13_feed 36 = .ok (.invokevirtual 78, 3) := by decide +kernel
theorem dX13_feed_39 : decode cX13_feed 39 = .ok (.aload_n 0, 1) := by decide +kernel
theorem dX13_feed_40 : decode cX13_feed 40 = .ok (.getfield 74, 3) := by decide +kernel
theorem dX13_feed_43 : decode cX13_feed 43 = .ok (.ireturn, 1) := by decide +kernel
theorem dX6_addSum_0 : decode cX6_addSum 0 = .ok (.iload_n 1, 1) := by decide +kernel
theorem dX6_addSum_1 : decode cX6_addSum 1 = .ok (.ifCond .lt 36, 3) := by decide +kernel
theorem dX6_addSum_4 : decode cX6_addSum 4 = .ok (.iload_n 1, 1) := by decide +kernel
theorem dX6_addSum_5 : decode cX6_addSum 5 = .ok (.bipush 48, 2) := by decide +kernel
theorem dX6_addSum_7 : decode cX6_addSum 7 = .ok (.if_icmp .ge 30, 3) := by decide +kernel
theorem dX6_addSum_10 : decode cX6_addSum 10 = .ok (.iload_n 2, 1) := by decide +kernel
theorem dX6_addSum_11 : decode cX6_addSum 11 = .ok (.ifCond .lt 26, 3) := by decide +kernel
theorem dX6_addSum_14 : decode cX6_addSum 14 = .ok (.iload_n 2, 1) := by decide +kernel
theorem dX6_addSum_15 : decode cX6_addSum 15 = .ok (.sipush 200, 3) := by decide +kernel
theorem dX6_addSum_18 : decode cX6_addSum 18 = .ok (.if_icmp .ge 19, 3) := by decide +kernel
theorem dX6_addSum_21 : decode cX6_addSum 21 = .ok (.aload_n 0, 1) := by decide +kernel
theorem dX6_addSum_22 : decode cX6_addSum 22 = .ok (.getfield 24, 3) := by decide +kernel
theorem dX6_addSum_25 : decode cX6_addSum 25 = .ok (.iload_n 1, 1) := by decide +kernel
theorem dX6_addSum_26 : decode cX6_addSum 26 = .ok (.sipush 200, 3) := by decide +kernel
theorem dX6_addSum_29 : decode cX6_addSum 29 = .ok (.imul, 1) := by decide +kernel
theorem dX6_addSum_30 : decode cX6_addSum 30 = .ok (.iload_n 2, 1) := by decide +kernel
theorem dX6_addSum_31 : decode cX6_addSum 31 = .ok (.iadd, 1) := by decide +kernel
theorem dX6_addSum_32 : decode cX6_addSum 32 = .ok (.dup2, 1) := by decide +kernel
theorem dX6_addSum_33 : decode cX6_addSum 33 = .ok (.iaload, 1) := by decide +kernel
theorem dX6_addSum_34 : decode cX6_addSum 34 = .ok (.iload_n 3, 1) := by decide +kernel
theorem dX6_addSum_35 : decode cX6_addSum 35 = .ok (.iadd, 1) := by decide +kernel
theorem dX6_addSum_36 : decode cX6_addSum 36 = .ok (.iastore, 1) := by decide +kernel
theorem dX6_addSum_37 : decode cX6_addSum 37 = .ok (.return_, 1) := by decide +kernel
theorem dX6_spreadRises_0 : decode cX6_spreadRises 0 = .ok (.iconst 0, 1) := by decide +kernel
theorem dX6_spreadRises_1 : decode cX6_spreadRises 1 = .ok (.istore 4, 2) := by decide +kernel
theorem dX6_spreadRises_3 : decode cX6_spreadRises 3 = .ok (.iload 4, 2) := by decide +kernel
theorem dX6_spreadRises_5 : decode cX6_spreadRises 5 = .ok (.aload_n 0, 1) := by decide +kernel
theorem dX6_spreadRises_6 : decode cX6_spreadRises 6 = .ok (.getfield 39, 3) := by decide +kernel
theorem dX6_spreadRises_9 : decode cX6_spreadRises 9 = .ok (.getfield 52, 3) := by decide +kernel
theorem dX6_spreadRises_12 : decode cX6_spreadRises 12 = .ok (.invokevirtual 56, 3) := by decide +kernel
theorem dX6_spreadRises_15 : decode cX6_spreadRises 15 = .ok (.if_icmp .ge 67, 3) := by decide +kernel
theorem dX6_spreadRises_18 : decode cX6_spreadRises 18 = .ok (.aload_n 0, 1) := by decide +kernel
theorem dX6_spreadRises_19 : decode cX6_spreadRises 19 = .ok (.iload_n 2, 1) := by decide +kernel
theorem dX6_spreadRises_20 : decode cX6_spreadRises 20 = .ok (.iload 4, 2) := by decide +kernel
theorem dX6_spreadRises_22 : decode cX6_spreadRises 22 = .ok (.invokevirtual 119, 3) := by decide +kernel
theorem dX6_spreadRises_25 : decode cX6_spreadRises 25 = .ok (.istore 5, 2) := by decide +kernel
theorem dX6_spreadRises_27 : decode cX6_spreadRises 27 = .ok (.iconst 0, 1) := by decide +kernel
theorem dX6_spreadRises_28 : decode cX6_spreadRises 28 = .ok (.istore 6, 2) := by decide +kernel
theorem dX6_spreadRises_30 : decode cX6_spreadRises 30 = .ok (.iload 6, 2) := by decide +kernel
theorem dX6_spreadRises_32 : decode cX6_spreadRises 32 = .ok (.aload_n 1, 1) := by decide +kernel
theorem dX6_spreadRises_33 : decode cX6_spreadRises 33 = .ok (.getfield 103, 3) := by decide +kernel
theorem dX6_spreadRises_36 : decode cX6_spreadRises 36 = .ok (.if_icmp .ge 40, 3) := by decide +kernel
theorem dX6_spreadRises_39 : decode cX6_spreadRises 39 = .ok (.iload 5, 2) := by decide +kernel
theorem dX6_spreadRises_41 : decode cX6_spreadRises 41 = .ok (.ifCond .lt 35, 3) := by decide +kernel
theorem dX6_spreadRises_44 : decode cX6_spreadRises 44 = .ok (.aload_n 0, 1) := by decide +kernel
theorem dX6_spreadRises_45 : decode cX6_spreadRises 45 = .ok (.iload 4, 2) := by decide +kernel
theorem dX6_spreadRises_47 : decode cX6_spreadRises 47 = .ok (.iload_n 3, 1) := by decide +kernel
theorem dX6_spreadRises_48 : decode cX6_spreadRises 48 = .ok (.iload 5, 2) := by decide +kernel
theorem dX6_spreadRises_50 : decode cX6_spreadRises 50 = .ok (.iadd, 1) := by decide +kernel
theorem dX6_spreadRises_51 : decode cX6_spreadRises 51 = .ok (.iload 6, 2) := by decide +kernel
theorem dX6_spreadRises_53 : decode cX6_spreadRises 53 = .ok (.iadd, 1) := by decide +kernel
theorem dX6_spreadRises_54 : decode cX6_spreadRises 54 = .ok (.aload_n 0, 1) := by decide +kernel
theorem dX6_spreadRises_55 : decode cX6_spreadRises 55 = .ok (.aload_n 1, 1) := by decide +kernel
theorem dX6_spreadRises_56 : decode cX6_spreadRises 56 = .ok (.iload 6, 2) := by decide +kernel
theorem dX6_spreadRises_58 : decode cX6_spreadRises 58 = .ok (.invokevirtual 104, 3) := by decide +kernel
theorem dX6_spreadRises_61 : decode cX6_spreadRises 61 = .ok (.iload_n 2, 1) := by decide +kernel
theorem dX6_spreadRises_62 : decode cX6_spreadRises 62 = .ok (.iload 4, 2) := by decide +kernel
theorem dX6_spreadRises_64 : decode cX6_spreadRises 64 = .ok (.invokevirtual 127, 3) := by decide +kernel
theorem dX6_spreadRises_67 : decode cX6_spreadRises 67 = .ok (.invokevirtual 130, 3) := by decide +kernel
theorem dX6_spreadRises_70 : decode cX6_spreadRises 70 = .ok (.iinc 6 1, 3) := by decide +kernel
theorem dX6_spreadRises_73 : decode cX6_spreadRises 73 = .ok (.goto (-43), 3) := by decide +kernel
theorem dX6_spreadRises_76 : decode cX6_spreadRises 76 = .ok (.iinc 4 1, 3) := by decide +kernel
theorem dX6_spreadRises_79 : decode cX6_spreadRises 79 = .ok (.goto (-76), 3) := by decide +kernel
theorem dX6_spreadRises_82 : decode cX6_spreadRises 82 = .ok (.return_, 1) := by decide +kernel
theorem dX6_pourBy_0 : decode cX6_pourBy 0 = .ok (.aload_n 0, 1) := by decide +kernel
theorem dX6_pourBy_1 : decode cX6_pourBy 1 = .ok (.iload_n 2, 1) := by decide +kernel
theorem dX6_pourBy_2 : decode cX6_pourBy 2 = .ok (.iload_n 1, 1) := by decide +kernel
theorem dX6_pourBy_3 : decode cX6_pourBy 3 = .ok (.invokevirtual 119, 3) := by decide +kernel
theorem dX6_pourBy_6 : decode cX6_pourBy 6 = .ok (.istore 4, 2) := by decide +kernel
theorem dX6_pourBy_8 : decode cX6_pourBy 8 = .ok (.iload 4, 2) := by decide +kernel
theorem dX6_pourBy_10 : decode cX6_pourBy 10 = .ok (.ifCond .ge 4, 3) := by decide +kernel
theorem dX6_pourBy_13 : decode cX6_pourBy 13 = .ok (.return_, 1) := by decide +kernel
theorem dX6_pourBy_14 : decode cX6_pourBy 14 = .ok (.aload_n 0, 1) := by decide +kernel
theorem dX6_pourBy_15 : decode cX6_pourBy 15 = .ok (.getfield 36, 3) := by decide +kernel
theorem dX6_pourBy_18 : decode cX6_pourBy 18 = .ok (.invokevirtual 100, 3) := by decide +kernel
theorem dX6_pourBy_21 : decode cX6_pourBy 21 = .ok (.iconst 0, 1) := by decide +kernel
theorem dX6_pourBy_22 : decode cX6_pourBy 22 = .ok (.istore 5, 2) := by decide +kernel
theorem dX6_pourBy_24 : decode cX6_pourBy 24 = .ok (.iload 5, 2) := by decide +kernel
theorem dX6_pourBy_26 : decode cX6_pourBy 26 = .ok (.aload_n 0, 1) := by decide +kernel
theorem dX6_pourBy_27 : decode cX6_pourBy 27 = .ok (.getfield 32, 3) := by decide +kernel
theorem dX6_pourBy_30 : decode cX6_pourBy 30 = .ok (.getfield 103, 3) := by decide +kernel
theorem dX6_pourBy_33 : decode cX6_pourBy 33 = .ok (.if_icmp .ge 31, 3) := by decide +kernel
theorem dX6_pourBy_36 : decode cX6_pourBy 36 = .ok (.aload_n 0, 1) := by decide +kernel
theorem dX6_pourBy_37 : decode cX6_pourBy 37 = .ok (.getfield 36, 3) := by decide +kernel
theorem dX6_pourBy_40 : decode cX6_pourBy 40 = .ok (.aload_n 0, 1) := by decide +kernel
theorem dX6_pourBy_41 : decode cX6_pourBy 41 = .ok (.aload_n 0, 1) := by decide +kernel
theorem dX6_pourBy_42 : decode cX6_pourBy 42 = .ok (.getfield 32, 3) := by decide +kernel
theorem dX6_pourBy_45 : decode cX6_pourBy 45 = .ok (.iload 5, 2) := by decide +kernel
theorem dX6_pourBy_47 : decode cX6_pourBy 47 = .ok (.invokevirtual 104, 3) := by decide +kernel
theorem dX6_pourBy_50 : decode cX6_pourBy 50 = .ok (.iload_n 2, 1) := by decide +kernel
theorem dX6_pourBy_51 : decode cX6_pourBy 51 = .ok (.iload_n 1, 1) := by decide +kernel
theorem dX6_pourBy_52 : decode cX6_pourBy 52 = .ok (.invokevirtual 123, 3) := by decide +kernel
theorem dX6_pourBy_55 : decode cX6_pourBy 55 = .ok (.invokevirtual 108, 3) := by decide +kernel
theorem dX6_pourBy_58 : decode cX6_pourBy 58 = .ok (.iinc 5 1, 3) := by decide +kernel
theorem dX6_pourBy_61 : decode cX6_pourBy 61 = .ok (.goto (-37), 3) := by decide +kernel
theorem dX6_pourBy_64 : decode cX6_pourBy 64 = .ok (.aload_n 0, 1) := by decide +kernel
theorem dX6_pourBy_65 : decode cX6_pourBy 65 = .ok (.aload_n 0, 1) := by decide +kernel
theorem dX6_pourBy_66 : decode cX6_pourBy 66 = .ok (.getfield 36, 3) := by decide +kernel
theorem dX6_pourBy_69 : decode cX6_pourBy 69 = .ok (.iload_n 1, 1) := by decide +kernel
theorem dX6_pourBy_70 : decode cX6_pourBy 70 = .ok (.iload_n 3, 1) := by decide +kernel
theorem dX6_pourBy_71 : decode cX6_pourBy 71 = .ok (.iload 4, 2) := by decide +kernel
theorem dX6_pourBy_73 : decode cX6_pourBy 73 = .ok (.iadd, 1) := by decide +kernel
theorem dX6_pourBy_74 : decode cX6_pourBy 74 = .ok (.invokevirtual 111, 3) := by decide +kernel
theorem dX6_pourBy_77 : decode cX6_pourBy 77 = .ok (.return_, 1) := by decide +kernel
theorem dX6_pour_0 : decode cX6_pour 0 = .ok (.aload_n 0, 1) := by decide +kernel
theorem dX6_pour_1 : decode cX6_pour 1 = .ok (.getfield 39, 3) := by decide +kernel
theorem dX6_pour_4 : decode cX6_pour 4 = .ok (.getfield 52, 3) := by decide +kernel
theorem dX6_pour_7 : decode cX6_pour 7 = .ok (.iload_n 1, 1) := by decide +kernel
theorem dX6_pour_8 : decode cX6_pour 8 = .ok (.invokevirtual 93, 3) := by decide +kernel
theorem dX6_pour_11 : decode cX6_pour 11 = .ok (.astore 5, 2) := by decide +kernel
theorem dX6_pour_13 : decode cX6_pour 13 = .ok (.aload_n 0, 1) := by decide +kernel
theorem dX6_pour_14 : decode cX6_pour 14 = .ok (.getfield 39, 3) := by decide +kernel
theorem dX6_pour_17 : decode cX6_pour 17 = .ok (.getfield 52, 3) := by decide +kernel
theorem dX6_pour_20 : decode cX6_pour 20 = .ok (.getfield 97, 3) := by decide +kernel
theorem dX6_pour_23 : decode cX6_pour 23 = .ok (.astore 6, 2) := by decide +kernel
theorem dX6_pour_25 : decode cX6_pour 25 = .ok (.aload_n 0, 1) := by decide +kernel
theorem dX6_pour_26 : decode cX6_pour 26 = .ok (.getfield 32, 3) := by decide +kernel
theorem dX6_pour_29 : decode cX6_pour 29 = .ok (.invokevirtual 100, 3) := by decide +kernel
theorem dX6_pour_32 : decode cX6_pour 32 = .ok (.iconst 0, 1) := by decide +kernel
theorem dX6_pour_33 : decode cX6_pour 33 = .ok (.istore 7, 2) := by decide +kernel
theorem dX6_pour_35 : decode cX6_pour 35 = .ok (.iload 7, 2) := by decide +kernel
theorem dX6_pour_37 : decode cX6_pour 37 = .ok (.aload 5, 2) := by decide +kernel
theorem dX6_pour_39 : decode cX6_pour 39 = .ok (.getfield 103, 3) := by decide +kernel
theorem dX6_pour_42 : decode cX6_pour 42 = .ok (.if_icmp .ge 26, 3) := by decide +kernel
theorem dX6_pour_45 : decode cX6_pour 45 = .ok (.aload_n 0, 1) := by decide +kernel
theorem dX6_pour_46 : decode cX6_pour 46 = .ok (.getfield 32, 3) := by decide +kernel
theorem dX6_pour_49 : decode cX6_pour 49 = .ok (.aload 5, 2) := by decide +kernel
theorem dX6_pour_51 : decode cX6_pour 51 = .ok (.iload 7, 2) := by decide +kernel
theorem dX6_pour_53 : decode cX6_pour 53 = .ok (.invokevirtual 104, 3) := by decide +kernel
theorem dX6_pour_56 : decode cX6_pour 56 = .ok (.iload 4, 2) := by decide +kernel
theorem dX6_pour_58 : decode cX6_pour 58 = .ok (.imul, 1) := by decide +kernel
theorem dX6_pour_59 : decode cX6_pour 59 = .ok (.invokevirtual 108, 3) := by decide +kernel
theorem dX6_pour_62 : decode cX6_pour 62 = .ok (.iinc 7 1, 3) := by decide +kernel
theorem dX6_pour_65 : decode cX6_pour 65 = .ok (.goto (-30), 3) := by decide +kernel
theorem dX6_pour_68 : decode cX6_pour 68 = .ok (.aload_n 0, 1) := by decide +kernel
theorem dX6_pour_69 : decode cX6_pour 69 = .ok (.aload_n 0, 1) := by decide +kernel
theorem dX6_pour_70 : decode cX6_pour 70 = .ok (.getfield 32, 3) := by decide +kernel
theorem dX6_pour_73 : decode cX6_pour 73 = .ok (.iload_n 2, 1) := by decide +kernel
theorem dX6_pour_74 : decode cX6_pour 74 = .ok (.iload_n 3, 1) := by decide +kernel
theorem dX6_pour_75 : decode cX6_pour 75 = .ok (.invokevirtual 111, 3) := by decide +kernel
theorem dX6_pour_78 : decode cX6_pour 78 = .ok (.iconst 0, 1) := by decide +kernel
theorem dX6_pour_79 : decode cX6_pour 79 = .ok (.istore 7, 2) := by decide +kernel
theorem dX6_pour_81 : decode cX6_pour 81 = .ok (.iload 7, 2) := by decide +kernel
theorem dX6_pour_83 : decode cX6_pour 83 = .ok (.aload 6, 2) := by decide +kernel
theorem dX6_pour_85 : decode cX6_pour 85 = .ok (.getfield 103, 3) := by decide +kernel
theorem dX6_pour_88 : decode cX6_pour 88 = .ok (.if_icmp .ge 22, 3) := by decide +kernel
theorem dX6_pour_91 : decode cX6_pour 91 = .ok (.aload_n 0, 1) := by decide +kernel
theorem dX6_pour_92 : decode cX6_pour 92 = .ok (.aload 6, 2) := by decide +kernel
theorem dX6_pour_94 : decode cX6_pour 94 = .ok (.iload 7, 2) := by decide +kernel
theorem dX6_pour_96 : decode cX6_pour 96 = .ok (.invokevirtual 104, 3) := by decide +kernel
theorem dX6_pour_99 : decode cX6_pour 99 = .ok (.iload_n 2, 1) := by decide +kernel
theorem dX6_pour_100 : decode cX6_pour 100 = .ok (.iload_n 3, 1) := by decide +kernel
theorem dX6_pour_101 : decode cX6_pour 101 = .ok (.invokevirtual 115, 3) := by decide +kernel
theorem dX6_pour_104 : decode cX6_pour 104 = .ok (.iinc 7 1, 3) := by decide +kernel
theorem dX6_pour_107 : decode cX6_pour 107 = .ok (.goto (-26), 3) := by decide +kernel
theorem dX6_pour_110 : decode cX6_pour 110 = .ok (.return_, 1) := by decide +kernel
theorem dX6_freshenSums_0 : decode cX6_freshenSums 0 = .ok (.aload_n 0, 1) := by decide +kernel
theorem dX6_freshenSums_1 : decode cX6_freshenSums 1 = .ok (.invokevirtual 65, 3) := by decide +kernel
theorem dX6_freshenSums_4 : decode cX6_freshenSums 4 = .ok (.aload_n 0, 1) := by decide +kernel
theorem dX6_freshenSums_5 : decode cX6_freshenSums 5 = .ok (.getfield 39, 3) := by decide +kernel
theorem dX6_freshenSums_8 : decode cX6_freshenSums 8 = .ok (.getfield 68, 3) := by decide +kernel
theorem dX6_freshenSums_11 : decode cX6_freshenSums 11 = .ok (.ifCond .ne 4, 3) := by decide +kernel
theorem dX6_freshenSums_14 : decode cX6_freshenSums 14 = .ok (.return_, 1) := by decide +kernel
theorem dX6_freshenSums_15 : decode cX6_freshenSums 15 = .ok (.aload_n 0, 1) := by decide +kernel
theorem dX6_freshenSums_16 : decode cX6_freshenSums 16 = .ok (.getfield 39, 3) := by decide +kernel
theorem dX6_freshenSums_19 : decode cX6_freshenSums 19 = .ok (.iconst 0, 1) := by decide +kernel
theorem dX6_freshenSums_20 : decode cX6_freshenSums 20 = .ok (.putfield 68, 3) := by decide +kernel
theorem dX6_freshenSums_23 : decode cX6_freshenSums 23 = .ok (.iconst 0, 1) := by decide +kernel
theorem dX6_freshenSums_24 : decode cX6_freshenSums 24 = .ok (.istore_n 1, 1) := by decide +kernel
theorem dX6_freshenSums_25 : decode cX6_freshenSums 25 = .ok (.iload_n 1, 1) := by decide +kernel
theorem dX6_freshenSums_26 : decode cX6_freshenSums 26 = .ok (.aload_n 0, 1) := by decide +kernel
theorem dX6_freshenSums_27 : decode cX6_freshenSums 27 = .ok (.getfield 39, 3) := by decide +kernel
theorem dX6_freshenSums_30 : decode cX6_freshenSums 30 = .ok (.getfield 52, 3) := by decide +kernel
theorem dX6_freshenSums_33 : decode cX6_freshenSums 33 = .ok (.invokevirtual 56, 3) := by decide +kernel
theorem dX6_freshenSums_36 : decode cX6_freshenSums 36 = .ok (.sipush 200, 3) := by decide +kernel
theorem dX6_freshenSums_39 : decode cX6_freshenSums 39 = .ok (.imul, 1) := by decide +kernel
theorem dX6_freshenSums_40 : decode cX6_freshenSums 40 = .ok (.if_icmp .ge 25, 3) := by decide +kernel
theorem dX6_freshenSums_43 : decode cX6_freshenSums 43 = .ok (.iload_n 1, 1) := by decide +kernel
theorem dX6_freshenSums_44 : decode cX6_freshenSums 44 = .ok (.aload_n 0, 1) := by decide +kernel
theorem dX6_freshenSums_45 : decode cX6_freshenSums 45 = .ok (.getfield 24, 3) := by decide +kernel
theorem dX6_freshenSums_48 : decode cX6_freshenSums 48 = .ok (.arraylength, 1) := by decide +kernel
theorem dX6_freshenSums_49 : decode cX6_freshenSums 49 = .ok (.if_icmp .ge 16, 3) := by decide +kernel
theorem dX6_freshenSums_52 : decode cX6_freshenSums 52 = .ok (.aload_n 0, 1) := by decide +kernel
theorem dX6_freshenSums_53 : decode cX6_freshenSums 53 = .ok (.getfield 24, 3) := by decide +kernel
theorem dX6_freshenSums_56 : decode cX6_freshenSums 56 = .ok (.iload_n 1, 1) := by decide +kernel
theorem dX6_freshenSums_57 : decode cX6_freshenSums 57 = .ok (.iconst 0, 1) := by decide +kernel
theorem dX6_freshenSums_58 : decode cX6_freshenSums 58 = .ok (.iastore, 1) := by decide +kernel
theorem dX6_freshenSums_59 : decode cX6_freshenSums 59 = .ok (.iinc 1 1, 3) := by decide +kernel
theorem dX6_freshenSums_62 : decode cX6_freshenSums 62 = .ok (.goto (-37), 3) := by decide +kernel
theorem dX6_freshenSums_65 : decode cX6_freshenSums 65 = .ok (.aload_n 0, 1) := by decide +kernel
theorem dX6_freshenSums_66 : decode cX6_freshenSums 66 = .ok (.getfield 39, 3) := by decide +kernel
theorem dX6_freshenSums_69 : decode cX6_freshenSums 69 = .ok (.getfield 71, 3) := by decide +kernel
theorem dX6_freshenSums_72 : decode cX6_freshenSums 72 = .ok (.astore_n 1, 1) := by decide +kernel
theorem dX6_freshenSums_73 : decode cX6_freshenSums 73 = .ok (.iconst 0, 1) := by decide +kernel
theorem dX6_freshenSums_74 : decode cX6_freshenSums 74 = .ok (.istore_n 2, 1) := by decide +kernel
theorem dX6_freshenSums_75 : decode cX6_freshenSums 75 = .ok (.iload_n 2, 1) := by decide +kernel
theorem dX6_freshenSums_76 : decode cX6_freshenSums 76 = .ok (.aload_n 1, 1) := by decide +kernel
theorem dX6_freshenSums_77 : decode cX6_freshenSums 77 = .ok (.getfield 75, 3) := by decide +kernel
theorem dX6_freshenSums_80 : decode cX6_freshenSums 80 = .ok (.if_icmp .ge 32, 3) := by decide +kernel
theorem dX6_freshenSums_83 : decode cX6_freshenSums 83 = .ok (.aload_n 0, 1) := by decide +kernel
theorem dX6_freshenSums_84 : decode cX6_freshenSums 84 = .ok (.aload_n 1, 1) := by decide +kernel
theorem dX6_freshenSums_85 : decode cX6_freshenSums 85 = .ok (.getfield 81, 3) := by decide +kernel
theorem dX6_freshenSums_88 : decode cX6_freshenSums 88 = .ok (.iload_n 2, 1) := by decide +kernel
theorem dX6_freshenSums_89 : decode cX6_freshenSums 89 = .ok (.iaload, 1) := by decide +kernel
theorem dX6_freshenSums_90 : decode cX6_freshenSums 90 = .ok (.aload_n 1, 1) := by decide +kernel
theorem dX6_freshenSums_91 : decode cX6_freshenSums 91 = .ok (.getfield 84, 3) := by decide +kernel
theorem dX6_freshenSums_94 : decode cX6_freshenSums 94 = .ok (.iload_n 2, 1) := by decide +kernel
theorem dX6_freshenSums_95 : decode cX6_freshenSums 95 = .ok (.iaload, 1) := by decide +kernel
theorem dX6_freshenSums_96 : decode cX6_freshenSums 96 = .ok (.aload_n 1, 1) := by decide +kernel
theorem dX6_freshenSums_97 : decode cX6_freshenSums 97 = .ok (.getfield 86, 3) := by decide +kernel
theorem dX6_freshenSums_100 : decode cX6_freshenSums 100 = .ok (.iload_n 2, 1) := by decide +kernel
theorem dX6_freshenSums_101 : decode cX6_freshenSums 101 = .ok (.iaload, 1) := by decide +kernel
theorem dX6_freshenSums_102 : decode cX6_freshenSums 102 = .ok (.iconst 1, 1) := by decide +kernel
theorem dX6_freshenSums_103 : decode cX6_freshenSums 103 = .ok (.invokevirtual 89, 3) := by decide +kernel
theorem dX6_freshenSums_106 : decode cX6_freshenSums 106 = .ok (.iinc 2 1, 3) := by decide +kernel
theorem dX6_freshenSums_109 : decode cX6_freshenSums 109 = .ok (.goto (-34), 3) := by decide +kernel
theorem dX6_freshenSums_112 : decode cX6_freshenSums 112 = .ok (.return_, 1) := by decide +kernel
theorem dX8_arrivalOnPath_0 : decode cX8_arrivalOnPath 0 = .ok (.iconst 0, 1) := by decide +kernel
theorem dX8_arrivalOnPath_1 : decode cX8_arrivalOnPath 1 = .ok (.istore_n 3, 1) := by decide +kernel
theorem dX8_arrivalOnPath_2 : decode cX8_arrivalOnPath 2 = .ok (.iload_n 3, 1) := by decide +kernel
theorem dX8_arrivalOnPath_3 : decode cX8_arrivalOnPath 3 = .ok (.iload_n 2, 1) := by decide +kernel
theorem dX8_arrivalOnPath_4 : decode cX8_arrivalOnPath 4 = .ok (.if_icmp .gt 30, 3) := by decide +kernel
theorem dX8_arrivalOnPath_7 : decode cX8_arrivalOnPath 7 = .ok (.iload_n 3, 1) := by decide +kernel
theorem dX8_arrivalOnPath_8 : decode cX8_arrivalOnPath 8 = .ok (.aload_n 0, 1) := by decide +kernel
theorem dX8_arrivalOnPath_9 : decode cX8_arrivalOnPath 9 = .ok (.getfield 9, 3) := by decide +kernel
theorem dX8_arrivalOnPath_12 : decode cX8_arrivalOnPath 12 = .ok (.arraylength, 1) := by decide +kernel
theorem dX8_arrivalOnPath_13 : decode cX8_arrivalOnPath 13 = .ok (.if_icmp .ge 21, 3) := by decide +kernel
theorem dX8_arrivalOnPath_16 : decode cX8_arrivalOnPath 16 = .ok (.aload_n 0, 1) := by decide +kernel
theorem dX8_arrivalOnPath_17 : decode cX8_arrivalOnPath 17 = .ok (.getfield 9, 3) := by decide +kernel
theorem dX8_arrivalOnPath_20 : decode cX8_arrivalOnPath 20 = .ok (.iload_n 3, 1) := by decide +kernel
theorem dX8_arrivalOnPath_21 : decode cX8_arrivalOnPath 21 = .ok (.iaload, 1) := by decide +kernel
theorem dX8_arrivalOnPath_22 : decode cX8_arrivalOnPath 22 = .ok (.iload_n 1, 1) := by decide +kernel
theorem dX8_arrivalOnPath_23 : decode cX8_arrivalOnPath 23 = .ok (.if_icmp .ne 5, 3) := by decide +kernel
theorem dX8_arrivalOnPath_26 : decode cX8_arrivalOnPath 26 = .ok (.iload_n 3, 1) := by decide +kernel
theorem dX8_arrivalOnPath_27 : decode cX8_arrivalOnPath 27 = .ok (.ireturn, 1) := by decide +kernel
theorem dX8_arrivalOnPath_28 : decode cX8_arrivalOnPath 28 = .ok (.iinc 3 1, 3) := by decide +kernel
theorem dX8_arrivalOnPath_31 : decode cX8_arrivalOnPath 31 = .ok (.goto (-29), 3) := by decide +kernel
theorem dX8_arrivalOnPath_34 : decode cX8_arrivalOnPath 34 = .ok (.bipush (-2), 2) := by decide +kernel
theorem dX8_arrivalOnPath_36 : decode cX8_arrivalOnPath 36 = .ok (.ireturn, 1) := by decide +kernel
theorem dX6_sumAt_0 : decode cX6_sumAt 0 = .ok (.iload_n 1, 1) := by decide +kernel
theorem dX6_sumAt_1 : decode cX6_sumAt 1 = .ok (.ifCond .lt 24, 3) := by decide +kernel
theorem dX6_sumAt_4 : decode cX6_sumAt 4 = .ok (.iload_n 1, 1) := by decide +kernel
theorem dX6_sumAt_5 : decode cX6_sumAt 5 = .ok (.bipush 48, 2) := by decide +kernel
theorem dX6_sumAt_7 : decode cX6_sumAt 7 = .ok (.if_icmp .ge 18, 3) := by decide +kernel
theorem dX6_sumAt_10 : decode cX6_sumAt 10 = .ok (.iload_n 2, 1) := by decide +kernel
theorem dX6_sumAt_11 : decode cX6_sumAt 11 = .ok (.ifCond .lt 14, 3) := by decide +kernel
theorem dX6_sumAt_14 : decode cX6_sumAt 14 = .ok (.iload_n 2, 1) := by decide +kernel
theorem dX6_sumAt_15 : decode cX6_sumAt 15 = .ok (.sipush 200, 3) := by decide +kernel
theorem dX6_sumAt_18 : decode cX6_sumAt 18 = .ok (.if_icmp .ge 7, 3) := by decide +kernel
theorem dX6_sumAt_21 : decode cX6_sumAt 21 = .ok (.iconst 1, 1) := by decide +kernel
theorem dX6_sumAt_22 : decode cX6_sumAt 22 = .ok (.goto 4, 3) := by decide +kernel
theorem dX6_sumAt_25 : decode cX6_sumAt 25 = .ok (.iconst 0, 1) := by decide +kernel
theorem dX6_sumAt_26 : decode cX6_sumAt 26 = .ok (.istore_n 3, 1) := by decide +kernel
theorem dX6_sumAt_27 : decode cX6_sumAt 27 = .ok (.iload_n 3, 1) := by decide +kernel
theorem dX6_sumAt_28 : decode cX6_sumAt 28 = .ok (.ifCond .eq 18, 3) := by decide +kernel
theorem dX6_sumAt_31 : decode cX6_sumAt 31 = .ok (.aload_n 0, 1) := by decide +kernel
theorem dX6_sumAt_32 : decode cX6_sumAt 32 = .ok (.getfield 24, 3) := by decide +kernel
theorem dX6_sumAt_35 : decode cX6_sumAt 35 = .ok (.iload_n 1, 1) := by decide +kernel
theorem dX6_sumAt_36 : decode cX6_sumAt 36 = .ok (.sipush 200, 3) := by decide +kernel
theorem dX6_sumAt_39 : decode cX6_sumAt 39 = .ok (.imul, 1) := by decide +kernel
theorem dX6_sumAt_40 : decode cX6_sumAt 40 = .ok (.iload_n 2, 1) := by decide +kernel
theorem dX6_sumAt_41 : decode cX6_sumAt 41 = .ok (.iadd, 1) := by decide +kernel
theorem dX6_sumAt_42 : decode cX6_sumAt 42 = .ok (.iaload, 1) := by decide +kernel
theorem dX6_sumAt_43 : decode cX6_sumAt 43 = .ok (.goto 4, 3) := by decide +kernel
theorem dX6_sumAt_46 : decode cX6_sumAt 46 = .ok (.iconst 0, 1) := by decide +kernel
theorem dX6_sumAt_47 : decode cX6_sumAt 47 = .ok (.ireturn, 1) := by decide +kernel
theorem dX8_drive_0 : decode cX8_drive 0 = .ok (.aload_n 0, 1) := by decide +kernel
theorem dX8_drive_1 : decode cX8_drive 1 = .ok (.getfield 19, 3) := by decide +kernel
theorem dX8_drive_4 : decode cX8_drive 4 = .ok (.iload_n 1, 1) := by decide +kernel
theorem dX8_drive_5 : decode cX8_drive 5 = .ok (.iload_n 2, 1) := by decide +kernel
theorem dX8_drive_6 : decode cX8_drive 6 = .ok (.invokevirtual 86, 3) := by decide +kernel
theorem dX8_drive_9 : decode cX8_drive 9 = .ok (.istore 4, 2) := by decide +kernel
theorem dX8_drive_11 : decode cX8_drive 11 = .ok (.iload 4, 2) := by decide +kernel
theorem dX8_drive_13 : decode cX8_drive 13 = .ok (.ifCond .ge 7, 3) := by decide +kernel
theorem dX8_drive_16 : decode cX8_drive 16 = .ok (.ldc2_w 93, 3) := by decide +kernel
theorem dX8_drive_19 : decode cX8_drive 19 = .ok (.lreturn, 1) := by decide +kernel
theorem dX8_drive_20 : decode cX8_drive 20 = .ok (.aload_n 0, 1) := by decide +kernel
theorem dX8_drive_21 : decode cX8_drive 21 = .ok (.getfield 19, 3) := by decide +kernel
theorem dX8_drive_24 : decode cX8_drive 24 = .ok (.iload 4, 2) := by decide +kernel
theorem dX8_drive_26 : decode cX8_drive 26 = .ok (.iload_n 3, 1) := by decide +kernel
theorem dX8_drive_27 : decode cX8_drive 27 = .ok (.invokevirtual 95, 3) := by decide +kernel
theorem dX8_drive_30 : decode cX8_drive 30 = .ok (.istore 5, 2) := by decide +kernel
theorem dX8_drive_32 : decode cX8_drive 32 = .ok (.aload_n 0, 1) := by decide +kernel
theorem dX8_drive_33 : decode cX8_drive 33 = .ok (.getfield 15, 3) := by decide +kernel
theorem dX8_drive_36 : decode cX8_drive 36 = .ok (.getfield 31, 3) := by decide +kernel
theorem dX8_drive_39 : decode cX8_drive 39 = .ok (.getfield 98, 3) := by decide +kernel
theorem dX8_drive_42 : decode cX8_drive 42 = .ok (.invokevirtual 102, 3) := by decide +kernel
theorem dX8_drive_45 : decode cX8_drive 45 = .ok (.ifCond .eq 7, 3) := by decide +kernel
theorem dX8_drive_48 : decode cX8_drive 48 = .ok (.iload 5, 2) := by decide +kernel
theorem dX8_drive_50 : decode cX8_drive 50 = .ok (.i2l, 1) := by decide +kernel
theorem dX8_drive_51 : decode cX8_drive 51 = .ok (.lreturn, 1) := by decide +kernel
theorem dX8_drive_52 : decode cX8_drive 52 = .ok (.aload_n 0, 1) := by decide +kernel
theorem dX8_drive_53 : decode cX8_drive 53 = .ok (.getfield 15, 3) := by decide +kernel
theorem dX8_drive_56 : decode cX8_drive 56 = .ok (.iload 4, 2) := by decide +kernel
theorem dX8_drive_58 : decode cX8_drive 58 = .ok (.invokevirtual 108, 3) := by decide +kernel
theorem dX8_drive_61 : decode cX8_drive 61 = .ok (.ifCond .eq 7, 3) := by decide +kernel
theorem dX8_drive_64 : decode cX8_drive 64 = .ok (.iconst 1, 1) := by decide +kernel
theorem dX8_drive_65 : decode cX8_drive 65 = .ok (.goto 4, 3) := by decide +kernel
theorem dX8_drive_68 : decode cX8_drive 68 = .ok (.iconst 0, 1) := by decide +kernel
theorem dX8_drive_69 : decode cX8_drive 69 = .ok (.istore 6, 2) := by decide +kernel
theorem dX8_drive_71 : decode cX8_drive 71 = .ok (.aload_n 0, 1) := by decide +kernel
theorem dX8_drive_72 : decode cX8_drive 72 = .ok (.getfield 15, 3) := by decide +kernel
theorem dX8_drive_75 : decode cX8_drive 75 = .ok (.getfield 31, 3) := by decide +kernel
theorem dX8_drive_78 : decode cX8_drive 78 = .ok (.getfield 98, 3) := by decide +kernel
theorem dX8_drive_81 : decode cX8_drive 81 = .ok (.iload 5, 2) := by decide +kernel
theorem dX8_drive_83 : decode cX8_drive 83 = .ok (.aload_n 0, 1) := by decide +kernel
theorem dX8_drive_84 : decode cX8_drive 84 = .ok (.getfield 19, 3) := by decide +kernel
theorem dX8_drive_87 : decode cX8_drive 87 = .ok (.iload_n 1, 1) := by decide +kernel
theorem dX8_drive_88 : decode cX8_drive 88 = .ok (.iload_n 3, 1) := by decide +kernel
theorem dX8_drive_89 : decode cX8_drive 89 = .ok (.invokevirtual 95, 3) := by decide +kernel
theorem dX8_drive_92 : decode cX8_drive 92 = .ok (.iload 6, 2) := by decide +kernel
theorem dX8_drive_94 : decode cX8_drive 94 = .ok (.iload_n 2, 1) := by decide +kernel
theorem dX8_drive_95 : decode cX8_drive 95 = .ok (.iload_n 3, 1) := by decide +kernel
theorem dX8_drive_96 : decode cX8_drive 96 = .ok (.invokevirtual 112, 3) := by decide +kernel
theorem dX8_drive_99 : decode cX8_drive 99 = .ok (.lreturn, 1) := by decide +kernel
theorem dX8_next_0 : decode cX8_next 0 = .ok (.iload_n 1, 1) := by decide +kernel
theorem dX8_next_1 : decode cX8_next 1 = .ok (.istore_n 3, 1) := by decide +kernel
theorem dX8_next_2 : decode cX8_next 2 = .ok (.lconst 0, 1) := by decide +kernel
theorem dX8_next_3 : decode cX8_next 3 = .ok (.lstore 4, 2) := by decide +kernel
theorem dX8_next_5 : decode cX8_next 5 = .ok (.iconst 0, 1) := by decide +kernel
theorem dX8_next_6 : decode cX8_next 6 = .ok (.istore 6, 2) := by decide +kernel
theorem dX8_next_8 : decode cX8_next 8 = .ok (.iload 6, 2) := by decide +kernel
theorem dX8_next_10 : decode cX8_next 10 = .ok (.iconst 5, 1) := by decide +kernel
theorem dX8_next_11 : decode cX8_next 11 = .ok (.if_icmp .ge 73, 3) := by decide +kernel
theorem dX8_next_14 : decode cX8_next 14 = .ok (.aload_n 0, 1) := by decide +kernel
theorem dX8_next_15 : decode cX8_next 15 = .ok (.getfield 19, 3) := by decide +kernel
theorem dX8_next_18 : decode cX8_next 18 = .ok (.iload_n 1, 1) := by decide +kernel
theorem dX8_next_19 : decode cX8_next 19 = .ok (.iload 6, 2) := by decide +kernel
theorem dX8_next_21 : decode cX8_next 21 = .ok (.invokevirtual 86, 3) := by decide +kernel
theorem dX8_next_24 : decode cX8_next 24 = .ok (.istore 7, 2) := by decide +kernel
theorem dX8_next_26 : decode cX8_next 26 = .ok (.iload 7, 2) := by decide +kernel
theorem dX8_next_28 : decode cX8_next 28 = .ok (.ifCond .lt 50, 3) := by decide +kernel
theorem dX8_next_31 : decode cX8_next 31 = .ok (.aload_n 0, 1) := by decide +kernel
theorem dX8_next_32 : decode cX8_next 32 = .ok (.iload_n 1, 1) := by decide +kernel
theorem dX8_next_33 : decode cX8_next 33 = .ok (.iload 6, 2) := by decide +kernel
theorem dX8_next_35 : decode cX8_next 35 = .ok (.iload_n 2, 1) := by decide +kernel
theorem dX8_next_36 : decode cX8_next 36 = .ok (.invokevirtual 89, 3) := by decide +kernel
theorem dX8_next_39 : decode cX8_next 39 = .ok (.lstore 8, 2) := by decide +kernel
theorem dX8_next_41 : decode cX8_next 41 = .ok (.lload 8, 2) := by decide +kernel
theorem dX8_next_43 : decode cX8_next 43 = .ok (.ldc2_w 93, 3) := by decide +kernel
theorem dX8_next_46 : decode cX8_next 46 = .ok (.lcmp, 1) := by decide +kernel
theorem dX8_next_47 : decode cX8_next 47 = .ok (.ifCond .ne 7, 3) := by decide +kernel
theorem dX8_next_50 : decode cX8_next 50 = .ok (.lconst 0, 1) := by decide +kernel
theorem dX8_next_51 : decode cX8_next 51 = .ok (.goto 5, 3) := by decide +kernel
theorem dX8_next_54 : decode cX8_next 54 = .ok (.lload 8, 2) := by decide +kernel
theorem dX8_next_56 : decode cX8_next 56 = .ok (.lstore 10, 2) := by decide +kernel
theorem dX8_next_58 : decode cX8_next 58 = .ok (.iload 6, 2) := by decide +kernel
theorem dX8_next_60 : decode cX8_next 60 = .ok (.ifCond .eq 11, 3) := by decide +kernel
theorem dX8_next_63 : decode cX8_next 63 = .ok (.lload 10, 2) := by decide +kernel
theorem dX8_next_65 : decode cX8_next 65 = .ok (.lload 4, 2) := by decide +kernel
theorem dX8_next_67 : decode cX8_next 67 = .ok (.lcmp, 1) := by decide +kernel
theorem dX8_next_68 : decode cX8_next 68 = .ok (.ifCond .le 10, 3) := by decide +kernel
theorem dX8_next_71 : decode cX8_next 71 = .ok (.iload 7, 2) := by decide +kernel
theorem dX8_next_73 : decode cX8_next 73 = .ok (.istore_n 3, 1) := by decide +kernel
theorem dX8_next_74 : decode cX8_next 74 = .ok (.lload 10, 2) := by decide +kernel
theorem dX8_next_76 : decode cX8_next 76 = .ok (.lstore 4, 2) := by decide +kernel
theorem dX8_next_78 : decode cX8_next 78 = .ok (.iinc 6 1, 3) := by decide +kernel
theorem dX8_next_81 : decode cX8_next 81 = .ok (.goto (-73), 3) := by decide +kernel
theorem dX8_next_84 : decode cX8_next 84 = .ok (.iload_n 3, 1) := by decide +kernel
theorem dX8_next_85 : decode cX8_next 85 = .ok (.ireturn, 1) := by decide +kernel
theorem dX8_follow_0 : decode cX8_follow 0 = .ok (.aload_n 0, 1) := by decide +kernel
theorem dX8_follow_1 : decode cX8_follow 1 = .ok (.getfield 15, 3) := by decide +kernel
theorem dX8_follow_4 : decode cX8_follow 4 = .ok (.getfield 31, 3) := by decide +kernel
theorem dX8_follow_7 : decode cX8_follow 7 = .ok (.getfield 79, 3) := by decide +kernel
theorem dX8_follow_10 : decode cX8_follow 10 = .ok (.iload_n 1, 1) := by decide +kernel
theorem dX8_follow_11 : decode cX8_follow 11 = .ok (.invokevirtual 82, 3) := by decide +kernel
theorem dX8_follow_14 : decode cX8_follow 14 = .ok (.istore_n 3, 1) := by decide +kernel
theorem dX8_follow_15 : decode cX8_follow 15 = .ok (.aload_n 0, 1) := by decide +kernel
theorem dX8_follow_16 : decode cX8_follow 16 = .ok (.getfield 9, 3) := by decide +kernel
theorem dX8_follow_19 : decode cX8_follow 19 = .ok (.iconst 0, 1) := by decide +kernel
theorem dX8_follow_20 : decode cX8_follow 20 = .ok (.iload_n 3, 1) := by decide +kernel
theorem dX8_follow_21 : decode cX8_follow 21 = .ok (.iastore, 1) := by decide +kernel
theorem dX8_follow_22 : decode cX8_follow 22 = .ok (.iconst 0, 1) := by decide +kernel
theorem dX8_follow_23 : decode cX8_follow 23 = .ok (.istore 4, 2) := by decide +kernel
theorem dX8_follow_25 : decode cX8_follow 25 = .ok (.iload 4, 2) := by decide +kernel
theorem dX8_follow_27 : decode cX8_follow 27 = .ok (.iload_n 2, 1) := by decide +kernel
theorem dX8_follow_28 : decode cX8_follow 28 = .ok (.if_icmp .ge 39, 3) := by decide +kernel
theorem dX8_follow_31 : decode cX8_follow 31 = .ok (.iload 4, 2) := by decide +kernel
theorem dX8_follow_33 : decode cX8_follow 33 = .ok (.iconst 1, 1) := by decide +kernel
theorem dX8_follow_34 : decode cX8_follow 34 = .ok (.iadd, 1) := by decide +kernel
theorem dX8_follow_35 : decode cX8_follow 35 = .ok (.aload_n 0, 1) := by decide +kernel
theorem dX8_follow_36 : decode cX8_follow 36 = .ok (.getfield 9, 3) := by decide +kernel
theorem dX8_follow_39 : decode cX8_follow 39 = .ok (.arraylength, 1) := by decide +kernel
theorem dX8_follow_40 : decode cX8_follow 40 = .ok (.if_icmp .ge 27, 3) := by decide +kernel
theorem dX8_follow_43 : decode cX8_follow 43 = .ok (.aload_n 0, 1) := by decide +kernel
theorem dX8_follow_44 : decode cX8_follow 44 = .ok (.iload_n 3, 1) := by decide +kernel
theorem dX8_follow_45 : decode cX8_follow 45 = .ok (.iload 4, 2) := by decide +kernel
theorem dX8_follow_47 : decode cX8_follow 47 = .ok (.invokevirtual 76, 3) := by decide +kernel
theorem dX8_follow_50 : decode cX8_follow 50 = .ok (.istore_n 3, 1) := by decide +kernel
theorem dX8_follow_51 : decode cX8_follow 51 = .ok (.aload_n 0, 1) := by decide +kernel
theorem dX8_follow_52 : decode cX8_follow 52 = .ok (.getfield 9, 3) := by decide +kernel
theorem dX8_follow_55 : decode cX8_follow 55 = .ok (.iload 4, 2) := by decide +kernel
theorem dX8_follow_57 : decode cX8_follow 57 = .ok (.iconst 1, 1) := by decide +kernel
theorem dX8_follow_58 : decode cX8_follow 58 = .ok (.iadd, 1) := by decide +kernel
theorem dX8_follow_59 : decode cX8_follow 59 = .ok (.iload_n 3, 1) := by decide +kernel
theorem dX8_follow_60 : decode cX8_follow 60 = .ok (.iastore, 1) := by decide +kernel
theorem dX8_follow_61 : decode cX8_follow 61 = .ok (.iinc 4 1, 3) := by decide +kernel
theorem dX8_follow_64 : decode cX8_follow 64 = .ok (.goto (-39), 3) := by decide +kernel
theorem dX8_follow_67 : decode cX8_follow 67 = .ok (.return_, 1) := by decide +kernel
theorem dX8_firstSkater_0 : decode cX8_firstSkater 0 = .ok (.bipush (-2), 2) := by decide +kernel
theorem dX8_firstSkater_2 : decode cX8_firstSkater 2 = .ok (.istore_n 2, 1) := by decide +kernel
theorem dX8_firstSkater_3 : decode cX8_firstSkater 3 = .ok (.bipush 101, 2) := by decide +kernel
theorem dX8_firstSkater_5 : decode cX8_firstSkater 5 = .ok (.istore_n 3, 1) := by decide +kernel
theorem dX8_firstSkater_6 : decode cX8_firstSkater 6 = .ok (.iconst 0, 1) := by decide +kernel
theorem dX8_firstSkater_7 : decode cX8_firstSkater 7 = .ok (.istore 4, 2) := by decide +kernel
theorem dX8_firstSkater_9 : decode cX8_firstSkater 9 = .ok (.iload 4, 2) := by decide +kernel
theorem dX8_firstSkater_11 : decode cX8_firstSkater 11 = .ok (.aload_n 0, 1) := by decide +kernel
theorem dX8_firstSkater_12 : decode cX8_firstSkater 12 = .ok (.getfield 15, 3) := by decide +kernel
theorem dX8_firstSkater_15 : decode cX8_firstSkater 15 = .ok (.getfield 31, 3) := by decide +kernel
theorem dX8_firstSkater_18 : decode cX8_firstSkater 18 = .ok (.getfield 37, 3) := by decide +kernel
theorem dX8_firstSkater_21 : decode cX8_firstSkater 21 = .ok (.getfield 43, 3) := by decide +kernel
theorem dX8_firstSkater_24 : decode cX8_firstSkater 24 = .ok (.if_icmp .ge 43, 3) := by decide +kernel
theorem dX8_firstSkater_27 : decode cX8_firstSkater 27 = .ok (.aload_n 0, 1) := by decide +kernel
theorem dX8_firstSkater_28 : decode cX8_firstSkater 28 = .ok (.iload 4, 2) := by decide +kernel
theorem dX8_firstSkater_30 : decode cX8_firstSkater 30 = .ok (.bipush 100, 2) := by decide +kernel
theorem dX8_firstSkater_32 : decode cX8_firstSkater 32 = .ok (.invokevirtual 23, 3) := by decide +kernel
theorem dX8_firstSkater_35 : decode cX8_firstSkater 35 = .ok (.aload_n 0, 1) := by decide +kernel
theorem dX8_firstSkater_36 : decode cX8_firstSkater 36 = .ok (.iload_n 1, 1) := by decide +kernel
theorem dX8_firstSkater_37 : decode cX8_firstSkater 37 = .ok (.bipush 100, 2) := by decide +kernel
theorem dX8_firstSkater_39 : decode cX8_firstSkater 39 = .ok (.invokevirtual 27, 3) := by decide +kernel
theorem dX8_firstSkater_42 : decode cX8_firstSkater 42 = .ok (.istore 5, 2) := by decide +kernel
theorem dX8_firstSkater_44 : decode cX8_firstSkater 44 = .ok (.iload 5, 2) := by decide +kernel
theorem dX8_firstSkater_46 : decode cX8_firstSkater 46 = .ok (.ifCond .lt 15, 3) := by decide +kernel
theorem dX8_firstSkater_49 : decode cX8_firstSkater 49 = .ok (.iload 5, 2) := by decide +kernel
theorem dX8_firstSkater_51 : decode cX8_firstSkater 51 = .ok (.iload_n 3, 1) := by decide +kernel
theorem dX8_firstSkater_52 : decode cX8_firstSkater 52 = .ok (.if_icmp .ge 9, 3) := by decide +kernel
theorem dX8_firstSkater_55 : decode cX8_firstSkater 55 = .ok (.iload 4, 2) := by decide +kernel
theorem dX8_firstSkater_57 : decode cX8_firstSkater 57 = .ok (.istore_n 2, 1) := by decide +kernel
theorem dX8_firstSkater_58 : decode cX8_firstSkater 58 = .ok (.iload 5, 2) := by decide +kernel
theorem dX8_firstSkater_60 : decode cX8_firstSkater 60 = .ok (.istore_n 3, 1) := by decide +kernel
theorem dX8_firstSkater_61 : decode cX8_firstSkater 61 = .ok (.iinc 4 1, 3) := by decide +kernel
theorem dX8_firstSkater_64 : decode cX8_firstSkater 64 = .ok (.goto (-55), 3) := by decide +kernel
theorem dX8_firstSkater_67 : decode cX8_firstSkater 67 = .ok (.iload_n 2, 1) := by decide +kernel
theorem dX8_firstSkater_68 : decode cX8_firstSkater 68 = .ok (.ireturn, 1) := by decide +kernel
theorem dX13_first_0 : decode cX13_first 0 = .ok (.aload_n 0, 1) := by decide +kernel
theorem dX13_first_1 : decode cX13_first 1 = .ok (.getfield 36, 3) := by decide +kernel
theorem dX13_first_4 : decode cX13_first 4 = .ok (.getfield 86, 3) := by decide +kernel
theorem dX13_first_7 : decode cX13_first 7 = .ok (.iload_n 1, 1) := by decide +kernel
theorem dX13_first_8 : decode cX13_first 8 = .ok (.invokevirtual 152, 3) := by decide +kernel
theorem dX13_first_11 : decode cX13_first 11 = .ok (.ifCond .ne 5, 3) := by decide +kernel
theorem dX13_first_14 : decode cX13_first 14 = .ok (.iconst (-1), 1) := by decide +kernel
theorem dX13_first_15 : decode cX13_first 15 = .ok (.ireturn, 1) := by decide +kernel
theorem dX13_first_16 : decode cX13_first 16 = .ok (.aload_n 0, 1) := by decide +kernel
theorem dX13_first_17 : decode cX13_first 17 = .ok (.getfield 52, 3) := by decide +kernel
theorem dX13_first_20 : decode cX13_first 20 = .ok (.invokevirtual 196, 3) := by decide +kernel
theorem dX13_first_23 : decode cX13_first 23 = .ok (.aload_n 0, 1) := by decide +kernel
theorem dX13_first_24 : decode cX13_first 24 = .ok (.getfield 61, 3) := by decide +kernel
theorem dX13_first_27 : decode cX13_first 27 = .ok (.iload_n 1, 1) := by decide +kernel
theorem dX13_first_28 : decode cX13_first 28 = .ok (.invokevirtual 233, 3) := by decide +kernel
theorem dX13_first_31 : decode cX13_first 31 = .ok (.ireturn, 1) := by decide +kernel
theorem dX2_riseBy_0 : decode cX2_riseBy 0 = .ok (.aload_n 0, 1) := by decide +kernel
theorem dX2_riseBy_1 : decode cX2_riseBy 1 = .ok (.getfield 33, 3) := by decide +kernel
theorem dX2_riseBy_4 : decode cX2_riseBy 4 = .ok (.getfield 145, 3) := by decide +kernel
theorem dX2_riseBy_7 : decode cX2_riseBy 7 = .ok (.astore 4, 2) := by decide +kernel
theorem dX2_riseBy_9 : decode cX2_riseBy 9 = .ok (.iconst 0, 1) := by decide +kernel
theorem dX2_riseBy_10 : decode cX2_riseBy 10 = .ok (.istore 5, 2) := by decide +kernel
theorem dX2_riseBy_12 : decode cX2_riseBy 12 = .ok (.iconst 0, 1) := by decide +kernel
theorem dX2_riseBy_13 : decode cX2_riseBy 13 = .ok (.istore 6, 2) := by decide +kernel
theorem dX2_riseBy_15 : decode cX2_riseBy 15 = .ok (.iload 6, 2) := by decide +kernel
theorem dX2_riseBy_17 : decode cX2_riseBy 17 = .ok (.aload 4, 2) := by decide +kernel
theorem dX2_riseBy_19 : decode cX2_riseBy 19 = .ok (.getfield 148, 3) := by decide +kernel
theorem dX2_riseBy_22 : decode cX2_riseBy 22 = .ok (.if_icmp .ge 49, 3) := by decide +kernel
theorem dX2_riseBy_25 : decode cX2_riseBy 25 = .ok (.iload 5, 2) := by decide +kernel
theorem dX2_riseBy_27 : decode cX2_riseBy 27 = .ok (.aload_n 0, 1) := by decide +kernel
theorem dX2_riseBy_28 : decode cX2_riseBy 28 = .ok (.getfield 37, 3) := by decide +kernel
theorem dX2_riseBy_31 : decode cX2_riseBy 31 = .ok (.aload 4, 2) := by decide +kernel
theorem dX2_riseBy_33 : decode cX2_riseBy 33 = .ok (.getfield 149, 3) := by decide +kernel
theorem dX2_riseBy_36 : decode cX2_riseBy 36 = .ok (.iload 6, 2) := by decide +kernel
theorem dX2_riseBy_38 : decode cX2_riseBy 38 = .ok (.iaload, 1) := by decide +kernel
theorem dX2_riseBy_39 : decode cX2_riseBy 39 = .ok (.aload 4, 2) := by decide +kernel
theorem dX2_riseBy_41 : decode cX2_riseBy 41 = .ok (.getfield 151, 3) := by decide +kernel
theorem dX2_riseBy_44 : decode cX2_riseBy 44 = .ok (.iload 6, 2) := by decide +kernel
theorem dX2_riseBy_46 : decode cX2_riseBy 46 = .ok (.iaload, 1) := by decide +kernel
theorem dX2_riseBy_47 : decode cX2_riseBy 47 = .ok (.iload_n 2, 1) := by decide +kernel
theorem dX2_riseBy_48 : decode cX2_riseBy 48 = .ok (.iload_n 3, 1) := by decide +kernel
theorem dX2_riseBy_49 : decode cX2_riseBy 49 = .ok (.aload 4, 2) := by decide +kernel
theorem dX2_riseBy_51 : decode cX2_riseBy 51 = .ok (.getfield 153, 3) := by decide +kernel
theorem dX2_riseBy_54 : decode cX2_riseBy 54 = .ok (.iload 6, 2) := by decide +kernel
theorem dX2_riseBy_56 : decode cX2_riseBy 56 = .ok (.iaload, 1) := by decide +kernel
theorem dX2_riseBy_57 : decode cX2_riseBy 57 = .ok (.isub, 1) := by decide +kernel
theorem dX2_riseBy_58 : decode cX2_riseBy 58 = .ok (.aload_n 1, 1) := by decide +kernel
theorem dX2_riseBy_59 : decode cX2_riseBy 59 = .ok (.invokevirtual 121, 3) := by decide +kernel
theorem dX2_riseBy_62 : decode cX2_riseBy 62 = .ok (.iadd, 1) := by decide +kernel
theorem dX2_riseBy_63 : decode cX2_riseBy 63 = .ok (.istore 5, 2) := by decide +kernel
theorem dX2_riseBy_65 : decode cX2_riseBy 65 = .ok (.iinc 6 1, 3) := by decide +kernel
theorem dX2_riseBy_68 : decode cX2_riseBy 68 = .ok (.goto (-53), 3) := by decide +kernel
theorem dX2_riseBy_71 : decode cX2_riseBy 71 = .ok (.iload 5, 2) := by decide +kernel
theorem dX2_riseBy_73 : decode cX2_riseBy 73 = .ok (.ireturn, 1) := by decide +kernel
theorem dX2_fitsBy_0 : decode cX2_fitsBy 0 = .ok (.iconst 0, 1) := by decide +kernel
theorem dX2_fitsBy_1 : decode cX2_fitsBy 1 = .ok (.istore_n 3, 1) := by decide +kernel
theorem dX2_fitsBy_2 : decode cX2_fitsBy 2 = .ok (.iload_n 3, 1) := by decide +kernel
theorem dX2_fitsBy_3 : decode cX2_fitsBy 3 = .ok (.aload_n 2, 1) := by decide +kernel
theorem dX2_fitsBy_4 : decode cX2_fitsBy 4 = .ok (.getfield 66, 3) := by decide +kernel
theorem dX2_fitsBy_7 : decode cX2_fitsBy 7 = .ok (.if_icmp .ge 78, 3) := by decide +kernel
theorem dX2_fitsBy_10 : decode cX2_fitsBy 10 = .ok (.aload_n 2, 1) := by decide +kernel
theorem dX2_fitsBy_11 : decode cX2_fitsBy 11 = .ok (.iload_n 3, 1) := by decide +kernel
theorem dX2_fitsBy_12 : decode cX2_fitsBy 12 = .ok (.invokevirtual 79, 3) := by decide +kernel
theorem dX2_fitsBy_15 : decode cX2_fitsBy 15 = .ok (.bipush 31, 2) := by decide +kernel
theorem dX2_fitsBy_17 : decode cX2_fitsBy 17 = .ok (.invokestatic 103, 3) := by decide +kernel
theorem dX2_fitsBy_20 : decode cX2_fitsBy 20 = .ok (.istore 4, 2) := by decide +kernel
theorem dX2_fitsBy_22 : decode cX2_fitsBy 22 = .ok (.aload_n 0, 1) := by decide +kernel
theorem dX2_fitsBy_23 : decode cX2_fitsBy 23 = .ok (.getfield 33, 3) := by decide +kernel
theorem dX2_fitsBy_26 : decode cX2_fitsBy 26 = .ok (.getfield 54, 3) := by decide +kernel
theorem dX2_fitsBy_29 : decode cX2_fitsBy 29 = .ok (.getfield 109, 3) := by decide +kernel
theorem dX2_fitsBy_32 : decode cX2_fitsBy 32 = .ok (.aload_n 0, 1) := by decide +kernel
theorem dX2_fitsBy_33 : decode cX2_fitsBy 33 = .ok (.getfield 41, 3) := by decide +kernel
theorem dX2_fitsBy_36 : decode cX2_fitsBy 36 = .ok (.getfield 112, 3) := by decide +kernel
theorem dX2_fitsBy_39 : decode cX2_fitsBy 39 = .ok (.iload 4, 2) := by decide +kernel
theorem dX2_fitsBy_41 : decode cX2_fitsBy 41 = .ok (.iaload, 1) := by decide +kernel
theorem dX2_fitsBy_42 : decode cX2_fitsBy 42 = .ok (.invokevirtual 79, 3) := by decide +kernel
theorem dX2_fitsBy_45 : decode cX2_fitsBy 45 = .ok (.istore 5, 2) := by decide +kernel
theorem dX2_fitsBy_47 : decode cX2_fitsBy 47 = .ok (.aload_n 0, 1) := by decide +kernel
theorem dX2_fitsBy_48 : decode cX2_fitsBy 48 = .ok (.aload_n 1, 1) := by decide +kernel
theorem dX2_fitsBy_49 : decode cX2_fitsBy 49 = .ok (.iload 5, 2) := by decide +kernel
theorem dX2_fitsBy_51 : decode cX2_fitsBy 51 = .ok (.aload_n 0, 1) := by decide +kernel
theorem dX2_fitsBy_52 : decode cX2_fitsBy 52 = .ok (.getfield 41, 3) := by decide +kernel
theorem dX2_fitsBy_55 : decode cX2_fitsBy 55 = .ok (.getfield 115, 3) := by decide +kernel
theorem dX2_fitsBy_58 : decode cX2_fitsBy 58 = .ok (.iload 4, 2) := by decide +kernel
theorem dX2_fitsBy_60 : decode cX2_fitsBy 60 = .ok (.iaload, 1) := by decide +kernel
theorem dX2_fitsBy_61 : decode cX2_fitsBy 61 = .ok (.invokevirtual 141, 3) := by decide +kernel
theorem dX2_fitsBy_64 : decode cX2_fitsBy 64 = .ok (.aload_n 0, 1) := by decide +kernel
theorem dX2_fitsBy_65 : decode cX2_fitsBy 65 = .ok (.getfield 41, 3) := by decide +kernel
theorem dX2_fitsBy_68 : decode cX2_fitsBy 68 = .ok (.getfield 127, 3) := by decide +kernel
theorem dX2_fitsBy_71 : decode cX2_fitsBy 71 = .ok (.iload 4, 2) := by decide +kernel
theorem dX2_fitsBy_73 : decode cX2_fitsBy 73 = .ok (.iaload, 1) := by decide +kernel
theorem dX2_fitsBy_74 : decode cX2_fitsBy 74 = .ok (.if_icmp .eq 5, 3) := by decide +kernel
theorem dX2_fitsBy_77 : decode cX2_fitsBy 77 = .ok (.iconst 0, 1) := by decide +kernel
theorem dX2_fitsBy_78 : decode cX2_fitsBy 78 = .ok (.ireturn, 1) := by decide +kernel
theorem dX2_fitsBy_79 : decode cX2_fitsBy 79 = .ok (.iinc 3 1, 3) := by decide +kernel
theorem dX2_fitsBy_82 : decode cX2_fitsBy 82 = .ok (.goto (-80), 3) := by decide +kernel
theorem dX2_fitsBy_85 : decode cX2_fitsBy 85 = .ok (.iconst 1, 1) := by decide +kernel
theorem dX2_fitsBy_86 : decode cX2_fitsBy 86 = .ok (.ireturn, 1) := by decide +kernel
theorem dX4_knownSights_0 : decode cX4_knownSights 0 = .ok (.aload_n 0, 1) := by decide +kernel
theorem dX4_knownSights_1 : decode cX4_knownSights 1 = .ok (.invokevirtual 44, 3) := by decide +kernel
theorem dX4_knownSights_4 : decode cX4_knownSights 4 = .ok (.bipush 32, 2) := by decide +kernel
theorem dX4_knownSights_6 : decode cX4_knownSights 6 = .ok (.invokestatic 48, 3) := by decide +kernel
theorem dX4_knownSights_9 : decode cX4_knownSights 9 = .ok (.istore_n 1, 1) := by decide +kernel
theorem dX4_knownSights_10 : decode cX4_knownSights 10 = .ok (.iconst 0, 1) := by decide +kernel
theorem dX4_knownSights_11 : decode cX4_knownSights 11 = .ok (.istore_n 2, 1) := by decide +kernel
theorem dX4_knownSights_12 : decode cX4_knownSights 12 = .ok (.iload_n 2, 1) := by decide +kernel
theorem dX4_knownSights_13 : decode cX4_knownSights 13 = .ok (.iload_n 1, 1) := by decide +kernel
theorem dX4_knownSights_14 : decode cX4_knownSights 14 = .ok (.if_icmp .ge 16, 3) := by decide +kernel
theorem dX4_knownSights_17 : decode cX4_knownSights 17 = .ok (.aload_n 0, 1) := by decide +kernel
theorem dX4_knownSights_18 : decode cX4_knownSights 18 = .ok (.getfield 24, 3) := by decide +kernel
theorem dX4_knownSights_21 : decode cX4_knownSights 21 = .ok (.iload_n 2, 1) := by decide +kernel
theorem dX4_knownSights_22 : decode cX4_knownSights 22 = .ok (.iconst 0, 1) := by decide +kernel
theorem dX4_knownSights_23 : decode cX4_knownSights 23 = .ok (.bastore, 1) := by decide +kernel
theorem dX4_knownSights_24 : decode cX4_knownSights 24 = .ok (.iinc 2 1, 3) := by decide +kernel
theorem dX4_knownSights_27 : decode cX4_knownSights 27 = .ok (.goto (-15), 3) := by decide +kernel
theorem dX4_knownSights_30 : decode cX4_knownSights 30 = .ok (.iload_n 1, 1) := by decide +kernel
theorem dX4_knownSights_31 : decode cX4_knownSights 31 = .ok (.iconst 1, 1) := by decide +kernel
theorem dX4_knownSights_32 : decode cX4_knownSights 32 = .ok (.isub, 1) := by decide +kernel
theorem dX4_knownSights_33 : decode cX4_knownSights 33 = .ok (.istore_n 2, 1) := by decide +kernel
theorem dX4_knownSights_34 : decode cX4_knownSights 34 = .ok (.iload_n 2, 1) := by decide +kernel
theorem dX4_knownSights_35 : decode cX4_knownSights 35 = .ok (.ifCond .lt 49, 3) := by decide +kernel
theorem dX4_knownSights_38 : decode cX4_knownSights 38 = .ok (.aload_n 0, 1) := by decide +kernel
theorem dX4_knownSights_39 : decode cX4_knownSights 39 = .ok (.getfield 24, 3) := by decide +kernel
theorem dX4_knownSights_42 : decode cX4_knownSights 42 = .ok (.iload_n 2, 1) := by decide +kernel
theorem dX4_knownSights_43 : decode cX4_knownSights 43 = .ok (.baload, 1) := by decide +kernel
theorem dX4_knownSights_44 : decode cX4_knownSights 44 = .ok (.ifCond .ne 34, 3) := by decide +kernel
theorem dX4_knownSights_47 : decode cX4_knownSights 47 = .ok (.aload_n 0, 1) := by decide +kernel
theorem dX4_knownSights_48 : decode cX4_knownSights 48 = .ok (.getfield 21, 3) := by decide +kernel
theorem dX4_knownSights_51 : decode cX4_knownSights 51 = .ok (.iload_n 2, 1) := by decide +kernel
theorem dX4_knownSights_52 : decode cX4_knownSights 52 = .ok (.iaload, 1) := by decide +kernel
theorem dX4_knownSights_53 : decode cX4_knownSights 53 = .ok (.ifCond .lt 25, 3) := by decide +kernel
theorem dX4_knownSights_56 : decode cX4_knownSights 56 = .ok (.aload_n 0, 1) := by decide +kernel
theorem dX4_knownSights_57 : decode cX4_knownSights 57 = .ok (.getfield 21, 3) := by decide +kernel
theorem dX4_knownSights_60 : decode cX4_knownSights 60 = .ok (.iload_n 2, 1) := by decide +kernel
theorem dX4_knownSights_61 : decode cX4_knownSights 61 = .ok (.iaload, 1) := by decide +kernel
theorem dX4_knownSights_62 : decode cX4_knownSights 62 = .ok (.iload_n 2, 1) := by decide +kernel
theorem dX4_knownSights_63 : decode cX4_knownSights 63 = .ok (.if_icmp .ge 15, 3) := by decide +kernel
theorem dX4_knownSights_66 : decode cX4_knownSights 66 = .ok (.aload_n 0, 1) := by decide +kernel
theorem dX4_knownSights_67 : decode cX4_knownSights 67 = .ok (.getfield 24, 3) := by decide +kernel
theorem dX4_knownSights_70 : decode cX4_knownSights 70 = .ok (.aload_n 0, 1) := by decide +kernel
theorem dX4_knownSights_71 : decode cX4_knownSights 71 = .ok (.getfield 21, 3) := by decide +kernel
theorem dX4_knownSights_74 : decode cX4_knownSights 74 = .ok (.iload_n 2, 1) := by decide +kernel
theorem dX4_knownSights_75 : decode cX4_knownSights 75 = .ok (.iaload, 1) := by decide +kernel
theorem dX4_knownSights_76 : decode cX4_knownSights 76 = .ok (.iconst 1, 1) := by decide +kernel
theorem dX4_knownSights_77 : decode cX4_knownSights 77 = .ok (.bastore, 1) := by decide +kernel
theorem dX4_knownSights_78 : decode cX4_knownSights 78 = .ok (.iinc 2 (-1), 3) := by decide +kernel
theorem dX4_knownSights_81 : decode cX4_knownSights 81 = .ok (.goto (-47), 3) := by decide +kernel
theorem dX4_knownSights_84 : decode cX4_knownSights 84 = .ok (.aload_n 0, 1) := by decide +kernel
theorem dX4_knownSights_85 : decode cX4_knownSights 85 = .ok (.getfield 33, 3) := by decide +kernel
theorem dX4_knownSights_88 : decode cX4_knownSights 88 = .ok (.invokevirtual 54, 3) := by decide +kernel
theorem dX4_knownSights_91 : decode cX4_knownSights 91 = .ok (.iconst 0, 1) := by decide +kernel
theorem dX4_knownSights_92 : decode cX4_knownSights 92 = .ok (.istore_n 2, 1) := by decide +kernel
theorem dX4_knownSights_93 : decode cX4_knownSights 93 = .ok (.iload_n 2, 1) := by decide +kernel
theorem dX4_knownSights_94 : decode cX4_knownSights 94 = .ok (.iload_n 1, 1) := by decide +kernel
theorem dX4_knownSights_95 : decode cX4_knownSights 95 = .ok (.if_icmp .ge 36, 3) := by decide +kernel
theorem dX4_knownSights_98 : decode cX4_knownSights 98 = .ok (.aload_n 0, 1) := by decide +kernel
theorem dX4_knownSights_99 : decode cX4_knownSights 99 = .ok (.getfield 24, 3) := by decide +kernel
theorem dX4_knownSights_102 : decode cX4_knownSights 102 = .ok (.iload_n 2, 1) := by decide +kernel
theorem dX4_knownSights_103 : decode cX4_knownSights 103 = .ok (.baload, 1) := by decide +kernel
theorem dX4_knownSights_104 : decode cX4_knownSights 104 = .ok (.ifCond .ne 21, 3) := by decide +kernel
theorem dX4_knownSights_107 : decode cX4_knownSights 107 = .ok (.aload_n 0, 1) := by decide +kernel
theorem dX4_knownSights_108 : decode cX4_knownSights 108 = .ok (.getfield 21, 3) := by decide +kernel
theorem dX4_knownSights_111 : decode cX4_knownSights 111 = .ok (.iload_n 2, 1) := by decide +kernel
theorem dX4_knownSights_112 : decode cX4_knownSights 112 = .ok (.iaload, 1) := by decide +kernel
theorem dX4_knownSights_113 : decode cX4_knownSights 113 = .ok (.iconst (-1), 1) := by decide +kernel
theorem dX4_knownSights_114 : decode cX4_knownSights 114 = .ok (.if_icmp .ne 11, 3) := by decide +kernel
theorem dX4_knownSights_117 : decode cX4_knownSights 117 = .ok (.aload_n 0, 1) := by decide +kernel
theorem dX4_knownSights_118 : decode cX4_knownSights 118 = .ok (.getfield 33, 3) := by decide +kernel
theorem dX4_knownSights_121 : decode cX4_knownSights 121 = .ok (.iload_n 2, 1) := by decide +kernel
theorem dX4_knownSights_122 : decode cX4_knownSights 122 = .ok (.invokevirtual 57, 3) := by decide +kernel
theorem dX4_knownSights_125 : decode cX4_knownSights 125 = .ok (.iinc 2 1, 3) := by decide +kernel
theorem dX4_knownSights_128 : decode cX4_knownSights 128 = .ok (.goto (-35), 3) := by decide +kernel
theorem dX4_knownSights_131 : decode cX4_knownSights 131 = .ok (.aload_n 0, 1) := by decide +kernel
theorem dX4_knownSights_132 : decode cX4_knownSights 132 = .ok (.getfield 33, 3) := by decide +kernel
theorem dX4_knownSights_135 : decode cX4_knownSights 135 = .ok (.areturn, 1) := by decide +kernel
theorem dX2_fittingShores_0 : decode cX2_fittingShores 0 = .ok (.aload_n 0, 1) := by decide +kernel
theorem dX2_fittingShores_1 : decode cX2_fittingShores 1 = .ok (.getfield 41, 3) := by decide +kernel
theorem dX2_fittingShores_4 : decode cX2_fittingShores 4 = .ok (.invokevirtual 45, 3) := by decide +kernel
theorem dX2_fittingShores_7 : decode cX2_fittingShores 7 = .ok (.astore_n 1, 1) := by decide +kernel
theorem dX2_fittingShores_8 : decode cX2_fittingShores 8 = .ok (.aload_n 0, 1) := by decide +kernel
theorem dX2_fittingShores_9 : decode cX2_fittingShores 9 = .ok (.getfield 33, 3) := by decide +kernel
theorem dX2_fittingShores_12 : decode cX2_fittingShores 12 = .ok (.getfield 54, 3) := by decide +kernel
theorem dX2_fittingShores_15 : decode cX2_fittingShores 15 = .ok (.getfield 130, 3) := by decide +kernel
theorem dX2_fittingShores_18 : decode cX2_fittingShores 18 = .ok (.getfield 66, 3) := by decide +kernel
theorem dX2_fittingShores_21 : decode cX2_fittingShores 21 = .ok (.istore_n 2, 1) := by decide +kernel
theorem dX2_fittingShores_22 : decode cX2_fittingShores 22 = .ok (.aload_n 0, 1) := by decide +kernel
theorem dX2_fittingShores_23 : decode cX2_fittingShores 23 = .ok (.aload_n 0, 1) := by decide +kernel
theorem dX2_fittingShores_24 : decode cX2_fittingShores 24 = .ok (.getfield 33, 3) := by decide +kernel
theorem dX2_fittingShores_27 : decode cX2_fittingShores 27 = .ok (.getfield 54, 3) := by decide +kernel
theorem dX2_fittingShores_30 : decode cX2_fittingShores 30 = .ok (.getfield 118, 3) := by decide +kernel
theorem dX2_fittingShores_33 : decode cX2_fittingShores 33 = .ok (.aload_n 1, 1) := by decide +kernel
theorem dX2_fittingShores_34 : decode cX2_fittingShores 34 = .ok (.invokevirtual 133, 3) := by decide +kernel
theorem dX2_fittingShores_37 : decode cX2_fittingShores 37 = .ok (.ifCond .eq 9, 3) := by decide +kernel
theorem dX2_fittingShores_40 : decode cX2_fittingShores 40 = .ok (.iconst 1, 1) := by decide +kernel
theorem dX2_fittingShores_41 : decode cX2_fittingShores 41 = .ok (.iload_n 2, 1) := by decide +kernel
theorem dX2_fittingShores_42 : decode cX2_fittingShores 42 = .ok (.ishl, 1) := by decide +kernel
theorem dX2_fittingShores_43 : decode cX2_fittingShores 43 = .ok (.goto 4, 3) := by decide +kernel
theorem dX2_fittingShores_46 : decode cX2_fittingShores 46 = .ok (.iconst 0, 1) := by decide +kernel
theorem dX2_fittingShores_47 : decode cX2_fittingShores 47 = .ok (.istore_n 3, 1) := by decide +kernel
theorem dX2_fittingShores_48 : decode cX2_fittingShores 48 = .ok (.iconst 0, 1) := by decide +kernel
theorem dX2_fittingShores_49 : decode cX2_fittingShores 49 = .ok (.istore 4, 2) := by decide +kernel
theorem dX2_fittingShores_51 : decode cX2_fittingShores 51 = .ok (.iload 4, 2) := by decide +kernel
theorem dX2_fittingShores_53 : decode cX2_fittingShores 53 = .ok (.iload_n 2, 1) := by decide +kernel
theorem dX2_fittingShores_54 : decode cX2_fittingShores 54 = .ok (.if_icmp .ge 36, 3) := by decide +kernel
theorem dX2_fittingShores_57 : decode cX2_fittingShores 57 = .ok (.aload_n 0, 1) := by decide +kernel
theorem dX2_fittingShores_58 : decode cX2_fittingShores 58 = .ok (.aload_n 0, 1) := by decide +kernel
theorem dX2_fittingShores_59 : decode cX2_fittingShores 59 = .ok (.getfield 33, 3) := by decide +kernel
theorem dX2_fittingShores_62 : decode cX2_fittingShores 62 = .ok (.getfield 54, 3) := by decide +kernel
theorem dX2_fittingShores_65 : decode cX2_fittingShores 65 = .ok (.iload 4, 2) := by decide +kernel
theorem dX2_fittingShores_67 : decode cX2_fittingShores 67 = .ok (.invokevirtual 137, 3) := by decide +kernel
theorem dX2_fittingShores_70 : decode cX2_fittingShores 70 = .ok (.aload_n 1, 1) := by decide +kernel
theorem dX2_fittingShores_71 : decode cX2_fittingShores 71 = .ok (.invokevirtual 133, 3) := by decide +kernel
theorem dX2_fittingShores_74 : decode cX2_fittingShores 74 = .ok (.ifCond .eq 10, 3) := by decide +kernel
theorem dX2_fittingShores_77 : decode cX2_fittingShores 77 = .ok (.iload_n 3, 1) := by decide +kernel
theorem dX2_fittingShores_78 : decode cX2_fittingShores 78 = .ok (.iconst 1, 1) := by decide +kernel
theorem dX2_fittingShores_79 : decode cX2_fittingShores 79 = .ok (.iload 4, 2) := by decide +kernel
theorem dX2_fittingShores_81 : decode cX2_fittingShores 81 = .ok (.ishl, 1) := by decide +kernel
theorem dX2_fittingShores_82 : decode cX2_fittingShores 82 = .ok (.ior, 1) := by decide +kernel
theorem dX2_fittingShores_83 : decode cX2_fittingShores 83 = .ok (.istore_n 3, 1) := by decide +kernel
theorem dX2_fittingShores_84 : decode cX2_fittingShores 84 = .ok (.iinc 4 1, 3) := by decide +kernel
theorem dX2_fittingShores_87 : decode cX2_fittingShores 87 = .ok (.goto (-36), 3) := by decide +kernel
theorem dX2_fittingShores_90 : decode cX2_fittingShores 90 = .ok (.iload_n 3, 1) := by decide +kernel
theorem dX2_fittingShores_91 : decode cX2_fittingShores 91 = .ok (.ireturn, 1) := by decide +kernel
theorem dX13_fits_0 : decode cX13_fits 0 = .ok (.aload_n 0, 1) := by decide +kernel
theorem dX13_fits_1 : decode cX13_fits 1 = .ok (.getfield 52, 3) := by decide +kernel
theorem dX13_fits_4 : decode cX13_fits 4 = .ok (.invokevirtual 180, 3) := by decide +kernel
theorem dX13_fits_7 : decode cX13_fits 7 = .ok (.aload_n 0, 1) := by decide +kernel
theorem dX13_fits_8 : decode cX13_fits 8 = .ok (.getfield 70, 3) := by decide +kernel
theorem dX13_fits_11 : decode cX13_fits 11 = .ok (.invokevirtual 278, 3) := by decide +kernel
theorem dX13_fits_14 : decode cX13_fits 14 = .ok (.ireturn, 1) := by decide +kernel
theorem dX13_keep_0 : decode cX13_keep 0 = .ok (.aload_n 0, 1) := by decide +kernel
theorem dX13_keep_1 : decode cX13_keep 1 = .ok (.getfield 36, 3) := by decide +kernel
theorem dX13_keep_4 : decode cX13_keep 4 = .ok (.invokevirtual 305, 3) := by decide +kernel
theorem dX13_keep_7 : decode cX13_keep 7 = .ok (.ireturn, 1) := by decide +kernel
theorem dX4_limitTo_0 : decode cX4_limitTo 0 = .ok (.iload_n 1, 1) := by decide +kernel
theorem dX4_limitTo_1 : decode cX4_limitTo 1 = .ok (.iconst (-1), 1) := by decide +kernel
theorem dX4_limitTo_2 : decode cX4_limitTo 2 = .ok (.if_icmp .lt 11, 3) := by decide +kernel
theorem dX4_limitTo_5 : decode cX4_limitTo 5 = .ok (.iload_n 1, 1) := by decide +kernel
theorem dX4_limitTo_6 : decode cX4_limitTo 6 = .ok (.aload_n 0, 1) := by decide +kernel
theorem dX4_limitTo_7 : decode cX4_limitTo 7 = .ok (.getfield 41, 3) := by decide +kernel
theorem dX4_limitTo_10 : decode cX4_limitTo 10 = .ok (.if_icmp .le 5, 3) := by decide +kernel
theorem dX4_limitTo_13 : decode cX4_limitTo 13 = .ok (.iconst 0, 1) := by decide +kernel
theorem dX4_limitTo_14 : decode cX4_limitTo 14 = .ok (.ireturn, 1) := by decide +kernel
theorem dX4_limitTo_15 : decode cX4_limitTo 15 = .ok (.aload_n 0, 1) := by decide +kernel
theorem dX4_limitTo_16 : decode cX4_limitTo 16 = .ok (.iload_n 1, 1) := by decide +kernel
theorem dX4_limitTo_17 : decode cX4_limitTo 17 = .ok (.putfield 37, 3) := by decide +kernel
theorem dX4_limitTo_20 : decode cX4_limitTo 20 = .ok (.iconst 1, 1) := by decide +kernel
theorem dX4_limitTo_21 : decode cX4_limitTo 21 = .ok (.ireturn, 1) := by decide +kernel
theorem dX13_known_0 : decode cX13_known 0 = .ok (.aload_n 0, 1) := by decide +kernel
theorem dX13_known_1 : decode cX13_known 1 = .ok (.getfield 43, 3) := by decide +kernel
theorem dX13_known_4 : decode cX13_known 4 = .ok (.iload_n 1, 1) := by decide +kernel
theorem dX13_known_5 : decode cX13_known 5 = .ok (.invokevirtual 266, 3) := by decide +kernel
theorem dX13_known_8 : decode cX13_known 8 = .ok (.ireturn, 1) := by decide +kernel
theorem dX13_law_0 : decode cX13_law 0 = .ok (.aload_n 0, 1) := by decide +kernel
theorem dX13_law_1 : decode cX13_law 1 = .ok (.getfield 36, 3) := by decide +kernel
theorem dX13_law_4 : decode cX13_law 4 = .ok (.getfield 86, 3) := by decide +kernel
theorem dX13_law_7 : decode cX13_law 7 = .ok (.getfield 117, 3) := by decide +kernel
theorem dX13_law_10 : decode cX13_law 10 = .ok (.iload_n 1, 1) := by decide +kernel
theorem dX13_law_11 : decode cX13_law 11 = .ok (.invokevirtual 123, 3) := by decide +kernel
theorem dX13_law_14 : decode cX13_law 14 = .ok (.ifCond .eq 28, 3) := by decide +kernel
theorem dX13_law_17 : decode cX13_law 17 = .ok (.iload_n 2, 1) := by decide +kernel
theorem dX13_law_18 : decode cX13_law 18 = .ok (.ifCond .lt 24, 3) := by decide +kernel
theorem dX13_law_21 : decode cX13_law 21 = .ok (.iload_n 2, 1) := by decide +kernel
theorem dX13_law_22 : decode cX13_law 22 = .ok (.iconst 5, 1) := by decide +kernel
theorem dX13_law_23 : decode cX13_law 23 = .ok (.if_icmp .ge 19, 3) := by decide +kernel
theorem dX13_law_26 : decode cX13_law 26 = .ok (.aload_n 0, 1) := by decide +kernel
theorem dX13_law_27 : decode cX13_law 27 = .ok (.getfield 36, 3) := by decide +kernel
theorem dX13_law_30 : decode cX13_law 30 = .ok (.getfield 86, 3) := by decide +kernel
theorem dX13_law_33 : decode cX13_law 33 = .ok (.getfield 208, 3) := by decide +kernel
theorem dX13_law_36 : decode cX13_law 36 = .ok (.invokevirtual 212, 3) := by decide +kernel
theorem dX13_law_39 : decode cX13_law 39 = .ok (.ifCond .eq 7, 3) := by decide +kernel
theorem dX13_law_42 : decode cX13_law 42 = .ok (.ldc2_w 218, 3) := by decide +kernel
theorem dX13_law_45 : decode cX13_law 45 = .ok (.lreturn, 1) := by decide +kernel
theorem dX13_law_46 : decode cX13_law 46 = .ok (.aload_n 0, 1) := by decide +kernel
theorem dX13_law_47 : decode cX13_law 47 = .ok (.getfield 52, 3) := by decide +kernel
theorem dX13_law_50 : decode cX13_law 50 = .ok (.invokevirtual 196, 3) := by decide +kernel
theorem dX13_law_53 : decode cX13_law 53 = .ok (.aload_n 0, 1) := by decide +kernel
theorem dX13_law_54 : decode cX13_law 54 = .ok (.getfield 61, 3) := by decide +kernel
theorem dX13_law_57 : decode cX13_law 57 = .ok (.aload_n 0, 1) := by decide +kernel
theorem dX13_law_58 : decode cX13_law 58 = .ok (.getfield 36, 3) := by decide +kernel
theorem dX13_law_61 : decode cX13_law 61 = .ok (.getfield 86, 3) := by decide +kernel
theorem dX13_law_64 : decode cX13_law 64 = .ok (.getfield 220, 3) := by decide +kernel
theorem dX13_law_67 : decode cX13_law 67 = .ok (.iload_n 1, 1) := by decide +kernel
theorem dX13_law_68 : decode cX13_law 68 = .ok (.invokevirtual 144, 3) := by decide +kernel
theorem dX13_law_71 : decode cX13_law 71 = .ok (.iload_n 2, 1) := by decide +kernel
theorem dX13_law_72 : decode cX13_law 72 = .ok (.iconst 0, 1) := by decide +kernel
theorem dX13_law_73 : decode cX13_law 73 = .ok (.invokevirtual 223, 3) := by decide +kernel
theorem dX13_law_76 : decode cX13_law 76 = .ok (.lreturn, 1) := by decide +kernel
theorem dX8_firstSeen_0 : decode cX8_firstSeen 0 = .ok (.iload_n 2, 1) := by decide +kernel
theorem dX8_firstSeen_1 : decode cX8_firstSeen 1 = .ok (.istore 4, 2) := by decide +kernel
theorem dX8_firstSeen_3 : decode cX8_firstSeen 3 = .ok (.iload 4, 2) := by decide +kernel
theorem dX8_firstSeen_5 : decode cX8_firstSeen 5 = .ok (.iload_n 3, 1) := by decide +kernel
theorem dX8_firstSeen_6 : decode cX8_firstSeen 6 = .ok (.if_icmp .ge 65, 3) := by decide +kernel
theorem dX8_firstSeen_9 : decode cX8_firstSeen 9 = .ok (.iload 4, 2) := by decide +kernel
theorem dX8_firstSeen_11 : decode cX8_firstSeen 11 = .ok (.aload_n 0, 1) := by decide +kernel
theorem dX8_firstSeen_12 : decode cX8_firstSeen 12 = .ok (.getfield 9, 3) := by decide +kernel
theorem dX8_firstSeen_15 : decode cX8_firstSeen 15 = .ok (.arraylength, 1) := by decide +kernel
theorem dX8_firstSeen_16 : decode cX8_firstSeen 16 = .ok (.if_icmp .ge 55, 3) := by decide +kernel
theorem dX8_firstSeen_19 : decode cX8_firstSeen 19 = .ok (.iload 4, 2) := by decide +kernel
theorem dX8_firstSeen_21 : decode cX8_firstSeen 21 = .ok (.ifCond .ge 8, 3) := by decide +kernel
theorem dX8_firstSeen_24 : decode cX8_firstSeen 24 = .ok (.bipush (-2), 2) := by decide +kernel
theorem dX8_firstSeen_26 : decode cX8_firstSeen 26 = .ok (.goto 18, 3) := by decide +kernel
theorem dX8_firstSeen_29 : decode cX8_firstSeen 29 = .ok (.aload_n 0, 1) := by decide +kernel
theorem dX8_firstSeen_30 : decode cX8_firstSeen 30 = .ok (.getfield 19, 3) := by decide +kernel
theorem dX8_firstSeen_33 : decode cX8_firstSeen 33 = .ok (.iload_n 1, 1) := by decide +kernel
theorem dX8_firstSeen_34 : decode cX8_firstSeen 34 = .ok (.aload_n 0, 1) := by decide +kernel
theorem dX8_firstSeen_35 : decode cX8_firstSeen 35 = .ok (.getfield 9, 3) := by decide +kernel
theorem dX8_firstSeen_38 : decode cX8_firstSeen 38 = .ok (.iload 4, 2) := by decide +kernel
theorem dX8_firstSeen_40 : decode cX8_firstSeen 40 = .ok (.iaload, 1) := by decide +kernel
theorem dX8_firstSeen_41 : decode cX8_firstSeen 41 = .ok (.invokevirtual 67, 3) := by decide +kernel
theorem dX8_firstSeen_44 : decode cX8_firstSeen 44 = .ok (.istore 5, 2) := by decide +kernel
theorem dX8_firstSeen_46 : decode cX8_firstSeen 46 = .ok (.iload 5, 2) := by decide +kernel
theorem dX8_firstSeen_48 : decode cX8_firstSeen 48 = .ok (.ifCond .lt 17, 3) := by decide +kernel
theorem dX8_firstSeen_51 : decode cX8_firstSeen 51 = .ok (.iload_n 2, 1) := by decide +kernel
theorem dX8_firstSeen_52 : decode cX8_firstSeen 52 = .ok (.iload 5, 2) := by decide +kernel
theorem dX8_firstSeen_54 : decode cX8_firstSeen 54 = .ok (.iadd, 1) := by decide +kernel
theorem dX8_firstSeen_55 : decode cX8_firstSeen 55 = .ok (.iconst 1, 1) := by decide +kernel
theorem dX8_firstSeen_56 : decode cX8_firstSeen 56 = .ok (.isub, 1) := by decide +kernel
theorem dX8_firstSeen_57 : decode cX8_firstSeen 57 = .ok (.iload 4, 2) := by decide +kernel
theorem dX8_firstSeen_59 : decode cX8_firstSeen 59 = .ok (.if_icmp .gt 6, 3) := by decide +kernel
theorem dX8_firstSeen_62 : decode cX8_firstSeen 62 = .ok (.iload 4, 2) := by decide +kernel
theorem dX8_firstSeen_64 : decode cX8_firstSeen 64 = .ok (.ireturn, 1) := by decide +kernel
theorem dX8_firstSeen_65 : decode cX8_firstSeen 65 = .ok (.iinc 4 1, 3) := by decide +kernel
theorem dX8_firstSeen_68 : decode cX8_firstSeen 68 = .ok (.goto (-65), 3) := by decide +kernel
theorem dX8_firstSeen_71 : decode cX8_firstSeen 71 = .ok (.iconst (-1), 1) := by decide +kernel
theorem dX8_firstSeen_72 : decode cX8_firstSeen 72 = .ok (.ireturn, 1) := by decide +kernel
theorem dX8_isLie_0 : decode cX8_isLie 0 = .ok (.aload_n 0, 1) := by decide +kernel
theorem dX8_isLie_1 : decode cX8_isLie 1 = .ok (.getfield 19, 3) := by decide +kernel
theorem dX8_isLie_4 : decode cX8_isLie 4 = .ok (.iload_n 1, 1) := by decide +kernel
theorem dX8_isLie_5 : decode cX8_isLie 5 = .ok (.iload_n 2, 1) := by decide +kernel
theorem dX8_isLie_6 : decode cX8_isLie 6 = .ok (.iload_n 3, 1) := by decide +kernel
theorem dX8_isLie_7 : decode cX8_isLie 7 = .ok (.iconst 1, 1) := by decide +kernel
theorem dX8_isLie_8 : decode cX8_isLie 8 = .ok (.invokevirtual 72, 3) := by decide +kernel
theorem dX8_isLie_11 : decode cX8_isLie 11 = .ok (.iload 4, 2) := by decide +kernel
theorem dX8_isLie_13 : decode cX8_isLie 13 = .ok (.ifCond .lt 23, 3) := by decide +kernel
theorem dX8_isLie_16 : decode cX8_isLie 16 = .ok (.iload 4, 2) := by decide +kernel
theorem dX8_isLie_18 : decode cX8_isLie 18 = .ok (.aload_n 0, 1) := by decide +kernel
theorem dX8_isLie_19 : decode cX8_isLie 19 = .ok (.getfield 9, 3) := by decide +kernel
theorem dX8_isLie_22 : decode cX8_isLie 22 = .ok (.arraylength, 1) := by decide +kernel
theorem dX8_isLie_23 : decode cX8_isLie 23 = .ok (.if_icmp .ge 13, 3) := by decide +kernel
theorem dX8_isLie_26 : decode cX8_isLie 26 = .ok (.aload_n 0, 1) := by decide +kernel
theorem dX8_isLie_27 : decode cX8_isLie 27 = .ok (.getfield 9, 3) := by decide +kernel
theorem dX8_isLie_30 : decode cX8_isLie 30 = .ok (.iload 4, 2) := by decide +kernel
theorem dX8_isLie_32 : decode cX8_isLie 32 = .ok (.iaload, 1) := by decide +kernel
theorem dX8_isLie_33 : decode cX8_isLie 33 = .ok (.goto 5, 3) := by decide +kernel
theorem dX8_isLie_36 : decode cX8_isLie 36 = .ok (.iload 5, 2) := by decide +kernel
theorem dX8_isLie_38 : decode cX8_isLie 38 = .ok (.istore 7, 2) := by decide +kernel
theorem dX8_isLie_40 : decode cX8_isLie 40 = .ok (.iload 4, 2) := by decide +kernel
theorem dX8_isLie_42 : decode cX8_isLie 42 = .ok (.istore 8, 2) := by decide +kernel
theorem dX8_isLie_44 : decode cX8_isLie 44 = .ok (.iload 8, 2) := by decide +kernel
theorem dX8_isLie_46 : decode cX8_isLie 46 = .ok (.iload 6, 2) := by decide +kernel
theorem dX8_isLie_48 : decode cX8_isLie 48 = .ok (.if_icmp .ge 26, 3) := by decide +kernel
theorem dX8_isLie_51 : decode cX8_isLie 51 = .ok (.iload 7, 2) := by decide +kernel
theorem dX8_isLie_53 : decode cX8_isLie 53 = .ok (.iload 5, 2) := by decide +kernel
theorem dX8_isLie_55 : decode cX8_isLie 55 = .ok (.if_icmp .eq 19, 3) := by decide +kernel
theorem dX8_isLie_58 : decode cX8_isLie 58 = .ok (.aload_n 0, 1) := by decide +kernel
theorem dX8_isLie_59 : decode cX8_isLie 59 = .ok (.iload 7, 2) := by decide +kernel
theorem dX8_isLie_61 : decode cX8_isLie 61 = .ok (.iload 8, 2) := by decide +kernel
theorem dX8_isLie_63 : decode cX8_isLie 63 = .ok (.invokevirtual 76, 3) := by decide +kernel
theorem dX8_isLie_66 : decode cX8_isLie 66 = .ok (.istore 7, 2) := by decide +kernel
theorem dX8_isLie_68 : decode cX8_isLie 68 = .ok (.iinc 8 1, 3) := by decide +kernel
theorem dX8_isLie_71 : decode cX8_isLie 71 = .ok (.goto (-27), 3) := by decide +kernel
theorem dX8_isLie_74 : decode cX8_isLie 74 = .ok (.aload_n 0, 1) := by decide +kernel
theorem dX8_isLie_75 : decode cX8_isLie 75 = .ok (.getfield 19, 3) := by decide +kernel
theorem dX8_isLie_78 : decode cX8_isLie 78 = .ok (.iload_n 1, 1) := by decide +kernel
theorem dX8_isLie_79 : decode cX8_isLie 79 = .ok (.iload_n 2, 1) := by decide +kernel
theorem dX8_isLie_80 : decode cX8_isLie 80 = .ok (.iload_n 3, 1) := by decide +kernel
theorem dX8_isLie_81 : decode cX8_isLie 81 = .ok (.iconst (-1), 1) := by decide +kernel
theorem dX8_isLie_82 : decode cX8_isLie 82 = .ok (.invokevirtual 72, 3) := by decide +kernel
theorem dX8_isLie_85 : decode cX8_isLie 85 = .ok (.iload 7, 2) := by decide +kernel
theorem dX8_isLie_87 : decode cX8_isLie 87 = .ok (.iload 5, 2) := by decide +kernel
theorem dX8_isLie_89 : decode cX8_isLie 89 = .ok (.if_icmp .eq 7, 3) := by decide +kernel
theorem dX8_isLie_92 : decode cX8_isLie 92 = .ok (.iconst 1, 1) := by decide +kernel
theorem dX8_isLie_93 : decode cX8_isLie 93 = .ok (.goto 4, 3) := by decide +kernel
theorem dX8_isLie_96 : decode cX8_isLie 96 = .ok (.iconst 0, 1) := by decide +kernel
theorem dX8_isLie_97 : decode cX8_isLie 97 = .ok (.ireturn, 1) := by decide +kernel
theorem dX8_seekLie_0 : decode cX8_seekLie 0 = .ok (.aload_n 0, 1) := by decide +kernel
theorem dX8_seekLie_1 : decode cX8_seekLie 1 = .ok (.iload_n 1, 1) := by decide +kernel
theorem dX8_seekLie_2 : decode cX8_seekLie 2 = .ok (.iload 4, 2) := by decide +kernel
theorem dX8_seekLie_4 : decode cX8_seekLie 4 = .ok (.invokevirtual 23, 3) := by decide +kernel
theorem dX8_seekLie_7 : decode cX8_seekLie 7 = .ok (.aload_n 0, 1) := by decide +kernel
theorem dX8_seekLie_8 : decode cX8_seekLie 8 = .ok (.iload_n 2, 1) := by decide +kernel
theorem dX8_seekLie_9 : decode cX8_seekLie 9 = .ok (.iload 4, 2) := by decide +kernel
theorem dX8_seekLie_11 : decode cX8_seekLie 11 = .ok (.invokevirtual 27, 3) := by decide +kernel
theorem dX8_seekLie_14 : decode cX8_seekLie 14 = .ok (.istore 5, 2) := by decide +kernel
theorem dX8_seekLie_16 : decode cX8_seekLie 16 = .ok (.iload 5, 2) := by decide +kernel
theorem dX8_seekLie_18 : decode cX8_seekLie 18 = .ok (.ifCond .ge 6, 3) := by decide +kernel
theorem dX8_seekLie_21 : decode cX8_seekLie 21 = .ok (.bipush (-3), 2) := by decide +kernel
theorem dX8_seekLie_23 : decode cX8_seekLie 23 = .ok (.ireturn, 1) := by decide +kernel
theorem dX8_seekLie_24 : decode cX8_seekLie 24 = .ok (.iconst 0, 1) := by decide +kernel
theorem dX8_seekLie_25 : decode cX8_seekLie 25 = .ok (.istore 6, 2) := by decide +kernel
theorem dX8_seekLie_27 : decode cX8_seekLie 27 = .ok (.iload 6, 2) := by decide +kernel
theorem dX8_seekLie_29 : decode cX8_seekLie 29 = .ok (.bipush 15, 2) := by decide +kernel
theorem dX8_seekLie_31 : decode cX8_seekLie 31 = .ok (.if_icmp .gt 88, 3) := by decide +kernel
theorem dX8_seekLie_34 : decode cX8_seekLie 34 = .ok (.iload 6, 2) := by decide +kernel
theorem dX8_seekLie_36 : decode cX8_seekLie 36 = .ok (.iload 5, 2) := by decide +kernel
theorem dX8_seekLie_38 : decode cX8_seekLie 38 = .ok (.if_icmp .ge 81, 3) := by decide +kernel
theorem dX8_seekLie_41 : decode cX8_seekLie 41 = .ok (.iconst 0, 1) := by decide +kernel
theorem dX8_seekLie_42 : decode cX8_seekLie 42 = .ok (.istore 7, 2) := by decide +kernel
theorem dX8_seekLie_44 : decode cX8_seekLie 44 = .ok (.iload 7, 2) := by decide +kernel
theorem dX8_seekLie_46 : decode cX8_seekLie 46 = .ok (.aload_n 0, 1) := by decide +kernel
theorem dX8_seekLie_47 : decode cX8_seekLie 47 = .ok (.getfield 15, 3) := by decide +kernel
theorem dX8_seekLie_50 : decode cX8_seekLie 50 = .ok (.getfield 31, 3) := by decide +kernel
theorem dX8_seekLie_53 : decode cX8_seekLie 53 = .ok (.invokevirtual 49, 3) := by decide +kernel
theorem dX8_seekLie_56 : decode cX8_seekLie 56 = .ok (.if_icmp .ge 57, 3) := by decide +kernel
theorem dX8_seekLie_59 : decode cX8_seekLie 59 = .ok (.aload_n 0, 1) := by decide +kernel
theorem dX8_seekLie_60 : decode cX8_seekLie 60 = .ok (.iload 7, 2) := by decide +kernel
theorem dX8_seekLie_62 : decode cX8_seekLie 62 = .ok (.iload 6, 2) := by decide +kernel
theorem dX8_seekLie_64 : decode cX8_seekLie 64 = .ok (.iload 5, 2) := by decide +kernel
theorem dX8_seekLie_66 : decode cX8_seekLie 66 = .ok (.invokevirtual 53, 3) := by decide +kernel
theorem dX8_seekLie_69 : decode cX8_seekLie 69 = .ok (.istore 8, 2) := by decide +kernel
theorem dX8_seekLie_71 : decode cX8_seekLie 71 = .ok (.iload 8, 2) := by decide +kernel
theorem dX8_seekLie_73 : decode cX8_seekLie 73 = .ok (.ifCond .lt 34, 3) := by decide +kernel
theorem dX8_seekLie_76 : decode cX8_seekLie 76 = .ok (.aload_n 0, 1) := by decide +kernel
theorem dX8_seekLie_77 : decode cX8_seekLie 77 = .ok (.iload_n 3, 1) := by decide +kernel
theorem dX8_seekLie_78 : decode cX8_seekLie 78 = .ok (.iload 7, 2) := by decide +kernel
theorem dX8_seekLie_80 : decode cX8_seekLie 80 = .ok (.iload 6, 2) := by decide +kernel
theorem dX8_seekLie_82 : decode cX8_seekLie 82 = .ok (.iload 8, 2) := by decide +kernel
theorem dX8_seekLie_84 : decode cX8_seekLie 84 = .ok (.iload_n 2, 1) := by decide +kernel
theorem dX8_seekLie_85 : decode cX8_seekLie 85 = .ok (.iload 4, 2) := by decide +kernel
theorem dX8_seekLie_87 : decode cX8_seekLie 87 = .ok (.invokevirtual 57, 3) := by decide +kernel
theorem dX8_seekLie_90 : decode cX8_seekLie 90 = .ok (.ifCond .eq 17, 3) := by decide +kernel
theorem dX8_seekLie_93 : decode cX8_seekLie 93 = .ok (.aload_n 0, 1) := by decide +kernel
theorem dX8_seekLie_94 : decode cX8_seekLie 94 = .ok (.iload 6, 2) := by decide +kernel
theorem dX8_seekLie_96 : decode cX8_seekLie 96 = .ok (.putfield 61, 3) := by decide +kernel
theorem dX8_seekLie_99 : decode cX8_seekLie 99 = .ok (.aload_n 0, 1) := by decide +kernel
theorem dX8_seekLie_100 : decode cX8_seekLie 100 = .ok (.iload 7, 2) := by decide +kernel
theorem dX8_seekLie_102 : decode cX8_seekLie 102 = .ok (.putfield 64, 3) := by decide +kernel
theorem dX8_seekLie_105 : decode cX8_seekLie 105 = .ok (.iconst 0, 1) := by decide +kernel
theorem dX8_seekLie_106 : decode cX8_seekLie 106 = .ok (.ireturn, 1) := by decide +kernel
theorem dX8_seekLie_107 : decode cX8_seekLie 107 = .ok (.iinc 7 1, 3) := by decide +kernel
theorem dX8_seekLie_110 : decode cX8_seekLie 110 = .ok (.goto (-66), 3) := by decide +kernel
theorem dX8_seekLie_113 : decode cX8_seekLie 113 = .ok (.iinc 6 1, 3) := by decide +kernel
theorem dX8_seekLie_116 : decode cX8_seekLie 116 = .ok (.goto (-89), 3) := by decide +kernel
theorem dX8_seekLie_119 : decode cX8_seekLie 119 = .ok (.bipush (-2), 2) := by decide +kernel
theorem dX8_seekLie_121 : decode cX8_seekLie 121 = .ok (.ireturn, 1) := by decide +kernel
theorem dX13_lie_0 : decode cX13_lie 0 = .ok (.aload_n 0, 1) := by decide +kernel
theorem dX13_lie_1 : decode cX13_lie 1 = .ok (.getfield 36, 3) := by decide +kernel
theorem dX13_lie_4 : decode cX13_lie 4 = .ok (.getfield 86, 3) := by decide +kernel
theorem dX13_lie_7 : decode cX13_lie 7 = .ok (.astore 6, 2) := by decide +kernel
theorem dX13_lie_9 : decode cX13_lie 9 = .ok (.aload 6, 2) := by decide +kernel
theorem dX13_lie_11 : decode cX13_lie 11 = .ok (.getfield 117, 3) := by decide +kernel
theorem dX13_lie_14 : decode cX13_lie 14 = .ok (.iload_n 1, 1) := by decide +kernel
theorem dX13_lie_15 : decode cX13_lie 15 = .ok (.invokevirtual 123, 3) := by decide +kernel
theorem dX13_lie_18 : decode cX13_lie 18 = .ok (.ifCond .eq 28, 3) := by decide +kernel
theorem dX13_lie_21 : decode cX13_lie 21 = .ok (.aload 6, 2) := by decide +kernel
theorem dX13_lie_23 : decode cX13_lie 23 = .ok (.iload_n 2, 1) := by decide +kernel
theorem dX13_lie_24 : decode cX13_lie 24 = .ok (.invokevirtual 152, 3) := by decide +kernel
theorem dX13_lie_27 : decode cX13_lie 27 = .ok (.ifCond .eq 19, 3) := by decide +kernel
theorem dX13_lie_30 : decode cX13_lie 30 = .ok (.aload 6, 2) := by decide +kernel
theorem dX13_lie_32 : decode cX13_lie 32 = .ok (.getfield 104, 3) := by decide +kernel
theorem dX13_lie_35 : decode cX13_lie 35 = .ok (.iload_n 3, 1) := by decide +kernel
theorem dX13_lie_36 : decode cX13_lie 36 = .ok (.invokevirtual 123, 3) := by decide +kernel
theorem dX13_lie_39 : decode cX13_lie 39 = .ok (.ifCond .eq 7, 3) := by decide +kernel
theorem dX13_lie_42 : decode cX13_lie 42 = .ok (.iconst 1, 1) := by decide +kernel
theorem dX13_lie_43 : decode cX13_lie 43 = .ok (.goto 4, 3) := by decide +kernel
theorem dX13_lie_46 : decode cX13_lie 46 = .ok (.iconst 0, 1) := by decide +kernel
theorem dX13_lie_47 : decode cX13_lie 47 = .ok (.istore 7, 2) := by decide +kernel
theorem dX13_lie_49 : decode cX13_lie 49 = .ok (.iload 7, 2) := by decide +kernel
theorem dX13_lie_51 : decode cX13_lie 51 = .ok (.ifCond .eq 24, 3) := by decide +kernel
theorem dX13_lie_54 : decode cX13_lie 54 = .ok (.iload 4, 2) := by decide +kernel
theorem dX13_lie_56 : decode cX13_lie 56 = .ok (.bipush 60, 2) := by decide +kernel
theorem dX13_lie_58 : decode cX13_lie 58 = .ok (.invokestatic 189, 3) := by decide +kernel
theorem dX13_lie_61 : decode cX13_lie 61 = .ok (.ifCond .eq 14, 3) := by decide +kernel
theorem dX13_lie_64 : decode cX13_lie 64 = .ok (.iload 5, 2) := by decide +kernel
theorem dX13_lie_66 : decode cX13_lie 66 = .ok (.ifCond .lt 9, 3) := by decide +kernel
theorem dX13_lie_69 : decode cX13_lie 69 = .ok (.iload 5, 2) := by decide +kernel
theorem dX13_lie_71 : decode cX13_lie 71 = .ok (.iconst 1, 1) := by decide +kernel
theorem dX13_lie_72 : decode cX13_lie 72 = .ok (.if_icmp .le 5, 3) := by decide +kernel
theorem dX13_lie_75 : decode cX13_lie 75 = .ok (.iconst (-1), 1) := by decide +kernel
theorem dX13_lie_76 : decode cX13_lie 76 = .ok (.ireturn, 1) := by decide +kernel
theorem dX13_lie_77 : decode cX13_lie 77 = .ok (.aload_n 0, 1) := by decide +kernel
theorem dX13_lie_78 : decode cX13_lie 78 = .ok (.getfield 52, 3) := by decide +kernel
theorem dX13_lie_81 : decode cX13_lie 81 = .ok (.invokevirtual 196, 3) := by decide +kernel
theorem dX13_lie_84 : decode cX13_lie 84 = .ok (.aload_n 0, 1) := by decide +kernel
theorem dX13_lie_85 : decode cX13_lie 85 = .ok (.getfield 61, 3) := by decide +kernel
theorem dX13_lie_88 : decode cX13_lie 88 = .ok (.iload_n 1, 1) := by decide +kernel
theorem dX13_lie_89 : decode cX13_lie 89 = .ok (.iload_n 2, 1) := by decide +kernel
theorem dX13_lie_90 : decode cX13_lie 90 = .ok (.iload_n 3, 1) := by decide +kernel
theorem dX13_lie_91 : decode cX13_lie 91 = .ok (.iload 4, 2) := by decide +kernel
theorem dX13_lie_93 : decode cX13_lie 93 = .ok (.invokevirtual 236, 3) := by decide +kernel
theorem dX13_lie_96 : decode cX13_lie 96 = .ok (.istore 8, 2) := by decide +kernel
theorem dX13_lie_98 : decode cX13_lie 98 = .ok (.iload 8, 2) := by decide +kernel
theorem dX13_lie_100 : decode cX13_lie 100 = .ok (.ifCond .ge 6, 3) := by decide +kernel
theorem dX13_lie_103 : decode cX13_lie 103 = .ok (.iload 8, 2) := by decide +kernel
theorem dX13_lie_105 : decode cX13_lie 105 = .ok (.ireturn, 1) := by decide +kernel
theorem dX13_lie_106 : decode cX13_lie 106 = .ok (.iload 5, 2) := by decide +kernel
theorem dX13_lie_108 : decode cX13_lie 108 = .ok (.ifCond .ne 13, 3) := by decide +kernel
theorem dX13_lie_111 : decode cX13_lie 111 = .ok (.aload_n 0, 1) := by decide +kernel
theorem dX13_lie_112 : decode cX13_lie 112 = .ok (.getfield 61, 3) := by decide +kernel
theorem dX13_lie_115 : decode cX13_lie 115 = .ok (.getfield 240, 3) := by decide +kernel
theorem dX13_lie_118 : decode cX13_lie 118 = .ok (.goto 10, 3) := by decide +kernel
theorem dX13_lie_121 : decode cX13_lie 121 = .ok (.aload_n 0, 1) := by decide +kernel
theorem dX13_lie_122 : decode cX13_lie 122 = .ok (.getfield 61, 3) := by decide +kernel
theorem dX13_lie_125 : decode cX13_lie 125 = .ok (.getfield 243, 3) := by decide +kernel
theorem dX13_lie_128 : decode cX13_lie 128 = .ok (.ireturn, 1) := by decide +kernel
theorem dX2_isTale_0 : decode cX2_isTale 0 = .ok (.iconst 0, 1) := by decide +kernel
theorem dX2_isTale_1 : decode cX2_isTale 1 = .ok (.istore 5, 2) := by decide +kernel
theorem dX2_isTale_3 : decode cX2_isTale 3 = .ok (.iload 5, 2) := by decide +kernel
theorem dX2_isTale_5 : decode cX2_isTale 5 = .ok (.aload 4, 2) := by decide +kernel
theorem dX2_isTale_7 : decode cX2_isTale 7 = .ok (.getfield 66, 3) := by decide +kernel
theorem dX2_isTale_10 : decode cX2_isTale 10 = .ok (.if_icmp .ge 100, 3) := by decide +kernel
theorem dX2_isTale_13 : decode cX2_isTale 13 = .ok (.aload 4, 2) := by decide +kernel
theorem dX2_isTale_15 : decode cX2_isTale 15 = .ok (.iload 5, 2) := by decide +kernel
theorem dX2_isTale_17 : decode cX2_isTale 17 = .ok (.invokevirtual 79, 3) := by decide +kernel
theorem dX2_isTale_20 : decode cX2_isTale 20 = .ok (.bipush 31, 2) := by decide +kernel
theorem dX2_isTale_22 : decode cX2_isTale 22 = .ok (.invokestatic 103, 3) := by decide +kernel
theorem dX2_isTale_25 : decode cX2_isTale 25 = .ok (.istore 6, 2) := by decide +kernel
theorem dX2_isTale_27 : decode cX2_isTale 27 = .ok (.aload_n 0, 1) := by decide +kernel
theorem dX2_isTale_28 : decode cX2_isTale 28 = .ok (.getfield 33, 3) := by decide +kernel
theorem dX2_isTale_31 : decode cX2_isTale 31 = .ok (.getfield 54, 3) := by decide +kernel
theorem dX2_isTale_34 : decode cX2_isTale 34 = .ok (.getfield 109, 3) := by decide +kernel
theorem dX2_isTale_37 : decode cX2_isTale 37 = .ok (.aload_n 0, 1) := by decide +kernel
theorem dX2_isTale_38 : decode cX2_isTale 38 = .ok (.getfield 41, 3) := by decide +kernel
theorem dX2_isTale_41 : decode cX2_isTale 41 = .ok (.getfield 112, 3) := by decide +kernel
theorem dX2_isTale_44 : decode cX2_isTale 44 = .ok (.iload 6, 2) := by decide +kernel
theorem dX2_isTale_46 : decode cX2_isTale 46 = .ok (.iaload, 1) := by decide +kernel
theorem dX2_isTale_47 : decode cX2_isTale 47 = .ok (.invokevirtual 79, 3) := by decide +kernel
theorem dX2_isTale_50 : decode cX2_isTale 50 = .ok (.istore 7, 2) := by decide +kernel
theorem dX2_isTale_52 : decode cX2_isTale 52 = .ok (.aload_n 0, 1) := by decide +kernel
theorem dX2_isTale_53 : decode cX2_isTale 53 = .ok (.getfield 41, 3) := by decide +kernel
theorem dX2_isTale_56 : decode cX2_isTale 56 = .ok (.getfield 115, 3) := by decide +kernel
theorem dX2_isTale_59 : decode cX2_isTale 59 = .ok (.iload 6, 2) := by decide +kernel
theorem dX2_isTale_61 : decode cX2_isTale 61 = .ok (.iaload, 1) := by decide +kernel
theorem dX2_isTale_62 : decode cX2_isTale 62 = .ok (.iload_n 3, 1) := by decide +kernel
theorem dX2_isTale_63 : decode cX2_isTale 63 = .ok (.isub, 1) := by decide +kernel
theorem dX2_isTale_64 : decode cX2_isTale 64 = .ok (.istore 8, 2) := by decide +kernel
theorem dX2_isTale_66 : decode cX2_isTale 66 = .ok (.aload_n 0, 1) := by decide +kernel
theorem dX2_isTale_67 : decode cX2_isTale 67 = .ok (.getfield 37, 3) := by decide +kernel
theorem dX2_isTale_70 : decode cX2_isTale 70 = .ok (.iload_n 1, 1) := by decide +kernel
theorem dX2_isTale_71 : decode cX2_isTale 71 = .ok (.iload_n 2, 1) := by decide +kernel
theorem dX2_isTale_72 : decode cX2_isTale 72 = .ok (.iload 7, 2) := by decide +kernel
theorem dX2_isTale_74 : decode cX2_isTale 74 = .ok (.iload 8, 2) := by decide +kernel
theorem dX2_isTale_76 : decode cX2_isTale 76 = .ok (.aload_n 0, 1) := by decide +kernel
theorem dX2_isTale_77 : decode cX2_isTale 77 = .ok (.getfield 33, 3) := by decide +kernel
theorem dX2_isTale_80 : decode cX2_isTale 80 = .ok (.getfield 54, 3) := by decide +kernel
theorem dX2_isTale_83 : decode cX2_isTale 83 = .ok (.getfield 118, 3) := by decide +kernel
theorem dX2_isTale_86 : decode cX2_isTale 86 = .ok (.invokevirtual 121, 3) := by decide +kernel
theorem dX2_isTale_89 : decode cX2_isTale 89 = .ok (.aload_n 0, 1) := by decide +kernel
theorem dX2_isTale_90 : decode cX2_isTale 90 = .ok (.getfield 41, 3) := by decide +kernel
theorem dX2_isTale_93 : decode cX2_isTale 93 = .ok (.getfield 127, 3) := by decide +kernel
theorem dX2_isTale_96 : decode cX2_isTale 96 = .ok (.iload 6, 2) := by decide +kernel
theorem dX2_isTale_98 : decode cX2_isTale 98 = .ok (.iaload, 1) := by decide +kernel
theorem dX2_isTale_99 : decode cX2_isTale 99 = .ok (.if_icmp .eq 5, 3) := by decide +kernel
theorem dX2_isTale_102 : decode cX2_isTale 102 = .ok (.iconst 0, 1) := by decide +kernel
theorem dX2_isTale_103 : decode cX2_isTale 103 = .ok (.ireturn, 1) := by decide +kernel
theorem dX2_isTale_104 : decode cX2_isTale 104 = .ok (.iinc 5 1, 3) := by decide +kernel
theorem dX2_isTale_107 : decode cX2_isTale 107 = .ok (.goto (-104), 3) := by decide +kernel
theorem dX2_isTale_110 : decode cX2_isTale 110 = .ok (.iconst 1, 1) := by decide +kernel
theorem dX2_isTale_111 : decode cX2_isTale 111 = .ok (.ireturn, 1) := by decide +kernel
theorem dX2_walkCells_0 : decode cX2_walkCells 0 = .ok (.iload_n 2, 1) := by decide +kernel
theorem dX2_walkCells_1 : decode cX2_walkCells 1 = .ok (.istore 5, 2) := by decide +kernel
theorem dX2_walkCells_3 : decode cX2_walkCells 3 = .ok (.aload_n 0, 1) := by decide +kernel
theorem dX2_walkCells_4 : decode cX2_walkCells 4 = .ok (.getfield 30, 3) := by decide +kernel
theorem dX2_walkCells_7 : decode cX2_walkCells 7 = .ok (.invokevirtual 51, 3) := by decide +kernel
theorem dX2_walkCells_10 : decode cX2_walkCells 10 = .ok (.iconst 0, 1) := by decide +kernel
theorem dX2_walkCells_11 : decode cX2_walkCells 11 = .ok (.istore 6, 2) := by decide +kernel
theorem dX2_walkCells_13 : decode cX2_walkCells 13 = .ok (.iload 6, 2) := by decide +kernel
theorem dX2_walkCells_15 : decode cX2_walkCells 15 = .ok (.aload_n 0, 1) := by decide +kernel
theorem dX2_walkCells_16 : decode cX2_walkCells 16 = .ok (.getfield 33, 3) := by decide +kernel
theorem dX2_walkCells_19 : decode cX2_walkCells 19 = .ok (.getfield 54, 3) := by decide +kernel
theorem dX2_walkCells_22 : decode cX2_walkCells 22 = .ok (.invokevirtual 87, 3) := by decide +kernel
theorem dX2_walkCells_25 : decode cX2_walkCells 25 = .ok (.if_icmp .ge 96, 3) := by decide +kernel
theorem dX2_walkCells_28 : decode cX2_walkCells 28 = .ok (.iconst 0, 1) := by decide +kernel
theorem dX2_walkCells_29 : decode cX2_walkCells 29 = .ok (.istore 7, 2) := by decide +kernel
theorem dX2_walkCells_31 : decode cX2_walkCells 31 = .ok (.iload 7, 2) := by decide +kernel
theorem dX2_walkCells_33 : decode cX2_walkCells 33 = .ok (.bipush 20, 2) := by decide +kernel
theorem dX2_walkCells_35 : decode cX2_walkCells 35 = .ok (.if_icmp .gt 80, 3) := by decide +kernel
theorem dX2_walkCells_38 : decode cX2_walkCells 38 = .ok (.aload_n 0, 1) := by decide +kernel
theorem dX2_walkCells_39 : decode cX2_walkCells 39 = .ok (.getfield 33, 3) := by decide +kernel
theorem dX2_walkCells_42 : decode cX2_walkCells 42 = .ok (.getfield 54, 3) := by decide +kernel
theorem dX2_walkCells_45 : decode cX2_walkCells 45 = .ok (.iload 6, 2) := by decide +kernel
theorem dX2_walkCells_47 : decode cX2_walkCells 47 = .ok (.invokevirtual 91, 3) := by decide +kernel
theorem dX2_walkCells_50 : decode cX2_walkCells 50 = .ok (.ifCond .eq 65, 3) := by decide +kernel
theorem dX2_walkCells_53 : decode cX2_walkCells 53 = .ok (.aload_n 0, 1) := by decide +kernel
theorem dX2_walkCells_54 : decode cX2_walkCells 54 = .ok (.iload_n 1, 1) := by decide +kernel
theorem dX2_walkCells_55 : decode cX2_walkCells 55 = .ok (.iload 6, 2) := by decide +kernel
theorem dX2_walkCells_57 : decode cX2_walkCells 57 = .ok (.iload 7, 2) := by decide +kernel
theorem dX2_walkCells_59 : decode cX2_walkCells 59 = .ok (.aload 4, 2) := by decide +kernel
theorem dX2_walkCells_61 : decode cX2_walkCells 61 = .ok (.invokevirtual 95, 3) := by decide +kernel
theorem dX2_walkCells_64 : decode cX2_walkCells 64 = .ok (.ifCond .ne 6, 3) := by decide +kernel
theorem dX2_walkCells_67 : decode cX2_walkCells 67 = .ok (.goto 42, 3) := by decide +kernel
theorem dX2_walkCells_70 : decode cX2_walkCells 70 = .ok (.iload 5, 2) := by decide +kernel
theorem dX2_walkCells_72 : decode cX2_walkCells 72 = .ok (.iload_n 2, 1) := by decide +kernel
theorem dX2_walkCells_73 : decode cX2_walkCells 73 = .ok (.if_icmp .ne 15, 3) := by decide +kernel
theorem dX2_walkCells_76 : decode cX2_walkCells 76 = .ok (.aload_n 0, 1) := by decide +kernel
theorem dX2_walkCells_77 : decode cX2_walkCells 77 = .ok (.getfield 30, 3) := by decide +kernel
theorem dX2_walkCells_80 : decode cX2_walkCells 80 = .ok (.iload_n 1, 1) := by decide +kernel
theorem dX2_walkCells_81 : decode cX2_walkCells 81 = .ok (.iload 6, 2) := by decide +kernel
theorem dX2_walkCells_83 : decode cX2_walkCells 83 = .ok (.iload 7, 2) := by decide +kernel
theorem dX2_walkCells_85 : decode cX2_walkCells 85 = .ok (.invokevirtual 99, 3) := by decide +kernel
theorem dX2_walkCells_88 : decode cX2_walkCells 88 = .ok (.iload 5, 2) := by decide +kernel
theorem dX2_walkCells_90 : decode cX2_walkCells 90 = .ok (.iload_n 3, 1) := by decide +kernel
theorem dX2_walkCells_91 : decode cX2_walkCells 91 = .ok (.if_icmp .ne 15, 3) := by decide +kernel
theorem dX2_walkCells_94 : decode cX2_walkCells 94 = .ok (.aload_n 0, 1) := by decide +kernel
theorem dX2_walkCells_95 : decode cX2_walkCells 95 = .ok (.getfield 14, 3) := by decide +kernel
theorem dX2_walkCells_98 : decode cX2_walkCells 98 = .ok (.iload_n 1, 1) := by decide +kernel
theorem dX2_walkCells_99 : decode cX2_walkCells 99 = .ok (.iload 6, 2) := by decide +kernel
theorem dX2_walkCells_101 : decode cX2_walkCells 101 = .ok (.iload 7, 2) := by decide +kernel
theorem dX2_walkCells_103 : decode cX2_walkCells 103 = .ok (.invokevirtual 99, 3) := by decide +kernel
theorem dX2_walkCells_106 : decode cX2_walkCells 106 = .ok (.iinc 5 1, 3) := by decide +kernel
theorem dX2_walkCells_109 : decode cX2_walkCells 109 = .ok (.iinc 7 1, 3) := by decide +kernel
theorem dX2_walkCells_112 : decode cX2_walkCells 112 = .ok (.goto (-81), 3) := by decide +kernel
theorem dX2_walkCells_115 : decode cX2_walkCells 115 = .ok (.iinc 6 1, 3) := by decide +kernel
theorem dX2_walkCells_118 : decode cX2_walkCells 118 = .ok (.goto (-105), 3) := by decide +kernel
theorem dX2_walkCells_121 : decode cX2_walkCells 121 = .ok (.iload 5, 2) := by decide +kernel
theorem dX2_walkCells_123 : decode cX2_walkCells 123 = .ok (.ireturn, 1) := by decide +kernel
theorem dX2_walkTales_0 : decode cX2_walkTales 0 = .ok (.aload_n 0, 1) := by decide +kernel
theorem dX2_walkTales_1 : decode cX2_walkTales 1 = .ok (.getfield 41, 3) := by decide +kernel
theorem dX2_walkTales_4 : decode cX2_walkTales 4 = .ok (.invokevirtual 45, 3) := by decide +kernel
theorem dX2_walkTales_7 : decode cX2_walkTales 7 = .ok (.astore_n 2, 1) := by decide +kernel
theorem dX2_walkTales_8 : decode cX2_walkTales 8 = .ok (.iconst 0, 1) := by decide +kernel
theorem dX2_walkTales_9 : decode cX2_walkTales 9 = .ok (.istore_n 3, 1) := by decide +kernel
theorem dX2_walkTales_10 : decode cX2_walkTales 10 = .ok (.iconst 0, 1) := by decide +kernel
theorem dX2_walkTales_11 : decode cX2_walkTales 11 = .ok (.istore 4, 2) := by decide +kernel
theorem dX2_walkTales_13 : decode cX2_walkTales 13 = .ok (.aload_n 0, 1) := by decide +kernel
theorem dX2_walkTales_14 : decode cX2_walkTales 14 = .ok (.getfield 14, 3) := by decide +kernel
theorem dX2_walkTales_17 : decode cX2_walkTales 17 = .ok (.invokevirtual 51, 3) := by decide +kernel
theorem dX2_walkTales_20 : decode cX2_walkTales 20 = .ok (.aload_n 0, 1) := by decide +kernel
theorem dX2_walkTales_21 : decode cX2_walkTales 21 = .ok (.getfield 20, 3) := by decide +kernel
theorem dX2_walkTales_24 : decode cX2_walkTales 24 = .ok (.invokevirtual 51, 3) := by decide +kernel
theorem dX2_walkTales_27 : decode cX2_walkTales 27 = .ok (.iconst 0, 1) := by decide +kernel
theorem dX2_walkTales_28 : decode cX2_walkTales 28 = .ok (.istore 5, 2) := by decide +kernel
theorem dX2_walkTales_30 : decode cX2_walkTales 30 = .ok (.iload 5, 2) := by decide +kernel
theorem dX2_walkTales_32 : decode cX2_walkTales 32 = .ok (.aload_n 0, 1) := by decide +kernel
theorem dX2_walkTales_33 : decode cX2_walkTales 33 = .ok (.getfield 33, 3) := by decide +kernel
theorem dX2_walkTales_36 : decode cX2_walkTales 36 = .ok (.getfield 54, 3) := by decide +kernel
theorem dX2_walkTales_39 : decode cX2_walkTales 39 = .ok (.getfield 60, 3) := by decide +kernel
theorem dX2_walkTales_42 : decode cX2_walkTales 42 = .ok (.getfield 66, 3) := by decide +kernel
theorem dX2_walkTales_45 : decode cX2_walkTales 45 = .ok (.if_icmp .ge 69, 3) := by decide +kernel
theorem dX2_walkTales_48 : decode cX2_walkTales 48 = .ok (.iload 4, 2) := by decide +kernel
theorem dX2_walkTales_50 : decode cX2_walkTales 50 = .ok (.istore 6, 2) := by decide +kernel
theorem dX2_walkTales_52 : decode cX2_walkTales 52 = .ok (.aload_n 0, 1) := by decide +kernel
theorem dX2_walkTales_53 : decode cX2_walkTales 53 = .ok (.iload 5, 2) := by decide +kernel
theorem dX2_walkTales_55 : decode cX2_walkTales 55 = .ok (.iload 4, 2) := by decide +kernel
theorem dX2_walkTales_57 : decode cX2_walkTales 57 = .ok (.iload_n 1, 1) := by decide +kernel
theorem dX2_walkTales_58 : decode cX2_walkTales 58 = .ok (.aload_n 2, 1) := by decide +kernel
theorem dX2_walkTales_59 : decode cX2_walkTales 59 = .ok (.invokevirtual 72, 3) := by decide +kernel
theorem dX2_walkTales_62 : decode cX2_walkTales 62 = .ok (.istore 4, 2) := by decide +kernel
theorem dX2_walkTales_64 : decode cX2_walkTales 64 = .ok (.aload_n 0, 1) := by decide +kernel
theorem dX2_walkTales_65 : decode cX2_walkTales 65 = .ok (.getfield 33, 3) := by decide +kernel
theorem dX2_walkTales_68 : decode cX2_walkTales 68 = .ok (.getfield 54, 3) := by decide +kernel
theorem dX2_walkTales_71 : decode cX2_walkTales 71 = .ok (.getfield 76, 3) := by decide +kernel
theorem dX2_walkTales_74 : decode cX2_walkTales 74 = .ok (.iload 5, 2) := by decide +kernel
theorem dX2_walkTales_76 : decode cX2_walkTales 76 = .ok (.invokevirtual 79, 3) := by decide +kernel
theorem dX2_walkTales_79 : decode cX2_walkTales 79 = .ok (.istore 7, 2) := by decide +kernel
theorem dX2_walkTales_81 : decode cX2_walkTales 81 = .ok (.iload 4, 2) := by decide +kernel
theorem dX2_walkTales_83 : decode cX2_walkTales 83 = .ok (.iload 6, 2) := by decide +kernel
theorem dX2_walkTales_85 : decode cX2_walkTales 85 = .ok (.if_icmp .le 23, 3) := by decide +kernel
theorem dX2_walkTales_88 : decode cX2_walkTales 88 = .ok (.iload 7, 2) := by decide +kernel
theorem dX2_walkTales_90 : decode cX2_walkTales 90 = .ok (.iload_n 3, 1) := by decide +kernel
theorem dX2_walkTales_91 : decode cX2_walkTales 91 = .ok (.if_icmp .le 17, 3) := by decide +kernel
theorem dX2_walkTales_94 : decode cX2_walkTales 94 = .ok (.iload 7, 2) := by decide +kernel
theorem dX2_walkTales_96 : decode cX2_walkTales 96 = .ok (.istore_n 3, 1) := by decide +kernel
theorem dX2_walkTales_97 : decode cX2_walkTales 97 = .ok (.aload_n 0, 1) := by decide +kernel
