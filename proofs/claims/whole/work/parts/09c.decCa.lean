theorem dX10_advance_0 : decode cX10_advance 0 = .ok (.aload_n 0, 1) := by decide +kernel
theorem dX10_advance_1 : decode cX10_advance 1 = .ok (.getfield 44, 3) := by decide +kernel
theorem dX10_advance_4 : decode cX10_advance 4 = .ok (.aload_n 0, 1) := by decide +kernel
theorem dX10_advance_5 : decode cX10_advance 5 = .ok (.getfield 41, 3) := by decide +kernel
theorem dX10_advance_8 : decode cX10_advance 8 = .ok (.if_icmp .ge 13, 3) := by decide +kernel
theorem dX10_advance_11 : decode cX10_advance 11 = .ok (.aload_n 0, 1) := by decide +kernel
theorem dX10_advance_12 : decode cX10_advance 12 = .ok (.dup, 1) := by decide +kernel
theorem dX10_advance_13 : decode cX10_advance 13 = .ok (.getfield 44, 3) := by decide +kernel
theorem dX10_advance_16 : decode cX10_advance 16 = .ok (.iconst 1, 1) := by decide +kernel
theorem dX10_advance_17 : decode cX10_advance 17 = .ok (.iadd, 1) := by decide +kernel
theorem dX10_advance_18 : decode cX10_advance 18 = .ok (.putfield 44, 3) := by decide +kernel
theorem dX10_advance_21 : decode cX10_advance 21 = .ok (.aload_n 0, 1) := by decide +kernel
theorem dX10_advance_22 : decode cX10_advance 22 = .ok (.getfield 44, 3) := by decide +kernel
theorem dX10_advance_25 : decode cX10_advance 25 = .ok (.ifCond .lt 30, 3) := by decide +kernel
theorem dX10_advance_28 : decode cX10_advance 28 = .ok (.aload_n 0, 1) := by decide +kernel
theorem dX10_advance_29 : decode cX10_advance 29 = .ok (.getfield 44, 3) := by decide +kernel
theorem dX10_advance_32 : decode cX10_advance 32 = .ok (.aload_n 0, 1) := by decide +kernel
theorem dX10_advance_33 : decode cX10_advance 33 = .ok (.getfield 41, 3) := by decide +kernel
theorem dX10_advance_36 : decode cX10_advance 36 = .ok (.if_icmp .ge 19, 3) := by decide +kernel
theorem dX10_advance_39 : decode cX10_advance 39 = .ok (.aload_n 0, 1) := by decide +kernel
theorem dX10_advance_40 : decode cX10_advance 40 = .ok (.getfield 44, 3) := by decide +kernel
theorem dX10_advance_43 : decode cX10_advance 43 = .ok (.aload_n 0, 1) := by decide +kernel
theorem dX10_advance_44 : decode cX10_advance 44 = .ok (.getfield 9, 3) := by decide +kernel
theorem dX10_advance_47 : decode cX10_advance 47 = .ok (.arraylength, 1) := by decide +kernel
theorem dX10_advance_48 : decode cX10_advance 48 = .ok (.if_icmp .ge 7, 3) := by decide +kernel
theorem dX10_advance_51 : decode cX10_advance 51 = .ok (.iconst 1, 1) := by decide +kernel
theorem dX10_advance_52 : decode cX10_advance 52 = .ok (.goto 4, 3) := by decide +kernel
theorem dX10_advance_55 : decode cX10_advance 55 = .ok (.iconst 0, 1) := by decide +kernel
theorem dX10_advance_56 : decode cX10_advance 56 = .ok (.istore_n 1, 1) := by decide +kernel
theorem dX10_advance_57 : decode cX10_advance 57 = .ok (.aload_n 0, 1) := by decide +kernel
theorem dX10_advance_58 : decode cX10_advance 58 = .ok (.iload_n 1, 1) := by decide +kernel
theorem dX10_advance_59 : decode cX10_advance 59 = .ok (.ifCond .eq 15, 3) := by decide +kernel
theorem dX10_advance_62 : decode cX10_advance 62 = .ok (.aload_n 0, 1) := by decide +kernel
theorem dX10_advance_63 : decode cX10_advance 63 = .ok (.getfield 9, 3) := by decide +kernel
theorem dX10_advance_66 : decode cX10_advance 66 = .ok (.aload_n 0, 1) := by decide +kernel
theorem dX10_advance_67 : decode cX10_advance 67 = .ok (.getfield 44, 3) := by decide +kernel
theorem dX10_advance_70 : decode cX10_advance 70 = .ok (.iaload, 1) := by decide +kernel
theorem dX10_advance_71 : decode cX10_advance 71 = .ok (.goto 4, 3) := by decide +kernel
theorem dX10_advance_74 : decode cX10_advance 74 = .ok (.iconst 0, 1) := by decide +kernel
theorem dX10_advance_75 : decode cX10_advance 75 = .ok (.putfield 71, 3) := by decide +kernel
theorem dX10_advance_78 : decode cX10_advance 78 = .ok (.aload_n 0, 1) := by decide +kernel
theorem dX10_advance_79 : decode cX10_advance 79 = .ok (.iload_n 1, 1) := by decide +kernel
theorem dX10_advance_80 : decode cX10_advance 80 = .ok (.ifCond .eq 15, 3) := by decide +kernel
theorem dX10_advance_83 : decode cX10_advance 83 = .ok (.aload_n 0, 1) := by decide +kernel
theorem dX10_advance_84 : decode cX10_advance 84 = .ok (.getfield 15, 3) := by decide +kernel
theorem dX10_advance_87 : decode cX10_advance 87 = .ok (.aload_n 0, 1) := by decide +kernel
theorem dX10_advance_88 : decode cX10_advance 88 = .ok (.getfield 44, 3) := by decide +kernel
theorem dX10_advance_91 : decode cX10_advance 91 = .ok (.iaload, 1) := by decide +kernel
theorem dX10_advance_92 : decode cX10_advance 92 = .ok (.goto 7, 3) := by decide +kernel
theorem dX10_advance_95 : decode cX10_advance 95 = .ok (.aload_n 0, 1) := by decide +kernel
theorem dX10_advance_96 : decode cX10_advance 96 = .ok (.getfield 34, 3) := by decide +kernel
theorem dX10_advance_99 : decode cX10_advance 99 = .ok (.putfield 74, 3) := by decide +kernel
theorem dX10_advance_102 : decode cX10_advance 102 = .ok (.aload_n 0, 1) := by decide +kernel
theorem dX10_advance_103 : decode cX10_advance 103 = .ok (.iload_n 1, 1) := by decide +kernel
theorem dX10_advance_104 : decode cX10_advance 104 = .ok (.ifCond .eq 15, 3) := by decide +kernel
theorem dX10_advance_107 : decode cX10_advance 107 = .ok (.aload_n 0, 1) := by decide +kernel
theorem dX10_advance_108 : decode cX10_advance 108 = .ok (.getfield 18, 3) := by decide +kernel
theorem dX10_advance_111 : decode cX10_advance 111 = .ok (.aload_n 0, 1) := by decide +kernel
theorem dX10_advance_112 : decode cX10_advance 112 = .ok (.getfield 44, 3) := by decide +kernel
theorem dX10_advance_115 : decode cX10_advance 115 = .ok (.iaload, 1) := by decide +kernel
theorem dX10_advance_116 : decode cX10_advance 116 = .ok (.goto 4, 3) := by decide +kernel
theorem dX10_advance_119 : decode cX10_advance 119 = .ok (.iconst 0, 1) := by decide +kernel
theorem dX10_advance_120 : decode cX10_advance 120 = .ok (.putfield 77, 3) := by decide +kernel
theorem dX10_advance_123 : decode cX10_advance 123 = .ok (.return_, 1) := by decide +kernel
theorem dX10_byteAt_0 : decode cX10_byteAt 0 = .ok (.iload_n 1, 1) := by decide +kernel
theorem dX10_byteAt_1 : decode cX10_byteAt 1 = .ok (.ifCond .lt 29, 3) := by decide +kernel
theorem dX10_byteAt_4 : decode cX10_byteAt 4 = .ok (.iload_n 1, 1) := by decide +kernel
theorem dX10_byteAt_5 : decode cX10_byteAt 5 = .ok (.aload_n 0, 1) := by decide +kernel
theorem dX10_byteAt_6 : decode cX10_byteAt 6 = .ok (.getfield 34, 3) := by decide +kernel
theorem dX10_byteAt_9 : decode cX10_byteAt 9 = .ok (.if_icmp .ge 21, 3) := by decide +kernel
theorem dX10_byteAt_12 : decode cX10_byteAt 12 = .ok (.iload_n 1, 1) := by decide +kernel
theorem dX10_byteAt_13 : decode cX10_byteAt 13 = .ok (.aload_n 0, 1) := by decide +kernel
theorem dX10_byteAt_14 : decode cX10_byteAt 14 = .ok (.getfield 21, 3) := by decide +kernel
theorem dX10_byteAt_17 : decode cX10_byteAt 17 = .ok (.arraylength, 1) := by decide +kernel
theorem dX10_byteAt_18 : decode cX10_byteAt 18 = .ok (.if_icmp .ge 12, 3) := by decide +kernel
theorem dX10_byteAt_21 : decode cX10_byteAt 21 = .ok (.aload_n 0, 1) := by decide +kernel
theorem dX10_byteAt_22 : decode cX10_byteAt 22 = .ok (.getfield 21, 3) := by decide +kernel
theorem dX10_byteAt_25 : decode cX10_byteAt 25 = .ok (.iload_n 1, 1) := by decide +kernel
theorem dX10_byteAt_26 : decode cX10_byteAt 26 = .ok (.baload, 1) := by decide +kernel
theorem dX10_byteAt_27 : decode cX10_byteAt 27 = .ok (.goto 4, 3) := by decide +kernel
theorem dX10_byteAt_30 : decode cX10_byteAt 30 = .ok (.iconst 0, 1) := by decide +kernel
theorem dX10_byteAt_31 : decode cX10_byteAt 31 = .ok (.ireturn, 1) := by decide +kernel
theorem dX10_codeOf_0 : decode cX10_codeOf 0 = .ok (.iload_n 0, 1) := by decide +kernel
theorem dX10_codeOf_1 : decode cX10_codeOf 1 = .ok (.tableswitch 137 40 62 #[110, 113, 122, 116, 137, 119, 137, 125, 137, 137, 137, 137, 137, 137, 137, 137, 137, 137, 137, 107, 131, 128, 134], 107) := by decide +kernel
theorem dX10_codeOf_108 : decode cX10_codeOf 108 = .ok (.bipush 21, 2) := by decide +kernel
theorem dX10_codeOf_110 : decode cX10_codeOf 110 = .ok (.ireturn, 1) := by decide +kernel
theorem dX10_codeOf_111 : decode cX10_codeOf 111 = .ok (.bipush 19, 2) := by decide +kernel
theorem dX10_codeOf_113 : decode cX10_codeOf 113 = .ok (.ireturn, 1) := by decide +kernel
theorem dX10_codeOf_114 : decode cX10_codeOf 114 = .ok (.bipush 20, 2) := by decide +kernel
theorem dX10_codeOf_116 : decode cX10_codeOf 116 = .ok (.ireturn, 1) := by decide +kernel
theorem dX10_codeOf_117 : decode cX10_codeOf 117 = .ok (.bipush 15, 2) := by decide +kernel
theorem dX10_codeOf_119 : decode cX10_codeOf 119 = .ok (.ireturn, 1) := by decide +kernel
theorem dX10_codeOf_120 : decode cX10_codeOf 120 = .ok (.bipush 16, 2) := by decide +kernel
theorem dX10_codeOf_122 : decode cX10_codeOf 122 = .ok (.ireturn, 1) := by decide +kernel
theorem dX10_codeOf_123 : decode cX10_codeOf 123 = .ok (.bipush 17, 2) := by decide +kernel
theorem dX10_codeOf_125 : decode cX10_codeOf 125 = .ok (.ireturn, 1) := by decide +kernel
theorem dX10_codeOf_126 : decode cX10_codeOf 126 = .ok (.bipush 18, 2) := by decide +kernel
theorem dX10_codeOf_128 : decode cX10_codeOf 128 = .ok (.ireturn, 1) := by decide +kernel
theorem dX10_codeOf_129 : decode cX10_codeOf 129 = .ok (.bipush 11, 2) := by decide +kernel
theorem dX10_codeOf_131 : decode cX10_codeOf 131 = .ok (.ireturn, 1) := by decide +kernel
theorem dX10_codeOf_132 : decode cX10_codeOf 132 = .ok (.bipush 9, 2) := by decide +kernel
theorem dX10_codeOf_134 : decode cX10_codeOf 134 = .ok (.ireturn, 1) := by decide +kernel
theorem dX10_codeOf_135 : decode cX10_codeOf 135 = .ok (.bipush 14, 2) := by decide +kernel
theorem dX10_codeOf_137 : decode cX10_codeOf 137 = .ok (.ireturn, 1) := by decide +kernel
theorem dX10_codeOf_138 : decode cX10_codeOf 138 = .ok (.iconst (-1), 1) := by decide +kernel
theorem dX10_codeOf_139 : decode cX10_codeOf 139 = .ok (.ireturn, 1) := by decide +kernel
theorem dX10_isDigit_0 : decode cX10_isDigit 0 = .ok (.iload_n 0, 1) := by decide +kernel
theorem dX10_isDigit_1 : decode cX10_isDigit 1 = .ok (.bipush 48, 2) := by decide +kernel
theorem dX10_isDigit_3 : decode cX10_isDigit 3 = .ok (.if_icmp .lt 13, 3) := by decide +kernel
theorem dX10_isDigit_6 : decode cX10_isDigit 6 = .ok (.iload_n 0, 1) := by decide +kernel
theorem dX10_isDigit_7 : decode cX10_isDigit 7 = .ok (.bipush 57, 2) := by decide +kernel
theorem dX10_isDigit_9 : decode cX10_isDigit 9 = .ok (.if_icmp .gt 7, 3) := by decide +kernel
theorem dX10_isDigit_12 : decode cX10_isDigit 12 = .ok (.iconst 1, 1) := by decide +kernel
theorem dX10_isDigit_13 : decode cX10_isDigit 13 = .ok (.goto 4, 3) := by decide +kernel
theorem dX10_isDigit_16 : decode cX10_isDigit 16 = .ok (.iconst 0, 1) := by decide +kernel
theorem dX10_isDigit_17 : decode cX10_isDigit 17 = .ok (.ireturn, 1) := by decide +kernel
theorem dX10_isLetter_0 : decode cX10_isLetter 0 = .ok (.iload_n 0, 1) := by decide +kernel
theorem dX10_isLetter_1 : decode cX10_isLetter 1 = .ok (.bipush 97, 2) := by decide +kernel
theorem dX10_isLetter_3 : decode cX10_isLetter 3 = .ok (.if_icmp .lt 13, 3) := by decide +kernel
theorem dX10_isLetter_6 : decode cX10_isLetter 6 = .ok (.iload_n 0, 1) := by decide +kernel
theorem dX10_isLetter_7 : decode cX10_isLetter 7 = .ok (.bipush 122, 2) := by decide +kernel
theorem dX10_isLetter_9 : decode cX10_isLetter 9 = .ok (.if_icmp .gt 7, 3) := by decide +kernel
theorem dX10_isLetter_12 : decode cX10_isLetter 12 = .ok (.iconst 1, 1) := by decide +kernel
theorem dX10_isLetter_13 : decode cX10_isLetter 13 = .ok (.goto 4, 3) := by decide +kernel
theorem dX10_isLetter_16 : decode cX10_isLetter 16 = .ok (.iconst 0, 1) := by decide +kernel
theorem dX10_isLetter_17 : decode cX10_isLetter 17 = .ok (.ireturn, 1) := by decide +kernel
theorem dX10_isSign_0 : decode cX10_isSign 0 = .ok (.aload_n 0, 1) := by decide +kernel
theorem dX10_isSign_1 : decode cX10_isSign 1 = .ok (.getfield 71, 3) := by decide +kernel
theorem dX10_isSign_4 : decode cX10_isSign 4 = .ok (.iconst 4, 1) := by decide +kernel
theorem dX10_isSign_5 : decode cX10_isSign 5 = .ok (.if_icmp .ne 15, 3) := by decide +kernel
theorem dX10_isSign_8 : decode cX10_isSign 8 = .ok (.aload_n 0, 1) := by decide +kernel
theorem dX10_isSign_9 : decode cX10_isSign 9 = .ok (.getfield 77, 3) := by decide +kernel
theorem dX10_isSign_12 : decode cX10_isSign 12 = .ok (.iload_n 1, 1) := by decide +kernel
theorem dX10_isSign_13 : decode cX10_isSign 13 = .ok (.if_icmp .ne 7, 3) := by decide +kernel
theorem dX10_isSign_16 : decode cX10_isSign 16 = .ok (.iconst 1, 1) := by decide +kernel
theorem dX10_isSign_17 : decode cX10_isSign 17 = .ok (.goto 4, 3) := by decide +kernel
theorem dX10_isSign_20 : decode cX10_isSign 20 = .ok (.iconst 0, 1) := by decide +kernel
theorem dX10_isSign_21 : decode cX10_isSign 21 = .ok (.ireturn, 1) := by decide +kernel
theorem dX10_isWord_0 : decode cX10_isWord 0 = .ok (.aload_n 0, 1) := by decide +kernel
theorem dX10_isWord_1 : decode cX10_isWord 1 = .ok (.getfield 71, 3) := by decide +kernel
theorem dX10_isWord_4 : decode cX10_isWord 4 = .ok (.iconst 3, 1) := by decide +kernel
theorem dX10_isWord_5 : decode cX10_isWord 5 = .ok (.if_icmp .ne 18, 3) := by decide +kernel
theorem dX10_isWord_8 : decode cX10_isWord 8 = .ok (.aload_n 0, 1) := by decide +kernel
theorem dX10_isWord_9 : decode cX10_isWord 9 = .ok (.getfield 77, 3) := by decide +kernel
theorem dX10_isWord_12 : decode cX10_isWord 12 = .ok (.aload_n 1, 1) := by decide +kernel
theorem dX10_isWord_13 : decode cX10_isWord 13 = .ok (.getfield 80, 3) := by decide +kernel
theorem dX10_isWord_16 : decode cX10_isWord 16 = .ok (.if_icmp .ne 7, 3) := by decide +kernel
theorem dX10_isWord_19 : decode cX10_isWord 19 = .ok (.iconst 1, 1) := by decide +kernel
theorem dX10_isWord_20 : decode cX10_isWord 20 = .ok (.goto 4, 3) := by decide +kernel
theorem dX10_isWord_23 : decode cX10_isWord 23 = .ok (.iconst 0, 1) := by decide +kernel
theorem dX10_isWord_24 : decode cX10_isWord 24 = .ok (.ireturn, 1) := by decide +kernel
theorem dX10_put_0 : decode cX10_put 0 = .ok (.aload_n 0, 1) := by decide +kernel
theorem dX10_put_1 : decode cX10_put 1 = .ok (.getfield 41, 3) := by decide +kernel
theorem dX10_put_4 : decode cX10_put 4 = .ok (.ifCond .lt 55, 3) := by decide +kernel
theorem dX10_put_7 : decode cX10_put 7 = .ok (.aload_n 0, 1) := by decide +kernel
theorem dX10_put_8 : decode cX10_put 8 = .ok (.getfield 41, 3) := by decide +kernel
theorem dX10_put_11 : decode cX10_put 11 = .ok (.aload_n 0, 1) := by decide +kernel
theorem dX10_put_12 : decode cX10_put 12 = .ok (.getfield 9, 3) := by decide +kernel
theorem dX10_put_15 : decode cX10_put 15 = .ok (.arraylength, 1) := by decide +kernel
theorem dX10_put_16 : decode cX10_put 16 = .ok (.if_icmp .ge 43, 3) := by decide +kernel
theorem dX10_put_19 : decode cX10_put 19 = .ok (.aload_n 0, 1) := by decide +kernel
theorem dX10_put_20 : decode cX10_put 20 = .ok (.getfield 9, 3) := by decide +kernel
theorem dX10_put_23 : decode cX10_put 23 = .ok (.aload_n 0, 1) := by decide +kernel
theorem dX10_put_24 : decode cX10_put 24 = .ok (.getfield 41, 3) := by decide +kernel
theorem dX10_put_27 : decode cX10_put 27 = .ok (.iload_n 1, 1) := by decide +kernel
theorem dX10_put_28 : decode cX10_put 28 = .ok (.iastore, 1) := by decide +kernel
theorem dX10_put_29 : decode cX10_put 29 = .ok (.aload_n 0, 1) := by decide +kernel
theorem dX10_put_30 : decode cX10_put 30 = .ok (.getfield 15, 3) := by decide +kernel
theorem dX10_put_33 : decode cX10_put 33 = .ok (.aload_n 0, 1) := by decide +kernel
theorem dX10_put_34 : decode cX10_put 34 = .ok (.getfield 41, 3) := by decide +kernel
theorem dX10_put_37 : decode cX10_put 37 = .ok (.iload_n 2, 1) := by decide +kernel
theorem dX10_put_38 : decode cX10_put 38 = .ok (.iastore, 1) := by decide +kernel
theorem dX10_put_39 : decode cX10_put 39 = .ok (.aload_n 0, 1) := by decide +kernel
theorem dX10_put_40 : decode cX10_put 40 = .ok (.getfield 18, 3) := by decide +kernel
theorem dX10_put_43 : decode cX10_put 43 = .ok (.aload_n 0, 1) := by decide +kernel
theorem dX10_put_44 : decode cX10_put 44 = .ok (.getfield 41, 3) := by decide +kernel
theorem dX10_put_47 : decode cX10_put 47 = .ok (.iload_n 3, 1) := by decide +kernel
theorem dX10_put_48 : decode cX10_put 48 = .ok (.iastore, 1) := by decide +kernel
theorem dX10_put_49 : decode cX10_put 49 = .ok (.aload_n 0, 1) := by decide +kernel
theorem dX10_put_50 : decode cX10_put 50 = .ok (.dup, 1) := by decide +kernel
theorem dX10_put_51 : decode cX10_put 51 = .ok (.getfield 41, 3) := by decide +kernel
theorem dX10_put_54 : decode cX10_put 54 = .ok (.iconst 1, 1) := by decide +kernel
theorem dX10_put_55 : decode cX10_put 55 = .ok (.iadd, 1) := by decide +kernel
theorem dX10_put_56 : decode cX10_put 56 = .ok (.putfield 41, 3) := by decide +kernel
theorem dX10_put_59 : decode cX10_put 59 = .ok (.return_, 1) := by decide +kernel
theorem dX10_scanNumber_0 : decode cX10_scanNumber 0 = .ok (.aload_n 0, 1) := by decide +kernel
theorem dX10_scanNumber_1 : decode cX10_scanNumber 1 = .ok (.getfield 38, 3) := by decide +kernel
theorem dX10_scanNumber_4 : decode cX10_scanNumber 4 = .ok (.istore_n 1, 1) := by decide +kernel
theorem dX10_scanNumber_5 : decode cX10_scanNumber 5 = .ok (.iconst 0, 1) := by decide +kernel
theorem dX10_scanNumber_6 : decode cX10_scanNumber 6 = .ok (.istore_n 2, 1) := by decide +kernel
theorem dX10_scanNumber_7 : decode cX10_scanNumber 7 = .ok (.aload_n 0, 1) := by decide +kernel
theorem dX10_scanNumber_8 : decode cX10_scanNumber 8 = .ok (.getfield 38, 3) := by decide +kernel
theorem dX10_scanNumber_11 : decode cX10_scanNumber 11 = .ok (.aload_n 0, 1) := by decide +kernel
theorem dX10_scanNumber_12 : decode cX10_scanNumber 12 = .ok (.getfield 34, 3) := by decide +kernel
theorem dX10_scanNumber_15 : decode cX10_scanNumber 15 = .ok (.if_icmp .ge 52, 3) := by decide +kernel
theorem dX10_scanNumber_18 : decode cX10_scanNumber 18 = .ok (.aload_n 0, 1) := by decide +kernel
theorem dX10_scanNumber_19 : decode cX10_scanNumber 19 = .ok (.aload_n 0, 1) := by decide +kernel
theorem dX10_scanNumber_20 : decode cX10_scanNumber 20 = .ok (.getfield 38, 3) := by decide +kernel
theorem dX10_scanNumber_23 : decode cX10_scanNumber 23 = .ok (.invokevirtual 47, 3) := by decide +kernel
theorem dX10_scanNumber_26 : decode cX10_scanNumber 26 = .ok (.invokestatic 58, 3) := by decide +kernel
theorem dX10_scanNumber_29 : decode cX10_scanNumber 29 = .ok (.ifCond .eq 38, 3) := by decide +kernel
theorem dX10_scanNumber_32 : decode cX10_scanNumber 32 = .ok (.ldc 93, 2) := by decide +kernel
theorem dX10_scanNumber_34 : decode cX10_scanNumber 34 = .ok (.iload_n 2, 1) := by decide +kernel
theorem dX10_scanNumber_35 : decode cX10_scanNumber 35 = .ok (.bipush 10, 2) := by decide +kernel
theorem dX10_scanNumber_37 : decode cX10_scanNumber 37 = .ok (.imul, 1) := by decide +kernel
theorem dX10_scanNumber_38 : decode cX10_scanNumber 38 = .ok (.aload_n 0, 1) := by decide +kernel
theorem dX10_scanNumber_39 : decode cX10_scanNumber 39 = .ok (.aload_n 0, 1) := by decide +kernel
theorem dX10_scanNumber_40 : decode cX10_scanNumber 40 = .ok (.getfield 38, 3) := by decide +kernel
theorem dX10_scanNumber_43 : decode cX10_scanNumber 43 = .ok (.invokevirtual 47, 3) := by decide +kernel
theorem dX10_scanNumber_46 : decode cX10_scanNumber 46 = .ok (.iadd, 1) := by decide +kernel
theorem dX10_scanNumber_47 : decode cX10_scanNumber 47 = .ok (.bipush 48, 2) := by decide +kernel
theorem dX10_scanNumber_49 : decode cX10_scanNumber 49 = .ok (.isub, 1) := by decide +kernel
theorem dX10_scanNumber_50 : decode cX10_scanNumber 50 = .ok (.invokestatic 25, 3) := by decide +kernel
theorem dX10_scanNumber_53 : decode cX10_scanNumber 53 = .ok (.istore_n 2, 1) := by decide +kernel
theorem dX10_scanNumber_54 : decode cX10_scanNumber 54 = .ok (.aload_n 0, 1) := by decide +kernel
theorem dX10_scanNumber_55 : decode cX10_scanNumber 55 = .ok (.dup, 1) := by decide +kernel
theorem dX10_scanNumber_56 : decode cX10_scanNumber 56 = .ok (.getfield 38, 3) := by decide +kernel
theorem dX10_scanNumber_59 : decode cX10_scanNumber 59 = .ok (.iconst 1, 1) := by decide +kernel
theorem dX10_scanNumber_60 : decode cX10_scanNumber 60 = .ok (.iadd, 1) := by decide +kernel
theorem dX10_scanNumber_61 : decode cX10_scanNumber 61 = .ok (.putfield 38, 3) := by decide +kernel
theorem dX10_scanNumber_64 : decode cX10_scanNumber 64 = .ok (.goto (-57), 3) := by decide +kernel
theorem dX10_scanNumber_67 : decode cX10_scanNumber 67 = .ok (.aload_n 0, 1) := by decide +kernel
theorem dX10_scanNumber_68 : decode cX10_scanNumber 68 = .ok (.iconst 1, 1) := by decide +kernel
theorem dX10_scanNumber_69 : decode cX10_scanNumber 69 = .ok (.iload_n 1, 1) := by decide +kernel
theorem dX10_scanNumber_70 : decode cX10_scanNumber 70 = .ok (.iload_n 2, 1) := by decide +kernel
theorem dX10_scanNumber_71 : decode cX10_scanNumber 71 = .ok (.invokevirtual 89, 3) := by decide +kernel
theorem dX10_scanNumber_74 : decode cX10_scanNumber 74 = .ok (.return_, 1) := by decide +kernel
theorem dX10_scanSign_0 : decode cX10_scanSign 0 = .ok (.aload_n 0, 1) := by decide +kernel
theorem dX10_scanSign_1 : decode cX10_scanSign 1 = .ok (.getfield 38, 3) := by decide +kernel
theorem dX10_scanSign_4 : decode cX10_scanSign 4 = .ok (.istore_n 2, 1) := by decide +kernel
theorem dX10_scanSign_5 : decode cX10_scanSign 5 = .ok (.aload_n 0, 1) := by decide +kernel
theorem dX10_scanSign_6 : decode cX10_scanSign 6 = .ok (.dup, 1) := by decide +kernel
theorem dX10_scanSign_7 : decode cX10_scanSign 7 = .ok (.getfield 38, 3) := by decide +kernel
theorem dX10_scanSign_10 : decode cX10_scanSign 10 = .ok (.iconst 1, 1) := by decide +kernel
theorem dX10_scanSign_11 : decode cX10_scanSign 11 = .ok (.iadd, 1) := by decide +kernel
theorem dX10_scanSign_12 : decode cX10_scanSign 12 = .ok (.putfield 38, 3) := by decide +kernel
theorem dX10_scanSign_15 : decode cX10_scanSign 15 = .ok (.iload_n 1, 1) := by decide +kernel
theorem dX10_scanSign_16 : decode cX10_scanSign 16 = .ok (.bipush 10, 2) := by decide +kernel
theorem dX10_scanSign_18 : decode cX10_scanSign 18 = .ok (.if_icmp .eq 9, 3) := by decide +kernel
theorem dX10_scanSign_21 : decode cX10_scanSign 21 = .ok (.iload_n 1, 1) := by decide +kernel
theorem dX10_scanSign_22 : decode cX10_scanSign 22 = .ok (.bipush 32, 2) := by decide +kernel
theorem dX10_scanSign_24 : decode cX10_scanSign 24 = .ok (.if_icmp .ne 4, 3) := by decide +kernel
theorem dX10_scanSign_27 : decode cX10_scanSign 27 = .ok (.return_, 1) := by decide +kernel
theorem dX10_scanSign_28 : decode cX10_scanSign 28 = .ok (.iload_n 1, 1) := by decide +kernel
theorem dX10_scanSign_29 : decode cX10_scanSign 29 = .ok (.invokestatic 94, 3) := by decide +kernel
theorem dX10_scanSign_32 : decode cX10_scanSign 32 = .ok (.istore_n 3, 1) := by decide +kernel
theorem dX10_scanSign_33 : decode cX10_scanSign 33 = .ok (.aload_n 0, 1) := by decide +kernel
theorem dX10_scanSign_34 : decode cX10_scanSign 34 = .ok (.aload_n 0, 1) := by decide +kernel
theorem dX10_scanSign_35 : decode cX10_scanSign 35 = .ok (.getfield 38, 3) := by decide +kernel
theorem dX10_scanSign_38 : decode cX10_scanSign 38 = .ok (.invokevirtual 47, 3) := by decide +kernel
theorem dX10_scanSign_41 : decode cX10_scanSign 41 = .ok (.istore 4, 2) := by decide +kernel
theorem dX10_scanSign_43 : decode cX10_scanSign 43 = .ok (.iload_n 1, 1) := by decide +kernel
theorem dX10_scanSign_44 : decode cX10_scanSign 44 = .ok (.bipush 60, 2) := by decide +kernel
theorem dX10_scanSign_46 : decode cX10_scanSign 46 = .ok (.if_icmp .ne 26, 3) := by decide +kernel
theorem dX10_scanSign_49 : decode cX10_scanSign 49 = .ok (.iload 4, 2) := by decide +kernel
theorem dX10_scanSign_51 : decode cX10_scanSign 51 = .ok (.bipush 61, 2) := by decide +kernel
theorem dX10_scanSign_53 : decode cX10_scanSign 53 = .ok (.if_icmp .ne 19, 3) := by decide +kernel
theorem dX10_scanSign_56 : decode cX10_scanSign 56 = .ok (.bipush 10, 2) := by decide +kernel
theorem dX10_scanSign_58 : decode cX10_scanSign 58 = .ok (.istore_n 3, 1) := by decide +kernel
theorem dX10_scanSign_59 : decode cX10_scanSign 59 = .ok (.aload_n 0, 1) := by decide +kernel
theorem dX10_scanSign_60 : decode cX10_scanSign 60 = .ok (.dup, 1) := by decide +kernel
theorem dX10_scanSign_61 : decode cX10_scanSign 61 = .ok (.getfield 38, 3) := by decide +kernel
theorem dX10_scanSign_64 : decode cX10_scanSign 64 = .ok (.iconst 1, 1) := by decide +kernel
theorem dX10_scanSign_65 : decode cX10_scanSign 65 = .ok (.iadd, 1) := by decide +kernel
theorem dX10_scanSign_66 : decode cX10_scanSign 66 = .ok (.putfield 38, 3) := by decide +kernel
theorem dX10_scanSign_69 : decode cX10_scanSign 69 = .ok (.goto 58, 3) := by decide +kernel
theorem dX10_scanSign_72 : decode cX10_scanSign 72 = .ok (.iload_n 1, 1) := by decide +kernel
theorem dX10_scanSign_73 : decode cX10_scanSign 73 = .ok (.bipush 60, 2) := by decide +kernel
theorem dX10_scanSign_75 : decode cX10_scanSign 75 = .ok (.if_icmp .ne 26, 3) := by decide +kernel
theorem dX10_scanSign_78 : decode cX10_scanSign 78 = .ok (.iload 4, 2) := by decide +kernel
theorem dX10_scanSign_80 : decode cX10_scanSign 80 = .ok (.bipush 62, 2) := by decide +kernel
theorem dX10_scanSign_82 : decode cX10_scanSign 82 = .ok (.if_icmp .ne 19, 3) := by decide +kernel
theorem dX10_scanSign_85 : decode cX10_scanSign 85 = .ok (.bipush 12, 2) := by decide +kernel
theorem dX10_scanSign_87 : decode cX10_scanSign 87 = .ok (.istore_n 3, 1) := by decide +kernel
theorem dX10_scanSign_88 : decode cX10_scanSign 88 = .ok (.aload_n 0, 1) := by decide +kernel
theorem dX10_scanSign_89 : decode cX10_scanSign 89 = .ok (.dup, 1) := by decide +kernel
theorem dX10_scanSign_90 : decode cX10_scanSign 90 = .ok (.getfield 38, 3) := by decide +kernel
theorem dX10_scanSign_93 : decode cX10_scanSign 93 = .ok (.iconst 1, 1) := by decide +kernel
theorem dX10_scanSign_94 : decode cX10_scanSign 94 = .ok (.iadd, 1) := by decide +kernel
theorem dX10_scanSign_95 : decode cX10_scanSign 95 = .ok (.putfield 38, 3) := by decide +kernel
theorem dX10_scanSign_98 : decode cX10_scanSign 98 = .ok (.goto 29, 3) := by decide +kernel
theorem dX10_scanSign_101 : decode cX10_scanSign 101 = .ok (.iload_n 1, 1) := by decide +kernel
theorem dX10_scanSign_102 : decode cX10_scanSign 102 = .ok (.bipush 62, 2) := by decide +kernel
theorem dX10_scanSign_104 : decode cX10_scanSign 104 = .ok (.if_icmp .ne 23, 3) := by decide +kernel
theorem dX10_scanSign_107 : decode cX10_scanSign 107 = .ok (.iload 4, 2) := by decide +kernel
theorem dX10_scanSign_109 : decode cX10_scanSign 109 = .ok (.bipush 61, 2) := by decide +kernel
theorem dX10_scanSign_111 : decode cX10_scanSign 111 = .ok (.if_icmp .ne 16, 3) := by decide +kernel
theorem dX10_scanSign_114 : decode cX10_scanSign 114 = .ok (.bipush 13, 2) := by decide +kernel
theorem dX10_scanSign_116 : decode cX10_scanSign 116 = .ok (.istore_n 3, 1) := by decide +kernel
theorem dX10_scanSign_117 : decode cX10_scanSign 117 = .ok (.aload_n 0, 1) := by decide +kernel
theorem dX10_scanSign_118 : decode cX10_scanSign 118 = .ok (.dup, 1) := by decide +kernel
theorem dX10_scanSign_119 : decode cX10_scanSign 119 = .ok (.getfield 38, 3) := by decide +kernel
theorem dX10_scanSign_122 : decode cX10_scanSign 122 = .ok (.iconst 1, 1) := by decide +kernel
theorem dX10_scanSign_123 : decode cX10_scanSign 123 = .ok (.iadd, 1) := by decide +kernel
theorem dX10_scanSign_124 : decode cX10_scanSign 124 = .ok (.putfield 38, 3) := by decide +kernel
theorem dX10_scanSign_127 : decode cX10_scanSign 127 = .ok (.aload_n 0, 1) := by decide +kernel
theorem dX10_scanSign_128 : decode cX10_scanSign 128 = .ok (.iload_n 3, 1) := by decide +kernel
theorem dX10_scanSign_129 : decode cX10_scanSign 129 = .ok (.iconst (-1), 1) := by decide +kernel
theorem dX10_scanSign_130 : decode cX10_scanSign 130 = .ok (.if_icmp .ne 7, 3) := by decide +kernel
theorem dX10_scanSign_133 : decode cX10_scanSign 133 = .ok (.iconst 5, 1) := by decide +kernel
theorem dX10_scanSign_134 : decode cX10_scanSign 134 = .ok (.goto 4, 3) := by decide +kernel
theorem dX10_scanSign_137 : decode cX10_scanSign 137 = .ok (.iconst 4, 1) := by decide +kernel
theorem dX10_scanSign_138 : decode cX10_scanSign 138 = .ok (.iload_n 2, 1) := by decide +kernel
theorem dX10_scanSign_139 : decode cX10_scanSign 139 = .ok (.iload_n 3, 1) := by decide +kernel
theorem dX10_scanSign_140 : decode cX10_scanSign 140 = .ok (.invokevirtual 89, 3) := by decide +kernel
theorem dX10_scanSign_143 : decode cX10_scanSign 143 = .ok (.return_, 1) := by decide +kernel
theorem dX10_scanWord_0 : decode cX10_scanWord 0 = .ok (.aload_n 0, 1) := by decide +kernel
theorem dX10_scanWord_1 : decode cX10_scanWord 1 = .ok (.getfield 38, 3) := by decide +kernel
theorem dX10_scanWord_4 : decode cX10_scanWord 4 = .ok (.istore_n 1, 1) := by decide +kernel
theorem dX10_scanWord_5 : decode cX10_scanWord 5 = .ok (.iconst 0, 1) := by decide +kernel
theorem dX10_scanWord_6 : decode cX10_scanWord 6 = .ok (.istore_n 2, 1) := by decide +kernel
theorem dX10_scanWord_7 : decode cX10_scanWord 7 = .ok (.aload_n 0, 1) := by decide +kernel
theorem dX10_scanWord_8 : decode cX10_scanWord 8 = .ok (.getfield 38, 3) := by decide +kernel
theorem dX10_scanWord_11 : decode cX10_scanWord 11 = .ok (.aload_n 0, 1) := by decide +kernel
theorem dX10_scanWord_12 : decode cX10_scanWord 12 = .ok (.getfield 34, 3) := by decide +kernel
theorem dX10_scanWord_15 : decode cX10_scanWord 15 = .ok (.if_icmp .ge 59, 3) := by decide +kernel
theorem dX10_scanWord_18 : decode cX10_scanWord 18 = .ok (.aload_n 0, 1) := by decide +kernel
theorem dX10_scanWord_19 : decode cX10_scanWord 19 = .ok (.aload_n 0, 1) := by decide +kernel
theorem dX10_scanWord_20 : decode cX10_scanWord 20 = .ok (.getfield 38, 3) := by decide +kernel
theorem dX10_scanWord_23 : decode cX10_scanWord 23 = .ok (.invokevirtual 47, 3) := by decide +kernel
theorem dX10_scanWord_26 : decode cX10_scanWord 26 = .ok (.invokestatic 51, 3) := by decide +kernel
theorem dX10_scanWord_29 : decode cX10_scanWord 29 = .ok (.ifCond .eq 45, 3) := by decide +kernel
theorem dX10_scanWord_32 : decode cX10_scanWord 32 = .ok (.aload_n 0, 1) := by decide +kernel
theorem dX10_scanWord_33 : decode cX10_scanWord 33 = .ok (.getfield 38, 3) := by decide +kernel
theorem dX10_scanWord_36 : decode cX10_scanWord 36 = .ok (.iload_n 1, 1) := by decide +kernel
theorem dX10_scanWord_37 : decode cX10_scanWord 37 = .ok (.isub, 1) := by decide +kernel
theorem dX10_scanWord_38 : decode cX10_scanWord 38 = .ok (.bipush 6, 2) := by decide +kernel
theorem dX10_scanWord_40 : decode cX10_scanWord 40 = .ok (.if_icmp .ge 21, 3) := by decide +kernel
theorem dX10_scanWord_43 : decode cX10_scanWord 43 = .ok (.iload_n 2, 1) := by decide +kernel
theorem dX10_scanWord_44 : decode cX10_scanWord 44 = .ok (.iconst 5, 1) := by decide +kernel
theorem dX10_scanWord_45 : decode cX10_scanWord 45 = .ok (.ishl, 1) := by decide +kernel
theorem dX10_scanWord_46 : decode cX10_scanWord 46 = .ok (.aload_n 0, 1) := by decide +kernel
theorem dX10_scanWord_47 : decode cX10_scanWord 47 = .ok (.aload_n 0, 1) := by decide +kernel
theorem dX10_scanWord_48 : decode cX10_scanWord 48 = .ok (.getfield 38, 3) := by decide +kernel
theorem dX10_scanWord_51 : decode cX10_scanWord 51 = .ok (.invokevirtual 47, 3) := by decide +kernel
theorem dX10_scanWord_54 : decode cX10_scanWord 54 = .ok (.bipush 97, 2) := by decide +kernel
theorem dX10_scanWord_56 : decode cX10_scanWord 56 = .ok (.isub, 1) := by decide +kernel
theorem dX10_scanWord_57 : decode cX10_scanWord 57 = .ok (.iconst 1, 1) := by decide +kernel
theorem dX10_scanWord_58 : decode cX10_scanWord 58 = .ok (.iadd, 1) := by decide +kernel
theorem dX10_scanWord_59 : decode cX10_scanWord 59 = .ok (.ior, 1) := by decide +kernel
theorem dX10_scanWord_60 : decode cX10_scanWord 60 = .ok (.istore_n 2, 1) := by decide +kernel
theorem dX10_scanWord_61 : decode cX10_scanWord 61 = .ok (.aload_n 0, 1) := by decide +kernel
theorem dX10_scanWord_62 : decode cX10_scanWord 62 = .ok (.dup, 1) := by decide +kernel
theorem dX10_scanWord_63 : decode cX10_scanWord 63 = .ok (.getfield 38, 3) := by decide +kernel
theorem dX10_scanWord_66 : decode cX10_scanWord 66 = .ok (.iconst 1, 1) := by decide +kernel
theorem dX10_scanWord_67 : decode cX10_scanWord 67 = .ok (.iadd, 1) := by decide +kernel
theorem dX10_scanWord_68 : decode cX10_scanWord 68 = .ok (.putfield 38, 3) := by decide +kernel
theorem dX10_scanWord_71 : decode cX10_scanWord 71 = .ok (.goto (-64), 3) := by decide +kernel
theorem dX10_scanWord_74 : decode cX10_scanWord 74 = .ok (.aload_n 0, 1) := by decide +kernel
theorem dX10_scanWord_75 : decode cX10_scanWord 75 = .ok (.getfield 38, 3) := by decide +kernel
theorem dX10_scanWord_78 : decode cX10_scanWord 78 = .ok (.iload_n 1, 1) := by decide +kernel
theorem dX10_scanWord_79 : decode cX10_scanWord 79 = .ok (.isub, 1) := by decide +kernel
theorem dX10_scanWord_80 : decode cX10_scanWord 80 = .ok (.istore_n 3, 1) := by decide +kernel
theorem dX10_scanWord_81 : decode cX10_scanWord 81 = .ok (.iload_n 3, 1) := by decide +kernel
theorem dX10_scanWord_82 : decode cX10_scanWord 82 = .ok (.bipush 6, 2) := by decide +kernel
theorem dX10_scanWord_84 : decode cX10_scanWord 84 = .ok (.if_icmp .ge 13, 3) := by decide +kernel
theorem dX10_scanWord_87 : decode cX10_scanWord 87 = .ok (.iload_n 2, 1) := by decide +kernel
theorem dX10_scanWord_88 : decode cX10_scanWord 88 = .ok (.iconst 5, 1) := by decide +kernel
theorem dX10_scanWord_89 : decode cX10_scanWord 89 = .ok (.ishl, 1) := by decide +kernel
theorem dX10_scanWord_90 : decode cX10_scanWord 90 = .ok (.istore_n 2, 1) := by decide +kernel
theorem dX10_scanWord_91 : decode cX10_scanWord 91 = .ok (.iinc 3 1, 3) := by decide +kernel
theorem dX10_scanWord_94 : decode cX10_scanWord 94 = .ok (.goto (-13), 3) := by decide +kernel
theorem dX10_scanWord_97 : decode cX10_scanWord 97 = .ok (.iload_n 2, 1) := by decide +kernel
theorem dX10_scanWord_98 : decode cX10_scanWord 98 = .ok (.invokestatic 85, 3) := by decide +kernel
theorem dX10_scanWord_101 : decode cX10_scanWord 101 = .ok (.ifnonnull 7, 3) := by decide +kernel
theorem dX10_scanWord_104 : decode cX10_scanWord 104 = .ok (.iconst 2, 1) := by decide +kernel
theorem dX10_scanWord_105 : decode cX10_scanWord 105 = .ok (.goto 4, 3) := by decide +kernel
theorem dX10_scanWord_108 : decode cX10_scanWord 108 = .ok (.iconst 3, 1) := by decide +kernel
theorem dX10_scanWord_109 : decode cX10_scanWord 109 = .ok (.istore_n 3, 1) := by decide +kernel
theorem dX10_scanWord_110 : decode cX10_scanWord 110 = .ok (.aload_n 0, 1) := by decide +kernel
theorem dX10_scanWord_111 : decode cX10_scanWord 111 = .ok (.aload_n 0, 1) := by decide +kernel
theorem dX10_scanWord_112 : decode cX10_scanWord 112 = .ok (.getfield 38, 3) := by decide +kernel
theorem dX10_scanWord_115 : decode cX10_scanWord 115 = .ok (.iload_n 1, 1) := by decide +kernel
theorem dX10_scanWord_116 : decode cX10_scanWord 116 = .ok (.isub, 1) := by decide +kernel
theorem dX10_scanWord_117 : decode cX10_scanWord 117 = .ok (.bipush 6, 2) := by decide +kernel
theorem dX10_scanWord_119 : decode cX10_scanWord 119 = .ok (.if_icmp .le 7, 3) := by decide +kernel
theorem dX10_scanWord_122 : decode cX10_scanWord 122 = .ok (.iconst 5, 1) := by decide +kernel
theorem dX10_scanWord_123 : decode cX10_scanWord 123 = .ok (.goto 4, 3) := by decide +kernel
theorem dX10_scanWord_126 : decode cX10_scanWord 126 = .ok (.iload_n 3, 1) := by decide +kernel
theorem dX10_scanWord_127 : decode cX10_scanWord 127 = .ok (.iload_n 1, 1) := by decide +kernel
theorem dX10_scanWord_128 : decode cX10_scanWord 128 = .ok (.iload_n 2, 1) := by decide +kernel
theorem dX10_scanWord_129 : decode cX10_scanWord 129 = .ok (.invokevirtual 89, 3) := by decide +kernel
theorem dX10_scanWord_132 : decode cX10_scanWord 132 = .ok (.return_, 1) := by decide +kernel
theorem dX10_scan_0 : decode cX10_scan 0 = .ok (.aload_n 0, 1) := by decide +kernel
theorem dX10_scan_1 : decode cX10_scan 1 = .ok (.iconst 0, 1) := by decide +kernel
theorem dX10_scan_2 : decode cX10_scan 2 = .ok (.iload_n 1, 1) := by decide +kernel
theorem dX10_scan_3 : decode cX10_scan 3 = .ok (.aload_n 0, 1) := by decide +kernel
theorem dX10_scan_4 : decode cX10_scan 4 = .ok (.getfield 21, 3) := by decide +kernel
theorem dX10_scan_7 : decode cX10_scan 7 = .ok (.arraylength, 1) := by decide +kernel
theorem dX10_scan_8 : decode cX10_scan 8 = .ok (.invokestatic 25, 3) := by decide +kernel
theorem dX10_scan_11 : decode cX10_scan 11 = .ok (.invokestatic 31, 3) := by decide +kernel
theorem dX10_scan_14 : decode cX10_scan 14 = .ok (.putfield 34, 3) := by decide +kernel
theorem dX10_scan_17 : decode cX10_scan 17 = .ok (.aload_n 0, 1) := by decide +kernel
theorem dX10_scan_18 : decode cX10_scan 18 = .ok (.iconst 0, 1) := by decide +kernel
theorem dX10_scan_19 : decode cX10_scan 19 = .ok (.putfield 38, 3) := by decide +kernel
theorem dX10_scan_22 : decode cX10_scan 22 = .ok (.aload_n 0, 1) := by decide +kernel
theorem dX10_scan_23 : decode cX10_scan 23 = .ok (.iconst 0, 1) := by decide +kernel
theorem dX10_scan_24 : decode cX10_scan 24 = .ok (.putfield 41, 3) := by decide +kernel
theorem dX10_scan_27 : decode cX10_scan 27 = .ok (.aload_n 0, 1) := by decide +kernel
theorem dX10_scan_28 : decode cX10_scan 28 = .ok (.iconst (-1), 1) := by decide +kernel
theorem dX10_scan_29 : decode cX10_scan 29 = .ok (.putfield 44, 3) := by decide +kernel
theorem dX10_scan_32 : decode cX10_scan 32 = .ok (.aload_n 0, 1) := by decide +kernel
theorem dX10_scan_33 : decode cX10_scan 33 = .ok (.getfield 34, 3) := by decide +kernel
theorem dX10_scan_36 : decode cX10_scan 36 = .ok (.istore_n 2, 1) := by decide +kernel
theorem dX10_scan_37 : decode cX10_scan 37 = .ok (.iload_n 2, 1) := by decide +kernel
theorem dX10_scan_38 : decode cX10_scan 38 = .ok (.ifCond .le 62, 3) := by decide +kernel
theorem dX10_scan_41 : decode cX10_scan 41 = .ok (.aload_n 0, 1) := by decide +kernel
theorem dX10_scan_42 : decode cX10_scan 42 = .ok (.getfield 38, 3) := by decide +kernel
theorem dX10_scan_45 : decode cX10_scan 45 = .ok (.aload_n 0, 1) := by decide +kernel
theorem dX10_scan_46 : decode cX10_scan 46 = .ok (.getfield 34, 3) := by decide +kernel
theorem dX10_scan_49 : decode cX10_scan 49 = .ok (.if_icmp .ge 51, 3) := by decide +kernel
theorem dX10_scan_52 : decode cX10_scan 52 = .ok (.aload_n 0, 1) := by decide +kernel
theorem dX10_scan_53 : decode cX10_scan 53 = .ok (.aload_n 0, 1) := by decide +kernel
theorem dX10_scan_54 : decode cX10_scan 54 = .ok (.getfield 38, 3) := by decide +kernel
theorem dX10_scan_57 : decode cX10_scan 57 = .ok (.invokevirtual 47, 3) := by decide +kernel
theorem dX10_scan_60 : decode cX10_scan 60 = .ok (.istore_n 3, 1) := by decide +kernel
theorem dX10_scan_61 : decode cX10_scan 61 = .ok (.iload_n 3, 1) := by decide +kernel
theorem dX10_scan_62 : decode cX10_scan 62 = .ok (.invokestatic 51, 3) := by decide +kernel
theorem dX10_scan_65 : decode cX10_scan 65 = .ok (.ifCond .eq 10, 3) := by decide +kernel
theorem dX10_scan_68 : decode cX10_scan 68 = .ok (.aload_n 0, 1) := by decide +kernel
theorem dX10_scan_69 : decode cX10_scan 69 = .ok (.invokevirtual 55, 3) := by decide +kernel
theorem dX10_scan_72 : decode cX10_scan 72 = .ok (.goto 22, 3) := by decide +kernel
theorem dX10_scan_75 : decode cX10_scan 75 = .ok (.iload_n 3, 1) := by decide +kernel
theorem dX10_scan_76 : decode cX10_scan 76 = .ok (.invokestatic 58, 3) := by decide +kernel
theorem dX10_scan_79 : decode cX10_scan 79 = .ok (.ifCond .eq 10, 3) := by decide +kernel
theorem dX10_scan_82 : decode cX10_scan 82 = .ok (.aload_n 0, 1) := by decide +kernel
theorem dX10_scan_83 : decode cX10_scan 83 = .ok (.invokevirtual 61, 3) := by decide +kernel
theorem dX10_scan_86 : decode cX10_scan 86 = .ok (.goto 8, 3) := by decide +kernel
theorem dX10_scan_89 : decode cX10_scan 89 = .ok (.aload_n 0, 1) := by decide +kernel
theorem dX10_scan_90 : decode cX10_scan 90 = .ok (.iload_n 3, 1) := by decide +kernel
theorem dX10_scan_91 : decode cX10_scan 91 = .ok (.invokevirtual 64, 3) := by decide +kernel
theorem dX10_scan_94 : decode cX10_scan 94 = .ok (.iinc 2 (-1), 3) := by decide +kernel
theorem dX10_scan_97 : decode cX10_scan 97 = .ok (.goto (-60), 3) := by decide +kernel
theorem dX10_scan_100 : decode cX10_scan 100 = .ok (.aload_n 0, 1) := by decide +kernel
theorem dX10_scan_101 : decode cX10_scan 101 = .ok (.invokevirtual 68, 3) := by decide +kernel
theorem dX10_scan_104 : decode cX10_scan 104 = .ok (.return_, 1) := by decide +kernel
theorem dX11_remember_0 : decode cX11_remember 0 = .ok (.aload_n 0, 1) := by decide +kernel
theorem dX11_remember_1 : decode cX11_remember 1 = .ok (.getfield 51, 3) := by decide +kernel
theorem dX11_remember_4 : decode cX11_remember 4 = .ok (.bipush 20, 2) := by decide +kernel
theorem dX11_remember_6 : decode cX11_remember 6 = .ok (.if_icmp .lt 37, 3) := by decide +kernel
theorem dX11_remember_9 : decode cX11_remember 9 = .ok (.iconst 1, 1) := by decide +kernel
theorem dX11_remember_10 : decode cX11_remember 10 = .ok (.istore_n 2, 1) := by decide +kernel
theorem dX11_remember_11 : decode cX11_remember 11 = .ok (.iload_n 2, 1) := by decide +kernel
theorem dX11_remember_12 : decode cX11_remember 12 = .ok (.bipush 20, 2) := by decide +kernel
theorem dX11_remember_14 : decode cX11_remember 14 = .ok (.if_icmp .ge 23, 3) := by decide +kernel
theorem dX11_remember_17 : decode cX11_remember 17 = .ok (.aload_n 0, 1) := by decide +kernel
theorem dX11_remember_18 : decode cX11_remember 18 = .ok (.getfield 23, 3) := by decide +kernel
theorem dX11_remember_21 : decode cX11_remember 21 = .ok (.iload_n 2, 1) := by decide +kernel
theorem dX11_remember_22 : decode cX11_remember 22 = .ok (.iconst 1, 1) := by decide +kernel
theorem dX11_remember_23 : decode cX11_remember 23 = .ok (.isub, 1) := by decide +kernel
theorem dX11_remember_24 : decode cX11_remember 24 = .ok (.aload_n 0, 1) := by decide +kernel
theorem dX11_remember_25 : decode cX11_remember 25 = .ok (.getfield 23, 3) := by decide +kernel
theorem dX11_remember_28 : decode cX11_remember 28 = .ok (.iload_n 2, 1) := by decide +kernel
theorem dX11_remember_29 : decode cX11_remember 29 = .ok (.iaload, 1) := by decide +kernel
theorem dX11_remember_30 : decode cX11_remember 30 = .ok (.iastore, 1) := by decide +kernel
theorem dX11_remember_31 : decode cX11_remember 31 = .ok (.iinc 2 1, 3) := by decide +kernel
theorem dX11_remember_34 : decode cX11_remember 34 = .ok (.goto (-23), 3) := by decide +kernel
theorem dX11_remember_37 : decode cX11_remember 37 = .ok (.aload_n 0, 1) := by decide +kernel
theorem dX11_remember_38 : decode cX11_remember 38 = .ok (.bipush 19, 2) := by decide +kernel
theorem dX11_remember_40 : decode cX11_remember 40 = .ok (.putfield 51, 3) := by decide +kernel
theorem dX11_remember_43 : decode cX11_remember 43 = .ok (.aload_n 0, 1) := by decide +kernel
theorem dX11_remember_44 : decode cX11_remember 44 = .ok (.getfield 23, 3) := by decide +kernel
theorem dX11_remember_47 : decode cX11_remember 47 = .ok (.aload_n 0, 1) := by decide +kernel
theorem dX11_remember_48 : decode cX11_remember 48 = .ok (.getfield 51, 3) := by decide +kernel
theorem dX11_remember_51 : decode cX11_remember 51 = .ok (.iload_n 1, 1) := by decide +kernel
theorem dX11_remember_52 : decode cX11_remember 52 = .ok (.iastore, 1) := by decide +kernel
theorem dX11_remember_53 : decode cX11_remember 53 = .ok (.aload_n 0, 1) := by decide +kernel
theorem dX11_remember_54 : decode cX11_remember 54 = .ok (.dup, 1) := by decide +kernel
theorem dX11_remember_55 : decode cX11_remember 55 = .ok (.getfield 51, 3) := by decide +kernel
theorem dX11_remember_58 : decode cX11_remember 58 = .ok (.iconst 1, 1) := by decide +kernel
theorem dX11_remember_59 : decode cX11_remember 59 = .ok (.iadd, 1) := by decide +kernel
theorem dX11_remember_60 : decode cX11_remember 60 = .ok (.putfield 51, 3) := by decide +kernel
theorem dX11_remember_63 : decode cX11_remember 63 = .ok (.return_, 1) := by decide +kernel
theorem dX11_addDrop_0 : decode cX11_addDrop 0 = .ok (.aload_n 0, 1) := by decide +kernel
theorem dX11_addDrop_1 : decode cX11_addDrop 1 = .ok (.getfield 14, 3) := by decide +kernel
theorem dX11_addDrop_4 : decode cX11_addDrop 4 = .ok (.iload_n 1, 1) := by decide +kernel
theorem dX11_addDrop_5 : decode cX11_addDrop 5 = .ok (.iload_n 2, 1) := by decide +kernel
theorem dX11_addDrop_6 : decode cX11_addDrop 6 = .ok (.iload_n 3, 1) := by decide +kernel
theorem dX11_addDrop_7 : decode cX11_addDrop 7 = .ok (.invokevirtual 61, 3) := by decide +kernel
theorem dX11_addDrop_10 : decode cX11_addDrop 10 = .ok (.aload_n 0, 1) := by decide +kernel
theorem dX11_addDrop_11 : decode cX11_addDrop 11 = .ok (.iconst (-1), 1) := by decide +kernel
theorem dX11_addDrop_12 : decode cX11_addDrop 12 = .ok (.invokevirtual 65, 3) := by decide +kernel
theorem dX11_addDrop_15 : decode cX11_addDrop 15 = .ok (.aload_n 0, 1) := by decide +kernel
theorem dX11_addDrop_16 : decode cX11_addDrop 16 = .ok (.iconst 1, 1) := by decide +kernel
theorem dX11_addDrop_17 : decode cX11_addDrop 17 = .ok (.putfield 58, 3) := by decide +kernel
theorem dX11_addDrop_20 : decode cX11_addDrop 20 = .ok (.aload_n 0, 1) := by decide +kernel
theorem dX11_addDrop_21 : decode cX11_addDrop 21 = .ok (.getfield 14, 3) := by decide +kernel
theorem dX11_addDrop_24 : decode cX11_addDrop 24 = .ok (.getfield 68, 3) := by decide +kernel
theorem dX11_addDrop_27 : decode cX11_addDrop 27 = .ok (.iconst 1, 1) := by decide +kernel
theorem dX11_addDrop_28 : decode cX11_addDrop 28 = .ok (.isub, 1) := by decide +kernel
theorem dX11_addDrop_29 : decode cX11_addDrop 29 = .ok (.ireturn, 1) := by decide +kernel
theorem dX11_begin_0 : decode cX11_begin 0 = .ok (.aload_n 0, 1) := by decide +kernel
theorem dX11_begin_1 : decode cX11_begin 1 = .ok (.aload_n 1, 1) := by decide +kernel
theorem dX11_begin_2 : decode cX11_begin 2 = .ok (.putfield 31, 3) := by decide +kernel
theorem dX11_begin_5 : decode cX11_begin 5 = .ok (.aload_n 0, 1) := by decide +kernel
theorem dX11_begin_6 : decode cX11_begin 6 = .ok (.aload_n 1, 1) := by decide +kernel
theorem dX11_begin_7 : decode cX11_begin 7 = .ok (.getfield 35, 3) := by decide +kernel
theorem dX11_begin_10 : decode cX11_begin 10 = .ok (.putfield 41, 3) := by decide +kernel
theorem dX11_begin_13 : decode cX11_begin 13 = .ok (.aload_n 0, 1) := by decide +kernel
theorem dX11_begin_14 : decode cX11_begin 14 = .ok (.getfield 14, 3) := by decide +kernel
theorem dX11_begin_17 : decode cX11_begin 17 = .ok (.aload_n 1, 1) := by decide +kernel
theorem dX11_begin_18 : decode cX11_begin 18 = .ok (.getfield 42, 3) := by decide +kernel
theorem dX11_begin_21 : decode cX11_begin 21 = .ok (.invokevirtual 43, 3) := by decide +kernel
theorem dX11_begin_24 : decode cX11_begin 24 = .ok (.aload_n 0, 1) := by decide +kernel
theorem dX11_begin_25 : decode cX11_begin 25 = .ok (.iconst 0, 1) := by decide +kernel
theorem dX11_begin_26 : decode cX11_begin 26 = .ok (.putfield 47, 3) := by decide +kernel
theorem dX11_begin_29 : decode cX11_begin 29 = .ok (.aload_n 0, 1) := by decide +kernel
theorem dX11_begin_30 : decode cX11_begin 30 = .ok (.iconst 0, 1) := by decide +kernel
theorem dX11_begin_31 : decode cX11_begin 31 = .ok (.putfield 51, 3) := by decide +kernel
theorem dX11_begin_34 : decode cX11_begin 34 = .ok (.aload_n 0, 1) := by decide +kernel
theorem dX11_begin_35 : decode cX11_begin 35 = .ok (.iconst 1, 1) := by decide +kernel
theorem dX11_begin_36 : decode cX11_begin 36 = .ok (.putfield 55, 3) := by decide +kernel
theorem dX11_begin_39 : decode cX11_begin 39 = .ok (.aload_n 0, 1) := by decide +kernel
theorem dX11_begin_40 : decode cX11_begin 40 = .ok (.iconst 1, 1) := by decide +kernel
theorem dX11_begin_41 : decode cX11_begin 41 = .ok (.putfield 58, 3) := by decide +kernel
theorem dX11_begin_44 : decode cX11_begin 44 = .ok (.return_, 1) := by decide +kernel
theorem dX11_changeReeds_0 : decode cX11_changeReeds 0 = .ok (.aload_n 0, 1) := by decide +kernel
theorem dX11_changeReeds_1 : decode cX11_changeReeds 1 = .ok (.lload_n 1, 1) := by decide +kernel
theorem dX11_changeReeds_2 : decode cX11_changeReeds 2 = .ok (.putfield 41, 3) := by decide +kernel
theorem dX11_changeReeds_5 : decode cX11_changeReeds 5 = .ok (.aload_n 0, 1) := by decide +kernel
theorem dX11_changeReeds_6 : decode cX11_changeReeds 6 = .ok (.iconst 1, 1) := by decide +kernel
theorem dX11_changeReeds_7 : decode cX11_changeReeds 7 = .ok (.putfield 55, 3) := by decide +kernel
theorem dX11_changeReeds_10 : decode cX11_changeReeds 10 = .ok (.aload_n 0, 1) := by decide +kernel
theorem dX11_changeReeds_11 : decode cX11_changeReeds 11 = .ok (.iconst 1, 1) := by decide +kernel
theorem dX11_changeReeds_12 : decode cX11_changeReeds 12 = .ok (.putfield 58, 3) := by decide +kernel
theorem dX11_changeReeds_15 : decode cX11_changeReeds 15 = .ok (.return_, 1) := by decide +kernel
theorem dX11_cutReeds_0 : decode cX11_cutReeds 0 = .ok (.aload_n 0, 1) := by decide +kernel
theorem dX11_cutReeds_1 : decode cX11_cutReeds 1 = .ok (.aload_n 0, 1) := by decide +kernel
theorem dX11_cutReeds_2 : decode cX11_cutReeds 2 = .ok (.getfield 41, 3) := by decide +kernel
theorem dX11_cutReeds_5 : decode cX11_cutReeds 5 = .ok (.lconst 1, 1) := by decide +kernel
theorem dX11_cutReeds_6 : decode cX11_cutReeds 6 = .ok (.iload_n 1, 1) := by decide +kernel
theorem dX11_cutReeds_7 : decode cX11_cutReeds 7 = .ok (.lshl, 1) := by decide +kernel
theorem dX11_cutReeds_8 : decode cX11_cutReeds 8 = .ok (.ldc2_w 71, 3) := by decide +kernel
theorem dX11_cutReeds_11 : decode cX11_cutReeds 11 = .ok (.lxor, 1) := by decide +kernel
theorem dX11_cutReeds_12 : decode cX11_cutReeds 12 = .ok (.land, 1) := by decide +kernel
theorem dX11_cutReeds_13 : decode cX11_cutReeds 13 = .ok (.invokevirtual 73, 3) := by decide +kernel
theorem dX11_cutReeds_16 : decode cX11_cutReeds 16 = .ok (.aload_n 0, 1) := by decide +kernel
theorem dX11_cutReeds_17 : decode cX11_cutReeds 17 = .ok (.iload_n 1, 1) := by decide +kernel
theorem dX11_cutReeds_18 : decode cX11_cutReeds 18 = .ok (.invokevirtual 65, 3) := by decide +kernel
theorem dX11_cutReeds_21 : decode cX11_cutReeds 21 = .ok (.return_, 1) := by decide +kernel
theorem dX11_hasReeds_0 : decode cX11_hasReeds 0 = .ok (.aload_n 0, 1) := by decide +kernel
theorem dX11_hasReeds_1 : decode cX11_hasReeds 1 = .ok (.getfield 41, 3) := by decide +kernel
theorem dX11_hasReeds_4 : decode cX11_hasReeds 4 = .ok (.iload_n 1, 1) := by decide +kernel
theorem dX11_hasReeds_5 : decode cX11_hasReeds 5 = .ok (.lushr, 1) := by decide +kernel
theorem dX11_hasReeds_6 : decode cX11_hasReeds 6 = .ok (.lconst 1, 1) := by decide +kernel
theorem dX11_hasReeds_7 : decode cX11_hasReeds 7 = .ok (.land, 1) := by decide +kernel
theorem dX11_hasReeds_8 : decode cX11_hasReeds 8 = .ok (.lconst 0, 1) := by decide +kernel
theorem dX11_hasReeds_9 : decode cX11_hasReeds 9 = .ok (.lcmp, 1) := by decide +kernel
theorem dX11_hasReeds_10 : decode cX11_hasReeds 10 = .ok (.ifCond .eq 7, 3) := by decide +kernel
theorem dX11_hasReeds_13 : decode cX11_hasReeds 13 = .ok (.iconst 1, 1) := by decide +kernel
theorem dX11_hasReeds_14 : decode cX11_hasReeds 14 = .ok (.goto 4, 3) := by decide +kernel
theorem dX11_hasReeds_17 : decode cX11_hasReeds 17 = .ok (.iconst 0, 1) := by decide +kernel
theorem dX11_hasReeds_18 : decode cX11_hasReeds 18 = .ok (.ireturn, 1) := by decide +kernel
theorem dX11_keepImage_0 : decode cX11_keepImage 0 = .ok (.aload_n 0, 1) := by decide +kernel
theorem dX11_keepImage_1 : decode cX11_keepImage 1 = .ok (.getfield 20, 3) := by decide +kernel
theorem dX11_keepImage_4 : decode cX11_keepImage 4 = .ok (.aload_n 0, 1) := by decide +kernel
theorem dX11_keepImage_5 : decode cX11_keepImage 5 = .ok (.getfield 14, 3) := by decide +kernel
theorem dX11_keepImage_8 : decode cX11_keepImage 8 = .ok (.invokevirtual 43, 3) := by decide +kernel
theorem dX11_keepImage_11 : decode cX11_keepImage 11 = .ok (.aload_n 0, 1) := by decide +kernel
theorem dX11_keepImage_12 : decode cX11_keepImage 12 = .ok (.aload_n 0, 1) := by decide +kernel
theorem dX11_keepImage_13 : decode cX11_keepImage 13 = .ok (.getfield 41, 3) := by decide +kernel
theorem dX11_keepImage_16 : decode cX11_keepImage 16 = .ok (.putfield 80, 3) := by decide +kernel
theorem dX11_keepImage_19 : decode cX11_keepImage 19 = .ok (.aload_n 0, 1) := by decide +kernel
theorem dX11_keepImage_20 : decode cX11_keepImage 20 = .ok (.iconst 1, 1) := by decide +kernel
theorem dX11_keepImage_21 : decode cX11_keepImage 21 = .ok (.putfield 47, 3) := by decide +kernel
theorem dX11_keepImage_24 : decode cX11_keepImage 24 = .ok (.aload_n 0, 1) := by decide +kernel
theorem dX11_keepImage_25 : decode cX11_keepImage 25 = .ok (.getfield 14, 3) := by decide +kernel
theorem dX11_keepImage_28 : decode cX11_keepImage 28 = .ok (.getfield 68, 3) := by decide +kernel
theorem dX11_keepImage_31 : decode cX11_keepImage 31 = .ok (.ireturn, 1) := by decide +kernel
theorem dX11_takeImage_0 : decode cX11_takeImage 0 = .ok (.aload_n 0, 1) := by decide +kernel
theorem dX11_takeImage_1 : decode cX11_takeImage 1 = .ok (.getfield 47, 3) := by decide +kernel
theorem dX11_takeImage_4 : decode cX11_takeImage 4 = .ok (.ifCond .ne 5, 3) := by decide +kernel
theorem dX11_takeImage_7 : decode cX11_takeImage 7 = .ok (.iconst (-1), 1) := by decide +kernel
theorem dX11_takeImage_8 : decode cX11_takeImage 8 = .ok (.ireturn, 1) := by decide +kernel
theorem dX11_takeImage_9 : decode cX11_takeImage 9 = .ok (.aload_n 0, 1) := by decide +kernel
theorem dX11_takeImage_10 : decode cX11_takeImage 10 = .ok (.getfield 14, 3) := by decide +kernel
theorem dX11_takeImage_13 : decode cX11_takeImage 13 = .ok (.aload_n 0, 1) := by decide +kernel
theorem dX11_takeImage_14 : decode cX11_takeImage 14 = .ok (.getfield 20, 3) := by decide +kernel
theorem dX11_takeImage_17 : decode cX11_takeImage 17 = .ok (.invokevirtual 43, 3) := by decide +kernel
theorem dX11_takeImage_20 : decode cX11_takeImage 20 = .ok (.aload_n 0, 1) := by decide +kernel
theorem dX11_takeImage_21 : decode cX11_takeImage 21 = .ok (.aload_n 0, 1) := by decide +kernel
theorem dX11_takeImage_22 : decode cX11_takeImage 22 = .ok (.getfield 80, 3) := by decide +kernel
theorem dX11_takeImage_25 : decode cX11_takeImage 25 = .ok (.invokevirtual 73, 3) := by decide +kernel
theorem dX11_takeImage_28 : decode cX11_takeImage 28 = .ok (.aload_n 0, 1) := by decide +kernel
theorem dX11_takeImage_29 : decode cX11_takeImage 29 = .ok (.iconst 0, 1) := by decide +kernel
theorem dX11_takeImage_30 : decode cX11_takeImage 30 = .ok (.putfield 51, 3) := by decide +kernel
theorem dX11_takeImage_33 : decode cX11_takeImage 33 = .ok (.aload_n 0, 1) := by decide +kernel
theorem dX11_takeImage_34 : decode cX11_takeImage 34 = .ok (.getfield 14, 3) := by decide +kernel
theorem dX11_takeImage_37 : decode cX11_takeImage 37 = .ok (.getfield 68, 3) := by decide +kernel
theorem dX11_takeImage_40 : decode cX11_takeImage 40 = .ok (.ireturn, 1) := by decide +kernel
theorem dX11_undoLatest_0 : decode cX11_undoLatest 0 = .ok (.aload_n 0, 1) := by decide +kernel
theorem dX11_undoLatest_1 : decode cX11_undoLatest 1 = .ok (.getfield 51, 3) := by decide +kernel
theorem dX11_undoLatest_4 : decode cX11_undoLatest 4 = .ok (.iconst 1, 1) := by decide +kernel
theorem dX11_undoLatest_5 : decode cX11_undoLatest 5 = .ok (.if_icmp .ge 5, 3) := by decide +kernel
theorem dX11_undoLatest_8 : decode cX11_undoLatest 8 = .ok (.iconst (-1), 1) := by decide +kernel
theorem dX11_undoLatest_9 : decode cX11_undoLatest 9 = .ok (.ireturn, 1) := by decide +kernel
theorem dX11_undoLatest_10 : decode cX11_undoLatest 10 = .ok (.aload_n 0, 1) := by decide +kernel
theorem dX11_undoLatest_11 : decode cX11_undoLatest 11 = .ok (.dup, 1) := by decide +kernel
theorem dX11_undoLatest_12 : decode cX11_undoLatest 12 = .ok (.getfield 51, 3) := by decide +kernel
theorem dX11_undoLatest_15 : decode cX11_undoLatest 15 = .ok (.iconst 1, 1) := by decide +kernel
theorem dX11_undoLatest_16 : decode cX11_undoLatest 16 = .ok (.isub, 1) := by decide +kernel
theorem dX11_undoLatest_17 : decode cX11_undoLatest 17 = .ok (.putfield 51, 3) := by decide +kernel
theorem dX11_undoLatest_20 : decode cX11_undoLatest 20 = .ok (.aload_n 0, 1) := by decide +kernel
theorem dX11_undoLatest_21 : decode cX11_undoLatest 21 = .ok (.getfield 23, 3) := by decide +kernel
theorem dX11_undoLatest_24 : decode cX11_undoLatest 24 = .ok (.aload_n 0, 1) := by decide +kernel
theorem dX11_undoLatest_25 : decode cX11_undoLatest 25 = .ok (.getfield 51, 3) := by decide +kernel
theorem dX11_undoLatest_28 : decode cX11_undoLatest 28 = .ok (.iaload, 1) := by decide +kernel
theorem dX11_undoLatest_29 : decode cX11_undoLatest 29 = .ok (.istore_n 1, 1) := by decide +kernel
theorem dX11_undoLatest_30 : decode cX11_undoLatest 30 = .ok (.iload_n 1, 1) := by decide +kernel
theorem dX11_undoLatest_31 : decode cX11_undoLatest 31 = .ok (.iconst (-1), 1) := by decide +kernel
theorem dX11_undoLatest_32 : decode cX11_undoLatest 32 = .ok (.if_icmp .ne 18, 3) := by decide +kernel
theorem dX11_undoLatest_35 : decode cX11_undoLatest 35 = .ok (.aload_n 0, 1) := by decide +kernel
theorem dX11_undoLatest_36 : decode cX11_undoLatest 36 = .ok (.getfield 14, 3) := by decide +kernel
theorem dX11_undoLatest_39 : decode cX11_undoLatest 39 = .ok (.invokevirtual 77, 3) := by decide +kernel
theorem dX11_undoLatest_42 : decode cX11_undoLatest 42 = .ok (.aload_n 0, 1) := by decide +kernel
theorem dX11_undoLatest_43 : decode cX11_undoLatest 43 = .ok (.iconst 1, 1) := by decide +kernel
theorem dX11_undoLatest_44 : decode cX11_undoLatest 44 = .ok (.putfield 58, 3) := by decide +kernel
theorem dX11_undoLatest_47 : decode cX11_undoLatest 47 = .ok (.goto 15, 3) := by decide +kernel
theorem dX11_undoLatest_50 : decode cX11_undoLatest 50 = .ok (.aload_n 0, 1) := by decide +kernel
theorem dX11_undoLatest_51 : decode cX11_undoLatest 51 = .ok (.aload_n 0, 1) := by decide +kernel
theorem dX11_undoLatest_52 : decode cX11_undoLatest 52 = .ok (.getfield 41, 3) := by decide +kernel
theorem dX11_undoLatest_55 : decode cX11_undoLatest 55 = .ok (.lconst 1, 1) := by decide +kernel
theorem dX11_undoLatest_56 : decode cX11_undoLatest 56 = .ok (.iload_n 1, 1) := by decide +kernel
theorem dX11_undoLatest_57 : decode cX11_undoLatest 57 = .ok (.lshl, 1) := by decide +kernel
theorem dX11_undoLatest_58 : decode cX11_undoLatest 58 = .ok (.lor, 1) := by decide +kernel
theorem dX11_undoLatest_59 : decode cX11_undoLatest 59 = .ok (.invokevirtual 73, 3) := by decide +kernel
theorem dX11_undoLatest_62 : decode cX11_undoLatest 62 = .ok (.aload_n 0, 1) := by decide +kernel
theorem dX11_undoLatest_63 : decode cX11_undoLatest 63 = .ok (.getfield 51, 3) := by decide +kernel
theorem dX11_undoLatest_66 : decode cX11_undoLatest 66 = .ok (.ireturn, 1) := by decide +kernel
theorem dX2_gatherCompared_0 : decode cX2_gatherCompared 0 = .ok (.aload_n 0, 1) := by decide +kernel
theorem dX2_gatherCompared_1 : decode cX2_gatherCompared 1 = .ok (.getfield 30, 3) := by decide +kernel
theorem dX2_gatherCompared_4 : decode cX2_gatherCompared 4 = .ok (.invokevirtual 51, 3) := by decide +kernel
theorem dX2_gatherCompared_7 : decode cX2_gatherCompared 7 = .ok (.lconst 0, 1) := by decide +kernel
theorem dX2_gatherCompared_8 : decode cX2_gatherCompared 8 = .ok (.lstore 5, 2) := by decide +kernel
theorem dX2_gatherCompared_10 : decode cX2_gatherCompared 10 = .ok (.iconst 0, 1) := by decide +kernel
theorem dX2_gatherCompared_11 : decode cX2_gatherCompared 11 = .ok (.istore 7, 2) := by decide +kernel
theorem dX2_gatherCompared_13 : decode cX2_gatherCompared 13 = .ok (.iload 7, 2) := by decide +kernel
theorem dX2_gatherCompared_15 : decode cX2_gatherCompared 15 = .ok (.iload_n 2, 1) := by decide +kernel
theorem dX2_gatherCompared_16 : decode cX2_gatherCompared 16 = .ok (.if_icmp .ge 97, 3) := by decide +kernel
theorem dX2_gatherCompared_19 : decode cX2_gatherCompared 19 = .ok (.lload_n 3, 1) := by decide +kernel
theorem dX2_gatherCompared_20 : decode cX2_gatherCompared 20 = .ok (.bipush 8, 2) := by decide +kernel
theorem dX2_gatherCompared_22 : decode cX2_gatherCompared 22 = .ok (.iload 7, 2) := by decide +kernel
theorem dX2_gatherCompared_24 : decode cX2_gatherCompared 24 = .ok (.imul, 1) := by decide +kernel
theorem dX2_gatherCompared_25 : decode cX2_gatherCompared 25 = .ok (.lushr, 1) := by decide +kernel
theorem dX2_gatherCompared_26 : decode cX2_gatherCompared 26 = .ok (.ldc2_w 174, 3) := by decide +kernel
theorem dX2_gatherCompared_29 : decode cX2_gatherCompared 29 = .ok (.land, 1) := by decide +kernel
theorem dX2_gatherCompared_30 : decode cX2_gatherCompared 30 = .ok (.l2i, 1) := by decide +kernel
theorem dX2_gatherCompared_31 : decode cX2_gatherCompared 31 = .ok (.istore 8, 2) := by decide +kernel
theorem dX2_gatherCompared_33 : decode cX2_gatherCompared 33 = .ok (.aload_n 0, 1) := by decide +kernel
theorem dX2_gatherCompared_34 : decode cX2_gatherCompared 34 = .ok (.getfield 33, 3) := by decide +kernel
theorem dX2_gatherCompared_37 : decode cX2_gatherCompared 37 = .ok (.getfield 54, 3) := by decide +kernel
theorem dX2_gatherCompared_40 : decode cX2_gatherCompared 40 = .ok (.iload 8, 2) := by decide +kernel
theorem dX2_gatherCompared_42 : decode cX2_gatherCompared 42 = .ok (.invokevirtual 91, 3) := by decide +kernel
theorem dX2_gatherCompared_45 : decode cX2_gatherCompared 45 = .ok (.ifCond .eq 15, 3) := by decide +kernel
theorem dX2_gatherCompared_48 : decode cX2_gatherCompared 48 = .ok (.lload 5, 2) := by decide +kernel
theorem dX2_gatherCompared_50 : decode cX2_gatherCompared 50 = .ok (.iload 8, 2) := by decide +kernel
theorem dX2_gatherCompared_52 : decode cX2_gatherCompared 52 = .ok (.lushr, 1) := by decide +kernel
theorem dX2_gatherCompared_53 : decode cX2_gatherCompared 53 = .ok (.lconst 1, 1) := by decide +kernel
theorem dX2_gatherCompared_54 : decode cX2_gatherCompared 54 = .ok (.land, 1) := by decide +kernel
theorem dX2_gatherCompared_55 : decode cX2_gatherCompared 55 = .ok (.lconst 0, 1) := by decide +kernel
theorem dX2_gatherCompared_56 : decode cX2_gatherCompared 56 = .ok (.lcmp, 1) := by decide +kernel
theorem dX2_gatherCompared_57 : decode cX2_gatherCompared 57 = .ok (.ifCond .eq 5, 3) := by decide +kernel
theorem dX2_gatherCompared_60 : decode cX2_gatherCompared 60 = .ok (.iconst 0, 1) := by decide +kernel
theorem dX2_gatherCompared_61 : decode cX2_gatherCompared 61 = .ok (.ireturn, 1) := by decide +kernel
theorem dX2_gatherCompared_62 : decode cX2_gatherCompared 62 = .ok (.lload 5, 2) := by decide +kernel
theorem dX2_gatherCompared_64 : decode cX2_gatherCompared 64 = .ok (.lconst 1, 1) := by decide +kernel
theorem dX2_gatherCompared_65 : decode cX2_gatherCompared 65 = .ok (.iload 8, 2) := by decide +kernel
theorem dX2_gatherCompared_67 : decode cX2_gatherCompared 67 = .ok (.lshl, 1) := by decide +kernel
theorem dX2_gatherCompared_68 : decode cX2_gatherCompared 68 = .ok (.lor, 1) := by decide +kernel
theorem dX2_gatherCompared_69 : decode cX2_gatherCompared 69 = .ok (.lstore 5, 2) := by decide +kernel
theorem dX2_gatherCompared_71 : decode cX2_gatherCompared 71 = .ok (.iconst 0, 1) := by decide +kernel
theorem dX2_gatherCompared_72 : decode cX2_gatherCompared 72 = .ok (.istore 9, 2) := by decide +kernel
theorem dX2_gatherCompared_74 : decode cX2_gatherCompared 74 = .ok (.iload 9, 2) := by decide +kernel
theorem dX2_gatherCompared_76 : decode cX2_gatherCompared 76 = .ok (.iconst 4, 1) := by decide +kernel
theorem dX2_gatherCompared_77 : decode cX2_gatherCompared 77 = .ok (.if_icmp .ge 30, 3) := by decide +kernel
theorem dX2_gatherCompared_80 : decode cX2_gatherCompared 80 = .ok (.iload_n 1, 1) := by decide +kernel
theorem dX2_gatherCompared_81 : decode cX2_gatherCompared 81 = .ok (.iload 9, 2) := by decide +kernel
theorem dX2_gatherCompared_83 : decode cX2_gatherCompared 83 = .ok (.iushr, 1) := by decide +kernel
theorem dX2_gatherCompared_84 : decode cX2_gatherCompared 84 = .ok (.iconst 1, 1) := by decide +kernel
theorem dX2_gatherCompared_85 : decode cX2_gatherCompared 85 = .ok (.iand, 1) := by decide +kernel
theorem dX2_gatherCompared_86 : decode cX2_gatherCompared 86 = .ok (.ifCond .eq 15, 3) := by decide +kernel
theorem dX2_gatherCompared_89 : decode cX2_gatherCompared 89 = .ok (.aload_n 0, 1) := by decide +kernel
theorem dX2_gatherCompared_90 : decode cX2_gatherCompared 90 = .ok (.getfield 30, 3) := by decide +kernel
theorem dX2_gatherCompared_93 : decode cX2_gatherCompared 93 = .ok (.iload 9, 2) := by decide +kernel
theorem dX2_gatherCompared_95 : decode cX2_gatherCompared 95 = .ok (.iload 8, 2) := by decide +kernel
theorem dX2_gatherCompared_97 : decode cX2_gatherCompared 97 = .ok (.iconst 0, 1) := by decide +kernel
theorem dX2_gatherCompared_98 : decode cX2_gatherCompared 98 = .ok (.invokevirtual 99, 3) := by decide +kernel
theorem dX2_gatherCompared_101 : decode cX2_gatherCompared 101 = .ok (.iinc 9 1, 3) := by decide +kernel
theorem dX2_gatherCompared_104 : decode cX2_gatherCompared 104 = .ok (.goto (-30), 3) := by decide +kernel
theorem dX2_gatherCompared_107 : decode cX2_gatherCompared 107 = .ok (.iinc 7 1, 3) := by decide +kernel
theorem dX2_gatherCompared_110 : decode cX2_gatherCompared 110 = .ok (.goto (-97), 3) := by decide +kernel
theorem dX2_gatherCompared_113 : decode cX2_gatherCompared 113 = .ok (.iconst 1, 1) := by decide +kernel
theorem dX2_gatherCompared_114 : decode cX2_gatherCompared 114 = .ok (.ireturn, 1) := by decide +kernel
theorem dX2_rowsDiffer_0 : decode cX2_rowsDiffer 0 = .ok (.iconst 0, 1) := by decide +kernel
theorem dX2_rowsDiffer_1 : decode cX2_rowsDiffer 1 = .ok (.istore_n 3, 1) := by decide +kernel
theorem dX2_rowsDiffer_2 : decode cX2_rowsDiffer 2 = .ok (.iload_n 3, 1) := by decide +kernel
theorem dX2_rowsDiffer_3 : decode cX2_rowsDiffer 3 = .ok (.bipush 31, 2) := by decide +kernel
theorem dX2_rowsDiffer_5 : decode cX2_rowsDiffer 5 = .ok (.if_icmp .ge 36, 3) := by decide +kernel
theorem dX2_rowsDiffer_8 : decode cX2_rowsDiffer 8 = .ok (.aload_n 0, 1) := by decide +kernel
theorem dX2_rowsDiffer_9 : decode cX2_rowsDiffer 9 = .ok (.getfield 23, 3) := by decide +kernel
theorem dX2_rowsDiffer_12 : decode cX2_rowsDiffer 12 = .ok (.iload_n 1, 1) := by decide +kernel
theorem dX2_rowsDiffer_13 : decode cX2_rowsDiffer 13 = .ok (.bipush 31, 2) := by decide +kernel
theorem dX2_rowsDiffer_15 : decode cX2_rowsDiffer 15 = .ok (.imul, 1) := by decide +kernel
theorem dX2_rowsDiffer_16 : decode cX2_rowsDiffer 16 = .ok (.iload_n 3, 1) := by decide +kernel
theorem dX2_rowsDiffer_17 : decode cX2_rowsDiffer 17 = .ok (.iadd, 1) := by decide +kernel
theorem dX2_rowsDiffer_18 : decode cX2_rowsDiffer 18 = .ok (.iaload, 1) := by decide +kernel
theorem dX2_rowsDiffer_19 : decode cX2_rowsDiffer 19 = .ok (.aload_n 0, 1) := by decide +kernel
theorem dX2_rowsDiffer_20 : decode cX2_rowsDiffer 20 = .ok (.getfield 23, 3) := by decide +kernel
theorem dX2_rowsDiffer_23 : decode cX2_rowsDiffer 23 = .ok (.iload_n 2, 1) := by decide +kernel
theorem dX2_rowsDiffer_24 : decode cX2_rowsDiffer 24 = .ok (.bipush 31, 2) := by decide +kernel
theorem dX2_rowsDiffer_26 : decode cX2_rowsDiffer 26 = .ok (.imul, 1) := by decide +kernel
theorem dX2_rowsDiffer_27 : decode cX2_rowsDiffer 27 = .ok (.iload_n 3, 1) := by decide +kernel
theorem dX2_rowsDiffer_28 : decode cX2_rowsDiffer 28 = .ok (.iadd, 1) := by decide +kernel
theorem dX2_rowsDiffer_29 : decode cX2_rowsDiffer 29 = .ok (.iaload, 1) := by decide +kernel
theorem dX2_rowsDiffer_30 : decode cX2_rowsDiffer 30 = .ok (.if_icmp .eq 5, 3) := by decide +kernel
theorem dX2_rowsDiffer_33 : decode cX2_rowsDiffer 33 = .ok (.iconst 1, 1) := by decide +kernel
theorem dX2_rowsDiffer_34 : decode cX2_rowsDiffer 34 = .ok (.ireturn, 1) := by decide +kernel
theorem dX2_rowsDiffer_35 : decode cX2_rowsDiffer 35 = .ok (.iinc 3 1, 3) := by decide +kernel
theorem dX2_rowsDiffer_38 : decode cX2_rowsDiffer 38 = .ok (.goto (-36), 3) := by decide +kernel
theorem dX2_rowsDiffer_41 : decode cX2_rowsDiffer 41 = .ok (.iconst 0, 1) := by decide +kernel
theorem dX2_rowsDiffer_42 : decode cX2_rowsDiffer 42 = .ok (.ireturn, 1) := by decide +kernel
theorem dX2_markTeller_0 : decode cX2_markTeller 0 = .ok (.iconst 0, 1) := by decide +kernel
theorem dX2_markTeller_1 : decode cX2_markTeller 1 = .ok (.istore_n 2, 1) := by decide +kernel
theorem dX2_markTeller_2 : decode cX2_markTeller 2 = .ok (.iload_n 2, 1) := by decide +kernel
theorem dX2_markTeller_3 : decode cX2_markTeller 3 = .ok (.aload_n 0, 1) := by decide +kernel
theorem dX2_markTeller_4 : decode cX2_markTeller 4 = .ok (.getfield 30, 3) := by decide +kernel
theorem dX2_markTeller_7 : decode cX2_markTeller 7 = .ok (.getfield 148, 3) := by decide +kernel
theorem dX2_markTeller_10 : decode cX2_markTeller 10 = .ok (.if_icmp .ge 46, 3) := by decide +kernel
theorem dX2_markTeller_13 : decode cX2_markTeller 13 = .ok (.iconst 0, 1) := by decide +kernel
theorem dX2_markTeller_14 : decode cX2_markTeller 14 = .ok (.istore_n 3, 1) := by decide +kernel
theorem dX2_markTeller_15 : decode cX2_markTeller 15 = .ok (.iload_n 3, 1) := by decide +kernel
theorem dX2_markTeller_16 : decode cX2_markTeller 16 = .ok (.iload_n 2, 1) := by decide +kernel
theorem dX2_markTeller_17 : decode cX2_markTeller 17 = .ok (.if_icmp .ge 33, 3) := by decide +kernel
theorem dX2_markTeller_20 : decode cX2_markTeller 20 = .ok (.aload_n 0, 1) := by decide +kernel
theorem dX2_markTeller_21 : decode cX2_markTeller 21 = .ok (.iload_n 2, 1) := by decide +kernel
theorem dX2_markTeller_22 : decode cX2_markTeller 22 = .ok (.iload_n 3, 1) := by decide +kernel
theorem dX2_markTeller_23 : decode cX2_markTeller 23 = .ok (.invokevirtual 180, 3) := by decide +kernel
theorem dX2_markTeller_26 : decode cX2_markTeller 26 = .ok (.ifCond .eq 18, 3) := by decide +kernel
theorem dX2_markTeller_29 : decode cX2_markTeller 29 = .ok (.aload_n 0, 1) := by decide +kernel
theorem dX2_markTeller_30 : decode cX2_markTeller 30 = .ok (.getfield 27, 3) := by decide +kernel
theorem dX2_markTeller_33 : decode cX2_markTeller 33 = .ok (.iload_n 2, 1) := by decide +kernel
theorem dX2_markTeller_34 : decode cX2_markTeller 34 = .ok (.bipush 24, 2) := by decide +kernel
theorem dX2_markTeller_36 : decode cX2_markTeller 36 = .ok (.imul, 1) := by decide +kernel
theorem dX2_markTeller_37 : decode cX2_markTeller 37 = .ok (.iload_n 3, 1) := by decide +kernel
theorem dX2_markTeller_38 : decode cX2_markTeller 38 = .ok (.iadd, 1) := by decide +kernel
theorem dX2_markTeller_39 : decode cX2_markTeller 39 = .ok (.dup2, 1) := by decide +kernel
theorem dX2_markTeller_40 : decode cX2_markTeller 40 = .ok (.iaload, 1) := by decide +kernel
theorem dX2_markTeller_41 : decode cX2_markTeller 41 = .ok (.iload_n 1, 1) := by decide +kernel
theorem dX2_markTeller_42 : decode cX2_markTeller 42 = .ok (.ior, 1) := by decide +kernel
theorem dX2_markTeller_43 : decode cX2_markTeller 43 = .ok (.iastore, 1) := by decide +kernel
theorem dX2_markTeller_44 : decode cX2_markTeller 44 = .ok (.iinc 3 1, 3) := by decide +kernel
theorem dX2_markTeller_47 : decode cX2_markTeller 47 = .ok (.goto (-32), 3) := by decide +kernel
theorem dX2_markTeller_50 : decode cX2_markTeller 50 = .ok (.iinc 2 1, 3) := by decide +kernel
theorem dX2_markTeller_53 : decode cX2_markTeller 53 = .ok (.goto (-51), 3) := by decide +kernel
theorem dX2_markTeller_56 : decode cX2_markTeller 56 = .ok (.return_, 1) := by decide +kernel
theorem dX6_farOf_0 : decode cX6_farOf 0 = .ok (.iload_n 1, 1) := by decide +kernel
theorem dX6_farOf_1 : decode cX6_farOf 1 = .ok (.ifCond .lt 23, 3) := by decide +kernel
theorem dX6_farOf_4 : decode cX6_farOf 4 = .ok (.iload_n 1, 1) := by decide +kernel
theorem dX6_farOf_5 : decode cX6_farOf 5 = .ok (.bipush 48, 2) := by decide +kernel
theorem dX6_farOf_7 : decode cX6_farOf 7 = .ok (.if_icmp .ge 17, 3) := by decide +kernel
theorem dX6_farOf_10 : decode cX6_farOf 10 = .ok (.iload_n 2, 1) := by decide +kernel
theorem dX6_farOf_11 : decode cX6_farOf 11 = .ok (.ifCond .lt 13, 3) := by decide +kernel
theorem dX6_farOf_14 : decode cX6_farOf 14 = .ok (.iload_n 2, 1) := by decide +kernel
theorem dX6_farOf_15 : decode cX6_farOf 15 = .ok (.bipush 48, 2) := by decide +kernel
theorem dX6_farOf_17 : decode cX6_farOf 17 = .ok (.if_icmp .ge 7, 3) := by decide +kernel
theorem dX6_farOf_20 : decode cX6_farOf 20 = .ok (.iconst 1, 1) := by decide +kernel
theorem dX6_farOf_21 : decode cX6_farOf 21 = .ok (.goto 4, 3) := by decide +kernel
theorem dX6_farOf_24 : decode cX6_farOf 24 = .ok (.iconst 0, 1) := by decide +kernel
theorem dX6_farOf_25 : decode cX6_farOf 25 = .ok (.istore_n 3, 1) := by decide +kernel
theorem dX6_farOf_26 : decode cX6_farOf 26 = .ok (.iload_n 3, 1) := by decide +kernel
theorem dX6_farOf_27 : decode cX6_farOf 27 = .ok (.ifCond .eq 17, 3) := by decide +kernel
theorem dX6_farOf_30 : decode cX6_farOf 30 = .ok (.aload_n 0, 1) := by decide +kernel
theorem dX6_farOf_31 : decode cX6_farOf 31 = .ok (.getfield 15, 3) := by decide +kernel
theorem dX6_farOf_34 : decode cX6_farOf 34 = .ok (.iload_n 1, 1) := by decide +kernel
theorem dX6_farOf_35 : decode cX6_farOf 35 = .ok (.bipush 48, 2) := by decide +kernel
theorem dX6_farOf_37 : decode cX6_farOf 37 = .ok (.imul, 1) := by decide +kernel
theorem dX6_farOf_38 : decode cX6_farOf 38 = .ok (.iload_n 2, 1) := by decide +kernel
theorem dX6_farOf_39 : decode cX6_farOf 39 = .ok (.iadd, 1) := by decide +kernel
theorem dX6_farOf_40 : decode cX6_farOf 40 = .ok (.iaload, 1) := by decide +kernel
theorem dX6_farOf_41 : decode cX6_farOf 41 = .ok (.goto 5, 3) := by decide +kernel
theorem dX6_farOf_44 : decode cX6_farOf 44 = .ok (.bipush (-2), 2) := by decide +kernel
theorem dX6_farOf_46 : decode cX6_farOf 46 = .ok (.ireturn, 1) := by decide +kernel
theorem dX6_farBy_0 : decode cX6_farBy 0 = .ok (.aload_n 0, 1) := by decide +kernel
theorem dX6_farBy_1 : decode cX6_farBy 1 = .ok (.iload_n 1, 1) := by decide +kernel
theorem dX6_farBy_2 : decode cX6_farBy 2 = .ok (.iload_n 2, 1) := by decide +kernel
theorem dX6_farBy_3 : decode cX6_farBy 3 = .ok (.invokevirtual 119, 3) := by decide +kernel
theorem dX6_farBy_6 : decode cX6_farBy 6 = .ok (.istore 4, 2) := by decide +kernel
theorem dX6_farBy_8 : decode cX6_farBy 8 = .ok (.aload_n 0, 1) := by decide +kernel
theorem dX6_farBy_9 : decode cX6_farBy 9 = .ok (.iload_n 2, 1) := by decide +kernel
theorem dX6_farBy_10 : decode cX6_farBy 10 = .ok (.iload_n 3, 1) := by decide +kernel
theorem dX6_farBy_11 : decode cX6_farBy 11 = .ok (.invokevirtual 119, 3) := by decide +kernel
theorem dX6_farBy_14 : decode cX6_farBy 14 = .ok (.istore 5, 2) := by decide +kernel
theorem dX6_farBy_16 : decode cX6_farBy 16 = .ok (.iload 4, 2) := by decide +kernel
theorem dX6_farBy_18 : decode cX6_farBy 18 = .ok (.ifCond .lt 8, 3) := by decide +kernel
theorem dX6_farBy_21 : decode cX6_farBy 21 = .ok (.iload 5, 2) := by decide +kernel
theorem dX6_farBy_23 : decode cX6_farBy 23 = .ok (.ifCond .ge 8, 3) := by decide +kernel
theorem dX6_farBy_26 : decode cX6_farBy 26 = .ok (.bipush (-2), 2) := by decide +kernel
theorem dX6_farBy_28 : decode cX6_farBy 28 = .ok (.goto 8, 3) := by decide +kernel
theorem dX6_farBy_31 : decode cX6_farBy 31 = .ok (.iload 4, 2) := by decide +kernel
theorem dX6_farBy_33 : decode cX6_farBy 33 = .ok (.iload 5, 2) := by decide +kernel
theorem dX6_farBy_35 : decode cX6_farBy 35 = .ok (.iadd, 1) := by decide +kernel
theorem dX6_farBy_36 : decode cX6_farBy 36 = .ok (.ireturn, 1) := by decide +kernel
theorem dX6_partOf_0 : decode cX6_partOf 0 = .ok (.iload_n 2, 1) := by decide +kernel
theorem dX6_partOf_1 : decode cX6_partOf 1 = .ok (.ifCond .lt 19, 3) := by decide +kernel
theorem dX6_partOf_4 : decode cX6_partOf 4 = .ok (.iload_n 2, 1) := by decide +kernel
theorem dX6_partOf_5 : decode cX6_partOf 5 = .ok (.bipush 48, 2) := by decide +kernel
theorem dX6_partOf_7 : decode cX6_partOf 7 = .ok (.if_icmp .ge 13, 3) := by decide +kernel
theorem dX6_partOf_10 : decode cX6_partOf 10 = .ok (.iload_n 3, 1) := by decide +kernel
theorem dX6_partOf_11 : decode cX6_partOf 11 = .ok (.ifCond .lt 9, 3) := by decide +kernel
theorem dX6_partOf_14 : decode cX6_partOf 14 = .ok (.iload_n 3, 1) := by decide +kernel
theorem dX6_partOf_15 : decode cX6_partOf 15 = .ok (.bipush 48, 2) := by decide +kernel
theorem dX6_partOf_17 : decode cX6_partOf 17 = .ok (.if_icmp .lt 5, 3) := by decide +kernel
theorem dX6_partOf_20 : decode cX6_partOf 20 = .ok (.iconst 0, 1) := by decide +kernel
theorem dX6_partOf_21 : decode cX6_partOf 21 = .ok (.ireturn, 1) := by decide +kernel
theorem dX6_partOf_22 : decode cX6_partOf 22 = .ok (.bipush 100, 2) := by decide +kernel
theorem dX6_partOf_24 : decode cX6_partOf 24 = .ok (.aload_n 0, 1) := by decide +kernel
theorem dX6_partOf_25 : decode cX6_partOf 25 = .ok (.getfield 18, 3) := by decide +kernel
theorem dX6_partOf_28 : decode cX6_partOf 28 = .ok (.iload_n 2, 1) := by decide +kernel
theorem dX6_partOf_29 : decode cX6_partOf 29 = .ok (.bipush 48, 2) := by decide +kernel
theorem dX6_partOf_31 : decode cX6_partOf 31 = .ok (.imul, 1) := by decide +kernel
theorem dX6_partOf_32 : decode cX6_partOf 32 = .ok (.iload_n 3, 1) := by decide +kernel
theorem dX6_partOf_33 : decode cX6_partOf 33 = .ok (.iadd, 1) := by decide +kernel
theorem dX6_partOf_34 : decode cX6_partOf 34 = .ok (.iaload, 1) := by decide +kernel
theorem dX6_partOf_35 : decode cX6_partOf 35 = .ok (.isub, 1) := by decide +kernel
theorem dX6_partOf_36 : decode cX6_partOf 36 = .ok (.istore 4, 2) := by decide +kernel
theorem dX6_partOf_38 : decode cX6_partOf 38 = .ok (.iload 4, 2) := by decide +kernel
theorem dX6_partOf_40 : decode cX6_partOf 40 = .ok (.ifCond .le 13, 3) := by decide +kernel
theorem dX6_partOf_43 : decode cX6_partOf 43 = .ok (.iload_n 1, 1) := by decide +kernel
theorem dX6_partOf_44 : decode cX6_partOf 44 = .ok (.iload 4, 2) := by decide +kernel
theorem dX6_partOf_46 : decode cX6_partOf 46 = .ok (.imul, 1) := by decide +kernel
theorem dX6_partOf_47 : decode cX6_partOf 47 = .ok (.bipush 100, 2) := by decide +kernel
theorem dX6_partOf_49 : decode cX6_partOf 49 = .ok (.idiv, 1) := by decide +kernel
theorem dX6_partOf_50 : decode cX6_partOf 50 = .ok (.goto 4, 3) := by decide +kernel
theorem dX6_partOf_53 : decode cX6_partOf 53 = .ok (.iconst 0, 1) := by decide +kernel
theorem dX6_partOf_54 : decode cX6_partOf 54 = .ok (.ireturn, 1) := by decide +kernel
theorem dX6_sentOf_0 : decode cX6_sentOf 0 = .ok (.aload_n 0, 1) := by decide +kernel
theorem dX6_sentOf_1 : decode cX6_sentOf 1 = .ok (.iload_n 1, 1) := by decide +kernel
theorem dX6_sentOf_2 : decode cX6_sentOf 2 = .ok (.iload_n 2, 1) := by decide +kernel
theorem dX6_sentOf_3 : decode cX6_sentOf 3 = .ok (.iload_n 3, 1) := by decide +kernel
theorem dX6_sentOf_4 : decode cX6_sentOf 4 = .ok (.invokevirtual 127, 3) := by decide +kernel
theorem dX6_sentOf_7 : decode cX6_sentOf 7 = .ok (.aload_n 0, 1) := by decide +kernel
theorem dX6_sentOf_8 : decode cX6_sentOf 8 = .ok (.getfield 39, 3) := by decide +kernel
theorem dX6_sentOf_11 : decode cX6_sentOf 11 = .ok (.getfield 52, 3) := by decide +kernel
theorem dX6_sentOf_14 : decode cX6_sentOf 14 = .ok (.getfield 166, 3) := by decide +kernel
theorem dX6_sentOf_17 : decode cX6_sentOf 17 = .ok (.imul, 1) := by decide +kernel
theorem dX6_sentOf_18 : decode cX6_sentOf 18 = .ok (.bipush 100, 2) := by decide +kernel
theorem dX6_sentOf_20 : decode cX6_sentOf 20 = .ok (.idiv, 1) := by decide +kernel
theorem dX6_sentOf_21 : decode cX6_sentOf 21 = .ok (.ireturn, 1) := by decide +kernel
theorem dX6_alone_0 : decode cX6_alone 0 = .ok (.aload_n 0, 1) := by decide +kernel
theorem dX6_alone_1 : decode cX6_alone 1 = .ok (.getfield 39, 3) := by decide +kernel
theorem dX6_alone_4 : decode cX6_alone 4 = .ok (.getfield 52, 3) := by decide +kernel
theorem dX6_alone_7 : decode cX6_alone 7 = .ok (.iload_n 1, 1) := by decide +kernel
theorem dX6_alone_8 : decode cX6_alone 8 = .ok (.invokevirtual 93, 3) := by decide +kernel
theorem dX6_alone_11 : decode cX6_alone 11 = .ok (.astore 6, 2) := by decide +kernel
theorem dX6_alone_13 : decode cX6_alone 13 = .ok (.aload_n 0, 1) := by decide +kernel
theorem dX6_alone_14 : decode cX6_alone 14 = .ok (.iload_n 2, 1) := by decide +kernel
theorem dX6_alone_15 : decode cX6_alone 15 = .ok (.iload_n 3, 1) := by decide +kernel
theorem dX6_alone_16 : decode cX6_alone 16 = .ok (.invokevirtual 119, 3) := by decide +kernel
theorem dX6_alone_19 : decode cX6_alone 19 = .ok (.istore 7, 2) := by decide +kernel
theorem dX6_alone_21 : decode cX6_alone 21 = .ok (.iload 7, 2) := by decide +kernel
theorem dX6_alone_23 : decode cX6_alone 23 = .ok (.ifCond .ge 7, 3) := by decide +kernel
theorem dX6_alone_26 : decode cX6_alone 26 = .ok (.iconst 0, 1) := by decide +kernel
theorem dX6_alone_27 : decode cX6_alone 27 = .ok (.goto 19, 3) := by decide +kernel
theorem dX6_alone_30 : decode cX6_alone 30 = .ok (.aload_n 0, 1) := by decide +kernel
theorem dX6_alone_31 : decode cX6_alone 31 = .ok (.aload 6, 2) := by decide +kernel
theorem dX6_alone_33 : decode cX6_alone 33 = .ok (.iload 4, 2) := by decide +kernel
theorem dX6_alone_35 : decode cX6_alone 35 = .ok (.iload 7, 2) := by decide +kernel
theorem dX6_alone_37 : decode cX6_alone 37 = .ok (.isub, 1) := by decide +kernel
theorem dX6_alone_38 : decode cX6_alone 38 = .ok (.invokevirtual 104, 3) := by decide +kernel
theorem dX6_alone_41 : decode cX6_alone 41 = .ok (.iload_n 2, 1) := by decide +kernel
theorem dX6_alone_42 : decode cX6_alone 42 = .ok (.iload_n 3, 1) := by decide +kernel
theorem dX6_alone_43 : decode cX6_alone 43 = .ok (.invokevirtual 127, 3) := by decide +kernel
theorem dX6_alone_46 : decode cX6_alone 46 = .ok (.istore 8, 2) := by decide +kernel
theorem dX6_alone_48 : decode cX6_alone 48 = .ok (.iconst 0, 1) := by decide +kernel
theorem dX6_alone_49 : decode cX6_alone 49 = .ok (.istore 9, 2) := by decide +kernel
theorem dX6_alone_51 : decode cX6_alone 51 = .ok (.iload 9, 2) := by decide +kernel
theorem dX6_alone_53 : decode cX6_alone 53 = .ok (.aload 5, 2) := by decide +kernel
theorem dX6_alone_55 : decode cX6_alone 55 = .ok (.getfield 103, 3) := by decide +kernel
theorem dX6_alone_58 : decode cX6_alone 58 = .ok (.if_icmp .ge 66, 3) := by decide +kernel
theorem dX6_alone_61 : decode cX6_alone 61 = .ok (.aload 5, 2) := by decide +kernel
theorem dX6_alone_63 : decode cX6_alone 63 = .ok (.iload 9, 2) := by decide +kernel
theorem dX6_alone_65 : decode cX6_alone 65 = .ok (.invokevirtual 104, 3) := by decide +kernel
theorem dX6_alone_68 : decode cX6_alone 68 = .ok (.istore 10, 2) := by decide +kernel
theorem dX6_alone_70 : decode cX6_alone 70 = .ok (.aload_n 0, 1) := by decide +kernel
theorem dX6_alone_71 : decode cX6_alone 71 = .ok (.iload_n 2, 1) := by decide +kernel
theorem dX6_alone_72 : decode cX6_alone 72 = .ok (.iload 10, 2) := by decide +kernel
theorem dX6_alone_74 : decode cX6_alone 74 = .ok (.iload_n 3, 1) := by decide +kernel
theorem dX6_alone_75 : decode cX6_alone 75 = .ok (.invokevirtual 172, 3) := by decide +kernel
theorem dX6_alone_78 : decode cX6_alone 78 = .ok (.istore 7, 2) := by decide +kernel
theorem dX6_alone_80 : decode cX6_alone 80 = .ok (.iload 8, 2) := by decide +kernel
theorem dX6_alone_82 : decode cX6_alone 82 = .ok (.iload 7, 2) := by decide +kernel
theorem dX6_alone_84 : decode cX6_alone 84 = .ok (.ifCond .ge 7, 3) := by decide +kernel
theorem dX6_alone_87 : decode cX6_alone 87 = .ok (.iconst 0, 1) := by decide +kernel
theorem dX6_alone_88 : decode cX6_alone 88 = .ok (.goto 27, 3) := by decide +kernel
theorem dX6_alone_91 : decode cX6_alone 91 = .ok (.aload_n 0, 1) := by decide +kernel
theorem dX6_alone_92 : decode cX6_alone 92 = .ok (.aload_n 0, 1) := by decide +kernel
theorem dX6_alone_93 : decode cX6_alone 93 = .ok (.aload 6, 2) := by decide +kernel
theorem dX6_alone_95 : decode cX6_alone 95 = .ok (.iload 4, 2) := by decide +kernel
theorem dX6_alone_97 : decode cX6_alone 97 = .ok (.iload 7, 2) := by decide +kernel
theorem dX6_alone_99 : decode cX6_alone 99 = .ok (.isub, 1) := by decide +kernel
theorem dX6_alone_100 : decode cX6_alone 100 = .ok (.invokevirtual 104, 3) := by decide +kernel
theorem dX6_alone_103 : decode cX6_alone 103 = .ok (.iload_n 2, 1) := by decide +kernel
theorem dX6_alone_104 : decode cX6_alone 104 = .ok (.iload 10, 2) := by decide +kernel
theorem dX6_alone_106 : decode cX6_alone 106 = .ok (.invokevirtual 123, 3) := by decide +kernel
theorem dX6_alone_109 : decode cX6_alone 109 = .ok (.iload 10, 2) := by decide +kernel
theorem dX6_alone_111 : decode cX6_alone 111 = .ok (.iload_n 3, 1) := by decide +kernel
theorem dX6_alone_112 : decode cX6_alone 112 = .ok (.invokevirtual 127, 3) := by decide +kernel
theorem dX6_alone_115 : decode cX6_alone 115 = .ok (.iadd, 1) := by decide +kernel
theorem dX6_alone_116 : decode cX6_alone 116 = .ok (.istore 8, 2) := by decide +kernel
theorem dX6_alone_118 : decode cX6_alone 118 = .ok (.iinc 9 1, 3) := by decide +kernel
theorem dX6_alone_121 : decode cX6_alone 121 = .ok (.goto (-70), 3) := by decide +kernel
theorem dX6_alone_124 : decode cX6_alone 124 = .ok (.iload 8, 2) := by decide +kernel
theorem dX6_alone_126 : decode cX6_alone 126 = .ok (.ireturn, 1) := by decide +kernel
theorem dX2_showRow_0 : decode cX2_showRow 0 = .ok (.iconst 0, 1) := by decide +kernel
theorem dX2_showRow_1 : decode cX2_showRow 1 = .ok (.istore 5, 2) := by decide +kernel
theorem dX2_showRow_3 : decode cX2_showRow 3 = .ok (.iload 5, 2) := by decide +kernel
theorem dX2_showRow_5 : decode cX2_showRow 5 = .ok (.bipush 31, 2) := by decide +kernel
theorem dX2_showRow_7 : decode cX2_showRow 7 = .ok (.if_icmp .ge 63, 3) := by decide +kernel
theorem dX2_showRow_10 : decode cX2_showRow 10 = .ok (.iload_n 1, 1) := by decide +kernel
theorem dX2_showRow_11 : decode cX2_showRow 11 = .ok (.bipush 31, 2) := by decide +kernel
theorem dX2_showRow_13 : decode cX2_showRow 13 = .ok (.imul, 1) := by decide +kernel
theorem dX2_showRow_14 : decode cX2_showRow 14 = .ok (.iload 5, 2) := by decide +kernel
theorem dX2_showRow_16 : decode cX2_showRow 16 = .ok (.iadd, 1) := by decide +kernel
theorem dX2_showRow_17 : decode cX2_showRow 17 = .ok (.istore 6, 2) := by decide +kernel
theorem dX2_showRow_19 : decode cX2_showRow 19 = .ok (.iload 6, 2) := by decide +kernel
theorem dX2_showRow_21 : decode cX2_showRow 21 = .ok (.ifCond .lt 43, 3) := by decide +kernel
theorem dX2_showRow_24 : decode cX2_showRow 24 = .ok (.iload 6, 2) := by decide +kernel
theorem dX2_showRow_26 : decode cX2_showRow 26 = .ok (.aload_n 0, 1) := by decide +kernel
theorem dX2_showRow_27 : decode cX2_showRow 27 = .ok (.getfield 23, 3) := by decide +kernel
theorem dX2_showRow_30 : decode cX2_showRow 30 = .ok (.arraylength, 1) := by decide +kernel
theorem dX2_showRow_31 : decode cX2_showRow 31 = .ok (.if_icmp .ge 33, 3) := by decide +kernel
theorem dX2_showRow_34 : decode cX2_showRow 34 = .ok (.aload_n 0, 1) := by decide +kernel
theorem dX2_showRow_35 : decode cX2_showRow 35 = .ok (.getfield 23, 3) := by decide +kernel
theorem dX2_showRow_38 : decode cX2_showRow 38 = .ok (.iload 6, 2) := by decide +kernel
theorem dX2_showRow_40 : decode cX2_showRow 40 = .ok (.aload_n 0, 1) := by decide +kernel
theorem dX2_showRow_41 : decode cX2_showRow 41 = .ok (.getfield 37, 3) := by decide +kernel
theorem dX2_showRow_44 : decode cX2_showRow 44 = .ok (.iload_n 2, 1) := by decide +kernel
theorem dX2_showRow_45 : decode cX2_showRow 45 = .ok (.iload_n 3, 1) := by decide +kernel
theorem dX2_showRow_46 : decode cX2_showRow 46 = .ok (.iload 4, 2) := by decide +kernel
theorem dX2_showRow_48 : decode cX2_showRow 48 = .ok (.iload 5, 2) := by decide +kernel
theorem dX2_showRow_50 : decode cX2_showRow 50 = .ok (.aload_n 0, 1) := by decide +kernel
theorem dX2_showRow_51 : decode cX2_showRow 51 = .ok (.getfield 33, 3) := by decide +kernel
theorem dX2_showRow_54 : decode cX2_showRow 54 = .ok (.getfield 54, 3) := by decide +kernel
theorem dX2_showRow_57 : decode cX2_showRow 57 = .ok (.getfield 118, 3) := by decide +kernel
theorem dX2_showRow_60 : decode cX2_showRow 60 = .ok (.invokevirtual 121, 3) := by decide +kernel
theorem dX2_showRow_63 : decode cX2_showRow 63 = .ok (.iastore, 1) := by decide +kernel
theorem dX2_showRow_64 : decode cX2_showRow 64 = .ok (.iinc 5 1, 3) := by decide +kernel
theorem dX2_showRow_67 : decode cX2_showRow 67 = .ok (.goto (-64), 3) := by decide +kernel
theorem dX2_showRow_70 : decode cX2_showRow 70 = .ok (.return_, 1) := by decide +kernel
theorem dX2_showCompared_0 : decode cX2_showCompared 0 = .ok (.iconst 0, 1) := by decide +kernel
theorem dX2_showCompared_1 : decode cX2_showCompared 1 = .ok (.istore_n 2, 1) := by decide +kernel
theorem dX2_showCompared_2 : decode cX2_showCompared 2 = .ok (.iload_n 2, 1) := by decide +kernel
theorem dX2_showCompared_3 : decode cX2_showCompared 3 = .ok (.aload_n 0, 1) := by decide +kernel
theorem dX2_showCompared_4 : decode cX2_showCompared 4 = .ok (.getfield 30, 3) := by decide +kernel
theorem dX2_showCompared_7 : decode cX2_showCompared 7 = .ok (.getfield 148, 3) := by decide +kernel
theorem dX2_showCompared_10 : decode cX2_showCompared 10 = .ok (.if_icmp .ge 33, 3) := by decide +kernel
theorem dX2_showCompared_13 : decode cX2_showCompared 13 = .ok (.aload_n 0, 1) := by decide +kernel
theorem dX2_showCompared_14 : decode cX2_showCompared 14 = .ok (.iload_n 2, 1) := by decide +kernel
theorem dX2_showCompared_15 : decode cX2_showCompared 15 = .ok (.aload_n 0, 1) := by decide +kernel
theorem dX2_showCompared_16 : decode cX2_showCompared 16 = .ok (.getfield 30, 3) := by decide +kernel
theorem dX2_showCompared_19 : decode cX2_showCompared 19 = .ok (.getfield 149, 3) := by decide +kernel
theorem dX2_showCompared_22 : decode cX2_showCompared 22 = .ok (.iload_n 2, 1) := by decide +kernel
theorem dX2_showCompared_23 : decode cX2_showCompared 23 = .ok (.iaload, 1) := by decide +kernel
theorem dX2_showCompared_24 : decode cX2_showCompared 24 = .ok (.aload_n 0, 1) := by decide +kernel
theorem dX2_showCompared_25 : decode cX2_showCompared 25 = .ok (.getfield 30, 3) := by decide +kernel
theorem dX2_showCompared_28 : decode cX2_showCompared 28 = .ok (.getfield 151, 3) := by decide +kernel
theorem dX2_showCompared_31 : decode cX2_showCompared 31 = .ok (.iload_n 2, 1) := by decide +kernel
theorem dX2_showCompared_32 : decode cX2_showCompared 32 = .ok (.iaload, 1) := by decide +kernel
theorem dX2_showCompared_33 : decode cX2_showCompared 33 = .ok (.iload_n 1, 1) := by decide +kernel
theorem dX2_showCompared_34 : decode cX2_showCompared 34 = .ok (.invokevirtual 176, 3) := by decide +kernel
theorem dX2_showCompared_37 : decode cX2_showCompared 37 = .ok (.iinc 2 1, 3) := by decide +kernel
theorem dX2_showCompared_40 : decode cX2_showCompared 40 = .ok (.goto (-38), 3) := by decide +kernel
theorem dX2_showCompared_43 : decode cX2_showCompared 43 = .ok (.return_, 1) := by decide +kernel
theorem dX2_tellsApart_0 : decode cX2_tellsApart 0 = .ok (.iconst 0, 1) := by decide +kernel
theorem dX2_tellsApart_1 : decode cX2_tellsApart 1 = .ok (.istore_n 2, 1) := by decide +kernel
theorem dX2_tellsApart_2 : decode cX2_tellsApart 2 = .ok (.iload_n 2, 1) := by decide +kernel
theorem dX2_tellsApart_3 : decode cX2_tellsApart 3 = .ok (.aload_n 0, 1) := by decide +kernel
theorem dX2_tellsApart_4 : decode cX2_tellsApart 4 = .ok (.getfield 30, 3) := by decide +kernel
theorem dX2_tellsApart_7 : decode cX2_tellsApart 7 = .ok (.getfield 148, 3) := by decide +kernel
theorem dX2_tellsApart_10 : decode cX2_tellsApart 10 = .ok (.if_icmp .ge 40, 3) := by decide +kernel
theorem dX2_tellsApart_13 : decode cX2_tellsApart 13 = .ok (.iconst 0, 1) := by decide +kernel
theorem dX2_tellsApart_14 : decode cX2_tellsApart 14 = .ok (.istore_n 3, 1) := by decide +kernel
theorem dX2_tellsApart_15 : decode cX2_tellsApart 15 = .ok (.iload_n 3, 1) := by decide +kernel
theorem dX2_tellsApart_16 : decode cX2_tellsApart 16 = .ok (.iload_n 2, 1) := by decide +kernel
theorem dX2_tellsApart_17 : decode cX2_tellsApart 17 = .ok (.if_icmp .ge 27, 3) := by decide +kernel
theorem dX2_tellsApart_20 : decode cX2_tellsApart 20 = .ok (.aload_n 0, 1) := by decide +kernel
theorem dX2_tellsApart_21 : decode cX2_tellsApart 21 = .ok (.getfield 27, 3) := by decide +kernel
theorem dX2_tellsApart_24 : decode cX2_tellsApart 24 = .ok (.iload_n 2, 1) := by decide +kernel
theorem dX2_tellsApart_25 : decode cX2_tellsApart 25 = .ok (.bipush 24, 2) := by decide +kernel
theorem dX2_tellsApart_27 : decode cX2_tellsApart 27 = .ok (.imul, 1) := by decide +kernel
theorem dX2_tellsApart_28 : decode cX2_tellsApart 28 = .ok (.iload_n 3, 1) := by decide +kernel
theorem dX2_tellsApart_29 : decode cX2_tellsApart 29 = .ok (.iadd, 1) := by decide +kernel
theorem dX2_tellsApart_30 : decode cX2_tellsApart 30 = .ok (.iaload, 1) := by decide +kernel
theorem dX2_tellsApart_31 : decode cX2_tellsApart 31 = .ok (.iload_n 1, 1) := by decide +kernel
theorem dX2_tellsApart_32 : decode cX2_tellsApart 32 = .ok (.iand, 1) := by decide +kernel
theorem dX2_tellsApart_33 : decode cX2_tellsApart 33 = .ok (.ifCond .ne 5, 3) := by decide +kernel
theorem dX2_tellsApart_36 : decode cX2_tellsApart 36 = .ok (.iconst 0, 1) := by decide +kernel
theorem dX2_tellsApart_37 : decode cX2_tellsApart 37 = .ok (.ireturn, 1) := by decide +kernel
theorem dX2_tellsApart_38 : decode cX2_tellsApart 38 = .ok (.iinc 3 1, 3) := by decide +kernel
theorem dX2_tellsApart_41 : decode cX2_tellsApart 41 = .ok (.goto (-26), 3) := by decide +kernel
theorem dX2_tellsApart_44 : decode cX2_tellsApart 44 = .ok (.iinc 2 1, 3) := by decide +kernel
theorem dX2_tellsApart_47 : decode cX2_tellsApart 47 = .ok (.goto (-45), 3) := by decide +kernel
theorem dX2_tellsApart_50 : decode cX2_tellsApart 50 = .ok (.iconst 1, 1) := by decide +kernel
theorem dX2_tellsApart_51 : decode cX2_tellsApart 51 = .ok (.ireturn, 1) := by decide +kernel
theorem dX2_fewestCorks_0 : decode cX2_fewestCorks 0 = .ok (.iload_n 1, 1) := by decide +kernel
theorem dX2_fewestCorks_1 : decode cX2_fewestCorks 1 = .ok (.ifCond .le 33, 3) := by decide +kernel
theorem dX2_fewestCorks_4 : decode cX2_fewestCorks 4 = .ok (.iload_n 1, 1) := by decide +kernel
theorem dX2_fewestCorks_5 : decode cX2_fewestCorks 5 = .ok (.iconst 1, 1) := by decide +kernel
theorem dX2_fewestCorks_6 : decode cX2_fewestCorks 6 = .ok (.aload_n 0, 1) := by decide +kernel
theorem dX2_fewestCorks_7 : decode cX2_fewestCorks 7 = .ok (.getfield 33, 3) := by decide +kernel
theorem dX2_fewestCorks_10 : decode cX2_fewestCorks 10 = .ok (.getfield 54, 3) := by decide +kernel
theorem dX2_fewestCorks_13 : decode cX2_fewestCorks 13 = .ok (.getfield 60, 3) := by decide +kernel
theorem dX2_fewestCorks_16 : decode cX2_fewestCorks 16 = .ok (.getfield 66, 3) := by decide +kernel
theorem dX2_fewestCorks_19 : decode cX2_fewestCorks 19 = .ok (.ishl, 1) := by decide +kernel
theorem dX2_fewestCorks_20 : decode cX2_fewestCorks 20 = .ok (.if_icmp .ge 14, 3) := by decide +kernel
theorem dX2_fewestCorks_23 : decode cX2_fewestCorks 23 = .ok (.iload_n 2, 1) := by decide +kernel
theorem dX2_fewestCorks_24 : decode cX2_fewestCorks 24 = .ok (.iconst 1, 1) := by decide +kernel
theorem dX2_fewestCorks_25 : decode cX2_fewestCorks 25 = .ok (.if_icmp .lt 9, 3) := by decide +kernel
theorem dX2_fewestCorks_28 : decode cX2_fewestCorks 28 = .ok (.iload_n 2, 1) := by decide +kernel
theorem dX2_fewestCorks_29 : decode cX2_fewestCorks 29 = .ok (.bipush 6, 2) := by decide +kernel
theorem dX2_fewestCorks_31 : decode cX2_fewestCorks 31 = .ok (.if_icmp .le 5, 3) := by decide +kernel
theorem dX2_fewestCorks_34 : decode cX2_fewestCorks 34 = .ok (.iconst (-1), 1) := by decide +kernel
theorem dX2_fewestCorks_35 : decode cX2_fewestCorks 35 = .ok (.ireturn, 1) := by decide +kernel
theorem dX2_fewestCorks_36 : decode cX2_fewestCorks 36 = .ok (.aload_n 0, 1) := by decide +kernel
theorem dX2_fewestCorks_37 : decode cX2_fewestCorks 37 = .ok (.iload_n 1, 1) := by decide +kernel
theorem dX2_fewestCorks_38 : decode cX2_fewestCorks 38 = .ok (.iload_n 2, 1) := by decide +kernel
theorem dX2_fewestCorks_39 : decode cX2_fewestCorks 39 = .ok (.lload_n 3, 1) := by decide +kernel
theorem dX2_fewestCorks_40 : decode cX2_fewestCorks 40 = .ok (.invokevirtual 154, 3) := by decide +kernel
theorem dX2_fewestCorks_43 : decode cX2_fewestCorks 43 = .ok (.ifCond .ne 5, 3) := by decide +kernel
theorem dX2_fewestCorks_46 : decode cX2_fewestCorks 46 = .ok (.iconst (-1), 1) := by decide +kernel
theorem dX2_fewestCorks_47 : decode cX2_fewestCorks 47 = .ok (.ireturn, 1) := by decide +kernel
theorem dX2_fewestCorks_48 : decode cX2_fewestCorks 48 = .ok (.aload_n 0, 1) := by decide +kernel
theorem dX2_fewestCorks_49 : decode cX2_fewestCorks 49 = .ok (.getfield 33, 3) := by decide +kernel
theorem dX2_fewestCorks_52 : decode cX2_fewestCorks 52 = .ok (.getfield 54, 3) := by decide +kernel
theorem dX2_fewestCorks_55 : decode cX2_fewestCorks 55 = .ok (.getfield 158, 3) := by decide +kernel
theorem dX2_fewestCorks_58 : decode cX2_fewestCorks 58 = .ok (.getfield 66, 3) := by decide +kernel
theorem dX2_fewestCorks_61 : decode cX2_fewestCorks 61 = .ok (.istore 5, 2) := by decide +kernel
theorem dX2_fewestCorks_63 : decode cX2_fewestCorks 63 = .ok (.iconst 0, 1) := by decide +kernel
theorem dX2_fewestCorks_64 : decode cX2_fewestCorks 64 = .ok (.istore 6, 2) := by decide +kernel
theorem dX2_fewestCorks_66 : decode cX2_fewestCorks 66 = .ok (.iload 6, 2) := by decide +kernel
theorem dX2_fewestCorks_68 : decode cX2_fewestCorks 68 = .ok (.aload_n 0, 1) := by decide +kernel
theorem dX2_fewestCorks_69 : decode cX2_fewestCorks 69 = .ok (.getfield 27, 3) := by decide +kernel
theorem dX2_fewestCorks_72 : decode cX2_fewestCorks 72 = .ok (.arraylength, 1) := by decide +kernel
theorem dX2_fewestCorks_73 : decode cX2_fewestCorks 73 = .ok (.if_icmp .ge 17, 3) := by decide +kernel
theorem dX2_fewestCorks_76 : decode cX2_fewestCorks 76 = .ok (.aload_n 0, 1) := by decide +kernel
theorem dX2_fewestCorks_77 : decode cX2_fewestCorks 77 = .ok (.getfield 27, 3) := by decide +kernel
theorem dX2_fewestCorks_80 : decode cX2_fewestCorks 80 = .ok (.iload 6, 2) := by decide +kernel
theorem dX2_fewestCorks_82 : decode cX2_fewestCorks 82 = .ok (.iconst 0, 1) := by decide +kernel
theorem dX2_fewestCorks_83 : decode cX2_fewestCorks 83 = .ok (.iastore, 1) := by decide +kernel
theorem dX2_fewestCorks_84 : decode cX2_fewestCorks 84 = .ok (.iinc 6 1, 3) := by decide +kernel
theorem dX2_fewestCorks_87 : decode cX2_fewestCorks 87 = .ok (.goto (-21), 3) := by decide +kernel
theorem dX2_fewestCorks_90 : decode cX2_fewestCorks 90 = .ok (.iconst 0, 1) := by decide +kernel
theorem dX2_fewestCorks_91 : decode cX2_fewestCorks 91 = .ok (.istore 6, 2) := by decide +kernel
theorem dX2_fewestCorks_93 : decode cX2_fewestCorks 93 = .ok (.iload 6, 2) := by decide +kernel
theorem dX2_fewestCorks_95 : decode cX2_fewestCorks 95 = .ok (.iload 5, 2) := by decide +kernel
theorem dX2_fewestCorks_97 : decode cX2_fewestCorks 97 = .ok (.if_icmp .ge 36, 3) := by decide +kernel
theorem dX2_fewestCorks_100 : decode cX2_fewestCorks 100 = .ok (.aload_n 0, 1) := by decide +kernel
theorem dX2_fewestCorks_101 : decode cX2_fewestCorks 101 = .ok (.aload_n 0, 1) := by decide +kernel
theorem dX2_fewestCorks_102 : decode cX2_fewestCorks 102 = .ok (.getfield 33, 3) := by decide +kernel
theorem dX2_fewestCorks_105 : decode cX2_fewestCorks 105 = .ok (.getfield 54, 3) := by decide +kernel
theorem dX2_fewestCorks_108 : decode cX2_fewestCorks 108 = .ok (.getfield 109, 3) := by decide +kernel
theorem dX2_fewestCorks_111 : decode cX2_fewestCorks 111 = .ok (.iload 6, 2) := by decide +kernel
theorem dX2_fewestCorks_113 : decode cX2_fewestCorks 113 = .ok (.invokevirtual 79, 3) := by decide +kernel
theorem dX2_fewestCorks_116 : decode cX2_fewestCorks 116 = .ok (.invokevirtual 160, 3) := by decide +kernel
theorem dX2_fewestCorks_119 : decode cX2_fewestCorks 119 = .ok (.aload_n 0, 1) := by decide +kernel
theorem dX2_fewestCorks_120 : decode cX2_fewestCorks 120 = .ok (.iconst 1, 1) := by decide +kernel
theorem dX2_fewestCorks_121 : decode cX2_fewestCorks 121 = .ok (.iload 6, 2) := by decide +kernel
theorem dX2_fewestCorks_123 : decode cX2_fewestCorks 123 = .ok (.ishl, 1) := by decide +kernel
theorem dX2_fewestCorks_124 : decode cX2_fewestCorks 124 = .ok (.invokevirtual 163, 3) := by decide +kernel
theorem dX2_fewestCorks_127 : decode cX2_fewestCorks 127 = .ok (.iinc 6 1, 3) := by decide +kernel
theorem dX2_fewestCorks_130 : decode cX2_fewestCorks 130 = .ok (.goto (-37), 3) := by decide +kernel
theorem dX2_fewestCorks_133 : decode cX2_fewestCorks 133 = .ok (.iconst 0, 1) := by decide +kernel
theorem dX2_fewestCorks_134 : decode cX2_fewestCorks 134 = .ok (.istore 6, 2) := by decide +kernel
theorem dX2_fewestCorks_136 : decode cX2_fewestCorks 136 = .ok (.iload 6, 2) := by decide +kernel
theorem dX2_fewestCorks_138 : decode cX2_fewestCorks 138 = .ok (.iload 5, 2) := by decide +kernel
theorem dX2_fewestCorks_140 : decode cX2_fewestCorks 140 = .ok (.if_icmp .gt 49, 3) := by decide +kernel
theorem dX2_fewestCorks_143 : decode cX2_fewestCorks 143 = .ok (.iconst 0, 1) := by decide +kernel
theorem dX2_fewestCorks_144 : decode cX2_fewestCorks 144 = .ok (.istore 7, 2) := by decide +kernel
theorem dX2_fewestCorks_146 : decode cX2_fewestCorks 146 = .ok (.iload 7, 2) := by decide +kernel
theorem dX2_fewestCorks_148 : decode cX2_fewestCorks 148 = .ok (.iconst 1, 1) := by decide +kernel
theorem dX2_fewestCorks_149 : decode cX2_fewestCorks 149 = .ok (.iload 5, 2) := by decide +kernel
theorem dX2_fewestCorks_151 : decode cX2_fewestCorks 151 = .ok (.ishl, 1) := by decide +kernel
theorem dX2_fewestCorks_152 : decode cX2_fewestCorks 152 = .ok (.if_icmp .ge 31, 3) := by decide +kernel
theorem dX2_fewestCorks_155 : decode cX2_fewestCorks 155 = .ok (.iload 7, 2) := by decide +kernel
theorem dX2_fewestCorks_157 : decode cX2_fewestCorks 157 = .ok (.invokestatic 166, 3) := by decide +kernel
theorem dX2_fewestCorks_160 : decode cX2_fewestCorks 160 = .ok (.iload 6, 2) := by decide +kernel
theorem dX2_fewestCorks_162 : decode cX2_fewestCorks 162 = .ok (.if_icmp .ne 15, 3) := by decide +kernel
theorem dX2_fewestCorks_165 : decode cX2_fewestCorks 165 = .ok (.aload_n 0, 1) := by decide +kernel
theorem dX2_fewestCorks_166 : decode cX2_fewestCorks 166 = .ok (.iload 7, 2) := by decide +kernel
theorem dX2_fewestCorks_168 : decode cX2_fewestCorks 168 = .ok (.invokevirtual 171, 3) := by decide +kernel
theorem dX2_fewestCorks_171 : decode cX2_fewestCorks 171 = .ok (.ifCond .eq 6, 3) := by decide +kernel
theorem dX2_fewestCorks_174 : decode cX2_fewestCorks 174 = .ok (.iload 7, 2) := by decide +kernel
theorem dX2_fewestCorks_176 : decode cX2_fewestCorks 176 = .ok (.ireturn, 1) := by decide +kernel
theorem dX2_fewestCorks_177 : decode cX2_fewestCorks 177 = .ok (.iinc 7 1, 3) := by decide +kernel
theorem dX2_fewestCorks_180 : decode cX2_fewestCorks 180 = .ok (.goto (-34), 3) := by decide +kernel
theorem dX2_fewestCorks_183 : decode cX2_fewestCorks 183 = .ok (.iinc 6 1, 3) := by decide +kernel
theorem dX2_fewestCorks_186 : decode cX2_fewestCorks 186 = .ok (.goto (-50), 3) := by decide +kernel
theorem dX2_fewestCorks_189 : decode cX2_fewestCorks 189 = .ok (.bipush (-2), 2) := by decide +kernel
theorem dX2_fewestCorks_191 : decode cX2_fewestCorks 191 = .ok (.ireturn, 1) := by decide +kernel
theorem dX6_setNear_0 : decode cX6_setNear 0 = .ok (.iload_n 1, 1) := by decide +kernel
theorem dX6_setNear_1 : decode cX6_setNear 1 = .ok (.iconst 5, 1) := by decide +kernel
theorem dX6_setNear_2 : decode cX6_setNear 2 = .ok (.imul, 1) := by decide +kernel
theorem dX6_setNear_3 : decode cX6_setNear 3 = .ok (.iload_n 2, 1) := by decide +kernel
theorem dX6_setNear_4 : decode cX6_setNear 4 = .ok (.iadd, 1) := by decide +kernel
theorem dX6_setNear_5 : decode cX6_setNear 5 = .ok (.istore 5, 2) := by decide +kernel
theorem dX6_setNear_7 : decode cX6_setNear 7 = .ok (.iload 5, 2) := by decide +kernel
theorem dX6_setNear_9 : decode cX6_setNear 9 = .ok (.ifCond .lt 44, 3) := by decide +kernel
theorem dX6_setNear_12 : decode cX6_setNear 12 = .ok (.iload 5, 2) := by decide +kernel
theorem dX6_setNear_14 : decode cX6_setNear 14 = .ok (.aload_n 0, 1) := by decide +kernel
theorem dX6_setNear_15 : decode cX6_setNear 15 = .ok (.getfield 9, 3) := by decide +kernel
theorem dX6_setNear_18 : decode cX6_setNear 18 = .ok (.arraylength, 1) := by decide +kernel
theorem dX6_setNear_19 : decode cX6_setNear 19 = .ok (.if_icmp .ge 34, 3) := by decide +kernel
theorem dX6_setNear_22 : decode cX6_setNear 22 = .ok (.aload_n 0, 1) := by decide +kernel
theorem dX6_setNear_23 : decode cX6_setNear 23 = .ok (.getfield 9, 3) := by decide +kernel
theorem dX6_setNear_26 : decode cX6_setNear 26 = .ok (.iload 5, 2) := by decide +kernel
theorem dX6_setNear_28 : decode cX6_setNear 28 = .ok (.iload 4, 2) := by decide +kernel
theorem dX6_setNear_30 : decode cX6_setNear 30 = .ok (.ifCond .eq 21, 3) := by decide +kernel
theorem dX6_setNear_33 : decode cX6_setNear 33 = .ok (.aload_n 0, 1) := by decide +kernel
theorem dX6_setNear_34 : decode cX6_setNear 34 = .ok (.getfield 39, 3) := by decide +kernel
theorem dX6_setNear_37 : decode cX6_setNear 37 = .ok (.getfield 52, 3) := by decide +kernel
theorem dX6_setNear_40 : decode cX6_setNear 40 = .ok (.iload_n 3, 1) := by decide +kernel
theorem dX6_setNear_41 : decode cX6_setNear 41 = .ok (.invokevirtual 143, 3) := by decide +kernel
theorem dX6_setNear_44 : decode cX6_setNear 44 = .ok (.ifCond .eq 7, 3) := by decide +kernel
theorem dX6_setNear_47 : decode cX6_setNear 47 = .ok (.iload_n 3, 1) := by decide +kernel
theorem dX6_setNear_48 : decode cX6_setNear 48 = .ok (.goto 4, 3) := by decide +kernel
theorem dX6_setNear_51 : decode cX6_setNear 51 = .ok (.iconst (-1), 1) := by decide +kernel
theorem dX6_setNear_52 : decode cX6_setNear 52 = .ok (.iastore, 1) := by decide +kernel
theorem dX6_setNear_53 : decode cX6_setNear 53 = .ok (.return_, 1) := by decide +kernel
theorem dX6_layNeighbours_0 : decode cX6_layNeighbours 0 = .ok (.aload_n 0, 1) := by decide +kernel
theorem dX6_layNeighbours_1 : decode cX6_layNeighbours 1 = .ok (.getfield 39, 3) := by decide +kernel
theorem dX6_layNeighbours_4 : decode cX6_layNeighbours 4 = .ok (.getfield 52, 3) := by decide +kernel
theorem dX6_layNeighbours_7 : decode cX6_layNeighbours 7 = .ok (.getfield 133, 3) := by decide +kernel
theorem dX6_layNeighbours_10 : decode cX6_layNeighbours 10 = .ok (.istore_n 1, 1) := by decide +kernel
theorem dX6_layNeighbours_11 : decode cX6_layNeighbours 11 = .ok (.aload_n 0, 1) := by decide +kernel
theorem dX6_layNeighbours_12 : decode cX6_layNeighbours 12 = .ok (.getfield 39, 3) := by decide +kernel
theorem dX6_layNeighbours_15 : decode cX6_layNeighbours 15 = .ok (.getfield 52, 3) := by decide +kernel
theorem dX6_layNeighbours_18 : decode cX6_layNeighbours 18 = .ok (.getfield 136, 3) := by decide +kernel
theorem dX6_layNeighbours_21 : decode cX6_layNeighbours 21 = .ok (.istore_n 2, 1) := by decide +kernel
theorem dX6_layNeighbours_22 : decode cX6_layNeighbours 22 = .ok (.iconst 0, 1) := by decide +kernel
theorem dX6_layNeighbours_23 : decode cX6_layNeighbours 23 = .ok (.istore_n 3, 1) := by decide +kernel
theorem dX6_layNeighbours_24 : decode cX6_layNeighbours 24 = .ok (.iload_n 3, 1) := by decide +kernel
theorem dX6_layNeighbours_25 : decode cX6_layNeighbours 25 = .ok (.iload_n 2, 1) := by decide +kernel
theorem dX6_layNeighbours_26 : decode cX6_layNeighbours 26 = .ok (.if_icmp .ge 130, 3) := by decide +kernel
theorem dX6_layNeighbours_29 : decode cX6_layNeighbours 29 = .ok (.iconst 0, 1) := by decide +kernel
theorem dX6_layNeighbours_30 : decode cX6_layNeighbours 30 = .ok (.istore 4, 2) := by decide +kernel
theorem dX6_layNeighbours_32 : decode cX6_layNeighbours 32 = .ok (.iload 4, 2) := by decide +kernel
theorem dX6_layNeighbours_34 : decode cX6_layNeighbours 34 = .ok (.iload_n 1, 1) := by decide +kernel
theorem dX6_layNeighbours_35 : decode cX6_layNeighbours 35 = .ok (.if_icmp .ge 115, 3) := by decide +kernel
theorem dX6_layNeighbours_38 : decode cX6_layNeighbours 38 = .ok (.iload_n 3, 1) := by decide +kernel
theorem dX6_layNeighbours_39 : decode cX6_layNeighbours 39 = .ok (.iload_n 1, 1) := by decide +kernel
theorem dX6_layNeighbours_40 : decode cX6_layNeighbours 40 = .ok (.imul, 1) := by decide +kernel
theorem dX6_layNeighbours_41 : decode cX6_layNeighbours 41 = .ok (.iload 4, 2) := by decide +kernel
theorem dX6_layNeighbours_43 : decode cX6_layNeighbours 43 = .ok (.iadd, 1) := by decide +kernel
theorem dX6_layNeighbours_44 : decode cX6_layNeighbours 44 = .ok (.istore 5, 2) := by decide +kernel
theorem dX6_layNeighbours_46 : decode cX6_layNeighbours 46 = .ok (.aload_n 0, 1) := by decide +kernel
theorem dX6_layNeighbours_47 : decode cX6_layNeighbours 47 = .ok (.iload 5, 2) := by decide +kernel
theorem dX6_layNeighbours_49 : decode cX6_layNeighbours 49 = .ok (.iconst 0, 1) := by decide +kernel
theorem dX6_layNeighbours_50 : decode cX6_layNeighbours 50 = .ok (.iload 5, 2) := by decide +kernel
theorem dX6_layNeighbours_52 : decode cX6_layNeighbours 52 = .ok (.iconst 1, 1) := by decide +kernel
theorem dX6_layNeighbours_53 : decode cX6_layNeighbours 53 = .ok (.invokevirtual 139, 3) := by decide +kernel
theorem dX6_layNeighbours_56 : decode cX6_layNeighbours 56 = .ok (.aload_n 0, 1) := by decide +kernel
theorem dX6_layNeighbours_57 : decode cX6_layNeighbours 57 = .ok (.iload 5, 2) := by decide +kernel
theorem dX6_layNeighbours_59 : decode cX6_layNeighbours 59 = .ok (.iconst 1, 1) := by decide +kernel
theorem dX6_layNeighbours_60 : decode cX6_layNeighbours 60 = .ok (.iload 5, 2) := by decide +kernel
theorem dX6_layNeighbours_62 : decode cX6_layNeighbours 62 = .ok (.iload_n 1, 1) := by decide +kernel
theorem dX6_layNeighbours_63 : decode cX6_layNeighbours 63 = .ok (.isub, 1) := by decide +kernel
theorem dX6_layNeighbours_64 : decode cX6_layNeighbours 64 = .ok (.iload_n 3, 1) := by decide +kernel
theorem dX6_layNeighbours_65 : decode cX6_layNeighbours 65 = .ok (.ifCond .le 7, 3) := by decide +kernel
theorem dX6_layNeighbours_68 : decode cX6_layNeighbours 68 = .ok (.iconst 1, 1) := by decide +kernel
theorem dX6_layNeighbours_69 : decode cX6_layNeighbours 69 = .ok (.goto 4, 3) := by decide +kernel
theorem dX6_layNeighbours_72 : decode cX6_layNeighbours 72 = .ok (.iconst 0, 1) := by decide +kernel
theorem dX6_layNeighbours_73 : decode cX6_layNeighbours 73 = .ok (.invokevirtual 139, 3) := by decide +kernel
theorem dX6_layNeighbours_76 : decode cX6_layNeighbours 76 = .ok (.aload_n 0, 1) := by decide +kernel
theorem dX6_layNeighbours_77 : decode cX6_layNeighbours 77 = .ok (.iload 5, 2) := by decide +kernel
theorem dX6_layNeighbours_79 : decode cX6_layNeighbours 79 = .ok (.iconst 2, 1) := by decide +kernel
theorem dX6_layNeighbours_80 : decode cX6_layNeighbours 80 = .ok (.iload 5, 2) := by decide +kernel
theorem dX6_layNeighbours_82 : decode cX6_layNeighbours 82 = .ok (.iconst 1, 1) := by decide +kernel
theorem dX6_layNeighbours_83 : decode cX6_layNeighbours 83 = .ok (.iadd, 1) := by decide +kernel
theorem dX6_layNeighbours_84 : decode cX6_layNeighbours 84 = .ok (.iload 4, 2) := by decide +kernel
theorem dX6_layNeighbours_86 : decode cX6_layNeighbours 86 = .ok (.iconst 1, 1) := by decide +kernel
theorem dX6_layNeighbours_87 : decode cX6_layNeighbours 87 = .ok (.iadd, 1) := by decide +kernel
theorem dX6_layNeighbours_88 : decode cX6_layNeighbours 88 = .ok (.iload_n 1, 1) := by decide +kernel
theorem dX6_layNeighbours_89 : decode cX6_layNeighbours 89 = .ok (.if_icmp .ge 7, 3) := by decide +kernel
theorem dX6_layNeighbours_92 : decode cX6_layNeighbours 92 = .ok (.iconst 1, 1) := by decide +kernel
theorem dX6_layNeighbours_93 : decode cX6_layNeighbours 93 = .ok (.goto 4, 3) := by decide +kernel
theorem dX6_layNeighbours_96 : decode cX6_layNeighbours 96 = .ok (.iconst 0, 1) := by decide +kernel
theorem dX6_layNeighbours_97 : decode cX6_layNeighbours 97 = .ok (.invokevirtual 139, 3) := by decide +kernel
theorem dX6_layNeighbours_100 : decode cX6_layNeighbours 100 = .ok (.aload_n 0, 1) := by decide +kernel
theorem dX6_layNeighbours_101 : decode cX6_layNeighbours 101 = .ok (.iload 5, 2) := by decide +kernel
theorem dX6_layNeighbours_103 : decode cX6_layNeighbours 103 = .ok (.iconst 3, 1) := by decide +kernel
theorem dX6_layNeighbours_104 : decode cX6_layNeighbours 104 = .ok (.iload 5, 2) := by decide +kernel
theorem dX6_layNeighbours_106 : decode cX6_layNeighbours 106 = .ok (.iload_n 1, 1) := by decide +kernel
theorem dX6_layNeighbours_107 : decode cX6_layNeighbours 107 = .ok (.iadd, 1) := by decide +kernel
theorem dX6_layNeighbours_108 : decode cX6_layNeighbours 108 = .ok (.iload_n 3, 1) := by decide +kernel
theorem dX6_layNeighbours_109 : decode cX6_layNeighbours 109 = .ok (.iconst 1, 1) := by decide +kernel
theorem dX6_layNeighbours_110 : decode cX6_layNeighbours 110 = .ok (.iadd, 1) := by decide +kernel
theorem dX6_layNeighbours_111 : decode cX6_layNeighbours 111 = .ok (.iload_n 2, 1) := by decide +kernel
theorem dX6_layNeighbours_112 : decode cX6_layNeighbours 112 = .ok (.if_icmp .ge 7, 3) := by decide +kernel
theorem dX6_layNeighbours_115 : decode cX6_layNeighbours 115 = .ok (.iconst 1, 1) := by decide +kernel
theorem dX6_layNeighbours_116 : decode cX6_layNeighbours 116 = .ok (.goto 4, 3) := by decide +kernel
theorem dX6_layNeighbours_119 : decode cX6_layNeighbours 119 = .ok (.iconst 0, 1) := by decide +kernel
theorem dX6_layNeighbours_120 : decode cX6_layNeighbours 120 = .ok (.invokevirtual 139, 3) := by decide +kernel
theorem dX6_layNeighbours_123 : decode cX6_layNeighbours 123 = .ok (.aload_n 0, 1) := by decide +kernel
theorem dX6_layNeighbours_124 : decode cX6_layNeighbours 124 = .ok (.iload 5, 2) := by decide +kernel
theorem dX6_layNeighbours_126 : decode cX6_layNeighbours 126 = .ok (.iconst 4, 1) := by decide +kernel
theorem dX6_layNeighbours_127 : decode cX6_layNeighbours 127 = .ok (.iload 5, 2) := by decide +kernel
theorem dX6_layNeighbours_129 : decode cX6_layNeighbours 129 = .ok (.iconst 1, 1) := by decide +kernel
theorem dX6_layNeighbours_130 : decode cX6_layNeighbours 130 = .ok (.isub, 1) := by decide +kernel
theorem dX6_layNeighbours_131 : decode cX6_layNeighbours 131 = .ok (.iload 4, 2) := by decide +kernel
theorem dX6_layNeighbours_133 : decode cX6_layNeighbours 133 = .ok (.ifCond .le 7, 3) := by decide +kernel
theorem dX6_layNeighbours_136 : decode cX6_layNeighbours 136 = .ok (.iconst 1, 1) := by decide +kernel
theorem dX6_layNeighbours_137 : decode cX6_layNeighbours 137 = .ok (.goto 4, 3) := by decide +kernel
theorem dX6_layNeighbours_140 : decode cX6_layNeighbours 140 = .ok (.iconst 0, 1) := by decide +kernel
theorem dX6_layNeighbours_141 : decode cX6_layNeighbours 141 = .ok (.invokevirtual 139, 3) := by decide +kernel
theorem dX6_layNeighbours_144 : decode cX6_layNeighbours 144 = .ok (.iinc 4 1, 3) := by decide +kernel
theorem dX6_layNeighbours_147 : decode cX6_layNeighbours 147 = .ok (.goto (-115), 3) := by decide +kernel
theorem dX6_layNeighbours_150 : decode cX6_layNeighbours 150 = .ok (.iinc 3 1, 3) := by decide +kernel
theorem dX6_layNeighbours_153 : decode cX6_layNeighbours 153 = .ok (.goto (-129), 3) := by decide +kernel
theorem dX6_layNeighbours_156 : decode cX6_layNeighbours 156 = .ok (.return_, 1) := by decide +kernel
theorem dX6_handOn_0 : decode cX6_handOn 0 = .ok (.iload_n 1, 1) := by decide +kernel
theorem dX6_handOn_1 : decode cX6_handOn 1 = .ok (.bipush 48, 2) := by decide +kernel
theorem dX6_handOn_3 : decode cX6_handOn 3 = .ok (.imul, 1) := by decide +kernel
theorem dX6_handOn_4 : decode cX6_handOn 4 = .ok (.iload_n 2, 1) := by decide +kernel
theorem dX6_handOn_5 : decode cX6_handOn 5 = .ok (.iadd, 1) := by decide +kernel
theorem dX6_handOn_6 : decode cX6_handOn 6 = .ok (.istore 4, 2) := by decide +kernel
theorem dX6_handOn_8 : decode cX6_handOn 8 = .ok (.iload_n 1, 1) := by decide +kernel
theorem dX6_handOn_9 : decode cX6_handOn 9 = .ok (.bipush 48, 2) := by decide +kernel
theorem dX6_handOn_11 : decode cX6_handOn 11 = .ok (.imul, 1) := by decide +kernel
theorem dX6_handOn_12 : decode cX6_handOn 12 = .ok (.iload_n 3, 1) := by decide +kernel
theorem dX6_handOn_13 : decode cX6_handOn 13 = .ok (.iadd, 1) := by decide +kernel
theorem dX6_handOn_14 : decode cX6_handOn 14 = .ok (.istore 5, 2) := by decide +kernel
theorem dX6_handOn_16 : decode cX6_handOn 16 = .ok (.aload_n 0, 1) := by decide +kernel
theorem dX6_handOn_17 : decode cX6_handOn 17 = .ok (.getfield 18, 3) := by decide +kernel
theorem dX6_handOn_20 : decode cX6_handOn 20 = .ok (.iload 4, 2) := by decide +kernel
theorem dX6_handOn_22 : decode cX6_handOn 22 = .ok (.iaload, 1) := by decide +kernel
theorem dX6_handOn_23 : decode cX6_handOn 23 = .ok (.aload_n 0, 1) := by decide +kernel
theorem dX6_handOn_24 : decode cX6_handOn 24 = .ok (.getfield 39, 3) := by decide +kernel
theorem dX6_handOn_27 : decode cX6_handOn 27 = .ok (.getfield 52, 3) := by decide +kernel
theorem dX6_handOn_30 : decode cX6_handOn 30 = .ok (.getfield 157, 3) := by decide +kernel
theorem dX6_handOn_33 : decode cX6_handOn 33 = .ok (.iadd, 1) := by decide +kernel
theorem dX6_handOn_34 : decode cX6_handOn 34 = .ok (.aload_n 0, 1) := by decide +kernel
theorem dX6_handOn_35 : decode cX6_handOn 35 = .ok (.getfield 39, 3) := by decide +kernel
theorem dX6_handOn_38 : decode cX6_handOn 38 = .ok (.iload_n 3, 1) := by decide +kernel
theorem dX6_handOn_39 : decode cX6_handOn 39 = .ok (.invokevirtual 160, 3) := by decide +kernel
theorem dX6_handOn_42 : decode cX6_handOn 42 = .ok (.ifCond .eq 16, 3) := by decide +kernel
theorem dX6_handOn_45 : decode cX6_handOn 45 = .ok (.aload_n 0, 1) := by decide +kernel
theorem dX6_handOn_46 : decode cX6_handOn 46 = .ok (.getfield 39, 3) := by decide +kernel
theorem dX6_handOn_49 : decode cX6_handOn 49 = .ok (.getfield 52, 3) := by decide +kernel
theorem dX6_handOn_52 : decode cX6_handOn 52 = .ok (.getfield 163, 3) := by decide +kernel
theorem dX6_handOn_55 : decode cX6_handOn 55 = .ok (.goto 4, 3) := by decide +kernel
theorem dX6_handOn_58 : decode cX6_handOn 58 = .ok (.iconst 0, 1) := by decide +kernel
theorem dX6_handOn_59 : decode cX6_handOn 59 = .ok (.iadd, 1) := by decide +kernel
theorem dX6_handOn_60 : decode cX6_handOn 60 = .ok (.istore 6, 2) := by decide +kernel
theorem dX6_handOn_62 : decode cX6_handOn 62 = .ok (.aload_n 0, 1) := by decide +kernel
theorem dX6_handOn_63 : decode cX6_handOn 63 = .ok (.getfield 15, 3) := by decide +kernel
theorem dX6_handOn_66 : decode cX6_handOn 66 = .ok (.iload 5, 2) := by decide +kernel
theorem dX6_handOn_68 : decode cX6_handOn 68 = .ok (.iaload, 1) := by decide +kernel
theorem dX6_handOn_69 : decode cX6_handOn 69 = .ok (.ifCond .ge 7, 3) := by decide +kernel
theorem dX6_handOn_72 : decode cX6_handOn 72 = .ok (.iconst 1, 1) := by decide +kernel
theorem dX6_handOn_73 : decode cX6_handOn 73 = .ok (.goto 4, 3) := by decide +kernel
theorem dX6_handOn_76 : decode cX6_handOn 76 = .ok (.iconst 0, 1) := by decide +kernel
theorem dX6_handOn_77 : decode cX6_handOn 77 = .ok (.istore 7, 2) := by decide +kernel
theorem dX6_handOn_79 : decode cX6_handOn 79 = .ok (.iload 7, 2) := by decide +kernel
theorem dX6_handOn_81 : decode cX6_handOn 81 = .ok (.ifCond .ne 34, 3) := by decide +kernel
theorem dX6_handOn_84 : decode cX6_handOn 84 = .ok (.aload_n 0, 1) := by decide +kernel
theorem dX6_handOn_85 : decode cX6_handOn 85 = .ok (.getfield 15, 3) := by decide +kernel
theorem dX6_handOn_88 : decode cX6_handOn 88 = .ok (.iload 5, 2) := by decide +kernel
theorem dX6_handOn_90 : decode cX6_handOn 90 = .ok (.iaload, 1) := by decide +kernel
theorem dX6_handOn_91 : decode cX6_handOn 91 = .ok (.aload_n 0, 1) := by decide +kernel
theorem dX6_handOn_92 : decode cX6_handOn 92 = .ok (.getfield 15, 3) := by decide +kernel
theorem dX6_handOn_95 : decode cX6_handOn 95 = .ok (.iload 4, 2) := by decide +kernel
theorem dX6_handOn_97 : decode cX6_handOn 97 = .ok (.iaload, 1) := by decide +kernel
theorem dX6_handOn_98 : decode cX6_handOn 98 = .ok (.iconst 1, 1) := by decide +kernel
theorem dX6_handOn_99 : decode cX6_handOn 99 = .ok (.iadd, 1) := by decide +kernel
theorem dX6_handOn_100 : decode cX6_handOn 100 = .ok (.if_icmp .ne 40, 3) := by decide +kernel
theorem dX6_handOn_103 : decode cX6_handOn 103 = .ok (.iload 6, 2) := by decide +kernel
theorem dX6_handOn_105 : decode cX6_handOn 105 = .ok (.aload_n 0, 1) := by decide +kernel
theorem dX6_handOn_106 : decode cX6_handOn 106 = .ok (.getfield 18, 3) := by decide +kernel
theorem dX6_handOn_109 : decode cX6_handOn 109 = .ok (.iload 5, 2) := by decide +kernel
theorem dX6_handOn_111 : decode cX6_handOn 111 = .ok (.iaload, 1) := by decide +kernel
theorem dX6_handOn_112 : decode cX6_handOn 112 = .ok (.if_icmp .ge 28, 3) := by decide +kernel
theorem dX6_handOn_115 : decode cX6_handOn 115 = .ok (.aload_n 0, 1) := by decide +kernel
theorem dX6_handOn_116 : decode cX6_handOn 116 = .ok (.getfield 15, 3) := by decide +kernel
theorem dX6_handOn_119 : decode cX6_handOn 119 = .ok (.iload 5, 2) := by decide +kernel
theorem dX6_handOn_121 : decode cX6_handOn 121 = .ok (.aload_n 0, 1) := by decide +kernel
theorem dX6_handOn_122 : decode cX6_handOn 122 = .ok (.getfield 15, 3) := by decide +kernel
theorem dX6_handOn_125 : decode cX6_handOn 125 = .ok (.iload 4, 2) := by decide +kernel
theorem dX6_handOn_127 : decode cX6_handOn 127 = .ok (.iaload, 1) := by decide +kernel
theorem dX6_handOn_128 : decode cX6_handOn 128 = .ok (.iconst 1, 1) := by decide +kernel
theorem dX6_handOn_129 : decode cX6_handOn 129 = .ok (.iadd, 1) := by decide +kernel
theorem dX6_handOn_130 : decode cX6_handOn 130 = .ok (.iastore, 1) := by decide +kernel
theorem dX6_handOn_131 : decode cX6_handOn 131 = .ok (.aload_n 0, 1) := by decide +kernel
theorem dX6_handOn_132 : decode cX6_handOn 132 = .ok (.getfield 18, 3) := by decide +kernel
theorem dX6_handOn_135 : decode cX6_handOn 135 = .ok (.iload 5, 2) := by decide +kernel
theorem dX6_handOn_137 : decode cX6_handOn 137 = .ok (.iload 6, 2) := by decide +kernel
theorem dX6_handOn_139 : decode cX6_handOn 139 = .ok (.iastore, 1) := by decide +kernel
theorem dX6_handOn_140 : decode cX6_handOn 140 = .ok (.iload 7, 2) := by decide +kernel
theorem dX6_handOn_142 : decode cX6_handOn 142 = .ok (.ireturn, 1) := by decide +kernel
theorem dX6_nearOf_0 : decode cX6_nearOf 0 = .ok (.aload_n 0, 1) := by decide +kernel
theorem dX6_nearOf_1 : decode cX6_nearOf 1 = .ok (.getfield 39, 3) := by decide +kernel
theorem dX6_nearOf_4 : decode cX6_nearOf 4 = .ok (.getfield 52, 3) := by decide +kernel
theorem dX6_nearOf_7 : decode cX6_nearOf 7 = .ok (.iload_n 1, 1) := by decide +kernel
theorem dX6_nearOf_8 : decode cX6_nearOf 8 = .ok (.invokevirtual 147, 3) := by decide +kernel
theorem dX6_nearOf_11 : decode cX6_nearOf 11 = .ok (.ifCond .eq 22, 3) := by decide +kernel
theorem dX6_nearOf_14 : decode cX6_nearOf 14 = .ok (.iload_n 1, 1) := by decide +kernel
theorem dX6_nearOf_15 : decode cX6_nearOf 15 = .ok (.bipush 48, 2) := by decide +kernel
theorem dX6_nearOf_17 : decode cX6_nearOf 17 = .ok (.if_icmp .ge 16, 3) := by decide +kernel
theorem dX6_nearOf_20 : decode cX6_nearOf 20 = .ok (.iload_n 2, 1) := by decide +kernel
theorem dX6_nearOf_21 : decode cX6_nearOf 21 = .ok (.ifCond .lt 12, 3) := by decide +kernel
theorem dX6_nearOf_24 : decode cX6_nearOf 24 = .ok (.iload_n 2, 1) := by decide +kernel
theorem dX6_nearOf_25 : decode cX6_nearOf 25 = .ok (.iconst 5, 1) := by decide +kernel
theorem dX6_nearOf_26 : decode cX6_nearOf 26 = .ok (.if_icmp .ge 7, 3) := by decide +kernel
theorem dX6_nearOf_29 : decode cX6_nearOf 29 = .ok (.iconst 1, 1) := by decide +kernel
theorem dX6_nearOf_30 : decode cX6_nearOf 30 = .ok (.goto 4, 3) := by decide +kernel
theorem dX6_nearOf_33 : decode cX6_nearOf 33 = .ok (.iconst 0, 1) := by decide +kernel
theorem dX6_nearOf_34 : decode cX6_nearOf 34 = .ok (.istore_n 3, 1) := by decide +kernel
theorem dX6_nearOf_35 : decode cX6_nearOf 35 = .ok (.iload_n 3, 1) := by decide +kernel
theorem dX6_nearOf_36 : decode cX6_nearOf 36 = .ok (.ifCond .eq 16, 3) := by decide +kernel
theorem dX6_nearOf_39 : decode cX6_nearOf 39 = .ok (.aload_n 0, 1) := by decide +kernel
theorem dX6_nearOf_40 : decode cX6_nearOf 40 = .ok (.getfield 9, 3) := by decide +kernel
theorem dX6_nearOf_43 : decode cX6_nearOf 43 = .ok (.iload_n 1, 1) := by decide +kernel
theorem dX6_nearOf_44 : decode cX6_nearOf 44 = .ok (.iconst 5, 1) := by decide +kernel
theorem dX6_nearOf_45 : decode cX6_nearOf 45 = .ok (.imul, 1) := by decide +kernel
theorem dX6_nearOf_46 : decode cX6_nearOf 46 = .ok (.iload_n 2, 1) := by decide +kernel
theorem dX6_nearOf_47 : decode cX6_nearOf 47 = .ok (.iadd, 1) := by decide +kernel
theorem dX6_nearOf_48 : decode cX6_nearOf 48 = .ok (.iaload, 1) := by decide +kernel
theorem dX6_nearOf_49 : decode cX6_nearOf 49 = .ok (.goto 4, 3) := by decide +kernel
theorem dX6_nearOf_52 : decode cX6_nearOf 52 = .ok (.iconst (-1), 1) := by decide +kernel
theorem dX6_nearOf_53 : decode cX6_nearOf 53 = .ok (.ireturn, 1) := by decide +kernel
theorem dX6_spread_0 : decode cX6_spread 0 = .ok (.iconst 0, 1) := by decide +kernel
theorem dX6_spread_1 : decode cX6_spread 1 = .ok (.istore_n 2, 1) := by decide +kernel
theorem dX6_spread_2 : decode cX6_spread 2 = .ok (.iload_n 2, 1) := by decide +kernel
theorem dX6_spread_3 : decode cX6_spread 3 = .ok (.aload_n 0, 1) := by decide +kernel
theorem dX6_spread_4 : decode cX6_spread 4 = .ok (.getfield 39, 3) := by decide +kernel
theorem dX6_spread_7 : decode cX6_spread 7 = .ok (.getfield 52, 3) := by decide +kernel
theorem dX6_spread_10 : decode cX6_spread 10 = .ok (.invokevirtual 56, 3) := by decide +kernel
theorem dX6_spread_13 : decode cX6_spread 13 = .ok (.if_icmp .ge 41, 3) := by decide +kernel
theorem dX6_spread_16 : decode cX6_spread 16 = .ok (.iload_n 2, 1) := by decide +kernel
theorem dX6_spread_17 : decode cX6_spread 17 = .ok (.bipush 48, 2) := by decide +kernel
theorem dX6_spread_19 : decode cX6_spread 19 = .ok (.if_icmp .ge 35, 3) := by decide +kernel
theorem dX6_spread_22 : decode cX6_spread 22 = .ok (.aload_n 0, 1) := by decide +kernel
theorem dX6_spread_23 : decode cX6_spread 23 = .ok (.getfield 15, 3) := by decide +kernel
theorem dX6_spread_26 : decode cX6_spread 26 = .ok (.iload_n 1, 1) := by decide +kernel
theorem dX6_spread_27 : decode cX6_spread 27 = .ok (.bipush 48, 2) := by decide +kernel
theorem dX6_spread_29 : decode cX6_spread 29 = .ok (.imul, 1) := by decide +kernel
theorem dX6_spread_30 : decode cX6_spread 30 = .ok (.iload_n 2, 1) := by decide +kernel
theorem dX6_spread_31 : decode cX6_spread 31 = .ok (.iadd, 1) := by decide +kernel
theorem dX6_spread_32 : decode cX6_spread 32 = .ok (.bipush (-2), 2) := by decide +kernel
theorem dX6_spread_34 : decode cX6_spread 34 = .ok (.iastore, 1) := by decide +kernel
theorem dX6_spread_35 : decode cX6_spread 35 = .ok (.aload_n 0, 1) := by decide +kernel
theorem dX6_spread_36 : decode cX6_spread 36 = .ok (.getfield 18, 3) := by decide +kernel
theorem dX6_spread_39 : decode cX6_spread 39 = .ok (.iload_n 1, 1) := by decide +kernel
theorem dX6_spread_40 : decode cX6_spread 40 = .ok (.bipush 48, 2) := by decide +kernel
theorem dX6_spread_42 : decode cX6_spread 42 = .ok (.imul, 1) := by decide +kernel
theorem dX6_spread_43 : decode cX6_spread 43 = .ok (.iload_n 2, 1) := by decide +kernel
theorem dX6_spread_44 : decode cX6_spread 44 = .ok (.iadd, 1) := by decide +kernel
theorem dX6_spread_45 : decode cX6_spread 45 = .ok (.bipush (-2), 2) := by decide +kernel
theorem dX6_spread_47 : decode cX6_spread 47 = .ok (.iastore, 1) := by decide +kernel
theorem dX6_spread_48 : decode cX6_spread 48 = .ok (.iinc 2 1, 3) := by decide +kernel
theorem dX6_spread_51 : decode cX6_spread 51 = .ok (.goto (-49), 3) := by decide +kernel
theorem dX6_spread_54 : decode cX6_spread 54 = .ok (.aload_n 0, 1) := by decide +kernel
theorem dX6_spread_55 : decode cX6_spread 55 = .ok (.getfield 39, 3) := by decide +kernel
theorem dX6_spread_58 : decode cX6_spread 58 = .ok (.getfield 52, 3) := by decide +kernel
theorem dX6_spread_61 : decode cX6_spread 61 = .ok (.iload_n 1, 1) := by decide +kernel
theorem dX6_spread_62 : decode cX6_spread 62 = .ok (.invokevirtual 143, 3) := by decide +kernel
theorem dX6_spread_65 : decode cX6_spread 65 = .ok (.ifCond .ne 4, 3) := by decide +kernel
theorem dX6_spread_68 : decode cX6_spread 68 = .ok (.return_, 1) := by decide +kernel
theorem dX6_spread_69 : decode cX6_spread 69 = .ok (.aload_n 0, 1) := by decide +kernel
theorem dX6_spread_70 : decode cX6_spread 70 = .ok (.getfield 15, 3) := by decide +kernel
theorem dX6_spread_73 : decode cX6_spread 73 = .ok (.iload_n 1, 1) := by decide +kernel
theorem dX6_spread_74 : decode cX6_spread 74 = .ok (.bipush 48, 2) := by decide +kernel
theorem dX6_spread_76 : decode cX6_spread 76 = .ok (.imul, 1) := by decide +kernel
theorem dX6_spread_77 : decode cX6_spread 77 = .ok (.iload_n 1, 1) := by decide +kernel
theorem dX6_spread_78 : decode cX6_spread 78 = .ok (.iadd, 1) := by decide +kernel
theorem dX6_spread_79 : decode cX6_spread 79 = .ok (.iconst 0, 1) := by decide +kernel
theorem dX6_spread_80 : decode cX6_spread 80 = .ok (.iastore, 1) := by decide +kernel
theorem dX6_spread_81 : decode cX6_spread 81 = .ok (.aload_n 0, 1) := by decide +kernel
theorem dX6_spread_82 : decode cX6_spread 82 = .ok (.getfield 18, 3) := by decide +kernel
theorem dX6_spread_85 : decode cX6_spread 85 = .ok (.iload_n 1, 1) := by decide +kernel
theorem dX6_spread_86 : decode cX6_spread 86 = .ok (.bipush 48, 2) := by decide +kernel
theorem dX6_spread_88 : decode cX6_spread 88 = .ok (.imul, 1) := by decide +kernel
theorem dX6_spread_89 : decode cX6_spread 89 = .ok (.iload_n 1, 1) := by decide +kernel
theorem dX6_spread_90 : decode cX6_spread 90 = .ok (.iadd, 1) := by decide +kernel
theorem dX6_spread_91 : decode cX6_spread 91 = .ok (.iconst 0, 1) := by decide +kernel
theorem dX6_spread_92 : decode cX6_spread 92 = .ok (.iastore, 1) := by decide +kernel
theorem dX6_spread_93 : decode cX6_spread 93 = .ok (.aload_n 0, 1) := by decide +kernel
theorem dX6_spread_94 : decode cX6_spread 94 = .ok (.getfield 21, 3) := by decide +kernel
theorem dX6_spread_97 : decode cX6_spread 97 = .ok (.iconst 0, 1) := by decide +kernel
theorem dX6_spread_98 : decode cX6_spread 98 = .ok (.iload_n 1, 1) := by decide +kernel
theorem dX6_spread_99 : decode cX6_spread 99 = .ok (.iastore, 1) := by decide +kernel
theorem dX6_spread_100 : decode cX6_spread 100 = .ok (.iconst 1, 1) := by decide +kernel
theorem dX6_spread_101 : decode cX6_spread 101 = .ok (.istore_n 2, 1) := by decide +kernel
theorem dX6_spread_102 : decode cX6_spread 102 = .ok (.iconst 0, 1) := by decide +kernel
theorem dX6_spread_103 : decode cX6_spread 103 = .ok (.istore_n 3, 1) := by decide +kernel
theorem dX6_spread_104 : decode cX6_spread 104 = .ok (.iload_n 3, 1) := by decide +kernel
theorem dX6_spread_105 : decode cX6_spread 105 = .ok (.iload_n 2, 1) := by decide +kernel
theorem dX6_spread_106 : decode cX6_spread 106 = .ok (.if_icmp .ge 89, 3) := by decide +kernel
theorem dX6_spread_109 : decode cX6_spread 109 = .ok (.iload_n 3, 1) := by decide +kernel
theorem dX6_spread_110 : decode cX6_spread 110 = .ok (.bipush 48, 2) := by decide +kernel
theorem dX6_spread_112 : decode cX6_spread 112 = .ok (.if_icmp .ge 83, 3) := by decide +kernel
theorem dX6_spread_115 : decode cX6_spread 115 = .ok (.iconst 1, 1) := by decide +kernel
theorem dX6_spread_116 : decode cX6_spread 116 = .ok (.istore 4, 2) := by decide +kernel
theorem dX6_spread_118 : decode cX6_spread 118 = .ok (.iload 4, 2) := by decide +kernel
theorem dX6_spread_120 : decode cX6_spread 120 = .ok (.iconst 5, 1) := by decide +kernel
theorem dX6_spread_121 : decode cX6_spread 121 = .ok (.if_icmp .ge 68, 3) := by decide +kernel
theorem dX6_spread_124 : decode cX6_spread 124 = .ok (.aload_n 0, 1) := by decide +kernel
theorem dX6_spread_125 : decode cX6_spread 125 = .ok (.aload_n 0, 1) := by decide +kernel
theorem dX6_spread_126 : decode cX6_spread 126 = .ok (.getfield 21, 3) := by decide +kernel
theorem dX6_spread_129 : decode cX6_spread 129 = .ok (.iload_n 3, 1) := by decide +kernel
theorem dX6_spread_130 : decode cX6_spread 130 = .ok (.iaload, 1) := by decide +kernel
theorem dX6_spread_131 : decode cX6_spread 131 = .ok (.iload 4, 2) := by decide +kernel
theorem dX6_spread_133 : decode cX6_spread 133 = .ok (.invokevirtual 150, 3) := by decide +kernel
theorem dX6_spread_136 : decode cX6_spread 136 = .ok (.istore 5, 2) := by decide +kernel
theorem dX6_spread_138 : decode cX6_spread 138 = .ok (.iload 5, 2) := by decide +kernel
theorem dX6_spread_140 : decode cX6_spread 140 = .ok (.ifCond .lt 43, 3) := by decide +kernel
theorem dX6_spread_143 : decode cX6_spread 143 = .ok (.iload 5, 2) := by decide +kernel
theorem dX6_spread_145 : decode cX6_spread 145 = .ok (.bipush 48, 2) := by decide +kernel
theorem dX6_spread_147 : decode cX6_spread 147 = .ok (.if_icmp .ge 36, 3) := by decide +kernel
theorem dX6_spread_150 : decode cX6_spread 150 = .ok (.aload_n 0, 1) := by decide +kernel
theorem dX6_spread_151 : decode cX6_spread 151 = .ok (.iload_n 1, 1) := by decide +kernel
theorem dX6_spread_152 : decode cX6_spread 152 = .ok (.aload_n 0, 1) := by decide +kernel
theorem dX6_spread_153 : decode cX6_spread 153 = .ok (.getfield 21, 3) := by decide +kernel
theorem dX6_spread_156 : decode cX6_spread 156 = .ok (.iload_n 3, 1) := by decide +kernel
theorem dX6_spread_157 : decode cX6_spread 157 = .ok (.iaload, 1) := by decide +kernel
theorem dX6_spread_158 : decode cX6_spread 158 = .ok (.iload 5, 2) := by decide +kernel
theorem dX6_spread_160 : decode cX6_spread 160 = .ok (.invokevirtual 153, 3) := by decide +kernel
theorem dX6_spread_163 : decode cX6_spread 163 = .ok (.ifCond .eq 20, 3) := by decide +kernel
theorem dX6_spread_166 : decode cX6_spread 166 = .ok (.iload_n 2, 1) := by decide +kernel
theorem dX6_spread_167 : decode cX6_spread 167 = .ok (.bipush 48, 2) := by decide +kernel
theorem dX6_spread_169 : decode cX6_spread 169 = .ok (.if_icmp .ge 14, 3) := by decide +kernel
theorem dX6_spread_172 : decode cX6_spread 172 = .ok (.aload_n 0, 1) := by decide +kernel
theorem dX6_spread_173 : decode cX6_spread 173 = .ok (.getfield 21, 3) := by decide +kernel
theorem dX6_spread_176 : decode cX6_spread 176 = .ok (.iload_n 2, 1) := by decide +kernel
theorem dX6_spread_177 : decode cX6_spread 177 = .ok (.iload 5, 2) := by decide +kernel
theorem dX6_spread_179 : decode cX6_spread 179 = .ok (.iastore, 1) := by decide +kernel
theorem dX6_spread_180 : decode cX6_spread 180 = .ok (.iinc 2 1, 3) := by decide +kernel
theorem dX6_spread_183 : decode cX6_spread 183 = .ok (.iinc 4 1, 3) := by decide +kernel
theorem dX6_spread_186 : decode cX6_spread 186 = .ok (.goto (-68), 3) := by decide +kernel
theorem dX6_spread_189 : decode cX6_spread 189 = .ok (.iinc 3 1, 3) := by decide +kernel
theorem dX6_spread_192 : decode cX6_spread 192 = .ok (.goto (-88), 3) := by decide +kernel
theorem dX6_spread_195 : decode cX6_spread 195 = .ok (.return_, 1) := by decide +kernel
theorem dX6_freshenWays_0 : decode cX6_freshenWays 0 = .ok (.aload_n 0, 1) := by decide +kernel
theorem dX6_freshenWays_1 : decode cX6_freshenWays 1 = .ok (.getfield 39, 3) := by decide +kernel
theorem dX6_freshenWays_4 : decode cX6_freshenWays 4 = .ok (.getfield 43, 3) := by decide +kernel
theorem dX6_freshenWays_7 : decode cX6_freshenWays 7 = .ok (.ifCond .ne 4, 3) := by decide +kernel
theorem dX6_freshenWays_10 : decode cX6_freshenWays 10 = .ok (.return_, 1) := by decide +kernel
theorem dX6_freshenWays_11 : decode cX6_freshenWays 11 = .ok (.aload_n 0, 1) := by decide +kernel
theorem dX6_freshenWays_12 : decode cX6_freshenWays 12 = .ok (.getfield 39, 3) := by decide +kernel
theorem dX6_freshenWays_15 : decode cX6_freshenWays 15 = .ok (.iconst 0, 1) := by decide +kernel
theorem dX6_freshenWays_16 : decode cX6_freshenWays 16 = .ok (.putfield 43, 3) := by decide +kernel
theorem dX6_freshenWays_19 : decode cX6_freshenWays 19 = .ok (.aload_n 0, 1) := by decide +kernel
theorem dX6_freshenWays_20 : decode cX6_freshenWays 20 = .ok (.invokevirtual 49, 3) := by decide +kernel
theorem dX6_freshenWays_23 : decode cX6_freshenWays 23 = .ok (.iconst 0, 1) := by decide +kernel
theorem dX6_freshenWays_24 : decode cX6_freshenWays 24 = .ok (.istore_n 1, 1) := by decide +kernel
theorem dX6_freshenWays_25 : decode cX6_freshenWays 25 = .ok (.iload_n 1, 1) := by decide +kernel
theorem dX6_freshenWays_26 : decode cX6_freshenWays 26 = .ok (.aload_n 0, 1) := by decide +kernel
theorem dX6_freshenWays_27 : decode cX6_freshenWays 27 = .ok (.getfield 39, 3) := by decide +kernel
theorem dX6_freshenWays_30 : decode cX6_freshenWays 30 = .ok (.getfield 52, 3) := by decide +kernel
theorem dX6_freshenWays_33 : decode cX6_freshenWays 33 = .ok (.invokevirtual 56, 3) := by decide +kernel
theorem dX6_freshenWays_36 : decode cX6_freshenWays 36 = .ok (.if_icmp .ge 20, 3) := by decide +kernel
theorem dX6_freshenWays_39 : decode cX6_freshenWays 39 = .ok (.iload_n 1, 1) := by decide +kernel
theorem dX6_freshenWays_40 : decode cX6_freshenWays 40 = .ok (.bipush 48, 2) := by decide +kernel
theorem dX6_freshenWays_42 : decode cX6_freshenWays 42 = .ok (.if_icmp .ge 14, 3) := by decide +kernel
theorem dX6_freshenWays_45 : decode cX6_freshenWays 45 = .ok (.aload_n 0, 1) := by decide +kernel
theorem dX6_freshenWays_46 : decode cX6_freshenWays 46 = .ok (.iload_n 1, 1) := by decide +kernel
theorem dX6_freshenWays_47 : decode cX6_freshenWays 47 = .ok (.invokevirtual 62, 3) := by decide +kernel
theorem dX6_freshenWays_50 : decode cX6_freshenWays 50 = .ok (.iinc 1 1, 3) := by decide +kernel
theorem dX6_freshenWays_53 : decode cX6_freshenWays 53 = .ok (.goto (-28), 3) := by decide +kernel
theorem dX6_freshenWays_56 : decode cX6_freshenWays 56 = .ok (.return_, 1) := by decide +kernel
theorem dX13_apart_0 : decode cX13_apart 0 = .ok (.aload_n 0, 1) := by decide +kernel
theorem dX13_apart_1 : decode cX13_apart 1 = .ok (.getfield 52, 3) := by decide +kernel
theorem dX13_apart_4 : decode cX13_apart 4 = .ok (.invokevirtual 180, 3) := by decide +kernel
theorem dX13_apart_7 : decode cX13_apart 7 = .ok (.aload_n 0, 1) := by decide +kernel
theorem dX13_apart_8 : decode cX13_apart 8 = .ok (.getfield 70, 3) := by decide +kernel
theorem dX13_apart_11 : decode cX13_apart 11 = .ok (.iload_n 1, 1) := by decide +kernel
theorem dX13_apart_12 : decode cX13_apart 12 = .ok (.iload_n 2, 1) := by decide +kernel
theorem dX13_apart_13 : decode cX13_apart 13 = .ok (.lload_n 3, 1) := by decide +kernel
theorem dX13_apart_14 : decode cX13_apart 14 = .ok (.invokevirtual 281, 3) := by decide +kernel
theorem dX13_apart_17 : decode cX13_apart 17 = .ok (.ireturn, 1) := by decide +kernel
theorem dX13_back_0 : decode cX13_back 0 = .ok (.aload_n 0, 1) := by decide +kernel
theorem dX13_back_1 : decode cX13_back 1 = .ok (.getfield 36, 3) := by decide +kernel
theorem dX13_back_4 : decode cX13_back 4 = .ok (.invokevirtual 308, 3) := by decide +kernel
theorem dX13_back_7 : decode cX13_back 7 = .ok (.ireturn, 1) := by decide +kernel
theorem dX13_cell_0 : decode cX13_cell 0 = .ok (.aload_n 0, 1) := by decide +kernel
theorem dX13_cell_1 : decode cX13_cell 1 = .ok (.getfield 36, 3) := by decide +kernel
theorem dX13_cell_4 : decode cX13_cell 4 = .ok (.getfield 86, 3) := by decide +kernel
theorem dX13_cell_7 : decode cX13_cell 7 = .ok (.iload_n 1, 1) := by decide +kernel
theorem dX13_cell_8 : decode cX13_cell 8 = .ok (.invokevirtual 152, 3) := by decide +kernel
theorem dX13_cell_11 : decode cX13_cell 11 = .ok (.ifCond .ne 5, 3) := by decide +kernel
theorem dX13_cell_14 : decode cX13_cell 14 = .ok (.iconst (-1), 1) := by decide +kernel
theorem dX13_cell_15 : decode cX13_cell 15 = .ok (.ireturn, 1) := by decide +kernel
theorem dX13_cell_16 : decode cX13_cell 16 = .ok (.iload_n 2, 1) := by decide +kernel
theorem dX13_cell_17 : decode cX13_cell 17 = .ok (.tableswitch 116 0 3 #[31, 66, 89, 104], 31) := by decide +kernel
theorem dX13_cell_48 : decode cX13_cell 48 = .ok (.aload_n 0, 1) := by decide +kernel
theorem dX13_cell_49 : decode cX13_cell 49 = .ok (.getfield 36, 3) := by decide +kernel
theorem dX13_cell_52 : decode cX13_cell 52 = .ok (.getfield 86, 3) := by decide +kernel
theorem dX13_cell_55 : decode cX13_cell 55 = .ok (.iload_n 1, 1) := by decide +kernel
theorem dX13_cell_56 : decode cX13_cell 56 = .ok (.invokevirtual 155, 3) := by decide +kernel
theorem dX13_cell_59 : decode cX13_cell 59 = .ok (.ifCond .eq 22, 3) := by decide +kernel
theorem dX13_cell_62 : decode cX13_cell 62 = .ok (.aload_n 0, 1) := by decide +kernel
