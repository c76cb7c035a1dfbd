theorem dX9_readMay_56 : decode cX9_readMay 56 = .ok (.iconst 3, 1) := by decide +kernel
theorem dX9_readMay_57 : decode cX9_readMay 57 = .ok (.if_icmp .gt 52, 3) := by decide +kernel
theorem dX9_readMay_60 : decode cX9_readMay 60 = .ok (.aload_n 0, 1) := by decide +kernel
theorem dX9_readMay_61 : decode cX9_readMay 61 = .ok (.getfield 27, 3) := by decide +kernel
theorem dX9_readMay_64 : decode cX9_readMay 64 = .ok (.getstatic 271, 3) := by decide +kernel
theorem dX9_readMay_67 : decode cX9_readMay 67 = .ok (.invokevirtual 230, 3) := by decide +kernel
theorem dX9_readMay_70 : decode cX9_readMay 70 = .ok (.ifCond .eq 39, 3) := by decide +kernel
theorem dX9_readMay_73 : decode cX9_readMay 73 = .ok (.aload_n 1, 1) := by decide +kernel
theorem dX9_readMay_74 : decode cX9_readMay 74 = .ok (.invokevirtual 120, 3) := by decide +kernel
theorem dX9_readMay_77 : decode cX9_readMay 77 = .ok (.ifCond .eq 9, 3) := by decide +kernel
theorem dX9_readMay_80 : decode cX9_readMay 80 = .ok (.aload_n 0, 1) := by decide +kernel
theorem dX9_readMay_81 : decode cX9_readMay 81 = .ok (.iconst 2, 1) := by decide +kernel
theorem dX9_readMay_82 : decode cX9_readMay 82 = .ok (.invokevirtual 83, 3) := by decide +kernel
theorem dX9_readMay_85 : decode cX9_readMay 85 = .ok (.ireturn, 1) := by decide +kernel
theorem dX9_readMay_86 : decode cX9_readMay 86 = .ok (.aload_n 0, 1) := by decide +kernel
theorem dX9_readMay_87 : decode cX9_readMay 87 = .ok (.getfield 27, 3) := by decide +kernel
theorem dX9_readMay_90 : decode cX9_readMay 90 = .ok (.invokevirtual 86, 3) := by decide +kernel
theorem dX9_readMay_93 : decode cX9_readMay 93 = .ok (.aload_n 0, 1) := by decide +kernel
theorem dX9_readMay_94 : decode cX9_readMay 94 = .ok (.aload_n 1, 1) := by decide +kernel
theorem dX9_readMay_95 : decode cX9_readMay 95 = .ok (.invokevirtual 129, 3) := by decide +kernel
theorem dX9_readMay_98 : decode cX9_readMay 98 = .ok (.ifCond .ne 5, 3) := by decide +kernel
theorem dX9_readMay_101 : decode cX9_readMay 101 = .ok (.iconst 0, 1) := by decide +kernel
theorem dX9_readMay_102 : decode cX9_readMay 102 = .ok (.ireturn, 1) := by decide +kernel
theorem dX9_readMay_103 : decode cX9_readMay 103 = .ok (.iinc 2 1, 3) := by decide +kernel
theorem dX9_readMay_106 : decode cX9_readMay 106 = .ok (.goto (-51), 3) := by decide +kernel
theorem dX9_readMay_109 : decode cX9_readMay 109 = .ok (.iconst 1, 1) := by decide +kernel
theorem dX9_readMay_110 : decode cX9_readMay 110 = .ok (.ireturn, 1) := by decide +kernel
theorem dX9_readPlaced_0 : decode cX9_readPlaced 0 = .ok (.aload_n 0, 1) := by decide +kernel
theorem dX9_readPlaced_1 : decode cX9_readPlaced 1 = .ok (.aload_n 1, 1) := by decide +kernel
theorem dX9_readPlaced_2 : decode cX9_readPlaced 2 = .ok (.invokevirtual 120, 3) := by decide +kernel
theorem dX9_readPlaced_5 : decode cX9_readPlaced 5 = .ok (.invokevirtual 125, 3) := by decide +kernel
theorem dX9_readPlaced_8 : decode cX9_readPlaced 8 = .ok (.ifCond .eq 11, 3) := by decide +kernel
theorem dX9_readPlaced_11 : decode cX9_readPlaced 11 = .ok (.aload_n 0, 1) := by decide +kernel
theorem dX9_readPlaced_12 : decode cX9_readPlaced 12 = .ok (.aload_n 1, 1) := by decide +kernel
theorem dX9_readPlaced_13 : decode cX9_readPlaced 13 = .ok (.invokevirtual 220, 3) := by decide +kernel
theorem dX9_readPlaced_16 : decode cX9_readPlaced 16 = .ok (.ifCond .ne 5, 3) := by decide +kernel
theorem dX9_readPlaced_19 : decode cX9_readPlaced 19 = .ok (.iconst 0, 1) := by decide +kernel
theorem dX9_readPlaced_20 : decode cX9_readPlaced 20 = .ok (.ireturn, 1) := by decide +kernel
theorem dX9_readPlaced_21 : decode cX9_readPlaced 21 = .ok (.aload_n 0, 1) := by decide +kernel
theorem dX9_readPlaced_22 : decode cX9_readPlaced 22 = .ok (.aload_n 0, 1) := by decide +kernel
theorem dX9_readPlaced_23 : decode cX9_readPlaced 23 = .ok (.getfield 31, 3) := by decide +kernel
theorem dX9_readPlaced_26 : decode cX9_readPlaced 26 = .ok (.getfield 187, 3) := by decide +kernel
theorem dX9_readPlaced_29 : decode cX9_readPlaced 29 = .ok (.invokevirtual 201, 3) := by decide +kernel
theorem dX9_readPlaced_32 : decode cX9_readPlaced 32 = .ok (.istore_n 3, 1) := by decide +kernel
theorem dX9_readPlaced_33 : decode cX9_readPlaced 33 = .ok (.iload_n 3, 1) := by decide +kernel
theorem dX9_readPlaced_34 : decode cX9_readPlaced 34 = .ok (.ifCond .ge 5, 3) := by decide +kernel
theorem dX9_readPlaced_37 : decode cX9_readPlaced 37 = .ok (.iconst 0, 1) := by decide +kernel
theorem dX9_readPlaced_38 : decode cX9_readPlaced 38 = .ok (.ireturn, 1) := by decide +kernel
theorem dX9_readPlaced_39 : decode cX9_readPlaced 39 = .ok (.aload_n 2, 1) := by decide +kernel
theorem dX9_readPlaced_40 : decode cX9_readPlaced 40 = .ok (.iload_n 3, 1) := by decide +kernel
theorem dX9_readPlaced_41 : decode cX9_readPlaced 41 = .ok (.invokevirtual 184, 3) := by decide +kernel
theorem dX9_readPlaced_44 : decode cX9_readPlaced 44 = .ok (.iconst 1, 1) := by decide +kernel
theorem dX9_readPlaced_45 : decode cX9_readPlaced 45 = .ok (.ireturn, 1) := by decide +kernel
theorem dX9_readPond_0 : decode cX9_readPond 0 = .ok (.aload_n 0, 1) := by decide +kernel
theorem dX9_readPond_1 : decode cX9_readPond 1 = .ok (.getfield 46, 3) := by decide +kernel
theorem dX9_readPond_4 : decode cX9_readPond 4 = .ok (.ifCond .eq 9, 3) := by decide +kernel
theorem dX9_readPond_7 : decode cX9_readPond 7 = .ok (.aload_n 0, 1) := by decide +kernel
theorem dX9_readPond_8 : decode cX9_readPond 8 = .ok (.iconst 3, 1) := by decide +kernel
theorem dX9_readPond_9 : decode cX9_readPond 9 = .ok (.invokevirtual 83, 3) := by decide +kernel
theorem dX9_readPond_12 : decode cX9_readPond 12 = .ok (.ireturn, 1) := by decide +kernel
theorem dX9_readPond_13 : decode cX9_readPond 13 = .ok (.aload_n 0, 1) := by decide +kernel
theorem dX9_readPond_14 : decode cX9_readPond 14 = .ok (.getfield 59, 3) := by decide +kernel
theorem dX9_readPond_17 : decode cX9_readPond 17 = .ok (.ifCond .eq 9, 3) := by decide +kernel
theorem dX9_readPond_20 : decode cX9_readPond 20 = .ok (.aload_n 0, 1) := by decide +kernel
theorem dX9_readPond_21 : decode cX9_readPond 21 = .ok (.iconst 4, 1) := by decide +kernel
theorem dX9_readPond_22 : decode cX9_readPond 22 = .ok (.invokevirtual 83, 3) := by decide +kernel
theorem dX9_readPond_25 : decode cX9_readPond 25 = .ok (.ireturn, 1) := by decide +kernel
theorem dX9_readPond_26 : decode cX9_readPond 26 = .ok (.aload_n 0, 1) := by decide +kernel
theorem dX9_readPond_27 : decode cX9_readPond 27 = .ok (.iconst 1, 1) := by decide +kernel
theorem dX9_readPond_28 : decode cX9_readPond 28 = .ok (.putfield 46, 3) := by decide +kernel
theorem dX9_readPond_31 : decode cX9_readPond 31 = .ok (.aload_n 0, 1) := by decide +kernel
theorem dX9_readPond_32 : decode cX9_readPond 32 = .ok (.getfield 27, 3) := by decide +kernel
theorem dX9_readPond_35 : decode cX9_readPond 35 = .ok (.invokevirtual 86, 3) := by decide +kernel
theorem dX9_readPond_38 : decode cX9_readPond 38 = .ok (.aload_n 0, 1) := by decide +kernel
theorem dX9_readPond_39 : decode cX9_readPond 39 = .ok (.iconst 1, 1) := by decide +kernel
theorem dX9_readPond_40 : decode cX9_readPond 40 = .ok (.bipush 8, 2) := by decide +kernel
theorem dX9_readPond_42 : decode cX9_readPond 42 = .ok (.invokevirtual 173, 3) := by decide +kernel
theorem dX9_readPond_45 : decode cX9_readPond 45 = .ok (.istore_n 1, 1) := by decide +kernel
theorem dX9_readPond_46 : decode cX9_readPond 46 = .ok (.iload_n 1, 1) := by decide +kernel
theorem dX9_readPond_47 : decode cX9_readPond 47 = .ok (.ifCond .ge 7, 3) := by decide +kernel
theorem dX9_readPond_50 : decode cX9_readPond 50 = .ok (.iconst (-1), 1) := by decide +kernel
theorem dX9_readPond_51 : decode cX9_readPond 51 = .ok (.goto 10, 3) := by decide +kernel
theorem dX9_readPond_54 : decode cX9_readPond 54 = .ok (.aload_n 0, 1) := by decide +kernel
theorem dX9_readPond_55 : decode cX9_readPond 55 = .ok (.iconst 1, 1) := by decide +kernel
theorem dX9_readPond_56 : decode cX9_readPond 56 = .ok (.bipush 6, 2) := by decide +kernel
theorem dX9_readPond_58 : decode cX9_readPond 58 = .ok (.invokevirtual 173, 3) := by decide +kernel
theorem dX9_readPond_61 : decode cX9_readPond 61 = .ok (.istore_n 2, 1) := by decide +kernel
theorem dX9_readPond_62 : decode cX9_readPond 62 = .ok (.iload_n 2, 1) := by decide +kernel
theorem dX9_readPond_63 : decode cX9_readPond 63 = .ok (.ifCond .ge 5, 3) := by decide +kernel
theorem dX9_readPond_66 : decode cX9_readPond 66 = .ok (.iconst 0, 1) := by decide +kernel
theorem dX9_readPond_67 : decode cX9_readPond 67 = .ok (.ireturn, 1) := by decide +kernel
theorem dX9_readPond_68 : decode cX9_readPond 68 = .ok (.aload_n 0, 1) := by decide +kernel
theorem dX9_readPond_69 : decode cX9_readPond 69 = .ok (.getfield 31, 3) := by decide +kernel
theorem dX9_readPond_72 : decode cX9_readPond 72 = .ok (.iload_n 1, 1) := by decide +kernel
theorem dX9_readPond_73 : decode cX9_readPond 73 = .ok (.putfield 170, 3) := by decide +kernel
theorem dX9_readPond_76 : decode cX9_readPond 76 = .ok (.aload_n 0, 1) := by decide +kernel
theorem dX9_readPond_77 : decode cX9_readPond 77 = .ok (.getfield 31, 3) := by decide +kernel
theorem dX9_readPond_80 : decode cX9_readPond 80 = .ok (.iload_n 2, 1) := by decide +kernel
theorem dX9_readPond_81 : decode cX9_readPond 81 = .ok (.putfield 177, 3) := by decide +kernel
theorem dX9_readPond_84 : decode cX9_readPond 84 = .ok (.iconst 1, 1) := by decide +kernel
theorem dX9_readPond_85 : decode cX9_readPond 85 = .ok (.ireturn, 1) := by decide +kernel
theorem dX9_readReed_0 : decode cX9_readReed 0 = .ok (.aload_n 0, 1) := by decide +kernel
theorem dX9_readReed_1 : decode cX9_readReed 1 = .ok (.aload_n 0, 1) := by decide +kernel
theorem dX9_readReed_2 : decode cX9_readReed 2 = .ok (.getfield 31, 3) := by decide +kernel
theorem dX9_readReed_5 : decode cX9_readReed 5 = .ok (.getfield 204, 3) := by decide +kernel
theorem dX9_readReed_8 : decode cX9_readReed 8 = .ok (.invokestatic 191, 3) := by decide +kernel
theorem dX9_readReed_11 : decode cX9_readReed 11 = .ok (.bipush 20, 2) := by decide +kernel
theorem dX9_readReed_13 : decode cX9_readReed 13 = .ok (.if_icmp .lt 7, 3) := by decide +kernel
theorem dX9_readReed_16 : decode cX9_readReed 16 = .ok (.iconst 1, 1) := by decide +kernel
theorem dX9_readReed_17 : decode cX9_readReed 17 = .ok (.goto 4, 3) := by decide +kernel
theorem dX9_readReed_20 : decode cX9_readReed 20 = .ok (.iconst 0, 1) := by decide +kernel
theorem dX9_readReed_21 : decode cX9_readReed 21 = .ok (.invokevirtual 125, 3) := by decide +kernel
theorem dX9_readReed_24 : decode cX9_readReed 24 = .ok (.ifCond .ne 5, 3) := by decide +kernel
theorem dX9_readReed_27 : decode cX9_readReed 27 = .ok (.iconst 0, 1) := by decide +kernel
theorem dX9_readReed_28 : decode cX9_readReed 28 = .ok (.ireturn, 1) := by decide +kernel
theorem dX9_readReed_29 : decode cX9_readReed 29 = .ok (.aload_n 0, 1) := by decide +kernel
theorem dX9_readReed_30 : decode cX9_readReed 30 = .ok (.aload_n 0, 1) := by decide +kernel
theorem dX9_readReed_31 : decode cX9_readReed 31 = .ok (.getfield 31, 3) := by decide +kernel
theorem dX9_readReed_34 : decode cX9_readReed 34 = .ok (.getfield 187, 3) := by decide +kernel
theorem dX9_readReed_37 : decode cX9_readReed 37 = .ok (.aload_n 0, 1) := by decide +kernel
theorem dX9_readReed_38 : decode cX9_readReed 38 = .ok (.getfield 31, 3) := by decide +kernel
theorem dX9_readReed_41 : decode cX9_readReed 41 = .ok (.getfield 204, 3) := by decide +kernel
theorem dX9_readReed_44 : decode cX9_readReed 44 = .ok (.lor, 1) := by decide +kernel
theorem dX9_readReed_45 : decode cX9_readReed 45 = .ok (.invokevirtual 201, 3) := by decide +kernel
theorem dX9_readReed_48 : decode cX9_readReed 48 = .ok (.istore_n 1, 1) := by decide +kernel
theorem dX9_readReed_49 : decode cX9_readReed 49 = .ok (.iload_n 1, 1) := by decide +kernel
theorem dX9_readReed_50 : decode cX9_readReed 50 = .ok (.ifCond .ge 5, 3) := by decide +kernel
theorem dX9_readReed_53 : decode cX9_readReed 53 = .ok (.iconst 0, 1) := by decide +kernel
theorem dX9_readReed_54 : decode cX9_readReed 54 = .ok (.ireturn, 1) := by decide +kernel
theorem dX9_readReed_55 : decode cX9_readReed 55 = .ok (.aload_n 0, 1) := by decide +kernel
theorem dX9_readReed_56 : decode cX9_readReed 56 = .ok (.getfield 31, 3) := by decide +kernel
theorem dX9_readReed_59 : decode cX9_readReed 59 = .ok (.dup, 1) := by decide +kernel
theorem dX9_readReed_60 : decode cX9_readReed 60 = .ok (.getfield 204, 3) := by decide +kernel
theorem dX9_readReed_63 : decode cX9_readReed 63 = .ok (.lconst 1, 1) := by decide +kernel
theorem dX9_readReed_64 : decode cX9_readReed 64 = .ok (.iload_n 1, 1) := by decide +kernel
theorem dX9_readReed_65 : decode cX9_readReed 65 = .ok (.lshl, 1) := by decide +kernel
theorem dX9_readReed_66 : decode cX9_readReed 66 = .ok (.lor, 1) := by decide +kernel
theorem dX9_readReed_67 : decode cX9_readReed 67 = .ok (.putfield 204, 3) := by decide +kernel
theorem dX9_readReed_70 : decode cX9_readReed 70 = .ok (.iconst 1, 1) := by decide +kernel
theorem dX9_readReed_71 : decode cX9_readReed 71 = .ok (.ireturn, 1) := by decide +kernel
theorem dX9_readSent_0 : decode cX9_readSent 0 = .ok (.aload_n 0, 1) := by decide +kernel
theorem dX9_readSent_1 : decode cX9_readSent 1 = .ok (.aload_n 0, 1) := by decide +kernel
theorem dX9_readSent_2 : decode cX9_readSent 2 = .ok (.getfield 56, 3) := by decide +kernel
theorem dX9_readSent_5 : decode cX9_readSent 5 = .ok (.bipush 99, 2) := by decide +kernel
theorem dX9_readSent_7 : decode cX9_readSent 7 = .ok (.invokevirtual 247, 3) := by decide +kernel
theorem dX9_readSent_10 : decode cX9_readSent 10 = .ok (.istore_n 1, 1) := by decide +kernel
theorem dX9_readSent_11 : decode cX9_readSent 11 = .ok (.aload_n 0, 1) := by decide +kernel
theorem dX9_readSent_12 : decode cX9_readSent 12 = .ok (.iconst 1, 1) := by decide +kernel
theorem dX9_readSent_13 : decode cX9_readSent 13 = .ok (.putfield 56, 3) := by decide +kernel
theorem dX9_readSent_16 : decode cX9_readSent 16 = .ok (.aload_n 0, 1) := by decide +kernel
theorem dX9_readSent_17 : decode cX9_readSent 17 = .ok (.getfield 31, 3) := by decide +kernel
theorem dX9_readSent_20 : decode cX9_readSent 20 = .ok (.iload_n 1, 1) := by decide +kernel
theorem dX9_readSent_21 : decode cX9_readSent 21 = .ok (.iconst 0, 1) := by decide +kernel
theorem dX9_readSent_22 : decode cX9_readSent 22 = .ok (.invokestatic 251, 3) := by decide +kernel
theorem dX9_readSent_25 : decode cX9_readSent 25 = .ok (.putfield 262, 3) := by decide +kernel
theorem dX9_readSent_28 : decode cX9_readSent 28 = .ok (.iload_n 1, 1) := by decide +kernel
theorem dX9_readSent_29 : decode cX9_readSent 29 = .ok (.ifCond .lt 7, 3) := by decide +kernel
theorem dX9_readSent_32 : decode cX9_readSent 32 = .ok (.iconst 1, 1) := by decide +kernel
theorem dX9_readSent_33 : decode cX9_readSent 33 = .ok (.goto 4, 3) := by decide +kernel
theorem dX9_readSent_36 : decode cX9_readSent 36 = .ok (.iconst 0, 1) := by decide +kernel
theorem dX9_readSent_37 : decode cX9_readSent 37 = .ok (.ireturn, 1) := by decide +kernel
theorem dX9_readThick_0 : decode cX9_readThick 0 = .ok (.aload_n 0, 1) := by decide +kernel
theorem dX9_readThick_1 : decode cX9_readThick 1 = .ok (.aload_n 0, 1) := by decide +kernel
theorem dX9_readThick_2 : decode cX9_readThick 2 = .ok (.getfield 53, 3) := by decide +kernel
theorem dX9_readThick_5 : decode cX9_readThick 5 = .ok (.bipush 99, 2) := by decide +kernel
theorem dX9_readThick_7 : decode cX9_readThick 7 = .ok (.invokevirtual 247, 3) := by decide +kernel
theorem dX9_readThick_10 : decode cX9_readThick 10 = .ok (.istore_n 1, 1) := by decide +kernel
theorem dX9_readThick_11 : decode cX9_readThick 11 = .ok (.aload_n 0, 1) := by decide +kernel
theorem dX9_readThick_12 : decode cX9_readThick 12 = .ok (.iconst 1, 1) := by decide +kernel
theorem dX9_readThick_13 : decode cX9_readThick 13 = .ok (.putfield 53, 3) := by decide +kernel
theorem dX9_readThick_16 : decode cX9_readThick 16 = .ok (.aload_n 0, 1) := by decide +kernel
theorem dX9_readThick_17 : decode cX9_readThick 17 = .ok (.getfield 31, 3) := by decide +kernel
theorem dX9_readThick_20 : decode cX9_readThick 20 = .ok (.iload_n 1, 1) := by decide +kernel
theorem dX9_readThick_21 : decode cX9_readThick 21 = .ok (.iconst 0, 1) := by decide +kernel
theorem dX9_readThick_22 : decode cX9_readThick 22 = .ok (.invokestatic 251, 3) := by decide +kernel
theorem dX9_readThick_25 : decode cX9_readThick 25 = .ok (.putfield 259, 3) := by decide +kernel
theorem dX9_readThick_28 : decode cX9_readThick 28 = .ok (.iload_n 1, 1) := by decide +kernel
theorem dX9_readThick_29 : decode cX9_readThick 29 = .ok (.ifCond .lt 7, 3) := by decide +kernel
theorem dX9_readThick_32 : decode cX9_readThick 32 = .ok (.iconst 1, 1) := by decide +kernel
theorem dX9_readThick_33 : decode cX9_readThick 33 = .ok (.goto 4, 3) := by decide +kernel
theorem dX9_readThick_36 : decode cX9_readThick 36 = .ok (.iconst 0, 1) := by decide +kernel
theorem dX9_readThick_37 : decode cX9_readThick 37 = .ok (.ireturn, 1) := by decide +kernel
theorem dX9_readLine_0 : decode cX9_readLine 0 = .ok (.aload_n 0, 1) := by decide +kernel
theorem dX9_readLine_1 : decode cX9_readLine 1 = .ok (.getfield 27, 3) := by decide +kernel
theorem dX9_readLine_4 : decode cX9_readLine 4 = .ok (.getfield 66, 3) := by decide +kernel
theorem dX9_readLine_7 : decode cX9_readLine 7 = .ok (.iconst 3, 1) := by decide +kernel
theorem dX9_readLine_8 : decode cX9_readLine 8 = .ok (.if_icmp .ne 16, 3) := by decide +kernel
theorem dX9_readLine_11 : decode cX9_readLine 11 = .ok (.aload_n 0, 1) := by decide +kernel
theorem dX9_readLine_12 : decode cX9_readLine 12 = .ok (.getfield 27, 3) := by decide +kernel
theorem dX9_readLine_15 : decode cX9_readLine 15 = .ok (.getfield 89, 3) := by decide +kernel
theorem dX9_readLine_18 : decode cX9_readLine 18 = .ok (.invokestatic 92, 3) := by decide +kernel
theorem dX9_readLine_21 : decode cX9_readLine 21 = .ok (.goto 4, 3) := by decide +kernel
theorem dX9_readLine_24 : decode cX9_readLine 24 = .ok (.aconst_null, 1) := by decide +kernel
theorem dX9_readLine_25 : decode cX9_readLine 25 = .ok (.astore_n 1, 1) := by decide +kernel
theorem dX9_readLine_26 : decode cX9_readLine 26 = .ok (.aload_n 1, 1) := by decide +kernel
theorem dX9_readLine_27 : decode cX9_readLine 27 = .ok (.ifnonnull 9, 3) := by decide +kernel
theorem dX9_readLine_30 : decode cX9_readLine 30 = .ok (.aload_n 0, 1) := by decide +kernel
theorem dX9_readLine_31 : decode cX9_readLine 31 = .ok (.iconst 1, 1) := by decide +kernel
theorem dX9_readLine_32 : decode cX9_readLine 32 = .ok (.invokevirtual 83, 3) := by decide +kernel
theorem dX9_readLine_35 : decode cX9_readLine 35 = .ok (.ireturn, 1) := by decide +kernel
theorem dX9_readLine_36 : decode cX9_readLine 36 = .ok (.getstatic 98, 3) := by decide +kernel
theorem dX9_readLine_39 : decode cX9_readLine 39 = .ok (.aload_n 1, 1) := by decide +kernel
theorem dX9_readLine_40 : decode cX9_readLine 40 = .ok (.invokevirtual 103, 3) := by decide +kernel
theorem dX9_readLine_43 : decode cX9_readLine 43 = .ok (.iaload, 1) := by decide +kernel
theorem dX9_readLine_44 : decode cX9_readLine 44 = .ok (.tableswitch 193 1 13 #[68, 73, 78, 83, 120, 125, 144, 163, 168, 173, 178, 183, 188], 68) := by decide +kernel
theorem dX9_readLine_112 : decode cX9_readLine 112 = .ok (.aload_n 0, 1) := by decide +kernel
theorem dX9_readLine_113 : decode cX9_readLine 113 = .ok (.invokevirtual 107, 3) := by decide +kernel
theorem dX9_readLine_116 : decode cX9_readLine 116 = .ok (.ireturn, 1) := by decide +kernel
theorem dX9_readLine_117 : decode cX9_readLine 117 = .ok (.aload_n 0, 1) := by decide +kernel
theorem dX9_readLine_118 : decode cX9_readLine 118 = .ok (.invokevirtual 110, 3) := by decide +kernel
theorem dX9_readLine_121 : decode cX9_readLine 121 = .ok (.ireturn, 1) := by decide +kernel
theorem dX9_readLine_122 : decode cX9_readLine 122 = .ok (.aload_n 0, 1) := by decide +kernel
theorem dX9_readLine_123 : decode cX9_readLine 123 = .ok (.invokevirtual 113, 3) := by decide +kernel
theorem dX9_readLine_126 : decode cX9_readLine 126 = .ok (.ireturn, 1) := by decide +kernel
theorem dX9_readLine_127 : decode cX9_readLine 127 = .ok (.aload_n 0, 1) := by decide +kernel
theorem dX9_readLine_128 : decode cX9_readLine 128 = .ok (.aload_n 0, 1) := by decide +kernel
theorem dX9_readLine_129 : decode cX9_readLine 129 = .ok (.getfield 31, 3) := by decide +kernel
theorem dX9_readLine_132 : decode cX9_readLine 132 = .ok (.getfield 116, 3) := by decide +kernel
theorem dX9_readLine_135 : decode cX9_readLine 135 = .ok (.invokevirtual 120, 3) := by decide +kernel
theorem dX9_readLine_138 : decode cX9_readLine 138 = .ok (.invokevirtual 125, 3) := by decide +kernel
theorem dX9_readLine_141 : decode cX9_readLine 141 = .ok (.ifCond .eq 21, 3) := by decide +kernel
theorem dX9_readLine_144 : decode cX9_readLine 144 = .ok (.aload_n 0, 1) := by decide +kernel
theorem dX9_readLine_145 : decode cX9_readLine 145 = .ok (.aload_n 0, 1) := by decide +kernel
theorem dX9_readLine_146 : decode cX9_readLine 146 = .ok (.getfield 31, 3) := by decide +kernel
theorem dX9_readLine_149 : decode cX9_readLine 149 = .ok (.getfield 116, 3) := by decide +kernel
theorem dX9_readLine_152 : decode cX9_readLine 152 = .ok (.invokevirtual 129, 3) := by decide +kernel
theorem dX9_readLine_155 : decode cX9_readLine 155 = .ok (.ifCond .eq 7, 3) := by decide +kernel
theorem dX9_readLine_158 : decode cX9_readLine 158 = .ok (.iconst 1, 1) := by decide +kernel
theorem dX9_readLine_159 : decode cX9_readLine 159 = .ok (.goto 4, 3) := by decide +kernel
theorem dX9_readLine_162 : decode cX9_readLine 162 = .ok (.iconst 0, 1) := by decide +kernel
theorem dX9_readLine_163 : decode cX9_readLine 163 = .ok (.ireturn, 1) := by decide +kernel
theorem dX9_readLine_164 : decode cX9_readLine 164 = .ok (.aload_n 0, 1) := by decide +kernel
theorem dX9_readLine_165 : decode cX9_readLine 165 = .ok (.invokevirtual 133, 3) := by decide +kernel
theorem dX9_readLine_168 : decode cX9_readLine 168 = .ok (.ireturn, 1) := by decide +kernel
theorem dX9_readLine_169 : decode cX9_readLine 169 = .ok (.aload_n 0, 1) := by decide +kernel
theorem dX9_readLine_170 : decode cX9_readLine 170 = .ok (.aload_n 0, 1) := by decide +kernel
theorem dX9_readLine_171 : decode cX9_readLine 171 = .ok (.getfield 31, 3) := by decide +kernel
theorem dX9_readLine_174 : decode cX9_readLine 174 = .ok (.getfield 136, 3) := by decide +kernel
theorem dX9_readLine_177 : decode cX9_readLine 177 = .ok (.aload_n 0, 1) := by decide +kernel
theorem dX9_readLine_178 : decode cX9_readLine 178 = .ok (.getfield 31, 3) := by decide +kernel
theorem dX9_readLine_181 : decode cX9_readLine 181 = .ok (.getfield 139, 3) := by decide +kernel
theorem dX9_readLine_184 : decode cX9_readLine 184 = .ok (.invokevirtual 142, 3) := by decide +kernel
theorem dX9_readLine_187 : decode cX9_readLine 187 = .ok (.ireturn, 1) := by decide +kernel
theorem dX9_readLine_188 : decode cX9_readLine 188 = .ok (.aload_n 0, 1) := by decide +kernel
theorem dX9_readLine_189 : decode cX9_readLine 189 = .ok (.aload_n 0, 1) := by decide +kernel
theorem dX9_readLine_190 : decode cX9_readLine 190 = .ok (.getfield 31, 3) := by decide +kernel
theorem dX9_readLine_193 : decode cX9_readLine 193 = .ok (.getfield 146, 3) := by decide +kernel
theorem dX9_readLine_196 : decode cX9_readLine 196 = .ok (.aload_n 0, 1) := by decide +kernel
theorem dX9_readLine_197 : decode cX9_readLine 197 = .ok (.getfield 31, 3) := by decide +kernel
theorem dX9_readLine_200 : decode cX9_readLine 200 = .ok (.getfield 149, 3) := by decide +kernel
theorem dX9_readLine_203 : decode cX9_readLine 203 = .ok (.invokevirtual 142, 3) := by decide +kernel
theorem dX9_readLine_206 : decode cX9_readLine 206 = .ok (.ireturn, 1) := by decide +kernel
theorem dX9_readLine_207 : decode cX9_readLine 207 = .ok (.aload_n 0, 1) := by decide +kernel
theorem dX9_readLine_208 : decode cX9_readLine 208 = .ok (.invokevirtual 152, 3) := by decide +kernel
theorem dX9_readLine_211 : decode cX9_readLine 211 = .ok (.ireturn, 1) := by decide +kernel
theorem dX9_readLine_212 : decode cX9_readLine 212 = .ok (.aload_n 0, 1) := by decide +kernel
theorem dX9_readLine_213 : decode cX9_readLine 213 = .ok (.invokevirtual 155, 3) := by decide +kernel
theorem dX9_readLine_216 : decode cX9_readLine 216 = .ok (.ireturn, 1) := by decide +kernel
theorem dX9_readLine_217 : decode cX9_readLine 217 = .ok (.aload_n 0, 1) := by decide +kernel
theorem dX9_readLine_218 : decode cX9_readLine 218 = .ok (.invokevirtual 158, 3) := by decide +kernel
theorem dX9_readLine_221 : decode cX9_readLine 221 = .ok (.ireturn, 1) := by decide +kernel
theorem dX9_readLine_222 : decode cX9_readLine 222 = .ok (.aload_n 0, 1) := by decide +kernel
theorem dX9_readLine_223 : decode cX9_readLine 223 = .ok (.invokevirtual 161, 3) := by decide +kernel
theorem dX9_readLine_226 : decode cX9_readLine 226 = .ok (.ireturn, 1) := by decide +kernel
theorem dX9_readLine_227 : decode cX9_readLine 227 = .ok (.aload_n 0, 1) := by decide +kernel
theorem dX9_readLine_228 : decode cX9_readLine 228 = .ok (.invokevirtual 164, 3) := by decide +kernel
theorem dX9_readLine_231 : decode cX9_readLine 231 = .ok (.ireturn, 1) := by decide +kernel
theorem dX9_readLine_232 : decode cX9_readLine 232 = .ok (.aload_n 0, 1) := by decide +kernel
theorem dX9_readLine_233 : decode cX9_readLine 233 = .ok (.invokevirtual 167, 3) := by decide +kernel
theorem dX9_readLine_236 : decode cX9_readLine 236 = .ok (.ireturn, 1) := by decide +kernel
theorem dX9_readLine_237 : decode cX9_readLine 237 = .ok (.aload_n 0, 1) := by decide +kernel
theorem dX9_readLine_238 : decode cX9_readLine 238 = .ok (.iconst 1, 1) := by decide +kernel
theorem dX9_readLine_239 : decode cX9_readLine 239 = .ok (.invokevirtual 83, 3) := by decide +kernel
theorem dX9_readLine_242 : decode cX9_readLine 242 = .ok (.ireturn, 1) := by decide +kernel
theorem dX9_read_0 : decode cX9_read 0 = .ok (.aload_n 0, 1) := by decide +kernel
theorem dX9_read_1 : decode cX9_read 1 = .ok (.aload_n 1, 1) := by decide +kernel
theorem dX9_read_2 : decode cX9_read 2 = .ok (.putfield 31, 3) := by decide +kernel
theorem dX9_read_5 : decode cX9_read 5 = .ok (.aload_n 0, 1) := by decide +kernel
theorem dX9_read_6 : decode cX9_read 6 = .ok (.getfield 31, 3) := by decide +kernel
theorem dX9_read_9 : decode cX9_read 9 = .ok (.invokevirtual 35, 3) := by decide +kernel
theorem dX9_read_12 : decode cX9_read 12 = .ok (.aload_n 0, 1) := by decide +kernel
theorem dX9_read_13 : decode cX9_read 13 = .ok (.iconst 0, 1) := by decide +kernel
theorem dX9_read_14 : decode cX9_read 14 = .ok (.putfield 40, 3) := by decide +kernel
theorem dX9_read_17 : decode cX9_read 17 = .ok (.aload_n 0, 1) := by decide +kernel
theorem dX9_read_18 : decode cX9_read 18 = .ok (.iconst (-1), 1) := by decide +kernel
theorem dX9_read_19 : decode cX9_read 19 = .ok (.putfield 9, 3) := by decide +kernel
theorem dX9_read_22 : decode cX9_read 22 = .ok (.aload_n 0, 1) := by decide +kernel
theorem dX9_read_23 : decode cX9_read 23 = .ok (.iconst 0, 1) := by decide +kernel
theorem dX9_read_24 : decode cX9_read 24 = .ok (.putfield 43, 3) := by decide +kernel
theorem dX9_read_27 : decode cX9_read 27 = .ok (.aload_n 0, 1) := by decide +kernel
theorem dX9_read_28 : decode cX9_read 28 = .ok (.iconst 0, 1) := by decide +kernel
theorem dX9_read_29 : decode cX9_read 29 = .ok (.putfield 46, 3) := by decide +kernel
theorem dX9_read_32 : decode cX9_read 32 = .ok (.aload_n 0, 1) := by decide +kernel
theorem dX9_read_33 : decode cX9_read 33 = .ok (.iconst 0, 1) := by decide +kernel
theorem dX9_read_34 : decode cX9_read 34 = .ok (.putfield 50, 3) := by decide +kernel
theorem dX9_read_37 : decode cX9_read 37 = .ok (.aload_n 0, 1) := by decide +kernel
theorem dX9_read_38 : decode cX9_read 38 = .ok (.iconst 0, 1) := by decide +kernel
theorem dX9_read_39 : decode cX9_read 39 = .ok (.putfield 53, 3) := by decide +kernel
theorem dX9_read_42 : decode cX9_read 42 = .ok (.aload_n 0, 1) := by decide +kernel
theorem dX9_read_43 : decode cX9_read 43 = .ok (.iconst 0, 1) := by decide +kernel
theorem dX9_read_44 : decode cX9_read 44 = .ok (.putfield 56, 3) := by decide +kernel
theorem dX9_read_47 : decode cX9_read 47 = .ok (.aload_n 0, 1) := by decide +kernel
theorem dX9_read_48 : decode cX9_read 48 = .ok (.iconst 0, 1) := by decide +kernel
theorem dX9_read_49 : decode cX9_read 49 = .ok (.putfield 59, 3) := by decide +kernel
theorem dX9_read_52 : decode cX9_read 52 = .ok (.aload_n 0, 1) := by decide +kernel
theorem dX9_read_53 : decode cX9_read 53 = .ok (.getfield 27, 3) := by decide +kernel
theorem dX9_read_56 : decode cX9_read 56 = .ok (.iload_n 2, 1) := by decide +kernel
theorem dX9_read_57 : decode cX9_read 57 = .ok (.invokevirtual 62, 3) := by decide +kernel
theorem dX9_read_60 : decode cX9_read 60 = .ok (.iload_n 2, 1) := by decide +kernel
theorem dX9_read_61 : decode cX9_read 61 = .ok (.istore_n 3, 1) := by decide +kernel
theorem dX9_read_62 : decode cX9_read 62 = .ok (.iload_n 3, 1) := by decide +kernel
theorem dX9_read_63 : decode cX9_read 63 = .ok (.ifCond .le 50, 3) := by decide +kernel
theorem dX9_read_66 : decode cX9_read 66 = .ok (.aload_n 0, 1) := by decide +kernel
theorem dX9_read_67 : decode cX9_read 67 = .ok (.getfield 27, 3) := by decide +kernel
theorem dX9_read_70 : decode cX9_read 70 = .ok (.getfield 66, 3) := by decide +kernel
theorem dX9_read_73 : decode cX9_read 73 = .ok (.ifCond .eq 40, 3) := by decide +kernel
theorem dX9_read_76 : decode cX9_read 76 = .ok (.aload_n 0, 1) := by decide +kernel
theorem dX9_read_77 : decode cX9_read 77 = .ok (.getfield 40, 3) := by decide +kernel
theorem dX9_read_80 : decode cX9_read 80 = .ok (.ifCond .ne 33, 3) := by decide +kernel
theorem dX9_read_83 : decode cX9_read 83 = .ok (.aload_n 0, 1) := by decide +kernel
theorem dX9_read_84 : decode cX9_read 84 = .ok (.invokevirtual 69, 3) := by decide +kernel
theorem dX9_read_87 : decode cX9_read 87 = .ok (.ifCond .eq 20, 3) := by decide +kernel
theorem dX9_read_90 : decode cX9_read 90 = .ok (.aload_n 0, 1) := by decide +kernel
theorem dX9_read_91 : decode cX9_read 91 = .ok (.invokevirtual 73, 3) := by decide +kernel
theorem dX9_read_94 : decode cX9_read 94 = .ok (.ifCond .eq 13, 3) := by decide +kernel
theorem dX9_read_97 : decode cX9_read 97 = .ok (.aload_n 0, 1) := by decide +kernel
theorem dX9_read_98 : decode cX9_read 98 = .ok (.dup, 1) := by decide +kernel
theorem dX9_read_99 : decode cX9_read 99 = .ok (.getfield 43, 3) := by decide +kernel
theorem dX9_read_102 : decode cX9_read 102 = .ok (.iconst 1, 1) := by decide +kernel
theorem dX9_read_103 : decode cX9_read 103 = .ok (.iadd, 1) := by decide +kernel
theorem dX9_read_104 : decode cX9_read 104 = .ok (.putfield 43, 3) := by decide +kernel
theorem dX9_read_107 : decode cX9_read 107 = .ok (.iinc 3 (-1), 3) := by decide +kernel
theorem dX9_read_110 : decode cX9_read 110 = .ok (.goto (-48), 3) := by decide +kernel
theorem dX9_read_113 : decode cX9_read 113 = .ok (.aload_n 0, 1) := by decide +kernel
theorem dX9_read_114 : decode cX9_read 114 = .ok (.getfield 40, 3) := by decide +kernel
theorem dX9_read_117 : decode cX9_read 117 = .ok (.ifCond .ne 7, 3) := by decide +kernel
theorem dX9_read_120 : decode cX9_read 120 = .ok (.iconst 1, 1) := by decide +kernel
theorem dX9_read_121 : decode cX9_read 121 = .ok (.goto 4, 3) := by decide +kernel
theorem dX9_read_124 : decode cX9_read 124 = .ok (.iconst 0, 1) := by decide +kernel
theorem dX9_read_125 : decode cX9_read 125 = .ok (.ireturn, 1) := by decide +kernel
theorem dX13_text_0 : decode cX13_text 0 = .ok (.iload_n 1, 1) := by decide +kernel
theorem dX13_text_1 : decode cX13_text 1 = .ok (.ifCond .lt 11, 3) := by decide +kernel
theorem dX13_text_4 : decode cX13_text 4 = .ok (.iload_n 1, 1) := by decide +kernel
theorem dX13_text_5 : decode cX13_text 5 = .ok (.aload_n 0, 1) := by decide +kernel
theorem dX13_text_6 : decode cX13_text 6 = .ok (.getfield 74, 3) := by decide +kernel
theorem dX13_text_9 : decode cX13_text 9 = .ok (.if_icmp .le 6, 3) := by decide +kernel
theorem dX13_text_12 : decode cX13_text 12 = .ok (.bipush (-2), 2) := by decide +kernel
theorem dX13_text_14 : decode cX13_text 14 = .ok (.ireturn, 1) := by decide +kernel
theorem dX13_text_15 : decode cX13_text 15 = .ok (.aload_n 0, 1) := by decide +kernel
theorem dX13_text_16 : decode cX13_text 16 = .ok (.iconst 0, 1) := by decide +kernel
theorem dX13_text_17 : decode cX13_text 17 = .ok (.putfield 74, 3) := by decide +kernel
theorem dX13_text_20 : decode cX13_text 20 = .ok (.aload_n 0, 1) := by decide +kernel
theorem dX13_text_21 : decode cX13_text 21 = .ok (.getfield 27, 3) := by decide +kernel
theorem dX13_text_24 : decode cX13_text 24 = .ok (.aload_n 0, 1) := by decide +kernel
theorem dX13_text_25 : decode cX13_text 25 = .ok (.getfield 18, 3) := by decide +kernel
theorem dX13_text_28 : decode cX13_text 28 = .ok (.iload_n 1, 1) := by decide +kernel
theorem dX13_text_29 : decode cX13_text 29 = .ok (.invokevirtual 82, 3) := by decide +kernel
theorem dX13_text_32 : decode cX13_text 32 = .ok (.ifCond .ne 5, 3) := by decide +kernel
theorem dX13_text_35 : decode cX13_text 35 = .ok (.iconst (-1), 1) := by decide +kernel
theorem dX13_text_36 : decode cX13_text 36 = .ok (.ireturn, 1) := by decide +kernel
theorem dX13_text_37 : decode cX13_text 37 = .ok (.aload_n 0, 1) := by decide +kernel
theorem dX13_text_38 : decode cX13_text 38 = .ok (.getfield 18, 3) := by decide +kernel
theorem dX13_text_41 : decode cX13_text 41 = .ok (.astore_n 2, 1) := by decide +kernel
theorem dX13_text_42 : decode cX13_text 42 = .ok (.aload_n 0, 1) := by decide +kernel
theorem dX13_text_43 : decode cX13_text 43 = .ok (.aload_n 0, 1) := by decide +kernel
theorem dX13_text_44 : decode cX13_text 44 = .ok (.getfield 36, 3) := by decide +kernel
theorem dX13_text_47 : decode cX13_text 47 = .ok (.getfield 86, 3) := by decide +kernel
theorem dX13_text_50 : decode cX13_text 50 = .ok (.putfield 18, 3) := by decide +kernel
theorem dX13_text_53 : decode cX13_text 53 = .ok (.aload_n 0, 1) := by decide +kernel
theorem dX13_text_54 : decode cX13_text 54 = .ok (.getfield 36, 3) := by decide +kernel
theorem dX13_text_57 : decode cX13_text 57 = .ok (.aload_n 2, 1) := by decide +kernel
theorem dX13_text_58 : decode cX13_text 58 = .ok (.invokevirtual 89, 3) := by decide +kernel
theorem dX13_text_61 : decode cX13_text 61 = .ok (.aload_n 0, 1) := by decide +kernel
theorem dX13_text_62 : decode cX13_text 62 = .ok (.getfield 43, 3) := by decide +kernel
theorem dX13_text_65 : decode cX13_text 65 = .ok (.invokevirtual 92, 3) := by decide +kernel
theorem dX13_text_68 : decode cX13_text 68 = .ok (.aload_n 0, 1) := by decide +kernel
theorem dX13_text_69 : decode cX13_text 69 = .ok (.getfield 27, 3) := by decide +kernel
theorem dX13_text_72 : decode cX13_text 72 = .ok (.getfield 95, 3) := by decide +kernel
theorem dX13_text_75 : decode cX13_text 75 = .ok (.ireturn, 1) := by decide +kernel
theorem dX13_undo_0 : decode cX13_undo 0 = .ok (.aload_n 0, 1) := by decide +kernel
theorem dX13_undo_1 : decode cX13_undo 1 = .ok (.getfield 36, 3) := by decide +kernel
theorem dX13_undo_4 : decode cX13_undo 4 = .ok (.invokevirtual 256, 3) := by decide +kernel
theorem dX13_undo_7 : decode cX13_undo 7 = .ok (.ireturn, 1) := by decide +kernel
theorem dX6_weakOf_0 : decode cX6_weakOf 0 = .ok (.iload_n 1, 1) := by decide +kernel
theorem dX6_weakOf_1 : decode cX6_weakOf 1 = .ok (.ifCond .lt 23, 3) := by decide +kernel
theorem dX6_weakOf_4 : decode cX6_weakOf 4 = .ok (.iload_n 1, 1) := by decide +kernel
theorem dX6_weakOf_5 : decode cX6_weakOf 5 = .ok (.bipush 48, 2) := by decide +kernel
theorem dX6_weakOf_7 : decode cX6_weakOf 7 = .ok (.if_icmp .ge 17, 3) := by decide +kernel
theorem dX6_weakOf_10 : decode cX6_weakOf 10 = .ok (.iload_n 2, 1) := by decide +kernel
theorem dX6_weakOf_11 : decode cX6_weakOf 11 = .ok (.ifCond .lt 13, 3) := by decide +kernel
theorem dX6_weakOf_14 : decode cX6_weakOf 14 = .ok (.iload_n 2, 1) := by decide +kernel
theorem dX6_weakOf_15 : decode cX6_weakOf 15 = .ok (.bipush 48, 2) := by decide +kernel
theorem dX6_weakOf_17 : decode cX6_weakOf 17 = .ok (.if_icmp .ge 7, 3) := by decide +kernel
theorem dX6_weakOf_20 : decode cX6_weakOf 20 = .ok (.iconst 1, 1) := by decide +kernel
theorem dX6_weakOf_21 : decode cX6_weakOf 21 = .ok (.goto 4, 3) := by decide +kernel
theorem dX6_weakOf_24 : decode cX6_weakOf 24 = .ok (.iconst 0, 1) := by decide +kernel
theorem dX6_weakOf_25 : decode cX6_weakOf 25 = .ok (.istore_n 3, 1) := by decide +kernel
theorem dX6_weakOf_26 : decode cX6_weakOf 26 = .ok (.iload_n 3, 1) := by decide +kernel
theorem dX6_weakOf_27 : decode cX6_weakOf 27 = .ok (.ifCond .eq 17, 3) := by decide +kernel
theorem dX6_weakOf_30 : decode cX6_weakOf 30 = .ok (.aload_n 0, 1) := by decide +kernel
theorem dX6_weakOf_31 : decode cX6_weakOf 31 = .ok (.getfield 18, 3) := by decide +kernel
theorem dX6_weakOf_34 : decode cX6_weakOf 34 = .ok (.iload_n 1, 1) := by decide +kernel
theorem dX6_weakOf_35 : decode cX6_weakOf 35 = .ok (.bipush 48, 2) := by decide +kernel
theorem dX6_weakOf_37 : decode cX6_weakOf 37 = .ok (.imul, 1) := by decide +kernel
theorem dX6_weakOf_38 : decode cX6_weakOf 38 = .ok (.iload_n 2, 1) := by decide +kernel
theorem dX6_weakOf_39 : decode cX6_weakOf 39 = .ok (.iadd, 1) := by decide +kernel
theorem dX6_weakOf_40 : decode cX6_weakOf 40 = .ok (.iaload, 1) := by decide +kernel
theorem dX6_weakOf_41 : decode cX6_weakOf 41 = .ok (.goto 5, 3) := by decide +kernel
theorem dX6_weakOf_44 : decode cX6_weakOf 44 = .ok (.bipush (-2), 2) := by decide +kernel
theorem dX6_weakOf_46 : decode cX6_weakOf 46 = .ok (.ireturn, 1) := by decide +kernel
theorem dX13_weak_0 : decode cX13_weak 0 = .ok (.aload_n 0, 1) := by decide +kernel
theorem dX13_weak_1 : decode cX13_weak 1 = .ok (.getfield 36, 3) := by decide +kernel
theorem dX13_weak_4 : decode cX13_weak 4 = .ok (.getfield 86, 3) := by decide +kernel
theorem dX13_weak_7 : decode cX13_weak 7 = .ok (.iload_n 1, 1) := by decide +kernel
theorem dX13_weak_8 : decode cX13_weak 8 = .ok (.invokevirtual 155, 3) := by decide +kernel
theorem dX13_weak_11 : decode cX13_weak 11 = .ok (.ifCond .eq 17, 3) := by decide +kernel
theorem dX13_weak_14 : decode cX13_weak 14 = .ok (.aload_n 0, 1) := by decide +kernel
theorem dX13_weak_15 : decode cX13_weak 15 = .ok (.getfield 36, 3) := by decide +kernel
theorem dX13_weak_18 : decode cX13_weak 18 = .ok (.getfield 86, 3) := by decide +kernel
theorem dX13_weak_21 : decode cX13_weak 21 = .ok (.iload_n 2, 1) := by decide +kernel
theorem dX13_weak_22 : decode cX13_weak 22 = .ok (.invokevirtual 155, 3) := by decide +kernel
theorem dX13_weak_25 : decode cX13_weak 25 = .ok (.ifCond .ne 5, 3) := by decide +kernel
theorem dX13_weak_28 : decode cX13_weak 28 = .ok (.iconst (-1), 1) := by decide +kernel
theorem dX13_weak_29 : decode cX13_weak 29 = .ok (.ireturn, 1) := by decide +kernel
theorem dX13_weak_30 : decode cX13_weak 30 = .ok (.aload_n 0, 1) := by decide +kernel
theorem dX13_weak_31 : decode cX13_weak 31 = .ok (.getfield 52, 3) := by decide +kernel
theorem dX13_weak_34 : decode cX13_weak 34 = .ok (.invokevirtual 180, 3) := by decide +kernel
theorem dX13_weak_37 : decode cX13_weak 37 = .ok (.aload_n 0, 1) := by decide +kernel
theorem dX13_weak_38 : decode cX13_weak 38 = .ok (.getfield 52, 3) := by decide +kernel
theorem dX13_weak_41 : decode cX13_weak 41 = .ok (.iload_n 1, 1) := by decide +kernel
theorem dX13_weak_42 : decode cX13_weak 42 = .ok (.iload_n 2, 1) := by decide +kernel
theorem dX13_weak_43 : decode cX13_weak 43 = .ok (.invokevirtual 186, 3) := by decide +kernel
theorem dX13_weak_46 : decode cX13_weak 46 = .ok (.ireturn, 1) := by decide +kernel
theorem dX8_cellAhead_0 : decode cX8_cellAhead 0 = .ok (.aload_n 0, 1) := by decide +kernel
theorem dX8_cellAhead_1 : decode cX8_cellAhead 1 = .ok (.iload_n 1, 1) := by decide +kernel
theorem dX8_cellAhead_2 : decode cX8_cellAhead 2 = .ok (.iload_n 2, 1) := by decide +kernel
theorem dX8_cellAhead_3 : decode cX8_cellAhead 3 = .ok (.invokevirtual 23, 3) := by decide +kernel
theorem dX8_cellAhead_6 : decode cX8_cellAhead 6 = .ok (.iload_n 2, 1) := by decide +kernel
theorem dX8_cellAhead_7 : decode cX8_cellAhead 7 = .ok (.ifCond .lt 21, 3) := by decide +kernel
theorem dX8_cellAhead_10 : decode cX8_cellAhead 10 = .ok (.iload_n 2, 1) := by decide +kernel
theorem dX8_cellAhead_11 : decode cX8_cellAhead 11 = .ok (.aload_n 0, 1) := by decide +kernel
theorem dX8_cellAhead_12 : decode cX8_cellAhead 12 = .ok (.getfield 9, 3) := by decide +kernel
theorem dX8_cellAhead_15 : decode cX8_cellAhead 15 = .ok (.arraylength, 1) := by decide +kernel
theorem dX8_cellAhead_16 : decode cX8_cellAhead 16 = .ok (.if_icmp .ge 12, 3) := by decide +kernel
theorem dX8_cellAhead_19 : decode cX8_cellAhead 19 = .ok (.aload_n 0, 1) := by decide +kernel
theorem dX8_cellAhead_20 : decode cX8_cellAhead 20 = .ok (.getfield 9, 3) := by decide +kernel
theorem dX8_cellAhead_23 : decode cX8_cellAhead 23 = .ok (.iload_n 2, 1) := by decide +kernel
theorem dX8_cellAhead_24 : decode cX8_cellAhead 24 = .ok (.iaload, 1) := by decide +kernel
theorem dX8_cellAhead_25 : decode cX8_cellAhead 25 = .ok (.goto 4, 3) := by decide +kernel
theorem dX8_cellAhead_28 : decode cX8_cellAhead 28 = .ok (.iconst (-1), 1) := by decide +kernel
theorem dX8_cellAhead_29 : decode cX8_cellAhead 29 = .ok (.ireturn, 1) := by decide +kernel
theorem dX13_where_0 : decode cX13_where 0 = .ok (.aload_n 0, 1) := by decide +kernel
theorem dX13_where_1 : decode cX13_where 1 = .ok (.getfield 36, 3) := by decide +kernel
theorem dX13_where_4 : decode cX13_where 4 = .ok (.getfield 86, 3) := by decide +kernel
theorem dX13_where_7 : decode cX13_where 7 = .ok (.getfield 117, 3) := by decide +kernel
theorem dX13_where_10 : decode cX13_where 10 = .ok (.iload_n 1, 1) := by decide +kernel
theorem dX13_where_11 : decode cX13_where 11 = .ok (.invokevirtual 123, 3) := by decide +kernel
theorem dX13_where_14 : decode cX13_where 14 = .ok (.ifCond .eq 12, 3) := by decide +kernel
theorem dX13_where_17 : decode cX13_where 17 = .ok (.iload_n 2, 1) := by decide +kernel
theorem dX13_where_18 : decode cX13_where 18 = .ok (.bipush 100, 2) := by decide +kernel
theorem dX13_where_20 : decode cX13_where 20 = .ok (.invokestatic 189, 3) := by decide +kernel
theorem dX13_where_23 : decode cX13_where 23 = .ok (.ifCond .ne 5, 3) := by decide +kernel
theorem dX13_where_26 : decode cX13_where 26 = .ok (.iconst (-1), 1) := by decide +kernel
theorem dX13_where_27 : decode cX13_where 27 = .ok (.ireturn, 1) := by decide +kernel
theorem dX13_where_28 : decode cX13_where 28 = .ok (.aload_n 0, 1) := by decide +kernel
theorem dX13_where_29 : decode cX13_where 29 = .ok (.getfield 52, 3) := by decide +kernel
theorem dX13_where_32 : decode cX13_where 32 = .ok (.invokevirtual 196, 3) := by decide +kernel
theorem dX13_where_35 : decode cX13_where 35 = .ok (.aload_n 0, 1) := by decide +kernel
theorem dX13_where_36 : decode cX13_where 36 = .ok (.getfield 61, 3) := by decide +kernel
theorem dX13_where_39 : decode cX13_where 39 = .ok (.iload_n 1, 1) := by decide +kernel
theorem dX13_where_40 : decode cX13_where 40 = .ok (.iload_n 2, 1) := by decide +kernel
theorem dX13_where_41 : decode cX13_where 41 = .ok (.invokevirtual 227, 3) := by decide +kernel
theorem dX13_where_44 : decode cX13_where 44 = .ok (.ireturn, 1) := by decide +kernel
