theorem dJ13_bitCount_95d88_0 : decode cJ13_bitCount_95d88 0 = .ok (.lload_n 0, 1) := by decide +kernel
theorem dJ13_bitCount_95d88_1 : decode cJ13_bitCount_95d88 1 = .ok (.lload_n 0, 1) := by decide +kernel
theorem dJ13_bitCount_95d88_2 : decode cJ13_bitCount_95d88 2 = .ok (.iconst 1, 1) := by decide +kernel
theorem dJ13_bitCount_95d88_3 : decode cJ13_bitCount_95d88 3 = .ok (.lushr, 1) := by decide +kernel
theorem dJ13_bitCount_95d88_4 : decode cJ13_bitCount_95d88 4 = .ok (.ldc2_w 314, 3) := by decide +kernel
theorem dJ13_bitCount_95d88_7 : decode cJ13_bitCount_95d88 7 = .ok (.land, 1) := by decide +kernel
theorem dJ13_bitCount_95d88_8 : decode cJ13_bitCount_95d88 8 = .ok (.lsub, 1) := by decide +kernel
theorem dJ13_bitCount_95d88_9 : decode cJ13_bitCount_95d88 9 = .ok (.lstore_n 0, 1) := by decide +kernel
theorem dJ13_bitCount_95d88_10 : decode cJ13_bitCount_95d88 10 = .ok (.lload_n 0, 1) := by decide +kernel
theorem dJ13_bitCount_95d88_11 : decode cJ13_bitCount_95d88 11 = .ok (.ldc2_w 316, 3) := by decide +kernel
theorem dJ13_bitCount_95d88_14 : decode cJ13_bitCount_95d88 14 = .ok (.land, 1) := by decide +kernel
theorem dJ13_bitCount_95d88_15 : decode cJ13_bitCount_95d88 15 = .ok (.lload_n 0, 1) := by decide +kernel
theorem dJ13_bitCount_95d88_16 : decode cJ13_bitCount_95d88 16 = .ok (.iconst 2, 1) := by decide +kernel
theorem dJ13_bitCount_95d88_17 : decode cJ13_bitCount_95d88 17 = .ok (.lushr, 1) := by decide +kernel
theorem dJ13_bitCount_95d88_18 : decode cJ13_bitCount_95d88 18 = .ok (.ldc2_w 316, 3) := by decide +kernel
theorem dJ13_bitCount_95d88_21 : decode cJ13_bitCount_95d88 21 = .ok (.land, 1) := by decide +kernel
theorem dJ13_bitCount_95d88_22 : decode cJ13_bitCount_95d88 22 = .ok (.ladd, 1) := by decide +kernel
theorem dJ13_bitCount_95d88_23 : decode cJ13_bitCount_95d88 23 = .ok (.lstore_n 0, 1) := by decide +kernel
theorem dJ13_bitCount_95d88_24 : decode cJ13_bitCount_95d88 24 = .ok (.lload_n 0, 1) := by decide +kernel
theorem dJ13_bitCount_95d88_25 : decode cJ13_bitCount_95d88 25 = .ok (.lload_n 0, 1) := by decide +kernel
theorem dJ13_bitCount_95d88_26 : decode cJ13_bitCount_95d88 26 = .ok (.iconst 4, 1) := by decide +kernel
theorem dJ13_bitCount_95d88_27 : decode cJ13_bitCount_95d88 27 = .ok (.lushr, 1) := by decide +kernel
theorem dJ13_bitCount_95d88_28 : decode cJ13_bitCount_95d88 28 = .ok (.ladd, 1) := by decide +kernel
theorem dJ13_bitCount_95d88_29 : decode cJ13_bitCount_95d88 29 = .ok (.ldc2_w 318, 3) := by decide +kernel
theorem dJ13_bitCount_95d88_32 : decode cJ13_bitCount_95d88 32 = .ok (.land, 1) := by decide +kernel
theorem dJ13_bitCount_95d88_33 : decode cJ13_bitCount_95d88 33 = .ok (.lstore_n 0, 1) := by decide +kernel
theorem dJ13_bitCount_95d88_34 : decode cJ13_bitCount_95d88 34 = .ok (.lload_n 0, 1) := by decide +kernel
theorem dJ13_bitCount_95d88_35 : decode cJ13_bitCount_95d88 35 = .ok (.lload_n 0, 1) := by decide +kernel
theorem dJ13_bitCount_95d88_36 : decode cJ13_bitCount_95d88 36 = .ok (.bipush 8, 2) := by decide +kernel
theorem dJ13_bitCount_95d88_38 : decode cJ13_bitCount_95d88 38 = .ok (.lushr, 1) := by decide +kernel
theorem dJ13_bitCount_95d88_39 : decode cJ13_bitCount_95d88 39 = .ok (.ladd, 1) := by decide +kernel
theorem dJ13_bitCount_95d88_40 : decode cJ13_bitCount_95d88 40 = .ok (.lstore_n 0, 1) := by decide +kernel
theorem dJ13_bitCount_95d88_41 : decode cJ13_bitCount_95d88 41 = .ok (.lload_n 0, 1) := by decide +kernel
theorem dJ13_bitCount_95d88_42 : decode cJ13_bitCount_95d88 42 = .ok (.lload_n 0, 1) := by decide +kernel
theorem dJ13_bitCount_95d88_43 : decode cJ13_bitCount_95d88 43 = .ok (.bipush 16, 2) := by decide +kernel
theorem dJ13_bitCount_95d88_45 : decode cJ13_bitCount_95d88 45 = .ok (.lushr, 1) := by decide +kernel
theorem dJ13_bitCount_95d88_46 : decode cJ13_bitCount_95d88 46 = .ok (.ladd, 1) := by decide +kernel
theorem dJ13_bitCount_95d88_47 : decode cJ13_bitCount_95d88 47 = .ok (.lstore_n 0, 1) := by decide +kernel
theorem dJ13_bitCount_95d88_48 : decode cJ13_bitCount_95d88 48 = .ok (.lload_n 0, 1) := by decide +kernel
theorem dJ13_bitCount_95d88_49 : decode cJ13_bitCount_95d88 49 = .ok (.lload_n 0, 1) := by decide +kernel
theorem dJ13_bitCount_95d88_50 : decode cJ13_bitCount_95d88 50 = .ok (.bipush 32, 2) := by decide +kernel
theorem dJ13_bitCount_95d88_52 : decode cJ13_bitCount_95d88 52 = .ok (.lushr, 1) := by decide +kernel
theorem dJ13_bitCount_95d88_53 : decode cJ13_bitCount_95d88 53 = .ok (.ladd, 1) := by decide +kernel
theorem dJ13_bitCount_95d88_54 : decode cJ13_bitCount_95d88 54 = .ok (.lstore_n 0, 1) := by decide +kernel
theorem dJ13_bitCount_95d88_55 : decode cJ13_bitCount_95d88 55 = .ok (.lload_n 0, 1) := by decide +kernel
theorem dJ13_bitCount_95d88_56 : decode cJ13_bitCount_95d88 56 = .ok (.l2i, 1) := by decide +kernel
theorem dJ13_bitCount_95d88_57 : decode cJ13_bitCount_95d88 57 = .ok (.bipush 127, 2) := by decide +kernel
theorem dJ13_bitCount_95d88_59 : decode cJ13_bitCount_95d88 59 = .ok (.iand, 1) := by decide +kernel
theorem dJ13_bitCount_95d88_60 : decode cJ13_bitCount_95d88 60 = .ok (.ireturn, 1) := by decide +kernel
theorem dJ6_bitCount_0f7a4_0 : decode cJ6_bitCount_0f7a4 0 = .ok (.iload_n 0, 1) := by decide +kernel
theorem dJ6_bitCount_0f7a4_1 : decode cJ6_bitCount_0f7a4 1 = .ok (.iload_n 0, 1) := by decide +kernel
theorem dJ6_bitCount_0f7a4_2 : decode cJ6_bitCount_0f7a4 2 = .ok (.iconst 1, 1) := by decide +kernel
theorem dJ6_bitCount_0f7a4_3 : decode cJ6_bitCount_0f7a4 3 = .ok (.iushr, 1) := by decide +kernel
theorem dJ6_bitCount_0f7a4_4 : decode cJ6_bitCount_0f7a4 4 = .ok (.ldc_w 265, 3) := by decide +kernel
theorem dJ6_bitCount_0f7a4_7 : decode cJ6_bitCount_0f7a4 7 = .ok (.iand, 1) := by decide +kernel
theorem dJ6_bitCount_0f7a4_8 : decode cJ6_bitCount_0f7a4 8 = .ok (.isub, 1) := by decide +kernel
theorem dJ6_bitCount_0f7a4_9 : decode cJ6_bitCount_0f7a4 9 = .ok (.istore_n 0, 1) := by decide +kernel
theorem dJ6_bitCount_0f7a4_10 : decode cJ6_bitCount_0f7a4 10 = .ok (.iload_n 0, 1) := by decide +kernel
theorem dJ6_bitCount_0f7a4_11 : decode cJ6_bitCount_0f7a4 11 = .ok (.ldc_w 266, 3) := by decide +kernel
theorem dJ6_bitCount_0f7a4_14 : decode cJ6_bitCount_0f7a4 14 = .ok (.iand, 1) := by decide +kernel
theorem dJ6_bitCount_0f7a4_15 : decode cJ6_bitCount_0f7a4 15 = .ok (.iload_n 0, 1) := by decide +kernel
theorem dJ6_bitCount_0f7a4_16 : decode cJ6_bitCount_0f7a4 16 = .ok (.iconst 2, 1) := by decide +kernel
theorem dJ6_bitCount_0f7a4_17 : decode cJ6_bitCount_0f7a4 17 = .ok (.iushr, 1) := by decide +kernel
theorem dJ6_bitCount_0f7a4_18 : decode cJ6_bitCount_0f7a4 18 = .ok (.ldc_w 266, 3) := by decide +kernel
theorem dJ6_bitCount_0f7a4_21 : decode cJ6_bitCount_0f7a4 21 = .ok (.iand, 1) := by decide +kernel
theorem dJ6_bitCount_0f7a4_22 : decode cJ6_bitCount_0f7a4 22 = .ok (.iadd, 1) := by decide +kernel
theorem dJ6_bitCount_0f7a4_23 : decode cJ6_bitCount_0f7a4 23 = .ok (.istore_n 0, 1) := by decide +kernel
theorem dJ6_bitCount_0f7a4_24 : decode cJ6_bitCount_0f7a4 24 = .ok (.iload_n 0, 1) := by decide +kernel
theorem dJ6_bitCount_0f7a4_25 : decode cJ6_bitCount_0f7a4 25 = .ok (.iload_n 0, 1) := by decide +kernel
theorem dJ6_bitCount_0f7a4_26 : decode cJ6_bitCount_0f7a4 26 = .ok (.iconst 4, 1) := by decide +kernel
theorem dJ6_bitCount_0f7a4_27 : decode cJ6_bitCount_0f7a4 27 = .ok (.iushr, 1) := by decide +kernel
theorem dJ6_bitCount_0f7a4_28 : decode cJ6_bitCount_0f7a4 28 = .ok (.iadd, 1) := by decide +kernel
theorem dJ6_bitCount_0f7a4_29 : decode cJ6_bitCount_0f7a4 29 = .ok (.ldc_w 267, 3) := by decide +kernel
theorem dJ6_bitCount_0f7a4_32 : decode cJ6_bitCount_0f7a4 32 = .ok (.iand, 1) := by decide +kernel
theorem dJ6_bitCount_0f7a4_33 : decode cJ6_bitCount_0f7a4 33 = .ok (.istore_n 0, 1) := by decide +kernel
theorem dJ6_bitCount_0f7a4_34 : decode cJ6_bitCount_0f7a4 34 = .ok (.iload_n 0, 1) := by decide +kernel
theorem dJ6_bitCount_0f7a4_35 : decode cJ6_bitCount_0f7a4 35 = .ok (.iload_n 0, 1) := by decide +kernel
theorem dJ6_bitCount_0f7a4_36 : decode cJ6_bitCount_0f7a4 36 = .ok (.bipush 8, 2) := by decide +kernel
theorem dJ6_bitCount_0f7a4_38 : decode cJ6_bitCount_0f7a4 38 = .ok (.iushr, 1) := by decide +kernel
theorem dJ6_bitCount_0f7a4_39 : decode cJ6_bitCount_0f7a4 39 = .ok (.iadd, 1) := by decide +kernel
theorem dJ6_bitCount_0f7a4_40 : decode cJ6_bitCount_0f7a4 40 = .ok (.istore_n 0, 1) := by decide +kernel
theorem dJ6_bitCount_0f7a4_41 : decode cJ6_bitCount_0f7a4 41 = .ok (.iload_n 0, 1) := by decide +kernel
theorem dJ6_bitCount_0f7a4_42 : decode cJ6_bitCount_0f7a4 42 = .ok (.iload_n 0, 1) := by decide +kernel
theorem dJ6_bitCount_0f7a4_43 : decode cJ6_bitCount_0f7a4 43 = .ok (.bipush 16, 2) := by decide +kernel
theorem dJ6_bitCount_0f7a4_45 : decode cJ6_bitCount_0f7a4 45 = .ok (.iushr, 1) := by decide +kernel
theorem dJ6_bitCount_0f7a4_46 : decode cJ6_bitCount_0f7a4 46 = .ok (.iadd, 1) := by decide +kernel
theorem dJ6_bitCount_0f7a4_47 : decode cJ6_bitCount_0f7a4 47 = .ok (.istore_n 0, 1) := by decide +kernel
theorem dJ6_bitCount_0f7a4_48 : decode cJ6_bitCount_0f7a4 48 = .ok (.iload_n 0, 1) := by decide +kernel
theorem dJ6_bitCount_0f7a4_49 : decode cJ6_bitCount_0f7a4 49 = .ok (.bipush 63, 2) := by decide +kernel
theorem dJ6_bitCount_0f7a4_51 : decode cJ6_bitCount_0f7a4 51 = .ok (.iand, 1) := by decide +kernel
theorem dJ6_bitCount_0f7a4_52 : decode cJ6_bitCount_0f7a4 52 = .ok (.ireturn, 1) := by decide +kernel
theorem dX12_of_0 : decode cX12_of 0 = .ok (.iconst 0, 1) := by decide +kernel
theorem dX12_of_1 : decode cX12_of 1 = .ok (.istore_n 1, 1) := by decide +kernel
theorem dX12_of_2 : decode cX12_of 2 = .ok (.iload_n 1, 1) := by decide +kernel
theorem dX12_of_3 : decode cX12_of 3 = .ok (.getstatic 112, 3) := by decide +kernel
theorem dX12_of_6 : decode cX12_of 6 = .ok (.arraylength, 1) := by decide +kernel
theorem dX12_of_7 : decode cX12_of 7 = .ok (.if_icmp .ge 27, 3) := by decide +kernel
theorem dX12_of_10 : decode cX12_of 10 = .ok (.getstatic 112, 3) := by decide +kernel
theorem dX12_of_13 : decode cX12_of 13 = .ok (.iload_n 1, 1) := by decide +kernel
theorem dX12_of_14 : decode cX12_of 14 = .ok (.aaload, 1) := by decide +kernel
theorem dX12_of_15 : decode cX12_of 15 = .ok (.getfield 95, 3) := by decide +kernel
theorem dX12_of_18 : decode cX12_of 18 = .ok (.iload_n 0, 1) := by decide +kernel
theorem dX12_of_19 : decode cX12_of 19 = .ok (.if_icmp .ne 9, 3) := by decide +kernel
theorem dX12_of_22 : decode cX12_of 22 = .ok (.getstatic 112, 3) := by decide +kernel
theorem dX12_of_25 : decode cX12_of 25 = .ok (.iload_n 1, 1) := by decide +kernel
theorem dX12_of_26 : decode cX12_of 26 = .ok (.aaload, 1) := by decide +kernel
theorem dX12_of_27 : decode cX12_of 27 = .ok (.areturn, 1) := by decide +kernel
theorem dX12_of_28 : decode cX12_of 28 = .ok (.iinc 1 1, 3) := by decide +kernel
theorem dX12_of_31 : decode cX12_of 31 = .ok (.goto (-29), 3) := by decide +kernel
theorem dX12_of_34 : decode cX12_of 34 = .ok (.aconst_null, 1) := by decide +kernel
theorem dX12_of_35 : decode cX12_of 35 = .ok (.areturn, 1) := by decide +kernel
theorem dX1_add_0 : decode cX1_add 0 = .ok (.aload_n 0, 1) := by decide +kernel
theorem dX1_add_1 : decode cX1_add 1 = .ok (.getfield 27, 3) := by decide +kernel
theorem dX1_add_4 : decode cX1_add 4 = .ok (.ifCond .lt 55, 3) := by decide +kernel
theorem dX1_add_7 : decode cX1_add 7 = .ok (.aload_n 0, 1) := by decide +kernel
theorem dX1_add_8 : decode cX1_add 8 = .ok (.getfield 27, 3) := by decide +kernel
theorem dX1_add_11 : decode cX1_add 11 = .ok (.aload_n 0, 1) := by decide +kernel
theorem dX1_add_12 : decode cX1_add 12 = .ok (.getfield 15, 3) := by decide +kernel
theorem dX1_add_15 : decode cX1_add 15 = .ok (.arraylength, 1) := by decide +kernel
theorem dX1_add_16 : decode cX1_add 16 = .ok (.if_icmp .ge 43, 3) := by decide +kernel
theorem dX1_add_19 : decode cX1_add 19 = .ok (.aload_n 0, 1) := by decide +kernel
theorem dX1_add_20 : decode cX1_add 20 = .ok (.getfield 15, 3) := by decide +kernel
theorem dX1_add_23 : decode cX1_add 23 = .ok (.aload_n 0, 1) := by decide +kernel
theorem dX1_add_24 : decode cX1_add 24 = .ok (.getfield 27, 3) := by decide +kernel
theorem dX1_add_27 : decode cX1_add 27 = .ok (.iload_n 1, 1) := by decide +kernel
theorem dX1_add_28 : decode cX1_add 28 = .ok (.iastore, 1) := by decide +kernel
theorem dX1_add_29 : decode cX1_add 29 = .ok (.aload_n 0, 1) := by decide +kernel
theorem dX1_add_30 : decode cX1_add 30 = .ok (.getfield 21, 3) := by decide +kernel
theorem dX1_add_33 : decode cX1_add 33 = .ok (.aload_n 0, 1) := by decide +kernel
theorem dX1_add_34 : decode cX1_add 34 = .ok (.getfield 27, 3) := by decide +kernel
theorem dX1_add_37 : decode cX1_add 37 = .ok (.iload_n 2, 1) := by decide +kernel
theorem dX1_add_38 : decode cX1_add 38 = .ok (.iastore, 1) := by decide +kernel
theorem dX1_add_39 : decode cX1_add 39 = .ok (.aload_n 0, 1) := by decide +kernel
theorem dX1_add_40 : decode cX1_add 40 = .ok (.getfield 24, 3) := by decide +kernel
theorem dX1_add_43 : decode cX1_add 43 = .ok (.aload_n 0, 1) := by decide +kernel
theorem dX1_add_44 : decode cX1_add 44 = .ok (.getfield 27, 3) := by decide +kernel
theorem dX1_add_47 : decode cX1_add 47 = .ok (.iload_n 3, 1) := by decide +kernel
theorem dX1_add_48 : decode cX1_add 48 = .ok (.iastore, 1) := by decide +kernel
theorem dX1_add_49 : decode cX1_add 49 = .ok (.aload_n 0, 1) := by decide +kernel
theorem dX1_add_50 : decode cX1_add 50 = .ok (.dup, 1) := by decide +kernel
theorem dX1_add_51 : decode cX1_add 51 = .ok (.getfield 27, 3) := by decide +kernel
theorem dX1_add_54 : decode cX1_add 54 = .ok (.iconst 1, 1) := by decide +kernel
theorem dX1_add_55 : decode cX1_add 55 = .ok (.iadd, 1) := by decide +kernel
theorem dX1_add_56 : decode cX1_add 56 = .ok (.putfield 27, 3) := by decide +kernel
theorem dX1_add_59 : decode cX1_add 59 = .ok (.return_, 1) := by decide +kernel
theorem dX1_clear_0 : decode cX1_clear 0 = .ok (.aload_n 0, 1) := by decide +kernel
theorem dX1_clear_1 : decode cX1_clear 1 = .ok (.iconst 0, 1) := by decide +kernel
theorem dX1_clear_2 : decode cX1_clear 2 = .ok (.putfield 27, 3) := by decide +kernel
theorem dX1_clear_5 : decode cX1_clear 5 = .ok (.return_, 1) := by decide +kernel
theorem dX1_copyOf_0 : decode cX1_copyOf 0 = .ok (.aload_n 0, 1) := by decide +kernel
theorem dX1_copyOf_1 : decode cX1_copyOf 1 = .ok (.invokevirtual 31, 3) := by decide +kernel
theorem dX1_copyOf_4 : decode cX1_copyOf 4 = .ok (.iconst 0, 1) := by decide +kernel
theorem dX1_copyOf_5 : decode cX1_copyOf 5 = .ok (.istore_n 2, 1) := by decide +kernel
theorem dX1_copyOf_6 : decode cX1_copyOf 6 = .ok (.iload_n 2, 1) := by decide +kernel
theorem dX1_copyOf_7 : decode cX1_copyOf 7 = .ok (.aload_n 1, 1) := by decide +kernel
theorem dX1_copyOf_8 : decode cX1_copyOf 8 = .ok (.getfield 27, 3) := by decide +kernel
theorem dX1_copyOf_11 : decode cX1_copyOf 11 = .ok (.if_icmp .ge 31, 3) := by decide +kernel
theorem dX1_copyOf_14 : decode cX1_copyOf 14 = .ok (.aload_n 0, 1) := by decide +kernel
theorem dX1_copyOf_15 : decode cX1_copyOf 15 = .ok (.aload_n 1, 1) := by decide +kernel
theorem dX1_copyOf_16 : decode cX1_copyOf 16 = .ok (.getfield 15, 3) := by decide +kernel
theorem dX1_copyOf_19 : decode cX1_copyOf 19 = .ok (.iload_n 2, 1) := by decide +kernel
theorem dX1_copyOf_20 : decode cX1_copyOf 20 = .ok (.iaload, 1) := by decide +kernel
theorem dX1_copyOf_21 : decode cX1_copyOf 21 = .ok (.aload_n 1, 1) := by decide +kernel
theorem dX1_copyOf_22 : decode cX1_copyOf 22 = .ok (.getfield 21, 3) := by decide +kernel
theorem dX1_copyOf_25 : decode cX1_copyOf 25 = .ok (.iload_n 2, 1) := by decide +kernel
theorem dX1_copyOf_26 : decode cX1_copyOf 26 = .ok (.iaload, 1) := by decide +kernel
theorem dX1_copyOf_27 : decode cX1_copyOf 27 = .ok (.aload_n 1, 1) := by decide +kernel
theorem dX1_copyOf_28 : decode cX1_copyOf 28 = .ok (.getfield 24, 3) := by decide +kernel
theorem dX1_copyOf_31 : decode cX1_copyOf 31 = .ok (.iload_n 2, 1) := by decide +kernel
theorem dX1_copyOf_32 : decode cX1_copyOf 32 = .ok (.iaload, 1) := by decide +kernel
theorem dX1_copyOf_33 : decode cX1_copyOf 33 = .ok (.invokevirtual 34, 3) := by decide +kernel
theorem dX1_copyOf_36 : decode cX1_copyOf 36 = .ok (.iinc 2 1, 3) := by decide +kernel
theorem dX1_copyOf_39 : decode cX1_copyOf 39 = .ok (.goto (-33), 3) := by decide +kernel
theorem dX1_copyOf_42 : decode cX1_copyOf 42 = .ok (.return_, 1) := by decide +kernel
theorem dX1_removeLast_0 : decode cX1_removeLast 0 = .ok (.aload_n 0, 1) := by decide +kernel
theorem dX1_removeLast_1 : decode cX1_removeLast 1 = .ok (.getfield 27, 3) := by decide +kernel
theorem dX1_removeLast_4 : decode cX1_removeLast 4 = .ok (.ifCond .le 13, 3) := by decide +kernel
theorem dX1_removeLast_7 : decode cX1_removeLast 7 = .ok (.aload_n 0, 1) := by decide +kernel
theorem dX1_removeLast_8 : decode cX1_removeLast 8 = .ok (.dup, 1) := by decide +kernel
theorem dX1_removeLast_9 : decode cX1_removeLast 9 = .ok (.getfield 27, 3) := by decide +kernel
theorem dX1_removeLast_12 : decode cX1_removeLast 12 = .ok (.iconst 1, 1) := by decide +kernel
theorem dX1_removeLast_13 : decode cX1_removeLast 13 = .ok (.isub, 1) := by decide +kernel
theorem dX1_removeLast_14 : decode cX1_removeLast 14 = .ok (.putfield 27, 3) := by decide +kernel
theorem dX1_removeLast_17 : decode cX1_removeLast 17 = .ok (.return_, 1) := by decide +kernel
theorem dX5_isWet_0 : decode cX5_isWet 0 = .ok (.iload_n 1, 1) := by decide +kernel
theorem dX5_isWet_1 : decode cX5_isWet 1 = .ok (.ifCond .lt 33, 3) := by decide +kernel
theorem dX5_isWet_4 : decode cX5_isWet 4 = .ok (.iload_n 1, 1) := by decide +kernel
theorem dX5_isWet_5 : decode cX5_isWet 5 = .ok (.aload_n 0, 1) := by decide +kernel
theorem dX5_isWet_6 : decode cX5_isWet 6 = .ok (.getfield 68, 3) := by decide +kernel
theorem dX5_isWet_9 : decode cX5_isWet 9 = .ok (.aload_n 0, 1) := by decide +kernel
theorem dX5_isWet_10 : decode cX5_isWet 10 = .ok (.getfield 72, 3) := by decide +kernel
theorem dX5_isWet_13 : decode cX5_isWet 13 = .ok (.imul, 1) := by decide +kernel
theorem dX5_isWet_14 : decode cX5_isWet 14 = .ok (.if_icmp .ge 20, 3) := by decide +kernel
theorem dX5_isWet_17 : decode cX5_isWet 17 = .ok (.aload_n 0, 1) := by decide +kernel
theorem dX5_isWet_18 : decode cX5_isWet 18 = .ok (.getfield 75, 3) := by decide +kernel
theorem dX5_isWet_21 : decode cX5_isWet 21 = .ok (.iload_n 1, 1) := by decide +kernel
theorem dX5_isWet_22 : decode cX5_isWet 22 = .ok (.lushr, 1) := by decide +kernel
theorem dX5_isWet_23 : decode cX5_isWet 23 = .ok (.lconst 1, 1) := by decide +kernel
theorem dX5_isWet_24 : decode cX5_isWet 24 = .ok (.land, 1) := by decide +kernel
theorem dX5_isWet_25 : decode cX5_isWet 25 = .ok (.lconst 0, 1) := by decide +kernel
theorem dX5_isWet_26 : decode cX5_isWet 26 = .ok (.lcmp, 1) := by decide +kernel
theorem dX5_isWet_27 : decode cX5_isWet 27 = .ok (.ifCond .ne 7, 3) := by decide +kernel
theorem dX5_isWet_30 : decode cX5_isWet 30 = .ok (.iconst 1, 1) := by decide +kernel
theorem dX5_isWet_31 : decode cX5_isWet 31 = .ok (.goto 4, 3) := by decide +kernel
theorem dX5_isWet_34 : decode cX5_isWet 34 = .ok (.iconst 0, 1) := by decide +kernel
theorem dX5_isWet_35 : decode cX5_isWet 35 = .ok (.ireturn, 1) := by decide +kernel
theorem dX5_risesOf_0 : decode cX5_risesOf 0 = .ok (.iload_n 1, 1) := by decide +kernel
theorem dX5_risesOf_1 : decode cX5_risesOf 1 = .ok (.ifCond .lt 21, 3) := by decide +kernel
theorem dX5_risesOf_4 : decode cX5_risesOf 4 = .ok (.iload_n 1, 1) := by decide +kernel
theorem dX5_risesOf_5 : decode cX5_risesOf 5 = .ok (.aload_n 0, 1) := by decide +kernel
theorem dX5_risesOf_6 : decode cX5_risesOf 6 = .ok (.getfield 30, 3) := by decide +kernel
theorem dX5_risesOf_9 : decode cX5_risesOf 9 = .ok (.arraylength, 1) := by decide +kernel
theorem dX5_risesOf_10 : decode cX5_risesOf 10 = .ok (.if_icmp .ge 12, 3) := by decide +kernel
theorem dX5_risesOf_13 : decode cX5_risesOf 13 = .ok (.aload_n 0, 1) := by decide +kernel
theorem dX5_risesOf_14 : decode cX5_risesOf 14 = .ok (.getfield 30, 3) := by decide +kernel
theorem dX5_risesOf_17 : decode cX5_risesOf 17 = .ok (.iload_n 1, 1) := by decide +kernel
theorem dX5_risesOf_18 : decode cX5_risesOf 18 = .ok (.aaload, 1) := by decide +kernel
theorem dX5_risesOf_19 : decode cX5_risesOf 19 = .ok (.goto 7, 3) := by decide +kernel
theorem dX5_risesOf_22 : decode cX5_risesOf 22 = .ok (.aload_n 0, 1) := by decide +kernel
theorem dX5_risesOf_23 : decode cX5_risesOf 23 = .ok (.getfield 62, 3) := by decide +kernel
theorem dX5_risesOf_26 : decode cX5_risesOf 26 = .ok (.areturn, 1) := by decide +kernel
theorem dX7_orZero_0 : decode cX7_orZero 0 = .ok (.iload_n 1, 1) := by decide +kernel
theorem dX7_orZero_1 : decode cX7_orZero 1 = .ok (.ifCond .lt 29, 3) := by decide +kernel
theorem dX7_orZero_4 : decode cX7_orZero 4 = .ok (.iload_n 1, 1) := by decide +kernel
theorem dX7_orZero_5 : decode cX7_orZero 5 = .ok (.aload_n 0, 1) := by decide +kernel
theorem dX7_orZero_6 : decode cX7_orZero 6 = .ok (.getfield 21, 3) := by decide +kernel
theorem dX7_orZero_9 : decode cX7_orZero 9 = .ok (.if_icmp .ge 21, 3) := by decide +kernel
theorem dX7_orZero_12 : decode cX7_orZero 12 = .ok (.iload_n 1, 1) := by decide +kernel
theorem dX7_orZero_13 : decode cX7_orZero 13 = .ok (.aload_n 0, 1) := by decide +kernel
theorem dX7_orZero_14 : decode cX7_orZero 14 = .ok (.getfield 15, 3) := by decide +kernel
theorem dX7_orZero_17 : decode cX7_orZero 17 = .ok (.arraylength, 1) := by decide +kernel
theorem dX7_orZero_18 : decode cX7_orZero 18 = .ok (.if_icmp .ge 12, 3) := by decide +kernel
theorem dX7_orZero_21 : decode cX7_orZero 21 = .ok (.aload_n 0, 1) := by decide +kernel
theorem dX7_orZero_22 : decode cX7_orZero 22 = .ok (.getfield 15, 3) := by decide +kernel
theorem dX7_orZero_25 : decode cX7_orZero 25 = .ok (.iload_n 1, 1) := by decide +kernel
theorem dX7_orZero_26 : decode cX7_orZero 26 = .ok (.iaload, 1) := by decide +kernel
theorem dX7_orZero_27 : decode cX7_orZero 27 = .ok (.goto 4, 3) := by decide +kernel
theorem dX7_orZero_30 : decode cX7_orZero 30 = .ok (.iconst 0, 1) := by decide +kernel
theorem dX7_orZero_31 : decode cX7_orZero 31 = .ok (.ireturn, 1) := by decide +kernel
theorem dX5_cells_0 : decode cX5_cells 0 = .ok (.aload_n 0, 1) := by decide +kernel
theorem dX5_cells_1 : decode cX5_cells 1 = .ok (.getfield 68, 3) := by decide +kernel
theorem dX5_cells_4 : decode cX5_cells 4 = .ok (.aload_n 0, 1) := by decide +kernel
theorem dX5_cells_5 : decode cX5_cells 5 = .ok (.getfield 72, 3) := by decide +kernel
theorem dX5_cells_8 : decode cX5_cells 8 = .ok (.imul, 1) := by decide +kernel
theorem dX5_cells_9 : decode cX5_cells 9 = .ok (.ireturn, 1) := by decide +kernel
theorem dX5_isCell_0 : decode cX5_isCell 0 = .ok (.iload_n 1, 1) := by decide +kernel
theorem dX5_isCell_1 : decode cX5_isCell 1 = .ok (.ifCond .lt 20, 3) := by decide +kernel
theorem dX5_isCell_4 : decode cX5_isCell 4 = .ok (.iload_n 1, 1) := by decide +kernel
theorem dX5_isCell_5 : decode cX5_isCell 5 = .ok (.aload_n 0, 1) := by decide +kernel
theorem dX5_isCell_6 : decode cX5_isCell 6 = .ok (.getfield 68, 3) := by decide +kernel
theorem dX5_isCell_9 : decode cX5_isCell 9 = .ok (.aload_n 0, 1) := by decide +kernel
theorem dX5_isCell_10 : decode cX5_isCell 10 = .ok (.getfield 72, 3) := by decide +kernel
theorem dX5_isCell_13 : decode cX5_isCell 13 = .ok (.imul, 1) := by decide +kernel
theorem dX5_isCell_14 : decode cX5_isCell 14 = .ok (.if_icmp .ge 7, 3) := by decide +kernel
theorem dX5_isCell_17 : decode cX5_isCell 17 = .ok (.iconst 1, 1) := by decide +kernel
theorem dX5_isCell_18 : decode cX5_isCell 18 = .ok (.goto 4, 3) := by decide +kernel
theorem dX5_isCell_21 : decode cX5_isCell 21 = .ok (.iconst 0, 1) := by decide +kernel
theorem dX5_isCell_22 : decode cX5_isCell 22 = .ok (.ireturn, 1) := by decide +kernel
theorem dX1_inCell_0 : decode cX1_inCell 0 = .ok (.iconst 0, 1) := by decide +kernel
theorem dX1_inCell_1 : decode cX1_inCell 1 = .ok (.istore_n 2, 1) := by decide +kernel
theorem dX1_inCell_2 : decode cX1_inCell 2 = .ok (.iconst 0, 1) := by decide +kernel
theorem dX1_inCell_3 : decode cX1_inCell 3 = .ok (.istore_n 3, 1) := by decide +kernel
theorem dX1_inCell_4 : decode cX1_inCell 4 = .ok (.iload_n 3, 1) := by decide +kernel
theorem dX1_inCell_5 : decode cX1_inCell 5 = .ok (.aload_n 0, 1) := by decide +kernel
theorem dX1_inCell_6 : decode cX1_inCell 6 = .ok (.getfield 27, 3) := by decide +kernel
theorem dX1_inCell_9 : decode cX1_inCell 9 = .ok (.if_icmp .ge 22, 3) := by decide +kernel
theorem dX1_inCell_12 : decode cX1_inCell 12 = .ok (.aload_n 0, 1) := by decide +kernel
theorem dX1_inCell_13 : decode cX1_inCell 13 = .ok (.getfield 21, 3) := by decide +kernel
theorem dX1_inCell_16 : decode cX1_inCell 16 = .ok (.iload_n 3, 1) := by decide +kernel
theorem dX1_inCell_17 : decode cX1_inCell 17 = .ok (.iaload, 1) := by decide +kernel
theorem dX1_inCell_18 : decode cX1_inCell 18 = .ok (.iload_n 1, 1) := by decide +kernel
theorem dX1_inCell_19 : decode cX1_inCell 19 = .ok (.if_icmp .ne 6, 3) := by decide +kernel
theorem dX1_inCell_22 : decode cX1_inCell 22 = .ok (.iinc 2 1, 3) := by decide +kernel
theorem dX1_inCell_25 : decode cX1_inCell 25 = .ok (.iinc 3 1, 3) := by decide +kernel
theorem dX1_inCell_28 : decode cX1_inCell 28 = .ok (.goto (-24), 3) := by decide +kernel
theorem dX1_inCell_31 : decode cX1_inCell 31 = .ok (.iload_n 2, 1) := by decide +kernel
theorem dX1_inCell_32 : decode cX1_inCell 32 = .ok (.ireturn, 1) := by decide +kernel
theorem dX7_indexOf_0 : decode cX7_indexOf 0 = .ok (.iconst 0, 1) := by decide +kernel
theorem dX7_indexOf_1 : decode cX7_indexOf 1 = .ok (.istore_n 2, 1) := by decide +kernel
theorem dX7_indexOf_2 : decode cX7_indexOf 2 = .ok (.iload_n 2, 1) := by decide +kernel
theorem dX7_indexOf_3 : decode cX7_indexOf 3 = .ok (.aload_n 0, 1) := by decide +kernel
theorem dX7_indexOf_4 : decode cX7_indexOf 4 = .ok (.getfield 21, 3) := by decide +kernel
theorem dX7_indexOf_7 : decode cX7_indexOf 7 = .ok (.if_icmp .ge 30, 3) := by decide +kernel
theorem dX7_indexOf_10 : decode cX7_indexOf 10 = .ok (.iload_n 2, 1) := by decide +kernel
theorem dX7_indexOf_11 : decode cX7_indexOf 11 = .ok (.aload_n 0, 1) := by decide +kernel
theorem dX7_indexOf_12 : decode cX7_indexOf 12 = .ok (.getfield 15, 3) := by decide +kernel
theorem dX7_indexOf_15 : decode cX7_indexOf 15 = .ok (.arraylength, 1) := by decide +kernel
theorem dX7_indexOf_16 : decode cX7_indexOf 16 = .ok (.if_icmp .ge 21, 3) := by decide +kernel
theorem dX7_indexOf_19 : decode cX7_indexOf 19 = .ok (.aload_n 0, 1) := by decide +kernel
theorem dX7_indexOf_20 : decode cX7_indexOf 20 = .ok (.getfield 15, 3) := by decide +kernel
theorem dX7_indexOf_23 : decode cX7_indexOf 23 = .ok (.iload_n 2, 1) := by decide +kernel
theorem dX7_indexOf_24 : decode cX7_indexOf 24 = .ok (.iaload, 1) := by decide +kernel
theorem dX7_indexOf_25 : decode cX7_indexOf 25 = .ok (.iload_n 1, 1) := by decide +kernel
theorem dX7_indexOf_26 : decode cX7_indexOf 26 = .ok (.if_icmp .ne 5, 3) := by decide +kernel
theorem dX7_indexOf_29 : decode cX7_indexOf 29 = .ok (.iload_n 2, 1) := by decide +kernel
theorem dX7_indexOf_30 : decode cX7_indexOf 30 = .ok (.ireturn, 1) := by decide +kernel
theorem dX7_indexOf_31 : decode cX7_indexOf 31 = .ok (.iinc 2 1, 3) := by decide +kernel
theorem dX7_indexOf_34 : decode cX7_indexOf 34 = .ok (.goto (-32), 3) := by decide +kernel
theorem dX7_indexOf_37 : decode cX7_indexOf 37 = .ok (.iconst (-1), 1) := by decide +kernel
theorem dX7_indexOf_38 : decode cX7_indexOf 38 = .ok (.ireturn, 1) := by decide +kernel
theorem dX7_has_0 : decode cX7_has 0 = .ok (.iload_n 1, 1) := by decide +kernel
theorem dX7_has_1 : decode cX7_has 1 = .ok (.ifCond .lt 15, 3) := by decide +kernel
theorem dX7_has_4 : decode cX7_has 4 = .ok (.iload_n 1, 1) := by decide +kernel
theorem dX7_has_5 : decode cX7_has 5 = .ok (.aload_n 0, 1) := by decide +kernel
theorem dX7_has_6 : decode cX7_has 6 = .ok (.getfield 21, 3) := by decide +kernel
theorem dX7_has_9 : decode cX7_has 9 = .ok (.if_icmp .ge 7, 3) := by decide +kernel
theorem dX7_has_12 : decode cX7_has 12 = .ok (.iconst 1, 1) := by decide +kernel
theorem dX7_has_13 : decode cX7_has 13 = .ok (.goto 4, 3) := by decide +kernel
theorem dX7_has_16 : decode cX7_has 16 = .ok (.iconst 0, 1) := by decide +kernel
theorem dX7_has_17 : decode cX7_has 17 = .ok (.ireturn, 1) := by decide +kernel
theorem dX1_part_0 : decode cX1_part 0 = .ok (.iload_n 1, 1) := by decide +kernel
theorem dX1_part_1 : decode cX1_part 1 = .ok (.ifCond .lt 11, 3) := by decide +kernel
theorem dX1_part_4 : decode cX1_part 4 = .ok (.iload_n 1, 1) := by decide +kernel
theorem dX1_part_5 : decode cX1_part 5 = .ok (.aload_n 0, 1) := by decide +kernel
theorem dX1_part_6 : decode cX1_part 6 = .ok (.getfield 27, 3) := by decide +kernel
theorem dX1_part_9 : decode cX1_part 9 = .ok (.if_icmp .lt 5, 3) := by decide +kernel
theorem dX1_part_12 : decode cX1_part 12 = .ok (.iconst (-1), 1) := by decide +kernel
theorem dX1_part_13 : decode cX1_part 13 = .ok (.ireturn, 1) := by decide +kernel
theorem dX1_part_14 : decode cX1_part 14 = .ok (.iload_n 2, 1) := by decide +kernel
theorem dX1_part_15 : decode cX1_part 15 = .ok (.tableswitch 46 0 2 #[25, 32, 39], 25) := by decide +kernel
theorem dX1_part_40 : decode cX1_part 40 = .ok (.aload_n 0, 1) := by decide +kernel
theorem dX1_part_41 : decode cX1_part 41 = .ok (.getfield 15, 3) := by decide +kernel
theorem dX1_part_44 : decode cX1_part 44 = .ok (.iload_n 1, 1) := by decide +kernel
theorem dX1_part_45 : decode cX1_part 45 = .ok (.iaload, 1) := by decide +kernel
theorem dX1_part_46 : decode cX1_part 46 = .ok (.ireturn, 1) := by decide +kernel
theorem dX1_part_47 : decode cX1_part 47 = .ok (.aload_n 0, 1) := by decide +kernel
theorem dX1_part_48 : decode cX1_part 48 = .ok (.getfield 21, 3) := by decide +kernel
theorem dX1_part_51 : decode cX1_part 51 = .ok (.iload_n 1, 1) := by decide +kernel
theorem dX1_part_52 : decode cX1_part 52 = .ok (.iaload, 1) := by decide +kernel
theorem dX1_part_53 : decode cX1_part 53 = .ok (.ireturn, 1) := by decide +kernel
theorem dX1_part_54 : decode cX1_part 54 = .ok (.aload_n 0, 1) := by decide +kernel
theorem dX1_part_55 : decode cX1_part 55 = .ok (.getfield 24, 3) := by decide +kernel
theorem dX1_part_58 : decode cX1_part 58 = .ok (.iload_n 1, 1) := by decide +kernel
theorem dX1_part_59 : decode cX1_part 59 = .ok (.iaload, 1) := by decide +kernel
theorem dX1_part_60 : decode cX1_part 60 = .ok (.ireturn, 1) := by decide +kernel
theorem dX1_part_61 : decode cX1_part 61 = .ok (.iconst (-1), 1) := by decide +kernel
theorem dX1_part_62 : decode cX1_part 62 = .ok (.ireturn, 1) := by decide +kernel
theorem dX1_isFull_0 : decode cX1_isFull 0 = .ok (.aload_n 0, 1) := by decide +kernel
theorem dX1_isFull_1 : decode cX1_isFull 1 = .ok (.getfield 27, 3) := by decide +kernel
theorem dX1_isFull_4 : decode cX1_isFull 4 = .ok (.aload_n 0, 1) := by decide +kernel
theorem dX1_isFull_5 : decode cX1_isFull 5 = .ok (.getfield 15, 3) := by decide +kernel
theorem dX1_isFull_8 : decode cX1_isFull 8 = .ok (.arraylength, 1) := by decide +kernel
theorem dX1_isFull_9 : decode cX1_isFull 9 = .ok (.if_icmp .lt 7, 3) := by decide +kernel
theorem dX1_isFull_12 : decode cX1_isFull 12 = .ok (.iconst 1, 1) := by decide +kernel
theorem dX1_isFull_13 : decode cX1_isFull 13 = .ok (.goto 4, 3) := by decide +kernel
theorem dX1_isFull_16 : decode cX1_isFull 16 = .ok (.iconst 0, 1) := by decide +kernel
theorem dX1_isFull_17 : decode cX1_isFull 17 = .ok (.ireturn, 1) := by decide +kernel
theorem dX7_add_0 : decode cX7_add 0 = .ok (.aload_n 0, 1) := by decide +kernel
theorem dX7_add_1 : decode cX7_add 1 = .ok (.getfield 21, 3) := by decide +kernel
theorem dX7_add_4 : decode cX7_add 4 = .ok (.ifCond .lt 35, 3) := by decide +kernel
theorem dX7_add_7 : decode cX7_add 7 = .ok (.aload_n 0, 1) := by decide +kernel
theorem dX7_add_8 : decode cX7_add 8 = .ok (.getfield 21, 3) := by decide +kernel
theorem dX7_add_11 : decode cX7_add 11 = .ok (.aload_n 0, 1) := by decide +kernel
theorem dX7_add_12 : decode cX7_add 12 = .ok (.getfield 15, 3) := by decide +kernel
theorem dX7_add_15 : decode cX7_add 15 = .ok (.arraylength, 1) := by decide +kernel
theorem dX7_add_16 : decode cX7_add 16 = .ok (.if_icmp .ge 23, 3) := by decide +kernel
theorem dX7_add_19 : decode cX7_add 19 = .ok (.aload_n 0, 1) := by decide +kernel
theorem dX7_add_20 : decode cX7_add 20 = .ok (.getfield 15, 3) := by decide +kernel
theorem dX7_add_23 : decode cX7_add 23 = .ok (.aload_n 0, 1) := by decide +kernel
theorem dX7_add_24 : decode cX7_add 24 = .ok (.getfield 21, 3) := by decide +kernel
theorem dX7_add_27 : decode cX7_add 27 = .ok (.iload_n 1, 1) := by decide +kernel
theorem dX7_add_28 : decode cX7_add 28 = .ok (.iastore, 1) := by decide +kernel
theorem dX7_add_29 : decode cX7_add 29 = .ok (.aload_n 0, 1) := by decide +kernel
theorem dX7_add_30 : decode cX7_add 30 = .ok (.dup, 1) := by decide +kernel
theorem dX7_add_31 : decode cX7_add 31 = .ok (.getfield 21, 3) := by decide +kernel
theorem dX7_add_34 : decode cX7_add 34 = .ok (.iconst 1, 1) := by decide +kernel
theorem dX7_add_35 : decode cX7_add 35 = .ok (.iadd, 1) := by decide +kernel
theorem dX7_add_36 : decode cX7_add 36 = .ok (.putfield 21, 3) := by decide +kernel
theorem dX7_add_39 : decode cX7_add 39 = .ok (.return_, 1) := by decide +kernel
theorem dX7_clear_0 : decode cX7_clear 0 = .ok (.aload_n 0, 1) := by decide +kernel
theorem dX7_clear_1 : decode cX7_clear 1 = .ok (.iconst 0, 1) := by decide +kernel
theorem dX7_clear_2 : decode cX7_clear 2 = .ok (.putfield 21, 3) := by decide +kernel
theorem dX7_clear_5 : decode cX7_clear 5 = .ok (.return_, 1) := by decide +kernel
theorem dX3_isEmpty_0 : decode cX3_isEmpty 0 = .ok (.aload_n 0, 1) := by decide +kernel
theorem dX3_isEmpty_1 : decode cX3_isEmpty 1 = .ok (.getfield 25, 3) := by decide +kernel
theorem dX3_isEmpty_4 : decode cX3_isEmpty 4 = .ok (.ifCond .ne 7, 3) := by decide +kernel
theorem dX3_isEmpty_7 : decode cX3_isEmpty 7 = .ok (.iconst 1, 1) := by decide +kernel
theorem dX3_isEmpty_8 : decode cX3_isEmpty 8 = .ok (.goto 4, 3) := by decide +kernel
theorem dX3_isEmpty_11 : decode cX3_isEmpty 11 = .ok (.iconst 0, 1) := by decide +kernel
theorem dX3_isEmpty_12 : decode cX3_isEmpty 12 = .ok (.ireturn, 1) := by decide +kernel
theorem dX3_joined_0 : decode cX3_joined 0 = .ok (.iload_n 0, 1) := by decide +kernel
theorem dX3_joined_1 : decode cX3_joined 1 = .ok (.tableswitch 231 7 18 #[63, 81, 99, 111, 123, 135, 147, 159, 171, 175, 179, 215], 63) := by decide +kernel
theorem dX3_joined_64 : decode cX3_joined 64 = .ok (.lload_n 1, 1) := by decide +kernel
theorem dX3_joined_65 : decode cX3_joined 65 = .ok (.lconst 0, 1) := by decide +kernel
theorem dX3_joined_66 : decode cX3_joined 66 = .ok (.lcmp, 1) := by decide +kernel
theorem dX3_joined_67 : decode cX3_joined 67 = .ok (.ifCond .ne 9, 3) := by decide +kernel
theorem dX3_joined_70 : decode cX3_joined 70 = .ok (.lload_n 3, 1) := by decide +kernel
theorem dX3_joined_71 : decode cX3_joined 71 = .ok (.lconst 0, 1) := by decide +kernel
theorem dX3_joined_72 : decode cX3_joined 72 = .ok (.lcmp, 1) := by decide +kernel
theorem dX3_joined_73 : decode cX3_joined 73 = .ok (.ifCond .eq 7, 3) := by decide +kernel
theorem dX3_joined_76 : decode cX3_joined 76 = .ok (.lconst 1, 1) := by decide +kernel
theorem dX3_joined_77 : decode cX3_joined 77 = .ok (.goto 4, 3) := by decide +kernel
theorem dX3_joined_80 : decode cX3_joined 80 = .ok (.lconst 0, 1) := by decide +kernel
theorem dX3_joined_81 : decode cX3_joined 81 = .ok (.lreturn, 1) := by decide +kernel
theorem dX3_joined_82 : decode cX3_joined 82 = .ok (.lload_n 1, 1) := by decide +kernel
theorem dX3_joined_83 : decode cX3_joined 83 = .ok (.lconst 0, 1) := by decide +kernel
theorem dX3_joined_84 : decode cX3_joined 84 = .ok (.lcmp, 1) := by decide +kernel
theorem dX3_joined_85 : decode cX3_joined 85 = .ok (.ifCond .eq 13, 3) := by decide +kernel
theorem dX3_joined_88 : decode cX3_joined 88 = .ok (.lload_n 3, 1) := by decide +kernel
theorem dX3_joined_89 : decode cX3_joined 89 = .ok (.lconst 0, 1) := by decide +kernel
theorem dX3_joined_90 : decode cX3_joined 90 = .ok (.lcmp, 1) := by decide +kernel
theorem dX3_joined_91 : decode cX3_joined 91 = .ok (.ifCond .eq 7, 3) := by decide +kernel
theorem dX3_joined_94 : decode cX3_joined 94 = .ok (.lconst 1, 1) := by decide +kernel
theorem dX3_joined_95 : decode cX3_joined 95 = .ok (.goto 4, 3) := by decide +kernel
theorem dX3_joined_98 : decode cX3_joined 98 = .ok (.lconst 0, 1) := by decide +kernel
theorem dX3_joined_99 : decode cX3_joined 99 = .ok (.lreturn, 1) := by decide +kernel
theorem dX3_joined_100 : decode cX3_joined 100 = .ok (.lload_n 1, 1) := by decide +kernel
theorem dX3_joined_101 : decode cX3_joined 101 = .ok (.lload_n 3, 1) := by decide +kernel
theorem dX3_joined_102 : decode cX3_joined 102 = .ok (.lcmp, 1) := by decide +kernel
theorem dX3_joined_103 : decode cX3_joined 103 = .ok (.ifCond .ge 7, 3) := by decide +kernel
theorem dX3_joined_106 : decode cX3_joined 106 = .ok (.lconst 1, 1) := by decide +kernel
theorem dX3_joined_107 : decode cX3_joined 107 = .ok (.goto 4, 3) := by decide +kernel
theorem dX3_joined_110 : decode cX3_joined 110 = .ok (.lconst 0, 1) := by decide +kernel
theorem dX3_joined_111 : decode cX3_joined 111 = .ok (.lreturn, 1) := by decide +kernel
theorem dX3_joined_112 : decode cX3_joined 112 = .ok (.lload_n 1, 1) := by decide +kernel
theorem dX3_joined_113 : decode cX3_joined 113 = .ok (.lload_n 3, 1) := by decide +kernel
theorem dX3_joined_114 : decode cX3_joined 114 = .ok (.lcmp, 1) := by decide +kernel
theorem dX3_joined_115 : decode cX3_joined 115 = .ok (.ifCond .gt 7, 3) := by decide +kernel
theorem dX3_joined_118 : decode cX3_joined 118 = .ok (.lconst 1, 1) := by decide +kernel
theorem dX3_joined_119 : decode cX3_joined 119 = .ok (.goto 4, 3) := by decide +kernel
theorem dX3_joined_122 : decode cX3_joined 122 = .ok (.lconst 0, 1) := by decide +kernel
theorem dX3_joined_123 : decode cX3_joined 123 = .ok (.lreturn, 1) := by decide +kernel
theorem dX3_joined_124 : decode cX3_joined 124 = .ok (.lload_n 1, 1) := by decide +kernel
theorem dX3_joined_125 : decode cX3_joined 125 = .ok (.lload_n 3, 1) := by decide +kernel
theorem dX3_joined_126 : decode cX3_joined 126 = .ok (.lcmp, 1) := by decide +kernel
theorem dX3_joined_127 : decode cX3_joined 127 = .ok (.ifCond .ne 7, 3) := by decide +kernel
theorem dX3_joined_130 : decode cX3_joined 130 = .ok (.lconst 1, 1) := by decide +kernel
theorem dX3_joined_131 : decode cX3_joined 131 = .ok (.goto 4, 3) := by decide +kernel
theorem dX3_joined_134 : decode cX3_joined 134 = .ok (.lconst 0, 1) := by decide +kernel
theorem dX3_joined_135 : decode cX3_joined 135 = .ok (.lreturn, 1) := by decide +kernel
theorem dX3_joined_136 : decode cX3_joined 136 = .ok (.lload_n 1, 1) := by decide +kernel
theorem dX3_joined_137 : decode cX3_joined 137 = .ok (.lload_n 3, 1) := by decide +kernel
theorem dX3_joined_138 : decode cX3_joined 138 = .ok (.lcmp, 1) := by decide +kernel
theorem dX3_joined_139 : decode cX3_joined 139 = .ok (.ifCond .eq 7, 3) := by decide +kernel
theorem dX3_joined_142 : decode cX3_joined 142 = .ok (.lconst 1, 1) := by decide +kernel
theorem dX3_joined_143 : decode cX3_joined 143 = .ok (.goto 4, 3) := by decide +kernel
theorem dX3_joined_146 : decode cX3_joined 146 = .ok (.lconst 0, 1) := by decide +kernel
theorem dX3_joined_147 : decode cX3_joined 147 = .ok (.lreturn, 1) := by decide +kernel
theorem dX3_joined_148 : decode cX3_joined 148 = .ok (.lload_n 1, 1) := by decide +kernel
theorem dX3_joined_149 : decode cX3_joined 149 = .ok (.lload_n 3, 1) := by decide +kernel
theorem dX3_joined_150 : decode cX3_joined 150 = .ok (.lcmp, 1) := by decide +kernel
theorem dX3_joined_151 : decode cX3_joined 151 = .ok (.ifCond .lt 7, 3) := by decide +kernel
theorem dX3_joined_154 : decode cX3_joined 154 = .ok (.lconst 1, 1) := by decide +kernel
theorem dX3_joined_155 : decode cX3_joined 155 = .ok (.goto 4, 3) := by decide +kernel
theorem dX3_joined_158 : decode cX3_joined 158 = .ok (.lconst 0, 1) := by decide +kernel
theorem dX3_joined_159 : decode cX3_joined 159 = .ok (.lreturn, 1) := by decide +kernel
theorem dX3_joined_160 : decode cX3_joined 160 = .ok (.lload_n 1, 1) := by decide +kernel
theorem dX3_joined_161 : decode cX3_joined 161 = .ok (.lload_n 3, 1) := by decide +kernel
theorem dX3_joined_162 : decode cX3_joined 162 = .ok (.lcmp, 1) := by decide +kernel
theorem dX3_joined_163 : decode cX3_joined 163 = .ok (.ifCond .le 7, 3) := by decide +kernel
theorem dX3_joined_166 : decode cX3_joined 166 = .ok (.lconst 1, 1) := by decide +kernel
theorem dX3_joined_167 : decode cX3_joined 167 = .ok (.goto 4, 3) := by decide +kernel
theorem dX3_joined_170 : decode cX3_joined 170 = .ok (.lconst 0, 1) := by decide +kernel
theorem dX3_joined_171 : decode cX3_joined 171 = .ok (.lreturn, 1) := by decide +kernel
theorem dX3_joined_172 : decode cX3_joined 172 = .ok (.lload_n 1, 1) := by decide +kernel
theorem dX3_joined_173 : decode cX3_joined 173 = .ok (.lload_n 3, 1) := by decide +kernel
theorem dX3_joined_174 : decode cX3_joined 174 = .ok (.ladd, 1) := by decide +kernel
theorem dX3_joined_175 : decode cX3_joined 175 = .ok (.lreturn, 1) := by decide +kernel
theorem dX3_joined_176 : decode cX3_joined 176 = .ok (.lload_n 1, 1) := by decide +kernel
theorem dX3_joined_177 : decode cX3_joined 177 = .ok (.lload_n 3, 1) := by decide +kernel
theorem dX3_joined_178 : decode cX3_joined 178 = .ok (.lsub, 1) := by decide +kernel
theorem dX3_joined_179 : decode cX3_joined 179 = .ok (.lreturn, 1) := by decide +kernel
theorem dX3_joined_180 : decode cX3_joined 180 = .ok (.lload_n 3, 1) := by decide +kernel
theorem dX3_joined_181 : decode cX3_joined 181 = .ok (.lconst 0, 1) := by decide +kernel
theorem dX3_joined_182 : decode cX3_joined 182 = .ok (.lcmp, 1) := by decide +kernel
theorem dX3_joined_183 : decode cX3_joined 183 = .ok (.ifCond .ne 7, 3) := by decide +kernel
theorem dX3_joined_186 : decode cX3_joined 186 = .ok (.lconst 0, 1) := by decide +kernel
theorem dX3_joined_187 : decode cX3_joined 187 = .ok (.goto 28, 3) := by decide +kernel
theorem dX3_joined_190 : decode cX3_joined 190 = .ok (.lload_n 1, 1) := by decide +kernel
theorem dX3_joined_191 : decode cX3_joined 191 = .ok (.invokestatic 39, 3) := by decide +kernel
theorem dX3_joined_194 : decode cX3_joined 194 = .ok (.ldc2_w 35, 3) := by decide +kernel
theorem dX3_joined_197 : decode cX3_joined 197 = .ok (.lload_n 3, 1) := by decide +kernel
theorem dX3_joined_198 : decode cX3_joined 198 = .ok (.invokestatic 39, 3) := by decide +kernel
theorem dX3_joined_201 : decode cX3_joined 201 = .ok (.ldiv, 1) := by decide +kernel
theorem dX3_joined_202 : decode cX3_joined 202 = .ok (.lcmp, 1) := by decide +kernel
theorem dX3_joined_203 : decode cX3_joined 203 = .ok (.ifCond .le 9, 3) := by decide +kernel
theorem dX3_joined_206 : decode cX3_joined 206 = .ok (.ldc2_w 29, 3) := by decide +kernel
theorem dX3_joined_209 : decode cX3_joined 209 = .ok (.goto 6, 3) := by decide +kernel
theorem dX3_joined_212 : decode cX3_joined 212 = .ok (.lload_n 1, 1) := by decide +kernel
theorem dX3_joined_213 : decode cX3_joined 213 = .ok (.lload_n 3, 1) := by decide +kernel
theorem dX3_joined_214 : decode cX3_joined 214 = .ok (.lmul, 1) := by decide +kernel
theorem dX3_joined_215 : decode cX3_joined 215 = .ok (.lreturn, 1) := by decide +kernel
theorem dX3_joined_216 : decode cX3_joined 216 = .ok (.lload_n 3, 1) := by decide +kernel
theorem dX3_joined_217 : decode cX3_joined 217 = .ok (.lconst 0, 1) := by decide +kernel
theorem dX3_joined_218 : decode cX3_joined 218 = .ok (.lcmp, 1) := by decide +kernel
theorem dX3_joined_219 : decode cX3_joined 219 = .ok (.ifCond .ne 9, 3) := by decide +kernel
theorem dX3_joined_222 : decode cX3_joined 222 = .ok (.ldc2_w 29, 3) := by decide +kernel
theorem dX3_joined_225 : decode cX3_joined 225 = .ok (.goto 6, 3) := by decide +kernel
theorem dX3_joined_228 : decode cX3_joined 228 = .ok (.lload_n 1, 1) := by decide +kernel
theorem dX3_joined_229 : decode cX3_joined 229 = .ok (.lload_n 3, 1) := by decide +kernel
theorem dX3_joined_230 : decode cX3_joined 230 = .ok (.ldiv, 1) := by decide +kernel
theorem dX3_joined_231 : decode cX3_joined 231 = .ok (.lreturn, 1) := by decide +kernel
theorem dX3_joined_232 : decode cX3_joined 232 = .ok (.ldc2_w 29, 3) := by decide +kernel
theorem dX3_joined_235 : decode cX3_joined 235 = .ok (.lreturn, 1) := by decide +kernel
theorem dX3_worth_0 : decode cX3_worth 0 = .ok (.aload_n 0, 1) := by decide +kernel
theorem dX3_worth_1 : decode cX3_worth 1 = .ok (.getfield 22, 3) := by decide +kernel
theorem dX3_worth_4 : decode cX3_worth 4 = .ok (.iconst 1, 1) := by decide +kernel
theorem dX3_worth_5 : decode cX3_worth 5 = .ok (.iload_n 1, 1) := by decide +kernel
theorem dX3_worth_6 : decode cX3_worth 6 = .ok (.i2l, 1) := by decide +kernel
theorem dX3_worth_7 : decode cX3_worth 7 = .ok (.lastore, 1) := by decide +kernel
theorem dX3_worth_8 : decode cX3_worth 8 = .ok (.aload_n 0, 1) := by decide +kernel
theorem dX3_worth_9 : decode cX3_worth 9 = .ok (.getfield 22, 3) := by decide +kernel
theorem dX3_worth_12 : decode cX3_worth 12 = .ok (.iconst 2, 1) := by decide +kernel
theorem dX3_worth_13 : decode cX3_worth 13 = .ok (.iload_n 2, 1) := by decide +kernel
theorem dX3_worth_14 : decode cX3_worth 14 = .ok (.i2l, 1) := by decide +kernel
theorem dX3_worth_15 : decode cX3_worth 15 = .ok (.lastore, 1) := by decide +kernel
theorem dX3_worth_16 : decode cX3_worth 16 = .ok (.aload_n 0, 1) := by decide +kernel
theorem dX3_worth_17 : decode cX3_worth 17 = .ok (.getfield 22, 3) := by decide +kernel
theorem dX3_worth_20 : decode cX3_worth 20 = .ok (.iconst 3, 1) := by decide +kernel
theorem dX3_worth_21 : decode cX3_worth 21 = .ok (.iload_n 3, 1) := by decide +kernel
theorem dX3_worth_22 : decode cX3_worth 22 = .ok (.i2l, 1) := by decide +kernel
theorem dX3_worth_23 : decode cX3_worth 23 = .ok (.lastore, 1) := by decide +kernel
theorem dX3_worth_24 : decode cX3_worth 24 = .ok (.aload_n 0, 1) := by decide +kernel
theorem dX3_worth_25 : decode cX3_worth 25 = .ok (.getfield 22, 3) := by decide +kernel
theorem dX3_worth_28 : decode cX3_worth 28 = .ok (.iconst 4, 1) := by decide +kernel
theorem dX3_worth_29 : decode cX3_worth 29 = .ok (.iload 4, 2) := by decide +kernel
theorem dX3_worth_31 : decode cX3_worth 31 = .ok (.i2l, 1) := by decide +kernel
theorem dX3_worth_32 : decode cX3_worth 32 = .ok (.lastore, 1) := by decide +kernel
theorem dX3_worth_33 : decode cX3_worth 33 = .ok (.aload_n 0, 1) := by decide +kernel
theorem dX3_worth_34 : decode cX3_worth 34 = .ok (.getfield 22, 3) := by decide +kernel
theorem dX3_worth_37 : decode cX3_worth 37 = .ok (.iconst 5, 1) := by decide +kernel
theorem dX3_worth_38 : decode cX3_worth 38 = .ok (.iload 5, 2) := by decide +kernel
theorem dX3_worth_40 : decode cX3_worth 40 = .ok (.i2l, 1) := by decide +kernel
theorem dX3_worth_41 : decode cX3_worth 41 = .ok (.lastore, 1) := by decide +kernel
theorem dX3_worth_42 : decode cX3_worth 42 = .ok (.iconst 0, 1) := by decide +kernel
theorem dX3_worth_43 : decode cX3_worth 43 = .ok (.istore 6, 2) := by decide +kernel
theorem dX3_worth_45 : decode cX3_worth 45 = .ok (.iconst 0, 1) := by decide +kernel
theorem dX3_worth_46 : decode cX3_worth 46 = .ok (.istore 7, 2) := by decide +kernel
theorem dX3_worth_48 : decode cX3_worth 48 = .ok (.iload 7, 2) := by decide +kernel
theorem dX3_worth_50 : decode cX3_worth 50 = .ok (.aload_n 0, 1) := by decide +kernel
theorem dX3_worth_51 : decode cX3_worth 51 = .ok (.getfield 25, 3) := by decide +kernel
theorem dX3_worth_54 : decode cX3_worth 54 = .ok (.if_icmp .ge 204, 3) := by decide +kernel
theorem dX3_worth_57 : decode cX3_worth 57 = .ok (.iload 7, 2) := by decide +kernel
theorem dX3_worth_59 : decode cX3_worth 59 = .ok (.bipush 64, 2) := by decide +kernel
theorem dX3_worth_61 : decode cX3_worth 61 = .ok (.if_icmp .ge 197, 3) := by decide +kernel
theorem dX3_worth_64 : decode cX3_worth 64 = .ok (.aload_n 0, 1) := by decide +kernel
theorem dX3_worth_65 : decode cX3_worth 65 = .ok (.getfield 9, 3) := by decide +kernel
theorem dX3_worth_68 : decode cX3_worth 68 = .ok (.iload 7, 2) := by decide +kernel
theorem dX3_worth_70 : decode cX3_worth 70 = .ok (.iaload, 1) := by decide +kernel
theorem dX3_worth_71 : decode cX3_worth 71 = .ok (.istore 8, 2) := by decide +kernel
theorem dX3_worth_73 : decode cX3_worth 73 = .ok (.iload 8, 2) := by decide +kernel
theorem dX3_worth_75 : decode cX3_worth 75 = .ok (.iconst 5, 1) := by decide +kernel
theorem dX3_worth_76 : decode cX3_worth 76 = .ok (.if_icmp .gt 7, 3) := by decide +kernel
theorem dX3_worth_79 : decode cX3_worth 79 = .ok (.iconst 0, 1) := by decide +kernel
theorem dX3_worth_80 : decode cX3_worth 80 = .ok (.goto 15, 3) := by decide +kernel
theorem dX3_worth_83 : decode cX3_worth 83 = .ok (.iload 8, 2) := by decide +kernel
theorem dX3_worth_85 : decode cX3_worth 85 = .ok (.bipush 6, 2) := by decide +kernel
theorem dX3_worth_87 : decode cX3_worth 87 = .ok (.if_icmp .ne 7, 3) := by decide +kernel
theorem dX3_worth_90 : decode cX3_worth 90 = .ok (.iconst 1, 1) := by decide +kernel
theorem dX3_worth_91 : decode cX3_worth 91 = .ok (.goto 4, 3) := by decide +kernel
theorem dX3_worth_94 : decode cX3_worth 94 = .ok (.iconst 2, 1) := by decide +kernel
theorem dX3_worth_95 : decode cX3_worth 95 = .ok (.istore 9, 2) := by decide +kernel
theorem dX3_worth_97 : decode cX3_worth 97 = .ok (.iload 6, 2) := by decide +kernel
theorem dX3_worth_99 : decode cX3_worth 99 = .ok (.iload 9, 2) := by decide +kernel
theorem dX3_worth_101 : decode cX3_worth 101 = .ok (.isub, 1) := by decide +kernel
theorem dX3_worth_102 : decode cX3_worth 102 = .ok (.istore 10, 2) := by decide +kernel
theorem dX3_worth_104 : decode cX3_worth 104 = .ok (.iload 10, 2) := by decide +kernel
theorem dX3_worth_106 : decode cX3_worth 106 = .ok (.ifCond .lt 22, 3) := by decide +kernel
theorem dX3_worth_109 : decode cX3_worth 109 = .ok (.iload 10, 2) := by decide +kernel
theorem dX3_worth_111 : decode cX3_worth 111 = .ok (.bipush 64, 2) := by decide +kernel
theorem dX3_worth_113 : decode cX3_worth 113 = .ok (.if_icmp .ge 15, 3) := by decide +kernel
theorem dX3_worth_116 : decode cX3_worth 116 = .ok (.iload 6, 2) := by decide +kernel
theorem dX3_worth_118 : decode cX3_worth 118 = .ok (.bipush 64, 2) := by decide +kernel
theorem dX3_worth_120 : decode cX3_worth 120 = .ok (.if_icmp .gt 8, 3) := by decide +kernel
theorem dX3_worth_123 : decode cX3_worth 123 = .ok (.iload 8, 2) := by decide +kernel
theorem dX3_worth_125 : decode cX3_worth 125 = .ok (.ifCond .ge 7, 3) := by decide +kernel
theorem dX3_worth_128 : decode cX3_worth 128 = .ok (.ldc2_w 29, 3) := by decide +kernel
theorem dX3_worth_131 : decode cX3_worth 131 = .ok (.lreturn, 1) := by decide +kernel
theorem dX3_worth_132 : decode cX3_worth 132 = .ok (.iload 9, 2) := by decide +kernel
theorem dX3_worth_134 : decode cX3_worth 134 = .ok (.ifCond .ne 31, 3) := by decide +kernel
theorem dX3_worth_137 : decode cX3_worth 137 = .ok (.iload 8, 2) := by decide +kernel
theorem dX3_worth_139 : decode cX3_worth 139 = .ok (.ifCond .ne 14, 3) := by decide +kernel
theorem dX3_worth_142 : decode cX3_worth 142 = .ok (.aload_n 0, 1) := by decide +kernel
theorem dX3_worth_143 : decode cX3_worth 143 = .ok (.getfield 15, 3) := by decide +kernel
theorem dX3_worth_146 : decode cX3_worth 146 = .ok (.iload 7, 2) := by decide +kernel
theorem dX3_worth_148 : decode cX3_worth 148 = .ok (.iaload, 1) := by decide +kernel
theorem dX3_worth_149 : decode cX3_worth 149 = .ok (.i2l, 1) := by decide +kernel
theorem dX3_worth_150 : decode cX3_worth 150 = .ok (.goto 10, 3) := by decide +kernel
theorem dX3_worth_153 : decode cX3_worth 153 = .ok (.aload_n 0, 1) := by decide +kernel
theorem dX3_worth_154 : decode cX3_worth 154 = .ok (.getfield 22, 3) := by decide +kernel
theorem dX3_worth_157 : decode cX3_worth 157 = .ok (.iload 8, 2) := by decide +kernel
theorem dX3_worth_159 : decode cX3_worth 159 = .ok (.laload, 1) := by decide +kernel
theorem dX3_worth_160 : decode cX3_worth 160 = .ok (.lstore 11, 2) := by decide +kernel
theorem dX3_worth_162 : decode cX3_worth 162 = .ok (.goto 53, 3) := by decide +kernel
theorem dX3_worth_165 : decode cX3_worth 165 = .ok (.iload 9, 2) := by decide +kernel
theorem dX3_worth_167 : decode cX3_worth 167 = .ok (.iconst 1, 1) := by decide +kernel
theorem dX3_worth_168 : decode cX3_worth 168 = .ok (.if_icmp .ne 24, 3) := by decide +kernel
theorem dX3_worth_171 : decode cX3_worth 171 = .ok (.aload_n 0, 1) := by decide +kernel
theorem dX3_worth_172 : decode cX3_worth 172 = .ok (.getfield 18, 3) := by decide +kernel
theorem dX3_worth_175 : decode cX3_worth 175 = .ok (.iload 10, 2) := by decide +kernel
theorem dX3_worth_177 : decode cX3_worth 177 = .ok (.laload, 1) := by decide +kernel
theorem dX3_worth_178 : decode cX3_worth 178 = .ok (.lconst 0, 1) := by decide +kernel
theorem dX3_worth_179 : decode cX3_worth 179 = .ok (.lcmp, 1) := by decide +kernel
theorem dX3_worth_180 : decode cX3_worth 180 = .ok (.ifCond .ne 7, 3) := by decide +kernel
theorem dX3_worth_183 : decode cX3_worth 183 = .ok (.iconst 1, 1) := by decide +kernel
theorem dX3_worth_184 : decode cX3_worth 184 = .ok (.goto 4, 3) := by decide +kernel
theorem dX3_worth_187 : decode cX3_worth 187 = .ok (.iconst 0, 1) := by decide +kernel
theorem dX3_worth_188 : decode cX3_worth 188 = .ok (.i2l, 1) := by decide +kernel
theorem dX3_worth_189 : decode cX3_worth 189 = .ok (.goto 24, 3) := by decide +kernel
theorem dX3_worth_192 : decode cX3_worth 192 = .ok (.iload 8, 2) := by decide +kernel
theorem dX3_worth_194 : decode cX3_worth 194 = .ok (.aload_n 0, 1) := by decide +kernel
theorem dX3_worth_195 : decode cX3_worth 195 = .ok (.getfield 18, 3) := by decide +kernel
theorem dX3_worth_198 : decode cX3_worth 198 = .ok (.iload 10, 2) := by decide +kernel
theorem dX3_worth_200 : decode cX3_worth 200 = .ok (.laload, 1) := by decide +kernel
theorem dX3_worth_201 : decode cX3_worth 201 = .ok (.aload_n 0, 1) := by decide +kernel
theorem dX3_worth_202 : decode cX3_worth 202 = .ok (.getfield 18, 3) := by decide +kernel
theorem dX3_worth_205 : decode cX3_worth 205 = .ok (.iload 10, 2) := by decide +kernel
theorem dX3_worth_207 : decode cX3_worth 207 = .ok (.iconst 1, 1) := by decide +kernel
theorem dX3_worth_208 : decode cX3_worth 208 = .ok (.iadd, 1) := by decide +kernel
theorem dX3_worth_209 : decode cX3_worth 209 = .ok (.laload, 1) := by decide +kernel
theorem dX3_worth_210 : decode cX3_worth 210 = .ok (.invokestatic 31, 3) := by decide +kernel
theorem dX3_worth_213 : decode cX3_worth 213 = .ok (.lstore 11, 2) := by decide +kernel
theorem dX3_worth_215 : decode cX3_worth 215 = .ok (.lload 11, 2) := by decide +kernel
theorem dX3_worth_217 : decode cX3_worth 217 = .ok (.ldc2_w 35, 3) := by decide +kernel
theorem dX3_worth_220 : decode cX3_worth 220 = .ok (.lcmp, 1) := by decide +kernel
theorem dX3_worth_221 : decode cX3_worth 221 = .ok (.ifCond .gt 12, 3) := by decide +kernel
theorem dX3_worth_224 : decode cX3_worth 224 = .ok (.lload 11, 2) := by decide +kernel
theorem dX3_worth_226 : decode cX3_worth 226 = .ok (.ldc2_w 37, 3) := by decide +kernel
theorem dX3_worth_229 : decode cX3_worth 229 = .ok (.lcmp, 1) := by decide +kernel
theorem dX3_worth_230 : decode cX3_worth 230 = .ok (.ifCond .ge 7, 3) := by decide +kernel
theorem dX3_worth_233 : decode cX3_worth 233 = .ok (.ldc2_w 29, 3) := by decide +kernel
theorem dX3_worth_236 : decode cX3_worth 236 = .ok (.lreturn, 1) := by decide +kernel
theorem dX3_worth_237 : decode cX3_worth 237 = .ok (.aload_n 0, 1) := by decide +kernel
theorem dX3_worth_238 : decode cX3_worth 238 = .ok (.getfield 18, 3) := by decide +kernel
theorem dX3_worth_241 : decode cX3_worth 241 = .ok (.iload 10, 2) := by decide +kernel
theorem dX3_worth_243 : decode cX3_worth 243 = .ok (.lload 11, 2) := by decide +kernel
theorem dX3_worth_245 : decode cX3_worth 245 = .ok (.lastore, 1) := by decide +kernel
theorem dX3_worth_246 : decode cX3_worth 246 = .ok (.iload 10, 2) := by decide +kernel
theorem dX3_worth_248 : decode cX3_worth 248 = .ok (.iconst 1, 1) := by decide +kernel
theorem dX3_worth_249 : decode cX3_worth 249 = .ok (.iadd, 1) := by decide +kernel
theorem dX3_worth_250 : decode cX3_worth 250 = .ok (.istore 6, 2) := by decide +kernel
theorem dX3_worth_252 : decode cX3_worth 252 = .ok (.iinc 7 1, 3) := by decide +kernel
theorem dX3_worth_255 : decode cX3_worth 255 = .ok (.goto (-207), 3) := by decide +kernel
theorem dX3_worth_258 : decode cX3_worth 258 = .ok (.iload 6, 2) := by decide +kernel
theorem dX3_worth_260 : decode cX3_worth 260 = .ok (.iconst 1, 1) := by decide +kernel
theorem dX3_worth_261 : decode cX3_worth 261 = .ok (.if_icmp .ne 12, 3) := by decide +kernel
theorem dX3_worth_264 : decode cX3_worth 264 = .ok (.aload_n 0, 1) := by decide +kernel
theorem dX3_worth_265 : decode cX3_worth 265 = .ok (.getfield 18, 3) := by decide +kernel
theorem dX3_worth_268 : decode cX3_worth 268 = .ok (.iconst 0, 1) := by decide +kernel
theorem dX3_worth_269 : decode cX3_worth 269 = .ok (.laload, 1) := by decide +kernel
theorem dX3_worth_270 : decode cX3_worth 270 = .ok (.goto 6, 3) := by decide +kernel
theorem dX3_worth_273 : decode cX3_worth 273 = .ok (.ldc2_w 29, 3) := by decide +kernel
theorem dX3_worth_276 : decode cX3_worth 276 = .ok (.lreturn, 1) := by decide +kernel
theorem dX5_shoresOf_0 : decode cX5_shoresOf 0 = .ok (.iload_n 1, 1) := by decide +kernel
theorem dX5_shoresOf_1 : decode cX5_shoresOf 1 = .ok (.ifCond .lt 21, 3) := by decide +kernel
theorem dX5_shoresOf_4 : decode cX5_shoresOf 4 = .ok (.iload_n 1, 1) := by decide +kernel
theorem dX5_shoresOf_5 : decode cX5_shoresOf 5 = .ok (.aload_n 0, 1) := by decide +kernel
theorem dX5_shoresOf_6 : decode cX5_shoresOf 6 = .ok (.getfield 20, 3) := by decide +kernel
theorem dX5_shoresOf_9 : decode cX5_shoresOf 9 = .ok (.arraylength, 1) := by decide +kernel
theorem dX5_shoresOf_10 : decode cX5_shoresOf 10 = .ok (.if_icmp .ge 12, 3) := by decide +kernel
theorem dX5_shoresOf_13 : decode cX5_shoresOf 13 = .ok (.aload_n 0, 1) := by decide +kernel
theorem dX5_shoresOf_14 : decode cX5_shoresOf 14 = .ok (.getfield 20, 3) := by decide +kernel
theorem dX5_shoresOf_17 : decode cX5_shoresOf 17 = .ok (.iload_n 1, 1) := by decide +kernel
theorem dX5_shoresOf_18 : decode cX5_shoresOf 18 = .ok (.aaload, 1) := by decide +kernel
theorem dX5_shoresOf_19 : decode cX5_shoresOf 19 = .ok (.goto 7, 3) := by decide +kernel
theorem dX5_shoresOf_22 : decode cX5_shoresOf 22 = .ok (.aload_n 0, 1) := by decide +kernel
theorem dX5_shoresOf_23 : decode cX5_shoresOf 23 = .ok (.getfield 62, 3) := by decide +kernel
theorem dX5_shoresOf_26 : decode cX5_shoresOf 26 = .ok (.areturn, 1) := by decide +kernel
theorem dX3_clear_0 : decode cX3_clear 0 = .ok (.aload_n 0, 1) := by decide +kernel
theorem dX3_clear_1 : decode cX3_clear 1 = .ok (.iconst 0, 1) := by decide +kernel
theorem dX3_clear_2 : decode cX3_clear 2 = .ok (.putfield 25, 3) := by decide +kernel
theorem dX3_clear_5 : decode cX3_clear 5 = .ok (.return_, 1) := by decide +kernel
theorem dX5_clear_0 : decode cX5_clear 0 = .ok (.aload_n 0, 1) := by decide +kernel
theorem dX5_clear_1 : decode cX5_clear 1 = .ok (.iconst 4, 1) := by decide +kernel
theorem dX5_clear_2 : decode cX5_clear 2 = .ok (.putfield 68, 3) := by decide +kernel
theorem dX5_clear_5 : decode cX5_clear 5 = .ok (.aload_n 0, 1) := by decide +kernel
theorem dX5_clear_6 : decode cX5_clear 6 = .ok (.iconst 4, 1) := by decide +kernel
theorem dX5_clear_7 : decode cX5_clear 7 = .ok (.putfield 72, 3) := by decide +kernel
theorem dX5_clear_10 : decode cX5_clear 10 = .ok (.aload_n 0, 1) := by decide +kernel
theorem dX5_clear_11 : decode cX5_clear 11 = .ok (.lconst 0, 1) := by decide +kernel
theorem dX5_clear_12 : decode cX5_clear 12 = .ok (.putfield 75, 3) := by decide +kernel
theorem dX5_clear_15 : decode cX5_clear 15 = .ok (.aload_n 0, 1) := by decide +kernel
theorem dX5_clear_16 : decode cX5_clear 16 = .ok (.lconst 0, 1) := by decide +kernel
theorem dX5_clear_17 : decode cX5_clear 17 = .ok (.putfield 79, 3) := by decide +kernel
theorem dX5_clear_20 : decode cX5_clear 20 = .ok (.aload_n 0, 1) := by decide +kernel
theorem dX5_clear_21 : decode cX5_clear 21 = .ok (.bipush 10, 2) := by decide +kernel
theorem dX5_clear_23 : decode cX5_clear 23 = .ok (.putfield 82, 3) := by decide +kernel
theorem dX5_clear_26 : decode cX5_clear 26 = .ok (.aload_n 0, 1) := by decide +kernel
theorem dX5_clear_27 : decode cX5_clear 27 = .ok (.bipush 30, 2) := by decide +kernel
theorem dX5_clear_29 : decode cX5_clear 29 = .ok (.putfield 85, 3) := by decide +kernel
theorem dX5_clear_32 : decode cX5_clear 32 = .ok (.aload_n 0, 1) := by decide +kernel
theorem dX5_clear_33 : decode cX5_clear 33 = .ok (.bipush 50, 2) := by decide +kernel
theorem dX5_clear_35 : decode cX5_clear 35 = .ok (.putfield 88, 3) := by decide +kernel
theorem dX5_clear_38 : decode cX5_clear 38 = .ok (.aload_n 0, 1) := by decide +kernel
theorem dX5_clear_39 : decode cX5_clear 39 = .ok (.getfield 14, 3) := by decide +kernel
theorem dX5_clear_42 : decode cX5_clear 42 = .ok (.invokevirtual 91, 3) := by decide +kernel
theorem dX5_clear_45 : decode cX5_clear 45 = .ok (.aload_n 0, 1) := by decide +kernel
theorem dX5_clear_46 : decode cX5_clear 46 = .ok (.getfield 24, 3) := by decide +kernel
theorem dX5_clear_49 : decode cX5_clear 49 = .ok (.invokevirtual 91, 3) := by decide +kernel
theorem dX5_clear_52 : decode cX5_clear 52 = .ok (.aload_n 0, 1) := by decide +kernel
theorem dX5_clear_53 : decode cX5_clear 53 = .ok (.getfield 27, 3) := by decide +kernel
theorem dX5_clear_56 : decode cX5_clear 56 = .ok (.invokevirtual 91, 3) := by decide +kernel
theorem dX5_clear_59 : decode cX5_clear 59 = .ok (.aload_n 0, 1) := by decide +kernel
theorem dX5_clear_60 : decode cX5_clear 60 = .ok (.getfield 33, 3) := by decide +kernel
theorem dX5_clear_63 : decode cX5_clear 63 = .ok (.invokevirtual 91, 3) := by decide +kernel
theorem dX5_clear_66 : decode cX5_clear 66 = .ok (.aload_n 0, 1) := by decide +kernel
theorem dX5_clear_67 : decode cX5_clear 67 = .ok (.getfield 36, 3) := by decide +kernel
theorem dX5_clear_70 : decode cX5_clear 70 = .ok (.invokevirtual 91, 3) := by decide +kernel
theorem dX5_clear_73 : decode cX5_clear 73 = .ok (.aload_n 0, 1) := by decide +kernel
theorem dX5_clear_74 : decode cX5_clear 74 = .ok (.getfield 39, 3) := by decide +kernel
theorem dX5_clear_77 : decode cX5_clear 77 = .ok (.invokevirtual 91, 3) := by decide +kernel
theorem dX5_clear_80 : decode cX5_clear 80 = .ok (.aload_n 0, 1) := by decide +kernel
theorem dX5_clear_81 : decode cX5_clear 81 = .ok (.getfield 42, 3) := by decide +kernel
theorem dX5_clear_84 : decode cX5_clear 84 = .ok (.invokevirtual 91, 3) := by decide +kernel
theorem dX5_clear_87 : decode cX5_clear 87 = .ok (.aload_n 0, 1) := by decide +kernel
theorem dX5_clear_88 : decode cX5_clear 88 = .ok (.getfield 45, 3) := by decide +kernel
theorem dX5_clear_91 : decode cX5_clear 91 = .ok (.invokevirtual 91, 3) := by decide +kernel
theorem dX5_clear_94 : decode cX5_clear 94 = .ok (.aload_n 0, 1) := by decide +kernel
theorem dX5_clear_95 : decode cX5_clear 95 = .ok (.getfield 51, 3) := by decide +kernel
theorem dX5_clear_98 : decode cX5_clear 98 = .ok (.invokevirtual 92, 3) := by decide +kernel
theorem dX5_clear_101 : decode cX5_clear 101 = .ok (.aload_n 0, 1) := by decide +kernel
theorem dX5_clear_102 : decode cX5_clear 102 = .ok (.getfield 58, 3) := by decide +kernel
theorem dX5_clear_105 : decode cX5_clear 105 = .ok (.invokevirtual 93, 3) := by decide +kernel
theorem dX5_clear_108 : decode cX5_clear 108 = .ok (.iconst 0, 1) := by decide +kernel
theorem dX5_clear_109 : decode cX5_clear 109 = .ok (.istore_n 1, 1) := by decide +kernel
theorem dX5_clear_110 : decode cX5_clear 110 = .ok (.iload_n 1, 1) := by decide +kernel
theorem dX5_clear_111 : decode cX5_clear 111 = .ok (.aload_n 0, 1) := by decide +kernel
theorem dX5_clear_112 : decode cX5_clear 112 = .ok (.getfield 20, 3) := by decide +kernel
theorem dX5_clear_115 : decode cX5_clear 115 = .ok (.arraylength, 1) := by decide +kernel
theorem dX5_clear_116 : decode cX5_clear 116 = .ok (.if_icmp .ge 18, 3) := by decide +kernel
theorem dX5_clear_119 : decode cX5_clear 119 = .ok (.aload_n 0, 1) := by decide +kernel
theorem dX5_clear_120 : decode cX5_clear 120 = .ok (.getfield 20, 3) := by decide +kernel
theorem dX5_clear_123 : decode cX5_clear 123 = .ok (.iload_n 1, 1) := by decide +kernel
theorem dX5_clear_124 : decode cX5_clear 124 = .ok (.aaload, 1) := by decide +kernel
theorem dX5_clear_125 : decode cX5_clear 125 = .ok (.invokevirtual 91, 3) := by decide +kernel
theorem dX5_clear_128 : decode cX5_clear 128 = .ok (.iinc 1 1, 3) := by decide +kernel
theorem dX5_clear_131 : decode cX5_clear 131 = .ok (.goto (-21), 3) := by decide +kernel
theorem dX5_clear_134 : decode cX5_clear 134 = .ok (.iconst 0, 1) := by decide +kernel
theorem dX5_clear_135 : decode cX5_clear 135 = .ok (.istore_n 1, 1) := by decide +kernel
theorem dX5_clear_136 : decode cX5_clear 136 = .ok (.iload_n 1, 1) := by decide +kernel
theorem dX5_clear_137 : decode cX5_clear 137 = .ok (.aload_n 0, 1) := by decide +kernel
theorem dX5_clear_138 : decode cX5_clear 138 = .ok (.getfield 30, 3) := by decide +kernel
theorem dX5_clear_141 : decode cX5_clear 141 = .ok (.arraylength, 1) := by decide +kernel
theorem dX5_clear_142 : decode cX5_clear 142 = .ok (.if_icmp .ge 18, 3) := by decide +kernel
theorem dX5_clear_145 : decode cX5_clear 145 = .ok (.aload_n 0, 1) := by decide +kernel
theorem dX5_clear_146 : decode cX5_clear 146 = .ok (.getfield 30, 3) := by decide +kernel
theorem dX5_clear_149 : decode cX5_clear 149 = .ok (.iload_n 1, 1) := by decide +kernel
theorem dX5_clear_150 : decode cX5_clear 150 = .ok (.aaload, 1) := by decide +kernel
theorem dX5_clear_151 : decode cX5_clear 151 = .ok (.invokevirtual 91, 3) := by decide +kernel
theorem dX5_clear_154 : decode cX5_clear 154 = .ok (.iinc 1 1, 3) := by decide +kernel
theorem dX5_clear_157 : decode cX5_clear 157 = .ok (.goto (-21), 3) := by decide +kernel
theorem dX5_clear_160 : decode cX5_clear 160 = .ok (.return_, 1) := by decide +kernel
theorem dX7_isFull_0 : decode cX7_isFull 0 = .ok (.aload_n 0, 1) := by decide +kernel
theorem dX7_isFull_1 : decode cX7_isFull 1 = .ok (.getfield 21, 3) := by decide +kernel
theorem dX7_isFull_4 : decode cX7_isFull 4 = .ok (.aload_n 0, 1) := by decide +kernel
theorem dX7_isFull_5 : decode cX7_isFull 5 = .ok (.getfield 15, 3) := by decide +kernel
theorem dX7_isFull_8 : decode cX7_isFull 8 = .ok (.arraylength, 1) := by decide +kernel
theorem dX7_isFull_9 : decode cX7_isFull 9 = .ok (.if_icmp .lt 7, 3) := by decide +kernel
theorem dX7_isFull_12 : decode cX7_isFull 12 = .ok (.iconst 1, 1) := by decide +kernel
theorem dX7_isFull_13 : decode cX7_isFull 13 = .ok (.goto 4, 3) := by decide +kernel
theorem dX7_isFull_16 : decode cX7_isFull 16 = .ok (.iconst 0, 1) := by decide +kernel
theorem dX7_isFull_17 : decode cX7_isFull 17 = .ok (.ireturn, 1) := by decide +kernel
theorem dX1_cellBits_0 : decode cX1_cellBits 0 = .ok (.lconst 0, 1) := by decide +kernel
theorem dX1_cellBits_1 : decode cX1_cellBits 1 = .ok (.lstore_n 1, 1) := by decide +kernel
theorem dX1_cellBits_2 : decode cX1_cellBits 2 = .ok (.iconst 0, 1) := by decide +kernel
theorem dX1_cellBits_3 : decode cX1_cellBits 3 = .ok (.istore_n 3, 1) := by decide +kernel
theorem dX1_cellBits_4 : decode cX1_cellBits 4 = .ok (.iload_n 3, 1) := by decide +kernel
theorem dX1_cellBits_5 : decode cX1_cellBits 5 = .ok (.aload_n 0, 1) := by decide +kernel
theorem dX1_cellBits_6 : decode cX1_cellBits 6 = .ok (.getfield 27, 3) := by decide +kernel
theorem dX1_cellBits_9 : decode cX1_cellBits 9 = .ok (.if_icmp .ge 20, 3) := by decide +kernel
theorem dX1_cellBits_12 : decode cX1_cellBits 12 = .ok (.lload_n 1, 1) := by decide +kernel
theorem dX1_cellBits_13 : decode cX1_cellBits 13 = .ok (.lconst 1, 1) := by decide +kernel
theorem dX1_cellBits_14 : decode cX1_cellBits 14 = .ok (.aload_n 0, 1) := by decide +kernel
theorem dX1_cellBits_15 : decode cX1_cellBits 15 = .ok (.getfield 21, 3) := by decide +kernel
theorem dX1_cellBits_18 : decode cX1_cellBits 18 = .ok (.iload_n 3, 1) := by decide +kernel
theorem dX1_cellBits_19 : decode cX1_cellBits 19 = .ok (.iaload, 1) := by decide +kernel
theorem dX1_cellBits_20 : decode cX1_cellBits 20 = .ok (.lshl, 1) := by decide +kernel
theorem dX1_cellBits_21 : decode cX1_cellBits 21 = .ok (.lor, 1) := by decide +kernel
theorem dX1_cellBits_22 : decode cX1_cellBits 22 = .ok (.lstore_n 1, 1) := by decide +kernel
theorem dX1_cellBits_23 : decode cX1_cellBits 23 = .ok (.iinc 3 1, 3) := by decide +kernel
theorem dX1_cellBits_26 : decode cX1_cellBits 26 = .ok (.goto (-22), 3) := by decide +kernel
theorem dX1_cellBits_29 : decode cX1_cellBits 29 = .ok (.lload_n 1, 1) := by decide +kernel
theorem dX1_cellBits_30 : decode cX1_cellBits 30 = .ok (.lreturn, 1) := by decide +kernel
theorem dX7_cellBits_0 : decode cX7_cellBits 0 = .ok (.lconst 0, 1) := by decide +kernel
theorem dX7_cellBits_1 : decode cX7_cellBits 1 = .ok (.lstore_n 1, 1) := by decide +kernel
theorem dX7_cellBits_2 : decode cX7_cellBits 2 = .ok (.iconst 0, 1) := by decide +kernel
theorem dX7_cellBits_3 : decode cX7_cellBits 3 = .ok (.istore_n 3, 1) := by decide +kernel
theorem dX7_cellBits_4 : decode cX7_cellBits 4 = .ok (.iload_n 3, 1) := by decide +kernel
theorem dX7_cellBits_5 : decode cX7_cellBits 5 = .ok (.aload_n 0, 1) := by decide +kernel
theorem dX7_cellBits_6 : decode cX7_cellBits 6 = .ok (.getfield 21, 3) := by decide +kernel
theorem dX7_cellBits_9 : decode cX7_cellBits 9 = .ok (.if_icmp .ge 29, 3) := by decide +kernel
theorem dX7_cellBits_12 : decode cX7_cellBits 12 = .ok (.iload_n 3, 1) := by decide +kernel
theorem dX7_cellBits_13 : decode cX7_cellBits 13 = .ok (.aload_n 0, 1) := by decide +kernel
theorem dX7_cellBits_14 : decode cX7_cellBits 14 = .ok (.getfield 15, 3) := by decide +kernel
theorem dX7_cellBits_17 : decode cX7_cellBits 17 = .ok (.arraylength, 1) := by decide +kernel
theorem dX7_cellBits_18 : decode cX7_cellBits 18 = .ok (.if_icmp .ge 20, 3) := by decide +kernel
theorem dX7_cellBits_21 : decode cX7_cellBits 21 = .ok (.lload_n 1, 1) := by decide +kernel
theorem dX7_cellBits_22 : decode cX7_cellBits 22 = .ok (.lconst 1, 1) := by decide +kernel
theorem dX7_cellBits_23 : decode cX7_cellBits 23 = .ok (.aload_n 0, 1) := by decide +kernel
theorem dX7_cellBits_24 : decode cX7_cellBits 24 = .ok (.getfield 15, 3) := by decide +kernel
theorem dX7_cellBits_27 : decode cX7_cellBits 27 = .ok (.iload_n 3, 1) := by decide +kernel
theorem dX7_cellBits_28 : decode cX7_cellBits 28 = .ok (.iaload, 1) := by decide +kernel
theorem dX7_cellBits_29 : decode cX7_cellBits 29 = .ok (.lshl, 1) := by decide +kernel
theorem dX7_cellBits_30 : decode cX7_cellBits 30 = .ok (.lor, 1) := by decide +kernel
theorem dX7_cellBits_31 : decode cX7_cellBits 31 = .ok (.lstore_n 1, 1) := by decide +kernel
theorem dX7_cellBits_32 : decode cX7_cellBits 32 = .ok (.iinc 3 1, 3) := by decide +kernel
theorem dX7_cellBits_35 : decode cX7_cellBits 35 = .ok (.goto (-31), 3) := by decide +kernel
theorem dX7_cellBits_38 : decode cX7_cellBits 38 = .ok (.lload_n 1, 1) := by decide +kernel
theorem dX7_cellBits_39 : decode cX7_cellBits 39 = .ok (.lreturn, 1) := by decide +kernel
theorem dX5_usedCells_0 : decode cX5_usedCells 0 = .ok (.aload_n 0, 1) := by decide +kernel
theorem dX5_usedCells_1 : decode cX5_usedCells 1 = .ok (.getfield 79, 3) := by decide +kernel
theorem dX5_usedCells_4 : decode cX5_usedCells 4 = .ok (.aload_n 0, 1) := by decide +kernel
theorem dX5_usedCells_5 : decode cX5_usedCells 5 = .ok (.getfield 14, 3) := by decide +kernel
theorem dX5_usedCells_8 : decode cX5_usedCells 8 = .ok (.invokevirtual 94, 3) := by decide +kernel
theorem dX5_usedCells_11 : decode cX5_usedCells 11 = .ok (.lor, 1) := by decide +kernel
theorem dX5_usedCells_12 : decode cX5_usedCells 12 = .ok (.aload_n 0, 1) := by decide +kernel
theorem dX5_usedCells_13 : decode cX5_usedCells 13 = .ok (.getfield 39, 3) := by decide +kernel
theorem dX5_usedCells_16 : decode cX5_usedCells 16 = .ok (.invokevirtual 94, 3) := by decide +kernel
theorem dX5_usedCells_19 : decode cX5_usedCells 19 = .ok (.lor, 1) := by decide +kernel
theorem dX5_usedCells_20 : decode cX5_usedCells 20 = .ok (.aload_n 0, 1) := by decide +kernel
theorem dX5_usedCells_21 : decode cX5_usedCells 21 = .ok (.getfield 45, 3) := by decide +kernel
theorem dX5_usedCells_24 : decode cX5_usedCells 24 = .ok (.invokevirtual 94, 3) := by decide +kernel
theorem dX5_usedCells_27 : decode cX5_usedCells 27 = .ok (.lor, 1) := by decide +kernel
theorem dX5_usedCells_28 : decode cX5_usedCells 28 = .ok (.aload_n 0, 1) := by decide +kernel
theorem dX5_usedCells_29 : decode cX5_usedCells 29 = .ok (.getfield 51, 3) := by decide +kernel
theorem dX5_usedCells_32 : decode cX5_usedCells 32 = .ok (.invokevirtual 98, 3) := by decide +kernel
theorem dX5_usedCells_35 : decode cX5_usedCells 35 = .ok (.lor, 1) := by decide +kernel
theorem dX5_usedCells_36 : decode cX5_usedCells 36 = .ok (.lstore_n 1, 1) := by decide +kernel
theorem dX5_usedCells_37 : decode cX5_usedCells 37 = .ok (.iconst 0, 1) := by decide +kernel
theorem dX5_usedCells_38 : decode cX5_usedCells 38 = .ok (.istore_n 3, 1) := by decide +kernel
theorem dX5_usedCells_39 : decode cX5_usedCells 39 = .ok (.iload_n 3, 1) := by decide +kernel
theorem dX5_usedCells_40 : decode cX5_usedCells 40 = .ok (.aload_n 0, 1) := by decide +kernel
theorem dX5_usedCells_41 : decode cX5_usedCells 41 = .ok (.getfield 20, 3) := by decide +kernel
theorem dX5_usedCells_44 : decode cX5_usedCells 44 = .ok (.arraylength, 1) := by decide +kernel
theorem dX5_usedCells_45 : decode cX5_usedCells 45 = .ok (.if_icmp .ge 21, 3) := by decide +kernel
theorem dX5_usedCells_48 : decode cX5_usedCells 48 = .ok (.lload_n 1, 1) := by decide +kernel
theorem dX5_usedCells_49 : decode cX5_usedCells 49 = .ok (.aload_n 0, 1) := by decide +kernel
theorem dX5_usedCells_50 : decode cX5_usedCells 50 = .ok (.getfield 20, 3) := by decide +kernel
theorem dX5_usedCells_53 : decode cX5_usedCells 53 = .ok (.iload_n 3, 1) := by decide +kernel
theorem dX5_usedCells_54 : decode cX5_usedCells 54 = .ok (.aaload, 1) := by decide +kernel
theorem dX5_usedCells_55 : decode cX5_usedCells 55 = .ok (.invokevirtual 94, 3) := by decide +kernel
theorem dX5_usedCells_58 : decode cX5_usedCells 58 = .ok (.lor, 1) := by decide +kernel
theorem dX5_usedCells_59 : decode cX5_usedCells 59 = .ok (.lstore_n 1, 1) := by decide +kernel
theorem dX5_usedCells_60 : decode cX5_usedCells 60 = .ok (.iinc 3 1, 3) := by decide +kernel
theorem dX5_usedCells_63 : decode cX5_usedCells 63 = .ok (.goto (-24), 3) := by decide +kernel
theorem dX5_usedCells_66 : decode cX5_usedCells 66 = .ok (.lload_n 1, 1) := by decide +kernel
theorem dX5_usedCells_67 : decode cX5_usedCells 67 = .ok (.lreturn, 1) := by decide +kernel
theorem dX3_add_0 : decode cX3_add 0 = .ok (.aload_n 0, 1) := by decide +kernel
theorem dX3_add_1 : decode cX3_add 1 = .ok (.getfield 25, 3) := by decide +kernel
theorem dX3_add_4 : decode cX3_add 4 = .ok (.ifCond .lt 42, 3) := by decide +kernel
theorem dX3_add_7 : decode cX3_add 7 = .ok (.aload_n 0, 1) := by decide +kernel
theorem dX3_add_8 : decode cX3_add 8 = .ok (.getfield 25, 3) := by decide +kernel
theorem dX3_add_11 : decode cX3_add 11 = .ok (.bipush 64, 2) := by decide +kernel
theorem dX3_add_13 : decode cX3_add 13 = .ok (.if_icmp .ge 33, 3) := by decide +kernel
theorem dX3_add_16 : decode cX3_add 16 = .ok (.aload_n 0, 1) := by decide +kernel
theorem dX3_add_17 : decode cX3_add 17 = .ok (.getfield 9, 3) := by decide +kernel
theorem dX3_add_20 : decode cX3_add 20 = .ok (.aload_n 0, 1) := by decide +kernel
theorem dX3_add_21 : decode cX3_add 21 = .ok (.getfield 25, 3) := by decide +kernel
theorem dX3_add_24 : decode cX3_add 24 = .ok (.iload_n 1, 1) := by decide +kernel
theorem dX3_add_25 : decode cX3_add 25 = .ok (.iastore, 1) := by decide +kernel
theorem dX3_add_26 : decode cX3_add 26 = .ok (.aload_n 0, 1) := by decide +kernel
theorem dX3_add_27 : decode cX3_add 27 = .ok (.getfield 15, 3) := by decide +kernel
theorem dX3_add_30 : decode cX3_add 30 = .ok (.aload_n 0, 1) := by decide +kernel
theorem dX3_add_31 : decode cX3_add 31 = .ok (.getfield 25, 3) := by decide +kernel
theorem dX3_add_34 : decode cX3_add 34 = .ok (.iload_n 2, 1) := by decide +kernel
theorem dX3_add_35 : decode cX3_add 35 = .ok (.iastore, 1) := by decide +kernel
theorem dX3_add_36 : decode cX3_add 36 = .ok (.aload_n 0, 1) := by decide +kernel
theorem dX3_add_37 : decode cX3_add 37 = .ok (.dup, 1) := by decide +kernel
theorem dX3_add_38 : decode cX3_add 38 = .ok (.getfield 25, 3) := by decide +kernel
theorem dX3_add_41 : decode cX3_add 41 = .ok (.iconst 1, 1) := by decide +kernel
theorem dX3_add_42 : decode cX3_add 42 = .ok (.iadd, 1) := by decide +kernel
theorem dX3_add_43 : decode cX3_add 43 = .ok (.putfield 25, 3) := by decide +kernel
theorem dX3_add_46 : decode cX3_add 46 = .ok (.return_, 1) := by decide +kernel
