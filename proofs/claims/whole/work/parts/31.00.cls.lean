theorem i_1_0 : aIns 1 0 = some (.aload_n 0, 1, 0, 0, .null) := by decide +kernel
theorem i_1_1 : aIns 1 1 = some (.iconst 0, 1, 0, 0, .int (0)) := by decide +kernel
theorem i_1_2 : aIns 1 2 = some (.putfield 15, 3, 0, 0, .null) := by decide +kernel
theorem i_1_5 : aIns 1 5 = some (.aload_n 0, 1, 0, 0, .null) := by decide +kernel
theorem i_1_6 : aIns 1 6 = some (.iconst 0, 1, 0, 0, .int (0)) := by decide +kernel
theorem i_1_7 : aIns 1 7 = some (.putfield 19, 3, 0, 1, .null) := by decide +kernel
theorem i_1_10 : aIns 1 10 = some (.aload_n 0, 1, 0, 0, .null) := by decide +kernel
theorem i_1_11 : aIns 1 11 = some (.iconst 0, 1, 0, 0, .int (0)) := by decide +kernel
theorem i_1_12 : aIns 1 12 = some (.putfield 23, 3, 0, 2, .null) := by decide +kernel
theorem i_1_15 : aIns 1 15 = some (.return_, 1, 0, 0, .null) := by decide +kernel
theorem i_2_0 : aIns 2 0 = some (.aload_n 0, 1, 0, 0, .null) := by decide +kernel
theorem i_2_1 : aIns 2 1 = some (.getfield 15, 3, 0, 0, .null) := by decide +kernel
theorem i_2_4 : aIns 2 4 = some (.ifCond .eq 11, 3, 0, 0, .null) := by decide +kernel
theorem i_2_7 : aIns 2 7 = some (.iload_n 1, 1, 0, 0, .null) := by decide +kernel
theorem i_2_8 : aIns 2 8 = some (.aload_n 0, 1, 0, 0, .null) := by decide +kernel
theorem i_2_9 : aIns 2 9 = some (.getfield 19, 3, 0, 1, .null) := by decide +kernel
theorem i_2_12 : aIns 2 12 = some (.if_icmp .ge 10, 3, 0, 0, .null) := by decide +kernel
theorem i_2_15 : aIns 2 15 = some (.aload_n 0, 1, 0, 0, .null) := by decide +kernel
theorem i_2_16 : aIns 2 16 = some (.iload_n 1, 1, 0, 0, .null) := by decide +kernel
theorem i_2_17 : aIns 2 17 = some (.aload_n 2, 1, 0, 0, .null) := by decide +kernel
theorem i_2_18 : aIns 2 18 = some (.iload_n 3, 1, 0, 0, .null) := by decide +kernel
theorem i_2_19 : aIns 2 19 = some (.invokevirtual 26, 3, 3, 3, .int 0) := by decide +kernel
theorem i_2_22 : aIns 2 22 = some (.return_, 1, 0, 0, .null) := by decide +kernel
theorem i_3_0 : aIns 3 0 = some (.aload_n 0, 1, 0, 0, .null) := by decide +kernel
theorem i_3_1 : aIns 3 1 = some (.iconst 1, 1, 0, 0, .int (1)) := by decide +kernel
theorem i_3_2 : aIns 3 2 = some (.putfield 15, 3, 0, 0, .null) := by decide +kernel
theorem i_3_5 : aIns 3 5 = some (.aload_n 0, 1, 0, 0, .null) := by decide +kernel
theorem i_3_6 : aIns 3 6 = some (.iload_n 1, 1, 0, 0, .null) := by decide +kernel
theorem i_3_7 : aIns 3 7 = some (.putfield 19, 3, 0, 1, .null) := by decide +kernel
theorem i_3_10 : aIns 3 10 = some (.aload_n 0, 1, 0, 0, .null) := by decide +kernel
theorem i_3_11 : aIns 3 11 = some (.iload_n 3, 1, 0, 0, .null) := by decide +kernel
theorem i_3_12 : aIns 3 12 = some (.putfield 23, 3, 0, 2, .null) := by decide +kernel
theorem i_3_15 : aIns 3 15 = some (.aload_n 2, 1, 0, 0, .null) := by decide +kernel
theorem i_3_16 : aIns 3 16 = some (.iconst 0, 1, 0, 0, .int (0)) := by decide +kernel
theorem i_3_17 : aIns 3 17 = some (.aload_n 0, 1, 0, 0, .null) := by decide +kernel
theorem i_3_18 : aIns 3 18 = some (.getfield 9, 3, 0, 3, .null) := by decide +kernel
theorem i_3_21 : aIns 3 21 = some (.iconst 0, 1, 0, 0, .int (0)) := by decide +kernel
theorem i_3_22 : aIns 3 22 = some (.iload_n 3, 1, 0, 0, .null) := by decide +kernel
theorem i_3_23 : aIns 3 23 = some (.invokestatic 30, 3, 1000, 0, .null) := by decide +kernel
theorem i_3_26 : aIns 3 26 = some (.return_, 1, 0, 0, .null) := by decide +kernel
theorem i_4_0 : aIns 4 0 = some (.iload_n 1, 1, 0, 0, .null) := by decide +kernel
theorem i_4_1 : aIns 4 1 = some (.ifCond .ne 8, 3, 0, 0, .null) := by decide +kernel
theorem i_4_4 : aIns 4 4 = some (.aload_n 0, 1, 0, 0, .null) := by decide +kernel
theorem i_4_5 : aIns 4 5 = some (.getfield 19, 3, 0, 1, .null) := by decide +kernel
theorem i_4_8 : aIns 4 8 = some (.ireturn, 1, 0, 0, .null) := by decide +kernel
theorem i_4_9 : aIns 4 9 = some (.iload_n 1, 1, 0, 0, .null) := by decide +kernel
theorem i_4_10 : aIns 4 10 = some (.aload_n 0, 1, 0, 0, .null) := by decide +kernel
theorem i_4_11 : aIns 4 11 = some (.getfield 23, 3, 0, 2, .null) := by decide +kernel
theorem i_4_14 : aIns 4 14 = some (.if_icmp .gt 14, 3, 0, 0, .null) := by decide +kernel
theorem i_4_17 : aIns 4 17 = some (.aload_n 0, 1, 0, 0, .null) := by decide +kernel
theorem i_4_18 : aIns 4 18 = some (.getfield 9, 3, 0, 3, .null) := by decide +kernel
theorem i_4_21 : aIns 4 21 = some (.iload_n 1, 1, 0, 0, .null) := by decide +kernel
theorem i_4_22 : aIns 4 22 = some (.iconst 1, 1, 0, 0, .int (1)) := by decide +kernel
theorem i_4_23 : aIns 4 23 = some (.isub, 1, 0, 0, .null) := by decide +kernel
theorem i_4_24 : aIns 4 24 = some (.iaload, 1, 0, 0, .null) := by decide +kernel
theorem i_4_25 : aIns 4 25 = some (.goto 5, 3, 0, 0, .null) := by decide +kernel
theorem i_4_28 : aIns 4 28 = some (.bipush (-2), 2, 0, 0, .int (-2)) := by decide +kernel
theorem i_4_30 : aIns 4 30 = some (.ireturn, 1, 0, 0, .null) := by decide +kernel
theorem i_5_0 : aIns 5 0 = some (.iconst 0, 1, 0, 0, .int (0)) := by decide +kernel
theorem i_5_1 : aIns 5 1 = some (.istore_n 1, 1, 0, 0, .null) := by decide +kernel
theorem i_5_2 : aIns 5 2 = some (.iconst 0, 1, 0, 0, .int (0)) := by decide +kernel
theorem i_5_3 : aIns 5 3 = some (.istore_n 2, 1, 0, 0, .null) := by decide +kernel
theorem i_5_4 : aIns 5 4 = some (.iload_n 2, 1, 0, 0, .null) := by decide +kernel
theorem i_5_5 : aIns 5 5 = some (.aload_n 0, 1, 0, 0, .null) := by decide +kernel
theorem i_5_6 : aIns 5 6 = some (.getfield 23, 3, 0, 2, .null) := by decide +kernel
theorem i_5_9 : aIns 5 9 = some (.if_icmp .ge 18, 3, 0, 0, .null) := by decide +kernel
theorem i_5_12 : aIns 5 12 = some (.iload_n 1, 1, 0, 0, .null) := by decide +kernel
theorem i_5_13 : aIns 5 13 = some (.aload_n 0, 1, 0, 0, .null) := by decide +kernel
theorem i_5_14 : aIns 5 14 = some (.getfield 9, 3, 0, 3, .null) := by decide +kernel
theorem i_5_17 : aIns 5 17 = some (.iload_n 2, 1, 0, 0, .null) := by decide +kernel
theorem i_5_18 : aIns 5 18 = some (.iaload, 1, 0, 0, .null) := by decide +kernel
theorem i_5_19 : aIns 5 19 = some (.iadd, 1, 0, 0, .null) := by decide +kernel
theorem i_5_20 : aIns 5 20 = some (.istore_n 1, 1, 0, 0, .null) := by decide +kernel
theorem i_5_21 : aIns 5 21 = some (.iinc 2 1, 3, 0, 0, .null) := by decide +kernel
theorem i_5_24 : aIns 5 24 = some (.goto (-20), 3, 0, 0, .null) := by decide +kernel
theorem i_5_27 : aIns 5 27 = some (.iload_n 1, 1, 0, 0, .null) := by decide +kernel
theorem i_5_28 : aIns 5 28 = some (.ireturn, 1, 0, 0, .null) := by decide +kernel
theorem i_6_0 : aIns 6 0 = some (.iconst (-1), 1, 0, 0, .int (-1)) := by decide +kernel
theorem i_6_1 : aIns 6 1 = some (.istore_n 1, 1, 0, 0, .null) := by decide +kernel
theorem i_6_2 : aIns 6 2 = some (.iconst 0, 1, 0, 0, .int (0)) := by decide +kernel
theorem i_6_3 : aIns 6 3 = some (.istore_n 2, 1, 0, 0, .null) := by decide +kernel
theorem i_6_4 : aIns 6 4 = some (.iload_n 2, 1, 0, 0, .null) := by decide +kernel
theorem i_6_5 : aIns 6 5 = some (.aload_n 0, 1, 0, 0, .null) := by decide +kernel
theorem i_6_6 : aIns 6 6 = some (.getfield 23, 3, 0, 2, .null) := by decide +kernel
theorem i_6_9 : aIns 6 9 = some (.if_icmp .ge 20, 3, 0, 0, .null) := by decide +kernel
theorem i_6_12 : aIns 6 12 = some (.iload_n 1, 1, 0, 0, .null) := by decide +kernel
theorem i_6_13 : aIns 6 13 = some (.aload_n 0, 1, 0, 0, .null) := by decide +kernel
theorem i_6_14 : aIns 6 14 = some (.getfield 9, 3, 0, 3, .null) := by decide +kernel
theorem i_6_17 : aIns 6 17 = some (.iload_n 2, 1, 0, 0, .null) := by decide +kernel
theorem i_6_18 : aIns 6 18 = some (.iaload, 1, 0, 0, .null) := by decide +kernel
theorem i_6_19 : aIns 6 19 = some (.invokestatic 36, 3, 1001, 0, .null) := by decide +kernel
theorem i_6_22 : aIns 6 22 = some (.istore_n 1, 1, 0, 0, .null) := by decide +kernel
theorem i_6_23 : aIns 6 23 = some (.iinc 2 1, 3, 0, 0, .null) := by decide +kernel
theorem i_6_26 : aIns 6 26 = some (.goto (-22), 3, 0, 0, .null) := by decide +kernel
theorem i_6_29 : aIns 6 29 = some (.iload_n 1, 1, 0, 0, .null) := by decide +kernel
theorem i_6_30 : aIns 6 30 = some (.ireturn, 1, 0, 0, .null) := by decide +kernel
theorem i_8_0 : aIns 8 0 = some (.aload_n 0, 1, 0, 0, .null) := by decide +kernel
theorem i_8_1 : aIns 8 1 = some (.getfield 11, 3, 1, 0, .null) := by decide +kernel
theorem i_8_4 : aIns 8 4 = some (.aload_n 0, 1, 0, 0, .null) := by decide +kernel
theorem i_8_5 : aIns 8 5 = some (.getfield 18, 3, 1, 1, .null) := by decide +kernel
theorem i_8_8 : aIns 8 8 = some (.aaload, 1, 0, 0, .null) := by decide +kernel
theorem i_8_9 : aIns 8 9 = some (.aload_n 1, 1, 0, 0, .null) := by decide +kernel
theorem i_8_10 : aIns 8 10 = some (.invokevirtual 22, 3, 72, 1, .int 7) := by decide +kernel
theorem i_8_13 : aIns 8 13 = some (.aload_n 0, 1, 0, 0, .null) := by decide +kernel
theorem i_8_14 : aIns 8 14 = some (.aload_n 0, 1, 0, 0, .null) := by decide +kernel
theorem i_8_15 : aIns 8 15 = some (.getfield 18, 3, 1, 1, .null) := by decide +kernel
theorem i_8_18 : aIns 8 18 = some (.iconst 1, 1, 0, 0, .int (1)) := by decide +kernel
theorem i_8_19 : aIns 8 19 = some (.iadd, 1, 0, 0, .null) := by decide +kernel
theorem i_8_20 : aIns 8 20 = some (.bipush 20, 2, 0, 0, .int (20)) := by decide +kernel
theorem i_8_22 : aIns 8 22 = some (.irem, 1, 0, 0, .null) := by decide +kernel
theorem i_8_23 : aIns 8 23 = some (.putfield 18, 3, 1, 1, .null) := by decide +kernel
theorem i_8_26 : aIns 8 26 = some (.aload_n 0, 1, 0, 0, .null) := by decide +kernel
theorem i_8_27 : aIns 8 27 = some (.bipush 20, 2, 0, 0, .int (20)) := by decide +kernel
theorem i_8_29 : aIns 8 29 = some (.aload_n 0, 1, 0, 0, .null) := by decide +kernel
theorem i_8_30 : aIns 8 30 = some (.getfield 26, 3, 1, 2, .null) := by decide +kernel
theorem i_8_33 : aIns 8 33 = some (.iconst 1, 1, 0, 0, .int (1)) := by decide +kernel
theorem i_8_34 : aIns 8 34 = some (.iadd, 1, 0, 0, .null) := by decide +kernel
theorem i_8_35 : aIns 8 35 = some (.invokestatic 29, 3, 1002, 0, .null) := by decide +kernel
theorem i_8_38 : aIns 8 38 = some (.putfield 26, 3, 1, 2, .null) := by decide +kernel
theorem i_8_41 : aIns 8 41 = some (.return_, 1, 0, 0, .null) := by decide +kernel
theorem i_9_0 : aIns 9 0 = some (.aload_n 0, 1, 0, 0, .null) := by decide +kernel
theorem i_9_1 : aIns 9 1 = some (.aload_n 0, 1, 0, 0, .null) := by decide +kernel
theorem i_9_2 : aIns 9 2 = some (.getfield 18, 3, 1, 1, .null) := by decide +kernel
theorem i_9_5 : aIns 9 5 = some (.bipush 20, 2, 0, 0, .int (20)) := by decide +kernel
theorem i_9_7 : aIns 9 7 = some (.iadd, 1, 0, 0, .null) := by decide +kernel
theorem i_9_8 : aIns 9 8 = some (.iconst 1, 1, 0, 0, .int (1)) := by decide +kernel
theorem i_9_9 : aIns 9 9 = some (.isub, 1, 0, 0, .null) := by decide +kernel
theorem i_9_10 : aIns 9 10 = some (.bipush 20, 2, 0, 0, .int (20)) := by decide +kernel
theorem i_9_12 : aIns 9 12 = some (.irem, 1, 0, 0, .null) := by decide +kernel
theorem i_9_13 : aIns 9 13 = some (.putfield 18, 3, 1, 1, .null) := by decide +kernel
theorem i_9_16 : aIns 9 16 = some (.aload_n 0, 1, 0, 0, .null) := by decide +kernel
theorem i_9_17 : aIns 9 17 = some (.dup, 1, 0, 0, .null) := by decide +kernel
theorem i_9_18 : aIns 9 18 = some (.getfield 26, 3, 1, 2, .null) := by decide +kernel
theorem i_9_21 : aIns 9 21 = some (.iconst 1, 1, 0, 0, .int (1)) := by decide +kernel
theorem i_9_22 : aIns 9 22 = some (.isub, 1, 0, 0, .null) := by decide +kernel
theorem i_9_23 : aIns 9 23 = some (.putfield 26, 3, 1, 2, .null) := by decide +kernel
theorem i_9_26 : aIns 9 26 = some (.aload_n 1, 1, 0, 0, .null) := by decide +kernel
theorem i_9_27 : aIns 9 27 = some (.aload_n 0, 1, 0, 0, .null) := by decide +kernel
theorem i_9_28 : aIns 9 28 = some (.getfield 11, 3, 1, 0, .null) := by decide +kernel
theorem i_9_31 : aIns 9 31 = some (.aload_n 0, 1, 0, 0, .null) := by decide +kernel
theorem i_9_32 : aIns 9 32 = some (.getfield 18, 3, 1, 1, .null) := by decide +kernel
theorem i_9_35 : aIns 9 35 = some (.aaload, 1, 0, 0, .null) := by decide +kernel
theorem i_9_36 : aIns 9 36 = some (.invokevirtual 22, 3, 72, 1, .int 7) := by decide +kernel
theorem i_9_39 : aIns 9 39 = some (.return_, 1, 0, 0, .null) := by decide +kernel
theorem i_10_0 : aIns 10 0 = some (.aload_n 0, 1, 0, 0, .null) := by decide +kernel
theorem i_10_1 : aIns 10 1 = some (.iconst 0, 1, 0, 0, .int (0)) := by decide +kernel
theorem i_10_2 : aIns 10 2 = some (.putfield 26, 3, 1, 2, .null) := by decide +kernel
theorem i_10_5 : aIns 10 5 = some (.return_, 1, 0, 0, .null) := by decide +kernel
theorem i_12_0 : aIns 12 0 = some (.aload_n 0, 1, 0, 0, .null) := by decide +kernel
theorem i_12_1 : aIns 12 1 = some (.iconst 0, 1, 0, 0, .int (0)) := by decide +kernel
theorem i_12_2 : aIns 12 2 = some (.putfield 55, 3, 2, 11, .null) := by decide +kernel
theorem i_12_5 : aIns 12 5 = some (.iconst 0, 1, 0, 0, .int (0)) := by decide +kernel
theorem i_12_6 : aIns 12 6 = some (.istore_n 2, 1, 0, 0, .null) := by decide +kernel
theorem i_12_7 : aIns 12 7 = some (.iload_n 2, 1, 0, 0, .null) := by decide +kernel
theorem i_12_8 : aIns 12 8 = some (.aload_n 0, 1, 0, 0, .null) := by decide +kernel
theorem i_12_9 : aIns 12 9 = some (.getfield 47, 3, 2, 0, .null) := by decide +kernel
theorem i_12_12 : aIns 12 12 = some (.getfield 59, 3, 10, 0, .null) := by decide +kernel
theorem i_12_15 : aIns 12 15 = some (.getfield 65, 3, 5, 4, .null) := by decide +kernel
theorem i_12_18 : aIns 12 18 = some (.if_icmp .ge 52, 3, 0, 0, .null) := by decide +kernel
theorem i_12_21 : aIns 12 21 = some (.aload_n 0, 1, 0, 0, .null) := by decide +kernel
theorem i_12_22 : aIns 12 22 = some (.getfield 22, 3, 2, 4, .null) := by decide +kernel
theorem i_12_25 : aIns 12 25 = some (.iload_n 2, 1, 0, 0, .null) := by decide +kernel
theorem i_12_26 : aIns 12 26 = some (.aload_n 0, 1, 0, 0, .null) := by decide +kernel
theorem i_12_27 : aIns 12 27 = some (.getfield 51, 3, 2, 1, .null) := by decide +kernel
theorem i_12_30 : aIns 12 30 = some (.iload_n 2, 1, 0, 0, .null) := by decide +kernel
theorem i_12_31 : aIns 12 31 = some (.iload_n 1, 1, 0, 0, .null) := by decide +kernel
theorem i_12_32 : aIns 12 32 = some (.invokevirtual 70, 3, 90, 2, .int 9) := by decide +kernel
theorem i_12_35 : aIns 12 35 = some (.iastore, 1, 0, 0, .null) := by decide +kernel
theorem i_12_36 : aIns 12 36 = some (.aload_n 0, 1, 0, 0, .null) := by decide +kernel
theorem i_12_37 : aIns 12 37 = some (.dup, 1, 0, 0, .null) := by decide +kernel
theorem i_12_38 : aIns 12 38 = some (.getfield 55, 3, 2, 11, .null) := by decide +kernel
theorem i_12_41 : aIns 12 41 = some (.aload_n 0, 1, 0, 0, .null) := by decide +kernel
theorem i_12_42 : aIns 12 42 = some (.getfield 47, 3, 2, 0, .null) := by decide +kernel
theorem i_12_45 : aIns 12 45 = some (.getfield 76, 3, 10, 1, .null) := by decide +kernel
theorem i_12_48 : aIns 12 48 = some (.getfield 79, 3, 7, 0, .null) := by decide +kernel
theorem i_12_51 : aIns 12 51 = some (.iload_n 2, 1, 0, 0, .null) := by decide +kernel
theorem i_12_52 : aIns 12 52 = some (.iaload, 1, 0, 0, .null) := by decide +kernel
theorem i_12_53 : aIns 12 53 = some (.aload_n 0, 1, 0, 0, .null) := by decide +kernel
theorem i_12_54 : aIns 12 54 = some (.getfield 22, 3, 2, 4, .null) := by decide +kernel
theorem i_12_57 : aIns 12 57 = some (.iload_n 2, 1, 0, 0, .null) := by decide +kernel
theorem i_12_58 : aIns 12 58 = some (.iaload, 1, 0, 0, .null) := by decide +kernel
theorem i_12_59 : aIns 12 59 = some (.imul, 1, 0, 0, .null) := by decide +kernel
theorem i_12_60 : aIns 12 60 = some (.iadd, 1, 0, 0, .null) := by decide +kernel
theorem i_12_61 : aIns 12 61 = some (.putfield 55, 3, 2, 11, .null) := by decide +kernel
theorem i_12_64 : aIns 12 64 = some (.iinc 2 1, 3, 0, 0, .null) := by decide +kernel
theorem i_12_67 : aIns 12 67 = some (.goto (-60), 3, 0, 0, .null) := by decide +kernel
theorem i_12_70 : aIns 12 70 = some (.aload_n 0, 1, 0, 0, .null) := by decide +kernel
theorem i_12_71 : aIns 12 71 = some (.aload_n 0, 1, 0, 0, .null) := by decide +kernel
theorem i_12_72 : aIns 12 72 = some (.getfield 47, 3, 2, 0, .null) := by decide +kernel
theorem i_12_75 : aIns 12 75 = some (.getfield 76, 3, 10, 1, .null) := by decide +kernel
theorem i_12_78 : aIns 12 78 = some (.invokevirtual 82, 3, 73, 0, .int 7) := by decide +kernel
theorem i_12_81 : aIns 12 81 = some (.putfield 86, 3, 2, 12, .null) := by decide +kernel
theorem i_12_84 : aIns 12 84 = some (.return_, 1, 0, 0, .null) := by decide +kernel
theorem i_41_0 : aIns 41 0 = some (.iconst 0, 1, 0, 0, .int (0)) := by decide +kernel
theorem i_41_1 : aIns 41 1 = some (.istore_n 2, 1, 0, 0, .null) := by decide +kernel
theorem i_41_2 : aIns 41 2 = some (.iload_n 2, 1, 0, 0, .null) := by decide +kernel
theorem i_41_3 : aIns 41 3 = some (.aload_n 0, 1, 0, 0, .null) := by decide +kernel
theorem i_41_4 : aIns 41 4 = some (.getfield 28, 3, 3, 6, .null) := by decide +kernel
theorem i_41_7 : aIns 41 7 = some (.if_icmp .ge 77, 3, 0, 0, .null) := by decide +kernel
theorem i_41_10 : aIns 41 10 = some (.aload_n 0, 1, 0, 0, .null) := by decide +kernel
theorem i_41_11 : aIns 41 11 = some (.getfield 18, 3, 3, 2, .null) := by decide +kernel
theorem i_41_14 : aIns 41 14 = some (.iload_n 2, 1, 0, 0, .null) := by decide +kernel
theorem i_41_15 : aIns 41 15 = some (.iaload, 1, 0, 0, .null) := by decide +kernel
theorem i_41_16 : aIns 41 16 = some (.aload_n 0, 1, 0, 0, .null) := by decide +kernel
theorem i_41_17 : aIns 41 17 = some (.getfield 21, 3, 3, 3, .null) := by decide +kernel
theorem i_41_20 : aIns 41 20 = some (.iload_n 2, 1, 0, 0, .null) := by decide +kernel
theorem i_41_21 : aIns 41 21 = some (.iaload, 1, 0, 0, .null) := by decide +kernel
theorem i_41_22 : aIns 41 22 = some (.if_icmp .eq 25, 3, 0, 0, .null) := by decide +kernel
theorem i_41_25 : aIns 41 25 = some (.aload_n 0, 1, 0, 0, .null) := by decide +kernel
theorem i_41_26 : aIns 41 26 = some (.aload_n 0, 1, 0, 0, .null) := by decide +kernel
theorem i_41_27 : aIns 41 27 = some (.getfield 18, 3, 3, 2, .null) := by decide +kernel
theorem i_41_30 : aIns 41 30 = some (.iload_n 2, 1, 0, 0, .null) := by decide +kernel
theorem i_41_31 : aIns 41 31 = some (.iaload, 1, 0, 0, .null) := by decide +kernel
theorem i_41_32 : aIns 41 32 = some (.aload_n 0, 1, 0, 0, .null) := by decide +kernel
theorem i_41_33 : aIns 41 33 = some (.getfield 21, 3, 3, 3, .null) := by decide +kernel
theorem i_41_36 : aIns 41 36 = some (.iload_n 2, 1, 0, 0, .null) := by decide +kernel
theorem i_41_37 : aIns 41 37 = some (.iaload, 1, 0, 0, .null) := by decide +kernel
theorem i_41_38 : aIns 41 38 = some (.aload_n 1, 1, 0, 0, .null) := by decide +kernel
theorem i_41_39 : aIns 41 39 = some (.invokevirtual 32, 3, 42, 3, .int 3) := by decide +kernel
theorem i_41_42 : aIns 41 42 = some (.lconst 0, 1, 0, 0, .long 0) := by decide +kernel
theorem i_41_43 : aIns 41 43 = some (.lcmp, 1, 0, 0, .null) := by decide +kernel
theorem i_41_44 : aIns 41 44 = some (.ifCond .eq 34, 3, 0, 0, .null) := by decide +kernel
theorem i_41_47 : aIns 41 47 = some (.aload_n 0, 1, 0, 0, .null) := by decide +kernel
theorem i_41_48 : aIns 41 48 = some (.aload_n 0, 1, 0, 0, .null) := by decide +kernel
theorem i_41_49 : aIns 41 49 = some (.getfield 15, 3, 3, 1, .null) := by decide +kernel
theorem i_41_52 : aIns 41 52 = some (.iload_n 2, 1, 0, 0, .null) := by decide +kernel
theorem i_41_53 : aIns 41 53 = some (.iaload, 1, 0, 0, .null) := by decide +kernel
theorem i_41_54 : aIns 41 54 = some (.aload_n 0, 1, 0, 0, .null) := by decide +kernel
theorem i_41_55 : aIns 41 55 = some (.getfield 18, 3, 3, 2, .null) := by decide +kernel
theorem i_41_58 : aIns 41 58 = some (.iload_n 2, 1, 0, 0, .null) := by decide +kernel
theorem i_41_59 : aIns 41 59 = some (.iaload, 1, 0, 0, .null) := by decide +kernel
theorem i_41_60 : aIns 41 60 = some (.aload_n 1, 1, 0, 0, .null) := by decide +kernel
theorem i_41_61 : aIns 41 61 = some (.invokevirtual 32, 3, 42, 3, .int 3) := by decide +kernel
theorem i_41_64 : aIns 41 64 = some (.lstore_n 3, 1, 0, 0, .null) := by decide +kernel
theorem i_41_65 : aIns 41 65 = some (.lconst 1, 1, 0, 0, .long 1) := by decide +kernel
theorem i_41_66 : aIns 41 66 = some (.ldc2_w 36, 3, 0, 0, .long (9999)) := by decide +kernel
theorem i_41_69 : aIns 41 69 = some (.lload_n 3, 1, 0, 0, .null) := by decide +kernel
theorem i_41_70 : aIns 41 70 = some (.invokestatic 38, 3, 1004, 0, .null) := by decide +kernel
theorem i_41_73 : aIns 41 73 = some (.invokestatic 44, 3, 1003, 0, .null) := by decide +kernel
theorem i_41_76 : aIns 41 76 = some (.l2i, 1, 0, 0, .null) := by decide +kernel
theorem i_41_77 : aIns 41 77 = some (.ireturn, 1, 0, 0, .null) := by decide +kernel
theorem i_41_78 : aIns 41 78 = some (.iinc 2 1, 3, 0, 0, .null) := by decide +kernel
theorem i_41_81 : aIns 41 81 = some (.goto (-79), 3, 0, 0, .null) := by decide +kernel
theorem i_41_84 : aIns 41 84 = some (.iconst 1, 1, 0, 0, .int (1)) := by decide +kernel
theorem i_41_85 : aIns 41 85 = some (.ireturn, 1, 0, 0, .null) := by decide +kernel
theorem i_42_0 : aIns 42 0 = some (.iconst 0, 1, 0, 0, .int (0)) := by decide +kernel
theorem i_42_1 : aIns 42 1 = some (.istore 4, 2, 0, 0, .null) := by decide +kernel
theorem i_42_3 : aIns 42 3 = some (.iload_n 1, 1, 0, 0, .null) := by decide +kernel
theorem i_42_4 : aIns 42 4 = some (.istore 5, 2, 0, 0, .null) := by decide +kernel
theorem i_42_6 : aIns 42 6 = some (.iload 5, 2, 0, 0, .null) := by decide +kernel
theorem i_42_8 : aIns 42 8 = some (.iload_n 2, 1, 0, 0, .null) := by decide +kernel
theorem i_42_9 : aIns 42 9 = some (.if_icmp .ge 143, 3, 0, 0, .null) := by decide +kernel
theorem i_42_12 : aIns 42 12 = some (.aload_n 0, 1, 0, 0, .null) := by decide +kernel
theorem i_42_13 : aIns 42 13 = some (.getfield 9, 3, 3, 0, .null) := by decide +kernel
theorem i_42_16 : aIns 42 16 = some (.iload 5, 2, 0, 0, .null) := by decide +kernel
theorem i_42_18 : aIns 42 18 = some (.iaload, 1, 0, 0, .null) := by decide +kernel
theorem i_42_19 : aIns 42 19 = some (.istore 6, 2, 0, 0, .null) := by decide +kernel
theorem i_42_21 : aIns 42 21 = some (.iconst (-1), 1, 0, 0, .int (-1)) := by decide +kernel
theorem i_42_22 : aIns 42 22 = some (.iload 6, 2, 0, 0, .null) := by decide +kernel
theorem i_42_24 : aIns 42 24 = some (.isub, 1, 0, 0, .null) := by decide +kernel
theorem i_42_25 : aIns 42 25 = some (.istore 7, 2, 0, 0, .null) := by decide +kernel
theorem i_42_27 : aIns 42 27 = some (.iload 7, 2, 0, 0, .null) := by decide +kernel
theorem i_42_29 : aIns 42 29 = some (.bipush 8, 2, 0, 0, .int (8)) := by decide +kernel
theorem i_42_31 : aIns 42 31 = some (.if_icmp .ge 41, 3, 0, 0, .null) := by decide +kernel
theorem i_42_34 : aIns 42 34 = some (.iload 4, 2, 0, 0, .null) := by decide +kernel
theorem i_42_36 : aIns 42 36 = some (.aload_n 0, 1, 0, 0, .null) := by decide +kernel
theorem i_42_37 : aIns 42 37 = some (.getfield 24, 3, 3, 4, .null) := by decide +kernel
theorem i_42_40 : aIns 42 40 = some (.arraylength, 1, 0, 0, .null) := by decide +kernel
theorem i_42_41 : aIns 42 41 = some (.if_icmp .ge 105, 3, 0, 0, .null) := by decide +kernel
theorem i_42_44 : aIns 42 44 = some (.aload_n 0, 1, 0, 0, .null) := by decide +kernel
theorem i_42_45 : aIns 42 45 = some (.getfield 24, 3, 3, 4, .null) := by decide +kernel
theorem i_42_48 : aIns 42 48 = some (.iload 4, 2, 0, 0, .null) := by decide +kernel
theorem i_42_50 : aIns 42 50 = some (.iload 7, 2, 0, 0, .null) := by decide +kernel
theorem i_42_52 : aIns 42 52 = some (.ifCond .ge 9, 3, 0, 0, .null) := by decide +kernel
theorem i_42_55 : aIns 42 55 = some (.iload 6, 2, 0, 0, .null) := by decide +kernel
theorem i_42_57 : aIns 42 57 = some (.i2l, 1, 0, 0, .null) := by decide +kernel
theorem i_42_58 : aIns 42 58 = some (.goto 7, 3, 0, 0, .null) := by decide +kernel
theorem i_42_61 : aIns 42 61 = some (.aload_n 3, 1, 0, 0, .null) := by decide +kernel
theorem i_42_62 : aIns 42 62 = some (.iload 7, 2, 0, 0, .null) := by decide +kernel
theorem i_42_64 : aIns 42 64 = some (.laload, 1, 0, 0, .null) := by decide +kernel
theorem i_42_65 : aIns 42 65 = some (.lastore, 1, 0, 0, .null) := by decide +kernel
theorem i_42_66 : aIns 42 66 = some (.iinc 4 1, 3, 0, 0, .null) := by decide +kernel
theorem i_42_69 : aIns 42 69 = some (.goto 77, 3, 0, 0, .null) := by decide +kernel
theorem i_42_72 : aIns 42 72 = some (.iload 7, 2, 0, 0, .null) := by decide +kernel
theorem i_42_74 : aIns 42 74 = some (.bipush 19, 2, 0, 0, .int (19)) := by decide +kernel
theorem i_42_76 : aIns 42 76 = some (.if_icmp .ne 31, 3, 0, 0, .null) := by decide +kernel
theorem i_42_79 : aIns 42 79 = some (.iload 4, 2, 0, 0, .null) := by decide +kernel
theorem i_42_81 : aIns 42 81 = some (.ifCond .le 65, 3, 0, 0, .null) := by decide +kernel
theorem i_42_84 : aIns 42 84 = some (.aload_n 0, 1, 0, 0, .null) := by decide +kernel
theorem i_42_85 : aIns 42 85 = some (.getfield 24, 3, 3, 4, .null) := by decide +kernel
theorem i_42_88 : aIns 42 88 = some (.iload 4, 2, 0, 0, .null) := by decide +kernel
theorem i_42_90 : aIns 42 90 = some (.iconst 1, 1, 0, 0, .int (1)) := by decide +kernel
theorem i_42_91 : aIns 42 91 = some (.isub, 1, 0, 0, .null) := by decide +kernel
theorem i_42_92 : aIns 42 92 = some (.lconst 1, 1, 0, 0, .long 1) := by decide +kernel
theorem i_42_93 : aIns 42 93 = some (.aload_n 0, 1, 0, 0, .null) := by decide +kernel
theorem i_42_94 : aIns 42 94 = some (.getfield 24, 3, 3, 4, .null) := by decide +kernel
theorem i_42_97 : aIns 42 97 = some (.iload 4, 2, 0, 0, .null) := by decide +kernel
theorem i_42_99 : aIns 42 99 = some (.iconst 1, 1, 0, 0, .int (1)) := by decide +kernel
theorem i_42_100 : aIns 42 100 = some (.isub, 1, 0, 0, .null) := by decide +kernel
theorem i_42_101 : aIns 42 101 = some (.laload, 1, 0, 0, .null) := by decide +kernel
theorem i_42_102 : aIns 42 102 = some (.lsub, 1, 0, 0, .null) := by decide +kernel
theorem i_42_103 : aIns 42 103 = some (.lastore, 1, 0, 0, .null) := by decide +kernel
theorem i_42_104 : aIns 42 104 = some (.goto 42, 3, 0, 0, .null) := by decide +kernel
theorem i_42_107 : aIns 42 107 = some (.iload 4, 2, 0, 0, .null) := by decide +kernel
theorem i_42_109 : aIns 42 109 = some (.iconst 1, 1, 0, 0, .int (1)) := by decide +kernel
theorem i_42_110 : aIns 42 110 = some (.if_icmp .le 36, 3, 0, 0, .null) := by decide +kernel
theorem i_42_113 : aIns 42 113 = some (.iinc 4 (-1), 3, 0, 0, .null) := by decide +kernel
theorem i_42_116 : aIns 42 116 = some (.aload_n 0, 1, 0, 0, .null) := by decide +kernel
theorem i_42_117 : aIns 42 117 = some (.getfield 24, 3, 3, 4, .null) := by decide +kernel
theorem i_42_120 : aIns 42 120 = some (.iload 4, 2, 0, 0, .null) := by decide +kernel
theorem i_42_122 : aIns 42 122 = some (.iconst 1, 1, 0, 0, .int (1)) := by decide +kernel
theorem i_42_123 : aIns 42 123 = some (.isub, 1, 0, 0, .null) := by decide +kernel
theorem i_42_124 : aIns 42 124 = some (.iload 7, 2, 0, 0, .null) := by decide +kernel
theorem i_42_126 : aIns 42 126 = some (.aload_n 0, 1, 0, 0, .null) := by decide +kernel
theorem i_42_127 : aIns 42 127 = some (.getfield 24, 3, 3, 4, .null) := by decide +kernel
theorem i_42_130 : aIns 42 130 = some (.iload 4, 2, 0, 0, .null) := by decide +kernel
theorem i_42_132 : aIns 42 132 = some (.iconst 1, 1, 0, 0, .int (1)) := by decide +kernel
theorem i_42_133 : aIns 42 133 = some (.isub, 1, 0, 0, .null) := by decide +kernel
theorem i_42_134 : aIns 42 134 = some (.laload, 1, 0, 0, .null) := by decide +kernel
theorem i_42_135 : aIns 42 135 = some (.aload_n 0, 1, 0, 0, .null) := by decide +kernel
theorem i_42_136 : aIns 42 136 = some (.getfield 24, 3, 3, 4, .null) := by decide +kernel
theorem i_42_139 : aIns 42 139 = some (.iload 4, 2, 0, 0, .null) := by decide +kernel
theorem i_42_141 : aIns 42 141 = some (.laload, 1, 0, 0, .null) := by decide +kernel
theorem i_42_142 : aIns 42 142 = some (.invokestatic 47, 3, 43, 3, .null) := by decide +kernel
theorem i_42_145 : aIns 42 145 = some (.lastore, 1, 0, 0, .null) := by decide +kernel
theorem i_42_146 : aIns 42 146 = some (.iinc 5 1, 3, 0, 0, .null) := by decide +kernel
theorem i_42_149 : aIns 42 149 = some (.goto (-143), 3, 0, 0, .null) := by decide +kernel
theorem i_42_152 : aIns 42 152 = some (.aload_n 0, 1, 0, 0, .null) := by decide +kernel
theorem i_42_153 : aIns 42 153 = some (.getfield 24, 3, 3, 4, .null) := by decide +kernel
theorem i_42_156 : aIns 42 156 = some (.iconst 0, 1, 0, 0, .int (0)) := by decide +kernel
theorem i_42_157 : aIns 42 157 = some (.laload, 1, 0, 0, .null) := by decide +kernel
theorem i_42_158 : aIns 42 158 = some (.lreturn, 1, 0, 0, .null) := by decide +kernel
theorem i_43_0 : aIns 43 0 = some (.iload_n 0, 1, 0, 0, .null) := by decide +kernel
theorem i_43_1 : aIns 43 1 = some (.tableswitch 195 17 35 #[191, 195, 195, 195, 195, 195, 195, 195, 195, 91, 95, 99, 103, 117, 131, 143, 155, 167, 179], 91, 0, 0, .null) := by decide +kernel
theorem i_43_92 : aIns 43 92 = some (.lload_n 1, 1, 0, 0, .null) := by decide +kernel
theorem i_43_93 : aIns 43 93 = some (.lload_n 3, 1, 0, 0, .null) := by decide +kernel
theorem i_43_94 : aIns 43 94 = some (.ladd, 1, 0, 0, .null) := by decide +kernel
theorem i_43_95 : aIns 43 95 = some (.lreturn, 1, 0, 0, .null) := by decide +kernel
theorem i_43_96 : aIns 43 96 = some (.lload_n 1, 1, 0, 0, .null) := by decide +kernel
theorem i_43_97 : aIns 43 97 = some (.lload_n 3, 1, 0, 0, .null) := by decide +kernel
theorem i_43_98 : aIns 43 98 = some (.lsub, 1, 0, 0, .null) := by decide +kernel
theorem i_43_99 : aIns 43 99 = some (.lreturn, 1, 0, 0, .null) := by decide +kernel
theorem i_43_100 : aIns 43 100 = some (.lload_n 1, 1, 0, 0, .null) := by decide +kernel
theorem i_43_101 : aIns 43 101 = some (.lload_n 3, 1, 0, 0, .null) := by decide +kernel
theorem i_43_102 : aIns 43 102 = some (.lmul, 1, 0, 0, .null) := by decide +kernel
theorem i_43_103 : aIns 43 103 = some (.lreturn, 1, 0, 0, .null) := by decide +kernel
theorem i_43_104 : aIns 43 104 = some (.lload_n 3, 1, 0, 0, .null) := by decide +kernel
theorem i_43_105 : aIns 43 105 = some (.lconst 0, 1, 0, 0, .long 0) := by decide +kernel
theorem i_43_106 : aIns 43 106 = some (.lcmp, 1, 0, 0, .null) := by decide +kernel
theorem i_43_107 : aIns 43 107 = some (.ifCond .ne 7, 3, 0, 0, .null) := by decide +kernel
theorem i_43_110 : aIns 43 110 = some (.lconst 0, 1, 0, 0, .long 0) := by decide +kernel
theorem i_43_111 : aIns 43 111 = some (.goto 6, 3, 0, 0, .null) := by decide +kernel
theorem i_43_114 : aIns 43 114 = some (.lload_n 1, 1, 0, 0, .null) := by decide +kernel
theorem i_43_115 : aIns 43 115 = some (.lload_n 3, 1, 0, 0, .null) := by decide +kernel
theorem i_43_116 : aIns 43 116 = some (.ldiv, 1, 0, 0, .null) := by decide +kernel
theorem i_43_117 : aIns 43 117 = some (.lreturn, 1, 0, 0, .null) := by decide +kernel
theorem i_43_118 : aIns 43 118 = some (.lload_n 3, 1, 0, 0, .null) := by decide +kernel
theorem i_43_119 : aIns 43 119 = some (.lconst 0, 1, 0, 0, .long 0) := by decide +kernel
theorem i_43_120 : aIns 43 120 = some (.lcmp, 1, 0, 0, .null) := by decide +kernel
theorem i_43_121 : aIns 43 121 = some (.ifCond .ne 7, 3, 0, 0, .null) := by decide +kernel
theorem i_43_124 : aIns 43 124 = some (.lconst 0, 1, 0, 0, .long 0) := by decide +kernel
theorem i_43_125 : aIns 43 125 = some (.goto 6, 3, 0, 0, .null) := by decide +kernel
theorem i_43_128 : aIns 43 128 = some (.lload_n 1, 1, 0, 0, .null) := by decide +kernel
theorem i_43_129 : aIns 43 129 = some (.lload_n 3, 1, 0, 0, .null) := by decide +kernel
theorem i_43_130 : aIns 43 130 = some (.lrem, 1, 0, 0, .null) := by decide +kernel
theorem i_43_131 : aIns 43 131 = some (.lreturn, 1, 0, 0, .null) := by decide +kernel
theorem i_43_132 : aIns 43 132 = some (.lload_n 1, 1, 0, 0, .null) := by decide +kernel
theorem i_43_133 : aIns 43 133 = some (.lload_n 3, 1, 0, 0, .null) := by decide +kernel
theorem i_43_134 : aIns 43 134 = some (.lcmp, 1, 0, 0, .null) := by decide +kernel
theorem i_43_135 : aIns 43 135 = some (.ifCond .ge 7, 3, 0, 0, .null) := by decide +kernel
theorem i_43_138 : aIns 43 138 = some (.lconst 1, 1, 0, 0, .long 1) := by decide +kernel
theorem i_43_139 : aIns 43 139 = some (.goto 4, 3, 0, 0, .null) := by decide +kernel
theorem i_43_142 : aIns 43 142 = some (.lconst 0, 1, 0, 0, .long 0) := by decide +kernel
theorem i_43_143 : aIns 43 143 = some (.lreturn, 1, 0, 0, .null) := by decide +kernel
theorem i_43_144 : aIns 43 144 = some (.lload_n 1, 1, 0, 0, .null) := by decide +kernel
theorem i_43_145 : aIns 43 145 = some (.lload_n 3, 1, 0, 0, .null) := by decide +kernel
theorem i_43_146 : aIns 43 146 = some (.lcmp, 1, 0, 0, .null) := by decide +kernel
theorem i_43_147 : aIns 43 147 = some (.ifCond .gt 7, 3, 0, 0, .null) := by decide +kernel
theorem i_43_150 : aIns 43 150 = some (.lconst 1, 1, 0, 0, .long 1) := by decide +kernel
theorem i_43_151 : aIns 43 151 = some (.goto 4, 3, 0, 0, .null) := by decide +kernel
theorem i_43_154 : aIns 43 154 = some (.lconst 0, 1, 0, 0, .long 0) := by decide +kernel
theorem i_43_155 : aIns 43 155 = some (.lreturn, 1, 0, 0, .null) := by decide +kernel
theorem i_43_156 : aIns 43 156 = some (.lload_n 1, 1, 0, 0, .null) := by decide +kernel
theorem i_43_157 : aIns 43 157 = some (.lload_n 3, 1, 0, 0, .null) := by decide +kernel
theorem i_43_158 : aIns 43 158 = some (.lcmp, 1, 0, 0, .null) := by decide +kernel
theorem i_43_159 : aIns 43 159 = some (.ifCond .ne 7, 3, 0, 0, .null) := by decide +kernel
theorem i_43_162 : aIns 43 162 = some (.lconst 1, 1, 0, 0, .long 1) := by decide +kernel
theorem i_43_163 : aIns 43 163 = some (.goto 4, 3, 0, 0, .null) := by decide +kernel
theorem i_43_166 : aIns 43 166 = some (.lconst 0, 1, 0, 0, .long 0) := by decide +kernel
theorem i_43_167 : aIns 43 167 = some (.lreturn, 1, 0, 0, .null) := by decide +kernel
theorem i_43_168 : aIns 43 168 = some (.lload_n 1, 1, 0, 0, .null) := by decide +kernel
theorem i_43_169 : aIns 43 169 = some (.lload_n 3, 1, 0, 0, .null) := by decide +kernel
theorem i_43_170 : aIns 43 170 = some (.lcmp, 1, 0, 0, .null) := by decide +kernel
theorem i_43_171 : aIns 43 171 = some (.ifCond .lt 7, 3, 0, 0, .null) := by decide +kernel
theorem i_43_174 : aIns 43 174 = some (.lconst 1, 1, 0, 0, .long 1) := by decide +kernel
theorem i_43_175 : aIns 43 175 = some (.goto 4, 3, 0, 0, .null) := by decide +kernel
theorem i_43_178 : aIns 43 178 = some (.lconst 0, 1, 0, 0, .long 0) := by decide +kernel
theorem i_43_179 : aIns 43 179 = some (.lreturn, 1, 0, 0, .null) := by decide +kernel
theorem i_43_180 : aIns 43 180 = some (.lload_n 1, 1, 0, 0, .null) := by decide +kernel
theorem i_43_181 : aIns 43 181 = some (.lload_n 3, 1, 0, 0, .null) := by decide +kernel
theorem i_43_182 : aIns 43 182 = some (.lcmp, 1, 0, 0, .null) := by decide +kernel
theorem i_43_183 : aIns 43 183 = some (.ifCond .le 7, 3, 0, 0, .null) := by decide +kernel
theorem i_43_186 : aIns 43 186 = some (.lconst 1, 1, 0, 0, .long 1) := by decide +kernel
theorem i_43_187 : aIns 43 187 = some (.goto 4, 3, 0, 0, .null) := by decide +kernel
theorem i_43_190 : aIns 43 190 = some (.lconst 0, 1, 0, 0, .long 0) := by decide +kernel
theorem i_43_191 : aIns 43 191 = some (.lreturn, 1, 0, 0, .null) := by decide +kernel
theorem i_43_192 : aIns 43 192 = some (.lload_n 1, 1, 0, 0, .null) := by decide +kernel
theorem i_43_193 : aIns 43 193 = some (.lload_n 3, 1, 0, 0, .null) := by decide +kernel
theorem i_43_194 : aIns 43 194 = some (.lor, 1, 0, 0, .null) := by decide +kernel
theorem i_43_195 : aIns 43 195 = some (.lreturn, 1, 0, 0, .null) := by decide +kernel
theorem i_43_196 : aIns 43 196 = some (.lload_n 1, 1, 0, 0, .null) := by decide +kernel
theorem i_43_197 : aIns 43 197 = some (.lload_n 3, 1, 0, 0, .null) := by decide +kernel
theorem i_43_198 : aIns 43 198 = some (.land, 1, 0, 0, .null) := by decide +kernel
theorem i_43_199 : aIns 43 199 = some (.lreturn, 1, 0, 0, .null) := by decide +kernel
theorem i_57_0 : aIns 57 0 = some (.iconst 0, 1, 0, 0, .int (0)) := by decide +kernel
theorem i_57_1 : aIns 57 1 = some (.istore_n 2, 1, 0, 0, .null) := by decide +kernel
theorem i_57_2 : aIns 57 2 = some (.iconst 0, 1, 0, 0, .int (0)) := by decide +kernel
theorem i_57_3 : aIns 57 3 = some (.istore_n 3, 1, 0, 0, .null) := by decide +kernel
theorem i_57_4 : aIns 57 4 = some (.iload_n 3, 1, 0, 0, .null) := by decide +kernel
theorem i_57_5 : aIns 57 5 = some (.aload_n 0, 1, 0, 0, .null) := by decide +kernel
theorem i_57_6 : aIns 57 6 = some (.getfield 55, 3, 5, 11, .null) := by decide +kernel
theorem i_57_9 : aIns 57 9 = some (.if_icmp .ge 35, 3, 0, 0, .null) := by decide +kernel
theorem i_57_12 : aIns 57 12 = some (.iload_n 1, 1, 0, 0, .null) := by decide +kernel
theorem i_57_13 : aIns 57 13 = some (.aload_n 0, 1, 0, 0, .null) := by decide +kernel
theorem i_57_14 : aIns 57 14 = some (.getfield 27, 3, 5, 12, .null) := by decide +kernel
theorem i_57_17 : aIns 57 17 = some (.iload_n 3, 1, 0, 0, .null) := by decide +kernel
theorem i_57_18 : aIns 57 18 = some (.iaload, 1, 0, 0, .null) := by decide +kernel
theorem i_57_19 : aIns 57 19 = some (.aload_n 0, 1, 0, 0, .null) := by decide +kernel
theorem i_57_20 : aIns 57 20 = some (.getfield 30, 3, 5, 13, .null) := by decide +kernel
theorem i_57_23 : aIns 57 23 = some (.iload_n 3, 1, 0, 0, .null) := by decide +kernel
theorem i_57_24 : aIns 57 24 = some (.iaload, 1, 0, 0, .null) := by decide +kernel
theorem i_57_25 : aIns 57 25 = some (.invokestatic 58, 3, 138, 3, .null) := by decide +kernel
theorem i_57_28 : aIns 57 28 = some (.ifCond .eq 10, 3, 0, 0, .null) := by decide +kernel
theorem i_57_31 : aIns 57 31 = some (.aload_n 0, 1, 0, 0, .null) := by decide +kernel
theorem i_57_32 : aIns 57 32 = some (.getfield 33, 3, 5, 14, .null) := by decide +kernel
theorem i_57_35 : aIns 57 35 = some (.iload_n 3, 1, 0, 0, .null) := by decide +kernel
theorem i_57_36 : aIns 57 36 = some (.iaload, 1, 0, 0, .null) := by decide +kernel
theorem i_57_37 : aIns 57 37 = some (.istore_n 2, 1, 0, 0, .null) := by decide +kernel
theorem i_57_38 : aIns 57 38 = some (.iinc 3 1, 3, 0, 0, .null) := by decide +kernel
theorem i_57_41 : aIns 57 41 = some (.goto (-37), 3, 0, 0, .null) := by decide +kernel
theorem i_57_44 : aIns 57 44 = some (.iload_n 2, 1, 0, 0, .null) := by decide +kernel
theorem i_57_45 : aIns 57 45 = some (.ireturn, 1, 0, 0, .null) := by decide +kernel
theorem i_72_0 : aIns 72 0 = some (.aload_n 1, 1, 0, 0, .null) := by decide +kernel
theorem i_72_1 : aIns 72 1 = some (.getfield 9, 3, 7, 0, .null) := by decide +kernel
theorem i_72_4 : aIns 72 4 = some (.iconst 0, 1, 0, 0, .int (0)) := by decide +kernel
theorem i_72_5 : aIns 72 5 = some (.aload_n 0, 1, 0, 0, .null) := by decide +kernel
theorem i_72_6 : aIns 72 6 = some (.getfield 9, 3, 7, 0, .null) := by decide +kernel
theorem i_72_9 : aIns 72 9 = some (.iconst 0, 1, 0, 0, .int (0)) := by decide +kernel
theorem i_72_10 : aIns 72 10 = some (.bipush 8, 2, 0, 0, .int (8)) := by decide +kernel
theorem i_72_12 : aIns 72 12 = some (.invokestatic 45, 3, 1000, 0, .null) := by decide +kernel
theorem i_72_15 : aIns 72 15 = some (.aload_n 1, 1, 0, 0, .null) := by decide +kernel
theorem i_72_16 : aIns 72 16 = some (.getfield 15, 3, 7, 1, .null) := by decide +kernel
theorem i_72_19 : aIns 72 19 = some (.iconst 0, 1, 0, 0, .int (0)) := by decide +kernel
theorem i_72_20 : aIns 72 20 = some (.aload_n 0, 1, 0, 0, .null) := by decide +kernel
theorem i_72_21 : aIns 72 21 = some (.getfield 15, 3, 7, 1, .null) := by decide +kernel
theorem i_72_24 : aIns 72 24 = some (.iconst 0, 1, 0, 0, .int (0)) := by decide +kernel
theorem i_72_25 : aIns 72 25 = some (.bipush 8, 2, 0, 0, .int (8)) := by decide +kernel
theorem i_72_27 : aIns 72 27 = some (.invokestatic 45, 3, 1000, 0, .null) := by decide +kernel
theorem i_72_30 : aIns 72 30 = some (.aload_n 1, 1, 0, 0, .null) := by decide +kernel
theorem i_72_31 : aIns 72 31 = some (.getfield 18, 3, 7, 2, .null) := by decide +kernel
theorem i_72_34 : aIns 72 34 = some (.iconst 0, 1, 0, 0, .int (0)) := by decide +kernel
theorem i_72_35 : aIns 72 35 = some (.aload_n 0, 1, 0, 0, .null) := by decide +kernel
theorem i_72_36 : aIns 72 36 = some (.getfield 18, 3, 7, 2, .null) := by decide +kernel
theorem i_72_39 : aIns 72 39 = some (.iconst 0, 1, 0, 0, .int (0)) := by decide +kernel
theorem i_72_40 : aIns 72 40 = some (.bipush 8, 2, 0, 0, .int (8)) := by decide +kernel
theorem i_72_42 : aIns 72 42 = some (.invokestatic 45, 3, 1000, 0, .null) := by decide +kernel
theorem i_72_45 : aIns 72 45 = some (.aload_n 1, 1, 0, 0, .null) := by decide +kernel
theorem i_72_46 : aIns 72 46 = some (.getfield 21, 3, 7, 3, .null) := by decide +kernel
theorem i_72_49 : aIns 72 49 = some (.iconst 0, 1, 0, 0, .int (0)) := by decide +kernel
theorem i_72_50 : aIns 72 50 = some (.aload_n 0, 1, 0, 0, .null) := by decide +kernel
theorem i_72_51 : aIns 72 51 = some (.getfield 21, 3, 7, 3, .null) := by decide +kernel
theorem i_72_54 : aIns 72 54 = some (.iconst 0, 1, 0, 0, .int (0)) := by decide +kernel
theorem i_72_55 : aIns 72 55 = some (.bipush 8, 2, 0, 0, .int (8)) := by decide +kernel
theorem i_72_57 : aIns 72 57 = some (.invokestatic 45, 3, 1000, 0, .null) := by decide +kernel
theorem i_72_60 : aIns 72 60 = some (.aload_n 1, 1, 0, 0, .null) := by decide +kernel
theorem i_72_61 : aIns 72 61 = some (.getfield 24, 3, 7, 4, .null) := by decide +kernel
theorem i_72_64 : aIns 72 64 = some (.iconst 0, 1, 0, 0, .int (0)) := by decide +kernel
theorem i_72_65 : aIns 72 65 = some (.aload_n 0, 1, 0, 0, .null) := by decide +kernel
theorem i_72_66 : aIns 72 66 = some (.getfield 24, 3, 7, 4, .null) := by decide +kernel
theorem i_72_69 : aIns 72 69 = some (.iconst 0, 1, 0, 0, .int (0)) := by decide +kernel
theorem i_72_70 : aIns 72 70 = some (.bipush 8, 2, 0, 0, .int (8)) := by decide +kernel
theorem i_72_72 : aIns 72 72 = some (.invokestatic 45, 3, 1000, 0, .null) := by decide +kernel
theorem i_72_75 : aIns 72 75 = some (.aload_n 1, 1, 0, 0, .null) := by decide +kernel
theorem i_72_76 : aIns 72 76 = some (.getfield 27, 3, 7, 5, .null) := by decide +kernel
theorem i_72_79 : aIns 72 79 = some (.iconst 0, 1, 0, 0, .int (0)) := by decide +kernel
theorem i_72_80 : aIns 72 80 = some (.aload_n 0, 1, 0, 0, .null) := by decide +kernel
theorem i_72_81 : aIns 72 81 = some (.getfield 27, 3, 7, 5, .null) := by decide +kernel
theorem i_72_84 : aIns 72 84 = some (.iconst 0, 1, 0, 0, .int (0)) := by decide +kernel
theorem i_72_85 : aIns 72 85 = some (.bipush 8, 2, 0, 0, .int (8)) := by decide +kernel
theorem i_72_87 : aIns 72 87 = some (.invokestatic 45, 3, 1000, 0, .null) := by decide +kernel
theorem i_72_90 : aIns 72 90 = some (.aload_n 1, 1, 0, 0, .null) := by decide +kernel
theorem i_72_91 : aIns 72 91 = some (.getfield 30, 3, 7, 6, .null) := by decide +kernel
theorem i_72_94 : aIns 72 94 = some (.iconst 0, 1, 0, 0, .int (0)) := by decide +kernel
theorem i_72_95 : aIns 72 95 = some (.aload_n 0, 1, 0, 0, .null) := by decide +kernel
theorem i_72_96 : aIns 72 96 = some (.getfield 30, 3, 7, 6, .null) := by decide +kernel
theorem i_72_99 : aIns 72 99 = some (.iconst 0, 1, 0, 0, .int (0)) := by decide +kernel
theorem i_72_100 : aIns 72 100 = some (.iconst 5, 1, 0, 0, .int (5)) := by decide +kernel
theorem i_72_101 : aIns 72 101 = some (.invokestatic 45, 3, 1000, 0, .null) := by decide +kernel
theorem i_72_104 : aIns 72 104 = some (.aload_n 1, 1, 0, 0, .null) := by decide +kernel
theorem i_72_105 : aIns 72 105 = some (.getfield 33, 3, 7, 7, .null) := by decide +kernel
theorem i_72_108 : aIns 72 108 = some (.iconst 0, 1, 0, 0, .int (0)) := by decide +kernel
theorem i_72_109 : aIns 72 109 = some (.aload_n 0, 1, 0, 0, .null) := by decide +kernel
theorem i_72_110 : aIns 72 110 = some (.getfield 33, 3, 7, 7, .null) := by decide +kernel
theorem i_72_113 : aIns 72 113 = some (.iconst 0, 1, 0, 0, .int (0)) := by decide +kernel
theorem i_72_114 : aIns 72 114 = some (.iconst 5, 1, 0, 0, .int (5)) := by decide +kernel
theorem i_72_115 : aIns 72 115 = some (.invokestatic 45, 3, 1000, 0, .null) := by decide +kernel
theorem i_72_118 : aIns 72 118 = some (.aload_n 0, 1, 0, 0, .null) := by decide +kernel
theorem i_72_119 : aIns 72 119 = some (.aload_n 1, 1, 0, 0, .null) := by decide +kernel
theorem i_72_120 : aIns 72 120 = some (.getfield 51, 3, 7, 8, .null) := by decide +kernel
theorem i_72_123 : aIns 72 123 = some (.putfield 51, 3, 7, 8, .null) := by decide +kernel
theorem i_72_126 : aIns 72 126 = some (.aload_n 0, 1, 0, 0, .null) := by decide +kernel
theorem i_72_127 : aIns 72 127 = some (.aload_n 1, 1, 0, 0, .null) := by decide +kernel
theorem i_72_128 : aIns 72 128 = some (.getfield 55, 3, 7, 9, .null) := by decide +kernel
theorem i_72_131 : aIns 72 131 = some (.putfield 55, 3, 7, 9, .null) := by decide +kernel
theorem i_72_134 : aIns 72 134 = some (.aload_n 0, 1, 0, 0, .null) := by decide +kernel
theorem i_72_135 : aIns 72 135 = some (.aload_n 1, 1, 0, 0, .null) := by decide +kernel
theorem i_72_136 : aIns 72 136 = some (.getfield 58, 3, 7, 10, .null) := by decide +kernel
theorem i_72_139 : aIns 72 139 = some (.putfield 58, 3, 7, 10, .null) := by decide +kernel
theorem i_72_142 : aIns 72 142 = some (.aload_n 0, 1, 0, 0, .null) := by decide +kernel
theorem i_72_143 : aIns 72 143 = some (.aload_n 1, 1, 0, 0, .null) := by decide +kernel
theorem i_72_144 : aIns 72 144 = some (.getfield 61, 3, 7, 11, .null) := by decide +kernel
theorem i_72_147 : aIns 72 147 = some (.putfield 61, 3, 7, 11, .null) := by decide +kernel
theorem i_72_150 : aIns 72 150 = some (.aload_n 0, 1, 0, 0, .null) := by decide +kernel
theorem i_72_151 : aIns 72 151 = some (.aload_n 1, 1, 0, 0, .null) := by decide +kernel
theorem i_72_152 : aIns 72 152 = some (.getfield 64, 3, 7, 12, .null) := by decide +kernel
theorem i_72_155 : aIns 72 155 = some (.putfield 64, 3, 7, 12, .null) := by decide +kernel
theorem i_72_158 : aIns 72 158 = some (.aload_n 0, 1, 0, 0, .null) := by decide +kernel
theorem i_72_159 : aIns 72 159 = some (.aload_n 1, 1, 0, 0, .null) := by decide +kernel
theorem i_72_160 : aIns 72 160 = some (.getfield 67, 3, 7, 13, .null) := by decide +kernel
theorem i_72_163 : aIns 72 163 = some (.putfield 67, 3, 7, 13, .null) := by decide +kernel
theorem i_72_166 : aIns 72 166 = some (.return_, 1, 0, 0, .null) := by decide +kernel
theorem i_73_0 : aIns 73 0 = some (.iconst 0, 1, 0, 0, .int (0)) := by decide +kernel
theorem i_73_1 : aIns 73 1 = some (.istore_n 1, 1, 0, 0, .null) := by decide +kernel
theorem i_73_2 : aIns 73 2 = some (.iconst 0, 1, 0, 0, .int (0)) := by decide +kernel
theorem i_73_3 : aIns 73 3 = some (.istore_n 2, 1, 0, 0, .null) := by decide +kernel
theorem i_73_4 : aIns 73 4 = some (.iload_n 2, 1, 0, 0, .null) := by decide +kernel
theorem i_73_5 : aIns 73 5 = some (.bipush 8, 2, 0, 0, .int (8)) := by decide +kernel
theorem i_73_7 : aIns 73 7 = some (.if_icmp .ge 18, 3, 0, 0, .null) := by decide +kernel
theorem i_73_10 : aIns 73 10 = some (.iload_n 1, 1, 0, 0, .null) := by decide +kernel
theorem i_73_11 : aIns 73 11 = some (.aload_n 0, 1, 0, 0, .null) := by decide +kernel
theorem i_73_12 : aIns 73 12 = some (.getfield 9, 3, 7, 0, .null) := by decide +kernel
theorem i_73_15 : aIns 73 15 = some (.iload_n 2, 1, 0, 0, .null) := by decide +kernel
theorem i_73_16 : aIns 73 16 = some (.iaload, 1, 0, 0, .null) := by decide +kernel
theorem i_73_17 : aIns 73 17 = some (.iadd, 1, 0, 0, .null) := by decide +kernel
theorem i_73_18 : aIns 73 18 = some (.istore_n 1, 1, 0, 0, .null) := by decide +kernel
theorem i_73_19 : aIns 73 19 = some (.iinc 2 1, 3, 0, 0, .null) := by decide +kernel
theorem i_73_22 : aIns 73 22 = some (.goto (-18), 3, 0, 0, .null) := by decide +kernel
theorem i_73_25 : aIns 73 25 = some (.iload_n 1, 1, 0, 0, .null) := by decide +kernel
theorem i_73_26 : aIns 73 26 = some (.ireturn, 1, 0, 0, .null) := by decide +kernel
theorem i_89_0 : aIns 89 0 = some (.aload_n 0, 1, 0, 0, .null) := by decide +kernel
theorem i_89_1 : aIns 89 1 = some (.getfield 21, 3, 9, 0, .null) := by decide +kernel
theorem i_89_4 : aIns 89 4 = some (.getfield 26, 3, 10, 0, .null) := by decide +kernel
theorem i_89_7 : aIns 89 7 = some (.astore 6, 2, 0, 0, .null) := by decide +kernel
theorem i_89_9 : aIns 89 9 = some (.aload 6, 2, 0, 0, .null) := by decide +kernel
theorem i_89_11 : aIns 89 11 = some (.iload 4, 2, 0, 0, .null) := by decide +kernel
theorem i_89_13 : aIns 89 13 = some (.invokevirtual 32, 3, 57, 1, .int 5) := by decide +kernel
theorem i_89_16 : aIns 89 16 = some (.istore 7, 2, 0, 0, .null) := by decide +kernel
theorem i_89_18 : aIns 89 18 = some (.iload_n 2, 1, 0, 0, .null) := by decide +kernel
theorem i_89_19 : aIns 89 19 = some (.ifCond .lt 11, 3, 0, 0, .null) := by decide +kernel
theorem i_89_22 : aIns 89 22 = some (.iload_n 2, 1, 0, 0, .null) := by decide +kernel
theorem i_89_23 : aIns 89 23 = some (.aload_n 0, 1, 0, 0, .null) := by decide +kernel
theorem i_89_24 : aIns 89 24 = some (.getfield 38, 3, 9, 2, .null) := by decide +kernel
theorem i_89_27 : aIns 89 27 = some (.if_icmp .lt 28, 3, 0, 0, .null) := by decide +kernel
theorem i_89_30 : aIns 89 30 = some (.aload 6, 2, 0, 0, .null) := by decide +kernel
theorem i_89_32 : aIns 89 32 = some (.getfield 42, 3, 5, 5, .null) := by decide +kernel
theorem i_89_35 : aIns 89 35 = some (.iload_n 3, 1, 0, 0, .null) := by decide +kernel
theorem i_89_36 : aIns 89 36 = some (.iaload, 1, 0, 0, .null) := by decide +kernel
theorem i_89_37 : aIns 89 37 = some (.istore 8, 2, 0, 0, .null) := by decide +kernel
theorem i_89_39 : aIns 89 39 = some (.iconst 1, 1, 0, 0, .int (1)) := by decide +kernel
theorem i_89_40 : aIns 89 40 = some (.iload 8, 2, 0, 0, .null) := by decide +kernel
theorem i_89_42 : aIns 89 42 = some (.iload 8, 2, 0, 0, .null) := by decide +kernel
theorem i_89_44 : aIns 89 44 = some (.iload 7, 2, 0, 0, .null) := by decide +kernel
theorem i_89_46 : aIns 89 46 = some (.imul, 1, 0, 0, .null) := by decide +kernel
theorem i_89_47 : aIns 89 47 = some (.bipush 100, 2, 0, 0, .int (100)) := by decide +kernel
theorem i_89_49 : aIns 89 49 = some (.idiv, 1, 0, 0, .null) := by decide +kernel
theorem i_89_50 : aIns 89 50 = some (.isub, 1, 0, 0, .null) := by decide +kernel
theorem i_89_51 : aIns 89 51 = some (.invokestatic 46, 3, 1001, 0, .null) := by decide +kernel
theorem i_89_54 : aIns 89 54 = some (.ireturn, 1, 0, 0, .null) := by decide +kernel
theorem i_89_55 : aIns 89 55 = some (.aload_n 0, 1, 0, 0, .null) := by decide +kernel
theorem i_89_56 : aIns 89 56 = some (.getfield 17, 3, 9, 3, .null) := by decide +kernel
theorem i_89_59 : aIns 89 59 = some (.iconst 0, 1, 0, 0, .int (0)) := by decide +kernel
theorem i_89_60 : aIns 89 60 = some (.iload_n 3, 1, 0, 0, .null) := by decide +kernel
theorem i_89_61 : aIns 89 61 = some (.i2l, 1, 0, 0, .null) := by decide +kernel
theorem i_89_62 : aIns 89 62 = some (.lastore, 1, 0, 0, .null) := by decide +kernel
theorem i_89_63 : aIns 89 63 = some (.aload_n 0, 1, 0, 0, .null) := by decide +kernel
theorem i_89_64 : aIns 89 64 = some (.getfield 17, 3, 9, 3, .null) := by decide +kernel
theorem i_89_67 : aIns 89 67 = some (.iconst 1, 1, 0, 0, .int (1)) := by decide +kernel
theorem i_89_68 : aIns 89 68 = some (.aload 6, 2, 0, 0, .null) := by decide +kernel
theorem i_89_70 : aIns 89 70 = some (.getfield 42, 3, 5, 5, .null) := by decide +kernel
theorem i_89_73 : aIns 89 73 = some (.iload_n 3, 1, 0, 0, .null) := by decide +kernel
theorem i_89_74 : aIns 89 74 = some (.iaload, 1, 0, 0, .null) := by decide +kernel
theorem i_89_75 : aIns 89 75 = some (.i2l, 1, 0, 0, .null) := by decide +kernel
theorem i_89_76 : aIns 89 76 = some (.lastore, 1, 0, 0, .null) := by decide +kernel
theorem i_89_77 : aIns 89 77 = some (.aload_n 0, 1, 0, 0, .null) := by decide +kernel
theorem i_89_78 : aIns 89 78 = some (.getfield 17, 3, 9, 3, .null) := by decide +kernel
theorem i_89_81 : aIns 89 81 = some (.iconst 2, 1, 0, 0, .int (2)) := by decide +kernel
theorem i_89_82 : aIns 89 82 = some (.iload 7, 2, 0, 0, .null) := by decide +kernel
theorem i_89_84 : aIns 89 84 = some (.i2l, 1, 0, 0, .null) := by decide +kernel
theorem i_89_85 : aIns 89 85 = some (.lastore, 1, 0, 0, .null) := by decide +kernel
theorem i_89_86 : aIns 89 86 = some (.aload_n 0, 1, 0, 0, .null) := by decide +kernel
theorem i_89_87 : aIns 89 87 = some (.getfield 17, 3, 9, 3, .null) := by decide +kernel
theorem i_89_90 : aIns 89 90 = some (.iconst 3, 1, 0, 0, .int (3)) := by decide +kernel
theorem i_89_91 : aIns 89 91 = some (.iload 4, 2, 0, 0, .null) := by decide +kernel
theorem i_89_93 : aIns 89 93 = some (.i2l, 1, 0, 0, .null) := by decide +kernel
theorem i_89_94 : aIns 89 94 = some (.lastore, 1, 0, 0, .null) := by decide +kernel
theorem i_89_95 : aIns 89 95 = some (.aload_n 0, 1, 0, 0, .null) := by decide +kernel
theorem i_89_96 : aIns 89 96 = some (.getfield 17, 3, 9, 3, .null) := by decide +kernel
theorem i_89_99 : aIns 89 99 = some (.iconst 4, 1, 0, 0, .int (4)) := by decide +kernel
theorem i_89_100 : aIns 89 100 = some (.iload 5, 2, 0, 0, .null) := by decide +kernel
theorem i_89_102 : aIns 89 102 = some (.i2l, 1, 0, 0, .null) := by decide +kernel
theorem i_89_103 : aIns 89 103 = some (.lastore, 1, 0, 0, .null) := by decide +kernel
theorem i_89_104 : aIns 89 104 = some (.aload_n 0, 1, 0, 0, .null) := by decide +kernel
theorem i_89_105 : aIns 89 105 = some (.getfield 17, 3, 9, 3, .null) := by decide +kernel
theorem i_89_108 : aIns 89 108 = some (.iconst 5, 1, 0, 0, .int (5)) := by decide +kernel
theorem i_89_109 : aIns 89 109 = some (.aload_n 1, 1, 0, 0, .null) := by decide +kernel
theorem i_89_110 : aIns 89 110 = some (.getfield 52, 3, 7, 1, .null) := by decide +kernel
theorem i_89_113 : aIns 89 113 = some (.iload_n 3, 1, 0, 0, .null) := by decide +kernel
theorem i_89_114 : aIns 89 114 = some (.iaload, 1, 0, 0, .null) := by decide +kernel
theorem i_89_115 : aIns 89 115 = some (.i2l, 1, 0, 0, .null) := by decide +kernel
theorem i_89_116 : aIns 89 116 = some (.lastore, 1, 0, 0, .null) := by decide +kernel
theorem i_89_117 : aIns 89 117 = some (.aload_n 0, 1, 0, 0, .null) := by decide +kernel
theorem i_89_118 : aIns 89 118 = some (.getfield 17, 3, 9, 3, .null) := by decide +kernel
theorem i_89_121 : aIns 89 121 = some (.bipush 6, 2, 0, 0, .int (6)) := by decide +kernel
theorem i_89_123 : aIns 89 123 = some (.aload_n 1, 1, 0, 0, .null) := by decide +kernel
theorem i_89_124 : aIns 89 124 = some (.getfield 57, 3, 7, 2, .null) := by decide +kernel
theorem i_89_127 : aIns 89 127 = some (.iload_n 3, 1, 0, 0, .null) := by decide +kernel
theorem i_89_128 : aIns 89 128 = some (.iaload, 1, 0, 0, .null) := by decide +kernel
theorem i_89_129 : aIns 89 129 = some (.i2l, 1, 0, 0, .null) := by decide +kernel
theorem i_89_130 : aIns 89 130 = some (.lastore, 1, 0, 0, .null) := by decide +kernel
theorem i_89_131 : aIns 89 131 = some (.aload_n 0, 1, 0, 0, .null) := by decide +kernel
theorem i_89_132 : aIns 89 132 = some (.getfield 17, 3, 9, 3, .null) := by decide +kernel
theorem i_89_135 : aIns 89 135 = some (.bipush 7, 2, 0, 0, .int (7)) := by decide +kernel
theorem i_89_137 : aIns 89 137 = some (.aload 6, 2, 0, 0, .null) := by decide +kernel
theorem i_89_139 : aIns 89 139 = some (.getfield 60, 3, 5, 6, .null) := by decide +kernel
theorem i_89_142 : aIns 89 142 = some (.iload_n 3, 1, 0, 0, .null) := by decide +kernel
theorem i_89_143 : aIns 89 143 = some (.iaload, 1, 0, 0, .null) := by decide +kernel
theorem i_89_144 : aIns 89 144 = some (.i2l, 1, 0, 0, .null) := by decide +kernel
theorem i_89_145 : aIns 89 145 = some (.lastore, 1, 0, 0, .null) := by decide +kernel
theorem i_89_146 : aIns 89 146 = some (.aload_n 0, 1, 0, 0, .null) := by decide +kernel
theorem i_89_147 : aIns 89 147 = some (.getfield 11, 3, 9, 1, .null) := by decide +kernel
theorem i_89_150 : aIns 89 150 = some (.iload_n 2, 1, 0, 0, .null) := by decide +kernel
theorem i_89_151 : aIns 89 151 = some (.aaload, 1, 0, 0, .null) := by decide +kernel
theorem i_89_152 : aIns 89 152 = some (.aload_n 0, 1, 0, 0, .null) := by decide +kernel
theorem i_89_153 : aIns 89 153 = some (.getfield 17, 3, 9, 3, .null) := by decide +kernel
theorem i_89_156 : aIns 89 156 = some (.invokevirtual 63, 3, 41, 1, .int 3) := by decide +kernel
theorem i_89_159 : aIns 89 159 = some (.ireturn, 1, 0, 0, .null) := by decide +kernel
theorem i_90_0 : aIns 90 0 = some (.aload_n 0, 1, 0, 0, .null) := by decide +kernel
theorem i_90_1 : aIns 90 1 = some (.aload_n 0, 1, 0, 0, .null) := by decide +kernel
theorem i_90_2 : aIns 90 2 = some (.getfield 21, 3, 9, 0, .null) := by decide +kernel
theorem i_90_5 : aIns 90 5 = some (.getfield 67, 3, 10, 1, .null) := by decide +kernel
theorem i_90_8 : aIns 90 8 = some (.aload_n 0, 1, 0, 0, .null) := by decide +kernel
theorem i_90_9 : aIns 90 9 = some (.getfield 21, 3, 9, 0, .null) := by decide +kernel
theorem i_90_12 : aIns 90 12 = some (.getfield 71, 3, 10, 2, .null) := by decide +kernel
theorem i_90_15 : aIns 90 15 = some (.iload_n 1, 1, 0, 0, .null) := by decide +kernel
theorem i_90_16 : aIns 90 16 = some (.iload_n 2, 1, 0, 0, .null) := by decide +kernel
theorem i_90_17 : aIns 90 17 = some (.aload_n 0, 1, 0, 0, .null) := by decide +kernel
theorem i_90_18 : aIns 90 18 = some (.getfield 21, 3, 9, 0, .null) := by decide +kernel
theorem i_90_21 : aIns 90 21 = some (.getfield 67, 3, 10, 1, .null) := by decide +kernel
theorem i_90_24 : aIns 90 24 = some (.getfield 74, 3, 7, 3, .null) := by decide +kernel
theorem i_90_27 : aIns 90 27 = some (.iload_n 1, 1, 0, 0, .null) := by decide +kernel
theorem i_90_28 : aIns 90 28 = some (.iaload, 1, 0, 0, .null) := by decide +kernel
theorem i_90_29 : aIns 90 29 = some (.invokevirtual 77, 3, 89, 5, .int 9) := by decide +kernel
theorem i_90_32 : aIns 90 32 = some (.ireturn, 1, 0, 0, .null) := by decide +kernel
theorem i_138_0 : aIns 138 0 = some (.iload_n 0, 1, 0, 0, .null) := by decide +kernel
theorem i_138_1 : aIns 138 1 = some (.iload_n 1, 1, 0, 0, .null) := by decide +kernel
theorem i_138_2 : aIns 138 2 = some (.if_icmp .lt 12, 3, 0, 0, .null) := by decide +kernel
theorem i_138_5 : aIns 138 5 = some (.iload_n 0, 1, 0, 0, .null) := by decide +kernel
theorem i_138_6 : aIns 138 6 = some (.iload_n 2, 1, 0, 0, .null) := by decide +kernel
theorem i_138_7 : aIns 138 7 = some (.if_icmp .gt 7, 3, 0, 0, .null) := by decide +kernel
theorem i_138_10 : aIns 138 10 = some (.iconst 1, 1, 0, 0, .int (1)) := by decide +kernel
theorem i_138_11 : aIns 138 11 = some (.goto 4, 3, 0, 0, .null) := by decide +kernel
theorem i_138_14 : aIns 138 14 = some (.iconst 0, 1, 0, 0, .int (0)) := by decide +kernel
theorem i_138_15 : aIns 138 15 = some (.ireturn, 1, 1, 0, .null) := by decide +kernel
set_option maxHeartbeats 4000000 in
set_option maxRecDepth 100000 in
theorem d_1_ok {X : aX} {S : rS} {g : Nat}  {m : cM} {zz : cM} {d : Nat} (hdp : 0 ≤ d) (hd : d_1 g  m = some zz) : aWp X d 1 0 (aEntL [.ref 72] 1) [] (hr m S) (fun w h' => w = none ∧ h' = hr zz S) := by
  unfold d_1 at hd
  refine wp_lv (l2 := [some (.ref 72)]) rfl ?_
  refine wp_s 1 [some (.ref 72)] [.ref 72] _ i_1_0 rfl ?_
  refine wp_s 2 [some (.ref 72)] [.int (0 : Int32), .ref 72] _ i_1_1 rfl ?_
  obtain ⟨mm_1, q_2, hd⟩ := dk_bind hd
  refine hm_put 5 rfl i_1_2 (cb rfl) kk_72 (fun _ _ => rfl) (fun _ _ => Nat.le_of_ble_eq_true rfl) rfl ?_
  rw [Option.some.inj q_2]
  refine wp_s 6 [some (.ref 72)] [.ref 72] _ i_1_5 rfl ?_
  refine wp_s 7 [some (.ref 72)] [.int (0 : Int32), .ref 72] _ i_1_6 rfl ?_
  obtain ⟨mm_3, q_4, hd⟩ := dk_bind hd
  refine hm_put 10 rfl i_1_7 (cb rfl) kk_72 (fun _ _ => rfl) (fun _ _ => Nat.le_of_ble_eq_true rfl) rfl ?_
  rw [Option.some.inj q_4]
  refine wp_s 11 [some (.ref 72)] [.ref 72] _ i_1_10 rfl ?_
  refine wp_s 12 [some (.ref 72)] [.int (0 : Int32), .ref 72] _ i_1_11 rfl ?_
  obtain ⟨mm_5, q_6, hd⟩ := dk_bind hd
  refine hm_put 15 rfl i_1_12 (cb rfl) kk_72 (fun _ _ => rfl) (fun _ _ => Nat.le_of_ble_eq_true rfl) rfl ?_
  rw [Option.some.inj q_6]
  obtain rfl := Option.some.inj hd
  exact wp_ret i_1_15 rfl ⟨rfl, rfl⟩
set_option maxHeartbeats 4000000 in
set_option maxRecDepth 100000 in
theorem d_3_ok {X : aX} {S : rS} {g : Nat} {x1 : Int32} {x3 : Int32} {m : cM} {zz : cM} {d : Nat} (hdp : 0 ≤ d) (hd : d_3 g x1 x3 m = some zz) : aWp X d 3 0 (aEntL [.ref 72, .int x1, .ref 74, .int x3] 4) [] (hr m S) (fun w h' => w = none ∧ h' = hr zz S) := by
  unfold d_3 at hd
  refine wp_lv (l2 := [some (.ref 72), some (.int x1), some (.ref 74), some (.int x3)]) rfl ?_
  refine wp_s 1 [some (.ref 72), some (.int x1), some (.ref 74), some (.int x3)] [.ref 72] _ i_3_0 rfl ?_
  refine wp_s 2 [some (.ref 72), some (.int x1), some (.ref 74), some (.int x3)] [.int (1 : Int32), .ref 72] _ i_3_1 rfl ?_
  obtain ⟨mm_1, q_2, hd⟩ := dk_bind hd
  refine hm_put 5 rfl i_3_2 (cb rfl) kk_72 (fun _ _ => rfl) (fun _ _ => Nat.le_of_ble_eq_true rfl) rfl ?_
  rw [Option.some.inj q_2]
  refine wp_s 6 [some (.ref 72), some (.int x1), some (.ref 74), some (.int x3)] [.ref 72] _ i_3_5 rfl ?_
  refine wp_s 7 [some (.ref 72), some (.int x1), some (.ref 74), some (.int x3)] [.int x1, .ref 72] _ i_3_6 rfl ?_
  obtain ⟨mm_3, q_4, hd⟩ := dk_bind hd
  refine hm_put 10 rfl i_3_7 (cb rfl) kk_72 (fun _ _ => rfl) (fun _ _ => Nat.le_of_ble_eq_true rfl) rfl ?_
  rw [Option.some.inj q_4]
  refine wp_s 11 [some (.ref 72), some (.int x1), some (.ref 74), some (.int x3)] [.ref 72] _ i_3_10 rfl ?_
  refine wp_s 12 [some (.ref 72), some (.int x1), some (.ref 74), some (.int x3)] [.int x3, .ref 72] _ i_3_11 rfl ?_
  obtain ⟨mm_5, q_6, hd⟩ := dk_bind hd
  refine hm_put 15 rfl i_3_12 (cb rfl) kk_72 (fun _ _ => rfl) (fun _ _ => Nat.le_of_ble_eq_true rfl) rfl ?_
  rw [Option.some.inj q_6]
  refine wp_s 16 [some (.ref 72), some (.int x1), some (.ref 74), some (.int x3)] [.ref 74] _ i_3_15 rfl ?_
  refine wp_s 17 [some (.ref 72), some (.int x1), some (.ref 74), some (.int x3)] [.int (0 : Int32), .ref 74] _ i_3_16 rfl ?_
  refine wp_s 18 [some (.ref 72), some (.int x1), some (.ref 74), some (.int x3)] [.ref 72, .int (0 : Int32), .ref 74] _ i_3_17 rfl ?_
  refine hm_get (w := .ref 73) 21 rfl i_3_18 (cb rfl) kk_72 rfl ?_
  refine wp_s 22 [some (.ref 72), some (.int x1), some (.ref 74), some (.int x3)] [.int (0 : Int32), .ref 73, .int (0 : Int32), .ref 74] _ i_3_21 rfl ?_
  refine wp_s 23 [some (.ref 72), some (.int x1), some (.ref 74), some (.int x3)] [.int x3, .int (0 : Int32), .ref 73, .int (0 : Int32), .ref 74] _ i_3_22 rfl ?_
  obtain ⟨k_9, hd⟩ := dk_if hd
  obtain ⟨k_10, hd⟩ := dk_if hd
  obtain ⟨mm_7, q_8, hd⟩ := dk_bind hd
  refine hm_copy 26 rfl i_3_23 rfl (cX_iff k_9).1 (cX_iff k_9).2.1 (cX_iff k_10).1 (cX_iff k_10).2.1 (cX_iff k_9).2.2.1 (cX_iff k_10).2.2.1 (cX_iff k_9).2.2.2.1 (cX_iff k_9).2.2.2.2 (cX_iff k_10).2.2.2.2 ?_
  rw [Option.some.inj q_8]
  obtain rfl := Option.some.inj hd
  exact wp_ret i_3_26 rfl ⟨rfl, rfl⟩
set_option maxHeartbeats 4000000 in
set_option maxRecDepth 100000 in
theorem j_2_15_ok {X : aX} {S : rS} {g : Nat} {x1 : Int32} {x3 : Int32} {m : cM} {zz : cM} {d : Nat} (hdp : 1 ≤ d) (hd : j_2_15 g x1 x3 m = some zz) : aWp X d 2 15 [some (.ref 72), some (.int x1), some (.ref 74), some (.int x3)] [] (hr m S) (fun w h' => w = none ∧ h' = hr zz S) := by
  unfold j_2_15 at hd
  obtain ⟨e, rfl⟩ : ∃ e, d = e + 1 := ⟨d - 1, by omega⟩
  refine wp_s 16 [some (.ref 72), some (.int x1), some (.ref 74), some (.int x3)] [.ref 72] _ i_2_15 rfl ?_
  refine wp_s 17 [some (.ref 72), some (.int x1), some (.ref 74), some (.int x3)] [.int x1, .ref 72] _ i_2_16 rfl ?_
  refine wp_s 18 [some (.ref 72), some (.int x1), some (.ref 74), some (.int x3)] [.ref 74, .int x1, .ref 72] _ i_2_17 rfl ?_
  refine wp_s 19 [some (.ref 72), some (.int x1), some (.ref 74), some (.int x3)] [.int x3, .ref 74, .int x1, .ref 72] _ i_2_18 rfl ?_
  obtain ⟨z_1, q_2, hd⟩ := dk_bind hd
  refine wp_callV 22 rfl i_2_19 (by decide) rfl (vs := [.int x1, .ref 74, .int x3]) (rest := []) rfl rfl rfl (hm_isO (cb rfl) kk_72) (y := m_3) rfl (Nat.le_of_ble_eq_true rfl) (d_3_ok (S := S) (d := e) (by omega) q_2) ?_
  rintro v_3 h_4 ⟨rfl, rfl⟩
  obtain rfl := Option.some.inj hd
  exact wp_ret i_2_22 rfl ⟨rfl, rfl⟩
set_option maxHeartbeats 4000000 in
set_option maxRecDepth 100000 in
theorem d_2_ok {X : aX} {S : rS} {g : Nat} {x1 : Int32} {x3 : Int32} {m : cM} {zz : cM} {d : Nat} (hdp : 1 ≤ d) (hd : d_2 g x1 x3 m = some zz) : aWp X d 2 0 (aEntL [.ref 72, .int x1, .ref 74, .int x3] 4) [] (hr m S) (fun w h' => w = none ∧ h' = hr zz S) := by
  unfold d_2 at hd
  refine wp_lv (l2 := [some (.ref 72), some (.int x1), some (.ref 74), some (.int x3)]) rfl ?_
  obtain ⟨e, rfl⟩ : ∃ e, d = e + 1 := ⟨d - 1, by omega⟩
  refine wp_s 1 [some (.ref 72), some (.int x1), some (.ref 74), some (.int x3)] [.ref 72] _ i_2_0 rfl ?_
  refine hm_get (w := .int (m.1 72 0)) 4 rfl i_2_1 (cb rfl) kk_72 rfl ?_
  refine wp_if_eq 15 7 rfl rfl i_2_4 (fun c_1 => ?_) (fun c_1 => ?_)
  · rw [if_pos c_1] at hd
    exact aWp.forget (j_2_15_ok hdp hd) (lvS (lvS (lvS (lvS lvE))))
  · rw [if_neg c_1] at hd
    refine wp_s 8 [some (.ref 72), some (.int x1), some (.ref 74), some (.int x3)] [.int x1] _ i_2_7 rfl ?_
    refine wp_s 9 [some (.ref 72), some (.int x1), some (.ref 74), some (.int x3)] [.ref 72, .int x1] _ i_2_8 rfl ?_
    refine hm_get (w := .int (m.1 72 1)) 12 rfl i_2_9 (cb rfl) kk_72 rfl ?_
    refine wp_cmp_ge 22 15 rfl rfl i_2_12 (fun c_2 => ?_) (fun c_2 => ?_)
    · rw [if_pos c_2] at hd
      obtain rfl := Option.some.inj hd
      exact wp_ret i_2_22 rfl ⟨rfl, rfl⟩
    · rw [if_neg c_2] at hd
      exact aWp.forget (j_2_15_ok hdp hd) (lvS (lvS (lvS (lvS lvE))))
set_option maxHeartbeats 4000000 in
set_option maxRecDepth 100000 in
theorem d_4_ok {X : aX} {S : rS} {g : Nat} {x1 : Int32} {m : cM} {zz : Int32} {d : Nat} (hdp : 0 ≤ d) (hd : d_4 g x1 m = some zz) : aWp X d 4 0 (aEntL [.ref 72, .int x1] 2) [] (hr m S) (fun w h' => w = some (.int zz) ∧ h' = hr m S) := by
  unfold d_4 at hd
  refine wp_lv (l2 := [some (.ref 72), some (.int x1)]) rfl ?_
  refine wp_s 1 [some (.ref 72), some (.int x1)] [.int x1] _ i_4_0 rfl ?_
  refine wp_if_ne 9 4 rfl rfl i_4_1 (fun c_1 => ?_) (fun c_1 => ?_)
  · rw [if_pos c_1] at hd
    refine wp_s 10 [some (.ref 72), some (.int x1)] [.int x1] _ i_4_9 rfl ?_
    refine wp_s 11 [some (.ref 72), some (.int x1)] [.ref 72, .int x1] _ i_4_10 rfl ?_
    refine hm_get (w := .int (m.1 72 2)) 14 rfl i_4_11 (cb rfl) kk_72 rfl ?_
    refine wp_cmp_gt 28 17 rfl rfl i_4_14 (fun c_2 => ?_) (fun c_2 => ?_)
    · rw [if_pos c_2] at hd
      refine wp_s 30 [some (.ref 72), some (.int x1)] [.int (-2 : Int32)] _ i_4_28 rfl ?_
      obtain rfl := Option.some.inj hd
      exact wp_iret i_4_30 ⟨rfl, rfl⟩
    · rw [if_neg c_2] at hd
      refine wp_s 18 [some (.ref 72), some (.int x1)] [.ref 72] _ i_4_17 rfl ?_
      refine hm_get (w := .ref 73) 21 rfl i_4_18 (cb rfl) kk_72 rfl ?_
      refine wp_s 22 [some (.ref 72), some (.int x1)] [.int x1, .ref 73] _ i_4_21 rfl ?_
      refine wp_s 23 [some (.ref 72), some (.int x1)] [.int (1 : Int32), .int x1, .ref 73] _ i_4_22 rfl ?_
      refine wp_s 24 [some (.ref 72), some (.int x1)] [.int (x1 - (1 : Int32)), .ref 73] _ i_4_23 rfl ?_
      obtain ⟨k_3, hd⟩ := dk_if hd
      refine hm_iald 25 rfl i_4_24 (cb rfl) kk_73 k_3 ?_
      refine wp_s 30 [some (.ref 72), some (.int x1)] [.int (m.1 73 (x1 - (1 : Int32)).toNatClampNeg)] _ i_4_25 rfl ?_
      obtain rfl := Option.some.inj hd
      exact wp_iret i_4_30 ⟨rfl, rfl⟩
  · rw [if_neg c_1] at hd
    refine wp_s 5 [some (.ref 72), some (.int x1)] [.ref 72] _ i_4_4 rfl ?_
    refine hm_get (w := .int (m.1 72 1)) 8 rfl i_4_5 (cb rfl) kk_72 rfl ?_
    obtain rfl := Option.some.inj hd
    exact wp_iret i_4_8 ⟨rfl, rfl⟩
set_option maxHeartbeats 4000000 in
set_option maxRecDepth 100000 in
theorem l_5_ok {X : aX} {S : rS} {g : Nat} {d : Nat} (hdp : 0 ≤ d) : ∀ n, (∀ (x1 : Int32) (x2 : Int32) (m : cM) (zz : Int32), l_5 g n 0 x1 x2 m = some zz → aWp X d 5 4 [some (.ref 72), some (.int x1), some (.int x2)] [] (hr m S) (fun w h' => w = some (.int zz) ∧ h' = hr m S)) := by
  intro n
  induction n with
  | zero => exact fun _ _ _ _ hd => by simp [l_5] at hd
  | succ n ih =>
    intro x1 x2 m zz hd
    unfold l_5 at hd
    rw [if_pos rfl] at hd
    refine wp_s 5 [some (.ref 72), some (.int x1), some (.int x2)] [.int x2] _ i_5_4 rfl ?_
    refine wp_s 6 [some (.ref 72), some (.int x1), some (.int x2)] [.ref 72, .int x2] _ i_5_5 rfl ?_
    refine hm_get (w := .int (m.1 72 2)) 9 rfl i_5_6 (cb rfl) kk_72 rfl ?_
    refine wp_cmp_ge 27 12 rfl rfl i_5_9 (fun c_1 => ?_) (fun c_1 => ?_)
    · rw [if_pos c_1] at hd
      refine wp_s 28 [some (.ref 72), some (.int x1), some (.int x2)] [.int x1] _ i_5_27 rfl ?_
      obtain rfl := Option.some.inj hd
      exact wp_iret i_5_28 ⟨rfl, rfl⟩
    · rw [if_neg c_1] at hd
      refine wp_s 13 [some (.ref 72), some (.int x1), some (.int x2)] [.int x1] _ i_5_12 rfl ?_
      refine wp_s 14 [some (.ref 72), some (.int x1), some (.int x2)] [.ref 72, .int x1] _ i_5_13 rfl ?_
      refine hm_get (w := .ref 73) 17 rfl i_5_14 (cb rfl) kk_72 rfl ?_
      refine wp_s 18 [some (.ref 72), some (.int x1), some (.int x2)] [.int x2, .ref 73, .int x1] _ i_5_17 rfl ?_
      obtain ⟨k_2, hd⟩ := dk_if hd
      refine hm_iald 19 rfl i_5_18 (cb rfl) kk_73 k_2 ?_
      refine wp_s 20 [some (.ref 72), some (.int x1), some (.int x2)] [.int (x1 + (m.1 73 x2.toNatClampNeg))] _ i_5_19 rfl ?_
      refine wp_s 21 [some (.ref 72), some (.int (x1 + (m.1 73 x2.toNatClampNeg))), some (.int x2)] [] _ i_5_20 rfl ?_
      refine wp_s 24 [some (.ref 72), some (.int (x1 + (m.1 73 x2.toNatClampNeg))), some (.int (x2 + (1 : Int32)))] [] _ i_5_21 rfl ?_
      refine wp_s 4 [some (.ref 72), some (.int (x1 + (m.1 73 x2.toNatClampNeg))), some (.int (x2 + (1 : Int32)))] [] _ i_5_24 rfl ?_
      exact aWp.forget (ih _ _ _ _ hd) (lvS (lvS (lvS lvE)))
set_option maxHeartbeats 4000000 in
set_option maxRecDepth 100000 in
theorem d_5_ok {X : aX} {S : rS} {g : Nat}  {m : cM} {zz : Int32} {d : Nat} (hdp : 0 ≤ d) (hd : d_5 g  m = some zz) : aWp X d 5 0 (aEntL [.ref 72] 3) [] (hr m S) (fun w h' => w = some (.int zz) ∧ h' = hr m S) := by
  unfold d_5 at hd
  refine wp_lv (l2 := [some (.ref 72), none, none]) rfl ?_
  refine wp_s 1 [some (.ref 72), none, none] [.int (0 : Int32)] _ i_5_0 rfl ?_
  refine wp_s 2 [some (.ref 72), some (.int (0 : Int32)), none] [] _ i_5_1 rfl ?_
  refine wp_s 3 [some (.ref 72), some (.int (0 : Int32)), none] [.int (0 : Int32)] _ i_5_2 rfl ?_
  refine wp_s 4 [some (.ref 72), some (.int (0 : Int32)), some (.int (0 : Int32))] [] _ i_5_3 rfl ?_
  exact aWp.forget ((l_5_ok hdp g) _ _ _ _ hd) (lvS (lvS (lvS lvE)))
set_option maxHeartbeats 4000000 in
set_option maxRecDepth 100000 in
theorem l_6_ok {X : aX} {S : rS} {g : Nat} {d : Nat} (hdp : 0 ≤ d) : ∀ n, (∀ (x1 : Int32) (x2 : Int32) (m : cM) (zz : Int32), l_6 g n 0 x1 x2 m = some zz → aWp X d 6 4 [some (.ref 72), some (.int x1), some (.int x2)] [] (hr m S) (fun w h' => w = some (.int zz) ∧ h' = hr m S)) := by
  intro n
  induction n with
  | zero => exact fun _ _ _ _ hd => by simp [l_6] at hd
  | succ n ih =>
    intro x1 x2 m zz hd
    unfold l_6 at hd
    rw [if_pos rfl] at hd
    refine wp_s 5 [some (.ref 72), some (.int x1), some (.int x2)] [.int x2] _ i_6_4 rfl ?_
    refine wp_s 6 [some (.ref 72), some (.int x1), some (.int x2)] [.ref 72, .int x2] _ i_6_5 rfl ?_
    refine hm_get (w := .int (m.1 72 2)) 9 rfl i_6_6 (cb rfl) kk_72 rfl ?_
    refine wp_cmp_ge 29 12 rfl rfl i_6_9 (fun c_1 => ?_) (fun c_1 => ?_)
    · rw [if_pos c_1] at hd
      refine wp_s 30 [some (.ref 72), some (.int x1), some (.int x2)] [.int x1] _ i_6_29 rfl ?_
      obtain rfl := Option.some.inj hd
      exact wp_iret i_6_30 ⟨rfl, rfl⟩
    · rw [if_neg c_1] at hd
      refine wp_s 13 [some (.ref 72), some (.int x1), some (.int x2)] [.int x1] _ i_6_12 rfl ?_
      refine wp_s 14 [some (.ref 72), some (.int x1), some (.int x2)] [.ref 72, .int x1] _ i_6_13 rfl ?_
      refine hm_get (w := .ref 73) 17 rfl i_6_14 (cb rfl) kk_72 rfl ?_
      refine wp_s 18 [some (.ref 72), some (.int x1), some (.int x2)] [.int x2, .ref 73, .int x1] _ i_6_17 rfl ?_
      obtain ⟨k_2, hd⟩ := dk_if hd
      refine hm_iald 19 rfl i_6_18 (cb rfl) kk_73 k_2 ?_
      refine hp_max 22 rfl i_6_19 rfl ?_
      refine wp_s 23 [some (.ref 72), some (.int (if x1 < (m.1 73 x2.toNatClampNeg) then (m.1 73 x2.toNatClampNeg) else x1)), some (.int x2)] [] _ i_6_22 rfl ?_
      refine wp_s 26 [some (.ref 72), some (.int (if x1 < (m.1 73 x2.toNatClampNeg) then (m.1 73 x2.toNatClampNeg) else x1)), some (.int (x2 + (1 : Int32)))] [] _ i_6_23 rfl ?_
      refine wp_s 4 [some (.ref 72), some (.int (if x1 < (m.1 73 x2.toNatClampNeg) then (m.1 73 x2.toNatClampNeg) else x1)), some (.int (x2 + (1 : Int32)))] [] _ i_6_26 rfl ?_
      exact aWp.forget (ih _ _ _ _ hd) (lvS (lvS (lvS lvE)))
set_option maxHeartbeats 4000000 in
set_option maxRecDepth 100000 in
theorem d_6_ok {X : aX} {S : rS} {g : Nat}  {m : cM} {zz : Int32} {d : Nat} (hdp : 0 ≤ d) (hd : d_6 g  m = some zz) : aWp X d 6 0 (aEntL [.ref 72] 3) [] (hr m S) (fun w h' => w = some (.int zz) ∧ h' = hr m S) := by
  unfold d_6 at hd
  refine wp_lv (l2 := [some (.ref 72), none, none]) rfl ?_
  refine wp_s 1 [some (.ref 72), none, none] [.int (-1 : Int32)] _ i_6_0 rfl ?_
  refine wp_s 2 [some (.ref 72), some (.int (-1 : Int32)), none] [] _ i_6_1 rfl ?_
  refine wp_s 3 [some (.ref 72), some (.int (-1 : Int32)), none] [.int (0 : Int32)] _ i_6_2 rfl ?_
  refine wp_s 4 [some (.ref 72), some (.int (-1 : Int32)), some (.int (0 : Int32))] [] _ i_6_3 rfl ?_
  exact aWp.forget ((l_6_ok hdp g) _ _ _ _ hd) (lvS (lvS (lvS lvE)))
set_option maxHeartbeats 4000000 in
set_option maxRecDepth 100000 in
theorem d_72_ok {X : aX} {S : rS} {g : Nat} {a0 : Nat} {a1 : Nat} {m : cM} {zz : cM} {d : Nat} (hdp : 0 ≤ d) (hd : d_72 g a0 a1 m = some zz) : aWp X d 72 0 (aEntL [.ref a0, .ref a1] 2) [] (hr m S) (fun w h' => w = none ∧ h' = hr zz S) := by
  unfold d_72 at hd
  refine wp_lv (l2 := [some (.ref a0), some (.ref a1)]) rfl ?_
  refine wp_s 1 [some (.ref a0), some (.ref a1)] [.ref a1] _ i_72_0 rfl ?_
  obtain ⟨k_1, hd⟩ := dk_if hd
  refine hm_get (w := .ref (a1 + 1)) 4 rfl i_72_1 (cU_lt k_1) (cU_kd k_1) rfl ?_
  refine wp_s 5 [some (.ref a0), some (.ref a1)] [.int (0 : Int32), .ref (a1 + 1)] _ i_72_4 rfl ?_
  refine wp_s 6 [some (.ref a0), some (.ref a1)] [.ref a0, .int (0 : Int32), .ref (a1 + 1)] _ i_72_5 rfl ?_
  obtain ⟨k_2, hd⟩ := dk_if hd
  refine hm_get (w := .ref (a0 + 1)) 9 rfl i_72_6 (cU_lt k_2) (cU_kd k_2) rfl ?_
  refine wp_s 10 [some (.ref a0), some (.ref a1)] [.int (0 : Int32), .ref (a0 + 1), .int (0 : Int32), .ref (a1 + 1)] _ i_72_9 rfl ?_
  refine wp_s 12 [some (.ref a0), some (.ref a1)] [.int (8 : Int32), .int (0 : Int32), .ref (a0 + 1), .int (0 : Int32), .ref (a1 + 1)] _ i_72_10 rfl ?_
  obtain ⟨mm_3, q_4, hd⟩ := dk_bind hd
  refine hm_copy 15 rfl i_72_12 rfl (kb_7_1 (cU_lt k_1) (cU_kd k_1)) (kr_7_1 (cU_kd k_1)) (kb_7_1 (cU_lt k_2) (cU_kd k_2)) (kr_7_1 (cU_kd k_2)) (by decide) (by decide) (by decide) (by decide) (by decide) ?_
  rw [Option.some.inj q_4]
  refine wp_s 16 [some (.ref a0), some (.ref a1)] [.ref a1] _ i_72_15 rfl ?_
  refine hm_get (w := .ref (a1 + 2)) 19 rfl i_72_16 (cU_lt k_1) (cU_kd k_1) rfl ?_
  refine wp_s 20 [some (.ref a0), some (.ref a1)] [.int (0 : Int32), .ref (a1 + 2)] _ i_72_19 rfl ?_
  refine wp_s 21 [some (.ref a0), some (.ref a1)] [.ref a0, .int (0 : Int32), .ref (a1 + 2)] _ i_72_20 rfl ?_
  refine hm_get (w := .ref (a0 + 2)) 24 rfl i_72_21 (cU_lt k_2) (cU_kd k_2) rfl ?_
  refine wp_s 25 [some (.ref a0), some (.ref a1)] [.int (0 : Int32), .ref (a0 + 2), .int (0 : Int32), .ref (a1 + 2)] _ i_72_24 rfl ?_
  refine wp_s 27 [some (.ref a0), some (.ref a1)] [.int (8 : Int32), .int (0 : Int32), .ref (a0 + 2), .int (0 : Int32), .ref (a1 + 2)] _ i_72_25 rfl ?_
  obtain ⟨mm_5, q_6, hd⟩ := dk_bind hd
  refine hm_copy 30 rfl i_72_27 rfl (kb_7_2 (cU_lt k_1) (cU_kd k_1)) (kr_7_2 (cU_kd k_1)) (kb_7_2 (cU_lt k_2) (cU_kd k_2)) (kr_7_2 (cU_kd k_2)) (by decide) (by decide) (by decide) (by decide) (by decide) ?_
  rw [Option.some.inj q_6]
  refine wp_s 31 [some (.ref a0), some (.ref a1)] [.ref a1] _ i_72_30 rfl ?_
  refine hm_get (w := .ref (a1 + 3)) 34 rfl i_72_31 (cU_lt k_1) (cU_kd k_1) rfl ?_
  refine wp_s 35 [some (.ref a0), some (.ref a1)] [.int (0 : Int32), .ref (a1 + 3)] _ i_72_34 rfl ?_
  refine wp_s 36 [some (.ref a0), some (.ref a1)] [.ref a0, .int (0 : Int32), .ref (a1 + 3)] _ i_72_35 rfl ?_
  refine hm_get (w := .ref (a0 + 3)) 39 rfl i_72_36 (cU_lt k_2) (cU_kd k_2) rfl ?_
  refine wp_s 40 [some (.ref a0), some (.ref a1)] [.int (0 : Int32), .ref (a0 + 3), .int (0 : Int32), .ref (a1 + 3)] _ i_72_39 rfl ?_
  refine wp_s 42 [some (.ref a0), some (.ref a1)] [.int (8 : Int32), .int (0 : Int32), .ref (a0 + 3), .int (0 : Int32), .ref (a1 + 3)] _ i_72_40 rfl ?_
  obtain ⟨mm_7, q_8, hd⟩ := dk_bind hd
  refine hm_copy 45 rfl i_72_42 rfl (kb_7_3 (cU_lt k_1) (cU_kd k_1)) (kr_7_3 (cU_kd k_1)) (kb_7_3 (cU_lt k_2) (cU_kd k_2)) (kr_7_3 (cU_kd k_2)) (by decide) (by decide) (by decide) (by decide) (by decide) ?_
  rw [Option.some.inj q_8]
  refine wp_s 46 [some (.ref a0), some (.ref a1)] [.ref a1] _ i_72_45 rfl ?_
  refine hm_get (w := .ref (a1 + 4)) 49 rfl i_72_46 (cU_lt k_1) (cU_kd k_1) rfl ?_
  refine wp_s 50 [some (.ref a0), some (.ref a1)] [.int (0 : Int32), .ref (a1 + 4)] _ i_72_49 rfl ?_
  refine wp_s 51 [some (.ref a0), some (.ref a1)] [.ref a0, .int (0 : Int32), .ref (a1 + 4)] _ i_72_50 rfl ?_
  refine hm_get (w := .ref (a0 + 4)) 54 rfl i_72_51 (cU_lt k_2) (cU_kd k_2) rfl ?_
  refine wp_s 55 [some (.ref a0), some (.ref a1)] [.int (0 : Int32), .ref (a0 + 4), .int (0 : Int32), .ref (a1 + 4)] _ i_72_54 rfl ?_
  refine wp_s 57 [some (.ref a0), some (.ref a1)] [.int (8 : Int32), .int (0 : Int32), .ref (a0 + 4), .int (0 : Int32), .ref (a1 + 4)] _ i_72_55 rfl ?_
  obtain ⟨mm_9, q_10, hd⟩ := dk_bind hd
  refine hm_copy 60 rfl i_72_57 rfl (kb_7_4 (cU_lt k_1) (cU_kd k_1)) (kr_7_4 (cU_kd k_1)) (kb_7_4 (cU_lt k_2) (cU_kd k_2)) (kr_7_4 (cU_kd k_2)) (by decide) (by decide) (by decide) (by decide) (by decide) ?_
  rw [Option.some.inj q_10]
  refine wp_s 61 [some (.ref a0), some (.ref a1)] [.ref a1] _ i_72_60 rfl ?_
  refine hm_get (w := .ref (a1 + 5)) 64 rfl i_72_61 (cU_lt k_1) (cU_kd k_1) rfl ?_
  refine wp_s 65 [some (.ref a0), some (.ref a1)] [.int (0 : Int32), .ref (a1 + 5)] _ i_72_64 rfl ?_
  refine wp_s 66 [some (.ref a0), some (.ref a1)] [.ref a0, .int (0 : Int32), .ref (a1 + 5)] _ i_72_65 rfl ?_
  refine hm_get (w := .ref (a0 + 5)) 69 rfl i_72_66 (cU_lt k_2) (cU_kd k_2) rfl ?_
  refine wp_s 70 [some (.ref a0), some (.ref a1)] [.int (0 : Int32), .ref (a0 + 5), .int (0 : Int32), .ref (a1 + 5)] _ i_72_69 rfl ?_
  refine wp_s 72 [some (.ref a0), some (.ref a1)] [.int (8 : Int32), .int (0 : Int32), .ref (a0 + 5), .int (0 : Int32), .ref (a1 + 5)] _ i_72_70 rfl ?_
  obtain ⟨mm_11, q_12, hd⟩ := dk_bind hd
  refine hm_copy 75 rfl i_72_72 rfl (kb_7_5 (cU_lt k_1) (cU_kd k_1)) (kr_7_5 (cU_kd k_1)) (kb_7_5 (cU_lt k_2) (cU_kd k_2)) (kr_7_5 (cU_kd k_2)) (by decide) (by decide) (by decide) (by decide) (by decide) ?_
  rw [Option.some.inj q_12]
  refine wp_s 76 [some (.ref a0), some (.ref a1)] [.ref a1] _ i_72_75 rfl ?_
  refine hm_get (w := .ref (a1 + 6)) 79 rfl i_72_76 (cU_lt k_1) (cU_kd k_1) rfl ?_
  refine wp_s 80 [some (.ref a0), some (.ref a1)] [.int (0 : Int32), .ref (a1 + 6)] _ i_72_79 rfl ?_
  refine wp_s 81 [some (.ref a0), some (.ref a1)] [.ref a0, .int (0 : Int32), .ref (a1 + 6)] _ i_72_80 rfl ?_
  refine hm_get (w := .ref (a0 + 6)) 84 rfl i_72_81 (cU_lt k_2) (cU_kd k_2) rfl ?_
  refine wp_s 85 [some (.ref a0), some (.ref a1)] [.int (0 : Int32), .ref (a0 + 6), .int (0 : Int32), .ref (a1 + 6)] _ i_72_84 rfl ?_
  refine wp_s 87 [some (.ref a0), some (.ref a1)] [.int (8 : Int32), .int (0 : Int32), .ref (a0 + 6), .int (0 : Int32), .ref (a1 + 6)] _ i_72_85 rfl ?_
  obtain ⟨mm_13, q_14, hd⟩ := dk_bind hd
  refine hm_copy 90 rfl i_72_87 rfl (kb_7_6 (cU_lt k_1) (cU_kd k_1)) (kr_7_6 (cU_kd k_1)) (kb_7_6 (cU_lt k_2) (cU_kd k_2)) (kr_7_6 (cU_kd k_2)) (by decide) (by decide) (by decide) (by decide) (by decide) ?_
  rw [Option.some.inj q_14]
  refine wp_s 91 [some (.ref a0), some (.ref a1)] [.ref a1] _ i_72_90 rfl ?_
  refine hm_get (w := .ref (a1 + 7)) 94 rfl i_72_91 (cU_lt k_1) (cU_kd k_1) rfl ?_
  refine wp_s 95 [some (.ref a0), some (.ref a1)] [.int (0 : Int32), .ref (a1 + 7)] _ i_72_94 rfl ?_
  refine wp_s 96 [some (.ref a0), some (.ref a1)] [.ref a0, .int (0 : Int32), .ref (a1 + 7)] _ i_72_95 rfl ?_
  refine hm_get (w := .ref (a0 + 7)) 99 rfl i_72_96 (cU_lt k_2) (cU_kd k_2) rfl ?_
  refine wp_s 100 [some (.ref a0), some (.ref a1)] [.int (0 : Int32), .ref (a0 + 7), .int (0 : Int32), .ref (a1 + 7)] _ i_72_99 rfl ?_
  refine wp_s 101 [some (.ref a0), some (.ref a1)] [.int (5 : Int32), .int (0 : Int32), .ref (a0 + 7), .int (0 : Int32), .ref (a1 + 7)] _ i_72_100 rfl ?_
  obtain ⟨mm_15, q_16, hd⟩ := dk_bind hd
  refine hm_copy 104 rfl i_72_101 rfl (kb_7_7 (cU_lt k_1) (cU_kd k_1)) (kr_7_7 (cU_kd k_1)) (kb_7_7 (cU_lt k_2) (cU_kd k_2)) (kr_7_7 (cU_kd k_2)) (by decide) (by decide) (by decide) (by decide) (by decide) ?_
  rw [Option.some.inj q_16]
  refine wp_s 105 [some (.ref a0), some (.ref a1)] [.ref a1] _ i_72_104 rfl ?_
  refine hm_get (w := .ref (a1 + 8)) 108 rfl i_72_105 (cU_lt k_1) (cU_kd k_1) rfl ?_
  refine wp_s 109 [some (.ref a0), some (.ref a1)] [.int (0 : Int32), .ref (a1 + 8)] _ i_72_108 rfl ?_
  refine wp_s 110 [some (.ref a0), some (.ref a1)] [.ref a0, .int (0 : Int32), .ref (a1 + 8)] _ i_72_109 rfl ?_
  refine hm_get (w := .ref (a0 + 8)) 113 rfl i_72_110 (cU_lt k_2) (cU_kd k_2) rfl ?_
  refine wp_s 114 [some (.ref a0), some (.ref a1)] [.int (0 : Int32), .ref (a0 + 8), .int (0 : Int32), .ref (a1 + 8)] _ i_72_113 rfl ?_
  refine wp_s 115 [some (.ref a0), some (.ref a1)] [.int (5 : Int32), .int (0 : Int32), .ref (a0 + 8), .int (0 : Int32), .ref (a1 + 8)] _ i_72_114 rfl ?_
  obtain ⟨mm_17, q_18, hd⟩ := dk_bind hd
  refine hm_copy 118 rfl i_72_115 rfl (kb_7_8 (cU_lt k_1) (cU_kd k_1)) (kr_7_8 (cU_kd k_1)) (kb_7_8 (cU_lt k_2) (cU_kd k_2)) (kr_7_8 (cU_kd k_2)) (by decide) (by decide) (by decide) (by decide) (by decide) ?_
  rw [Option.some.inj q_18]
  refine wp_s 119 [some (.ref a0), some (.ref a1)] [.ref a0] _ i_72_118 rfl ?_
  refine wp_s 120 [some (.ref a0), some (.ref a1)] [.ref a1, .ref a0] _ i_72_119 rfl ?_
  refine hm_get (w := .int (mm_17.1 a1 8)) 123 rfl i_72_120 (cU_lt k_1) (cU_kd k_1) rfl ?_
  obtain ⟨mm_19, q_20, hd⟩ := dk_bind hd
  refine hm_put 126 rfl i_72_123 (cU_lt k_2) (cU_kd k_2) (fun _ _ => rfl) (fun _ _ => Nat.le_of_ble_eq_true rfl) rfl ?_
  rw [Option.some.inj q_20]
  refine wp_s 127 [some (.ref a0), some (.ref a1)] [.ref a0] _ i_72_126 rfl ?_
  refine wp_s 128 [some (.ref a0), some (.ref a1)] [.ref a1, .ref a0] _ i_72_127 rfl ?_
  refine hm_get (w := .int (mm_19.1 a1 9)) 131 rfl i_72_128 (cU_lt k_1) (cU_kd k_1) rfl ?_
  obtain ⟨mm_21, q_22, hd⟩ := dk_bind hd
  refine hm_put 134 rfl i_72_131 (cU_lt k_2) (cU_kd k_2) (fun _ _ => rfl) (fun _ _ => Nat.le_of_ble_eq_true rfl) rfl ?_
  rw [Option.some.inj q_22]
  refine wp_s 135 [some (.ref a0), some (.ref a1)] [.ref a0] _ i_72_134 rfl ?_
  refine wp_s 136 [some (.ref a0), some (.ref a1)] [.ref a1, .ref a0] _ i_72_135 rfl ?_
  refine hm_get (w := .int (mm_21.1 a1 10)) 139 rfl i_72_136 (cU_lt k_1) (cU_kd k_1) rfl ?_
  obtain ⟨mm_23, q_24, hd⟩ := dk_bind hd
  refine hm_put 142 rfl i_72_139 (cU_lt k_2) (cU_kd k_2) (fun _ _ => rfl) (fun _ _ => Nat.le_of_ble_eq_true rfl) rfl ?_
  rw [Option.some.inj q_24]
  refine wp_s 143 [some (.ref a0), some (.ref a1)] [.ref a0] _ i_72_142 rfl ?_
  refine wp_s 144 [some (.ref a0), some (.ref a1)] [.ref a1, .ref a0] _ i_72_143 rfl ?_
  refine hm_get (w := .int (mm_23.1 a1 11)) 147 rfl i_72_144 (cU_lt k_1) (cU_kd k_1) rfl ?_
  obtain ⟨mm_25, q_26, hd⟩ := dk_bind hd
  refine hm_put 150 rfl i_72_147 (cU_lt k_2) (cU_kd k_2) (fun _ _ => rfl) (fun _ _ => Nat.le_of_ble_eq_true rfl) rfl ?_
  rw [Option.some.inj q_26]
  refine wp_s 151 [some (.ref a0), some (.ref a1)] [.ref a0] _ i_72_150 rfl ?_
  refine wp_s 152 [some (.ref a0), some (.ref a1)] [.ref a1, .ref a0] _ i_72_151 rfl ?_
  refine hm_get (w := .int (mm_25.1 a1 12)) 155 rfl i_72_152 (cU_lt k_1) (cU_kd k_1) rfl ?_
  obtain ⟨mm_27, q_28, hd⟩ := dk_bind hd
  refine hm_put 158 rfl i_72_155 (cU_lt k_2) (cU_kd k_2) (fun _ _ => rfl) (fun _ _ => Nat.le_of_ble_eq_true rfl) rfl ?_
  rw [Option.some.inj q_28]
  refine wp_s 159 [some (.ref a0), some (.ref a1)] [.ref a0] _ i_72_158 rfl ?_
  refine wp_s 160 [some (.ref a0), some (.ref a1)] [.ref a1, .ref a0] _ i_72_159 rfl ?_
  refine hm_get (w := .int (mm_27.1 a1 13)) 163 rfl i_72_160 (cU_lt k_1) (cU_kd k_1) rfl ?_
  obtain ⟨mm_29, q_30, hd⟩ := dk_bind hd
  refine hm_put 166 rfl i_72_163 (cU_lt k_2) (cU_kd k_2) (fun _ _ => rfl) (fun _ _ => Nat.le_of_ble_eq_true rfl) rfl ?_
  rw [Option.some.inj q_30]
  obtain rfl := Option.some.inj hd
  exact wp_ret i_72_166 rfl ⟨rfl, rfl⟩
set_option maxHeartbeats 4000000 in
set_option maxRecDepth 100000 in
theorem d_8_ok {X : aX} {S : rS} {g : Nat} {a1 : Nat} {m : cM} {zz : cM} {d : Nat} (hdp : 1 ≤ d) (hd : d_8 g a1 m = some zz) : aWp X d 8 0 (aEntL [.ref 90, .ref a1] 2) [] (hr m S) (fun w h' => w = none ∧ h' = hr zz S) := by
  unfold d_8 at hd
  refine wp_lv (l2 := [some (.ref 90), some (.ref a1)]) rfl ?_
  obtain ⟨e, rfl⟩ : ∃ e, d = e + 1 := ⟨d - 1, by omega⟩
  refine wp_s 1 [some (.ref 90), some (.ref a1)] [.ref 90] _ i_8_0 rfl ?_
  refine hm_get (w := .ref 91) 4 rfl i_8_1 (cb rfl) kk_90 rfl ?_
  refine wp_s 5 [some (.ref 90), some (.ref a1)] [.ref 90, .ref 91] _ i_8_4 rfl ?_
  refine hm_get (w := .int (m.1 90 1)) 8 rfl i_8_5 (cb rfl) kk_90 rfl ?_
  obtain ⟨k_1, hd⟩ := dk_if hd
  refine hm_aald (q := (92 + 9 * (m.1 90 1).toNatClampNeg)) 9 rfl i_8_8 (by decide) (cb rfl) kk_91 k_1 (cQ_91 k_1) ?_
  refine wp_s 10 [some (.ref 90), some (.ref a1)] [.ref a1, .ref (92 + 9 * (m.1 90 1).toNatClampNeg)] _ i_8_9 rfl ?_
  obtain ⟨z_2, q_3, hd⟩ := dk_bind hd
  refine wp_callV 13 rfl i_8_10 (by decide) rfl (vs := [.ref a1]) (rest := []) rfl rfl rfl (hm_isO (qb_91 k_1) (qk_91 k_1)) (y := m_72) rfl (Nat.le_of_ble_eq_true rfl) (d_72_ok (S := S) (d := e) (by omega) q_3) ?_
  rintro v_4 h_5 ⟨rfl, rfl⟩
  refine wp_s 14 [some (.ref 90), some (.ref a1)] [.ref 90] _ i_8_13 rfl ?_
  refine wp_s 15 [some (.ref 90), some (.ref a1)] [.ref 90, .ref 90] _ i_8_14 rfl ?_
  refine hm_get (w := .int (z_2.1 90 1)) 18 rfl i_8_15 (cb rfl) kk_90 rfl ?_
  refine wp_s 19 [some (.ref 90), some (.ref a1)] [.int (1 : Int32), .int (z_2.1 90 1), .ref 90] _ i_8_18 rfl ?_
  refine wp_s 20 [some (.ref 90), some (.ref a1)] [.int ((z_2.1 90 1) + (1 : Int32)), .ref 90] _ i_8_19 rfl ?_
  refine wp_s 22 [some (.ref 90), some (.ref a1)] [.int (20 : Int32), .int ((z_2.1 90 1) + (1 : Int32)), .ref 90] _ i_8_20 rfl ?_
  refine wp_irem 23 rfl i_8_22 (by decide) ?_
  obtain ⟨mm_6, q_7, hd⟩ := dk_bind hd
  refine hm_put 26 rfl i_8_23 (cb rfl) kk_90 (fun _ _ => rfl) (fun _ _ => Nat.le_of_ble_eq_true rfl) rfl ?_
  rw [Option.some.inj q_7]
  refine wp_s 27 [some (.ref 90), some (.ref a1)] [.ref 90] _ i_8_26 rfl ?_
  refine wp_s 29 [some (.ref 90), some (.ref a1)] [.int (20 : Int32), .ref 90] _ i_8_27 rfl ?_
  refine wp_s 30 [some (.ref 90), some (.ref a1)] [.ref 90, .int (20 : Int32), .ref 90] _ i_8_29 rfl ?_
  refine hm_get (w := .int (mm_6.1 90 2)) 33 rfl i_8_30 (cb rfl) kk_90 rfl ?_
  refine wp_s 34 [some (.ref 90), some (.ref a1)] [.int (1 : Int32), .int (mm_6.1 90 2), .int (20 : Int32), .ref 90] _ i_8_33 rfl ?_
  refine wp_s 35 [some (.ref 90), some (.ref a1)] [.int ((mm_6.1 90 2) + (1 : Int32)), .int (20 : Int32), .ref 90] _ i_8_34 rfl ?_
  refine hp_min 38 rfl i_8_35 rfl ?_
  obtain ⟨mm_8, q_9, hd⟩ := dk_bind hd
  refine hm_put 41 rfl i_8_38 (cb rfl) kk_90 (fun _ _ => rfl) (fun _ _ => Nat.le_of_ble_eq_true rfl) rfl ?_
  rw [Option.some.inj q_9]
  obtain rfl := Option.some.inj hd
  exact wp_ret i_8_41 rfl ⟨rfl, rfl⟩
set_option maxHeartbeats 4000000 in
set_option maxRecDepth 100000 in
theorem d_9_ok {X : aX} {S : rS} {g : Nat} {a1 : Nat} {m : cM} {zz : cM} {d : Nat} (hdp : 1 ≤ d) (hd : d_9 g a1 m = some zz) : aWp X d 9 0 (aEntL [.ref 90, .ref a1] 2) [] (hr m S) (fun w h' => w = none ∧ h' = hr zz S) := by
  unfold d_9 at hd
  refine wp_lv (l2 := [some (.ref 90), some (.ref a1)]) rfl ?_
  obtain ⟨e, rfl⟩ : ∃ e, d = e + 1 := ⟨d - 1, by omega⟩
  refine wp_s 1 [some (.ref 90), some (.ref a1)] [.ref 90] _ i_9_0 rfl ?_
  refine wp_s 2 [some (.ref 90), some (.ref a1)] [.ref 90, .ref 90] _ i_9_1 rfl ?_
  refine hm_get (w := .int (m.1 90 1)) 5 rfl i_9_2 (cb rfl) kk_90 rfl ?_
  refine wp_s 7 [some (.ref 90), some (.ref a1)] [.int (20 : Int32), .int (m.1 90 1), .ref 90] _ i_9_5 rfl ?_
  refine wp_s 8 [some (.ref 90), some (.ref a1)] [.int ((m.1 90 1) + (20 : Int32)), .ref 90] _ i_9_7 rfl ?_
  refine wp_s 9 [some (.ref 90), some (.ref a1)] [.int (1 : Int32), .int ((m.1 90 1) + (20 : Int32)), .ref 90] _ i_9_8 rfl ?_
  refine wp_s 10 [some (.ref 90), some (.ref a1)] [.int (((m.1 90 1) + (20 : Int32)) - (1 : Int32)), .ref 90] _ i_9_9 rfl ?_
  refine wp_s 12 [some (.ref 90), some (.ref a1)] [.int (20 : Int32), .int (((m.1 90 1) + (20 : Int32)) - (1 : Int32)), .ref 90] _ i_9_10 rfl ?_
  refine wp_irem 13 rfl i_9_12 (by decide) ?_
  obtain ⟨mm_1, q_2, hd⟩ := dk_bind hd
  refine hm_put 16 rfl i_9_13 (cb rfl) kk_90 (fun _ _ => rfl) (fun _ _ => Nat.le_of_ble_eq_true rfl) rfl ?_
  rw [Option.some.inj q_2]
  refine wp_s 17 [some (.ref 90), some (.ref a1)] [.ref 90] _ i_9_16 rfl ?_
  refine wp_s 18 [some (.ref 90), some (.ref a1)] [.ref 90, .ref 90] _ i_9_17 rfl ?_
  refine hm_get (w := .int (mm_1.1 90 2)) 21 rfl i_9_18 (cb rfl) kk_90 rfl ?_
  refine wp_s 22 [some (.ref 90), some (.ref a1)] [.int (1 : Int32), .int (mm_1.1 90 2), .ref 90] _ i_9_21 rfl ?_
  refine wp_s 23 [some (.ref 90), some (.ref a1)] [.int ((mm_1.1 90 2) - (1 : Int32)), .ref 90] _ i_9_22 rfl ?_
  obtain ⟨mm_3, q_4, hd⟩ := dk_bind hd
  refine hm_put 26 rfl i_9_23 (cb rfl) kk_90 (fun _ _ => rfl) (fun _ _ => Nat.le_of_ble_eq_true rfl) rfl ?_
  rw [Option.some.inj q_4]
  refine wp_s 27 [some (.ref 90), some (.ref a1)] [.ref a1] _ i_9_26 rfl ?_
  refine wp_s 28 [some (.ref 90), some (.ref a1)] [.ref 90, .ref a1] _ i_9_27 rfl ?_
  refine hm_get (w := .ref 91) 31 rfl i_9_28 (cb rfl) kk_90 rfl ?_
  refine wp_s 32 [some (.ref 90), some (.ref a1)] [.ref 90, .ref 91, .ref a1] _ i_9_31 rfl ?_
  refine hm_get (w := .int (mm_3.1 90 1)) 35 rfl i_9_32 (cb rfl) kk_90 rfl ?_
  obtain ⟨k_5, hd⟩ := dk_if hd
  refine hm_aald (q := (92 + 9 * (mm_3.1 90 1).toNatClampNeg)) 36 rfl i_9_35 (by decide) (cb rfl) kk_91 k_5 (cQ_91 k_5) ?_
  obtain ⟨k_6, hd⟩ := dk_if hd
  obtain ⟨z_7, q_8, hd⟩ := dk_bind hd
  refine wp_callV 39 rfl i_9_36 (by decide) rfl (vs := [.ref (92 + 9 * (mm_3.1 90 1).toNatClampNeg)]) (rest := []) rfl rfl rfl (hm_isO (cU_lt k_6) (cU_kd k_6)) (y := m_72) rfl (Nat.le_of_ble_eq_true rfl) (d_72_ok (S := S) (d := e) (by omega) q_8) ?_
  rintro v_9 h_10 ⟨rfl, rfl⟩
  obtain rfl := Option.some.inj hd
  exact wp_ret i_9_39 rfl ⟨rfl, rfl⟩
set_option maxHeartbeats 4000000 in
set_option maxRecDepth 100000 in
theorem d_10_ok {X : aX} {S : rS} {g : Nat}  {m : cM} {zz : cM} {d : Nat} (hdp : 0 ≤ d) (hd : d_10 g  m = some zz) : aWp X d 10 0 (aEntL [.ref 90] 1) [] (hr m S) (fun w h' => w = none ∧ h' = hr zz S) := by
  unfold d_10 at hd
  refine wp_lv (l2 := [some (.ref 90)]) rfl ?_
  refine wp_s 1 [some (.ref 90)] [.ref 90] _ i_10_0 rfl ?_
  refine wp_s 2 [some (.ref 90)] [.int (0 : Int32), .ref 90] _ i_10_1 rfl ?_
  obtain ⟨mm_1, q_2, hd⟩ := dk_bind hd
  refine hm_put 5 rfl i_10_2 (cb rfl) kk_90 (fun _ _ => rfl) (fun _ _ => Nat.le_of_ble_eq_true rfl) rfl ?_
  rw [Option.some.inj q_2]
  obtain rfl := Option.some.inj hd
  exact wp_ret i_10_5 rfl ⟨rfl, rfl⟩
set_option maxHeartbeats 4000000 in
set_option maxRecDepth 100000 in
theorem l_73_ok {X : aX} {S : rS} {g : Nat} {d : Nat} (hdp : 0 ≤ d) : ∀ n, (∀ (a0 : Nat) (x1 : Int32) (x2 : Int32) (m : cM) (zz : Int32), l_73 g n 0 a0 x1 x2 m = some zz → aWp X d 73 4 [some (.ref a0), some (.int x1), some (.int x2)] [] (hr m S) (fun w h' => w = some (.int zz) ∧ h' = hr m S)) := by
  intro n
  induction n with
  | zero => exact fun _ _ _ _ _ hd => by simp [l_73] at hd
  | succ n ih =>
    intro a0 x1 x2 m zz hd
    unfold l_73 at hd
    rw [if_pos rfl] at hd
    refine wp_s 5 [some (.ref a0), some (.int x1), some (.int x2)] [.int x2] _ i_73_4 rfl ?_
    refine wp_s 7 [some (.ref a0), some (.int x1), some (.int x2)] [.int (8 : Int32), .int x2] _ i_73_5 rfl ?_
    refine wp_cmp_ge 25 10 rfl rfl i_73_7 (fun c_1 => ?_) (fun c_1 => ?_)
    · rw [if_pos c_1] at hd
      refine wp_s 26 [some (.ref a0), some (.int x1), some (.int x2)] [.int x1] _ i_73_25 rfl ?_
      obtain rfl := Option.some.inj hd
      exact wp_iret i_73_26 ⟨rfl, rfl⟩
    · rw [if_neg c_1] at hd
      refine wp_s 11 [some (.ref a0), some (.int x1), some (.int x2)] [.int x1] _ i_73_10 rfl ?_
      refine wp_s 12 [some (.ref a0), some (.int x1), some (.int x2)] [.ref a0, .int x1] _ i_73_11 rfl ?_
      obtain ⟨k_2, hd⟩ := dk_if hd
      refine hm_get (w := .ref (a0 + 1)) 15 rfl i_73_12 (cU_lt k_2) (cU_kd k_2) rfl ?_
      refine wp_s 16 [some (.ref a0), some (.int x1), some (.int x2)] [.int x2, .ref (a0 + 1), .int x1] _ i_73_15 rfl ?_
      obtain ⟨k_3, hd⟩ := dk_if hd
      refine hm_iald 17 rfl i_73_16 (kb_7_1 (cU_lt k_2) (cU_kd k_2)) (kr_7_1 (cU_kd k_2)) k_3 ?_
      refine wp_s 18 [some (.ref a0), some (.int x1), some (.int x2)] [.int (x1 + (m.1 (a0 + 1) x2.toNatClampNeg))] _ i_73_17 rfl ?_
      refine wp_s 19 [some (.ref a0), some (.int (x1 + (m.1 (a0 + 1) x2.toNatClampNeg))), some (.int x2)] [] _ i_73_18 rfl ?_
      refine wp_s 22 [some (.ref a0), some (.int (x1 + (m.1 (a0 + 1) x2.toNatClampNeg))), some (.int (x2 + (1 : Int32)))] [] _ i_73_19 rfl ?_
      refine wp_s 4 [some (.ref a0), some (.int (x1 + (m.1 (a0 + 1) x2.toNatClampNeg))), some (.int (x2 + (1 : Int32)))] [] _ i_73_22 rfl ?_
      exact aWp.forget (ih _ _ _ _ _ hd) (lvS (lvS (lvS lvE)))
set_option maxHeartbeats 4000000 in
set_option maxRecDepth 100000 in
theorem d_73_ok {X : aX} {S : rS} {g : Nat} {a0 : Nat} {m : cM} {zz : Int32} {d : Nat} (hdp : 0 ≤ d) (hd : d_73 g a0 m = some zz) : aWp X d 73 0 (aEntL [.ref a0] 3) [] (hr m S) (fun w h' => w = some (.int zz) ∧ h' = hr m S) := by
  unfold d_73 at hd
  refine wp_lv (l2 := [some (.ref a0), none, none]) rfl ?_
  refine wp_s 1 [some (.ref a0), none, none] [.int (0 : Int32)] _ i_73_0 rfl ?_
  refine wp_s 2 [some (.ref a0), some (.int (0 : Int32)), none] [] _ i_73_1 rfl ?_
  refine wp_s 3 [some (.ref a0), some (.int (0 : Int32)), none] [.int (0 : Int32)] _ i_73_2 rfl ?_
  refine wp_s 4 [some (.ref a0), some (.int (0 : Int32)), some (.int (0 : Int32))] [] _ i_73_3 rfl ?_
  exact aWp.forget ((l_73_ok hdp g) _ _ _ _ _ hd) (lvS (lvS (lvS lvE)))
set_option maxHeartbeats 4000000 in
set_option maxRecDepth 100000 in
theorem d_43_ok {X : aX} {S : rS} {g : Nat} {x0 : Int32} {w1 : Int64} {w3 : Int64} {m : cM} {zz : Int64} {d : Nat} (hdp : 0 ≤ d) (hd : d_43 g x0 w1 w3 m = some zz) : aWp X d 43 0 (aEntL [.int x0, .long w1, .long w3] 5) [] (hr m S) (fun w h' => w = some (.long zz) ∧ h' = hr m S) := by
  unfold d_43 at hd
  refine wp_lv (l2 := [some (.int x0), some (.long w1), none, some (.long w3), none]) rfl ?_
  refine wp_s 1 [some (.int x0), some (.long w1), none, some (.long w3), none] [.int x0] _ i_43_0 rfl ?_
  by_cases c_1 : x0 = (17 : Int32)
  · rw [if_pos c_1] at hd
    refine wp_tswC (j := 0) 192 i_43_1 (by rw [c_1]; decide) (by decide) rfl rfl ?_
    refine wp_s 193 [some (.int x0), some (.long w1), none, some (.long w3), none] [.long w1] _ i_43_192 rfl ?_
    refine wp_s 194 [some (.int x0), some (.long w1), none, some (.long w3), none] [.long w3, .long w1] _ i_43_193 rfl ?_
    refine wp_s 195 [some (.int x0), some (.long w1), none, some (.long w3), none] [.long (w1 ||| w3)] _ i_43_194 rfl ?_
    obtain rfl := Option.some.inj hd
    exact wp_ret i_43_195 rfl ⟨rfl, rfl⟩
  rw [if_neg c_1] at hd
  by_cases c_2 : x0 = (18 : Int32)
  · rw [if_pos c_2] at hd
    refine wp_tswC (j := 1) 196 i_43_1 (by rw [c_2]; decide) (by decide) rfl rfl ?_
    refine wp_s 197 [some (.int x0), some (.long w1), none, some (.long w3), none] [.long w1] _ i_43_196 rfl ?_
    refine wp_s 198 [some (.int x0), some (.long w1), none, some (.long w3), none] [.long w3, .long w1] _ i_43_197 rfl ?_
    refine wp_s 199 [some (.int x0), some (.long w1), none, some (.long w3), none] [.long (w1 &&& w3)] _ i_43_198 rfl ?_
    obtain rfl := Option.some.inj hd
    exact wp_ret i_43_199 rfl ⟨rfl, rfl⟩
  rw [if_neg c_2] at hd
  by_cases c_3 : x0 = (19 : Int32)
  · rw [if_pos c_3] at hd
    refine wp_tswC (j := 2) 196 i_43_1 (by rw [c_3]; decide) (by decide) rfl rfl ?_
    refine wp_s 197 [some (.int x0), some (.long w1), none, some (.long w3), none] [.long w1] _ i_43_196 rfl ?_
    refine wp_s 198 [some (.int x0), some (.long w1), none, some (.long w3), none] [.long w3, .long w1] _ i_43_197 rfl ?_
    refine wp_s 199 [some (.int x0), some (.long w1), none, some (.long w3), none] [.long (w1 &&& w3)] _ i_43_198 rfl ?_
    obtain rfl := Option.some.inj hd
    exact wp_ret i_43_199 rfl ⟨rfl, rfl⟩
  rw [if_neg c_3] at hd
  by_cases c_4 : x0 = (20 : Int32)
  · rw [if_pos c_4] at hd
    refine wp_tswC (j := 3) 196 i_43_1 (by rw [c_4]; decide) (by decide) rfl rfl ?_
    refine wp_s 197 [some (.int x0), some (.long w1), none, some (.long w3), none] [.long w1] _ i_43_196 rfl ?_
    refine wp_s 198 [some (.int x0), some (.long w1), none, some (.long w3), none] [.long w3, .long w1] _ i_43_197 rfl ?_
    refine wp_s 199 [some (.int x0), some (.long w1), none, some (.long w3), none] [.long (w1 &&& w3)] _ i_43_198 rfl ?_
    obtain rfl := Option.some.inj hd
    exact wp_ret i_43_199 rfl ⟨rfl, rfl⟩
  rw [if_neg c_4] at hd
  by_cases c_5 : x0 = (21 : Int32)
  · rw [if_pos c_5] at hd
    refine wp_tswC (j := 4) 196 i_43_1 (by rw [c_5]; decide) (by decide) rfl rfl ?_
    refine wp_s 197 [some (.int x0), some (.long w1), none, some (.long w3), none] [.long w1] _ i_43_196 rfl ?_
    refine wp_s 198 [some (.int x0), some (.long w1), none, some (.long w3), none] [.long w3, .long w1] _ i_43_197 rfl ?_
    refine wp_s 199 [some (.int x0), some (.long w1), none, some (.long w3), none] [.long (w1 &&& w3)] _ i_43_198 rfl ?_
    obtain rfl := Option.some.inj hd
    exact wp_ret i_43_199 rfl ⟨rfl, rfl⟩
  rw [if_neg c_5] at hd
  by_cases c_6 : x0 = (22 : Int32)
  · rw [if_pos c_6] at hd
    refine wp_tswC (j := 5) 196 i_43_1 (by rw [c_6]; decide) (by decide) rfl rfl ?_
    refine wp_s 197 [some (.int x0), some (.long w1), none, some (.long w3), none] [.long w1] _ i_43_196 rfl ?_
    refine wp_s 198 [some (.int x0), some (.long w1), none, some (.long w3), none] [.long w3, .long w1] _ i_43_197 rfl ?_
    refine wp_s 199 [some (.int x0), some (.long w1), none, some (.long w3), none] [.long (w1 &&& w3)] _ i_43_198 rfl ?_
    obtain rfl := Option.some.inj hd
    exact wp_ret i_43_199 rfl ⟨rfl, rfl⟩
  rw [if_neg c_6] at hd
  by_cases c_7 : x0 = (23 : Int32)
  · rw [if_pos c_7] at hd
    refine wp_tswC (j := 6) 196 i_43_1 (by rw [c_7]; decide) (by decide) rfl rfl ?_
    refine wp_s 197 [some (.int x0), some (.long w1), none, some (.long w3), none] [.long w1] _ i_43_196 rfl ?_
    refine wp_s 198 [some (.int x0), some (.long w1), none, some (.long w3), none] [.long w3, .long w1] _ i_43_197 rfl ?_
    refine wp_s 199 [some (.int x0), some (.long w1), none, some (.long w3), none] [.long (w1 &&& w3)] _ i_43_198 rfl ?_
    obtain rfl := Option.some.inj hd
    exact wp_ret i_43_199 rfl ⟨rfl, rfl⟩
  rw [if_neg c_7] at hd
  by_cases c_8 : x0 = (24 : Int32)
  · rw [if_pos c_8] at hd
    refine wp_tswC (j := 7) 196 i_43_1 (by rw [c_8]; decide) (by decide) rfl rfl ?_
    refine wp_s 197 [some (.int x0), some (.long w1), none, some (.long w3), none] [.long w1] _ i_43_196 rfl ?_
    refine wp_s 198 [some (.int x0), some (.long w1), none, some (.long w3), none] [.long w3, .long w1] _ i_43_197 rfl ?_
    refine wp_s 199 [some (.int x0), some (.long w1), none, some (.long w3), none] [.long (w1 &&& w3)] _ i_43_198 rfl ?_
    obtain rfl := Option.some.inj hd
    exact wp_ret i_43_199 rfl ⟨rfl, rfl⟩
  rw [if_neg c_8] at hd
  by_cases c_9 : x0 = (25 : Int32)
  · rw [if_pos c_9] at hd
    refine wp_tswC (j := 8) 196 i_43_1 (by rw [c_9]; decide) (by decide) rfl rfl ?_
    refine wp_s 197 [some (.int x0), some (.long w1), none, some (.long w3), none] [.long w1] _ i_43_196 rfl ?_
    refine wp_s 198 [some (.int x0), some (.long w1), none, some (.long w3), none] [.long w3, .long w1] _ i_43_197 rfl ?_
    refine wp_s 199 [some (.int x0), some (.long w1), none, some (.long w3), none] [.long (w1 &&& w3)] _ i_43_198 rfl ?_
    obtain rfl := Option.some.inj hd
    exact wp_ret i_43_199 rfl ⟨rfl, rfl⟩
  rw [if_neg c_9] at hd
  by_cases c_10 : x0 = (26 : Int32)
  · rw [if_pos c_10] at hd
    refine wp_tswC (j := 9) 92 i_43_1 (by rw [c_10]; decide) (by decide) rfl rfl ?_
    refine wp_s 93 [some (.int x0), some (.long w1), none, some (.long w3), none] [.long w1] _ i_43_92 rfl ?_
    refine wp_s 94 [some (.int x0), some (.long w1), none, some (.long w3), none] [.long w3, .long w1] _ i_43_93 rfl ?_
    refine wp_s 95 [some (.int x0), some (.long w1), none, some (.long w3), none] [.long (w1 + w3)] _ i_43_94 rfl ?_
    obtain rfl := Option.some.inj hd
    exact wp_ret i_43_95 rfl ⟨rfl, rfl⟩
  rw [if_neg c_10] at hd
  by_cases c_11 : x0 = (27 : Int32)
  · rw [if_pos c_11] at hd
    refine wp_tswC (j := 10) 96 i_43_1 (by rw [c_11]; decide) (by decide) rfl rfl ?_
    refine wp_s 97 [some (.int x0), some (.long w1), none, some (.long w3), none] [.long w1] _ i_43_96 rfl ?_
    refine wp_s 98 [some (.int x0), some (.long w1), none, some (.long w3), none] [.long w3, .long w1] _ i_43_97 rfl ?_
    refine wp_s 99 [some (.int x0), some (.long w1), none, some (.long w3), none] [.long (w1 - w3)] _ i_43_98 rfl ?_
    obtain rfl := Option.some.inj hd
    exact wp_ret i_43_99 rfl ⟨rfl, rfl⟩
  rw [if_neg c_11] at hd
  by_cases c_12 : x0 = (28 : Int32)
  · rw [if_pos c_12] at hd
    refine wp_tswC (j := 11) 100 i_43_1 (by rw [c_12]; decide) (by decide) rfl rfl ?_
    refine wp_s 101 [some (.int x0), some (.long w1), none, some (.long w3), none] [.long w1] _ i_43_100 rfl ?_
    refine wp_s 102 [some (.int x0), some (.long w1), none, some (.long w3), none] [.long w3, .long w1] _ i_43_101 rfl ?_
    refine wp_s 103 [some (.int x0), some (.long w1), none, some (.long w3), none] [.long (w1 * w3)] _ i_43_102 rfl ?_
    obtain rfl := Option.some.inj hd
    exact wp_ret i_43_103 rfl ⟨rfl, rfl⟩
  rw [if_neg c_12] at hd
  by_cases c_13 : x0 = (29 : Int32)
  · rw [if_pos c_13] at hd
    refine wp_tswC (j := 12) 104 i_43_1 (by rw [c_13]; decide) (by decide) rfl rfl ?_
    refine wp_s 105 [some (.int x0), some (.long w1), none, some (.long w3), none] [.long w3] _ i_43_104 rfl ?_
    refine wp_s 106 [some (.int x0), some (.long w1), none, some (.long w3), none] [.long (0 : Int64), .long w3] _ i_43_105 rfl ?_
    refine wp_s 107 [some (.int x0), some (.long w1), none, some (.long w3), none] [.int (lg_cmp w3 (0 : Int64))] _ i_43_106 rfl ?_
    refine wp_if_ne 114 110 rfl rfl i_43_107 (fun c_14 => ?_) (fun c_14 => ?_)
    · rw [if_pos c_14] at hd
      refine wp_s 115 [some (.int x0), some (.long w1), none, some (.long w3), none] [.long w1] _ i_43_114 rfl ?_
      refine wp_s 116 [some (.int x0), some (.long w1), none, some (.long w3), none] [.long w3, .long w1] _ i_43_115 rfl ?_
      obtain ⟨k_15, hd⟩ := dk_if hd
      refine wp_ldiv 117 rfl i_43_116 k_15 ?_
      obtain rfl := Option.some.inj hd
      exact wp_ret i_43_117 rfl ⟨rfl, rfl⟩
    · rw [if_neg c_14] at hd
      refine wp_s 111 [some (.int x0), some (.long w1), none, some (.long w3), none] [.long (0 : Int64)] _ i_43_110 rfl ?_
      refine wp_s 117 [some (.int x0), some (.long w1), none, some (.long w3), none] [.long (0 : Int64)] _ i_43_111 rfl ?_
      obtain rfl := Option.some.inj hd
      exact wp_ret i_43_117 rfl ⟨rfl, rfl⟩
  rw [if_neg c_13] at hd
  by_cases c_16 : x0 = (30 : Int32)
  · rw [if_pos c_16] at hd
    refine wp_tswC (j := 13) 118 i_43_1 (by rw [c_16]; decide) (by decide) rfl rfl ?_
    refine wp_s 119 [some (.int x0), some (.long w1), none, some (.long w3), none] [.long w3] _ i_43_118 rfl ?_
    refine wp_s 120 [some (.int x0), some (.long w1), none, some (.long w3), none] [.long (0 : Int64), .long w3] _ i_43_119 rfl ?_
    refine wp_s 121 [some (.int x0), some (.long w1), none, some (.long w3), none] [.int (lg_cmp w3 (0 : Int64))] _ i_43_120 rfl ?_
    refine wp_if_ne 128 124 rfl rfl i_43_121 (fun c_17 => ?_) (fun c_17 => ?_)
    · rw [if_pos c_17] at hd
      refine wp_s 129 [some (.int x0), some (.long w1), none, some (.long w3), none] [.long w1] _ i_43_128 rfl ?_
      refine wp_s 130 [some (.int x0), some (.long w1), none, some (.long w3), none] [.long w3, .long w1] _ i_43_129 rfl ?_
      obtain ⟨k_18, hd⟩ := dk_if hd
      refine wp_lrem 131 rfl i_43_130 k_18 ?_
      obtain rfl := Option.some.inj hd
      exact wp_ret i_43_131 rfl ⟨rfl, rfl⟩
    · rw [if_neg c_17] at hd
      refine wp_s 125 [some (.int x0), some (.long w1), none, some (.long w3), none] [.long (0 : Int64)] _ i_43_124 rfl ?_
      refine wp_s 131 [some (.int x0), some (.long w1), none, some (.long w3), none] [.long (0 : Int64)] _ i_43_125 rfl ?_
      obtain rfl := Option.some.inj hd
      exact wp_ret i_43_131 rfl ⟨rfl, rfl⟩
  rw [if_neg c_16] at hd
  by_cases c_19 : x0 = (31 : Int32)
  · rw [if_pos c_19] at hd
    refine wp_tswC (j := 14) 132 i_43_1 (by rw [c_19]; decide) (by decide) rfl rfl ?_
    refine wp_s 133 [some (.int x0), some (.long w1), none, some (.long w3), none] [.long w1] _ i_43_132 rfl ?_
    refine wp_s 134 [some (.int x0), some (.long w1), none, some (.long w3), none] [.long w3, .long w1] _ i_43_133 rfl ?_
    refine wp_s 135 [some (.int x0), some (.long w1), none, some (.long w3), none] [.int (lg_cmp w1 w3)] _ i_43_134 rfl ?_
    refine wp_if_ge 142 138 rfl rfl i_43_135 (fun c_20 => ?_) (fun c_20 => ?_)
    · rw [if_pos c_20] at hd
      refine wp_s 143 [some (.int x0), some (.long w1), none, some (.long w3), none] [.long (0 : Int64)] _ i_43_142 rfl ?_
      obtain rfl := Option.some.inj hd
      exact wp_ret i_43_143 rfl ⟨rfl, rfl⟩
    · rw [if_neg c_20] at hd
      refine wp_s 139 [some (.int x0), some (.long w1), none, some (.long w3), none] [.long (1 : Int64)] _ i_43_138 rfl ?_
      refine wp_s 143 [some (.int x0), some (.long w1), none, some (.long w3), none] [.long (1 : Int64)] _ i_43_139 rfl ?_
      obtain rfl := Option.some.inj hd
      exact wp_ret i_43_143 rfl ⟨rfl, rfl⟩
  rw [if_neg c_19] at hd
  by_cases c_21 : x0 = (32 : Int32)
  · rw [if_pos c_21] at hd
    refine wp_tswC (j := 15) 144 i_43_1 (by rw [c_21]; decide) (by decide) rfl rfl ?_
    refine wp_s 145 [some (.int x0), some (.long w1), none, some (.long w3), none] [.long w1] _ i_43_144 rfl ?_
    refine wp_s 146 [some (.int x0), some (.long w1), none, some (.long w3), none] [.long w3, .long w1] _ i_43_145 rfl ?_
    refine wp_s 147 [some (.int x0), some (.long w1), none, some (.long w3), none] [.int (lg_cmp w1 w3)] _ i_43_146 rfl ?_
    refine wp_if_gt 154 150 rfl rfl i_43_147 (fun c_22 => ?_) (fun c_22 => ?_)
    · rw [if_pos c_22] at hd
      refine wp_s 155 [some (.int x0), some (.long w1), none, some (.long w3), none] [.long (0 : Int64)] _ i_43_154 rfl ?_
      obtain rfl := Option.some.inj hd
      exact wp_ret i_43_155 rfl ⟨rfl, rfl⟩
    · rw [if_neg c_22] at hd
      refine wp_s 151 [some (.int x0), some (.long w1), none, some (.long w3), none] [.long (1 : Int64)] _ i_43_150 rfl ?_
      refine wp_s 155 [some (.int x0), some (.long w1), none, some (.long w3), none] [.long (1 : Int64)] _ i_43_151 rfl ?_
      obtain rfl := Option.some.inj hd
      exact wp_ret i_43_155 rfl ⟨rfl, rfl⟩
  rw [if_neg c_21] at hd
  by_cases c_23 : x0 = (33 : Int32)
  · rw [if_pos c_23] at hd
    refine wp_tswC (j := 16) 156 i_43_1 (by rw [c_23]; decide) (by decide) rfl rfl ?_
    refine wp_s 157 [some (.int x0), some (.long w1), none, some (.long w3), none] [.long w1] _ i_43_156 rfl ?_
    refine wp_s 158 [some (.int x0), some (.long w1), none, some (.long w3), none] [.long w3, .long w1] _ i_43_157 rfl ?_
    refine wp_s 159 [some (.int x0), some (.long w1), none, some (.long w3), none] [.int (lg_cmp w1 w3)] _ i_43_158 rfl ?_
    refine wp_if_ne 166 162 rfl rfl i_43_159 (fun c_24 => ?_) (fun c_24 => ?_)
    · rw [if_pos c_24] at hd
      refine wp_s 167 [some (.int x0), some (.long w1), none, some (.long w3), none] [.long (0 : Int64)] _ i_43_166 rfl ?_
      obtain rfl := Option.some.inj hd
      exact wp_ret i_43_167 rfl ⟨rfl, rfl⟩
    · rw [if_neg c_24] at hd
      refine wp_s 163 [some (.int x0), some (.long w1), none, some (.long w3), none] [.long (1 : Int64)] _ i_43_162 rfl ?_
      refine wp_s 167 [some (.int x0), some (.long w1), none, some (.long w3), none] [.long (1 : Int64)] _ i_43_163 rfl ?_
      obtain rfl := Option.some.inj hd
      exact wp_ret i_43_167 rfl ⟨rfl, rfl⟩
  rw [if_neg c_23] at hd
  by_cases c_25 : x0 = (34 : Int32)
  · rw [if_pos c_25] at hd
    refine wp_tswC (j := 17) 168 i_43_1 (by rw [c_25]; decide) (by decide) rfl rfl ?_
    refine wp_s 169 [some (.int x0), some (.long w1), none, some (.long w3), none] [.long w1] _ i_43_168 rfl ?_
    refine wp_s 170 [some (.int x0), some (.long w1), none, some (.long w3), none] [.long w3, .long w1] _ i_43_169 rfl ?_
    refine wp_s 171 [some (.int x0), some (.long w1), none, some (.long w3), none] [.int (lg_cmp w1 w3)] _ i_43_170 rfl ?_
    refine wp_if_lt 178 174 rfl rfl i_43_171 (fun c_26 => ?_) (fun c_26 => ?_)
    · rw [if_pos c_26] at hd
      refine wp_s 179 [some (.int x0), some (.long w1), none, some (.long w3), none] [.long (0 : Int64)] _ i_43_178 rfl ?_
      obtain rfl := Option.some.inj hd
      exact wp_ret i_43_179 rfl ⟨rfl, rfl⟩
    · rw [if_neg c_26] at hd
      refine wp_s 175 [some (.int x0), some (.long w1), none, some (.long w3), none] [.long (1 : Int64)] _ i_43_174 rfl ?_
      refine wp_s 179 [some (.int x0), some (.long w1), none, some (.long w3), none] [.long (1 : Int64)] _ i_43_175 rfl ?_
      obtain rfl := Option.some.inj hd
      exact wp_ret i_43_179 rfl ⟨rfl, rfl⟩
  rw [if_neg c_25] at hd
  by_cases c_27 : x0 = (35 : Int32)
  · rw [if_pos c_27] at hd
    refine wp_tswC (j := 18) 180 i_43_1 (by rw [c_27]; decide) (by decide) rfl rfl ?_
    refine wp_s 181 [some (.int x0), some (.long w1), none, some (.long w3), none] [.long w1] _ i_43_180 rfl ?_
    refine wp_s 182 [some (.int x0), some (.long w1), none, some (.long w3), none] [.long w3, .long w1] _ i_43_181 rfl ?_
    refine wp_s 183 [some (.int x0), some (.long w1), none, some (.long w3), none] [.int (lg_cmp w1 w3)] _ i_43_182 rfl ?_
    refine wp_if_le 190 186 rfl rfl i_43_183 (fun c_28 => ?_) (fun c_28 => ?_)
    · rw [if_pos c_28] at hd
      refine wp_s 191 [some (.int x0), some (.long w1), none, some (.long w3), none] [.long (0 : Int64)] _ i_43_190 rfl ?_
      obtain rfl := Option.some.inj hd
      exact wp_ret i_43_191 rfl ⟨rfl, rfl⟩
    · rw [if_neg c_28] at hd
      refine wp_s 187 [some (.int x0), some (.long w1), none, some (.long w3), none] [.long (1 : Int64)] _ i_43_186 rfl ?_
      refine wp_s 191 [some (.int x0), some (.long w1), none, some (.long w3), none] [.long (1 : Int64)] _ i_43_187 rfl ?_
      obtain rfl := Option.some.inj hd
      exact wp_ret i_43_191 rfl ⟨rfl, rfl⟩
  rw [if_neg c_27] at hd
  have o_29 : (x0).toInt < (17 : Int) ∨ (35 : Int) < (x0).toInt := by
    have e_0 := lv_neT c_1 (a := 17) (by decide)
    have e_1 := lv_neT c_2 (a := 18) (by decide)
    have e_2 := lv_neT c_3 (a := 19) (by decide)
    have e_3 := lv_neT c_4 (a := 20) (by decide)
    have e_4 := lv_neT c_5 (a := 21) (by decide)
    have e_5 := lv_neT c_6 (a := 22) (by decide)
    have e_6 := lv_neT c_7 (a := 23) (by decide)
    have e_7 := lv_neT c_8 (a := 24) (by decide)
    have e_8 := lv_neT c_9 (a := 25) (by decide)
    have e_9 := lv_neT c_10 (a := 26) (by decide)
    have e_10 := lv_neT c_11 (a := 27) (by decide)
    have e_11 := lv_neT c_12 (a := 28) (by decide)
    have e_12 := lv_neT c_13 (a := 29) (by decide)
    have e_13 := lv_neT c_16 (a := 30) (by decide)
    have e_14 := lv_neT c_19 (a := 31) (by decide)
    have e_15 := lv_neT c_21 (a := 32) (by decide)
    have e_16 := lv_neT c_23 (a := 33) (by decide)
    have e_17 := lv_neT c_25 (a := 34) (by decide)
    have e_18 := lv_neT c_27 (a := 35) (by decide)
    omega
  refine wp_tswD 196 i_43_1 o_29 rfl ?_
  refine wp_s 197 [some (.int x0), some (.long w1), none, some (.long w3), none] [.long w1] _ i_43_196 rfl ?_
  refine wp_s 198 [some (.int x0), some (.long w1), none, some (.long w3), none] [.long w3, .long w1] _ i_43_197 rfl ?_
  refine wp_s 199 [some (.int x0), some (.long w1), none, some (.long w3), none] [.long (w1 &&& w3)] _ i_43_198 rfl ?_
  obtain rfl := Option.some.inj hd
  exact wp_ret i_43_199 rfl ⟨rfl, rfl⟩
set_option maxHeartbeats 4000000 in
set_option maxRecDepth 100000 in
theorem l_42_ok {X : aX} {S : rS} {g : Nat} {d : Nat} (hdp : 1 ≤ d) : ∀ n, (∀ (a0 : Nat) (x1 : Int32) (x2 : Int32) (x4 : Int32) (x5 : Int32) (x6 : Int32) (x7 : Int32) (u0 : Int64) (s1 : Int32) (m : cM) (zz : Int64 × cM), l_42 g n 0 a0 x1 x2 x4 x5 x6 x7 u0 s1 m = some zz → aWp X d 42 6 [some (.ref a0), some (.int x1), some (.int x2), some (.ref 34), some (.int x4), some (.int x5), none, none] [] (hr m S) (fun w h' => w = some (.long zz.1) ∧ h' = hr zz.2 S)) ∧ (∀ (a0 : Nat) (x1 : Int32) (x2 : Int32) (x4 : Int32) (x5 : Int32) (x6 : Int32) (x7 : Int32) (u0 : Int64) (s1 : Int32) (m : cM) (zz : Int64 × cM), l_42 g n 1 a0 x1 x2 x4 x5 x6 x7 u0 s1 m = some zz → aWp X d 42 65 [some (.ref a0), some (.int x1), some (.int x2), some (.ref 34), some (.int x4), some (.int x5), some (.int x6), some (.int x7)] [.long u0, .int s1, .ref (a0 + 5)] (hr m S) (fun w h' => w = some (.long zz.1) ∧ h' = hr zz.2 S)) ∧ (∀ (a0 : Nat) (x1 : Int32) (x2 : Int32) (x4 : Int32) (x5 : Int32) (x6 : Int32) (x7 : Int32) (u0 : Int64) (s1 : Int32) (m : cM) (zz : Int64 × cM), l_42 g n 2 a0 x1 x2 x4 x5 x6 x7 u0 s1 m = some zz → aWp X d 42 146 [some (.ref a0), some (.int x1), some (.int x2), some (.ref 34), some (.int x4), some (.int x5), some (.int x6), some (.int x7)] [] (hr m S) (fun w h' => w = some (.long zz.1) ∧ h' = hr zz.2 S)) := by
  intro n
  induction n with
  | zero => exact ⟨fun _ _ _ _ _ _ _ _ _ _ _ hd => by simp [l_42] at hd, fun _ _ _ _ _ _ _ _ _ _ _ hd => by simp [l_42] at hd, fun _ _ _ _ _ _ _ _ _ _ _ hd => by simp [l_42] at hd⟩
  | succ n ih =>
    refine ⟨?_, ?_, ?_⟩
    · intro a0 x1 x2 x4 x5 x6 x7 u0 s1 m zz hd
      unfold l_42 at hd
      rw [if_pos rfl] at hd
      obtain ⟨e, rfl⟩ : ∃ e, d = e + 1 := ⟨d - 1, by omega⟩
      refine wp_s 8 [some (.ref a0), some (.int x1), some (.int x2), some (.ref 34), some (.int x4), some (.int x5), none, none] [.int x5] _ i_42_6 rfl ?_
      refine wp_s 9 [some (.ref a0), some (.int x1), some (.int x2), some (.ref 34), some (.int x4), some (.int x5), none, none] [.int x2, .int x5] _ i_42_8 rfl ?_
      refine wp_cmp_ge 152 12 rfl rfl i_42_9 (fun c_1 => ?_) (fun c_1 => ?_)
      · rw [if_pos c_1] at hd
        refine wp_s 153 [some (.ref a0), some (.int x1), some (.int x2), some (.ref 34), some (.int x4), some (.int x5), none, none] [.ref a0] _ i_42_152 rfl ?_
        obtain ⟨k_2, hd⟩ := dk_if hd
        refine hm_get (w := .ref (a0 + 5)) 156 rfl i_42_153 (cU_lt k_2) (cU_kd k_2) rfl ?_
        refine wp_s 157 [some (.ref a0), some (.int x1), some (.int x2), some (.ref 34), some (.int x4), some (.int x5), none, none] [.int (0 : Int32), .ref (a0 + 5)] _ i_42_156 rfl ?_
        obtain ⟨k_3, hd⟩ := dk_if hd
        refine hm_lald 158 rfl i_42_157 (kb_3_5 (cU_lt k_2) (cU_kd k_2)) (kr_3_5 (cU_kd k_2)) k_3 ?_
        obtain rfl := Option.some.inj hd
        exact wp_ret i_42_158 rfl ⟨rfl, rfl⟩
      · rw [if_neg c_1] at hd
        refine wp_s 13 [some (.ref a0), some (.int x1), some (.int x2), some (.ref 34), some (.int x4), some (.int x5), none, none] [.ref a0] _ i_42_12 rfl ?_
        obtain ⟨k_4, hd⟩ := dk_if hd
        refine hm_get (w := .ref (a0 + 1)) 16 rfl i_42_13 (cU_lt k_4) (cU_kd k_4) rfl ?_
        refine wp_s 18 [some (.ref a0), some (.int x1), some (.int x2), some (.ref 34), some (.int x4), some (.int x5), none, none] [.int x5, .ref (a0 + 1)] _ i_42_16 rfl ?_
        obtain ⟨k_5, hd⟩ := dk_if hd
        refine hm_iald 19 rfl i_42_18 (kb_3_1 (cU_lt k_4) (cU_kd k_4)) (kr_3_1 (cU_kd k_4)) k_5 ?_
        refine wp_s 21 [some (.ref a0), some (.int x1), some (.int x2), some (.ref 34), some (.int x4), some (.int x5), some (.int (m.1 (a0 + 1) x5.toNatClampNeg)), none] [] _ i_42_19 rfl ?_
        refine wp_s 22 [some (.ref a0), some (.int x1), some (.int x2), some (.ref 34), some (.int x4), some (.int x5), some (.int (m.1 (a0 + 1) x5.toNatClampNeg)), none] [.int (-1 : Int32)] _ i_42_21 rfl ?_
        refine wp_s 24 [some (.ref a0), some (.int x1), some (.int x2), some (.ref 34), some (.int x4), some (.int x5), some (.int (m.1 (a0 + 1) x5.toNatClampNeg)), none] [.int (m.1 (a0 + 1) x5.toNatClampNeg), .int (-1 : Int32)] _ i_42_22 rfl ?_
        refine wp_s 25 [some (.ref a0), some (.int x1), some (.int x2), some (.ref 34), some (.int x4), some (.int x5), some (.int (m.1 (a0 + 1) x5.toNatClampNeg)), none] [.int ((-1 : Int32) - (m.1 (a0 + 1) x5.toNatClampNeg))] _ i_42_24 rfl ?_
        refine wp_s 27 [some (.ref a0), some (.int x1), some (.int x2), some (.ref 34), some (.int x4), some (.int x5), some (.int (m.1 (a0 + 1) x5.toNatClampNeg)), some (.int ((-1 : Int32) - (m.1 (a0 + 1) x5.toNatClampNeg)))] [] _ i_42_25 rfl ?_
        refine wp_s 29 [some (.ref a0), some (.int x1), some (.int x2), some (.ref 34), some (.int x4), some (.int x5), some (.int (m.1 (a0 + 1) x5.toNatClampNeg)), some (.int ((-1 : Int32) - (m.1 (a0 + 1) x5.toNatClampNeg)))] [.int ((-1 : Int32) - (m.1 (a0 + 1) x5.toNatClampNeg))] _ i_42_27 rfl ?_
        refine wp_s 31 [some (.ref a0), some (.int x1), some (.int x2), some (.ref 34), some (.int x4), some (.int x5), some (.int (m.1 (a0 + 1) x5.toNatClampNeg)), some (.int ((-1 : Int32) - (m.1 (a0 + 1) x5.toNatClampNeg)))] [.int (8 : Int32), .int ((-1 : Int32) - (m.1 (a0 + 1) x5.toNatClampNeg))] _ i_42_29 rfl ?_
        refine wp_cmp_ge 72 34 rfl rfl i_42_31 (fun c_6 => ?_) (fun c_6 => ?_)
        · rw [if_pos c_6] at hd
          refine wp_s 74 [some (.ref a0), some (.int x1), some (.int x2), some (.ref 34), some (.int x4), some (.int x5), some (.int (m.1 (a0 + 1) x5.toNatClampNeg)), some (.int ((-1 : Int32) - (m.1 (a0 + 1) x5.toNatClampNeg)))] [.int ((-1 : Int32) - (m.1 (a0 + 1) x5.toNatClampNeg))] _ i_42_72 rfl ?_
          refine wp_s 76 [some (.ref a0), some (.int x1), some (.int x2), some (.ref 34), some (.int x4), some (.int x5), some (.int (m.1 (a0 + 1) x5.toNatClampNeg)), some (.int ((-1 : Int32) - (m.1 (a0 + 1) x5.toNatClampNeg)))] [.int (19 : Int32), .int ((-1 : Int32) - (m.1 (a0 + 1) x5.toNatClampNeg))] _ i_42_74 rfl ?_
          refine wp_cmp_ne 107 79 rfl rfl i_42_76 (fun c_7 => ?_) (fun c_7 => ?_)
          · rw [if_pos c_7] at hd
            refine wp_s 109 [some (.ref a0), some (.int x1), some (.int x2), some (.ref 34), some (.int x4), some (.int x5), some (.int (m.1 (a0 + 1) x5.toNatClampNeg)), some (.int ((-1 : Int32) - (m.1 (a0 + 1) x5.toNatClampNeg)))] [.int x4] _ i_42_107 rfl ?_
            refine wp_s 110 [some (.ref a0), some (.int x1), some (.int x2), some (.ref 34), some (.int x4), some (.int x5), some (.int (m.1 (a0 + 1) x5.toNatClampNeg)), some (.int ((-1 : Int32) - (m.1 (a0 + 1) x5.toNatClampNeg)))] [.int (1 : Int32), .int x4] _ i_42_109 rfl ?_
            refine wp_cmp_le 146 113 rfl rfl i_42_110 (fun c_8 => ?_) (fun c_8 => ?_)
            · rw [if_pos c_8] at hd
              exact aWp.forget (ih.2.2 _ _ _ _ _ _ _ _ _ _ _ hd) (lvS (lvS (lvS (lvS (lvS (lvS (lvS (lvS lvE))))))))
            · rw [if_neg c_8] at hd
              refine wp_s 116 [some (.ref a0), some (.int x1), some (.int x2), some (.ref 34), some (.int (x4 + (-1 : Int32))), some (.int x5), some (.int (m.1 (a0 + 1) x5.toNatClampNeg)), some (.int ((-1 : Int32) - (m.1 (a0 + 1) x5.toNatClampNeg)))] [] _ i_42_113 rfl ?_
              refine wp_s 117 [some (.ref a0), some (.int x1), some (.int x2), some (.ref 34), some (.int (x4 + (-1 : Int32))), some (.int x5), some (.int (m.1 (a0 + 1) x5.toNatClampNeg)), some (.int ((-1 : Int32) - (m.1 (a0 + 1) x5.toNatClampNeg)))] [.ref a0] _ i_42_116 rfl ?_
              refine hm_get (w := .ref (a0 + 5)) 120 rfl i_42_117 (cU_lt k_4) (cU_kd k_4) rfl ?_
              refine wp_s 122 [some (.ref a0), some (.int x1), some (.int x2), some (.ref 34), some (.int (x4 + (-1 : Int32))), some (.int x5), some (.int (m.1 (a0 + 1) x5.toNatClampNeg)), some (.int ((-1 : Int32) - (m.1 (a0 + 1) x5.toNatClampNeg)))] [.int (x4 + (-1 : Int32)), .ref (a0 + 5)] _ i_42_120 rfl ?_
              refine wp_s 123 [some (.ref a0), some (.int x1), some (.int x2), some (.ref 34), some (.int (x4 + (-1 : Int32))), some (.int x5), some (.int (m.1 (a0 + 1) x5.toNatClampNeg)), some (.int ((-1 : Int32) - (m.1 (a0 + 1) x5.toNatClampNeg)))] [.int (1 : Int32), .int (x4 + (-1 : Int32)), .ref (a0 + 5)] _ i_42_122 rfl ?_
              refine wp_s 124 [some (.ref a0), some (.int x1), some (.int x2), some (.ref 34), some (.int (x4 + (-1 : Int32))), some (.int x5), some (.int (m.1 (a0 + 1) x5.toNatClampNeg)), some (.int ((-1 : Int32) - (m.1 (a0 + 1) x5.toNatClampNeg)))] [.int ((x4 + (-1 : Int32)) - (1 : Int32)), .ref (a0 + 5)] _ i_42_123 rfl ?_
              refine wp_s 126 [some (.ref a0), some (.int x1), some (.int x2), some (.ref 34), some (.int (x4 + (-1 : Int32))), some (.int x5), some (.int (m.1 (a0 + 1) x5.toNatClampNeg)), some (.int ((-1 : Int32) - (m.1 (a0 + 1) x5.toNatClampNeg)))] [.int ((-1 : Int32) - (m.1 (a0 + 1) x5.toNatClampNeg)), .int ((x4 + (-1 : Int32)) - (1 : Int32)), .ref (a0 + 5)] _ i_42_124 rfl ?_
              refine wp_s 127 [some (.ref a0), some (.int x1), some (.int x2), some (.ref 34), some (.int (x4 + (-1 : Int32))), some (.int x5), some (.int (m.1 (a0 + 1) x5.toNatClampNeg)), some (.int ((-1 : Int32) - (m.1 (a0 + 1) x5.toNatClampNeg)))] [.ref a0, .int ((-1 : Int32) - (m.1 (a0 + 1) x5.toNatClampNeg)), .int ((x4 + (-1 : Int32)) - (1 : Int32)), .ref (a0 + 5)] _ i_42_126 rfl ?_
              refine hm_get (w := .ref (a0 + 5)) 130 rfl i_42_127 (cU_lt k_4) (cU_kd k_4) rfl ?_
              refine wp_s 132 [some (.ref a0), some (.int x1), some (.int x2), some (.ref 34), some (.int (x4 + (-1 : Int32))), some (.int x5), some (.int (m.1 (a0 + 1) x5.toNatClampNeg)), some (.int ((-1 : Int32) - (m.1 (a0 + 1) x5.toNatClampNeg)))] [.int (x4 + (-1 : Int32)), .ref (a0 + 5), .int ((-1 : Int32) - (m.1 (a0 + 1) x5.toNatClampNeg)), .int ((x4 + (-1 : Int32)) - (1 : Int32)), .ref (a0 + 5)] _ i_42_130 rfl ?_
              refine wp_s 133 [some (.ref a0), some (.int x1), some (.int x2), some (.ref 34), some (.int (x4 + (-1 : Int32))), some (.int x5), some (.int (m.1 (a0 + 1) x5.toNatClampNeg)), some (.int ((-1 : Int32) - (m.1 (a0 + 1) x5.toNatClampNeg)))] [.int (1 : Int32), .int (x4 + (-1 : Int32)), .ref (a0 + 5), .int ((-1 : Int32) - (m.1 (a0 + 1) x5.toNatClampNeg)), .int ((x4 + (-1 : Int32)) - (1 : Int32)), .ref (a0 + 5)] _ i_42_132 rfl ?_
              refine wp_s 134 [some (.ref a0), some (.int x1), some (.int x2), some (.ref 34), some (.int (x4 + (-1 : Int32))), some (.int x5), some (.int (m.1 (a0 + 1) x5.toNatClampNeg)), some (.int ((-1 : Int32) - (m.1 (a0 + 1) x5.toNatClampNeg)))] [.int ((x4 + (-1 : Int32)) - (1 : Int32)), .ref (a0 + 5), .int ((-1 : Int32) - (m.1 (a0 + 1) x5.toNatClampNeg)), .int ((x4 + (-1 : Int32)) - (1 : Int32)), .ref (a0 + 5)] _ i_42_133 rfl ?_
              obtain ⟨k_9, hd⟩ := dk_if hd
              refine hm_lald 135 rfl i_42_134 (kb_3_5 (cU_lt k_4) (cU_kd k_4)) (kr_3_5 (cU_kd k_4)) k_9 ?_
              refine wp_s 136 [some (.ref a0), some (.int x1), some (.int x2), some (.ref 34), some (.int (x4 + (-1 : Int32))), some (.int x5), some (.int (m.1 (a0 + 1) x5.toNatClampNeg)), some (.int ((-1 : Int32) - (m.1 (a0 + 1) x5.toNatClampNeg)))] [.ref a0, .long (m.2.1 (a0 + 5) ((x4 + (-1 : Int32)) - (1 : Int32)).toNatClampNeg), .int ((-1 : Int32) - (m.1 (a0 + 1) x5.toNatClampNeg)), .int ((x4 + (-1 : Int32)) - (1 : Int32)), .ref (a0 + 5)] _ i_42_135 rfl ?_
              refine hm_get (w := .ref (a0 + 5)) 139 rfl i_42_136 (cU_lt k_4) (cU_kd k_4) rfl ?_
              refine wp_s 141 [some (.ref a0), some (.int x1), some (.int x2), some (.ref 34), some (.int (x4 + (-1 : Int32))), some (.int x5), some (.int (m.1 (a0 + 1) x5.toNatClampNeg)), some (.int ((-1 : Int32) - (m.1 (a0 + 1) x5.toNatClampNeg)))] [.int (x4 + (-1 : Int32)), .ref (a0 + 5), .long (m.2.1 (a0 + 5) ((x4 + (-1 : Int32)) - (1 : Int32)).toNatClampNeg), .int ((-1 : Int32) - (m.1 (a0 + 1) x5.toNatClampNeg)), .int ((x4 + (-1 : Int32)) - (1 : Int32)), .ref (a0 + 5)] _ i_42_139 rfl ?_
              obtain ⟨k_10, hd⟩ := dk_if hd
              refine hm_lald 142 rfl i_42_141 (kb_3_5 (cU_lt k_4) (cU_kd k_4)) (kr_3_5 (cU_kd k_4)) k_10 ?_
              obtain ⟨z_11, q_12, hd⟩ := dk_bind hd
              refine wp_callS 145 rfl i_42_142 (by decide) (vs := [.int ((-1 : Int32) - (m.1 (a0 + 1) x5.toNatClampNeg)), .long (m.2.1 (a0 + 5) ((x4 + (-1 : Int32)) - (1 : Int32)).toNatClampNeg), .long (m.2.1 (a0 + 5) (x4 + (-1 : Int32)).toNatClampNeg)]) (rest := [.int ((x4 + (-1 : Int32)) - (1 : Int32)), .ref (a0 + 5)]) rfl rfl rfl (y := m_43) rfl (Nat.le_of_ble_eq_true rfl) (d_43_ok (S := S) (d := e) (by omega) q_12) ?_
              rintro v_13 h_14 ⟨rfl, rfl⟩
              obtain ⟨k_15, hd⟩ := dk_if hd
              obtain ⟨mm_16, q_17, hd⟩ := dk_bind hd
              refine hm_last 146 rfl i_42_145 (kb_3_5 (cU_lt k_4) (cU_kd k_4)) (kr_3_5 (cU_kd k_4)) k_15 ?_
              rw [Option.some.inj q_17]
              exact aWp.forget (ih.2.2 _ _ _ _ _ _ _ _ _ _ _ hd) (lvS (lvS (lvS (lvS (lvS (lvS (lvS (lvS lvE))))))))
          · rw [if_neg c_7] at hd
            refine wp_s 81 [some (.ref a0), some (.int x1), some (.int x2), some (.ref 34), some (.int x4), some (.int x5), some (.int (m.1 (a0 + 1) x5.toNatClampNeg)), some (.int ((-1 : Int32) - (m.1 (a0 + 1) x5.toNatClampNeg)))] [.int x4] _ i_42_79 rfl ?_
            refine wp_if_le 146 84 rfl rfl i_42_81 (fun c_18 => ?_) (fun c_18 => ?_)
            · rw [if_pos c_18] at hd
              exact aWp.forget (ih.2.2 _ _ _ _ _ _ _ _ _ _ _ hd) (lvS (lvS (lvS (lvS (lvS (lvS (lvS (lvS lvE))))))))
            · rw [if_neg c_18] at hd
              refine wp_s 85 [some (.ref a0), some (.int x1), some (.int x2), some (.ref 34), some (.int x4), some (.int x5), some (.int (m.1 (a0 + 1) x5.toNatClampNeg)), some (.int ((-1 : Int32) - (m.1 (a0 + 1) x5.toNatClampNeg)))] [.ref a0] _ i_42_84 rfl ?_
              refine hm_get (w := .ref (a0 + 5)) 88 rfl i_42_85 (cU_lt k_4) (cU_kd k_4) rfl ?_
              refine wp_s 90 [some (.ref a0), some (.int x1), some (.int x2), some (.ref 34), some (.int x4), some (.int x5), some (.int (m.1 (a0 + 1) x5.toNatClampNeg)), some (.int ((-1 : Int32) - (m.1 (a0 + 1) x5.toNatClampNeg)))] [.int x4, .ref (a0 + 5)] _ i_42_88 rfl ?_
              refine wp_s 91 [some (.ref a0), some (.int x1), some (.int x2), some (.ref 34), some (.int x4), some (.int x5), some (.int (m.1 (a0 + 1) x5.toNatClampNeg)), some (.int ((-1 : Int32) - (m.1 (a0 + 1) x5.toNatClampNeg)))] [.int (1 : Int32), .int x4, .ref (a0 + 5)] _ i_42_90 rfl ?_
              refine wp_s 92 [some (.ref a0), some (.int x1), some (.int x2), some (.ref 34), some (.int x4), some (.int x5), some (.int (m.1 (a0 + 1) x5.toNatClampNeg)), some (.int ((-1 : Int32) - (m.1 (a0 + 1) x5.toNatClampNeg)))] [.int (x4 - (1 : Int32)), .ref (a0 + 5)] _ i_42_91 rfl ?_
              refine wp_s 93 [some (.ref a0), some (.int x1), some (.int x2), some (.ref 34), some (.int x4), some (.int x5), some (.int (m.1 (a0 + 1) x5.toNatClampNeg)), some (.int ((-1 : Int32) - (m.1 (a0 + 1) x5.toNatClampNeg)))] [.long (1 : Int64), .int (x4 - (1 : Int32)), .ref (a0 + 5)] _ i_42_92 rfl ?_
              refine wp_s 94 [some (.ref a0), some (.int x1), some (.int x2), some (.ref 34), some (.int x4), some (.int x5), some (.int (m.1 (a0 + 1) x5.toNatClampNeg)), some (.int ((-1 : Int32) - (m.1 (a0 + 1) x5.toNatClampNeg)))] [.ref a0, .long (1 : Int64), .int (x4 - (1 : Int32)), .ref (a0 + 5)] _ i_42_93 rfl ?_
              refine hm_get (w := .ref (a0 + 5)) 97 rfl i_42_94 (cU_lt k_4) (cU_kd k_4) rfl ?_
              refine wp_s 99 [some (.ref a0), some (.int x1), some (.int x2), some (.ref 34), some (.int x4), some (.int x5), some (.int (m.1 (a0 + 1) x5.toNatClampNeg)), some (.int ((-1 : Int32) - (m.1 (a0 + 1) x5.toNatClampNeg)))] [.int x4, .ref (a0 + 5), .long (1 : Int64), .int (x4 - (1 : Int32)), .ref (a0 + 5)] _ i_42_97 rfl ?_
              refine wp_s 100 [some (.ref a0), some (.int x1), some (.int x2), some (.ref 34), some (.int x4), some (.int x5), some (.int (m.1 (a0 + 1) x5.toNatClampNeg)), some (.int ((-1 : Int32) - (m.1 (a0 + 1) x5.toNatClampNeg)))] [.int (1 : Int32), .int x4, .ref (a0 + 5), .long (1 : Int64), .int (x4 - (1 : Int32)), .ref (a0 + 5)] _ i_42_99 rfl ?_
              refine wp_s 101 [some (.ref a0), some (.int x1), some (.int x2), some (.ref 34), some (.int x4), some (.int x5), some (.int (m.1 (a0 + 1) x5.toNatClampNeg)), some (.int ((-1 : Int32) - (m.1 (a0 + 1) x5.toNatClampNeg)))] [.int (x4 - (1 : Int32)), .ref (a0 + 5), .long (1 : Int64), .int (x4 - (1 : Int32)), .ref (a0 + 5)] _ i_42_100 rfl ?_
              obtain ⟨k_19, hd⟩ := dk_if hd
              refine hm_lald 102 rfl i_42_101 (kb_3_5 (cU_lt k_4) (cU_kd k_4)) (kr_3_5 (cU_kd k_4)) k_19 ?_
              refine wp_s 103 [some (.ref a0), some (.int x1), some (.int x2), some (.ref 34), some (.int x4), some (.int x5), some (.int (m.1 (a0 + 1) x5.toNatClampNeg)), some (.int ((-1 : Int32) - (m.1 (a0 + 1) x5.toNatClampNeg)))] [.long ((1 : Int64) - (m.2.1 (a0 + 5) (x4 - (1 : Int32)).toNatClampNeg)), .int (x4 - (1 : Int32)), .ref (a0 + 5)] _ i_42_102 rfl ?_
              obtain ⟨k_20, hd⟩ := dk_if hd
              obtain ⟨mm_21, q_22, hd⟩ := dk_bind hd
              refine hm_last 104 rfl i_42_103 (kb_3_5 (cU_lt k_4) (cU_kd k_4)) (kr_3_5 (cU_kd k_4)) k_20 ?_
              rw [Option.some.inj q_22]
              refine wp_s 146 [some (.ref a0), some (.int x1), some (.int x2), some (.ref 34), some (.int x4), some (.int x5), some (.int (m.1 (a0 + 1) x5.toNatClampNeg)), some (.int ((-1 : Int32) - (m.1 (a0 + 1) x5.toNatClampNeg)))] [] _ i_42_104 rfl ?_
              exact aWp.forget (ih.2.2 _ _ _ _ _ _ _ _ _ _ _ hd) (lvS (lvS (lvS (lvS (lvS (lvS (lvS (lvS lvE))))))))
        · rw [if_neg c_6] at hd
          refine wp_s 36 [some (.ref a0), some (.int x1), some (.int x2), some (.ref 34), some (.int x4), some (.int x5), some (.int (m.1 (a0 + 1) x5.toNatClampNeg)), some (.int ((-1 : Int32) - (m.1 (a0 + 1) x5.toNatClampNeg)))] [.int x4] _ i_42_34 rfl ?_
          refine wp_s 37 [some (.ref a0), some (.int x1), some (.int x2), some (.ref 34), some (.int x4), some (.int x5), some (.int (m.1 (a0 + 1) x5.toNatClampNeg)), some (.int ((-1 : Int32) - (m.1 (a0 + 1) x5.toNatClampNeg)))] [.ref a0, .int x4] _ i_42_36 rfl ?_
          refine hm_get (w := .ref (a0 + 5)) 40 rfl i_42_37 (cU_lt k_4) (cU_kd k_4) rfl ?_
          refine hm_alen 41 rfl i_42_40 (kb_3_5 (cU_lt k_4) (cU_kd k_4)) (kr_3_5 (cU_kd k_4)) rfl ?_
          refine wp_cmp_ge 146 44 rfl rfl i_42_41 (fun c_23 => ?_) (fun c_23 => ?_)
          · rw [if_pos c_23] at hd
            exact aWp.forget (ih.2.2 _ _ _ _ _ _ _ _ _ _ _ hd) (lvS (lvS (lvS (lvS (lvS (lvS (lvS (lvS lvE))))))))
          · rw [if_neg c_23] at hd
            refine wp_s 45 [some (.ref a0), some (.int x1), some (.int x2), some (.ref 34), some (.int x4), some (.int x5), some (.int (m.1 (a0 + 1) x5.toNatClampNeg)), some (.int ((-1 : Int32) - (m.1 (a0 + 1) x5.toNatClampNeg)))] [.ref a0] _ i_42_44 rfl ?_
            refine hm_get (w := .ref (a0 + 5)) 48 rfl i_42_45 (cU_lt k_4) (cU_kd k_4) rfl ?_
            refine wp_s 50 [some (.ref a0), some (.int x1), some (.int x2), some (.ref 34), some (.int x4), some (.int x5), some (.int (m.1 (a0 + 1) x5.toNatClampNeg)), some (.int ((-1 : Int32) - (m.1 (a0 + 1) x5.toNatClampNeg)))] [.int x4, .ref (a0 + 5)] _ i_42_48 rfl ?_
            refine wp_s 52 [some (.ref a0), some (.int x1), some (.int x2), some (.ref 34), some (.int x4), some (.int x5), some (.int (m.1 (a0 + 1) x5.toNatClampNeg)), some (.int ((-1 : Int32) - (m.1 (a0 + 1) x5.toNatClampNeg)))] [.int ((-1 : Int32) - (m.1 (a0 + 1) x5.toNatClampNeg)), .int x4, .ref (a0 + 5)] _ i_42_50 rfl ?_
            refine wp_if_ge 61 55 rfl rfl i_42_52 (fun c_24 => ?_) (fun c_24 => ?_)
            · rw [if_pos c_24] at hd
              refine wp_s 62 [some (.ref a0), some (.int x1), some (.int x2), some (.ref 34), some (.int x4), some (.int x5), some (.int (m.1 (a0 + 1) x5.toNatClampNeg)), some (.int ((-1 : Int32) - (m.1 (a0 + 1) x5.toNatClampNeg)))] [.ref 34, .int x4, .ref (a0 + 5)] _ i_42_61 rfl ?_
              refine wp_s 64 [some (.ref a0), some (.int x1), some (.int x2), some (.ref 34), some (.int x4), some (.int x5), some (.int (m.1 (a0 + 1) x5.toNatClampNeg)), some (.int ((-1 : Int32) - (m.1 (a0 + 1) x5.toNatClampNeg)))] [.int ((-1 : Int32) - (m.1 (a0 + 1) x5.toNatClampNeg)), .ref 34, .int x4, .ref (a0 + 5)] _ i_42_62 rfl ?_
              obtain ⟨k_25, hd⟩ := dk_if hd
              refine hm_lald 65 rfl i_42_64 (cb rfl) kk_34 k_25 ?_
              exact aWp.forget (ih.2.1 _ _ _ _ _ _ _ _ _ _ _ hd) (lvS (lvS (lvS (lvS (lvS (lvS (lvS (lvS lvE))))))))
            · rw [if_neg c_24] at hd
              refine wp_s 57 [some (.ref a0), some (.int x1), some (.int x2), some (.ref 34), some (.int x4), some (.int x5), some (.int (m.1 (a0 + 1) x5.toNatClampNeg)), some (.int ((-1 : Int32) - (m.1 (a0 + 1) x5.toNatClampNeg)))] [.int (m.1 (a0 + 1) x5.toNatClampNeg), .int x4, .ref (a0 + 5)] _ i_42_55 rfl ?_
              refine wp_s 58 [some (.ref a0), some (.int x1), some (.int x2), some (.ref 34), some (.int x4), some (.int x5), some (.int (m.1 (a0 + 1) x5.toNatClampNeg)), some (.int ((-1 : Int32) - (m.1 (a0 + 1) x5.toNatClampNeg)))] [.long ((m.1 (a0 + 1) x5.toNatClampNeg).toInt64), .int x4, .ref (a0 + 5)] _ i_42_57 rfl ?_
              refine wp_s 65 [some (.ref a0), some (.int x1), some (.int x2), some (.ref 34), some (.int x4), some (.int x5), some (.int (m.1 (a0 + 1) x5.toNatClampNeg)), some (.int ((-1 : Int32) - (m.1 (a0 + 1) x5.toNatClampNeg)))] [.long ((m.1 (a0 + 1) x5.toNatClampNeg).toInt64), .int x4, .ref (a0 + 5)] _ i_42_58 rfl ?_
              exact aWp.forget (ih.2.1 _ _ _ _ _ _ _ _ _ _ _ hd) (lvS (lvS (lvS (lvS (lvS (lvS (lvS (lvS lvE))))))))
    · intro a0 x1 x2 x4 x5 x6 x7 u0 s1 m zz hd
      unfold l_42 at hd
      rw [if_neg (by decide), if_pos rfl] at hd
      obtain ⟨e, rfl⟩ : ∃ e, d = e + 1 := ⟨d - 1, by omega⟩
      obtain ⟨k_26, hd⟩ := dk_if hd
      obtain ⟨k_27, hd⟩ := dk_if hd
      obtain ⟨mm_28, q_29, hd⟩ := dk_bind hd
      refine hm_last 66 rfl i_42_65 (kb_3_5 (cU_lt k_26) (cU_kd k_26)) (kr_3_5 (cU_kd k_26)) k_27 ?_
      rw [Option.some.inj q_29]
      refine wp_s 69 [some (.ref a0), some (.int x1), some (.int x2), some (.ref 34), some (.int (x4 + (1 : Int32))), some (.int x5), some (.int x6), some (.int x7)] [] _ i_42_66 rfl ?_
      refine wp_s 146 [some (.ref a0), some (.int x1), some (.int x2), some (.ref 34), some (.int (x4 + (1 : Int32))), some (.int x5), some (.int x6), some (.int x7)] [] _ i_42_69 rfl ?_
      exact aWp.forget (ih.2.2 _ _ _ _ _ _ _ _ _ _ _ hd) (lvS (lvS (lvS (lvS (lvS (lvS (lvS (lvS lvE))))))))
    · intro a0 x1 x2 x4 x5 x6 x7 u0 s1 m zz hd
      unfold l_42 at hd
      rw [if_neg (by decide), if_neg (by decide), if_pos rfl] at hd
      obtain ⟨e, rfl⟩ : ∃ e, d = e + 1 := ⟨d - 1, by omega⟩
      refine wp_s 149 [some (.ref a0), some (.int x1), some (.int x2), some (.ref 34), some (.int x4), some (.int (x5 + (1 : Int32))), some (.int x6), some (.int x7)] [] _ i_42_146 rfl ?_
      refine wp_s 6 [some (.ref a0), some (.int x1), some (.int x2), some (.ref 34), some (.int x4), some (.int (x5 + (1 : Int32))), some (.int x6), some (.int x7)] [] _ i_42_149 rfl ?_
      exact aWp.forget (ih.1 _ _ _ _ _ _ _ _ _ _ _ hd) (lvS (lvS (lvS (lvS (lvS (lvS (lvN (lvN lvE))))))))
set_option maxHeartbeats 4000000 in
set_option maxRecDepth 100000 in
theorem d_42_ok {X : aX} {S : rS} {g : Nat} {a0 : Nat} {x1 : Int32} {x2 : Int32} {m : cM} {zz : Int64 × cM} {d : Nat} (hdp : 1 ≤ d) (hd : d_42 g a0 x1 x2 m = some zz) : aWp X d 42 0 (aEntL [.ref a0, .int x1, .int x2, .ref 34] 8) [] (hr m S) (fun w h' => w = some (.long zz.1) ∧ h' = hr zz.2 S) := by
  unfold d_42 at hd
  refine wp_lv (l2 := [some (.ref a0), some (.int x1), some (.int x2), some (.ref 34), none, none, none, none]) rfl ?_
  obtain ⟨e, rfl⟩ : ∃ e, d = e + 1 := ⟨d - 1, by omega⟩
  refine wp_s 1 [some (.ref a0), some (.int x1), some (.int x2), some (.ref 34), none, none, none, none] [.int (0 : Int32)] _ i_42_0 rfl ?_
  refine wp_s 3 [some (.ref a0), some (.int x1), some (.int x2), some (.ref 34), some (.int (0 : Int32)), none, none, none] [] _ i_42_1 rfl ?_
  refine wp_s 4 [some (.ref a0), some (.int x1), some (.int x2), some (.ref 34), some (.int (0 : Int32)), none, none, none] [.int x1] _ i_42_3 rfl ?_
  refine wp_s 6 [some (.ref a0), some (.int x1), some (.int x2), some (.ref 34), some (.int (0 : Int32)), some (.int x1), none, none] [] _ i_42_4 rfl ?_
  exact aWp.forget ((l_42_ok hdp g).1 _ _ _ _ _ _ _ _ _ _ _ hd) (lvS (lvS (lvS (lvS (lvS (lvS (lvN (lvN lvE))))))))
set_option maxHeartbeats 4000000 in
set_option maxRecDepth 100000 in
theorem l_41_ok {X : aX} {S : rS} {g : Nat} {d : Nat} (hdp : 2 ≤ d) : ∀ n, (∀ (a0 : Nat) (x2 : Int32) (m : cM) (zz : Int32 × cM), l_41 g n 0 a0 x2 m = some zz → aWp X d 41 2 [some (.ref a0), some (.ref 34), some (.int x2), none, none] [] (hr m S) (fun w h' => w = some (.int zz.1) ∧ h' = hr zz.2 S)) ∧ (∀ (a0 : Nat) (x2 : Int32) (m : cM) (zz : Int32 × cM), l_41 g n 1 a0 x2 m = some zz → aWp X d 41 47 [some (.ref a0), some (.ref 34), some (.int x2), none, none] [] (hr m S) (fun w h' => w = some (.int zz.1) ∧ h' = hr zz.2 S)) := by
  intro n
  induction n with
  | zero => exact ⟨fun _ _ _ _ hd => by simp [l_41] at hd, fun _ _ _ _ hd => by simp [l_41] at hd⟩
  | succ n ih =>
    refine ⟨?_, ?_⟩
    · intro a0 x2 m zz hd
      unfold l_41 at hd
      rw [if_pos rfl] at hd
      obtain ⟨e, rfl⟩ : ∃ e, d = e + 1 := ⟨d - 1, by omega⟩
      refine wp_s 3 [some (.ref a0), some (.ref 34), some (.int x2), none, none] [.int x2] _ i_41_2 rfl ?_
      refine wp_s 4 [some (.ref a0), some (.ref 34), some (.int x2), none, none] [.ref a0, .int x2] _ i_41_3 rfl ?_
      obtain ⟨k_1, hd⟩ := dk_if hd
      refine hm_get (w := .int (m.1 a0 6)) 7 rfl i_41_4 (cU_lt k_1) (cU_kd k_1) rfl ?_
      refine wp_cmp_ge 84 10 rfl rfl i_41_7 (fun c_2 => ?_) (fun c_2 => ?_)
      · rw [if_pos c_2] at hd
        refine wp_s 85 [some (.ref a0), some (.ref 34), some (.int x2), none, none] [.int (1 : Int32)] _ i_41_84 rfl ?_
        obtain rfl := Option.some.inj hd
        exact wp_iret i_41_85 ⟨rfl, rfl⟩
      · rw [if_neg c_2] at hd
        refine wp_s 11 [some (.ref a0), some (.ref 34), some (.int x2), none, none] [.ref a0] _ i_41_10 rfl ?_
        refine hm_get (w := .ref (a0 + 3)) 14 rfl i_41_11 (cU_lt k_1) (cU_kd k_1) rfl ?_
        refine wp_s 15 [some (.ref a0), some (.ref 34), some (.int x2), none, none] [.int x2, .ref (a0 + 3)] _ i_41_14 rfl ?_
        obtain ⟨k_3, hd⟩ := dk_if hd
        refine hm_iald 16 rfl i_41_15 (kb_3_3 (cU_lt k_1) (cU_kd k_1)) (kr_3_3 (cU_kd k_1)) k_3 ?_
        refine wp_s 17 [some (.ref a0), some (.ref 34), some (.int x2), none, none] [.ref a0, .int (m.1 (a0 + 3) x2.toNatClampNeg)] _ i_41_16 rfl ?_
        refine hm_get (w := .ref (a0 + 4)) 20 rfl i_41_17 (cU_lt k_1) (cU_kd k_1) rfl ?_
        refine wp_s 21 [some (.ref a0), some (.ref 34), some (.int x2), none, none] [.int x2, .ref (a0 + 4), .int (m.1 (a0 + 3) x2.toNatClampNeg)] _ i_41_20 rfl ?_
        obtain ⟨k_4, hd⟩ := dk_if hd
        refine hm_iald 22 rfl i_41_21 (kb_3_4 (cU_lt k_1) (cU_kd k_1)) (kr_3_4 (cU_kd k_1)) k_4 ?_
        refine wp_cmp_eq 47 25 rfl rfl i_41_22 (fun c_5 => ?_) (fun c_5 => ?_)
        · rw [if_pos c_5] at hd
          exact aWp.forget (ih.2 _ _ _ _ hd) (lvS (lvS (lvS (lvN (lvN lvE)))))
        · rw [if_neg c_5] at hd
          refine wp_s 26 [some (.ref a0), some (.ref 34), some (.int x2), none, none] [.ref a0] _ i_41_25 rfl ?_
          refine wp_s 27 [some (.ref a0), some (.ref 34), some (.int x2), none, none] [.ref a0, .ref a0] _ i_41_26 rfl ?_
          refine hm_get (w := .ref (a0 + 3)) 30 rfl i_41_27 (cU_lt k_1) (cU_kd k_1) rfl ?_
          refine wp_s 31 [some (.ref a0), some (.ref 34), some (.int x2), none, none] [.int x2, .ref (a0 + 3), .ref a0] _ i_41_30 rfl ?_
          obtain ⟨k_6, hd⟩ := dk_if hd
          refine hm_iald 32 rfl i_41_31 (kb_3_3 (cU_lt k_1) (cU_kd k_1)) (kr_3_3 (cU_kd k_1)) k_6 ?_
          refine wp_s 33 [some (.ref a0), some (.ref 34), some (.int x2), none, none] [.ref a0, .int (m.1 (a0 + 3) x2.toNatClampNeg), .ref a0] _ i_41_32 rfl ?_
          refine hm_get (w := .ref (a0 + 4)) 36 rfl i_41_33 (cU_lt k_1) (cU_kd k_1) rfl ?_
          refine wp_s 37 [some (.ref a0), some (.ref 34), some (.int x2), none, none] [.int x2, .ref (a0 + 4), .int (m.1 (a0 + 3) x2.toNatClampNeg), .ref a0] _ i_41_36 rfl ?_
          obtain ⟨k_7, hd⟩ := dk_if hd
          refine hm_iald 38 rfl i_41_37 (kb_3_4 (cU_lt k_1) (cU_kd k_1)) (kr_3_4 (cU_kd k_1)) k_7 ?_
          refine wp_s 39 [some (.ref a0), some (.ref 34), some (.int x2), none, none] [.ref 34, .int (m.1 (a0 + 4) x2.toNatClampNeg), .int (m.1 (a0 + 3) x2.toNatClampNeg), .ref a0] _ i_41_38 rfl ?_
          obtain ⟨z_8, q_9, hd⟩ := dk_bind hd
          refine wp_callV 42 rfl i_41_39 (by decide) rfl (vs := [.int (m.1 (a0 + 3) x2.toNatClampNeg), .int (m.1 (a0 + 4) x2.toNatClampNeg), .ref 34]) (rest := []) rfl rfl rfl (hm_isO (cU_lt k_1) (cU_kd k_1)) (y := m_42) rfl (Nat.le_of_ble_eq_true rfl) (d_42_ok (S := S) (d := e) (by omega) q_9) ?_
          rintro v_10 h_11 ⟨rfl, rfl⟩
          refine wp_s 43 [some (.ref a0), some (.ref 34), some (.int x2), none, none] [.long (0 : Int64), .long z_8.1] _ i_41_42 rfl ?_
          refine wp_s 44 [some (.ref a0), some (.ref 34), some (.int x2), none, none] [.int (lg_cmp z_8.1 (0 : Int64))] _ i_41_43 rfl ?_
          refine wp_if_eq 78 47 rfl rfl i_41_44 (fun c_12 => ?_) (fun c_12 => ?_)
          · rw [if_pos c_12] at hd
            refine wp_s 81 [some (.ref a0), some (.ref 34), some (.int (x2 + (1 : Int32))), none, none] [] _ i_41_78 rfl ?_
            refine wp_s 2 [some (.ref a0), some (.ref 34), some (.int (x2 + (1 : Int32))), none, none] [] _ i_41_81 rfl ?_
            exact aWp.forget (ih.1 _ _ _ _ hd) (lvS (lvS (lvS (lvN (lvN lvE)))))
          · rw [if_neg c_12] at hd
            exact aWp.forget (ih.2 _ _ _ _ hd) (lvS (lvS (lvS (lvN (lvN lvE)))))
    · intro a0 x2 m zz hd
      unfold l_41 at hd
      rw [if_neg (by decide), if_pos rfl] at hd
      obtain ⟨e, rfl⟩ : ∃ e, d = e + 1 := ⟨d - 1, by omega⟩
      refine wp_s 48 [some (.ref a0), some (.ref 34), some (.int x2), none, none] [.ref a0] _ i_41_47 rfl ?_
      refine wp_s 49 [some (.ref a0), some (.ref 34), some (.int x2), none, none] [.ref a0, .ref a0] _ i_41_48 rfl ?_
      obtain ⟨k_13, hd⟩ := dk_if hd
      refine hm_get (w := .ref (a0 + 2)) 52 rfl i_41_49 (cU_lt k_13) (cU_kd k_13) rfl ?_
      refine wp_s 53 [some (.ref a0), some (.ref 34), some (.int x2), none, none] [.int x2, .ref (a0 + 2), .ref a0] _ i_41_52 rfl ?_
      obtain ⟨k_14, hd⟩ := dk_if hd
      refine hm_iald 54 rfl i_41_53 (kb_3_2 (cU_lt k_13) (cU_kd k_13)) (kr_3_2 (cU_kd k_13)) k_14 ?_
      refine wp_s 55 [some (.ref a0), some (.ref 34), some (.int x2), none, none] [.ref a0, .int (m.1 (a0 + 2) x2.toNatClampNeg), .ref a0] _ i_41_54 rfl ?_
      refine hm_get (w := .ref (a0 + 3)) 58 rfl i_41_55 (cU_lt k_13) (cU_kd k_13) rfl ?_
      refine wp_s 59 [some (.ref a0), some (.ref 34), some (.int x2), none, none] [.int x2, .ref (a0 + 3), .int (m.1 (a0 + 2) x2.toNatClampNeg), .ref a0] _ i_41_58 rfl ?_
      obtain ⟨k_15, hd⟩ := dk_if hd
      refine hm_iald 60 rfl i_41_59 (kb_3_3 (cU_lt k_13) (cU_kd k_13)) (kr_3_3 (cU_kd k_13)) k_15 ?_
      refine wp_s 61 [some (.ref a0), some (.ref 34), some (.int x2), none, none] [.ref 34, .int (m.1 (a0 + 3) x2.toNatClampNeg), .int (m.1 (a0 + 2) x2.toNatClampNeg), .ref a0] _ i_41_60 rfl ?_
      obtain ⟨z_16, q_17, hd⟩ := dk_bind hd
      refine wp_callV 64 rfl i_41_61 (by decide) rfl (vs := [.int (m.1 (a0 + 2) x2.toNatClampNeg), .int (m.1 (a0 + 3) x2.toNatClampNeg), .ref 34]) (rest := []) rfl rfl rfl (hm_isO (cU_lt k_13) (cU_kd k_13)) (y := m_42) rfl (Nat.le_of_ble_eq_true rfl) (d_42_ok (S := S) (d := e) (by omega) q_17) ?_
      rintro v_18 h_19 ⟨rfl, rfl⟩
      refine wp_s 65 [some (.ref a0), some (.ref 34), some (.int x2), some (.long z_16.1), none] [] _ i_41_64 rfl ?_
      refine wp_s 66 [some (.ref a0), some (.ref 34), some (.int x2), some (.long z_16.1), none] [.long (1 : Int64)] _ i_41_65 rfl ?_
      refine wp_s 69 [some (.ref a0), some (.ref 34), some (.int x2), some (.long z_16.1), none] [.long (9999 : Int64), .long (1 : Int64)] _ i_41_66 rfl ?_
      refine wp_s 70 [some (.ref a0), some (.ref 34), some (.int x2), some (.long z_16.1), none] [.long z_16.1, .long (9999 : Int64), .long (1 : Int64)] _ i_41_69 rfl ?_
      refine hp_lmin 73 rfl i_41_70 rfl ?_
      refine hp_lmax 76 rfl i_41_73 rfl ?_
      refine wp_s 77 [some (.ref a0), some (.ref 34), some (.int x2), some (.long z_16.1), none] [.int ((if (if z_16.1 < (9999 : Int64) then z_16.1 else (9999 : Int64)) < (1 : Int64) then (1 : Int64) else (if z_16.1 < (9999 : Int64) then z_16.1 else (9999 : Int64))).toInt32)] _ i_41_76 rfl ?_
      obtain rfl := Option.some.inj hd
      exact wp_iret i_41_77 ⟨rfl, rfl⟩
set_option maxHeartbeats 4000000 in
set_option maxRecDepth 100000 in
theorem d_41_ok {X : aX} {S : rS} {g : Nat} {a0 : Nat} {m : cM} {zz : Int32 × cM} {d : Nat} (hdp : 2 ≤ d) (hd : d_41 g a0 m = some zz) : aWp X d 41 0 (aEntL [.ref a0, .ref 34] 5) [] (hr m S) (fun w h' => w = some (.int zz.1) ∧ h' = hr zz.2 S) := by
  unfold d_41 at hd
  refine wp_lv (l2 := [some (.ref a0), some (.ref 34), none, none, none]) rfl ?_
  obtain ⟨e, rfl⟩ : ∃ e, d = e + 1 := ⟨d - 1, by omega⟩
  refine wp_s 1 [some (.ref a0), some (.ref 34), none, none, none] [.int (0 : Int32)] _ i_41_0 rfl ?_
  refine wp_s 2 [some (.ref a0), some (.ref 34), some (.int (0 : Int32)), none, none] [] _ i_41_1 rfl ?_
  exact aWp.forget ((l_41_ok hdp g).1 _ _ _ _ hd) (lvS (lvS (lvS (lvN (lvN lvE)))))
set_option maxHeartbeats 4000000 in
set_option maxRecDepth 100000 in
theorem d_138_ok {X : aX} {S : rS} {g : Nat} {x0 : Int32} {x1 : Int32} {x2 : Int32} {m : cM} {zz : Int32} {d : Nat} (hdp : 0 ≤ d) (hd : d_138 g x0 x1 x2 m = some zz) : aWp X d 138 0 (aEntL [.int x0, .int x1, .int x2] 3) [] (hr m S) (fun w h' => w = some (.int zz) ∧ h' = hr m S) := by
  unfold d_138 at hd
  refine wp_lv (l2 := [some (.int x0), some (.int x1), some (.int x2)]) rfl ?_
  refine wp_s 1 [some (.int x0), some (.int x1), some (.int x2)] [.int x0] _ i_138_0 rfl ?_
  refine wp_s 2 [some (.int x0), some (.int x1), some (.int x2)] [.int x1, .int x0] _ i_138_1 rfl ?_
  refine wp_cmp_lt 14 5 rfl rfl i_138_2 (fun c_1 => ?_) (fun c_1 => ?_)
  · rw [if_pos c_1] at hd
    refine wp_s 15 [some (.int x0), some (.int x1), some (.int x2)] [.int (0 : Int32)] _ i_138_14 rfl ?_
    obtain rfl := Option.some.inj hd
    exact wp_iretZ (z := 0) i_138_15 (by decide) ⟨rfl, rfl⟩
  · rw [if_neg c_1] at hd
    refine wp_s 6 [some (.int x0), some (.int x1), some (.int x2)] [.int x0] _ i_138_5 rfl ?_
    refine wp_s 7 [some (.int x0), some (.int x1), some (.int x2)] [.int x2, .int x0] _ i_138_6 rfl ?_
    refine wp_cmp_gt 14 10 rfl rfl i_138_7 (fun c_2 => ?_) (fun c_2 => ?_)
    · rw [if_pos c_2] at hd
      refine wp_s 15 [some (.int x0), some (.int x1), some (.int x2)] [.int (0 : Int32)] _ i_138_14 rfl ?_
      obtain rfl := Option.some.inj hd
      exact wp_iretZ (z := 0) i_138_15 (by decide) ⟨rfl, rfl⟩
    · rw [if_neg c_2] at hd
      refine wp_s 11 [some (.int x0), some (.int x1), some (.int x2)] [.int (1 : Int32)] _ i_138_10 rfl ?_
      refine wp_s 15 [some (.int x0), some (.int x1), some (.int x2)] [.int (1 : Int32)] _ i_138_11 rfl ?_
      obtain rfl := Option.some.inj hd
      exact wp_iretZ (z := 0) i_138_15 (by decide) ⟨rfl, rfl⟩
set_option maxHeartbeats 4000000 in
set_option maxRecDepth 100000 in
theorem l_57_ok {X : aX} {S : rS} {g : Nat} {d : Nat} (hdp : 1 ≤ d) : ∀ n, (∀ (a0 : Nat) (x1 : Int32) (x2 : Int32) (x3 : Int32) (m : cM) (zz : Int32), l_57 g n 0 a0 x1 x2 x3 m = some zz → aWp X d 57 4 [some (.ref a0), some (.int x1), some (.int x2), some (.int x3)] [] (hr m S) (fun w h' => w = some (.int zz) ∧ h' = hr m S)) ∧ (∀ (a0 : Nat) (x1 : Int32) (x2 : Int32) (x3 : Int32) (m : cM) (zz : Int32), l_57 g n 1 a0 x1 x2 x3 m = some zz → aWp X d 57 38 [some (.ref a0), some (.int x1), some (.int x2), some (.int x3)] [] (hr m S) (fun w h' => w = some (.int zz) ∧ h' = hr m S)) := by
  intro n
  induction n with
  | zero => exact ⟨fun _ _ _ _ _ _ hd => by simp [l_57] at hd, fun _ _ _ _ _ _ hd => by simp [l_57] at hd⟩
  | succ n ih =>
    refine ⟨?_, ?_⟩
    · intro a0 x1 x2 x3 m zz hd
      unfold l_57 at hd
      rw [if_pos rfl] at hd
      obtain ⟨e, rfl⟩ : ∃ e, d = e + 1 := ⟨d - 1, by omega⟩
      refine wp_s 5 [some (.ref a0), some (.int x1), some (.int x2), some (.int x3)] [.int x3] _ i_57_4 rfl ?_
      refine wp_s 6 [some (.ref a0), some (.int x1), some (.int x2), some (.int x3)] [.ref a0, .int x3] _ i_57_5 rfl ?_
      obtain ⟨k_1, hd⟩ := dk_if hd
      refine hm_get (w := .int (m.1 a0 11)) 9 rfl i_57_6 (cO_iff k_1).1 (cO_iff k_1).2 rfl ?_
      refine wp_cmp_ge 44 12 rfl rfl i_57_9 (fun c_2 => ?_) (fun c_2 => ?_)
      · rw [if_pos c_2] at hd
        refine wp_s 45 [some (.ref a0), some (.int x1), some (.int x2), some (.int x3)] [.int x2] _ i_57_44 rfl ?_
        obtain rfl := Option.some.inj hd
        exact wp_iret i_57_45 ⟨rfl, rfl⟩
      · rw [if_neg c_2] at hd
        refine wp_s 13 [some (.ref a0), some (.int x1), some (.int x2), some (.int x3)] [.int x1] _ i_57_12 rfl ?_
        refine wp_s 14 [some (.ref a0), some (.int x1), some (.int x2), some (.int x3)] [.ref a0, .int x1] _ i_57_13 rfl ?_
        refine hm_get (w := .ref (a0 + 6)) 17 rfl i_57_14 (cO_iff k_1).1 (cO_iff k_1).2 rfl ?_
        refine wp_s 18 [some (.ref a0), some (.int x1), some (.int x2), some (.int x3)] [.int x3, .ref (a0 + 6), .int x1] _ i_57_17 rfl ?_
        obtain ⟨k_3, hd⟩ := dk_if hd
        refine hm_iald 19 rfl i_57_18 (kb_5_6 (cO_iff k_1).1 (cO_iff k_1).2) (kr_5_6 (cO_iff k_1).2) k_3 ?_
        refine wp_s 20 [some (.ref a0), some (.int x1), some (.int x2), some (.int x3)] [.ref a0, .int (m.1 (a0 + 6) x3.toNatClampNeg), .int x1] _ i_57_19 rfl ?_
        refine hm_get (w := .ref (a0 + 7)) 23 rfl i_57_20 (cO_iff k_1).1 (cO_iff k_1).2 rfl ?_
        refine wp_s 24 [some (.ref a0), some (.int x1), some (.int x2), some (.int x3)] [.int x3, .ref (a0 + 7), .int (m.1 (a0 + 6) x3.toNatClampNeg), .int x1] _ i_57_23 rfl ?_
        obtain ⟨k_4, hd⟩ := dk_if hd
        refine hm_iald 25 rfl i_57_24 (kb_5_7 (cO_iff k_1).1 (cO_iff k_1).2) (kr_5_7 (cO_iff k_1).2) k_4 ?_
        obtain ⟨z_5, q_6, hd⟩ := dk_bind hd
        refine wp_callS 28 rfl i_57_25 (by decide) (vs := [.int x1, .int (m.1 (a0 + 6) x3.toNatClampNeg), .int (m.1 (a0 + 7) x3.toNatClampNeg)]) (rest := []) rfl rfl rfl (y := m_138) rfl (Nat.le_of_ble_eq_true rfl) (d_138_ok (S := S) (d := e) (by omega) q_6) ?_
        rintro v_7 h_8 ⟨rfl, rfl⟩
        refine wp_if_eq 38 31 rfl rfl i_57_28 (fun c_9 => ?_) (fun c_9 => ?_)
        · rw [if_pos c_9] at hd
          exact aWp.forget (ih.2 _ _ _ _ _ _ hd) (lvS (lvS (lvS (lvS lvE))))
        · rw [if_neg c_9] at hd
          refine wp_s 32 [some (.ref a0), some (.int x1), some (.int x2), some (.int x3)] [.ref a0] _ i_57_31 rfl ?_
          refine hm_get (w := .ref (a0 + 8)) 35 rfl i_57_32 (cO_iff k_1).1 (cO_iff k_1).2 rfl ?_
          refine wp_s 36 [some (.ref a0), some (.int x1), some (.int x2), some (.int x3)] [.int x3, .ref (a0 + 8)] _ i_57_35 rfl ?_
          obtain ⟨k_10, hd⟩ := dk_if hd
          refine hm_iald 37 rfl i_57_36 (kb_5_8 (cO_iff k_1).1 (cO_iff k_1).2) (kr_5_8 (cO_iff k_1).2) k_10 ?_
          refine wp_s 38 [some (.ref a0), some (.int x1), some (.int (m.1 (a0 + 8) x3.toNatClampNeg)), some (.int x3)] [] _ i_57_37 rfl ?_
          exact aWp.forget (ih.2 _ _ _ _ _ _ hd) (lvS (lvS (lvS (lvS lvE))))
    · intro a0 x1 x2 x3 m zz hd
      unfold l_57 at hd
      rw [if_neg (by decide), if_pos rfl] at hd
      obtain ⟨e, rfl⟩ : ∃ e, d = e + 1 := ⟨d - 1, by omega⟩
      refine wp_s 41 [some (.ref a0), some (.int x1), some (.int x2), some (.int (x3 + (1 : Int32)))] [] _ i_57_38 rfl ?_
      refine wp_s 4 [some (.ref a0), some (.int x1), some (.int x2), some (.int (x3 + (1 : Int32)))] [] _ i_57_41 rfl ?_
      exact aWp.forget (ih.1 _ _ _ _ _ _ hd) (lvS (lvS (lvS (lvS lvE))))
set_option maxHeartbeats 4000000 in
set_option maxRecDepth 100000 in
theorem d_57_ok {X : aX} {S : rS} {g : Nat} {a0 : Nat} {x1 : Int32} {m : cM} {zz : Int32} {d : Nat} (hdp : 1 ≤ d) (hd : d_57 g a0 x1 m = some zz) : aWp X d 57 0 (aEntL [.ref a0, .int x1] 4) [] (hr m S) (fun w h' => w = some (.int zz) ∧ h' = hr m S) := by
  unfold d_57 at hd
  refine wp_lv (l2 := [some (.ref a0), some (.int x1), none, none]) rfl ?_
  obtain ⟨e, rfl⟩ : ∃ e, d = e + 1 := ⟨d - 1, by omega⟩
  refine wp_s 1 [some (.ref a0), some (.int x1), none, none] [.int (0 : Int32)] _ i_57_0 rfl ?_
  refine wp_s 2 [some (.ref a0), some (.int x1), some (.int (0 : Int32)), none] [] _ i_57_1 rfl ?_
  refine wp_s 3 [some (.ref a0), some (.int x1), some (.int (0 : Int32)), none] [.int (0 : Int32)] _ i_57_2 rfl ?_
  refine wp_s 4 [some (.ref a0), some (.int x1), some (.int (0 : Int32)), some (.int (0 : Int32))] [] _ i_57_3 rfl ?_
  exact aWp.forget ((l_57_ok hdp g).1 _ _ _ _ _ _ hd) (lvS (lvS (lvS (lvS lvE))))
set_option maxHeartbeats 4000000 in
set_option maxRecDepth 100000 in
theorem j_89_30_ok {X : aX} {S : rS} {g : Nat} {a1 : Nat} {x2 : Int32} {x3 : Int32} {x4 : Int32} {x5 : Int32} {a6 : Nat} {x7 : Int32} {m : cM} {zz : Int32 × cM} {d : Nat} (hdp : 3 ≤ d) (hd : j_89_30 g a1 x2 x3 x4 x5 a6 x7 m = some zz) : aWp X d 89 30 [some (.ref 32), some (.ref a1), some (.int x2), some (.int x3), some (.int x4), some (.int x5), some (.ref a6), some (.int x7), none] [] (hr m S) (fun w h' => w = some (.int zz.1) ∧ h' = hr zz.2 S) := by
  unfold j_89_30 at hd
  obtain ⟨e, rfl⟩ : ∃ e, d = e + 1 := ⟨d - 1, by omega⟩
  refine wp_s 32 [some (.ref 32), some (.ref a1), some (.int x2), some (.int x3), some (.int x4), some (.int x5), some (.ref a6), some (.int x7), none] [.ref a6] _ i_89_30 rfl ?_
  obtain ⟨k_1, hd⟩ := dk_if hd
  refine hm_get (w := .ref (a6 + 1)) 35 rfl i_89_32 (cO_iff k_1).1 (cO_iff k_1).2 rfl ?_
  refine wp_s 36 [some (.ref 32), some (.ref a1), some (.int x2), some (.int x3), some (.int x4), some (.int x5), some (.ref a6), some (.int x7), none] [.int x3, .ref (a6 + 1)] _ i_89_35 rfl ?_
  obtain ⟨k_2, hd⟩ := dk_if hd
  refine hm_iald 37 rfl i_89_36 (kb_5_1 (cO_iff k_1).1 (cO_iff k_1).2) (kr_5_1 (cO_iff k_1).2) k_2 ?_
  refine wp_s 39 [some (.ref 32), some (.ref a1), some (.int x2), some (.int x3), some (.int x4), some (.int x5), some (.ref a6), some (.int x7), some (.int (m.1 (a6 + 1) x3.toNatClampNeg))] [] _ i_89_37 rfl ?_
  refine wp_s 40 [some (.ref 32), some (.ref a1), some (.int x2), some (.int x3), some (.int x4), some (.int x5), some (.ref a6), some (.int x7), some (.int (m.1 (a6 + 1) x3.toNatClampNeg))] [.int (1 : Int32)] _ i_89_39 rfl ?_
  refine wp_s 42 [some (.ref 32), some (.ref a1), some (.int x2), some (.int x3), some (.int x4), some (.int x5), some (.ref a6), some (.int x7), some (.int (m.1 (a6 + 1) x3.toNatClampNeg))] [.int (m.1 (a6 + 1) x3.toNatClampNeg), .int (1 : Int32)] _ i_89_40 rfl ?_
  refine wp_s 44 [some (.ref 32), some (.ref a1), some (.int x2), some (.int x3), some (.int x4), some (.int x5), some (.ref a6), some (.int x7), some (.int (m.1 (a6 + 1) x3.toNatClampNeg))] [.int (m.1 (a6 + 1) x3.toNatClampNeg), .int (m.1 (a6 + 1) x3.toNatClampNeg), .int (1 : Int32)] _ i_89_42 rfl ?_
  refine wp_s 46 [some (.ref 32), some (.ref a1), some (.int x2), some (.int x3), some (.int x4), some (.int x5), some (.ref a6), some (.int x7), some (.int (m.1 (a6 + 1) x3.toNatClampNeg))] [.int x7, .int (m.1 (a6 + 1) x3.toNatClampNeg), .int (m.1 (a6 + 1) x3.toNatClampNeg), .int (1 : Int32)] _ i_89_44 rfl ?_
  refine wp_s 47 [some (.ref 32), some (.ref a1), some (.int x2), some (.int x3), some (.int x4), some (.int x5), some (.ref a6), some (.int x7), some (.int (m.1 (a6 + 1) x3.toNatClampNeg))] [.int ((m.1 (a6 + 1) x3.toNatClampNeg) * x7), .int (m.1 (a6 + 1) x3.toNatClampNeg), .int (1 : Int32)] _ i_89_46 rfl ?_
  refine wp_s 49 [some (.ref 32), some (.ref a1), some (.int x2), some (.int x3), some (.int x4), some (.int x5), some (.ref a6), some (.int x7), some (.int (m.1 (a6 + 1) x3.toNatClampNeg))] [.int (100 : Int32), .int ((m.1 (a6 + 1) x3.toNatClampNeg) * x7), .int (m.1 (a6 + 1) x3.toNatClampNeg), .int (1 : Int32)] _ i_89_47 rfl ?_
  refine wp_idiv 50 rfl i_89_49 (by decide) ?_
  refine wp_s 51 [some (.ref 32), some (.ref a1), some (.int x2), some (.int x3), some (.int x4), some (.int x5), some (.ref a6), some (.int x7), some (.int (m.1 (a6 + 1) x3.toNatClampNeg))] [.int ((m.1 (a6 + 1) x3.toNatClampNeg) - (((m.1 (a6 + 1) x3.toNatClampNeg) * x7) / (100 : Int32))), .int (1 : Int32)] _ i_89_50 rfl ?_
  refine hp_max 54 rfl i_89_51 rfl ?_
  obtain rfl := Option.some.inj hd
  exact wp_iret i_89_54 ⟨rfl, rfl⟩
set_option maxHeartbeats 4000000 in
set_option maxRecDepth 100000 in
theorem d_89_ok {X : aX} {S : rS} {g : Nat} {a1 : Nat} {x2 : Int32} {x3 : Int32} {x4 : Int32} {x5 : Int32} {m : cM} {zz : Int32 × cM} {d : Nat} (hdp : 3 ≤ d) (hd : d_89 g a1 x2 x3 x4 x5 m = some zz) : aWp X d 89 0 (aEntL [.ref 32, .ref a1, .int x2, .int x3, .int x4, .int x5] 9) [] (hr m S) (fun w h' => w = some (.int zz.1) ∧ h' = hr zz.2 S) := by
  unfold d_89 at hd
  refine wp_lv (l2 := [some (.ref 32), some (.ref a1), some (.int x2), some (.int x3), some (.int x4), some (.int x5), none, none, none]) rfl ?_
  obtain ⟨e, rfl⟩ : ∃ e, d = e + 1 := ⟨d - 1, by omega⟩
  refine wp_s 1 [some (.ref 32), some (.ref a1), some (.int x2), some (.int x3), some (.int x4), some (.int x5), none, none, none] [.ref 32] _ i_89_0 rfl ?_
  refine hm_get (w := .ref 5) 4 rfl i_89_1 (cb rfl) kk_32 rfl ?_
  obtain ⟨k_1, hd⟩ := dk_if hd
  refine hm_dyn 7 rfl i_89_4 (cb rfl) kk_5 (fun _ _ => rfl) (kd_ne0 (cO_iff k_1).2 (by decide)) ?_
  refine wp_s 9 [some (.ref 32), some (.ref a1), some (.int x2), some (.int x3), some (.int x4), some (.int x5), some (.ref (m.2.2.1 5)), none, none] [] _ i_89_7 rfl ?_
  refine wp_s 11 [some (.ref 32), some (.ref a1), some (.int x2), some (.int x3), some (.int x4), some (.int x5), some (.ref (m.2.2.1 5)), none, none] [.ref (m.2.2.1 5)] _ i_89_9 rfl ?_
  refine wp_s 13 [some (.ref 32), some (.ref a1), some (.int x2), some (.int x3), some (.int x4), some (.int x5), some (.ref (m.2.2.1 5)), none, none] [.int x4, .ref (m.2.2.1 5)] _ i_89_11 rfl ?_
  obtain ⟨z_2, q_3, hd⟩ := dk_bind hd
  refine wp_callV 16 rfl i_89_13 (by decide) rfl (vs := [.int x4]) (rest := []) rfl rfl rfl (hm_isO (cO_iff k_1).1 (cO_iff k_1).2) (y := m_57) rfl (Nat.le_of_ble_eq_true rfl) (d_57_ok (S := S) (d := e) (by omega) q_3) ?_
  rintro v_4 h_5 ⟨rfl, rfl⟩
  refine wp_s 18 [some (.ref 32), some (.ref a1), some (.int x2), some (.int x3), some (.int x4), some (.int x5), some (.ref (m.2.2.1 5)), some (.int z_2), none] [] _ i_89_16 rfl ?_
  refine wp_s 19 [some (.ref 32), some (.ref a1), some (.int x2), some (.int x3), some (.int x4), some (.int x5), some (.ref (m.2.2.1 5)), some (.int z_2), none] [.int x2] _ i_89_18 rfl ?_
  refine wp_if_lt 30 22 rfl rfl i_89_19 (fun c_6 => ?_) (fun c_6 => ?_)
  · rw [if_pos c_6] at hd
    exact aWp.forget (j_89_30_ok hdp hd) (lvS (lvS (lvS (lvS (lvS (lvS (lvS (lvS (lvN lvE)))))))))
  · rw [if_neg c_6] at hd
    refine wp_s 23 [some (.ref 32), some (.ref a1), some (.int x2), some (.int x3), some (.int x4), some (.int x5), some (.ref (m.2.2.1 5)), some (.int z_2), none] [.int x2] _ i_89_22 rfl ?_
    refine wp_s 24 [some (.ref 32), some (.ref a1), some (.int x2), some (.int x3), some (.int x4), some (.int x5), some (.ref (m.2.2.1 5)), some (.int z_2), none] [.ref 32, .int x2] _ i_89_23 rfl ?_
    refine hm_get (w := .int (m.1 32 2)) 27 rfl i_89_24 (cb rfl) kk_32 rfl ?_
    refine wp_cmp_lt 55 30 rfl rfl i_89_27 (fun c_7 => ?_) (fun c_7 => ?_)
    · rw [if_pos c_7] at hd
      refine wp_s 56 [some (.ref 32), some (.ref a1), some (.int x2), some (.int x3), some (.int x4), some (.int x5), some (.ref (m.2.2.1 5)), some (.int z_2), none] [.ref 32] _ i_89_55 rfl ?_
      refine hm_get (w := .ref 34) 59 rfl i_89_56 (cb rfl) kk_32 rfl ?_
      refine wp_s 60 [some (.ref 32), some (.ref a1), some (.int x2), some (.int x3), some (.int x4), some (.int x5), some (.ref (m.2.2.1 5)), some (.int z_2), none] [.int (0 : Int32), .ref 34] _ i_89_59 rfl ?_
      refine wp_s 61 [some (.ref 32), some (.ref a1), some (.int x2), some (.int x3), some (.int x4), some (.int x5), some (.ref (m.2.2.1 5)), some (.int z_2), none] [.int x3, .int (0 : Int32), .ref 34] _ i_89_60 rfl ?_
      refine wp_s 62 [some (.ref 32), some (.ref a1), some (.int x2), some (.int x3), some (.int x4), some (.int x5), some (.ref (m.2.2.1 5)), some (.int z_2), none] [.long (x3.toInt64), .int (0 : Int32), .ref 34] _ i_89_61 rfl ?_
      obtain ⟨k_8, hd⟩ := dk_if hd
      obtain ⟨mm_9, q_10, hd⟩ := dk_bind hd
      refine hm_last 63 rfl i_89_62 (cb rfl) kk_34 k_8 ?_
      rw [Option.some.inj q_10]
      refine wp_s 64 [some (.ref 32), some (.ref a1), some (.int x2), some (.int x3), some (.int x4), some (.int x5), some (.ref (m.2.2.1 5)), some (.int z_2), none] [.ref 32] _ i_89_63 rfl ?_
      refine hm_get (w := .ref 34) 67 rfl i_89_64 (cb rfl) kk_32 rfl ?_
      refine wp_s 68 [some (.ref 32), some (.ref a1), some (.int x2), some (.int x3), some (.int x4), some (.int x5), some (.ref (m.2.2.1 5)), some (.int z_2), none] [.int (1 : Int32), .ref 34] _ i_89_67 rfl ?_
      refine wp_s 70 [some (.ref 32), some (.ref a1), some (.int x2), some (.int x3), some (.int x4), some (.int x5), some (.ref (m.2.2.1 5)), some (.int z_2), none] [.ref (m.2.2.1 5), .int (1 : Int32), .ref 34] _ i_89_68 rfl ?_
      obtain ⟨k_11, hd⟩ := dk_if hd
      refine hm_get (w := .ref ((m.2.2.1 5) + 1)) 73 rfl i_89_70 (cO_iff k_11).1 (cO_iff k_11).2 rfl ?_
      refine wp_s 74 [some (.ref 32), some (.ref a1), some (.int x2), some (.int x3), some (.int x4), some (.int x5), some (.ref (m.2.2.1 5)), some (.int z_2), none] [.int x3, .ref ((m.2.2.1 5) + 1), .int (1 : Int32), .ref 34] _ i_89_73 rfl ?_
      obtain ⟨k_12, hd⟩ := dk_if hd
      refine hm_iald 75 rfl i_89_74 (kb_5_1 (cO_iff k_11).1 (cO_iff k_11).2) (kr_5_1 (cO_iff k_11).2) k_12 ?_
      refine wp_s 76 [some (.ref 32), some (.ref a1), some (.int x2), some (.int x3), some (.int x4), some (.int x5), some (.ref (m.2.2.1 5)), some (.int z_2), none] [.long ((mm_9.1 ((m.2.2.1 5) + 1) x3.toNatClampNeg).toInt64), .int (1 : Int32), .ref 34] _ i_89_75 rfl ?_
      obtain ⟨k_13, hd⟩ := dk_if hd
      obtain ⟨mm_14, q_15, hd⟩ := dk_bind hd
      refine hm_last 77 rfl i_89_76 (cb rfl) kk_34 k_13 ?_
      rw [Option.some.inj q_15]
      refine wp_s 78 [some (.ref 32), some (.ref a1), some (.int x2), some (.int x3), some (.int x4), some (.int x5), some (.ref (m.2.2.1 5)), some (.int z_2), none] [.ref 32] _ i_89_77 rfl ?_
      refine hm_get (w := .ref 34) 81 rfl i_89_78 (cb rfl) kk_32 rfl ?_
      refine wp_s 82 [some (.ref 32), some (.ref a1), some (.int x2), some (.int x3), some (.int x4), some (.int x5), some (.ref (m.2.2.1 5)), some (.int z_2), none] [.int (2 : Int32), .ref 34] _ i_89_81 rfl ?_
      refine wp_s 84 [some (.ref 32), some (.ref a1), some (.int x2), some (.int x3), some (.int x4), some (.int x5), some (.ref (m.2.2.1 5)), some (.int z_2), none] [.int z_2, .int (2 : Int32), .ref 34] _ i_89_82 rfl ?_
      refine wp_s 85 [some (.ref 32), some (.ref a1), some (.int x2), some (.int x3), some (.int x4), some (.int x5), some (.ref (m.2.2.1 5)), some (.int z_2), none] [.long (z_2.toInt64), .int (2 : Int32), .ref 34] _ i_89_84 rfl ?_
      obtain ⟨k_16, hd⟩ := dk_if hd
      obtain ⟨mm_17, q_18, hd⟩ := dk_bind hd
      refine hm_last 86 rfl i_89_85 (cb rfl) kk_34 k_16 ?_
      rw [Option.some.inj q_18]
      refine wp_s 87 [some (.ref 32), some (.ref a1), some (.int x2), some (.int x3), some (.int x4), some (.int x5), some (.ref (m.2.2.1 5)), some (.int z_2), none] [.ref 32] _ i_89_86 rfl ?_
      refine hm_get (w := .ref 34) 90 rfl i_89_87 (cb rfl) kk_32 rfl ?_
      refine wp_s 91 [some (.ref 32), some (.ref a1), some (.int x2), some (.int x3), some (.int x4), some (.int x5), some (.ref (m.2.2.1 5)), some (.int z_2), none] [.int (3 : Int32), .ref 34] _ i_89_90 rfl ?_
      refine wp_s 93 [some (.ref 32), some (.ref a1), some (.int x2), some (.int x3), some (.int x4), some (.int x5), some (.ref (m.2.2.1 5)), some (.int z_2), none] [.int x4, .int (3 : Int32), .ref 34] _ i_89_91 rfl ?_
      refine wp_s 94 [some (.ref 32), some (.ref a1), some (.int x2), some (.int x3), some (.int x4), some (.int x5), some (.ref (m.2.2.1 5)), some (.int z_2), none] [.long (x4.toInt64), .int (3 : Int32), .ref 34] _ i_89_93 rfl ?_
      obtain ⟨k_19, hd⟩ := dk_if hd
      obtain ⟨mm_20, q_21, hd⟩ := dk_bind hd
      refine hm_last 95 rfl i_89_94 (cb rfl) kk_34 k_19 ?_
      rw [Option.some.inj q_21]
      refine wp_s 96 [some (.ref 32), some (.ref a1), some (.int x2), some (.int x3), some (.int x4), some (.int x5), some (.ref (m.2.2.1 5)), some (.int z_2), none] [.ref 32] _ i_89_95 rfl ?_
      refine hm_get (w := .ref 34) 99 rfl i_89_96 (cb rfl) kk_32 rfl ?_
      refine wp_s 100 [some (.ref 32), some (.ref a1), some (.int x2), some (.int x3), some (.int x4), some (.int x5), some (.ref (m.2.2.1 5)), some (.int z_2), none] [.int (4 : Int32), .ref 34] _ i_89_99 rfl ?_
      refine wp_s 102 [some (.ref 32), some (.ref a1), some (.int x2), some (.int x3), some (.int x4), some (.int x5), some (.ref (m.2.2.1 5)), some (.int z_2), none] [.int x5, .int (4 : Int32), .ref 34] _ i_89_100 rfl ?_
      refine wp_s 103 [some (.ref 32), some (.ref a1), some (.int x2), some (.int x3), some (.int x4), some (.int x5), some (.ref (m.2.2.1 5)), some (.int z_2), none] [.long (x5.toInt64), .int (4 : Int32), .ref 34] _ i_89_102 rfl ?_
      obtain ⟨k_22, hd⟩ := dk_if hd
      obtain ⟨mm_23, q_24, hd⟩ := dk_bind hd
      refine hm_last 104 rfl i_89_103 (cb rfl) kk_34 k_22 ?_
      rw [Option.some.inj q_24]
      refine wp_s 105 [some (.ref 32), some (.ref a1), some (.int x2), some (.int x3), some (.int x4), some (.int x5), some (.ref (m.2.2.1 5)), some (.int z_2), none] [.ref 32] _ i_89_104 rfl ?_
      refine hm_get (w := .ref 34) 108 rfl i_89_105 (cb rfl) kk_32 rfl ?_
      refine wp_s 109 [some (.ref 32), some (.ref a1), some (.int x2), some (.int x3), some (.int x4), some (.int x5), some (.ref (m.2.2.1 5)), some (.int z_2), none] [.int (5 : Int32), .ref 34] _ i_89_108 rfl ?_
      refine wp_s 110 [some (.ref 32), some (.ref a1), some (.int x2), some (.int x3), some (.int x4), some (.int x5), some (.ref (m.2.2.1 5)), some (.int z_2), none] [.ref a1, .int (5 : Int32), .ref 34] _ i_89_109 rfl ?_
      obtain ⟨k_25, hd⟩ := dk_if hd
      refine hm_get (w := .ref (a1 + 2)) 113 rfl i_89_110 (cU_lt k_25) (cU_kd k_25) rfl ?_
      refine wp_s 114 [some (.ref 32), some (.ref a1), some (.int x2), some (.int x3), some (.int x4), some (.int x5), some (.ref (m.2.2.1 5)), some (.int z_2), none] [.int x3, .ref (a1 + 2), .int (5 : Int32), .ref 34] _ i_89_113 rfl ?_
      obtain ⟨k_26, hd⟩ := dk_if hd
      refine hm_iald 115 rfl i_89_114 (kb_7_2 (cU_lt k_25) (cU_kd k_25)) (kr_7_2 (cU_kd k_25)) k_26 ?_
      refine wp_s 116 [some (.ref 32), some (.ref a1), some (.int x2), some (.int x3), some (.int x4), some (.int x5), some (.ref (m.2.2.1 5)), some (.int z_2), none] [.long ((mm_23.1 (a1 + 2) x3.toNatClampNeg).toInt64), .int (5 : Int32), .ref 34] _ i_89_115 rfl ?_
      obtain ⟨k_27, hd⟩ := dk_if hd
      obtain ⟨mm_28, q_29, hd⟩ := dk_bind hd
      refine hm_last 117 rfl i_89_116 (cb rfl) kk_34 k_27 ?_
      rw [Option.some.inj q_29]
      refine wp_s 118 [some (.ref 32), some (.ref a1), some (.int x2), some (.int x3), some (.int x4), some (.int x5), some (.ref (m.2.2.1 5)), some (.int z_2), none] [.ref 32] _ i_89_117 rfl ?_
      refine hm_get (w := .ref 34) 121 rfl i_89_118 (cb rfl) kk_32 rfl ?_
      refine wp_s 123 [some (.ref 32), some (.ref a1), some (.int x2), some (.int x3), some (.int x4), some (.int x5), some (.ref (m.2.2.1 5)), some (.int z_2), none] [.int (6 : Int32), .ref 34] _ i_89_121 rfl ?_
      refine wp_s 124 [some (.ref 32), some (.ref a1), some (.int x2), some (.int x3), some (.int x4), some (.int x5), some (.ref (m.2.2.1 5)), some (.int z_2), none] [.ref a1, .int (6 : Int32), .ref 34] _ i_89_123 rfl ?_
      refine hm_get (w := .ref (a1 + 3)) 127 rfl i_89_124 (cU_lt k_25) (cU_kd k_25) rfl ?_
      refine wp_s 128 [some (.ref 32), some (.ref a1), some (.int x2), some (.int x3), some (.int x4), some (.int x5), some (.ref (m.2.2.1 5)), some (.int z_2), none] [.int x3, .ref (a1 + 3), .int (6 : Int32), .ref 34] _ i_89_127 rfl ?_
      obtain ⟨k_30, hd⟩ := dk_if hd
      refine hm_iald 129 rfl i_89_128 (kb_7_3 (cU_lt k_25) (cU_kd k_25)) (kr_7_3 (cU_kd k_25)) k_30 ?_
      refine wp_s 130 [some (.ref 32), some (.ref a1), some (.int x2), some (.int x3), some (.int x4), some (.int x5), some (.ref (m.2.2.1 5)), some (.int z_2), none] [.long ((mm_28.1 (a1 + 3) x3.toNatClampNeg).toInt64), .int (6 : Int32), .ref 34] _ i_89_129 rfl ?_
      obtain ⟨k_31, hd⟩ := dk_if hd
      obtain ⟨mm_32, q_33, hd⟩ := dk_bind hd
      refine hm_last 131 rfl i_89_130 (cb rfl) kk_34 k_31 ?_
      rw [Option.some.inj q_33]
      refine wp_s 132 [some (.ref 32), some (.ref a1), some (.int x2), some (.int x3), some (.int x4), some (.int x5), some (.ref (m.2.2.1 5)), some (.int z_2), none] [.ref 32] _ i_89_131 rfl ?_
      refine hm_get (w := .ref 34) 135 rfl i_89_132 (cb rfl) kk_32 rfl ?_
      refine wp_s 137 [some (.ref 32), some (.ref a1), some (.int x2), some (.int x3), some (.int x4), some (.int x5), some (.ref (m.2.2.1 5)), some (.int z_2), none] [.int (7 : Int32), .ref 34] _ i_89_135 rfl ?_
      refine wp_s 139 [some (.ref 32), some (.ref a1), some (.int x2), some (.int x3), some (.int x4), some (.int x5), some (.ref (m.2.2.1 5)), some (.int z_2), none] [.ref (m.2.2.1 5), .int (7 : Int32), .ref 34] _ i_89_137 rfl ?_
      obtain ⟨k_34, hd⟩ := dk_if hd
      refine hm_get (w := .ref ((m.2.2.1 5) + 2)) 142 rfl i_89_139 (cO_iff k_34).1 (cO_iff k_34).2 rfl ?_
      refine wp_s 143 [some (.ref 32), some (.ref a1), some (.int x2), some (.int x3), some (.int x4), some (.int x5), some (.ref (m.2.2.1 5)), some (.int z_2), none] [.int x3, .ref ((m.2.2.1 5) + 2), .int (7 : Int32), .ref 34] _ i_89_142 rfl ?_
      obtain ⟨k_35, hd⟩ := dk_if hd
      refine hm_iald 144 rfl i_89_143 (kb_5_2 (cO_iff k_34).1 (cO_iff k_34).2) (kr_5_2 (cO_iff k_34).2) k_35 ?_
      refine wp_s 145 [some (.ref 32), some (.ref a1), some (.int x2), some (.int x3), some (.int x4), some (.int x5), some (.ref (m.2.2.1 5)), some (.int z_2), none] [.long ((mm_32.1 ((m.2.2.1 5) + 2) x3.toNatClampNeg).toInt64), .int (7 : Int32), .ref 34] _ i_89_144 rfl ?_
      obtain ⟨k_36, hd⟩ := dk_if hd
      obtain ⟨mm_37, q_38, hd⟩ := dk_bind hd
      refine hm_last 146 rfl i_89_145 (cb rfl) kk_34 k_36 ?_
      rw [Option.some.inj q_38]
      refine wp_s 147 [some (.ref 32), some (.ref a1), some (.int x2), some (.int x3), some (.int x4), some (.int x5), some (.ref (m.2.2.1 5)), some (.int z_2), none] [.ref 32] _ i_89_146 rfl ?_
      refine hm_get (w := .ref 33) 150 rfl i_89_147 (cb rfl) kk_32 rfl ?_
      refine wp_s 151 [some (.ref 32), some (.ref a1), some (.int x2), some (.int x3), some (.int x4), some (.int x5), some (.ref (m.2.2.1 5)), some (.int z_2), none] [.int x2, .ref 33] _ i_89_150 rfl ?_
      obtain ⟨k_39, hd⟩ := dk_if hd
      refine hm_aald (q := (35 + 6 * x2.toNatClampNeg)) 152 rfl i_89_151 (by decide) (cb rfl) kk_33 k_39 (cQ_33 k_39) ?_
      refine wp_s 153 [some (.ref 32), some (.ref a1), some (.int x2), some (.int x3), some (.int x4), some (.int x5), some (.ref (m.2.2.1 5)), some (.int z_2), none] [.ref 32, .ref (35 + 6 * x2.toNatClampNeg)] _ i_89_152 rfl ?_
      refine hm_get (w := .ref 34) 156 rfl i_89_153 (cb rfl) kk_32 rfl ?_
      obtain ⟨z_40, q_41, hd⟩ := dk_bind hd
      refine wp_callV 159 rfl i_89_156 (by decide) rfl (vs := [.ref 34]) (rest := []) rfl rfl rfl (hm_isO (qb_33 k_39) (qk_33 k_39)) (y := m_41) rfl (Nat.le_of_ble_eq_true rfl) (d_41_ok (S := S) (d := e) (by omega) q_41) ?_
      rintro v_42 h_43 ⟨rfl, rfl⟩
      obtain rfl := Option.some.inj hd
      exact wp_iret i_89_159 ⟨rfl, rfl⟩
    · rw [if_neg c_7] at hd
      exact aWp.forget (j_89_30_ok hdp hd) (lvS (lvS (lvS (lvS (lvS (lvS (lvS (lvS (lvN lvE)))))))))
set_option maxHeartbeats 4000000 in
set_option maxRecDepth 100000 in
theorem d_90_ok {X : aX} {S : rS} {g : Nat} {x1 : Int32} {x2 : Int32} {m : cM} {zz : Int32 × cM} {d : Nat} (hdp : 4 ≤ d) (hd : d_90 g x1 x2 m = some zz) : aWp X d 90 0 (aEntL [.ref 32, .int x1, .int x2] 3) [] (hr m S) (fun w h' => w = some (.int zz.1) ∧ h' = hr zz.2 S) := by
  unfold d_90 at hd
  refine wp_lv (l2 := [some (.ref 32), some (.int x1), some (.int x2)]) rfl ?_
  obtain ⟨e, rfl⟩ : ∃ e, d = e + 1 := ⟨d - 1, by omega⟩
  refine wp_s 1 [some (.ref 32), some (.int x1), some (.int x2)] [.ref 32] _ i_90_0 rfl ?_
  refine wp_s 2 [some (.ref 32), some (.int x1), some (.int x2)] [.ref 32, .ref 32] _ i_90_1 rfl ?_
  refine hm_get (w := .ref 5) 5 rfl i_90_2 (cb rfl) kk_32 rfl ?_
  refine hm_get (w := .ref 19) 8 rfl i_90_5 (cb rfl) kk_5 rfl ?_
  refine wp_s 9 [some (.ref 32), some (.int x1), some (.int x2)] [.ref 32, .ref 19, .ref 32] _ i_90_8 rfl ?_
  refine hm_get (w := .ref 5) 12 rfl i_90_9 (cb rfl) kk_32 rfl ?_
  refine hm_get (w := .int (m.1 5 2)) 15 rfl i_90_12 (cb rfl) kk_5 rfl ?_
  refine wp_s 16 [some (.ref 32), some (.int x1), some (.int x2)] [.int x1, .int (m.1 5 2), .ref 19, .ref 32] _ i_90_15 rfl ?_
  refine wp_s 17 [some (.ref 32), some (.int x1), some (.int x2)] [.int x2, .int x1, .int (m.1 5 2), .ref 19, .ref 32] _ i_90_16 rfl ?_
  refine wp_s 18 [some (.ref 32), some (.int x1), some (.int x2)] [.ref 32, .int x2, .int x1, .int (m.1 5 2), .ref 19, .ref 32] _ i_90_17 rfl ?_
  refine hm_get (w := .ref 5) 21 rfl i_90_18 (cb rfl) kk_32 rfl ?_
  refine hm_get (w := .ref 19) 24 rfl i_90_21 (cb rfl) kk_5 rfl ?_
  refine hm_get (w := .ref 23) 27 rfl i_90_24 (cb rfl) kk_19 rfl ?_
  refine wp_s 28 [some (.ref 32), some (.int x1), some (.int x2)] [.int x1, .ref 23, .int x2, .int x1, .int (m.1 5 2), .ref 19, .ref 32] _ i_90_27 rfl ?_
  obtain ⟨k_1, hd⟩ := dk_if hd
  refine hm_iald 29 rfl i_90_28 (cb rfl) kk_23 k_1 ?_
  obtain ⟨z_2, q_3, hd⟩ := dk_bind hd
  refine wp_callV 32 rfl i_90_29 (by decide) rfl (vs := [.ref 19, .int (m.1 5 2), .int x1, .int x2, .int (m.1 23 x1.toNatClampNeg)]) (rest := []) rfl rfl rfl (hm_isO (cb rfl) kk_32) (y := m_89) rfl (Nat.le_of_ble_eq_true rfl) (d_89_ok (S := S) (d := e) (by omega) q_3) ?_
  rintro v_4 h_5 ⟨rfl, rfl⟩
  obtain rfl := Option.some.inj hd
  exact wp_iret i_90_32 ⟨rfl, rfl⟩
set_option maxHeartbeats 4000000 in
set_option maxRecDepth 100000 in
theorem l_12_ok {X : aX} {S : rS} {g : Nat} {d : Nat} (hdp : 5 ≤ d) : ∀ n, (∀ (x1 : Int32) (x2 : Int32) (m : cM) (zz : cM), l_12 g n 0 x1 x2 m = some zz → aWp X d 12 7 [some (.ref 71), some (.int x1), some (.int x2)] [] (hr m S) (fun w h' => w = none ∧ h' = hr zz S)) := by
  intro n
  induction n with
  | zero => exact fun _ _ _ _ hd => by simp [l_12] at hd
  | succ n ih =>
    intro x1 x2 m zz hd
    unfold l_12 at hd
    rw [if_pos rfl] at hd
    obtain ⟨e, rfl⟩ : ∃ e, d = e + 1 := ⟨d - 1, by omega⟩
    refine wp_s 8 [some (.ref 71), some (.int x1), some (.int x2)] [.int x2] _ i_12_7 rfl ?_
    refine wp_s 9 [some (.ref 71), some (.int x1), some (.int x2)] [.ref 71, .int x2] _ i_12_8 rfl ?_
    refine hm_get (w := .ref 5) 12 rfl i_12_9 (cb rfl) kk_71 rfl ?_
    obtain ⟨k_1, hd⟩ := dk_if hd
    refine hm_dyn 15 rfl i_12_12 (cb rfl) kk_5 (fun _ _ => rfl) (kd_ne0 (cO_iff k_1).2 (by decide)) ?_
    refine hm_get (w := .int (m.1 (m.2.2.1 5) 4)) 18 rfl i_12_15 (cO_iff k_1).1 (cO_iff k_1).2 rfl ?_
    refine wp_cmp_ge 70 21 rfl rfl i_12_18 (fun c_2 => ?_) (fun c_2 => ?_)
    · rw [if_pos c_2] at hd
      refine wp_s 71 [some (.ref 71), some (.int x1), some (.int x2)] [.ref 71] _ i_12_70 rfl ?_
      refine wp_s 72 [some (.ref 71), some (.int x1), some (.int x2)] [.ref 71, .ref 71] _ i_12_71 rfl ?_
      refine hm_get (w := .ref 5) 75 rfl i_12_72 (cb rfl) kk_71 rfl ?_
      refine hm_get (w := .ref 19) 78 rfl i_12_75 (cb rfl) kk_5 rfl ?_
      obtain ⟨z_3, q_4, hd⟩ := dk_bind hd
      refine wp_callV 81 rfl i_12_78 (by decide) rfl (vs := []) (rest := [.ref 71]) rfl rfl rfl (hm_isO (cb rfl) kk_19) (y := m_73) rfl (Nat.le_of_ble_eq_true rfl) (d_73_ok (S := S) (d := e) (by omega) q_4) ?_
      rintro v_5 h_6 ⟨rfl, rfl⟩
      obtain ⟨mm_7, q_8, hd⟩ := dk_bind hd
      refine hm_put 84 rfl i_12_81 (cb rfl) kk_71 (fun _ _ => rfl) (fun _ _ => Nat.le_of_ble_eq_true rfl) rfl ?_
      rw [Option.some.inj q_8]
      obtain rfl := Option.some.inj hd
      exact wp_ret i_12_84 rfl ⟨rfl, rfl⟩
    · rw [if_neg c_2] at hd
      refine wp_s 22 [some (.ref 71), some (.int x1), some (.int x2)] [.ref 71] _ i_12_21 rfl ?_
      refine hm_get (w := .ref 75) 25 rfl i_12_22 (cb rfl) kk_71 rfl ?_
      refine wp_s 26 [some (.ref 71), some (.int x1), some (.int x2)] [.int x2, .ref 75] _ i_12_25 rfl ?_
      refine wp_s 27 [some (.ref 71), some (.int x1), some (.int x2)] [.ref 71, .int x2, .ref 75] _ i_12_26 rfl ?_
      refine hm_get (w := .ref 32) 30 rfl i_12_27 (cb rfl) kk_71 rfl ?_
      refine wp_s 31 [some (.ref 71), some (.int x1), some (.int x2)] [.int x2, .ref 32, .int x2, .ref 75] _ i_12_30 rfl ?_
      refine wp_s 32 [some (.ref 71), some (.int x1), some (.int x2)] [.int x1, .int x2, .ref 32, .int x2, .ref 75] _ i_12_31 rfl ?_
      obtain ⟨z_9, q_10, hd⟩ := dk_bind hd
      refine wp_callV 35 rfl i_12_32 (by decide) rfl (vs := [.int x2, .int x1]) (rest := [.int x2, .ref 75]) rfl rfl rfl (hm_isO (cb rfl) kk_32) (y := m_90) rfl (Nat.le_of_ble_eq_true rfl) (d_90_ok (S := S) (d := e) (by omega) q_10) ?_
      rintro v_11 h_12 ⟨rfl, rfl⟩
      obtain ⟨k_13, hd⟩ := dk_if hd
      obtain ⟨mm_14, q_15, hd⟩ := dk_bind hd
      refine hm_iast 36 rfl i_12_35 (cb rfl) kk_75 k_13 ?_
      rw [Option.some.inj q_15]
      refine wp_s 37 [some (.ref 71), some (.int x1), some (.int x2)] [.ref 71] _ i_12_36 rfl ?_
      refine wp_s 38 [some (.ref 71), some (.int x1), some (.int x2)] [.ref 71, .ref 71] _ i_12_37 rfl ?_
      refine hm_get (w := .int (mm_14.1 71 11)) 41 rfl i_12_38 (cb rfl) kk_71 rfl ?_
      refine wp_s 42 [some (.ref 71), some (.int x1), some (.int x2)] [.ref 71, .int (mm_14.1 71 11), .ref 71] _ i_12_41 rfl ?_
      refine hm_get (w := .ref 5) 45 rfl i_12_42 (cb rfl) kk_71 rfl ?_
      refine hm_get (w := .ref 19) 48 rfl i_12_45 (cb rfl) kk_5 rfl ?_
      refine hm_get (w := .ref 20) 51 rfl i_12_48 (cb rfl) kk_19 rfl ?_
      refine wp_s 52 [some (.ref 71), some (.int x1), some (.int x2)] [.int x2, .ref 20, .int (mm_14.1 71 11), .ref 71] _ i_12_51 rfl ?_
      obtain ⟨k_16, hd⟩ := dk_if hd
      refine hm_iald 53 rfl i_12_52 (cb rfl) kk_20 k_16 ?_
      refine wp_s 54 [some (.ref 71), some (.int x1), some (.int x2)] [.ref 71, .int (mm_14.1 20 x2.toNatClampNeg), .int (mm_14.1 71 11), .ref 71] _ i_12_53 rfl ?_
      refine hm_get (w := .ref 75) 57 rfl i_12_54 (cb rfl) kk_71 rfl ?_
      refine wp_s 58 [some (.ref 71), some (.int x1), some (.int x2)] [.int x2, .ref 75, .int (mm_14.1 20 x2.toNatClampNeg), .int (mm_14.1 71 11), .ref 71] _ i_12_57 rfl ?_
      obtain ⟨k_17, hd⟩ := dk_if hd
      refine hm_iald 59 rfl i_12_58 (cb rfl) kk_75 k_17 ?_
      refine wp_s 60 [some (.ref 71), some (.int x1), some (.int x2)] [.int ((mm_14.1 20 x2.toNatClampNeg) * (mm_14.1 75 x2.toNatClampNeg)), .int (mm_14.1 71 11), .ref 71] _ i_12_59 rfl ?_
      refine wp_s 61 [some (.ref 71), some (.int x1), some (.int x2)] [.int ((mm_14.1 71 11) + ((mm_14.1 20 x2.toNatClampNeg) * (mm_14.1 75 x2.toNatClampNeg))), .ref 71] _ i_12_60 rfl ?_
      obtain ⟨mm_18, q_19, hd⟩ := dk_bind hd
      refine hm_put 64 rfl i_12_61 (cb rfl) kk_71 (fun _ _ => rfl) (fun _ _ => Nat.le_of_ble_eq_true rfl) rfl ?_
      rw [Option.some.inj q_19]
      refine wp_s 67 [some (.ref 71), some (.int x1), some (.int (x2 + (1 : Int32)))] [] _ i_12_64 rfl ?_
      refine wp_s 7 [some (.ref 71), some (.int x1), some (.int (x2 + (1 : Int32)))] [] _ i_12_67 rfl ?_
      exact aWp.forget (ih _ _ _ _ hd) (lvS (lvS (lvS lvE)))
set_option maxHeartbeats 4000000 in
set_option maxRecDepth 100000 in
theorem d_12_ok {X : aX} {S : rS} {g : Nat} {x1 : Int32} {m : cM} {zz : cM} {d : Nat} (hdp : 5 ≤ d) (hd : d_12 g x1 m = some zz) : aWp X d 12 0 (aEntL [.ref 71, .int x1] 3) [] (hr m S) (fun w h' => w = none ∧ h' = hr zz S) := by
  unfold d_12 at hd
  refine wp_lv (l2 := [some (.ref 71), some (.int x1), none]) rfl ?_
  obtain ⟨e, rfl⟩ : ∃ e, d = e + 1 := ⟨d - 1, by omega⟩
  refine wp_s 1 [some (.ref 71), some (.int x1), none] [.ref 71] _ i_12_0 rfl ?_
  refine wp_s 2 [some (.ref 71), some (.int x1), none] [.int (0 : Int32), .ref 71] _ i_12_1 rfl ?_
  obtain ⟨mm_1001, q_1002, hd⟩ := dk_bind hd
  refine hm_put 5 rfl i_12_2 (cb rfl) kk_71 (fun _ _ => rfl) (fun _ _ => Nat.le_of_ble_eq_true rfl) rfl ?_
  rw [Option.some.inj q_1002]
  refine wp_s 6 [some (.ref 71), some (.int x1), none] [.int (0 : Int32)] _ i_12_5 rfl ?_
  refine wp_s 7 [some (.ref 71), some (.int x1), some (.int (0 : Int32))] [] _ i_12_6 rfl ?_
  exact aWp.forget ((l_12_ok hdp g) _ _ _ _ hd) (lvS (lvS (lvS lvE)))
