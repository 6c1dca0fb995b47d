theorem i_0_0 : aIns 0 0 = some (.aload_n 0, 1, 0, 0, .null) := by decide +kernel
theorem i_0_1 : aIns 0 1 = some (.invokespecial 3, 3, 1000, 0, .null) := by decide +kernel
theorem i_0_4 : aIns 0 4 = some (.aload_n 0, 1, 0, 0, .null) := by decide +kernel
theorem i_0_5 : aIns 0 5 = some (.bipush 8, 2, 0, 0, .int (8)) := by decide +kernel
theorem i_0_7 : aIns 0 7 = some (.newarray .int, 2, 0, 0, .null) := by decide +kernel
theorem i_0_9 : aIns 0 9 = some (.putfield 9, 3, 0, 3, .null) := by decide +kernel
theorem i_0_12 : aIns 0 12 = some (.return_, 1, 0, 0, .null) := by decide +kernel
theorem i_1_0 : aIns 1 0 = some (.aload_n 0, 1, 0, 0, .null) := by decide +kernel
theorem i_1_1 : aIns 1 1 = some (.iconst 0, 1, 0, 0, .int (0)) := by decide +kernel
theorem i_1_2 : aIns 1 2 = some (.putfield 15, 3, 0, 0, .null) := by decide +kernel
theorem i_1_5 : aIns 1 5 = some (.aload_n 0, 1, 0, 0, .null) := by decide +kernel
theorem i_1_6 : aIns 1 6 = some (.iconst 0, 1, 0, 0, .int (0)) := by decide +kernel
theorem i_1_7 : aIns 1 7 = some (.putfield 19, 3, 0, 1, .null) := by decide +kernel
theorem i_1_10 : aIns 1 10 = some (.aload_n 0, 1, 0, 0, .null) := by decide +kernel
theorem i_1_11 : aIns 1 11 = some (.iconst 0, 1, 0, 0, .int (0)) := by decide +kernel
theorem i_1_12 : aIns 1 12 = some (.putfield 23, 3, 0, 2, .null) := by decide +kernel
theorem i_1_15 : aIns 1 15 = some (.return_, 1, 0, 0, .null) := by decide +kernel
theorem i_2_0 : aIns 2 0 = some (.aload_n 0, 1, 0, 0, .null) := by decide +kernel
theorem i_2_1 : aIns 2 1 = some (.getfield 15, 3, 0, 0, .null) := by decide +kernel
theorem i_2_4 : aIns 2 4 = some (.ifCond .eq 11, 3, 0, 0, .null) := by decide +kernel
theorem i_2_7 : aIns 2 7 = some (.iload_n 1, 1, 0, 0, .null) := by decide +kernel
theorem i_2_8 : aIns 2 8 = some (.aload_n 0, 1, 0, 0, .null) := by decide +kernel
theorem i_2_9 : aIns 2 9 = some (.getfield 19, 3, 0, 1, .null) := by decide +kernel
theorem i_2_12 : aIns 2 12 = some (.if_icmp .ge 10, 3, 0, 0, .null) := by decide +kernel
theorem i_2_15 : aIns 2 15 = some (.aload_n 0, 1, 0, 0, .null) := by decide +kernel
theorem i_2_16 : aIns 2 16 = some (.iload_n 1, 1, 0, 0, .null) := by decide +kernel
theorem i_2_17 : aIns 2 17 = some (.aload_n 2, 1, 0, 0, .null) := by decide +kernel
theorem i_2_18 : aIns 2 18 = some (.iload_n 3, 1, 0, 0, .null) := by decide +kernel
theorem i_2_19 : aIns 2 19 = some (.invokevirtual 26, 3, 3, 3, .int 0) := by decide +kernel
theorem i_2_22 : aIns 2 22 = some (.return_, 1, 0, 0, .null) := by decide +kernel
theorem i_3_0 : aIns 3 0 = some (.aload_n 0, 1, 0, 0, .null) := by decide +kernel
theorem i_3_1 : aIns 3 1 = some (.iconst 1, 1, 0, 0, .int (1)) := by decide +kernel
theorem i_3_2 : aIns 3 2 = some (.putfield 15, 3, 0, 0, .null) := by decide +kernel
theorem i_3_5 : aIns 3 5 = some (.aload_n 0, 1, 0, 0, .null) := by decide +kernel
theorem i_3_6 : aIns 3 6 = some (.iload_n 1, 1, 0, 0, .null) := by decide +kernel
theorem i_3_7 : aIns 3 7 = some (.putfield 19, 3, 0, 1, .null) := by decide +kernel
theorem i_3_10 : aIns 3 10 = some (.aload_n 0, 1, 0, 0, .null) := by decide +kernel
theorem i_3_11 : aIns 3 11 = some (.iload_n 3, 1, 0, 0, .null) := by decide +kernel
theorem i_3_12 : aIns 3 12 = some (.putfield 23, 3, 0, 2, .null) := by decide +kernel
theorem i_3_15 : aIns 3 15 = some (.aload_n 2, 1, 0, 0, .null) := by decide +kernel
theorem i_3_16 : aIns 3 16 = some (.iconst 0, 1, 0, 0, .int (0)) := by decide +kernel
theorem i_3_17 : aIns 3 17 = some (.aload_n 0, 1, 0, 0, .null) := by decide +kernel
theorem i_3_18 : aIns 3 18 = some (.getfield 9, 3, 0, 3, .null) := by decide +kernel
theorem i_3_21 : aIns 3 21 = some (.iconst 0, 1, 0, 0, .int (0)) := by decide +kernel
theorem i_3_22 : aIns 3 22 = some (.iload_n 3, 1, 0, 0, .null) := by decide +kernel
theorem i_3_23 : aIns 3 23 = some (.invokestatic 30, 3, 1000, 0, .null) := by decide +kernel
theorem i_3_26 : aIns 3 26 = some (.return_, 1, 0, 0, .null) := by decide +kernel
theorem i_4_0 : aIns 4 0 = some (.iload_n 1, 1, 0, 0, .null) := by decide +kernel
theorem i_4_1 : aIns 4 1 = some (.ifCond .ne 8, 3, 0, 0, .null) := by decide +kernel
theorem i_4_4 : aIns 4 4 = some (.aload_n 0, 1, 0, 0, .null) := by decide +kernel
theorem i_4_5 : aIns 4 5 = some (.getfield 19, 3, 0, 1, .null) := by decide +kernel
theorem i_4_8 : aIns 4 8 = some (.ireturn, 1, 0, 0, .null) := by decide +kernel
theorem i_4_9 : aIns 4 9 = some (.iload_n 1, 1, 0, 0, .null) := by decide +kernel
theorem i_4_10 : aIns 4 10 = some (.aload_n 0, 1, 0, 0, .null) := by decide +kernel
theorem i_4_11 : aIns 4 11 = some (.getfield 23, 3, 0, 2, .null) := by decide +kernel
theorem i_4_14 : aIns 4 14 = some (.if_icmp .gt 14, 3, 0, 0, .null) := by decide +kernel
theorem i_4_17 : aIns 4 17 = some (.aload_n 0, 1, 0, 0, .null) := by decide +kernel
theorem i_4_18 : aIns 4 18 = some (.getfield 9, 3, 0, 3, .null) := by decide +kernel
theorem i_4_21 : aIns 4 21 = some (.iload_n 1, 1, 0, 0, .null) := by decide +kernel
theorem i_4_22 : aIns 4 22 = some (.iconst 1, 1, 0, 0, .int (1)) := by decide +kernel
theorem i_4_23 : aIns 4 23 = some (.isub, 1, 0, 0, .null) := by decide +kernel
theorem i_4_24 : aIns 4 24 = some (.iaload, 1, 0, 0, .null) := by decide +kernel
theorem i_4_25 : aIns 4 25 = some (.goto 5, 3, 0, 0, .null) := by decide +kernel
theorem i_4_28 : aIns 4 28 = some (.bipush (-2), 2, 0, 0, .int (-2)) := by decide +kernel
theorem i_4_30 : aIns 4 30 = some (.ireturn, 1, 0, 0, .null) := by decide +kernel
theorem i_5_0 : aIns 5 0 = some (.iconst 0, 1, 0, 0, .int (0)) := by decide +kernel
theorem i_5_1 : aIns 5 1 = some (.istore_n 1, 1, 0, 0, .null) := by decide +kernel
theorem i_5_2 : aIns 5 2 = some (.iconst 0, 1, 0, 0, .int (0)) := by decide +kernel
theorem i_5_3 : aIns 5 3 = some (.istore_n 2, 1, 0, 0, .null) := by decide +kernel
theorem i_5_4 : aIns 5 4 = some (.iload_n 2, 1, 0, 0, .null) := by decide +kernel
theorem i_5_5 : aIns 5 5 = some (.aload_n 0, 1, 0, 0, .null) := by decide +kernel
theorem i_5_6 : aIns 5 6 = some (.getfield 23, 3, 0, 2, .null) := by decide +kernel
theorem i_5_9 : aIns 5 9 = some (.if_icmp .ge 18, 3, 0, 0, .null) := by decide +kernel
theorem i_5_12 : aIns 5 12 = some (.iload_n 1, 1, 0, 0, .null) := by decide +kernel
theorem i_5_13 : aIns 5 13 = some (.aload_n 0, 1, 0, 0, .null) := by decide +kernel
theorem i_5_14 : aIns 5 14 = some (.getfield 9, 3, 0, 3, .null) := by decide +kernel
theorem i_5_17 : aIns 5 17 = some (.iload_n 2, 1, 0, 0, .null) := by decide +kernel
theorem i_5_18 : aIns 5 18 = some (.iaload, 1, 0, 0, .null) := by decide +kernel
theorem i_5_19 : aIns 5 19 = some (.iadd, 1, 0, 0, .null) := by decide +kernel
theorem i_5_20 : aIns 5 20 = some (.istore_n 1, 1, 0, 0, .null) := by decide +kernel
theorem i_5_21 : aIns 5 21 = some (.iinc 2 1, 3, 0, 0, .null) := by decide +kernel
theorem i_5_24 : aIns 5 24 = some (.goto (-20), 3, 0, 0, .null) := by decide +kernel
theorem i_5_27 : aIns 5 27 = some (.iload_n 1, 1, 0, 0, .null) := by decide +kernel
theorem i_5_28 : aIns 5 28 = some (.ireturn, 1, 0, 0, .null) := by decide +kernel
theorem i_6_0 : aIns 6 0 = some (.iconst (-1), 1, 0, 0, .int (-1)) := by decide +kernel
theorem i_6_1 : aIns 6 1 = some (.istore_n 1, 1, 0, 0, .null) := by decide +kernel
theorem i_6_2 : aIns 6 2 = some (.iconst 0, 1, 0, 0, .int (0)) := by decide +kernel
theorem i_6_3 : aIns 6 3 = some (.istore_n 2, 1, 0, 0, .null) := by decide +kernel
theorem i_6_4 : aIns 6 4 = some (.iload_n 2, 1, 0, 0, .null) := by decide +kernel
theorem i_6_5 : aIns 6 5 = some (.aload_n 0, 1, 0, 0, .null) := by decide +kernel
theorem i_6_6 : aIns 6 6 = some (.getfield 23, 3, 0, 2, .null) := by decide +kernel
theorem i_6_9 : aIns 6 9 = some (.if_icmp .ge 20, 3, 0, 0, .null) := by decide +kernel
theorem i_6_12 : aIns 6 12 = some (.iload_n 1, 1, 0, 0, .null) := by decide +kernel
theorem i_6_13 : aIns 6 13 = some (.aload_n 0, 1, 0, 0, .null) := by decide +kernel
theorem i_6_14 : aIns 6 14 = some (.getfield 9, 3, 0, 3, .null) := by decide +kernel
theorem i_6_17 : aIns 6 17 = some (.iload_n 2, 1, 0, 0, .null) := by decide +kernel
theorem i_6_18 : aIns 6 18 = some (.iaload, 1, 0, 0, .null) := by decide +kernel
theorem i_6_19 : aIns 6 19 = some (.invokestatic 36, 3, 1001, 0, .null) := by decide +kernel
theorem i_6_22 : aIns 6 22 = some (.istore_n 1, 1, 0, 0, .null) := by decide +kernel
theorem i_6_23 : aIns 6 23 = some (.iinc 2 1, 3, 0, 0, .null) := by decide +kernel
theorem i_6_26 : aIns 6 26 = some (.goto (-22), 3, 0, 0, .null) := by decide +kernel
theorem i_6_29 : aIns 6 29 = some (.iload_n 1, 1, 0, 0, .null) := by decide +kernel
theorem i_6_30 : aIns 6 30 = some (.ireturn, 1, 0, 0, .null) := by decide +kernel
theorem i_7_0 : aIns 7 0 = some (.aload_n 0, 1, 0, 0, .null) := by decide +kernel
theorem i_7_1 : aIns 7 1 = some (.invokespecial 3, 3, 1000, 0, .null) := by decide +kernel
theorem i_7_4 : aIns 7 4 = some (.aload_n 0, 1, 0, 0, .null) := by decide +kernel
theorem i_7_5 : aIns 7 5 = some (.bipush 20, 2, 0, 0, .int (20)) := by decide +kernel
theorem i_7_7 : aIns 7 7 = some (.anewarray 9, 3, 4, 0, .null) := by decide +kernel
theorem i_7_10 : aIns 7 10 = some (.putfield 11, 3, 1, 0, .null) := by decide +kernel
theorem i_7_13 : aIns 7 13 = some (.iconst 0, 1, 0, 0, .int (0)) := by decide +kernel
theorem i_7_14 : aIns 7 14 = some (.istore_n 1, 1, 0, 0, .null) := by decide +kernel
theorem i_7_15 : aIns 7 15 = some (.iload_n 1, 1, 0, 0, .null) := by decide +kernel
theorem i_7_16 : aIns 7 16 = some (.bipush 20, 2, 0, 0, .int (20)) := by decide +kernel
theorem i_7_18 : aIns 7 18 = some (.if_icmp .ge 22, 3, 0, 0, .null) := by decide +kernel
theorem i_7_21 : aIns 7 21 = some (.aload_n 0, 1, 0, 0, .null) := by decide +kernel
theorem i_7_22 : aIns 7 22 = some (.getfield 11, 3, 1, 0, .null) := by decide +kernel
theorem i_7_25 : aIns 7 25 = some (.iload_n 1, 1, 0, 0, .null) := by decide +kernel
theorem i_7_26 : aIns 7 26 = some (.new 9, 3, 7, 0, .null) := by decide +kernel
theorem i_7_29 : aIns 7 29 = some (.dup, 1, 0, 0, .null) := by decide +kernel
theorem i_7_30 : aIns 7 30 = some (.invokespecial 17, 3, 70, 0, .int 7) := by decide +kernel
theorem i_7_33 : aIns 7 33 = some (.aastore, 1, 0, 0, .null) := by decide +kernel
theorem i_7_34 : aIns 7 34 = some (.iinc 1 1, 3, 0, 0, .null) := by decide +kernel
theorem i_7_37 : aIns 7 37 = some (.goto (-22), 3, 0, 0, .null) := by decide +kernel
theorem i_7_40 : aIns 7 40 = some (.return_, 1, 0, 0, .null) := by decide +kernel
theorem i_8_0 : aIns 8 0 = some (.aload_n 0, 1, 0, 0, .null) := by decide +kernel
theorem i_8_1 : aIns 8 1 = some (.getfield 11, 3, 1, 0, .null) := by decide +kernel
theorem i_8_4 : aIns 8 4 = some (.aload_n 0, 1, 0, 0, .null) := by decide +kernel
theorem i_8_5 : aIns 8 5 = some (.getfield 18, 3, 1, 1, .null) := by decide +kernel
theorem i_8_8 : aIns 8 8 = some (.aaload, 1, 0, 0, .null) := by decide +kernel
theorem i_8_9 : aIns 8 9 = some (.aload_n 1, 1, 0, 0, .null) := by decide +kernel
theorem i_8_10 : aIns 8 10 = some (.invokevirtual 22, 3, 72, 1, .int 7) := by decide +kernel
theorem i_8_13 : aIns 8 13 = some (.aload_n 0, 1, 0, 0, .null) := by decide +kernel
theorem i_8_14 : aIns 8 14 = some (.aload_n 0, 1, 0, 0, .null) := by decide +kernel
theorem i_8_15 : aIns 8 15 = some (.getfield 18, 3, 1, 1, .null) := by decide +kernel
theorem i_8_18 : aIns 8 18 = some (.iconst 1, 1, 0, 0, .int (1)) := by decide +kernel
theorem i_8_19 : aIns 8 19 = some (.iadd, 1, 0, 0, .null) := by decide +kernel
theorem i_8_20 : aIns 8 20 = some (.bipush 20, 2, 0, 0, .int (20)) := by decide +kernel
theorem i_8_22 : aIns 8 22 = some (.irem, 1, 0, 0, .null) := by decide +kernel
theorem i_8_23 : aIns 8 23 = some (.putfield 18, 3, 1, 1, .null) := by decide +kernel
theorem i_8_26 : aIns 8 26 = some (.aload_n 0, 1, 0, 0, .null) := by decide +kernel
theorem i_8_27 : aIns 8 27 = some (.bipush 20, 2, 0, 0, .int (20)) := by decide +kernel
theorem i_8_29 : aIns 8 29 = some (.aload_n 0, 1, 0, 0, .null) := by decide +kernel
theorem i_8_30 : aIns 8 30 = some (.getfield 26, 3, 1, 2, .null) := by decide +kernel
theorem i_8_33 : aIns 8 33 = some (.iconst 1, 1, 0, 0, .int (1)) := by decide +kernel
theorem i_8_34 : aIns 8 34 = some (.iadd, 1, 0, 0, .null) := by decide +kernel
theorem i_8_35 : aIns 8 35 = some (.invokestatic 29, 3, 1002, 0, .null) := by decide +kernel
theorem i_8_38 : aIns 8 38 = some (.putfield 26, 3, 1, 2, .null) := by decide +kernel
theorem i_8_41 : aIns 8 41 = some (.return_, 1, 0, 0, .null) := by decide +kernel
theorem i_9_0 : aIns 9 0 = some (.aload_n 0, 1, 0, 0, .null) := by decide +kernel
theorem i_9_1 : aIns 9 1 = some (.aload_n 0, 1, 0, 0, .null) := by decide +kernel
theorem i_9_2 : aIns 9 2 = some (.getfield 18, 3, 1, 1, .null) := by decide +kernel
theorem i_9_5 : aIns 9 5 = some (.bipush 20, 2, 0, 0, .int (20)) := by decide +kernel
theorem i_9_7 : aIns 9 7 = some (.iadd, 1, 0, 0, .null) := by decide +kernel
theorem i_9_8 : aIns 9 8 = some (.iconst 1, 1, 0, 0, .int (1)) := by decide +kernel
theorem i_9_9 : aIns 9 9 = some (.isub, 1, 0, 0, .null) := by decide +kernel
theorem i_9_10 : aIns 9 10 = some (.bipush 20, 2, 0, 0, .int (20)) := by decide +kernel
theorem i_9_12 : aIns 9 12 = some (.irem, 1, 0, 0, .null) := by decide +kernel
theorem i_9_13 : aIns 9 13 = some (.putfield 18, 3, 1, 1, .null) := by decide +kernel
theorem i_9_16 : aIns 9 16 = some (.aload_n 0, 1, 0, 0, .null) := by decide +kernel
theorem i_9_17 : aIns 9 17 = some (.dup, 1, 0, 0, .null) := by decide +kernel
theorem i_9_18 : aIns 9 18 = some (.getfield 26, 3, 1, 2, .null) := by decide +kernel
theorem i_9_21 : aIns 9 21 = some (.iconst 1, 1, 0, 0, .int (1)) := by decide +kernel
theorem i_9_22 : aIns 9 22 = some (.isub, 1, 0, 0, .null) := by decide +kernel
theorem i_9_23 : aIns 9 23 = some (.putfield 26, 3, 1, 2, .null) := by decide +kernel
theorem i_9_26 : aIns 9 26 = some (.aload_n 1, 1, 0, 0, .null) := by decide +kernel
theorem i_9_27 : aIns 9 27 = some (.aload_n 0, 1, 0, 0, .null) := by decide +kernel
theorem i_9_28 : aIns 9 28 = some (.getfield 11, 3, 1, 0, .null) := by decide +kernel
theorem i_9_31 : aIns 9 31 = some (.aload_n 0, 1, 0, 0, .null) := by decide +kernel
theorem i_9_32 : aIns 9 32 = some (.getfield 18, 3, 1, 1, .null) := by decide +kernel
theorem i_9_35 : aIns 9 35 = some (.aaload, 1, 0, 0, .null) := by decide +kernel
theorem i_9_36 : aIns 9 36 = some (.invokevirtual 22, 3, 72, 1, .int 7) := by decide +kernel
theorem i_9_39 : aIns 9 39 = some (.return_, 1, 0, 0, .null) := by decide +kernel
theorem i_10_0 : aIns 10 0 = some (.aload_n 0, 1, 0, 0, .null) := by decide +kernel
theorem i_10_1 : aIns 10 1 = some (.iconst 0, 1, 0, 0, .int (0)) := by decide +kernel
theorem i_10_2 : aIns 10 2 = some (.putfield 26, 3, 1, 2, .null) := by decide +kernel
theorem i_10_5 : aIns 10 5 = some (.return_, 1, 0, 0, .null) := by decide +kernel
theorem i_11_0 : aIns 11 0 = some (.aload_n 0, 1, 0, 0, .null) := by decide +kernel
theorem i_11_1 : aIns 11 1 = some (.invokespecial 3, 3, 1000, 0, .null) := by decide +kernel
theorem i_11_4 : aIns 11 4 = some (.aload_n 0, 1, 0, 0, .null) := by decide +kernel
theorem i_11_5 : aIns 11 5 = some (.new 9, 3, 0, 0, .null) := by decide +kernel
theorem i_11_8 : aIns 11 8 = some (.dup, 1, 0, 0, .null) := by decide +kernel
theorem i_11_9 : aIns 11 9 = some (.invokespecial 11, 3, 0, 0, .int 0) := by decide +kernel
theorem i_11_12 : aIns 11 12 = some (.putfield 12, 3, 2, 2, .null) := by decide +kernel
theorem i_11_15 : aIns 11 15 = some (.aload_n 0, 1, 0, 0, .null) := by decide +kernel
theorem i_11_16 : aIns 11 16 = some (.bipush 8, 2, 0, 0, .int (8)) := by decide +kernel
theorem i_11_18 : aIns 11 18 = some (.newarray .int, 2, 0, 0, .null) := by decide +kernel
theorem i_11_20 : aIns 11 20 = some (.putfield 18, 3, 2, 3, .null) := by decide +kernel
theorem i_11_23 : aIns 11 23 = some (.aload_n 0, 1, 0, 0, .null) := by decide +kernel
theorem i_11_24 : aIns 11 24 = some (.bipush 8, 2, 0, 0, .int (8)) := by decide +kernel
theorem i_11_26 : aIns 11 26 = some (.newarray .int, 2, 0, 0, .null) := by decide +kernel
theorem i_11_28 : aIns 11 28 = some (.putfield 22, 3, 2, 4, .null) := by decide +kernel
theorem i_11_31 : aIns 11 31 = some (.aload_n 0, 1, 0, 0, .null) := by decide +kernel
theorem i_11_32 : aIns 11 32 = some (.bipush 6, 2, 0, 0, .int (6)) := by decide +kernel
theorem i_11_34 : aIns 11 34 = some (.newarray .int, 2, 0, 0, .null) := by decide +kernel
theorem i_11_36 : aIns 11 36 = some (.putfield 25, 3, 2, 5, .null) := by decide +kernel
theorem i_11_39 : aIns 11 39 = some (.aload_n 0, 1, 0, 0, .null) := by decide +kernel
theorem i_11_40 : aIns 11 40 = some (.bipush 30, 2, 0, 0, .int (30)) := by decide +kernel
theorem i_11_42 : aIns 11 42 = some (.newarray .int, 2, 0, 0, .null) := by decide +kernel
theorem i_11_44 : aIns 11 44 = some (.putfield 28, 3, 2, 6, .null) := by decide +kernel
theorem i_11_47 : aIns 11 47 = some (.aload_n 0, 1, 0, 0, .null) := by decide +kernel
theorem i_11_48 : aIns 11 48 = some (.bipush 8, 2, 0, 0, .int (8)) := by decide +kernel
theorem i_11_50 : aIns 11 50 = some (.newarray .int, 2, 0, 0, .null) := by decide +kernel
theorem i_11_52 : aIns 11 52 = some (.putfield 31, 3, 2, 7, .null) := by decide +kernel
theorem i_11_55 : aIns 11 55 = some (.aload_n 0, 1, 0, 0, .null) := by decide +kernel
theorem i_11_56 : aIns 11 56 = some (.bipush 7, 2, 0, 0, .int (7)) := by decide +kernel
theorem i_11_58 : aIns 11 58 = some (.newarray .int, 2, 0, 0, .null) := by decide +kernel
theorem i_11_60 : aIns 11 60 = some (.putfield 34, 3, 2, 8, .null) := by decide +kernel
theorem i_11_63 : aIns 11 63 = some (.aload_n 0, 1, 0, 0, .null) := by decide +kernel
theorem i_11_64 : aIns 11 64 = some (.bipush 7, 2, 0, 0, .int (7)) := by decide +kernel
theorem i_11_66 : aIns 11 66 = some (.newarray .int, 2, 0, 0, .null) := by decide +kernel
theorem i_11_68 : aIns 11 68 = some (.putfield 37, 3, 2, 9, .null) := by decide +kernel
theorem i_11_71 : aIns 11 71 = some (.aload_n 0, 1, 0, 0, .null) := by decide +kernel
theorem i_11_72 : aIns 11 72 = some (.new 40, 3, 7, 0, .null) := by decide +kernel
theorem i_11_75 : aIns 11 75 = some (.dup, 1, 0, 0, .null) := by decide +kernel
theorem i_11_76 : aIns 11 76 = some (.invokespecial 42, 3, 70, 0, .int 7) := by decide +kernel
theorem i_11_79 : aIns 11 79 = some (.putfield 43, 3, 2, 10, .null) := by decide +kernel
theorem i_11_82 : aIns 11 82 = some (.aload_n 0, 1, 0, 0, .null) := by decide +kernel
theorem i_11_83 : aIns 11 83 = some (.aload_n 1, 1, 0, 0, .null) := by decide +kernel
theorem i_11_84 : aIns 11 84 = some (.putfield 47, 3, 2, 0, .null) := by decide +kernel
theorem i_11_87 : aIns 11 87 = some (.aload_n 0, 1, 0, 0, .null) := by decide +kernel
theorem i_11_88 : aIns 11 88 = some (.aload_n 2, 1, 0, 0, .null) := by decide +kernel
theorem i_11_89 : aIns 11 89 = some (.putfield 51, 3, 2, 1, .null) := by decide +kernel
theorem i_11_92 : aIns 11 92 = some (.return_, 1, 0, 0, .null) := by decide +kernel
theorem i_41_0 : aIns 41 0 = some (.iconst 0, 1, 0, 0, .int (0)) := by decide +kernel
theorem i_41_1 : aIns 41 1 = some (.istore_n 2, 1, 0, 0, .null) := by decide +kernel
theorem i_41_2 : aIns 41 2 = some (.iload_n 2, 1, 0, 0, .null) := by decide +kernel
theorem i_41_3 : aIns 41 3 = some (.aload_n 0, 1, 0, 0, .null) := by decide +kernel
theorem i_41_4 : aIns 41 4 = some (.getfield 28, 3, 3, 6, .null) := by decide +kernel
theorem i_41_7 : aIns 41 7 = some (.if_icmp .ge 77, 3, 0, 0, .null) := by decide +kernel
theorem i_41_10 : aIns 41 10 = some (.aload_n 0, 1, 0, 0, .null) := by decide +kernel
theorem i_41_11 : aIns 41 11 = some (.getfield 18, 3, 3, 2, .null) := by decide +kernel
theorem i_41_14 : aIns 41 14 = some (.iload_n 2, 1, 0, 0, .null) := by decide +kernel
theorem i_41_15 : aIns 41 15 = some (.iaload, 1, 0, 0, .null) := by decide +kernel
theorem i_41_16 : aIns 41 16 = some (.aload_n 0, 1, 0, 0, .null) := by decide +kernel
theorem i_41_17 : aIns 41 17 = some (.getfield 21, 3, 3, 3, .null) := by decide +kernel
theorem i_41_20 : aIns 41 20 = some (.iload_n 2, 1, 0, 0, .null) := by decide +kernel
theorem i_41_21 : aIns 41 21 = some (.iaload, 1, 0, 0, .null) := by decide +kernel
theorem i_41_22 : aIns 41 22 = some (.if_icmp .eq 25, 3, 0, 0, .null) := by decide +kernel
theorem i_41_25 : aIns 41 25 = some (.aload_n 0, 1, 0, 0, .null) := by decide +kernel
theorem i_41_26 : aIns 41 26 = some (.aload_n 0, 1, 0, 0, .null) := by decide +kernel
theorem i_41_27 : aIns 41 27 = some (.getfield 18, 3, 3, 2, .null) := by decide +kernel
theorem i_41_30 : aIns 41 30 = some (.iload_n 2, 1, 0, 0, .null) := by decide +kernel
theorem i_41_31 : aIns 41 31 = some (.iaload, 1, 0, 0, .null) := by decide +kernel
theorem i_41_32 : aIns 41 32 = some (.aload_n 0, 1, 0, 0, .null) := by decide +kernel
theorem i_41_33 : aIns 41 33 = some (.getfield 21, 3, 3, 3, .null) := by decide +kernel
theorem i_41_36 : aIns 41 36 = some (.iload_n 2, 1, 0, 0, .null) := by decide +kernel
theorem i_41_37 : aIns 41 37 = some (.iaload, 1, 0, 0, .null) := by decide +kernel
theorem i_41_38 : aIns 41 38 = some (.aload_n 1, 1, 0, 0, .null) := by decide +kernel
theorem i_41_39 : aIns 41 39 = some (.invokevirtual 32, 3, 42, 3, .int 3) := by decide +kernel
theorem i_41_42 : aIns 41 42 = some (.lconst 0, 1, 0, 0, .long 0) := by decide +kernel
theorem i_41_43 : aIns 41 43 = some (.lcmp, 1, 0, 0, .null) := by decide +kernel
theorem i_41_44 : aIns 41 44 = some (.ifCond .eq 34, 3, 0, 0, .null) := by decide +kernel
theorem i_41_47 : aIns 41 47 = some (.aload_n 0, 1, 0, 0, .null) := by decide +kernel
theorem i_41_48 : aIns 41 48 = some (.aload_n 0, 1, 0, 0, .null) := by decide +kernel
theorem i_41_49 : aIns 41 49 = some (.getfield 15, 3, 3, 1, .null) := by decide +kernel
theorem i_41_52 : aIns 41 52 = some (.iload_n 2, 1, 0, 0, .null) := by decide +kernel
theorem i_41_53 : aIns 41 53 = some (.iaload, 1, 0, 0, .null) := by decide +kernel
theorem i_41_54 : aIns 41 54 = some (.aload_n 0, 1, 0, 0, .null) := by decide +kernel
theorem i_41_55 : aIns 41 55 = some (.getfield 18, 3, 3, 2, .null) := by decide +kernel
theorem i_41_58 : aIns 41 58 = some (.iload_n 2, 1, 0, 0, .null) := by decide +kernel
theorem i_41_59 : aIns 41 59 = some (.iaload, 1, 0, 0, .null) := by decide +kernel
theorem i_41_60 : aIns 41 60 = some (.aload_n 1, 1, 0, 0, .null) := by decide +kernel
theorem i_41_61 : aIns 41 61 = some (.invokevirtual 32, 3, 42, 3, .int 3) := by decide +kernel
theorem i_41_64 : aIns 41 64 = some (.lstore_n 3, 1, 0, 0, .null) := by decide +kernel
theorem i_41_65 : aIns 41 65 = some (.lconst 1, 1, 0, 0, .long 1) := by decide +kernel
theorem i_41_66 : aIns 41 66 = some (.ldc2_w 36, 3, 0, 0, .long (9999)) := by decide +kernel
theorem i_41_69 : aIns 41 69 = some (.lload_n 3, 1, 0, 0, .null) := by decide +kernel
theorem i_41_70 : aIns 41 70 = some (.invokestatic 38, 3, 1004, 0, .null) := by decide +kernel
theorem i_41_73 : aIns 41 73 = some (.invokestatic 44, 3, 1003, 0, .null) := by decide +kernel
theorem i_41_76 : aIns 41 76 = some (.l2i, 1, 0, 0, .null) := by decide +kernel
theorem i_41_77 : aIns 41 77 = some (.ireturn, 1, 0, 0, .null) := by decide +kernel
theorem i_41_78 : aIns 41 78 = some (.iinc 2 1, 3, 0, 0, .null) := by decide +kernel
theorem i_41_81 : aIns 41 81 = some (.goto (-79), 3, 0, 0, .null) := by decide +kernel
theorem i_41_84 : aIns 41 84 = some (.iconst 1, 1, 0, 0, .int (1)) := by decide +kernel
theorem i_41_85 : aIns 41 85 = some (.ireturn, 1, 0, 0, .null) := by decide +kernel
theorem i_42_0 : aIns 42 0 = some (.iconst 0, 1, 0, 0, .int (0)) := by decide +kernel
theorem i_42_1 : aIns 42 1 = some (.istore 4, 2, 0, 0, .null) := by decide +kernel
theorem i_42_3 : aIns 42 3 = some (.iload_n 1, 1, 0, 0, .null) := by decide +kernel
theorem i_42_4 : aIns 42 4 = some (.istore 5, 2, 0, 0, .null) := by decide +kernel
theorem i_42_6 : aIns 42 6 = some (.iload 5, 2, 0, 0, .null) := by decide +kernel
theorem i_42_8 : aIns 42 8 = some (.iload_n 2, 1, 0, 0, .null) := by decide +kernel
theorem i_42_9 : aIns 42 9 = some (.if_icmp .ge 143, 3, 0, 0, .null) := by decide +kernel
theorem i_42_12 : aIns 42 12 = some (.aload_n 0, 1, 0, 0, .null) := by decide +kernel
theorem i_42_13 : aIns 42 13 = some (.getfield 9, 3, 3, 0, .null) := by decide +kernel
theorem i_42_16 : aIns 42 16 = some (.iload 5, 2, 0, 0, .null) := by decide +kernel
theorem i_42_18 : aIns 42 18 = some (.iaload, 1, 0, 0, .null) := by decide +kernel
theorem i_42_19 : aIns 42 19 = some (.istore 6, 2, 0, 0, .null) := by decide +kernel
theorem i_42_21 : aIns 42 21 = some (.iconst (-1), 1, 0, 0, .int (-1)) := by decide +kernel
theorem i_42_22 : aIns 42 22 = some (.iload 6, 2, 0, 0, .null) := by decide +kernel
theorem i_42_24 : aIns 42 24 = some (.isub, 1, 0, 0, .null) := by decide +kernel
theorem i_42_25 : aIns 42 25 = some (.istore 7, 2, 0, 0, .null) := by decide +kernel
theorem i_42_27 : aIns 42 27 = some (.iload 7, 2, 0, 0, .null) := by decide +kernel
theorem i_42_29 : aIns 42 29 = some (.bipush 8, 2, 0, 0, .int (8)) := by decide +kernel
theorem i_42_31 : aIns 42 31 = some (.if_icmp .ge 41, 3, 0, 0, .null) := by decide +kernel
theorem i_42_34 : aIns 42 34 = some (.iload 4, 2, 0, 0, .null) := by decide +kernel
theorem i_42_36 : aIns 42 36 = some (.aload_n 0, 1, 0, 0, .null) := by decide +kernel
theorem i_42_37 : aIns 42 37 = some (.getfield 24, 3, 3, 4, .null) := by decide +kernel
theorem i_42_40 : aIns 42 40 = some (.arraylength, 1, 0, 0, .null) := by decide +kernel
theorem i_42_41 : aIns 42 41 = some (.if_icmp .ge 105, 3, 0, 0, .null) := by decide +kernel
theorem i_42_44 : aIns 42 44 = some (.aload_n 0, 1, 0, 0, .null) := by decide +kernel
theorem i_42_45 : aIns 42 45 = some (.getfield 24, 3, 3, 4, .null) := by decide +kernel
theorem i_42_48 : aIns 42 48 = some (.iload 4, 2, 0, 0, .null) := by decide +kernel
theorem i_42_50 : aIns 42 50 = some (.iload 7, 2, 0, 0, .null) := by decide +kernel
theorem i_42_52 : aIns 42 52 = some (.ifCond .ge 9, 3, 0, 0, .null) := by decide +kernel
theorem i_42_55 : aIns 42 55 = some (.iload 6, 2, 0, 0, .null) := by decide +kernel
theorem i_42_57 : aIns 42 57 = some (.i2l, 1, 0, 0, .null) := by decide +kernel
theorem i_42_58 : aIns 42 58 = some (.goto 7, 3, 0, 0, .null) := by decide +kernel
theorem i_42_61 : aIns 42 61 = some (.aload_n 3, 1, 0, 0, .null) := by decide +kernel
theorem i_42_62 : aIns 42 62 = some (.iload 7, 2, 0, 0, .null) := by decide +kernel
theorem i_42_64 : aIns 42 64 = some (.laload, 1, 0, 0, .null) := by decide +kernel
theorem i_42_65 : aIns 42 65 = some (.lastore, 1, 0, 0, .null) := by decide +kernel
theorem i_42_66 : aIns 42 66 = some (.iinc 4 1, 3, 0, 0, .null) := by decide +kernel
theorem i_42_69 : aIns 42 69 = some (.goto 77, 3, 0, 0, .null) := by decide +kernel
theorem i_42_72 : aIns 42 72 = some (.iload 7, 2, 0, 0, .null) := by decide +kernel
theorem i_42_74 : aIns 42 74 = some (.bipush 19, 2, 0, 0, .int (19)) := by decide +kernel
theorem i_42_76 : aIns 42 76 = some (.if_icmp .ne 31, 3, 0, 0, .null) := by decide +kernel
theorem i_42_79 : aIns 42 79 = some (.iload 4, 2, 0, 0, .null) := by decide +kernel
theorem i_42_81 : aIns 42 81 = some (.ifCond .le 65, 3, 0, 0, .null) := by decide +kernel
theorem i_42_84 : aIns 42 84 = some (.aload_n 0, 1, 0, 0, .null) := by decide +kernel
theorem i_42_85 : aIns 42 85 = some (.getfield 24, 3, 3, 4, .null) := by decide +kernel
theorem i_42_88 : aIns 42 88 = some (.iload 4, 2, 0, 0, .null) := by decide +kernel
theorem i_42_90 : aIns 42 90 = some (.iconst 1, 1, 0, 0, .int (1)) := by decide +kernel
theorem i_42_91 : aIns 42 91 = some (.isub, 1, 0, 0, .null) := by decide +kernel
theorem i_42_92 : aIns 42 92 = some (.lconst 1, 1, 0, 0, .long 1) := by decide +kernel
theorem i_42_93 : aIns 42 93 = some (.aload_n 0, 1, 0, 0, .null) := by decide +kernel
theorem i_42_94 : aIns 42 94 = some (.getfield 24, 3, 3, 4, .null) := by decide +kernel
theorem i_42_97 : aIns 42 97 = some (.iload 4, 2, 0, 0, .null) := by decide +kernel
theorem i_42_99 : aIns 42 99 = some (.iconst 1, 1, 0, 0, .int (1)) := by decide +kernel
theorem i_42_100 : aIns 42 100 = some (.isub, 1, 0, 0, .null) := by decide +kernel
theorem i_42_101 : aIns 42 101 = some (.laload, 1, 0, 0, .null) := by decide +kernel
theorem i_42_102 : aIns 42 102 = some (.lsub, 1, 0, 0, .null) := by decide +kernel
theorem i_42_103 : aIns 42 103 = some (.lastore, 1, 0, 0, .null) := by decide +kernel
theorem i_42_104 : aIns 42 104 = some (.goto 42, 3, 0, 0, .null) := by decide +kernel
theorem i_42_107 : aIns 42 107 = some (.iload 4, 2, 0, 0, .null) := by decide +kernel
theorem i_42_109 : aIns 42 109 = some (.iconst 1, 1, 0, 0, .int (1)) := by decide +kernel
theorem i_42_110 : aIns 42 110 = some (.if_icmp .le 36, 3, 0, 0, .null) := by decide +kernel
theorem i_42_113 : aIns 42 113 = some (.iinc 4 (-1), 3, 0, 0, .null) := by decide +kernel
theorem i_42_116 : aIns 42 116 = some (.aload_n 0, 1, 0, 0, .null) := by decide +kernel
theorem i_42_117 : aIns 42 117 = some (.getfield 24, 3, 3, 4, .null) := by decide +kernel
theorem i_42_120 : aIns 42 120 = some (.iload 4, 2, 0, 0, .null) := by decide +kernel
theorem i_42_122 : aIns 42 122 = some (.iconst 1, 1, 0, 0, .int (1)) := by decide +kernel
theorem i_42_123 : aIns 42 123 = some (.isub, 1, 0, 0, .null) := by decide +kernel
theorem i_42_124 : aIns 42 124 = some (.iload 7, 2, 0, 0, .null) := by decide +kernel
theorem i_42_126 : aIns 42 126 = some (.aload_n 0, 1, 0, 0, .null) := by decide +kernel
theorem i_42_127 : aIns 42 127 = some (.getfield 24, 3, 3, 4, .null) := by decide +kernel
theorem i_42_130 : aIns 42 130 = some (.iload 4, 2, 0, 0, .null) := by decide +kernel
theorem i_42_132 : aIns 42 132 = some (.iconst 1, 1, 0, 0, .int (1)) := by decide +kernel
theorem i_42_133 : aIns 42 133 = some (.isub, 1, 0, 0, .null) := by decide +kernel
theorem i_42_134 : aIns 42 134 = some (.laload, 1, 0, 0, .null) := by decide +kernel
theorem i_42_135 : aIns 42 135 = some (.aload_n 0, 1, 0, 0, .null) := by decide +kernel
theorem i_42_136 : aIns 42 136 = some (.getfield 24, 3, 3, 4, .null) := by decide +kernel
theorem i_42_139 : aIns 42 139 = some (.iload 4, 2, 0, 0, .null) := by decide +kernel
theorem i_42_141 : aIns 42 141 = some (.laload, 1, 0, 0, .null) := by decide +kernel
theorem i_42_142 : aIns 42 142 = some (.invokestatic 47, 3, 43, 3, .null) := by decide +kernel
theorem i_42_145 : aIns 42 145 = some (.lastore, 1, 0, 0, .null) := by decide +kernel
theorem i_42_146 : aIns 42 146 = some (.iinc 5 1, 3, 0, 0, .null) := by decide +kernel
theorem i_42_149 : aIns 42 149 = some (.goto (-143), 3, 0, 0, .null) := by decide +kernel
theorem i_42_152 : aIns 42 152 = some (.aload_n 0, 1, 0, 0, .null) := by decide +kernel
theorem i_42_153 : aIns 42 153 = some (.getfield 24, 3, 3, 4, .null) := by decide +kernel
theorem i_42_156 : aIns 42 156 = some (.iconst 0, 1, 0, 0, .int (0)) := by decide +kernel
theorem i_42_157 : aIns 42 157 = some (.laload, 1, 0, 0, .null) := by decide +kernel
theorem i_42_158 : aIns 42 158 = some (.lreturn, 1, 0, 0, .null) := by decide +kernel
theorem i_43_0 : aIns 43 0 = some (.iload_n 0, 1, 0, 0, .null) := by decide +kernel
theorem i_43_1 : aIns 43 1 = some (.tableswitch 195 17 35 #[191, 195, 195, 195, 195, 195, 195, 195, 195, 91, 95, 99, 103, 117, 131, 143, 155, 167, 179], 91, 0, 0, .null) := by decide +kernel
theorem i_43_92 : aIns 43 92 = some (.lload_n 1, 1, 0, 0, .null) := by decide +kernel
theorem i_43_93 : aIns 43 93 = some (.lload_n 3, 1, 0, 0, .null) := by decide +kernel
theorem i_43_94 : aIns 43 94 = some (.ladd, 1, 0, 0, .null) := by decide +kernel
theorem i_43_95 : aIns 43 95 = some (.lreturn, 1, 0, 0, .null) := by decide +kernel
theorem i_43_96 : aIns 43 96 = some (.lload_n 1, 1, 0, 0, .null) := by decide +kernel
theorem i_43_97 : aIns 43 97 = some (.lload_n 3, 1, 0, 0, .null) := by decide +kernel
theorem i_43_98 : aIns 43 98 = some (.lsub, 1, 0, 0, .null) := by decide +kernel
theorem i_43_99 : aIns 43 99 = some (.lreturn, 1, 0, 0, .null) := by decide +kernel
theorem i_43_100 : aIns 43 100 = some (.lload_n 1, 1, 0, 0, .null) := by decide +kernel
theorem i_43_101 : aIns 43 101 = some (.lload_n 3, 1, 0, 0, .null) := by decide +kernel
theorem i_43_102 : aIns 43 102 = some (.lmul, 1, 0, 0, .null) := by decide +kernel
theorem i_43_103 : aIns 43 103 = some (.lreturn, 1, 0, 0, .null) := by decide +kernel
theorem i_43_104 : aIns 43 104 = some (.lload_n 3, 1, 0, 0, .null) := by decide +kernel
theorem i_43_105 : aIns 43 105 = some (.lconst 0, 1, 0, 0, .long 0) := by decide +kernel
theorem i_43_106 : aIns 43 106 = some (.lcmp, 1, 0, 0, .null) := by decide +kernel
theorem i_43_107 : aIns 43 107 = some (.ifCond .ne 7, 3, 0, 0, .null) := by decide +kernel
theorem i_43_110 : aIns 43 110 = some (.lconst 0, 1, 0, 0, .long 0) := by decide +kernel
theorem i_43_111 : aIns 43 111 = some (.goto 6, 3, 0, 0, .null) := by decide +kernel
theorem i_43_114 : aIns 43 114 = some (.lload_n 1, 1, 0, 0, .null) := by decide +kernel
theorem i_43_115 : aIns 43 115 = some (.lload_n 3, 1, 0, 0, .null) := by decide +kernel
theorem i_43_116 : aIns 43 116 = some (.ldiv, 1, 0, 0, .null) := by decide +kernel
theorem i_43_117 : aIns 43 117 = some (.lreturn, 1, 0, 0, .null) := by decide +kernel
theorem i_43_118 : aIns 43 118 = some (.lload_n 3, 1, 0, 0, .null) := by decide +kernel
theorem i_43_119 : aIns 43 119 = some (.lconst 0, 1, 0, 0, .long 0) := by decide +kernel
theorem i_43_120 : aIns 43 120 = some (.lcmp, 1, 0, 0, .null) := by decide +kernel
theorem i_43_121 : aIns 43 121 = some (.ifCond .ne 7, 3, 0, 0, .null) := by decide +kernel
theorem i_43_124 : aIns 43 124 = some (.lconst 0, 1, 0, 0, .long 0) := by decide +kernel
theorem i_43_125 : aIns 43 125 = some (.goto 6, 3, 0, 0, .null) := by decide +kernel
theorem i_43_128 : aIns 43 128 = some (.lload_n 1, 1, 0, 0, .null) := by decide +kernel
theorem i_43_129 : aIns 43 129 = some (.lload_n 3, 1, 0, 0, .null) := by decide +kernel
theorem i_43_130 : aIns 43 130 = some (.lrem, 1, 0, 0, .null) := by decide +kernel
theorem i_43_131 : aIns 43 131 = some (.lreturn, 1, 0, 0, .null) := by decide +kernel
theorem i_43_132 : aIns 43 132 = some (.lload_n 1, 1, 0, 0, .null) := by decide +kernel
theorem i_43_133 : aIns 43 133 = some (.lload_n 3, 1, 0, 0, .null) := by decide +kernel
theorem i_43_134 : aIns 43 134 = some (.lcmp, 1, 0, 0, .null) := by decide +kernel
theorem i_43_135 : aIns 43 135 = some (.ifCond .ge 7, 3, 0, 0, .null) := by decide +kernel
theorem i_43_138 : aIns 43 138 = some (.lconst 1, 1, 0, 0, .long 1) := by decide +kernel
theorem i_43_139 : aIns 43 139 = some (.goto 4, 3, 0, 0, .null) := by decide +kernel
theorem i_43_142 : aIns 43 142 = some (.lconst 0, 1, 0, 0, .long 0) := by decide +kernel
theorem i_43_143 : aIns 43 143 = some (.lreturn, 1, 0, 0, .null) := by decide +kernel
theorem i_43_144 : aIns 43 144 = some (.lload_n 1, 1, 0, 0, .null) := by decide +kernel
theorem i_43_145 : aIns 43 145 = some (.lload_n 3, 1, 0, 0, .null) := by decide +kernel
theorem i_43_146 : aIns 43 146 = some (.lcmp, 1, 0, 0, .null) := by decide +kernel
theorem i_43_147 : aIns 43 147 = some (.ifCond .gt 7, 3, 0, 0, .null) := by decide +kernel
theorem i_43_150 : aIns 43 150 = some (.lconst 1, 1, 0, 0, .long 1) := by decide +kernel
theorem i_43_151 : aIns 43 151 = some (.goto 4, 3, 0, 0, .null) := by decide +kernel
theorem i_43_154 : aIns 43 154 = some (.lconst 0, 1, 0, 0, .long 0) := by decide +kernel
theorem i_43_155 : aIns 43 155 = some (.lreturn, 1, 0, 0, .null) := by decide +kernel
theorem i_43_156 : aIns 43 156 = some (.lload_n 1, 1, 0, 0, .null) := by decide +kernel
theorem i_43_157 : aIns 43 157 = some (.lload_n 3, 1, 0, 0, .null) := by decide +kernel
theorem i_43_158 : aIns 43 158 = some (.lcmp, 1, 0, 0, .null) := by decide +kernel
theorem i_43_159 : aIns 43 159 = some (.ifCond .ne 7, 3, 0, 0, .null) := by decide +kernel
theorem i_43_162 : aIns 43 162 = some (.lconst 1, 1, 0, 0, .long 1) := by decide +kernel
theorem i_43_163 : aIns 43 163 = some (.goto 4, 3, 0, 0, .null) := by decide +kernel
theorem i_43_166 : aIns 43 166 = some (.lconst 0, 1, 0, 0, .long 0) := by decide +kernel
theorem i_43_167 : aIns 43 167 = some (.lreturn, 1, 0, 0, .null) := by decide +kernel
theorem i_43_168 : aIns 43 168 = some (.lload_n 1, 1, 0, 0, .null) := by decide +kernel
theorem i_43_169 : aIns 43 169 = some (.lload_n 3, 1, 0, 0, .null) := by decide +kernel
theorem i_43_170 : aIns 43 170 = some (.lcmp, 1, 0, 0, .null) := by decide +kernel
theorem i_43_171 : aIns 43 171 = some (.ifCond .lt 7, 3, 0, 0, .null) := by decide +kernel
theorem i_43_174 : aIns 43 174 = some (.lconst 1, 1, 0, 0, .long 1) := by decide +kernel
theorem i_43_175 : aIns 43 175 = some (.goto 4, 3, 0, 0, .null) := by decide +kernel
theorem i_43_178 : aIns 43 178 = some (.lconst 0, 1, 0, 0, .long 0) := by decide +kernel
theorem i_43_179 : aIns 43 179 = some (.lreturn, 1, 0, 0, .null) := by decide +kernel
theorem i_43_180 : aIns 43 180 = some (.lload_n 1, 1, 0, 0, .null) := by decide +kernel
theorem i_43_181 : aIns 43 181 = some (.lload_n 3, 1, 0, 0, .null) := by decide +kernel
theorem i_43_182 : aIns 43 182 = some (.lcmp, 1, 0, 0, .null) := by decide +kernel
theorem i_43_183 : aIns 43 183 = some (.ifCond .le 7, 3, 0, 0, .null) := by decide +kernel
theorem i_43_186 : aIns 43 186 = some (.lconst 1, 1, 0, 0, .long 1) := by decide +kernel
theorem i_43_187 : aIns 43 187 = some (.goto 4, 3, 0, 0, .null) := by decide +kernel
theorem i_43_190 : aIns 43 190 = some (.lconst 0, 1, 0, 0, .long 0) := by decide +kernel
theorem i_43_191 : aIns 43 191 = some (.lreturn, 1, 0, 0, .null) := by decide +kernel
theorem i_43_192 : aIns 43 192 = some (.lload_n 1, 1, 0, 0, .null) := by decide +kernel
theorem i_43_193 : aIns 43 193 = some (.lload_n 3, 1, 0, 0, .null) := by decide +kernel
theorem i_43_194 : aIns 43 194 = some (.lor, 1, 0, 0, .null) := by decide +kernel
theorem i_43_195 : aIns 43 195 = some (.lreturn, 1, 0, 0, .null) := by decide +kernel
theorem i_43_196 : aIns 43 196 = some (.lload_n 1, 1, 0, 0, .null) := by decide +kernel
theorem i_43_197 : aIns 43 197 = some (.lload_n 3, 1, 0, 0, .null) := by decide +kernel
theorem i_43_198 : aIns 43 198 = some (.land, 1, 0, 0, .null) := by decide +kernel
theorem i_43_199 : aIns 43 199 = some (.lreturn, 1, 0, 0, .null) := by decide +kernel
theorem i_57_0 : aIns 57 0 = some (.iconst 0, 1, 0, 0, .int (0)) := by decide +kernel
theorem i_57_1 : aIns 57 1 = some (.istore_n 2, 1, 0, 0, .null) := by decide +kernel
theorem i_57_2 : aIns 57 2 = some (.iconst 0, 1, 0, 0, .int (0)) := by decide +kernel
theorem i_57_3 : aIns 57 3 = some (.istore_n 3, 1, 0, 0, .null) := by decide +kernel
theorem i_57_4 : aIns 57 4 = some (.iload_n 3, 1, 0, 0, .null) := by decide +kernel
theorem i_57_5 : aIns 57 5 = some (.aload_n 0, 1, 0, 0, .null) := by decide +kernel
theorem i_57_6 : aIns 57 6 = some (.getfield 55, 3, 5, 11, .null) := by decide +kernel
theorem i_57_9 : aIns 57 9 = some (.if_icmp .ge 35, 3, 0, 0, .null) := by decide +kernel
theorem i_57_12 : aIns 57 12 = some (.iload_n 1, 1, 0, 0, .null) := by decide +kernel
theorem i_57_13 : aIns 57 13 = some (.aload_n 0, 1, 0, 0, .null) := by decide +kernel
theorem i_57_14 : aIns 57 14 = some (.getfield 27, 3, 5, 12, .null) := by decide +kernel
theorem i_57_17 : aIns 57 17 = some (.iload_n 3, 1, 0, 0, .null) := by decide +kernel
theorem i_57_18 : aIns 57 18 = some (.iaload, 1, 0, 0, .null) := by decide +kernel
theorem i_57_19 : aIns 57 19 = some (.aload_n 0, 1, 0, 0, .null) := by decide +kernel
theorem i_57_20 : aIns 57 20 = some (.getfield 30, 3, 5, 13, .null) := by decide +kernel
theorem i_57_23 : aIns 57 23 = some (.iload_n 3, 1, 0, 0, .null) := by decide +kernel
theorem i_57_24 : aIns 57 24 = some (.iaload, 1, 0, 0, .null) := by decide +kernel
theorem i_57_25 : aIns 57 25 = some (.invokestatic 58, 3, 138, 3, .null) := by decide +kernel
theorem i_57_28 : aIns 57 28 = some (.ifCond .eq 10, 3, 0, 0, .null) := by decide +kernel
theorem i_57_31 : aIns 57 31 = some (.aload_n 0, 1, 0, 0, .null) := by decide +kernel
theorem i_57_32 : aIns 57 32 = some (.getfield 33, 3, 5, 14, .null) := by decide +kernel
theorem i_57_35 : aIns 57 35 = some (.iload_n 3, 1, 0, 0, .null) := by decide +kernel
theorem i_57_36 : aIns 57 36 = some (.iaload, 1, 0, 0, .null) := by decide +kernel
theorem i_57_37 : aIns 57 37 = some (.istore_n 2, 1, 0, 0, .null) := by decide +kernel
theorem i_57_38 : aIns 57 38 = some (.iinc 3 1, 3, 0, 0, .null) := by decide +kernel
theorem i_57_41 : aIns 57 41 = some (.goto (-37), 3, 0, 0, .null) := by decide +kernel
theorem i_57_44 : aIns 57 44 = some (.iload_n 2, 1, 0, 0, .null) := by decide +kernel
theorem i_57_45 : aIns 57 45 = some (.ireturn, 1, 0, 0, .null) := by decide +kernel
theorem i_70_0 : aIns 70 0 = some (.aload_n 0, 1, 0, 0, .null) := by decide +kernel
theorem i_70_1 : aIns 70 1 = some (.invokespecial 3, 3, 1000, 0, .null) := by decide +kernel
theorem i_70_4 : aIns 70 4 = some (.aload_n 0, 1, 0, 0, .null) := by decide +kernel
theorem i_70_5 : aIns 70 5 = some (.bipush 8, 2, 0, 0, .int (8)) := by decide +kernel
theorem i_70_7 : aIns 70 7 = some (.newarray .int, 2, 0, 0, .null) := by decide +kernel
theorem i_70_9 : aIns 70 9 = some (.putfield 9, 3, 7, 0, .null) := by decide +kernel
theorem i_70_12 : aIns 70 12 = some (.aload_n 0, 1, 0, 0, .null) := by decide +kernel
theorem i_70_13 : aIns 70 13 = some (.bipush 8, 2, 0, 0, .int (8)) := by decide +kernel
theorem i_70_15 : aIns 70 15 = some (.newarray .int, 2, 0, 0, .null) := by decide +kernel
theorem i_70_17 : aIns 70 17 = some (.putfield 15, 3, 7, 1, .null) := by decide +kernel
theorem i_70_20 : aIns 70 20 = some (.aload_n 0, 1, 0, 0, .null) := by decide +kernel
theorem i_70_21 : aIns 70 21 = some (.bipush 8, 2, 0, 0, .int (8)) := by decide +kernel
theorem i_70_23 : aIns 70 23 = some (.newarray .int, 2, 0, 0, .null) := by decide +kernel
theorem i_70_25 : aIns 70 25 = some (.putfield 18, 3, 7, 2, .null) := by decide +kernel
theorem i_70_28 : aIns 70 28 = some (.aload_n 0, 1, 0, 0, .null) := by decide +kernel
theorem i_70_29 : aIns 70 29 = some (.bipush 8, 2, 0, 0, .int (8)) := by decide +kernel
theorem i_70_31 : aIns 70 31 = some (.newarray .int, 2, 0, 0, .null) := by decide +kernel
theorem i_70_33 : aIns 70 33 = some (.putfield 21, 3, 7, 3, .null) := by decide +kernel
theorem i_70_36 : aIns 70 36 = some (.aload_n 0, 1, 0, 0, .null) := by decide +kernel
theorem i_70_37 : aIns 70 37 = some (.bipush 8, 2, 0, 0, .int (8)) := by decide +kernel
theorem i_70_39 : aIns 70 39 = some (.newarray .int, 2, 0, 0, .null) := by decide +kernel
theorem i_70_41 : aIns 70 41 = some (.putfield 24, 3, 7, 4, .null) := by decide +kernel
theorem i_70_44 : aIns 70 44 = some (.aload_n 0, 1, 0, 0, .null) := by decide +kernel
theorem i_70_45 : aIns 70 45 = some (.bipush 8, 2, 0, 0, .int (8)) := by decide +kernel
theorem i_70_47 : aIns 70 47 = some (.newarray .int, 2, 0, 0, .null) := by decide +kernel
theorem i_70_49 : aIns 70 49 = some (.putfield 27, 3, 7, 5, .null) := by decide +kernel
theorem i_70_52 : aIns 70 52 = some (.aload_n 0, 1, 0, 0, .null) := by decide +kernel
theorem i_70_53 : aIns 70 53 = some (.iconst 5, 1, 0, 0, .int (5)) := by decide +kernel
theorem i_70_54 : aIns 70 54 = some (.newarray .int, 2, 0, 0, .null) := by decide +kernel
theorem i_70_56 : aIns 70 56 = some (.putfield 30, 3, 7, 6, .null) := by decide +kernel
theorem i_70_59 : aIns 70 59 = some (.aload_n 0, 1, 0, 0, .null) := by decide +kernel
theorem i_70_60 : aIns 70 60 = some (.iconst 5, 1, 0, 0, .int (5)) := by decide +kernel
theorem i_70_61 : aIns 70 61 = some (.newarray .int, 2, 0, 0, .null) := by decide +kernel
theorem i_70_63 : aIns 70 63 = some (.putfield 33, 3, 7, 7, .null) := by decide +kernel
theorem i_70_66 : aIns 70 66 = some (.return_, 1, 0, 0, .null) := by decide +kernel
theorem i_72_0 : aIns 72 0 = some (.aload_n 1, 1, 0, 0, .null) := by decide +kernel
theorem i_72_1 : aIns 72 1 = some (.getfield 9, 3, 7, 0, .null) := by decide +kernel
theorem i_72_4 : aIns 72 4 = some (.iconst 0, 1, 0, 0, .int (0)) := by decide +kernel
theorem i_72_5 : aIns 72 5 = some (.aload_n 0, 1, 0, 0, .null) := by decide +kernel
theorem i_72_6 : aIns 72 6 = some (.getfield 9, 3, 7, 0, .null) := by decide +kernel
theorem i_72_9 : aIns 72 9 = some (.iconst 0, 1, 0, 0, .int (0)) := by decide +kernel
theorem i_72_10 : aIns 72 10 = some (.bipush 8, 2, 0, 0, .int (8)) := by decide +kernel
theorem i_72_12 : aIns 72 12 = some (.invokestatic 45, 3, 1000, 0, .null) := by decide +kernel
theorem i_72_15 : aIns 72 15 = some (.aload_n 1, 1, 0, 0, .null) := by decide +kernel
theorem i_72_16 : aIns 72 16 = some (.getfield 15, 3, 7, 1, .null) := by decide +kernel
theorem i_72_19 : aIns 72 19 = some (.iconst 0, 1, 0, 0, .int (0)) := by decide +kernel
theorem i_72_20 : aIns 72 20 = some (.aload_n 0, 1, 0, 0, .null) := by decide +kernel
theorem i_72_21 : aIns 72 21 = some (.getfield 15, 3, 7, 1, .null) := by decide +kernel
theorem i_72_24 : aIns 72 24 = some (.iconst 0, 1, 0, 0, .int (0)) := by decide +kernel
theorem i_72_25 : aIns 72 25 = some (.bipush 8, 2, 0, 0, .int (8)) := by decide +kernel
theorem i_72_27 : aIns 72 27 = some (.invokestatic 45, 3, 1000, 0, .null) := by decide +kernel
theorem i_72_30 : aIns 72 30 = some (.aload_n 1, 1, 0, 0, .null) := by decide +kernel
theorem i_72_31 : aIns 72 31 = some (.getfield 18, 3, 7, 2, .null) := by decide +kernel
theorem i_72_34 : aIns 72 34 = some (.iconst 0, 1, 0, 0, .int (0)) := by decide +kernel
theorem i_72_35 : aIns 72 35 = some (.aload_n 0, 1, 0, 0, .null) := by decide +kernel
theorem i_72_36 : aIns 72 36 = some (.getfield 18, 3, 7, 2, .null) := by decide +kernel
theorem i_72_39 : aIns 72 39 = some (.iconst 0, 1, 0, 0, .int (0)) := by decide +kernel
theorem i_72_40 : aIns 72 40 = some (.bipush 8, 2, 0, 0, .int (8)) := by decide +kernel
theorem i_72_42 : aIns 72 42 = some (.invokestatic 45, 3, 1000, 0, .null) := by decide +kernel
theorem i_72_45 : aIns 72 45 = some (.aload_n 1, 1, 0, 0, .null) := by decide +kernel
theorem i_72_46 : aIns 72 46 = some (.getfield 21, 3, 7, 3, .null) := by decide +kernel
theorem i_72_49 : aIns 72 49 = some (.iconst 0, 1, 0, 0, .int (0)) := by decide +kernel
theorem i_72_50 : aIns 72 50 = some (.aload_n 0, 1, 0, 0, .null) := by decide +kernel
theorem i_72_51 : aIns 72 51 = some (.getfield 21, 3, 7, 3, .null) := by decide +kernel
theorem i_72_54 : aIns 72 54 = some (.iconst 0, 1, 0, 0, .int (0)) := by decide +kernel
theorem i_72_55 : aIns 72 55 = some (.bipush 8, 2, 0, 0, .int (8)) := by decide +kernel
theorem i_72_57 : aIns 72 57 = some (.invokestatic 45, 3, 1000, 0, .null) := by decide +kernel
theorem i_72_60 : aIns 72 60 = some (.aload_n 1, 1, 0, 0, .null) := by decide +kernel
theorem i_72_61 : aIns 72 61 = some (.getfield 24, 3, 7, 4, .null) := by decide +kernel
theorem i_72_64 : aIns 72 64 = some (.iconst 0, 1, 0, 0, .int (0)) := by decide +kernel
theorem i_72_65 : aIns 72 65 = some (.aload_n 0, 1, 0, 0, .null) := by decide +kernel
theorem i_72_66 : aIns 72 66 = some (.getfield 24, 3, 7, 4, .null) := by decide +kernel
theorem i_72_69 : aIns 72 69 = some (.iconst 0, 1, 0, 0, .int (0)) := by decide +kernel
theorem i_72_70 : aIns 72 70 = some (.bipush 8, 2, 0, 0, .int (8)) := by decide +kernel
theorem i_72_72 : aIns 72 72 = some (.invokestatic 45, 3, 1000, 0, .null) := by decide +kernel
theorem i_72_75 : aIns 72 75 = some (.aload_n 1, 1, 0, 0, .null) := by decide +kernel
theorem i_72_76 : aIns 72 76 = some (.getfield 27, 3, 7, 5, .null) := by decide +kernel
theorem i_72_79 : aIns 72 79 = some (.iconst 0, 1, 0, 0, .int (0)) := by decide +kernel
theorem i_72_80 : aIns 72 80 = some (.aload_n 0, 1, 0, 0, .null) := by decide +kernel
theorem i_72_81 : aIns 72 81 = some (.getfield 27, 3, 7, 5, .null) := by decide +kernel
theorem i_72_84 : aIns 72 84 = some (.iconst 0, 1, 0, 0, .int (0)) := by decide +kernel
theorem i_72_85 : aIns 72 85 = some (.bipush 8, 2, 0, 0, .int (8)) := by decide +kernel
theorem i_72_87 : aIns 72 87 = some (.invokestatic 45, 3, 1000, 0, .null) := by decide +kernel
theorem i_72_90 : aIns 72 90 = some (.aload_n 1, 1, 0, 0, .null) := by decide +kernel
theorem i_72_91 : aIns 72 91 = some (.getfield 30, 3, 7, 6, .null) := by decide +kernel
theorem i_72_94 : aIns 72 94 = some (.iconst 0, 1, 0, 0, .int (0)) := by decide +kernel
theorem i_72_95 : aIns 72 95 = some (.aload_n 0, 1, 0, 0, .null) := by decide +kernel
theorem i_72_96 : aIns 72 96 = some (.getfield 30, 3, 7, 6, .null) := by decide +kernel
theorem i_72_99 : aIns 72 99 = some (.iconst 0, 1, 0, 0, .int (0)) := by decide +kernel
theorem i_72_100 : aIns 72 100 = some (.iconst 5, 1, 0, 0, .int (5)) := by decide +kernel
theorem i_72_101 : aIns 72 101 = some (.invokestatic 45, 3, 1000, 0, .null) := by decide +kernel
theorem i_72_104 : aIns 72 104 = some (.aload_n 1, 1, 0, 0, .null) := by decide +kernel
theorem i_72_105 : aIns 72 105 = some (.getfield 33, 3, 7, 7, .null) := by decide +kernel
theorem i_72_108 : aIns 72 108 = some (.iconst 0, 1, 0, 0, .int (0)) := by decide +kernel
theorem i_72_109 : aIns 72 109 = some (.aload_n 0, 1, 0, 0, .null) := by decide +kernel
theorem i_72_110 : aIns 72 110 = some (.getfield 33, 3, 7, 7, .null) := by decide +kernel
theorem i_72_113 : aIns 72 113 = some (.iconst 0, 1, 0, 0, .int (0)) := by decide +kernel
theorem i_72_114 : aIns 72 114 = some (.iconst 5, 1, 0, 0, .int (5)) := by decide +kernel
theorem i_72_115 : aIns 72 115 = some (.invokestatic 45, 3, 1000, 0, .null) := by decide +kernel
theorem i_72_118 : aIns 72 118 = some (.aload_n 0, 1, 0, 0, .null) := by decide +kernel
theorem i_72_119 : aIns 72 119 = some (.aload_n 1, 1, 0, 0, .null) := by decide +kernel
theorem i_72_120 : aIns 72 120 = some (.getfield 51, 3, 7, 8, .null) := by decide +kernel
theorem i_72_123 : aIns 72 123 = some (.putfield 51, 3, 7, 8, .null) := by decide +kernel
theorem i_72_126 : aIns 72 126 = some (.aload_n 0, 1, 0, 0, .null) := by decide +kernel
theorem i_72_127 : aIns 72 127 = some (.aload_n 1, 1, 0, 0, .null) := by decide +kernel
theorem i_72_128 : aIns 72 128 = some (.getfield 55, 3, 7, 9, .null) := by decide +kernel
theorem i_72_131 : aIns 72 131 = some (.putfield 55, 3, 7, 9, .null) := by decide +kernel
theorem i_72_134 : aIns 72 134 = some (.aload_n 0, 1, 0, 0, .null) := by decide +kernel
theorem i_72_135 : aIns 72 135 = some (.aload_n 1, 1, 0, 0, .null) := by decide +kernel
theorem i_72_136 : aIns 72 136 = some (.getfield 58, 3, 7, 10, .null) := by decide +kernel
theorem i_72_139 : aIns 72 139 = some (.putfield 58, 3, 7, 10, .null) := by decide +kernel
theorem i_72_142 : aIns 72 142 = some (.aload_n 0, 1, 0, 0, .null) := by decide +kernel
theorem i_72_143 : aIns 72 143 = some (.aload_n 1, 1, 0, 0, .null) := by decide +kernel
theorem i_72_144 : aIns 72 144 = some (.getfield 61, 3, 7, 11, .null) := by decide +kernel
theorem i_72_147 : aIns 72 147 = some (.putfield 61, 3, 7, 11, .null) := by decide +kernel
theorem i_72_150 : aIns 72 150 = some (.aload_n 0, 1, 0, 0, .null) := by decide +kernel
theorem i_72_151 : aIns 72 151 = some (.aload_n 1, 1, 0, 0, .null) := by decide +kernel
theorem i_72_152 : aIns 72 152 = some (.getfield 64, 3, 7, 12, .null) := by decide +kernel
theorem i_72_155 : aIns 72 155 = some (.putfield 64, 3, 7, 12, .null) := by decide +kernel
theorem i_72_158 : aIns 72 158 = some (.aload_n 0, 1, 0, 0, .null) := by decide +kernel
theorem i_72_159 : aIns 72 159 = some (.aload_n 1, 1, 0, 0, .null) := by decide +kernel
theorem i_72_160 : aIns 72 160 = some (.getfield 67, 3, 7, 13, .null) := by decide +kernel
theorem i_72_163 : aIns 72 163 = some (.putfield 67, 3, 7, 13, .null) := by decide +kernel
theorem i_72_166 : aIns 72 166 = some (.return_, 1, 0, 0, .null) := by decide +kernel
theorem i_73_0 : aIns 73 0 = some (.iconst 0, 1, 0, 0, .int (0)) := by decide +kernel
theorem i_73_1 : aIns 73 1 = some (.istore_n 1, 1, 0, 0, .null) := by decide +kernel
theorem i_73_2 : aIns 73 2 = some (.iconst 0, 1, 0, 0, .int (0)) := by decide +kernel
theorem i_73_3 : aIns 73 3 = some (.istore_n 2, 1, 0, 0, .null) := by decide +kernel
theorem i_73_4 : aIns 73 4 = some (.iload_n 2, 1, 0, 0, .null) := by decide +kernel
theorem i_73_5 : aIns 73 5 = some (.bipush 8, 2, 0, 0, .int (8)) := by decide +kernel
theorem i_73_7 : aIns 73 7 = some (.if_icmp .ge 18, 3, 0, 0, .null) := by decide +kernel
theorem i_73_10 : aIns 73 10 = some (.iload_n 1, 1, 0, 0, .null) := by decide +kernel
theorem i_73_11 : aIns 73 11 = some (.aload_n 0, 1, 0, 0, .null) := by decide +kernel
theorem i_73_12 : aIns 73 12 = some (.getfield 9, 3, 7, 0, .null) := by decide +kernel
theorem i_73_15 : aIns 73 15 = some (.iload_n 2, 1, 0, 0, .null) := by decide +kernel
theorem i_73_16 : aIns 73 16 = some (.iaload, 1, 0, 0, .null) := by decide +kernel
theorem i_73_17 : aIns 73 17 = some (.iadd, 1, 0, 0, .null) := by decide +kernel
theorem i_73_18 : aIns 73 18 = some (.istore_n 1, 1, 0, 0, .null) := by decide +kernel
theorem i_73_19 : aIns 73 19 = some (.iinc 2 1, 3, 0, 0, .null) := by decide +kernel
theorem i_73_22 : aIns 73 22 = some (.goto (-18), 3, 0, 0, .null) := by decide +kernel
theorem i_73_25 : aIns 73 25 = some (.iload_n 1, 1, 0, 0, .null) := by decide +kernel
theorem i_73_26 : aIns 73 26 = some (.ireturn, 1, 0, 0, .null) := by decide +kernel
theorem i_89_0 : aIns 89 0 = some (.aload_n 0, 1, 0, 0, .null) := by decide +kernel
theorem i_89_1 : aIns 89 1 = some (.getfield 21, 3, 9, 0, .null) := by decide +kernel
theorem i_89_4 : aIns 89 4 = some (.getfield 26, 3, 10, 0, .null) := by decide +kernel
theorem i_89_7 : aIns 89 7 = some (.astore 6, 2, 0, 0, .null) := by decide +kernel
theorem i_89_9 : aIns 89 9 = some (.aload 6, 2, 0, 0, .null) := by decide +kernel
theorem i_89_11 : aIns 89 11 = some (.iload 4, 2, 0, 0, .null) := by decide +kernel
theorem i_89_13 : aIns 89 13 = some (.invokevirtual 32, 3, 57, 1, .int 5) := by decide +kernel
theorem i_89_16 : aIns 89 16 = some (.istore 7, 2, 0, 0, .null) := by decide +kernel
theorem i_89_18 : aIns 89 18 = some (.iload_n 2, 1, 0, 0, .null) := by decide +kernel
theorem i_89_19 : aIns 89 19 = some (.ifCond .lt 11, 3, 0, 0, .null) := by decide +kernel
theorem i_89_22 : aIns 89 22 = some (.iload_n 2, 1, 0, 0, .null) := by decide +kernel
theorem i_89_23 : aIns 89 23 = some (.aload_n 0, 1, 0, 0, .null) := by decide +kernel
theorem i_89_24 : aIns 89 24 = some (.getfield 38, 3, 9, 2, .null) := by decide +kernel
theorem i_89_27 : aIns 89 27 = some (.if_icmp .lt 28, 3, 0, 0, .null) := by decide +kernel
theorem i_89_30 : aIns 89 30 = some (.aload 6, 2, 0, 0, .null) := by decide +kernel
theorem i_89_32 : aIns 89 32 = some (.getfield 42, 3, 5, 5, .null) := by decide +kernel
theorem i_89_35 : aIns 89 35 = some (.iload_n 3, 1, 0, 0, .null) := by decide +kernel
theorem i_89_36 : aIns 89 36 = some (.iaload, 1, 0, 0, .null) := by decide +kernel
theorem i_89_37 : aIns 89 37 = some (.istore 8, 2, 0, 0, .null) := by decide +kernel
theorem i_89_39 : aIns 89 39 = some (.iconst 1, 1, 0, 0, .int (1)) := by decide +kernel
theorem i_89_40 : aIns 89 40 = some (.iload 8, 2, 0, 0, .null) := by decide +kernel
theorem i_89_42 : aIns 89 42 = some (.iload 8, 2, 0, 0, .null) := by decide +kernel
theorem i_89_44 : aIns 89 44 = some (.iload 7, 2, 0, 0, .null) := by decide +kernel
theorem i_89_46 : aIns 89 46 = some (.imul, 1, 0, 0, .null) := by decide +kernel
theorem i_89_47 : aIns 89 47 = some (.bipush 100, 2, 0, 0, .int (100)) := by decide +kernel
theorem i_89_49 : aIns 89 49 = some (.idiv, 1, 0, 0, .null) := by decide +kernel
theorem i_89_50 : aIns 89 50 = some (.isub, 1, 0, 0, .null) := by decide +kernel
theorem i_89_51 : aIns 89 51 = some (.invokestatic 46, 3, 1001, 0, .null) := by decide +kernel
theorem i_89_54 : aIns 89 54 = some (.ireturn, 1, 0, 0, .null) := by decide +kernel
theorem i_89_55 : aIns 89 55 = some (.aload_n 0, 1, 0, 0, .null) := by decide +kernel
theorem i_89_56 : aIns 89 56 = some (.getfield 17, 3, 9, 3, .null) := by decide +kernel
theorem i_89_59 : aIns 89 59 = some (.iconst 0, 1, 0, 0, .int (0)) := by decide +kernel
theorem i_89_60 : aIns 89 60 = some (.iload_n 3, 1, 0, 0, .null) := by decide +kernel
theorem i_89_61 : aIns 89 61 = some (.i2l, 1, 0, 0, .null) := by decide +kernel
theorem i_89_62 : aIns 89 62 = some (.lastore, 1, 0, 0, .null) := by decide +kernel
theorem i_89_63 : aIns 89 63 = some (.aload_n 0, 1, 0, 0, .null) := by decide +kernel
theorem i_89_64 : aIns 89 64 = some (.getfield 17, 3, 9, 3, .null) := by decide +kernel
theorem i_89_67 : aIns 89 67 = some (.iconst 1, 1, 0, 0, .int (1)) := by decide +kernel
theorem i_89_68 : aIns 89 68 = some (.aload 6, 2, 0, 0, .null) := by decide +kernel
theorem i_89_70 : aIns 89 70 = some (.getfield 42, 3, 5, 5, .null) := by decide +kernel
theorem i_89_73 : aIns 89 73 = some (.iload_n 3, 1, 0, 0, .null) := by decide +kernel
theorem i_89_74 : aIns 89 74 = some (.iaload, 1, 0, 0, .null) := by decide +kernel
theorem i_89_75 : aIns 89 75 = some (.i2l, 1, 0, 0, .null) := by decide +kernel
theorem i_89_76 : aIns 89 76 = some (.lastore, 1, 0, 0, .null) := by decide +kernel
theorem i_89_77 : aIns 89 77 = some (.aload_n 0, 1, 0, 0, .null) := by decide +kernel
theorem i_89_78 : aIns 89 78 = some (.getfield 17, 3, 9, 3, .null) := by decide +kernel
theorem i_89_81 : aIns 89 81 = some (.iconst 2, 1, 0, 0, .int (2)) := by decide +kernel
theorem i_89_82 : aIns 89 82 = some (.iload 7, 2, 0, 0, .null) := by decide +kernel
theorem i_89_84 : aIns 89 84 = some (.i2l, 1, 0, 0, .null) := by decide +kernel
theorem i_89_85 : aIns 89 85 = some (.lastore, 1, 0, 0, .null) := by decide +kernel
theorem i_89_86 : aIns 89 86 = some (.aload_n 0, 1, 0, 0, .null) := by decide +kernel
theorem i_89_87 : aIns 89 87 = some (.getfield 17, 3, 9, 3, .null) := by decide +kernel
theorem i_89_90 : aIns 89 90 = some (.iconst 3, 1, 0, 0, .int (3)) := by decide +kernel
theorem i_89_91 : aIns 89 91 = some (.iload 4, 2, 0, 0, .null) := by decide +kernel
theorem i_89_93 : aIns 89 93 = some (.i2l, 1, 0, 0, .null) := by decide +kernel
theorem i_89_94 : aIns 89 94 = some (.lastore, 1, 0, 0, .null) := by decide +kernel
theorem i_89_95 : aIns 89 95 = some (.aload_n 0, 1, 0, 0, .null) := by decide +kernel
theorem i_89_96 : aIns 89 96 = some (.getfield 17, 3, 9, 3, .null) := by decide +kernel
theorem i_89_99 : aIns 89 99 = some (.iconst 4, 1, 0, 0, .int (4)) := by decide +kernel
theorem i_89_100 : aIns 89 100 = some (.iload 5, 2, 0, 0, .null) := by decide +kernel
theorem i_89_102 : aIns 89 102 = some (.i2l, 1, 0, 0, .null) := by decide +kernel
theorem i_89_103 : aIns 89 103 = some (.lastore, 1, 0, 0, .null) := by decide +kernel
theorem i_89_104 : aIns 89 104 = some (.aload_n 0, 1, 0, 0, .null) := by decide +kernel
theorem i_89_105 : aIns 89 105 = some (.getfield 17, 3, 9, 3, .null) := by decide +kernel
theorem i_89_108 : aIns 89 108 = some (.iconst 5, 1, 0, 0, .int (5)) := by decide +kernel
theorem i_89_109 : aIns 89 109 = some (.aload_n 1, 1, 0, 0, .null) := by decide +kernel
theorem i_89_110 : aIns 89 110 = some (.getfield 52, 3, 7, 1, .null) := by decide +kernel
theorem i_89_113 : aIns 89 113 = some (.iload_n 3, 1, 0, 0, .null) := by decide +kernel
theorem i_89_114 : aIns 89 114 = some (.iaload, 1, 0, 0, .null) := by decide +kernel
theorem i_89_115 : aIns 89 115 = some (.i2l, 1, 0, 0, .null) := by decide +kernel
theorem i_89_116 : aIns 89 116 = some (.lastore, 1, 0, 0, .null) := by decide +kernel
theorem i_89_117 : aIns 89 117 = some (.aload_n 0, 1, 0, 0, .null) := by decide +kernel
theorem i_89_118 : aIns 89 118 = some (.getfield 17, 3, 9, 3, .null) := by decide +kernel
theorem i_89_121 : aIns 89 121 = some (.bipush 6, 2, 0, 0, .int (6)) := by decide +kernel
theorem i_89_123 : aIns 89 123 = some (.aload_n 1, 1, 0, 0, .null) := by decide +kernel
theorem i_89_124 : aIns 89 124 = some (.getfield 57, 3, 7, 2, .null) := by decide +kernel
theorem i_89_127 : aIns 89 127 = some (.iload_n 3, 1, 0, 0, .null) := by decide +kernel
theorem i_89_128 : aIns 89 128 = some (.iaload, 1, 0, 0, .null) := by decide +kernel
theorem i_89_129 : aIns 89 129 = some (.i2l, 1, 0, 0, .null) := by decide +kernel
theorem i_89_130 : aIns 89 130 = some (.lastore, 1, 0, 0, .null) := by decide +kernel
theorem i_89_131 : aIns 89 131 = some (.aload_n 0, 1, 0, 0, .null) := by decide +kernel
theorem i_89_132 : aIns 89 132 = some (.getfield 17, 3, 9, 3, .null) := by decide +kernel
theorem i_89_135 : aIns 89 135 = some (.bipush 7, 2, 0, 0, .int (7)) := by decide +kernel
theorem i_89_137 : aIns 89 137 = some (.aload 6, 2, 0, 0, .null) := by decide +kernel
theorem i_89_139 : aIns 89 139 = some (.getfield 60, 3, 5, 6, .null) := by decide +kernel
theorem i_89_142 : aIns 89 142 = some (.iload_n 3, 1, 0, 0, .null) := by decide +kernel
theorem i_89_143 : aIns 89 143 = some (.iaload, 1, 0, 0, .null) := by decide +kernel
theorem i_89_144 : aIns 89 144 = some (.i2l, 1, 0, 0, .null) := by decide +kernel
theorem i_89_145 : aIns 89 145 = some (.lastore, 1, 0, 0, .null) := by decide +kernel
theorem i_89_146 : aIns 89 146 = some (.aload_n 0, 1, 0, 0, .null) := by decide +kernel
theorem i_89_147 : aIns 89 147 = some (.getfield 11, 3, 9, 1, .null) := by decide +kernel
theorem i_89_150 : aIns 89 150 = some (.iload_n 2, 1, 0, 0, .null) := by decide +kernel
theorem i_89_151 : aIns 89 151 = some (.aaload, 1, 0, 0, .null) := by decide +kernel
theorem i_89_152 : aIns 89 152 = some (.aload_n 0, 1, 0, 0, .null) := by decide +kernel
theorem i_89_153 : aIns 89 153 = some (.getfield 17, 3, 9, 3, .null) := by decide +kernel
theorem i_89_156 : aIns 89 156 = some (.invokevirtual 63, 3, 41, 1, .int 3) := by decide +kernel
theorem i_89_159 : aIns 89 159 = some (.ireturn, 1, 0, 0, .null) := by decide +kernel
theorem i_138_0 : aIns 138 0 = some (.iload_n 0, 1, 0, 0, .null) := by decide +kernel
theorem i_138_1 : aIns 138 1 = some (.iload_n 1, 1, 0, 0, .null) := by decide +kernel
theorem i_138_2 : aIns 138 2 = some (.if_icmp .lt 12, 3, 0, 0, .null) := by decide +kernel
theorem i_138_5 : aIns 138 5 = some (.iload_n 0, 1, 0, 0, .null) := by decide +kernel
theorem i_138_6 : aIns 138 6 = some (.iload_n 2, 1, 0, 0, .null) := by decide +kernel
theorem i_138_7 : aIns 138 7 = some (.if_icmp .gt 7, 3, 0, 0, .null) := by decide +kernel
theorem i_138_10 : aIns 138 10 = some (.iconst 1, 1, 0, 0, .int (1)) := by decide +kernel
theorem i_138_11 : aIns 138 11 = some (.goto 4, 3, 0, 0, .null) := by decide +kernel
theorem i_138_14 : aIns 138 14 = some (.iconst 0, 1, 0, 0, .int (0)) := by decide +kernel
theorem i_138_15 : aIns 138 15 = some (.ireturn, 1, 1, 0, .null) := by decide +kernel
def d_0 (g : Nat) (a0 : Nat) (h0 : aH) : Option (aH) := ((sF (nA h0 0 8) a0 0 3 (.ref (h0).length)).bind (fun h_1 => some h_1))
set_option maxHeartbeats 4000000 in
set_option maxRecDepth 100000 in
theorem d_0_ok {X : aX} {g : Nat} {a0 : Nat} {h0 : aH} {zz : aH} {d : Nat} (hdp : 0 ≤ d) (hd : d_0 g a0 h0 = some zz) : aWp X d 0 0 (aEntL [.ref a0] 1) [] h0 (fun w h' => w = none ∧ h' = zz) := by
  unfold d_0 at hd
  refine wp_lv (l2 := [some (.ref a0)]) rfl ?_
  refine wp_s 1 [some (.ref a0)] [.ref a0] h0 i_0_0 rfl ?_
  refine hp_obj 4 rfl i_0_1 rfl ?_
  refine wp_s 5 [some (.ref a0)] [.ref a0] h0 i_0_4 rfl ?_
  refine wp_s 7 [some (.ref a0)] [.int (8 : Int32), .ref a0] h0 i_0_5 rfl ?_
  refine hp_newa (N := 8) 9 rfl i_0_7 (by decide) (by decide) (by decide) ?_
  obtain ⟨h_1, q_2, hd⟩ := dk_bind hd
  refine hp_sF 12 rfl i_0_9 q_2 ?_
  obtain rfl := Option.some.inj hd
  exact wp_ret i_0_12 rfl ⟨rfl, rfl⟩
def d_1 (g : Nat) (a0 : Nat) (h0 : aH) : Option (aH) := ((sF h0 a0 0 0 (.int (0 : Int32))).bind (fun h_1 => ((sF h_1 a0 0 1 (.int (0 : Int32))).bind (fun h_3 => ((sF h_3 a0 0 2 (.int (0 : Int32))).bind (fun h_5 => some h_5))))))
set_option maxHeartbeats 4000000 in
set_option maxRecDepth 100000 in
theorem d_1_ok {X : aX} {g : Nat} {a0 : Nat} {h0 : aH} {zz : aH} {d : Nat} (hdp : 0 ≤ d) (hd : d_1 g a0 h0 = some zz) : aWp X d 1 0 (aEntL [.ref a0] 1) [] h0 (fun w h' => w = none ∧ h' = zz) := by
  unfold d_1 at hd
  refine wp_lv (l2 := [some (.ref a0)]) rfl ?_
  refine wp_s 1 [some (.ref a0)] [.ref a0] h0 i_1_0 rfl ?_
  refine wp_s 2 [some (.ref a0)] [.int (0 : Int32), .ref a0] h0 i_1_1 rfl ?_
  obtain ⟨h_1, q_2, hd⟩ := dk_bind hd
  refine hp_sF 5 rfl i_1_2 q_2 ?_
  refine wp_s 6 [some (.ref a0)] [.ref a0] h_1 i_1_5 rfl ?_
  refine wp_s 7 [some (.ref a0)] [.int (0 : Int32), .ref a0] h_1 i_1_6 rfl ?_
  obtain ⟨h_3, q_4, hd⟩ := dk_bind hd
  refine hp_sF 10 rfl i_1_7 q_4 ?_
  refine wp_s 11 [some (.ref a0)] [.ref a0] h_3 i_1_10 rfl ?_
  refine wp_s 12 [some (.ref a0)] [.int (0 : Int32), .ref a0] h_3 i_1_11 rfl ?_
  obtain ⟨h_5, q_6, hd⟩ := dk_bind hd
  refine hp_sF 15 rfl i_1_12 q_6 ?_
  obtain rfl := Option.some.inj hd
  exact wp_ret i_1_15 rfl ⟨rfl, rfl⟩
def d_3 (g : Nat) (a0 : Nat) (x1 : Int32) (a2 : Nat) (x3 : Int32) (h0 : aH) : Option (aH) := ((sF h0 a0 0 0 (.int (1 : Int32))).bind (fun h_1 => ((sF h_1 a0 0 1 (.int x1)).bind (fun h_3 => ((sF h_3 a0 0 2 (.int x3)).bind (fun h_5 => ((gR h_5 a0 0 3).bind (fun f_7 => ((sC h_5 a2 (0 : Int32) f_7 (0 : Int32) x3).bind (fun h_9 => some h_9))))))))))
set_option maxHeartbeats 4000000 in
set_option maxRecDepth 100000 in
theorem d_3_ok {X : aX} {g : Nat} {a0 : Nat} {x1 : Int32} {a2 : Nat} {x3 : Int32} {h0 : aH} {zz : aH} {d : Nat} (hdp : 0 ≤ d) (hd : d_3 g a0 x1 a2 x3 h0 = some zz) : aWp X d 3 0 (aEntL [.ref a0, .int x1, .ref a2, .int x3] 4) [] h0 (fun w h' => w = none ∧ h' = zz) := by
  unfold d_3 at hd
  refine wp_lv (l2 := [some (.ref a0), some (.int x1), some (.ref a2), some (.int x3)]) rfl ?_
  refine wp_s 1 [some (.ref a0), some (.int x1), some (.ref a2), some (.int x3)] [.ref a0] h0 i_3_0 rfl ?_
  refine wp_s 2 [some (.ref a0), some (.int x1), some (.ref a2), some (.int x3)] [.int (1 : Int32), .ref a0] h0 i_3_1 rfl ?_
  obtain ⟨h_1, q_2, hd⟩ := dk_bind hd
  refine hp_sF 5 rfl i_3_2 q_2 ?_
  refine wp_s 6 [some (.ref a0), some (.int x1), some (.ref a2), some (.int x3)] [.ref a0] h_1 i_3_5 rfl ?_
  refine wp_s 7 [some (.ref a0), some (.int x1), some (.ref a2), some (.int x3)] [.int x1, .ref a0] h_1 i_3_6 rfl ?_
  obtain ⟨h_3, q_4, hd⟩ := dk_bind hd
  refine hp_sF 10 rfl i_3_7 q_4 ?_
  refine wp_s 11 [some (.ref a0), some (.int x1), some (.ref a2), some (.int x3)] [.ref a0] h_3 i_3_10 rfl ?_
  refine wp_s 12 [some (.ref a0), some (.int x1), some (.ref a2), some (.int x3)] [.int x3, .ref a0] h_3 i_3_11 rfl ?_
  obtain ⟨h_5, q_6, hd⟩ := dk_bind hd
  refine hp_sF 15 rfl i_3_12 q_6 ?_
  refine wp_s 16 [some (.ref a0), some (.int x1), some (.ref a2), some (.int x3)] [.ref a2] h_5 i_3_15 rfl ?_
  refine wp_s 17 [some (.ref a0), some (.int x1), some (.ref a2), some (.int x3)] [.int (0 : Int32), .ref a2] h_5 i_3_16 rfl ?_
  refine wp_s 18 [some (.ref a0), some (.int x1), some (.ref a2), some (.int x3)] [.ref a0, .int (0 : Int32), .ref a2] h_5 i_3_17 rfl ?_
  obtain ⟨f_7, q_8, hd⟩ := dk_bind hd
  refine hp_gR 21 rfl i_3_18 q_8 ?_
  refine wp_s 22 [some (.ref a0), some (.int x1), some (.ref a2), some (.int x3)] [.int (0 : Int32), .ref f_7, .int (0 : Int32), .ref a2] h_5 i_3_21 rfl ?_
  refine wp_s 23 [some (.ref a0), some (.int x1), some (.ref a2), some (.int x3)] [.int x3, .int (0 : Int32), .ref f_7, .int (0 : Int32), .ref a2] h_5 i_3_22 rfl ?_
  obtain ⟨h_9, q_10, hd⟩ := dk_bind hd
  refine hp_sC 26 rfl i_3_23 rfl q_10 ?_
  obtain rfl := Option.some.inj hd
  exact wp_ret i_3_26 rfl ⟨rfl, rfl⟩
def j_2_15 (g : Nat) (a0 : Nat) (x1 : Int32) (a2 : Nat) (x3 : Int32) (h0 : aH) : Option (aH) := (if isO h0 a0 0 = true then ((d_3 g a0 x1 a2 x3 h0).bind (fun z_4 => some z_4)) else none)
set_option maxHeartbeats 4000000 in
set_option maxRecDepth 100000 in
theorem j_2_15_ok {X : aX} {g : Nat} {a0 : Nat} {x1 : Int32} {a2 : Nat} {x3 : Int32} {h0 : aH} {zz : aH} {d : Nat} (hdp : 1 ≤ d) (hd : j_2_15 g a0 x1 a2 x3 h0 = some zz) : aWp X d 2 15 [some (.ref a0), some (.int x1), some (.ref a2), some (.int x3)] [] h0 (fun w h' => w = none ∧ h' = zz) := by
  unfold j_2_15 at hd
  obtain ⟨e, rfl⟩ : ∃ e, d = e + 1 := ⟨d - 1, by omega⟩
  refine wp_s 16 [some (.ref a0), some (.int x1), some (.ref a2), some (.int x3)] [.ref a0] h0 i_2_15 rfl ?_
  refine wp_s 17 [some (.ref a0), some (.int x1), some (.ref a2), some (.int x3)] [.int x1, .ref a0] h0 i_2_16 rfl ?_
  refine wp_s 18 [some (.ref a0), some (.int x1), some (.ref a2), some (.int x3)] [.ref a2, .int x1, .ref a0] h0 i_2_17 rfl ?_
  refine wp_s 19 [some (.ref a0), some (.int x1), some (.ref a2), some (.int x3)] [.int x3, .ref a2, .int x1, .ref a0] h0 i_2_18 rfl ?_
  obtain ⟨k_1, hd⟩ := dk_if hd
  obtain ⟨fs_2, o_3⟩ := isO_of k_1
  obtain ⟨z_4, q_5, hd⟩ := dk_bind hd
  refine wp_callV 22 rfl i_2_19 (by decide) rfl (vs := [.int x1, .ref a2, .int x3]) (rest := []) rfl rfl rfl o_3 (y := m_3) rfl (Nat.le_of_ble_eq_true rfl) (d_3_ok (d := e) (by omega) q_5) ?_
  rintro v_6 h_7 ⟨rfl, hz⟩
  have hz := hz.symm
  subst hz
  obtain rfl := Option.some.inj hd
  exact wp_ret i_2_22 rfl ⟨rfl, rfl⟩
def d_2 (g : Nat) (a0 : Nat) (x1 : Int32) (a2 : Nat) (x3 : Int32) (h0 : aH) : Option (aH) := ((gI h0 a0 0 0).bind (fun f_1 => (if f_1 = 0 then (j_2_15 g a0 x1 a2 x3 h0) else ((gI h0 a0 0 1).bind (fun f_4 => (if f_4 ≤ x1 then some h0 else (j_2_15 g a0 x1 a2 x3 h0)))))))
set_option maxHeartbeats 4000000 in
set_option maxRecDepth 100000 in
theorem d_2_ok {X : aX} {g : Nat} {a0 : Nat} {x1 : Int32} {a2 : Nat} {x3 : Int32} {h0 : aH} {zz : aH} {d : Nat} (hdp : 1 ≤ d) (hd : d_2 g a0 x1 a2 x3 h0 = some zz) : aWp X d 2 0 (aEntL [.ref a0, .int x1, .ref a2, .int x3] 4) [] h0 (fun w h' => w = none ∧ h' = zz) := by
  unfold d_2 at hd
  refine wp_lv (l2 := [some (.ref a0), some (.int x1), some (.ref a2), some (.int x3)]) rfl ?_
  obtain ⟨e, rfl⟩ : ∃ e, d = e + 1 := ⟨d - 1, by omega⟩
  refine wp_s 1 [some (.ref a0), some (.int x1), some (.ref a2), some (.int x3)] [.ref a0] h0 i_2_0 rfl ?_
  obtain ⟨f_1, q_2, hd⟩ := dk_bind hd
  refine hp_gI 4 rfl i_2_1 q_2 ?_
  refine wp_if_eq 15 7 rfl rfl i_2_4 (fun c_3 => ?_) (fun c_3 => ?_)
  · rw [if_pos c_3] at hd
    exact aWp.forget (j_2_15_ok hdp hd) (lvS (lvS (lvS (lvS lvE))))
  · rw [if_neg c_3] at hd
    refine wp_s 8 [some (.ref a0), some (.int x1), some (.ref a2), some (.int x3)] [.int x1] h0 i_2_7 rfl ?_
    refine wp_s 9 [some (.ref a0), some (.int x1), some (.ref a2), some (.int x3)] [.ref a0, .int x1] h0 i_2_8 rfl ?_
    obtain ⟨f_4, q_5, hd⟩ := dk_bind hd
    refine hp_gI 12 rfl i_2_9 q_5 ?_
    refine wp_cmp_ge 22 15 rfl rfl i_2_12 (fun c_6 => ?_) (fun c_6 => ?_)
    · rw [if_pos c_6] at hd
      obtain rfl := Option.some.inj hd
      exact wp_ret i_2_22 rfl ⟨rfl, rfl⟩
    · rw [if_neg c_6] at hd
      exact aWp.forget (j_2_15_ok hdp hd) (lvS (lvS (lvS (lvS lvE))))
def d_4 (g : Nat) (a0 : Nat) (x1 : Int32) (h0 : aH) : Option (Int32 × aH) := (if ¬ x1 = 0 then ((gI h0 a0 0 2).bind (fun f_2 => (if f_2 < x1 then some ((-2 : Int32), h0) else ((gR h0 a0 0 3).bind (fun f_5 => ((gA h0 f_5 (x1 - (1 : Int32))).bind (fun f_7 => some (f_7, h0)))))))) else ((gI h0 a0 0 1).bind (fun f_9 => some (f_9, h0))))
set_option maxHeartbeats 4000000 in
set_option maxRecDepth 100000 in
theorem d_4_ok {X : aX} {g : Nat} {a0 : Nat} {x1 : Int32} {h0 : aH} {zz : Int32 × aH} {d : Nat} (hdp : 0 ≤ d) (hd : d_4 g a0 x1 h0 = some zz) : aWp X d 4 0 (aEntL [.ref a0, .int x1] 2) [] h0 (fun w h' => w = some (.int zz.1) ∧ h' = zz.2) := by
  unfold d_4 at hd
  refine wp_lv (l2 := [some (.ref a0), some (.int x1)]) rfl ?_
  refine wp_s 1 [some (.ref a0), some (.int x1)] [.int x1] h0 i_4_0 rfl ?_
  refine wp_if_ne 9 4 rfl rfl i_4_1 (fun c_1 => ?_) (fun c_1 => ?_)
  · rw [if_pos c_1] at hd
    refine wp_s 10 [some (.ref a0), some (.int x1)] [.int x1] h0 i_4_9 rfl ?_
    refine wp_s 11 [some (.ref a0), some (.int x1)] [.ref a0, .int x1] h0 i_4_10 rfl ?_
    obtain ⟨f_2, q_3, hd⟩ := dk_bind hd
    refine hp_gI 14 rfl i_4_11 q_3 ?_
    refine wp_cmp_gt 28 17 rfl rfl i_4_14 (fun c_4 => ?_) (fun c_4 => ?_)
    · rw [if_pos c_4] at hd
      refine wp_s 30 [some (.ref a0), some (.int x1)] [.int (-2 : Int32)] h0 i_4_28 rfl ?_
      obtain rfl := Option.some.inj hd
      exact wp_iret i_4_30 ⟨rfl, rfl⟩
    · rw [if_neg c_4] at hd
      refine wp_s 18 [some (.ref a0), some (.int x1)] [.ref a0] h0 i_4_17 rfl ?_
      obtain ⟨f_5, q_6, hd⟩ := dk_bind hd
      refine hp_gR 21 rfl i_4_18 q_6 ?_
      refine wp_s 22 [some (.ref a0), some (.int x1)] [.int x1, .ref f_5] h0 i_4_21 rfl ?_
      refine wp_s 23 [some (.ref a0), some (.int x1)] [.int (1 : Int32), .int x1, .ref f_5] h0 i_4_22 rfl ?_
      refine wp_s 24 [some (.ref a0), some (.int x1)] [.int (x1 - (1 : Int32)), .ref f_5] h0 i_4_23 rfl ?_
      obtain ⟨f_7, q_8, hd⟩ := dk_bind hd
      refine hp_gA 25 rfl i_4_24 q_8 ?_
      refine wp_s 30 [some (.ref a0), some (.int x1)] [.int f_7] h0 i_4_25 rfl ?_
      obtain rfl := Option.some.inj hd
      exact wp_iret i_4_30 ⟨rfl, rfl⟩
  · rw [if_neg c_1] at hd
    refine wp_s 5 [some (.ref a0), some (.int x1)] [.ref a0] h0 i_4_4 rfl ?_
    obtain ⟨f_9, q_10, hd⟩ := dk_bind hd
    refine hp_gI 8 rfl i_4_5 q_10 ?_
    obtain rfl := Option.some.inj hd
    exact wp_iret i_4_8 ⟨rfl, rfl⟩
def l_5 (g n tag : Nat) (a0 : Nat) (x1 : Int32) (x2 : Int32) (h0 : aH) : Option (Int32 × aH) := match n with
  | 0 => none
  | n + 1 => if tag = 0 then ((gI h0 a0 0 2).bind (fun f_1 => (if f_1 ≤ x2 then some (x1, h0) else ((gR h0 a0 0 3).bind (fun f_4 => ((gA h0 f_4 x2).bind (fun f_6 => (l_5 g n 0 a0 (x1 + f_6) (x2 + (1 : Int32)) h0)))))))) else none
set_option maxHeartbeats 4000000 in
set_option maxRecDepth 100000 in
theorem l_5_ok {X : aX} {g : Nat} {d : Nat} (hdp : 0 ≤ d) : ∀ n, (∀ (a0 : Nat) (x1 : Int32) (x2 : Int32) (h0 : aH) (zz : Int32 × aH), l_5 g n 0 a0 x1 x2 h0 = some zz → aWp X d 5 4 [some (.ref a0), some (.int x1), some (.int x2)] [] h0 (fun w h' => w = some (.int zz.1) ∧ h' = zz.2)) := by
  intro n
  induction n with
  | zero => exact fun _ _ _ _ _ hd => by simp [l_5] at hd
  | succ n ih =>
    intro a0 x1 x2 h0 zz hd
    unfold l_5 at hd
    rw [if_pos rfl] at hd
    refine wp_s 5 [some (.ref a0), some (.int x1), some (.int x2)] [.int x2] h0 i_5_4 rfl ?_
    refine wp_s 6 [some (.ref a0), some (.int x1), some (.int x2)] [.ref a0, .int x2] h0 i_5_5 rfl ?_
    obtain ⟨f_1, q_2, hd⟩ := dk_bind hd
    refine hp_gI 9 rfl i_5_6 q_2 ?_
    refine wp_cmp_ge 27 12 rfl rfl i_5_9 (fun c_3 => ?_) (fun c_3 => ?_)
    · rw [if_pos c_3] at hd
      refine wp_s 28 [some (.ref a0), some (.int x1), some (.int x2)] [.int x1] h0 i_5_27 rfl ?_
      obtain rfl := Option.some.inj hd
      exact wp_iret i_5_28 ⟨rfl, rfl⟩
    · rw [if_neg c_3] at hd
      refine wp_s 13 [some (.ref a0), some (.int x1), some (.int x2)] [.int x1] h0 i_5_12 rfl ?_
      refine wp_s 14 [some (.ref a0), some (.int x1), some (.int x2)] [.ref a0, .int x1] h0 i_5_13 rfl ?_
      obtain ⟨f_4, q_5, hd⟩ := dk_bind hd
      refine hp_gR 17 rfl i_5_14 q_5 ?_
      refine wp_s 18 [some (.ref a0), some (.int x1), some (.int x2)] [.int x2, .ref f_4, .int x1] h0 i_5_17 rfl ?_
      obtain ⟨f_6, q_7, hd⟩ := dk_bind hd
      refine hp_gA 19 rfl i_5_18 q_7 ?_
      refine wp_s 20 [some (.ref a0), some (.int x1), some (.int x2)] [.int (x1 + f_6)] h0 i_5_19 rfl ?_
      refine wp_s 21 [some (.ref a0), some (.int (x1 + f_6)), some (.int x2)] [] h0 i_5_20 rfl ?_
      refine wp_s 24 [some (.ref a0), some (.int (x1 + f_6)), some (.int (x2 + (1 : Int32)))] [] h0 i_5_21 rfl ?_
      refine wp_s 4 [some (.ref a0), some (.int (x1 + f_6)), some (.int (x2 + (1 : Int32)))] [] h0 i_5_24 rfl ?_
      exact aWp.forget (ih _ _ _ _ _ hd) (lvS (lvS (lvS lvE)))
def d_5 (g : Nat) (a0 : Nat) (h0 : aH) : Option (Int32 × aH) := (l_5 g g 0 a0 (0 : Int32) (0 : Int32) h0)
set_option maxHeartbeats 4000000 in
set_option maxRecDepth 100000 in
theorem d_5_ok {X : aX} {g : Nat} {a0 : Nat} {h0 : aH} {zz : Int32 × aH} {d : Nat} (hdp : 0 ≤ d) (hd : d_5 g a0 h0 = some zz) : aWp X d 5 0 (aEntL [.ref a0] 3) [] h0 (fun w h' => w = some (.int zz.1) ∧ h' = zz.2) := by
  unfold d_5 at hd
  refine wp_lv (l2 := [some (.ref a0), none, none]) rfl ?_
  refine wp_s 1 [some (.ref a0), none, none] [.int (0 : Int32)] h0 i_5_0 rfl ?_
  refine wp_s 2 [some (.ref a0), some (.int (0 : Int32)), none] [] h0 i_5_1 rfl ?_
  refine wp_s 3 [some (.ref a0), some (.int (0 : Int32)), none] [.int (0 : Int32)] h0 i_5_2 rfl ?_
  refine wp_s 4 [some (.ref a0), some (.int (0 : Int32)), some (.int (0 : Int32))] [] h0 i_5_3 rfl ?_
  exact aWp.forget ((l_5_ok hdp g) _ _ _ _ _ hd) (lvS (lvS (lvS lvE)))
def l_6 (g n tag : Nat) (a0 : Nat) (x1 : Int32) (x2 : Int32) (h0 : aH) : Option (Int32 × aH) := match n with
  | 0 => none
  | n + 1 => if tag = 0 then ((gI h0 a0 0 2).bind (fun f_1 => (if f_1 ≤ x2 then some (x1, h0) else ((gR h0 a0 0 3).bind (fun f_4 => ((gA h0 f_4 x2).bind (fun f_6 => (l_6 g n 0 a0 (if x1 < f_6 then f_6 else x1) (x2 + (1 : Int32)) h0)))))))) else none
set_option maxHeartbeats 4000000 in
set_option maxRecDepth 100000 in
theorem l_6_ok {X : aX} {g : Nat} {d : Nat} (hdp : 0 ≤ d) : ∀ n, (∀ (a0 : Nat) (x1 : Int32) (x2 : Int32) (h0 : aH) (zz : Int32 × aH), l_6 g n 0 a0 x1 x2 h0 = some zz → aWp X d 6 4 [some (.ref a0), some (.int x1), some (.int x2)] [] h0 (fun w h' => w = some (.int zz.1) ∧ h' = zz.2)) := by
  intro n
  induction n with
  | zero => exact fun _ _ _ _ _ hd => by simp [l_6] at hd
  | succ n ih =>
    intro a0 x1 x2 h0 zz hd
    unfold l_6 at hd
    rw [if_pos rfl] at hd
    refine wp_s 5 [some (.ref a0), some (.int x1), some (.int x2)] [.int x2] h0 i_6_4 rfl ?_
    refine wp_s 6 [some (.ref a0), some (.int x1), some (.int x2)] [.ref a0, .int x2] h0 i_6_5 rfl ?_
    obtain ⟨f_1, q_2, hd⟩ := dk_bind hd
    refine hp_gI 9 rfl i_6_6 q_2 ?_
    refine wp_cmp_ge 29 12 rfl rfl i_6_9 (fun c_3 => ?_) (fun c_3 => ?_)
    · rw [if_pos c_3] at hd
      refine wp_s 30 [some (.ref a0), some (.int x1), some (.int x2)] [.int x1] h0 i_6_29 rfl ?_
      obtain rfl := Option.some.inj hd
      exact wp_iret i_6_30 ⟨rfl, rfl⟩
    · rw [if_neg c_3] at hd
      refine wp_s 13 [some (.ref a0), some (.int x1), some (.int x2)] [.int x1] h0 i_6_12 rfl ?_
      refine wp_s 14 [some (.ref a0), some (.int x1), some (.int x2)] [.ref a0, .int x1] h0 i_6_13 rfl ?_
      obtain ⟨f_4, q_5, hd⟩ := dk_bind hd
      refine hp_gR 17 rfl i_6_14 q_5 ?_
      refine wp_s 18 [some (.ref a0), some (.int x1), some (.int x2)] [.int x2, .ref f_4, .int x1] h0 i_6_17 rfl ?_
      obtain ⟨f_6, q_7, hd⟩ := dk_bind hd
      refine hp_gA 19 rfl i_6_18 q_7 ?_
      refine hp_max 22 rfl i_6_19 rfl ?_
      refine wp_s 23 [some (.ref a0), some (.int (if x1 < f_6 then f_6 else x1)), some (.int x2)] [] h0 i_6_22 rfl ?_
      refine wp_s 26 [some (.ref a0), some (.int (if x1 < f_6 then f_6 else x1)), some (.int (x2 + (1 : Int32)))] [] h0 i_6_23 rfl ?_
      refine wp_s 4 [some (.ref a0), some (.int (if x1 < f_6 then f_6 else x1)), some (.int (x2 + (1 : Int32)))] [] h0 i_6_26 rfl ?_
      exact aWp.forget (ih _ _ _ _ _ hd) (lvS (lvS (lvS lvE)))
def d_6 (g : Nat) (a0 : Nat) (h0 : aH) : Option (Int32 × aH) := (l_6 g g 0 a0 (-1 : Int32) (0 : Int32) h0)
set_option maxHeartbeats 4000000 in
set_option maxRecDepth 100000 in
theorem d_6_ok {X : aX} {g : Nat} {a0 : Nat} {h0 : aH} {zz : Int32 × aH} {d : Nat} (hdp : 0 ≤ d) (hd : d_6 g a0 h0 = some zz) : aWp X d 6 0 (aEntL [.ref a0] 3) [] h0 (fun w h' => w = some (.int zz.1) ∧ h' = zz.2) := by
  unfold d_6 at hd
  refine wp_lv (l2 := [some (.ref a0), none, none]) rfl ?_
  refine wp_s 1 [some (.ref a0), none, none] [.int (-1 : Int32)] h0 i_6_0 rfl ?_
  refine wp_s 2 [some (.ref a0), some (.int (-1 : Int32)), none] [] h0 i_6_1 rfl ?_
  refine wp_s 3 [some (.ref a0), some (.int (-1 : Int32)), none] [.int (0 : Int32)] h0 i_6_2 rfl ?_
  refine wp_s 4 [some (.ref a0), some (.int (-1 : Int32)), some (.int (0 : Int32))] [] h0 i_6_3 rfl ?_
  exact aWp.forget ((l_6_ok hdp g) _ _ _ _ _ hd) (lvS (lvS (lvS lvE)))
def d_70 (g : Nat) (a0 : Nat) (h0 : aH) : Option (aH) := ((sF (nA h0 0 8) a0 7 0 (.ref (h0).length)).bind (fun h_1 => ((sF (nA h_1 0 8) a0 7 1 (.ref (h_1).length)).bind (fun h_3 => ((sF (nA h_3 0 8) a0 7 2 (.ref (h_3).length)).bind (fun h_5 => ((sF (nA h_5 0 8) a0 7 3 (.ref (h_5).length)).bind (fun h_7 => ((sF (nA h_7 0 8) a0 7 4 (.ref (h_7).length)).bind (fun h_9 => ((sF (nA h_9 0 8) a0 7 5 (.ref (h_9).length)).bind (fun h_11 => ((sF (nA h_11 0 5) a0 7 6 (.ref (h_11).length)).bind (fun h_13 => ((sF (nA h_13 0 5) a0 7 7 (.ref (h_13).length)).bind (fun h_15 => some h_15))))))))))))))))
set_option maxHeartbeats 4000000 in
set_option maxRecDepth 100000 in
theorem d_70_ok {X : aX} {g : Nat} {a0 : Nat} {h0 : aH} {zz : aH} {d : Nat} (hdp : 0 ≤ d) (hd : d_70 g a0 h0 = some zz) : aWp X d 70 0 (aEntL [.ref a0] 1) [] h0 (fun w h' => w = none ∧ h' = zz) := by
  unfold d_70 at hd
  refine wp_lv (l2 := [some (.ref a0)]) rfl ?_
  refine wp_s 1 [some (.ref a0)] [.ref a0] h0 i_70_0 rfl ?_
  refine hp_obj 4 rfl i_70_1 rfl ?_
  refine wp_s 5 [some (.ref a0)] [.ref a0] h0 i_70_4 rfl ?_
  refine wp_s 7 [some (.ref a0)] [.int (8 : Int32), .ref a0] h0 i_70_5 rfl ?_
  refine hp_newa (N := 8) 9 rfl i_70_7 (by decide) (by decide) (by decide) ?_
  obtain ⟨h_1, q_2, hd⟩ := dk_bind hd
  refine hp_sF 12 rfl i_70_9 q_2 ?_
  refine wp_s 13 [some (.ref a0)] [.ref a0] h_1 i_70_12 rfl ?_
  refine wp_s 15 [some (.ref a0)] [.int (8 : Int32), .ref a0] h_1 i_70_13 rfl ?_
  refine hp_newa (N := 8) 17 rfl i_70_15 (by decide) (by decide) (by decide) ?_
  obtain ⟨h_3, q_4, hd⟩ := dk_bind hd
  refine hp_sF 20 rfl i_70_17 q_4 ?_
  refine wp_s 21 [some (.ref a0)] [.ref a0] h_3 i_70_20 rfl ?_
  refine wp_s 23 [some (.ref a0)] [.int (8 : Int32), .ref a0] h_3 i_70_21 rfl ?_
  refine hp_newa (N := 8) 25 rfl i_70_23 (by decide) (by decide) (by decide) ?_
  obtain ⟨h_5, q_6, hd⟩ := dk_bind hd
  refine hp_sF 28 rfl i_70_25 q_6 ?_
  refine wp_s 29 [some (.ref a0)] [.ref a0] h_5 i_70_28 rfl ?_
  refine wp_s 31 [some (.ref a0)] [.int (8 : Int32), .ref a0] h_5 i_70_29 rfl ?_
  refine hp_newa (N := 8) 33 rfl i_70_31 (by decide) (by decide) (by decide) ?_
  obtain ⟨h_7, q_8, hd⟩ := dk_bind hd
  refine hp_sF 36 rfl i_70_33 q_8 ?_
  refine wp_s 37 [some (.ref a0)] [.ref a0] h_7 i_70_36 rfl ?_
  refine wp_s 39 [some (.ref a0)] [.int (8 : Int32), .ref a0] h_7 i_70_37 rfl ?_
  refine hp_newa (N := 8) 41 rfl i_70_39 (by decide) (by decide) (by decide) ?_
  obtain ⟨h_9, q_10, hd⟩ := dk_bind hd
  refine hp_sF 44 rfl i_70_41 q_10 ?_
  refine wp_s 45 [some (.ref a0)] [.ref a0] h_9 i_70_44 rfl ?_
  refine wp_s 47 [some (.ref a0)] [.int (8 : Int32), .ref a0] h_9 i_70_45 rfl ?_
  refine hp_newa (N := 8) 49 rfl i_70_47 (by decide) (by decide) (by decide) ?_
  obtain ⟨h_11, q_12, hd⟩ := dk_bind hd
  refine hp_sF 52 rfl i_70_49 q_12 ?_
  refine wp_s 53 [some (.ref a0)] [.ref a0] h_11 i_70_52 rfl ?_
  refine wp_s 54 [some (.ref a0)] [.int (5 : Int32), .ref a0] h_11 i_70_53 rfl ?_
  refine hp_newa (N := 5) 56 rfl i_70_54 (by decide) (by decide) (by decide) ?_
  obtain ⟨h_13, q_14, hd⟩ := dk_bind hd
  refine hp_sF 59 rfl i_70_56 q_14 ?_
  refine wp_s 60 [some (.ref a0)] [.ref a0] h_13 i_70_59 rfl ?_
  refine wp_s 61 [some (.ref a0)] [.int (5 : Int32), .ref a0] h_13 i_70_60 rfl ?_
  refine hp_newa (N := 5) 63 rfl i_70_61 (by decide) (by decide) (by decide) ?_
  obtain ⟨h_15, q_16, hd⟩ := dk_bind hd
  refine hp_sF 66 rfl i_70_63 q_16 ?_
  obtain rfl := Option.some.inj hd
  exact wp_ret i_70_66 rfl ⟨rfl, rfl⟩
def l_7 (g n tag : Nat) (a0 : Nat) (x1 : Int32) (h0 : aH) : Option (aH) := match n with
  | 0 => none
  | n + 1 => if tag = 0 then (if (20 : Int32) ≤ x1 then some h0 else ((gR h0 a0 1 0).bind (fun f_2 => (if isO (nO h0 7) (h0).length 7 = true then ((d_70 g (h0).length (nO h0 7)).bind (fun z_7 => ((sQ z_7 f_2 x1 (h0).length).bind (fun h_11 => (l_7 g n 0 a0 (x1 + (1 : Int32)) h_11))))) else none)))) else none
set_option maxHeartbeats 4000000 in
set_option maxRecDepth 100000 in
theorem l_7_ok {X : aX} {g : Nat} {d : Nat} (hdp : 1 ≤ d) : ∀ n, (∀ (a0 : Nat) (x1 : Int32) (h0 : aH) (zz : aH), l_7 g n 0 a0 x1 h0 = some zz → aWp X d 7 15 [some (.ref a0), some (.int x1)] [] h0 (fun w h' => w = none ∧ h' = zz)) := by
  intro n
  induction n with
  | zero => exact fun _ _ _ _ hd => by simp [l_7] at hd
  | succ n ih =>
    intro a0 x1 h0 zz hd
    unfold l_7 at hd
    rw [if_pos rfl] at hd
    obtain ⟨e, rfl⟩ : ∃ e, d = e + 1 := ⟨d - 1, by omega⟩
    refine wp_s 16 [some (.ref a0), some (.int x1)] [.int x1] h0 i_7_15 rfl ?_
    refine wp_s 18 [some (.ref a0), some (.int x1)] [.int (20 : Int32), .int x1] h0 i_7_16 rfl ?_
    refine wp_cmp_ge 40 21 rfl rfl i_7_18 (fun c_1 => ?_) (fun c_1 => ?_)
    · rw [if_pos c_1] at hd
      obtain rfl := Option.some.inj hd
      exact wp_ret i_7_40 rfl ⟨rfl, rfl⟩
    · rw [if_neg c_1] at hd
      refine wp_s 22 [some (.ref a0), some (.int x1)] [.ref a0] h0 i_7_21 rfl ?_
      obtain ⟨f_2, q_3, hd⟩ := dk_bind hd
      refine hp_gR 25 rfl i_7_22 q_3 ?_
      refine wp_s 26 [some (.ref a0), some (.int x1)] [.int x1, .ref f_2] h0 i_7_25 rfl ?_
      refine wp_s 29 [some (.ref a0), some (.int x1)] [.ref (h0).length, .int x1, .ref f_2] (nO h0 7) i_7_26 rfl ?_
      refine wp_s 30 [some (.ref a0), some (.int x1)] [.ref (h0).length, .ref (h0).length, .int x1, .ref f_2] (nO h0 7) i_7_29 rfl ?_
      obtain ⟨k_4, hd⟩ := dk_if hd
      obtain ⟨fs_5, o_6⟩ := isO_of k_4
      obtain ⟨z_7, q_8, hd⟩ := dk_bind hd
      refine wp_callI 33 rfl i_7_30 (by decide) rfl (vs := []) (rest := [.ref (h0).length, .int x1, .ref f_2]) rfl rfl rfl o_6 (y := m_70) rfl (Nat.le_of_ble_eq_true rfl) (d_70_ok (d := e) (by omega) q_8) ?_
      rintro v_9 h_10 ⟨rfl, hz⟩
      have hz := hz.symm
      subst hz
      obtain ⟨h_11, q_12, hd⟩ := dk_bind hd
      refine hp_sQ 34 rfl i_7_33 q_12 ?_
      refine wp_s 37 [some (.ref a0), some (.int (x1 + (1 : Int32)))] [] h_11 i_7_34 rfl ?_
      refine wp_s 15 [some (.ref a0), some (.int (x1 + (1 : Int32)))] [] h_11 i_7_37 rfl ?_
      exact aWp.forget (ih _ _ _ _ hd) (lvS (lvS lvE))
def d_7 (g : Nat) (a0 : Nat) (h0 : aH) : Option (aH) := ((sF (nQ h0 4 20) a0 1 0 (.ref (h0).length)).bind (fun h_1001 => (l_7 g g 0 a0 (0 : Int32) h_1001)))
set_option maxHeartbeats 4000000 in
set_option maxRecDepth 100000 in
theorem d_7_ok {X : aX} {g : Nat} {a0 : Nat} {h0 : aH} {zz : aH} {d : Nat} (hdp : 1 ≤ d) (hd : d_7 g a0 h0 = some zz) : aWp X d 7 0 (aEntL [.ref a0] 2) [] h0 (fun w h' => w = none ∧ h' = zz) := by
  unfold d_7 at hd
  refine wp_lv (l2 := [some (.ref a0), none]) rfl ?_
  obtain ⟨e, rfl⟩ : ∃ e, d = e + 1 := ⟨d - 1, by omega⟩
  refine wp_s 1 [some (.ref a0), none] [.ref a0] h0 i_7_0 rfl ?_
  refine hp_obj 4 rfl i_7_1 rfl ?_
  refine wp_s 5 [some (.ref a0), none] [.ref a0] h0 i_7_4 rfl ?_
  refine wp_s 7 [some (.ref a0), none] [.int (20 : Int32), .ref a0] h0 i_7_5 rfl ?_
  refine hp_anew (N := 20) 10 rfl i_7_7 (by decide) (by decide) (by decide) ?_
  obtain ⟨h_1001, q_1002, hd⟩ := dk_bind hd
  refine hp_sF 13 rfl i_7_10 q_1002 ?_
  refine wp_s 14 [some (.ref a0), none] [.int (0 : Int32)] h_1001 i_7_13 rfl ?_
  refine wp_s 15 [some (.ref a0), some (.int (0 : Int32))] [] h_1001 i_7_14 rfl ?_
  exact aWp.forget ((l_7_ok hdp g) _ _ _ _ hd) (lvS (lvS lvE))
def d_72 (g : Nat) (a0 : Nat) (a1 : Nat) (h0 : aH) : Option (aH) := ((gR h0 a1 7 0).bind (fun f_1 => ((gR h0 a0 7 0).bind (fun f_3 => ((sC h0 f_1 (0 : Int32) f_3 (0 : Int32) (8 : Int32)).bind (fun h_5 => ((gR h_5 a1 7 1).bind (fun f_7 => ((gR h_5 a0 7 1).bind (fun f_9 => ((sC h_5 f_7 (0 : Int32) f_9 (0 : Int32) (8 : Int32)).bind (fun h_11 => ((gR h_11 a1 7 2).bind (fun f_13 => ((gR h_11 a0 7 2).bind (fun f_15 => ((sC h_11 f_13 (0 : Int32) f_15 (0 : Int32) (8 : Int32)).bind (fun h_17 => ((gR h_17 a1 7 3).bind (fun f_19 => ((gR h_17 a0 7 3).bind (fun f_21 => ((sC h_17 f_19 (0 : Int32) f_21 (0 : Int32) (8 : Int32)).bind (fun h_23 => ((gR h_23 a1 7 4).bind (fun f_25 => ((gR h_23 a0 7 4).bind (fun f_27 => ((sC h_23 f_25 (0 : Int32) f_27 (0 : Int32) (8 : Int32)).bind (fun h_29 => ((gR h_29 a1 7 5).bind (fun f_31 => ((gR h_29 a0 7 5).bind (fun f_33 => ((sC h_29 f_31 (0 : Int32) f_33 (0 : Int32) (8 : Int32)).bind (fun h_35 => ((gR h_35 a1 7 6).bind (fun f_37 => ((gR h_35 a0 7 6).bind (fun f_39 => ((sC h_35 f_37 (0 : Int32) f_39 (0 : Int32) (5 : Int32)).bind (fun h_41 => ((gR h_41 a1 7 7).bind (fun f_43 => ((gR h_41 a0 7 7).bind (fun f_45 => ((sC h_41 f_43 (0 : Int32) f_45 (0 : Int32) (5 : Int32)).bind (fun h_47 => ((gI h_47 a1 7 8).bind (fun f_49 => ((sF h_47 a0 7 8 (.int f_49)).bind (fun h_51 => ((gI h_51 a1 7 9).bind (fun f_53 => ((sF h_51 a0 7 9 (.int f_53)).bind (fun h_55 => ((gI h_55 a1 7 10).bind (fun f_57 => ((sF h_55 a0 7 10 (.int f_57)).bind (fun h_59 => ((gI h_59 a1 7 11).bind (fun f_61 => ((sF h_59 a0 7 11 (.int f_61)).bind (fun h_63 => ((gI h_63 a1 7 12).bind (fun f_65 => ((sF h_63 a0 7 12 (.int f_65)).bind (fun h_67 => ((gI h_67 a1 7 13).bind (fun f_69 => ((sF h_67 a0 7 13 (.int f_69)).bind (fun h_71 => some h_71))))))))))))))))))))))))))))))))))))))))))))))))))))))))))))))))))))))))
set_option maxHeartbeats 4000000 in
set_option maxRecDepth 100000 in
theorem d_72_ok {X : aX} {g : Nat} {a0 : Nat} {a1 : Nat} {h0 : aH} {zz : aH} {d : Nat} (hdp : 0 ≤ d) (hd : d_72 g a0 a1 h0 = some zz) : aWp X d 72 0 (aEntL [.ref a0, .ref a1] 2) [] h0 (fun w h' => w = none ∧ h' = zz) := by
  unfold d_72 at hd
  refine wp_lv (l2 := [some (.ref a0), some (.ref a1)]) rfl ?_
  refine wp_s 1 [some (.ref a0), some (.ref a1)] [.ref a1] h0 i_72_0 rfl ?_
  obtain ⟨f_1, q_2, hd⟩ := dk_bind hd
  refine hp_gR 4 rfl i_72_1 q_2 ?_
  refine wp_s 5 [some (.ref a0), some (.ref a1)] [.int (0 : Int32), .ref f_1] h0 i_72_4 rfl ?_
  refine wp_s 6 [some (.ref a0), some (.ref a1)] [.ref a0, .int (0 : Int32), .ref f_1] h0 i_72_5 rfl ?_
  obtain ⟨f_3, q_4, hd⟩ := dk_bind hd
  refine hp_gR 9 rfl i_72_6 q_4 ?_
  refine wp_s 10 [some (.ref a0), some (.ref a1)] [.int (0 : Int32), .ref f_3, .int (0 : Int32), .ref f_1] h0 i_72_9 rfl ?_
  refine wp_s 12 [some (.ref a0), some (.ref a1)] [.int (8 : Int32), .int (0 : Int32), .ref f_3, .int (0 : Int32), .ref f_1] h0 i_72_10 rfl ?_
  obtain ⟨h_5, q_6, hd⟩ := dk_bind hd
  refine hp_sC 15 rfl i_72_12 rfl q_6 ?_
  refine wp_s 16 [some (.ref a0), some (.ref a1)] [.ref a1] h_5 i_72_15 rfl ?_
  obtain ⟨f_7, q_8, hd⟩ := dk_bind hd
  refine hp_gR 19 rfl i_72_16 q_8 ?_
  refine wp_s 20 [some (.ref a0), some (.ref a1)] [.int (0 : Int32), .ref f_7] h_5 i_72_19 rfl ?_
  refine wp_s 21 [some (.ref a0), some (.ref a1)] [.ref a0, .int (0 : Int32), .ref f_7] h_5 i_72_20 rfl ?_
  obtain ⟨f_9, q_10, hd⟩ := dk_bind hd
  refine hp_gR 24 rfl i_72_21 q_10 ?_
  refine wp_s 25 [some (.ref a0), some (.ref a1)] [.int (0 : Int32), .ref f_9, .int (0 : Int32), .ref f_7] h_5 i_72_24 rfl ?_
  refine wp_s 27 [some (.ref a0), some (.ref a1)] [.int (8 : Int32), .int (0 : Int32), .ref f_9, .int (0 : Int32), .ref f_7] h_5 i_72_25 rfl ?_
  obtain ⟨h_11, q_12, hd⟩ := dk_bind hd
  refine hp_sC 30 rfl i_72_27 rfl q_12 ?_
  refine wp_s 31 [some (.ref a0), some (.ref a1)] [.ref a1] h_11 i_72_30 rfl ?_
  obtain ⟨f_13, q_14, hd⟩ := dk_bind hd
  refine hp_gR 34 rfl i_72_31 q_14 ?_
  refine wp_s 35 [some (.ref a0), some (.ref a1)] [.int (0 : Int32), .ref f_13] h_11 i_72_34 rfl ?_
  refine wp_s 36 [some (.ref a0), some (.ref a1)] [.ref a0, .int (0 : Int32), .ref f_13] h_11 i_72_35 rfl ?_
  obtain ⟨f_15, q_16, hd⟩ := dk_bind hd
  refine hp_gR 39 rfl i_72_36 q_16 ?_
  refine wp_s 40 [some (.ref a0), some (.ref a1)] [.int (0 : Int32), .ref f_15, .int (0 : Int32), .ref f_13] h_11 i_72_39 rfl ?_
  refine wp_s 42 [some (.ref a0), some (.ref a1)] [.int (8 : Int32), .int (0 : Int32), .ref f_15, .int (0 : Int32), .ref f_13] h_11 i_72_40 rfl ?_
  obtain ⟨h_17, q_18, hd⟩ := dk_bind hd
  refine hp_sC 45 rfl i_72_42 rfl q_18 ?_
  refine wp_s 46 [some (.ref a0), some (.ref a1)] [.ref a1] h_17 i_72_45 rfl ?_
  obtain ⟨f_19, q_20, hd⟩ := dk_bind hd
  refine hp_gR 49 rfl i_72_46 q_20 ?_
  refine wp_s 50 [some (.ref a0), some (.ref a1)] [.int (0 : Int32), .ref f_19] h_17 i_72_49 rfl ?_
  refine wp_s 51 [some (.ref a0), some (.ref a1)] [.ref a0, .int (0 : Int32), .ref f_19] h_17 i_72_50 rfl ?_
  obtain ⟨f_21, q_22, hd⟩ := dk_bind hd
  refine hp_gR 54 rfl i_72_51 q_22 ?_
  refine wp_s 55 [some (.ref a0), some (.ref a1)] [.int (0 : Int32), .ref f_21, .int (0 : Int32), .ref f_19] h_17 i_72_54 rfl ?_
  refine wp_s 57 [some (.ref a0), some (.ref a1)] [.int (8 : Int32), .int (0 : Int32), .ref f_21, .int (0 : Int32), .ref f_19] h_17 i_72_55 rfl ?_
  obtain ⟨h_23, q_24, hd⟩ := dk_bind hd
  refine hp_sC 60 rfl i_72_57 rfl q_24 ?_
  refine wp_s 61 [some (.ref a0), some (.ref a1)] [.ref a1] h_23 i_72_60 rfl ?_
  obtain ⟨f_25, q_26, hd⟩ := dk_bind hd
  refine hp_gR 64 rfl i_72_61 q_26 ?_
  refine wp_s 65 [some (.ref a0), some (.ref a1)] [.int (0 : Int32), .ref f_25] h_23 i_72_64 rfl ?_
  refine wp_s 66 [some (.ref a0), some (.ref a1)] [.ref a0, .int (0 : Int32), .ref f_25] h_23 i_72_65 rfl ?_
  obtain ⟨f_27, q_28, hd⟩ := dk_bind hd
  refine hp_gR 69 rfl i_72_66 q_28 ?_
  refine wp_s 70 [some (.ref a0), some (.ref a1)] [.int (0 : Int32), .ref f_27, .int (0 : Int32), .ref f_25] h_23 i_72_69 rfl ?_
  refine wp_s 72 [some (.ref a0), some (.ref a1)] [.int (8 : Int32), .int (0 : Int32), .ref f_27, .int (0 : Int32), .ref f_25] h_23 i_72_70 rfl ?_
  obtain ⟨h_29, q_30, hd⟩ := dk_bind hd
  refine hp_sC 75 rfl i_72_72 rfl q_30 ?_
  refine wp_s 76 [some (.ref a0), some (.ref a1)] [.ref a1] h_29 i_72_75 rfl ?_
  obtain ⟨f_31, q_32, hd⟩ := dk_bind hd
  refine hp_gR 79 rfl i_72_76 q_32 ?_
  refine wp_s 80 [some (.ref a0), some (.ref a1)] [.int (0 : Int32), .ref f_31] h_29 i_72_79 rfl ?_
  refine wp_s 81 [some (.ref a0), some (.ref a1)] [.ref a0, .int (0 : Int32), .ref f_31] h_29 i_72_80 rfl ?_
  obtain ⟨f_33, q_34, hd⟩ := dk_bind hd
  refine hp_gR 84 rfl i_72_81 q_34 ?_
  refine wp_s 85 [some (.ref a0), some (.ref a1)] [.int (0 : Int32), .ref f_33, .int (0 : Int32), .ref f_31] h_29 i_72_84 rfl ?_
  refine wp_s 87 [some (.ref a0), some (.ref a1)] [.int (8 : Int32), .int (0 : Int32), .ref f_33, .int (0 : Int32), .ref f_31] h_29 i_72_85 rfl ?_
  obtain ⟨h_35, q_36, hd⟩ := dk_bind hd
  refine hp_sC 90 rfl i_72_87 rfl q_36 ?_
  refine wp_s 91 [some (.ref a0), some (.ref a1)] [.ref a1] h_35 i_72_90 rfl ?_
  obtain ⟨f_37, q_38, hd⟩ := dk_bind hd
  refine hp_gR 94 rfl i_72_91 q_38 ?_
  refine wp_s 95 [some (.ref a0), some (.ref a1)] [.int (0 : Int32), .ref f_37] h_35 i_72_94 rfl ?_
  refine wp_s 96 [some (.ref a0), some (.ref a1)] [.ref a0, .int (0 : Int32), .ref f_37] h_35 i_72_95 rfl ?_
  obtain ⟨f_39, q_40, hd⟩ := dk_bind hd
  refine hp_gR 99 rfl i_72_96 q_40 ?_
  refine wp_s 100 [some (.ref a0), some (.ref a1)] [.int (0 : Int32), .ref f_39, .int (0 : Int32), .ref f_37] h_35 i_72_99 rfl ?_
  refine wp_s 101 [some (.ref a0), some (.ref a1)] [.int (5 : Int32), .int (0 : Int32), .ref f_39, .int (0 : Int32), .ref f_37] h_35 i_72_100 rfl ?_
  obtain ⟨h_41, q_42, hd⟩ := dk_bind hd
  refine hp_sC 104 rfl i_72_101 rfl q_42 ?_
  refine wp_s 105 [some (.ref a0), some (.ref a1)] [.ref a1] h_41 i_72_104 rfl ?_
  obtain ⟨f_43, q_44, hd⟩ := dk_bind hd
  refine hp_gR 108 rfl i_72_105 q_44 ?_
  refine wp_s 109 [some (.ref a0), some (.ref a1)] [.int (0 : Int32), .ref f_43] h_41 i_72_108 rfl ?_
  refine wp_s 110 [some (.ref a0), some (.ref a1)] [.ref a0, .int (0 : Int32), .ref f_43] h_41 i_72_109 rfl ?_
  obtain ⟨f_45, q_46, hd⟩ := dk_bind hd
  refine hp_gR 113 rfl i_72_110 q_46 ?_
  refine wp_s 114 [some (.ref a0), some (.ref a1)] [.int (0 : Int32), .ref f_45, .int (0 : Int32), .ref f_43] h_41 i_72_113 rfl ?_
  refine wp_s 115 [some (.ref a0), some (.ref a1)] [.int (5 : Int32), .int (0 : Int32), .ref f_45, .int (0 : Int32), .ref f_43] h_41 i_72_114 rfl ?_
  obtain ⟨h_47, q_48, hd⟩ := dk_bind hd
  refine hp_sC 118 rfl i_72_115 rfl q_48 ?_
  refine wp_s 119 [some (.ref a0), some (.ref a1)] [.ref a0] h_47 i_72_118 rfl ?_
  refine wp_s 120 [some (.ref a0), some (.ref a1)] [.ref a1, .ref a0] h_47 i_72_119 rfl ?_
  obtain ⟨f_49, q_50, hd⟩ := dk_bind hd
  refine hp_gI 123 rfl i_72_120 q_50 ?_
  obtain ⟨h_51, q_52, hd⟩ := dk_bind hd
  refine hp_sF 126 rfl i_72_123 q_52 ?_
  refine wp_s 127 [some (.ref a0), some (.ref a1)] [.ref a0] h_51 i_72_126 rfl ?_
  refine wp_s 128 [some (.ref a0), some (.ref a1)] [.ref a1, .ref a0] h_51 i_72_127 rfl ?_
  obtain ⟨f_53, q_54, hd⟩ := dk_bind hd
  refine hp_gI 131 rfl i_72_128 q_54 ?_
  obtain ⟨h_55, q_56, hd⟩ := dk_bind hd
  refine hp_sF 134 rfl i_72_131 q_56 ?_
  refine wp_s 135 [some (.ref a0), some (.ref a1)] [.ref a0] h_55 i_72_134 rfl ?_
  refine wp_s 136 [some (.ref a0), some (.ref a1)] [.ref a1, .ref a0] h_55 i_72_135 rfl ?_
  obtain ⟨f_57, q_58, hd⟩ := dk_bind hd
  refine hp_gI 139 rfl i_72_136 q_58 ?_
  obtain ⟨h_59, q_60, hd⟩ := dk_bind hd
  refine hp_sF 142 rfl i_72_139 q_60 ?_
  refine wp_s 143 [some (.ref a0), some (.ref a1)] [.ref a0] h_59 i_72_142 rfl ?_
  refine wp_s 144 [some (.ref a0), some (.ref a1)] [.ref a1, .ref a0] h_59 i_72_143 rfl ?_
  obtain ⟨f_61, q_62, hd⟩ := dk_bind hd
  refine hp_gI 147 rfl i_72_144 q_62 ?_
  obtain ⟨h_63, q_64, hd⟩ := dk_bind hd
  refine hp_sF 150 rfl i_72_147 q_64 ?_
  refine wp_s 151 [some (.ref a0), some (.ref a1)] [.ref a0] h_63 i_72_150 rfl ?_
  refine wp_s 152 [some (.ref a0), some (.ref a1)] [.ref a1, .ref a0] h_63 i_72_151 rfl ?_
  obtain ⟨f_65, q_66, hd⟩ := dk_bind hd
  refine hp_gI 155 rfl i_72_152 q_66 ?_
  obtain ⟨h_67, q_68, hd⟩ := dk_bind hd
  refine hp_sF 158 rfl i_72_155 q_68 ?_
  refine wp_s 159 [some (.ref a0), some (.ref a1)] [.ref a0] h_67 i_72_158 rfl ?_
  refine wp_s 160 [some (.ref a0), some (.ref a1)] [.ref a1, .ref a0] h_67 i_72_159 rfl ?_
  obtain ⟨f_69, q_70, hd⟩ := dk_bind hd
  refine hp_gI 163 rfl i_72_160 q_70 ?_
  obtain ⟨h_71, q_72, hd⟩ := dk_bind hd
  refine hp_sF 166 rfl i_72_163 q_72 ?_
  obtain rfl := Option.some.inj hd
  exact wp_ret i_72_166 rfl ⟨rfl, rfl⟩
def d_8 (g : Nat) (a0 : Nat) (a1 : Nat) (h0 : aH) : Option (aH) := ((gR h0 a0 1 0).bind (fun f_1 => ((gI h0 a0 1 1).bind (fun f_3 => ((gQ h0 f_1 f_3).bind (fun f_5 => (if isO h0 f_5 7 = true then ((d_72 g f_5 a1 h0).bind (fun z_10 => ((gI z_10 a0 1 1).bind (fun f_14 => (if ¬ (20 : Int32) = 0 then ((sF z_10 a0 1 1 (.int ((f_14 + (1 : Int32)) - (f_14 + (1 : Int32)) / (20 : Int32) * (20 : Int32)))).bind (fun h_17 => ((gI h_17 a0 1 2).bind (fun f_19 => ((sF h_17 a0 1 2 (.int (if (f_19 + (1 : Int32)) < (20 : Int32) then (f_19 + (1 : Int32)) else (20 : Int32)))).bind (fun h_21 => some h_21)))))) else none))))) else none)))))))
set_option maxHeartbeats 4000000 in
set_option maxRecDepth 100000 in
theorem d_8_ok {X : aX} {g : Nat} {a0 : Nat} {a1 : Nat} {h0 : aH} {zz : aH} {d : Nat} (hdp : 1 ≤ d) (hd : d_8 g a0 a1 h0 = some zz) : aWp X d 8 0 (aEntL [.ref a0, .ref a1] 2) [] h0 (fun w h' => w = none ∧ h' = zz) := by
  unfold d_8 at hd
  refine wp_lv (l2 := [some (.ref a0), some (.ref a1)]) rfl ?_
  obtain ⟨e, rfl⟩ : ∃ e, d = e + 1 := ⟨d - 1, by omega⟩
  refine wp_s 1 [some (.ref a0), some (.ref a1)] [.ref a0] h0 i_8_0 rfl ?_
  obtain ⟨f_1, q_2, hd⟩ := dk_bind hd
  refine hp_gR 4 rfl i_8_1 q_2 ?_
  refine wp_s 5 [some (.ref a0), some (.ref a1)] [.ref a0, .ref f_1] h0 i_8_4 rfl ?_
  obtain ⟨f_3, q_4, hd⟩ := dk_bind hd
  refine hp_gI 8 rfl i_8_5 q_4 ?_
  obtain ⟨f_5, q_6, hd⟩ := dk_bind hd
  refine hp_gQ 9 rfl i_8_8 q_6 ?_
  refine wp_s 10 [some (.ref a0), some (.ref a1)] [.ref a1, .ref f_5] h0 i_8_9 rfl ?_
  obtain ⟨k_7, hd⟩ := dk_if hd
  obtain ⟨fs_8, o_9⟩ := isO_of k_7
  obtain ⟨z_10, q_11, hd⟩ := dk_bind hd
  refine wp_callV 13 rfl i_8_10 (by decide) rfl (vs := [.ref a1]) (rest := []) rfl rfl rfl o_9 (y := m_72) rfl (Nat.le_of_ble_eq_true rfl) (d_72_ok (d := e) (by omega) q_11) ?_
  rintro v_12 h_13 ⟨rfl, hz⟩
  have hz := hz.symm
  subst hz
  refine wp_s 14 [some (.ref a0), some (.ref a1)] [.ref a0] z_10 i_8_13 rfl ?_
  refine wp_s 15 [some (.ref a0), some (.ref a1)] [.ref a0, .ref a0] z_10 i_8_14 rfl ?_
  obtain ⟨f_14, q_15, hd⟩ := dk_bind hd
  refine hp_gI 18 rfl i_8_15 q_15 ?_
  refine wp_s 19 [some (.ref a0), some (.ref a1)] [.int (1 : Int32), .int f_14, .ref a0] z_10 i_8_18 rfl ?_
  refine wp_s 20 [some (.ref a0), some (.ref a1)] [.int (f_14 + (1 : Int32)), .ref a0] z_10 i_8_19 rfl ?_
  refine wp_s 22 [some (.ref a0), some (.ref a1)] [.int (20 : Int32), .int (f_14 + (1 : Int32)), .ref a0] z_10 i_8_20 rfl ?_
  obtain ⟨k_16, hd⟩ := dk_if hd
  refine wp_irem 23 rfl i_8_22 k_16 ?_
  obtain ⟨h_17, q_18, hd⟩ := dk_bind hd
  refine hp_sF 26 rfl i_8_23 q_18 ?_
  refine wp_s 27 [some (.ref a0), some (.ref a1)] [.ref a0] h_17 i_8_26 rfl ?_
  refine wp_s 29 [some (.ref a0), some (.ref a1)] [.int (20 : Int32), .ref a0] h_17 i_8_27 rfl ?_
  refine wp_s 30 [some (.ref a0), some (.ref a1)] [.ref a0, .int (20 : Int32), .ref a0] h_17 i_8_29 rfl ?_
  obtain ⟨f_19, q_20, hd⟩ := dk_bind hd
  refine hp_gI 33 rfl i_8_30 q_20 ?_
  refine wp_s 34 [some (.ref a0), some (.ref a1)] [.int (1 : Int32), .int f_19, .int (20 : Int32), .ref a0] h_17 i_8_33 rfl ?_
  refine wp_s 35 [some (.ref a0), some (.ref a1)] [.int (f_19 + (1 : Int32)), .int (20 : Int32), .ref a0] h_17 i_8_34 rfl ?_
  refine hp_min 38 rfl i_8_35 rfl ?_
  obtain ⟨h_21, q_22, hd⟩ := dk_bind hd
  refine hp_sF 41 rfl i_8_38 q_22 ?_
  obtain rfl := Option.some.inj hd
  exact wp_ret i_8_41 rfl ⟨rfl, rfl⟩
def d_9 (g : Nat) (a0 : Nat) (a1 : Nat) (h0 : aH) : Option (aH) := ((gI h0 a0 1 1).bind (fun f_1 => (if ¬ (20 : Int32) = 0 then ((sF h0 a0 1 1 (.int (((f_1 + (20 : Int32)) - (1 : Int32)) - ((f_1 + (20 : Int32)) - (1 : Int32)) / (20 : Int32) * (20 : Int32)))).bind (fun h_4 => ((gI h_4 a0 1 2).bind (fun f_6 => ((sF h_4 a0 1 2 (.int (f_6 - (1 : Int32)))).bind (fun h_8 => ((gR h_8 a0 1 0).bind (fun f_10 => ((gI h_8 a0 1 1).bind (fun f_12 => ((gQ h_8 f_10 f_12).bind (fun f_14 => (if isO h_8 a1 7 = true then ((d_72 g a1 f_14 h_8).bind (fun z_19 => some z_19)) else none))))))))))))) else none)))
set_option maxHeartbeats 4000000 in
set_option maxRecDepth 100000 in
theorem d_9_ok {X : aX} {g : Nat} {a0 : Nat} {a1 : Nat} {h0 : aH} {zz : aH} {d : Nat} (hdp : 1 ≤ d) (hd : d_9 g a0 a1 h0 = some zz) : aWp X d 9 0 (aEntL [.ref a0, .ref a1] 2) [] h0 (fun w h' => w = none ∧ h' = zz) := by
  unfold d_9 at hd
  refine wp_lv (l2 := [some (.ref a0), some (.ref a1)]) rfl ?_
  obtain ⟨e, rfl⟩ : ∃ e, d = e + 1 := ⟨d - 1, by omega⟩
  refine wp_s 1 [some (.ref a0), some (.ref a1)] [.ref a0] h0 i_9_0 rfl ?_
  refine wp_s 2 [some (.ref a0), some (.ref a1)] [.ref a0, .ref a0] h0 i_9_1 rfl ?_
  obtain ⟨f_1, q_2, hd⟩ := dk_bind hd
  refine hp_gI 5 rfl i_9_2 q_2 ?_
  refine wp_s 7 [some (.ref a0), some (.ref a1)] [.int (20 : Int32), .int f_1, .ref a0] h0 i_9_5 rfl ?_
  refine wp_s 8 [some (.ref a0), some (.ref a1)] [.int (f_1 + (20 : Int32)), .ref a0] h0 i_9_7 rfl ?_
  refine wp_s 9 [some (.ref a0), some (.ref a1)] [.int (1 : Int32), .int (f_1 + (20 : Int32)), .ref a0] h0 i_9_8 rfl ?_
  refine wp_s 10 [some (.ref a0), some (.ref a1)] [.int ((f_1 + (20 : Int32)) - (1 : Int32)), .ref a0] h0 i_9_9 rfl ?_
  refine wp_s 12 [some (.ref a0), some (.ref a1)] [.int (20 : Int32), .int ((f_1 + (20 : Int32)) - (1 : Int32)), .ref a0] h0 i_9_10 rfl ?_
  obtain ⟨k_3, hd⟩ := dk_if hd
  refine wp_irem 13 rfl i_9_12 k_3 ?_
  obtain ⟨h_4, q_5, hd⟩ := dk_bind hd
  refine hp_sF 16 rfl i_9_13 q_5 ?_
  refine wp_s 17 [some (.ref a0), some (.ref a1)] [.ref a0] h_4 i_9_16 rfl ?_
  refine wp_s 18 [some (.ref a0), some (.ref a1)] [.ref a0, .ref a0] h_4 i_9_17 rfl ?_
  obtain ⟨f_6, q_7, hd⟩ := dk_bind hd
  refine hp_gI 21 rfl i_9_18 q_7 ?_
  refine wp_s 22 [some (.ref a0), some (.ref a1)] [.int (1 : Int32), .int f_6, .ref a0] h_4 i_9_21 rfl ?_
  refine wp_s 23 [some (.ref a0), some (.ref a1)] [.int (f_6 - (1 : Int32)), .ref a0] h_4 i_9_22 rfl ?_
  obtain ⟨h_8, q_9, hd⟩ := dk_bind hd
  refine hp_sF 26 rfl i_9_23 q_9 ?_
  refine wp_s 27 [some (.ref a0), some (.ref a1)] [.ref a1] h_8 i_9_26 rfl ?_
  refine wp_s 28 [some (.ref a0), some (.ref a1)] [.ref a0, .ref a1] h_8 i_9_27 rfl ?_
  obtain ⟨f_10, q_11, hd⟩ := dk_bind hd
  refine hp_gR 31 rfl i_9_28 q_11 ?_
  refine wp_s 32 [some (.ref a0), some (.ref a1)] [.ref a0, .ref f_10, .ref a1] h_8 i_9_31 rfl ?_
  obtain ⟨f_12, q_13, hd⟩ := dk_bind hd
  refine hp_gI 35 rfl i_9_32 q_13 ?_
  obtain ⟨f_14, q_15, hd⟩ := dk_bind hd
  refine hp_gQ 36 rfl i_9_35 q_15 ?_
  obtain ⟨k_16, hd⟩ := dk_if hd
  obtain ⟨fs_17, o_18⟩ := isO_of k_16
  obtain ⟨z_19, q_20, hd⟩ := dk_bind hd
  refine wp_callV 39 rfl i_9_36 (by decide) rfl (vs := [.ref f_14]) (rest := []) rfl rfl rfl o_18 (y := m_72) rfl (Nat.le_of_ble_eq_true rfl) (d_72_ok (d := e) (by omega) q_20) ?_
  rintro v_21 h_22 ⟨rfl, hz⟩
  have hz := hz.symm
  subst hz
  obtain rfl := Option.some.inj hd
  exact wp_ret i_9_39 rfl ⟨rfl, rfl⟩
def d_10 (g : Nat) (a0 : Nat) (h0 : aH) : Option (aH) := ((sF h0 a0 1 2 (.int (0 : Int32))).bind (fun h_1 => some h_1))
set_option maxHeartbeats 4000000 in
set_option maxRecDepth 100000 in
theorem d_10_ok {X : aX} {g : Nat} {a0 : Nat} {h0 : aH} {zz : aH} {d : Nat} (hdp : 0 ≤ d) (hd : d_10 g a0 h0 = some zz) : aWp X d 10 0 (aEntL [.ref a0] 1) [] h0 (fun w h' => w = none ∧ h' = zz) := by
  unfold d_10 at hd
  refine wp_lv (l2 := [some (.ref a0)]) rfl ?_
  refine wp_s 1 [some (.ref a0)] [.ref a0] h0 i_10_0 rfl ?_
  refine wp_s 2 [some (.ref a0)] [.int (0 : Int32), .ref a0] h0 i_10_1 rfl ?_
  obtain ⟨h_1, q_2, hd⟩ := dk_bind hd
  refine hp_sF 5 rfl i_10_2 q_2 ?_
  obtain rfl := Option.some.inj hd
  exact wp_ret i_10_5 rfl ⟨rfl, rfl⟩
def d_11 (g : Nat) (a0 : Nat) (a1 : Nat) (a2 : Nat) (h0 : aH) : Option (aH) := (if isO (nO h0 0) (h0).length 0 = true then ((d_0 g (h0).length (nO h0 0)).bind (fun z_4 => ((sF z_4 a0 2 2 (.ref (h0).length)).bind (fun h_8 => ((sF (nA h_8 0 8) a0 2 3 (.ref (h_8).length)).bind (fun h_10 => ((sF (nA h_10 0 8) a0 2 4 (.ref (h_10).length)).bind (fun h_12 => ((sF (nA h_12 0 6) a0 2 5 (.ref (h_12).length)).bind (fun h_14 => ((sF (nA h_14 0 30) a0 2 6 (.ref (h_14).length)).bind (fun h_16 => ((sF (nA h_16 0 8) a0 2 7 (.ref (h_16).length)).bind (fun h_18 => ((sF (nA h_18 0 7) a0 2 8 (.ref (h_18).length)).bind (fun h_20 => ((sF (nA h_20 0 7) a0 2 9 (.ref (h_20).length)).bind (fun h_22 => (if isO (nO h_22 7) (h_22).length 7 = true then ((d_70 g (h_22).length (nO h_22 7)).bind (fun z_27 => ((sF z_27 a0 2 10 (.ref (h_22).length)).bind (fun h_31 => ((sF h_31 a0 2 0 (.ref a1)).bind (fun h_33 => ((sF h_33 a0 2 1 (.ref a2)).bind (fun h_35 => some h_35)))))))) else none))))))))))))))))))) else none)
set_option maxHeartbeats 4000000 in
set_option maxRecDepth 100000 in
theorem d_11_ok {X : aX} {g : Nat} {a0 : Nat} {a1 : Nat} {a2 : Nat} {h0 : aH} {zz : aH} {d : Nat} (hdp : 1 ≤ d) (hd : d_11 g a0 a1 a2 h0 = some zz) : aWp X d 11 0 (aEntL [.ref a0, .ref a1, .ref a2] 3) [] h0 (fun w h' => w = none ∧ h' = zz) := by
  unfold d_11 at hd
  refine wp_lv (l2 := [some (.ref a0), some (.ref a1), some (.ref a2)]) rfl ?_
  obtain ⟨e, rfl⟩ : ∃ e, d = e + 1 := ⟨d - 1, by omega⟩
  refine wp_s 1 [some (.ref a0), some (.ref a1), some (.ref a2)] [.ref a0] h0 i_11_0 rfl ?_
  refine hp_obj 4 rfl i_11_1 rfl ?_
  refine wp_s 5 [some (.ref a0), some (.ref a1), some (.ref a2)] [.ref a0] h0 i_11_4 rfl ?_
  refine wp_s 8 [some (.ref a0), some (.ref a1), some (.ref a2)] [.ref (h0).length, .ref a0] (nO h0 0) i_11_5 rfl ?_
  refine wp_s 9 [some (.ref a0), some (.ref a1), some (.ref a2)] [.ref (h0).length, .ref (h0).length, .ref a0] (nO h0 0) i_11_8 rfl ?_
  obtain ⟨k_1, hd⟩ := dk_if hd
  obtain ⟨fs_2, o_3⟩ := isO_of k_1
  obtain ⟨z_4, q_5, hd⟩ := dk_bind hd
  refine wp_callI 12 rfl i_11_9 (by decide) rfl (vs := []) (rest := [.ref (h0).length, .ref a0]) rfl rfl rfl o_3 (y := m_0) rfl (Nat.le_of_ble_eq_true rfl) (d_0_ok (d := e) (by omega) q_5) ?_
  rintro v_6 h_7 ⟨rfl, hz⟩
  have hz := hz.symm
  subst hz
  obtain ⟨h_8, q_9, hd⟩ := dk_bind hd
  refine hp_sF 15 rfl i_11_12 q_9 ?_
  refine wp_s 16 [some (.ref a0), some (.ref a1), some (.ref a2)] [.ref a0] h_8 i_11_15 rfl ?_
  refine wp_s 18 [some (.ref a0), some (.ref a1), some (.ref a2)] [.int (8 : Int32), .ref a0] h_8 i_11_16 rfl ?_
  refine hp_newa (N := 8) 20 rfl i_11_18 (by decide) (by decide) (by decide) ?_
  obtain ⟨h_10, q_11, hd⟩ := dk_bind hd
  refine hp_sF 23 rfl i_11_20 q_11 ?_
  refine wp_s 24 [some (.ref a0), some (.ref a1), some (.ref a2)] [.ref a0] h_10 i_11_23 rfl ?_
  refine wp_s 26 [some (.ref a0), some (.ref a1), some (.ref a2)] [.int (8 : Int32), .ref a0] h_10 i_11_24 rfl ?_
  refine hp_newa (N := 8) 28 rfl i_11_26 (by decide) (by decide) (by decide) ?_
  obtain ⟨h_12, q_13, hd⟩ := dk_bind hd
  refine hp_sF 31 rfl i_11_28 q_13 ?_
  refine wp_s 32 [some (.ref a0), some (.ref a1), some (.ref a2)] [.ref a0] h_12 i_11_31 rfl ?_
  refine wp_s 34 [some (.ref a0), some (.ref a1), some (.ref a2)] [.int (6 : Int32), .ref a0] h_12 i_11_32 rfl ?_
  refine hp_newa (N := 6) 36 rfl i_11_34 (by decide) (by decide) (by decide) ?_
  obtain ⟨h_14, q_15, hd⟩ := dk_bind hd
  refine hp_sF 39 rfl i_11_36 q_15 ?_
  refine wp_s 40 [some (.ref a0), some (.ref a1), some (.ref a2)] [.ref a0] h_14 i_11_39 rfl ?_
  refine wp_s 42 [some (.ref a0), some (.ref a1), some (.ref a2)] [.int (30 : Int32), .ref a0] h_14 i_11_40 rfl ?_
  refine hp_newa (N := 30) 44 rfl i_11_42 (by decide) (by decide) (by decide) ?_
  obtain ⟨h_16, q_17, hd⟩ := dk_bind hd
  refine hp_sF 47 rfl i_11_44 q_17 ?_
  refine wp_s 48 [some (.ref a0), some (.ref a1), some (.ref a2)] [.ref a0] h_16 i_11_47 rfl ?_
  refine wp_s 50 [some (.ref a0), some (.ref a1), some (.ref a2)] [.int (8 : Int32), .ref a0] h_16 i_11_48 rfl ?_
  refine hp_newa (N := 8) 52 rfl i_11_50 (by decide) (by decide) (by decide) ?_
  obtain ⟨h_18, q_19, hd⟩ := dk_bind hd
  refine hp_sF 55 rfl i_11_52 q_19 ?_
  refine wp_s 56 [some (.ref a0), some (.ref a1), some (.ref a2)] [.ref a0] h_18 i_11_55 rfl ?_
  refine wp_s 58 [some (.ref a0), some (.ref a1), some (.ref a2)] [.int (7 : Int32), .ref a0] h_18 i_11_56 rfl ?_
  refine hp_newa (N := 7) 60 rfl i_11_58 (by decide) (by decide) (by decide) ?_
  obtain ⟨h_20, q_21, hd⟩ := dk_bind hd
  refine hp_sF 63 rfl i_11_60 q_21 ?_
  refine wp_s 64 [some (.ref a0), some (.ref a1), some (.ref a2)] [.ref a0] h_20 i_11_63 rfl ?_
  refine wp_s 66 [some (.ref a0), some (.ref a1), some (.ref a2)] [.int (7 : Int32), .ref a0] h_20 i_11_64 rfl ?_
  refine hp_newa (N := 7) 68 rfl i_11_66 (by decide) (by decide) (by decide) ?_
  obtain ⟨h_22, q_23, hd⟩ := dk_bind hd
  refine hp_sF 71 rfl i_11_68 q_23 ?_
  refine wp_s 72 [some (.ref a0), some (.ref a1), some (.ref a2)] [.ref a0] h_22 i_11_71 rfl ?_
  refine wp_s 75 [some (.ref a0), some (.ref a1), some (.ref a2)] [.ref (h_22).length, .ref a0] (nO h_22 7) i_11_72 rfl ?_
  refine wp_s 76 [some (.ref a0), some (.ref a1), some (.ref a2)] [.ref (h_22).length, .ref (h_22).length, .ref a0] (nO h_22 7) i_11_75 rfl ?_
  obtain ⟨k_24, hd⟩ := dk_if hd
  obtain ⟨fs_25, o_26⟩ := isO_of k_24
  obtain ⟨z_27, q_28, hd⟩ := dk_bind hd
  refine wp_callI 79 rfl i_11_76 (by decide) rfl (vs := []) (rest := [.ref (h_22).length, .ref a0]) rfl rfl rfl o_26 (y := m_70) rfl (Nat.le_of_ble_eq_true rfl) (d_70_ok (d := e) (by omega) q_28) ?_
  rintro v_29 h_30 ⟨rfl, hz⟩
  have hz := hz.symm
  subst hz
  obtain ⟨h_31, q_32, hd⟩ := dk_bind hd
  refine hp_sF 82 rfl i_11_79 q_32 ?_
  refine wp_s 83 [some (.ref a0), some (.ref a1), some (.ref a2)] [.ref a0] h_31 i_11_82 rfl ?_
  refine wp_s 84 [some (.ref a0), some (.ref a1), some (.ref a2)] [.ref a1, .ref a0] h_31 i_11_83 rfl ?_
  obtain ⟨h_33, q_34, hd⟩ := dk_bind hd
  refine hp_sF 87 rfl i_11_84 q_34 ?_
  refine wp_s 88 [some (.ref a0), some (.ref a1), some (.ref a2)] [.ref a0] h_33 i_11_87 rfl ?_
  refine wp_s 89 [some (.ref a0), some (.ref a1), some (.ref a2)] [.ref a2, .ref a0] h_33 i_11_88 rfl ?_
  obtain ⟨h_35, q_36, hd⟩ := dk_bind hd
  refine hp_sF 92 rfl i_11_89 q_36 ?_
  obtain rfl := Option.some.inj hd
  exact wp_ret i_11_92 rfl ⟨rfl, rfl⟩
def l_73 (g n tag : Nat) (a0 : Nat) (x1 : Int32) (x2 : Int32) (h0 : aH) : Option (Int32 × aH) := match n with
  | 0 => none
  | n + 1 => if tag = 0 then (if (8 : Int32) ≤ x2 then some (x1, h0) else ((gR h0 a0 7 0).bind (fun f_2 => ((gA h0 f_2 x2).bind (fun f_4 => (l_73 g n 0 a0 (x1 + f_4) (x2 + (1 : Int32)) h0)))))) else none
set_option maxHeartbeats 4000000 in
set_option maxRecDepth 100000 in
theorem l_73_ok {X : aX} {g : Nat} {d : Nat} (hdp : 0 ≤ d) : ∀ n, (∀ (a0 : Nat) (x1 : Int32) (x2 : Int32) (h0 : aH) (zz : Int32 × aH), l_73 g n 0 a0 x1 x2 h0 = some zz → aWp X d 73 4 [some (.ref a0), some (.int x1), some (.int x2)] [] h0 (fun w h' => w = some (.int zz.1) ∧ h' = zz.2)) := by
  intro n
  induction n with
  | zero => exact fun _ _ _ _ _ hd => by simp [l_73] at hd
  | succ n ih =>
    intro a0 x1 x2 h0 zz hd
    unfold l_73 at hd
    rw [if_pos rfl] at hd
    refine wp_s 5 [some (.ref a0), some (.int x1), some (.int x2)] [.int x2] h0 i_73_4 rfl ?_
    refine wp_s 7 [some (.ref a0), some (.int x1), some (.int x2)] [.int (8 : Int32), .int x2] h0 i_73_5 rfl ?_
    refine wp_cmp_ge 25 10 rfl rfl i_73_7 (fun c_1 => ?_) (fun c_1 => ?_)
    · rw [if_pos c_1] at hd
      refine wp_s 26 [some (.ref a0), some (.int x1), some (.int x2)] [.int x1] h0 i_73_25 rfl ?_
      obtain rfl := Option.some.inj hd
      exact wp_iret i_73_26 ⟨rfl, rfl⟩
    · rw [if_neg c_1] at hd
      refine wp_s 11 [some (.ref a0), some (.int x1), some (.int x2)] [.int x1] h0 i_73_10 rfl ?_
      refine wp_s 12 [some (.ref a0), some (.int x1), some (.int x2)] [.ref a0, .int x1] h0 i_73_11 rfl ?_
      obtain ⟨f_2, q_3, hd⟩ := dk_bind hd
      refine hp_gR 15 rfl i_73_12 q_3 ?_
      refine wp_s 16 [some (.ref a0), some (.int x1), some (.int x2)] [.int x2, .ref f_2, .int x1] h0 i_73_15 rfl ?_
      obtain ⟨f_4, q_5, hd⟩ := dk_bind hd
      refine hp_gA 17 rfl i_73_16 q_5 ?_
      refine wp_s 18 [some (.ref a0), some (.int x1), some (.int x2)] [.int (x1 + f_4)] h0 i_73_17 rfl ?_
      refine wp_s 19 [some (.ref a0), some (.int (x1 + f_4)), some (.int x2)] [] h0 i_73_18 rfl ?_
      refine wp_s 22 [some (.ref a0), some (.int (x1 + f_4)), some (.int (x2 + (1 : Int32)))] [] h0 i_73_19 rfl ?_
      refine wp_s 4 [some (.ref a0), some (.int (x1 + f_4)), some (.int (x2 + (1 : Int32)))] [] h0 i_73_22 rfl ?_
      exact aWp.forget (ih _ _ _ _ _ hd) (lvS (lvS (lvS lvE)))
def d_73 (g : Nat) (a0 : Nat) (h0 : aH) : Option (Int32 × aH) := (l_73 g g 0 a0 (0 : Int32) (0 : Int32) h0)
set_option maxHeartbeats 4000000 in
set_option maxRecDepth 100000 in
theorem d_73_ok {X : aX} {g : Nat} {a0 : Nat} {h0 : aH} {zz : Int32 × aH} {d : Nat} (hdp : 0 ≤ d) (hd : d_73 g a0 h0 = some zz) : aWp X d 73 0 (aEntL [.ref a0] 3) [] h0 (fun w h' => w = some (.int zz.1) ∧ h' = zz.2) := by
  unfold d_73 at hd
  refine wp_lv (l2 := [some (.ref a0), none, none]) rfl ?_
  refine wp_s 1 [some (.ref a0), none, none] [.int (0 : Int32)] h0 i_73_0 rfl ?_
  refine wp_s 2 [some (.ref a0), some (.int (0 : Int32)), none] [] h0 i_73_1 rfl ?_
  refine wp_s 3 [some (.ref a0), some (.int (0 : Int32)), none] [.int (0 : Int32)] h0 i_73_2 rfl ?_
  refine wp_s 4 [some (.ref a0), some (.int (0 : Int32)), some (.int (0 : Int32))] [] h0 i_73_3 rfl ?_
  exact aWp.forget ((l_73_ok hdp g) _ _ _ _ _ hd) (lvS (lvS (lvS lvE)))
def d_43 (g : Nat) (x0 : Int32) (w1 : Int64) (w3 : Int64) (h0 : aH) : Option (Int64 × aH) := (if x0 = (17 : Int32) then some ((w1 ||| w3), h0) else (if x0 = (18 : Int32) then some ((w1 &&& w3), h0) else (if x0 = (19 : Int32) then some ((w1 &&& w3), h0) else (if x0 = (20 : Int32) then some ((w1 &&& w3), h0) else (if x0 = (21 : Int32) then some ((w1 &&& w3), h0) else (if x0 = (22 : Int32) then some ((w1 &&& w3), h0) else (if x0 = (23 : Int32) then some ((w1 &&& w3), h0) else (if x0 = (24 : Int32) then some ((w1 &&& w3), h0) else (if x0 = (25 : Int32) then some ((w1 &&& w3), h0) else (if x0 = (26 : Int32) then some ((w1 + w3), h0) else (if x0 = (27 : Int32) then some ((w1 - w3), h0) else (if x0 = (28 : Int32) then some ((w1 * w3), h0) else (if x0 = (29 : Int32) then (if ¬ (lg_cmp w3 (0 : Int64)) = 0 then (if ¬ w3 = 0 then some ((w1 / w3), h0) else none) else some ((0 : Int64), h0)) else (if x0 = (30 : Int32) then (if ¬ (lg_cmp w3 (0 : Int64)) = 0 then (if ¬ w3 = 0 then some ((w1 - w1 / w3 * w3), h0) else none) else some ((0 : Int64), h0)) else (if x0 = (31 : Int32) then (if 0 ≤ (lg_cmp w1 w3) then some ((0 : Int64), h0) else some ((1 : Int64), h0)) else (if x0 = (32 : Int32) then (if 0 < (lg_cmp w1 w3) then some ((0 : Int64), h0) else some ((1 : Int64), h0)) else (if x0 = (33 : Int32) then (if ¬ (lg_cmp w1 w3) = 0 then some ((0 : Int64), h0) else some ((1 : Int64), h0)) else (if x0 = (34 : Int32) then (if (lg_cmp w1 w3) < 0 then some ((0 : Int64), h0) else some ((1 : Int64), h0)) else (if x0 = (35 : Int32) then (if (lg_cmp w1 w3) ≤ 0 then some ((0 : Int64), h0) else some ((1 : Int64), h0)) else some ((w1 &&& w3), h0))))))))))))))))))))
set_option maxHeartbeats 4000000 in
set_option maxRecDepth 100000 in
theorem d_43_ok {X : aX} {g : Nat} {x0 : Int32} {w1 : Int64} {w3 : Int64} {h0 : aH} {zz : Int64 × aH} {d : Nat} (hdp : 0 ≤ d) (hd : d_43 g x0 w1 w3 h0 = some zz) : aWp X d 43 0 (aEntL [.int x0, .long w1, .long w3] 5) [] h0 (fun w h' => w = some (.long zz.1) ∧ h' = zz.2) := by
  unfold d_43 at hd
  refine wp_lv (l2 := [some (.int x0), some (.long w1), none, some (.long w3), none]) rfl ?_
  refine wp_s 1 [some (.int x0), some (.long w1), none, some (.long w3), none] [.int x0] h0 i_43_0 rfl ?_
  by_cases c_1 : x0 = (17 : Int32)
  · rw [if_pos c_1] at hd
    refine wp_tswC (j := 0) 192 i_43_1 (by rw [c_1]; decide) (by decide) rfl rfl ?_
    refine wp_s 193 [some (.int x0), some (.long w1), none, some (.long w3), none] [.long w1] h0 i_43_192 rfl ?_
    refine wp_s 194 [some (.int x0), some (.long w1), none, some (.long w3), none] [.long w3, .long w1] h0 i_43_193 rfl ?_
    refine wp_s 195 [some (.int x0), some (.long w1), none, some (.long w3), none] [.long (w1 ||| w3)] h0 i_43_194 rfl ?_
    obtain rfl := Option.some.inj hd
    exact wp_ret i_43_195 rfl ⟨rfl, rfl⟩
  rw [if_neg c_1] at hd
  by_cases c_2 : x0 = (18 : Int32)
  · rw [if_pos c_2] at hd
    refine wp_tswC (j := 1) 196 i_43_1 (by rw [c_2]; decide) (by decide) rfl rfl ?_
    refine wp_s 197 [some (.int x0), some (.long w1), none, some (.long w3), none] [.long w1] h0 i_43_196 rfl ?_
    refine wp_s 198 [some (.int x0), some (.long w1), none, some (.long w3), none] [.long w3, .long w1] h0 i_43_197 rfl ?_
    refine wp_s 199 [some (.int x0), some (.long w1), none, some (.long w3), none] [.long (w1 &&& w3)] h0 i_43_198 rfl ?_
    obtain rfl := Option.some.inj hd
    exact wp_ret i_43_199 rfl ⟨rfl, rfl⟩
  rw [if_neg c_2] at hd
  by_cases c_3 : x0 = (19 : Int32)
  · rw [if_pos c_3] at hd
    refine wp_tswC (j := 2) 196 i_43_1 (by rw [c_3]; decide) (by decide) rfl rfl ?_
    refine wp_s 197 [some (.int x0), some (.long w1), none, some (.long w3), none] [.long w1] h0 i_43_196 rfl ?_
    refine wp_s 198 [some (.int x0), some (.long w1), none, some (.long w3), none] [.long w3, .long w1] h0 i_43_197 rfl ?_
    refine wp_s 199 [some (.int x0), some (.long w1), none, some (.long w3), none] [.long (w1 &&& w3)] h0 i_43_198 rfl ?_
    obtain rfl := Option.some.inj hd
    exact wp_ret i_43_199 rfl ⟨rfl, rfl⟩
  rw [if_neg c_3] at hd
  by_cases c_4 : x0 = (20 : Int32)
  · rw [if_pos c_4] at hd
    refine wp_tswC (j := 3) 196 i_43_1 (by rw [c_4]; decide) (by decide) rfl rfl ?_
    refine wp_s 197 [some (.int x0), some (.long w1), none, some (.long w3), none] [.long w1] h0 i_43_196 rfl ?_
    refine wp_s 198 [some (.int x0), some (.long w1), none, some (.long w3), none] [.long w3, .long w1] h0 i_43_197 rfl ?_
    refine wp_s 199 [some (.int x0), some (.long w1), none, some (.long w3), none] [.long (w1 &&& w3)] h0 i_43_198 rfl ?_
    obtain rfl := Option.some.inj hd
    exact wp_ret i_43_199 rfl ⟨rfl, rfl⟩
  rw [if_neg c_4] at hd
  by_cases c_5 : x0 = (21 : Int32)
  · rw [if_pos c_5] at hd
    refine wp_tswC (j := 4) 196 i_43_1 (by rw [c_5]; decide) (by decide) rfl rfl ?_
    refine wp_s 197 [some (.int x0), some (.long w1), none, some (.long w3), none] [.long w1] h0 i_43_196 rfl ?_
    refine wp_s 198 [some (.int x0), some (.long w1), none, some (.long w3), none] [.long w3, .long w1] h0 i_43_197 rfl ?_
    refine wp_s 199 [some (.int x0), some (.long w1), none, some (.long w3), none] [.long (w1 &&& w3)] h0 i_43_198 rfl ?_
    obtain rfl := Option.some.inj hd
    exact wp_ret i_43_199 rfl ⟨rfl, rfl⟩
  rw [if_neg c_5] at hd
  by_cases c_6 : x0 = (22 : Int32)
  · rw [if_pos c_6] at hd
    refine wp_tswC (j := 5) 196 i_43_1 (by rw [c_6]; decide) (by decide) rfl rfl ?_
    refine wp_s 197 [some (.int x0), some (.long w1), none, some (.long w3), none] [.long w1] h0 i_43_196 rfl ?_
    refine wp_s 198 [some (.int x0), some (.long w1), none, some (.long w3), none] [.long w3, .long w1] h0 i_43_197 rfl ?_
    refine wp_s 199 [some (.int x0), some (.long w1), none, some (.long w3), none] [.long (w1 &&& w3)] h0 i_43_198 rfl ?_
    obtain rfl := Option.some.inj hd
    exact wp_ret i_43_199 rfl ⟨rfl, rfl⟩
  rw [if_neg c_6] at hd
  by_cases c_7 : x0 = (23 : Int32)
  · rw [if_pos c_7] at hd
    refine wp_tswC (j := 6) 196 i_43_1 (by rw [c_7]; decide) (by decide) rfl rfl ?_
    refine wp_s 197 [some (.int x0), some (.long w1), none, some (.long w3), none] [.long w1] h0 i_43_196 rfl ?_
    refine wp_s 198 [some (.int x0), some (.long w1), none, some (.long w3), none] [.long w3, .long w1] h0 i_43_197 rfl ?_
    refine wp_s 199 [some (.int x0), some (.long w1), none, some (.long w3), none] [.long (w1 &&& w3)] h0 i_43_198 rfl ?_
    obtain rfl := Option.some.inj hd
    exact wp_ret i_43_199 rfl ⟨rfl, rfl⟩
  rw [if_neg c_7] at hd
  by_cases c_8 : x0 = (24 : Int32)
  · rw [if_pos c_8] at hd
    refine wp_tswC (j := 7) 196 i_43_1 (by rw [c_8]; decide) (by decide) rfl rfl ?_
    refine wp_s 197 [some (.int x0), some (.long w1), none, some (.long w3), none] [.long w1] h0 i_43_196 rfl ?_
    refine wp_s 198 [some (.int x0), some (.long w1), none, some (.long w3), none] [.long w3, .long w1] h0 i_43_197 rfl ?_
    refine wp_s 199 [some (.int x0), some (.long w1), none, some (.long w3), none] [.long (w1 &&& w3)] h0 i_43_198 rfl ?_
    obtain rfl := Option.some.inj hd
    exact wp_ret i_43_199 rfl ⟨rfl, rfl⟩
  rw [if_neg c_8] at hd
  by_cases c_9 : x0 = (25 : Int32)
  · rw [if_pos c_9] at hd
    refine wp_tswC (j := 8) 196 i_43_1 (by rw [c_9]; decide) (by decide) rfl rfl ?_
    refine wp_s 197 [some (.int x0), some (.long w1), none, some (.long w3), none] [.long w1] h0 i_43_196 rfl ?_
    refine wp_s 198 [some (.int x0), some (.long w1), none, some (.long w3), none] [.long w3, .long w1] h0 i_43_197 rfl ?_
    refine wp_s 199 [some (.int x0), some (.long w1), none, some (.long w3), none] [.long (w1 &&& w3)] h0 i_43_198 rfl ?_
    obtain rfl := Option.some.inj hd
    exact wp_ret i_43_199 rfl ⟨rfl, rfl⟩
  rw [if_neg c_9] at hd
  by_cases c_10 : x0 = (26 : Int32)
  · rw [if_pos c_10] at hd
    refine wp_tswC (j := 9) 92 i_43_1 (by rw [c_10]; decide) (by decide) rfl rfl ?_
    refine wp_s 93 [some (.int x0), some (.long w1), none, some (.long w3), none] [.long w1] h0 i_43_92 rfl ?_
    refine wp_s 94 [some (.int x0), some (.long w1), none, some (.long w3), none] [.long w3, .long w1] h0 i_43_93 rfl ?_
    refine wp_s 95 [some (.int x0), some (.long w1), none, some (.long w3), none] [.long (w1 + w3)] h0 i_43_94 rfl ?_
    obtain rfl := Option.some.inj hd
    exact wp_ret i_43_95 rfl ⟨rfl, rfl⟩
  rw [if_neg c_10] at hd
  by_cases c_11 : x0 = (27 : Int32)
  · rw [if_pos c_11] at hd
    refine wp_tswC (j := 10) 96 i_43_1 (by rw [c_11]; decide) (by decide) rfl rfl ?_
    refine wp_s 97 [some (.int x0), some (.long w1), none, some (.long w3), none] [.long w1] h0 i_43_96 rfl ?_
    refine wp_s 98 [some (.int x0), some (.long w1), none, some (.long w3), none] [.long w3, .long w1] h0 i_43_97 rfl ?_
    refine wp_s 99 [some (.int x0), some (.long w1), none, some (.long w3), none] [.long (w1 - w3)] h0 i_43_98 rfl ?_
    obtain rfl := Option.some.inj hd
    exact wp_ret i_43_99 rfl ⟨rfl, rfl⟩
  rw [if_neg c_11] at hd
  by_cases c_12 : x0 = (28 : Int32)
  · rw [if_pos c_12] at hd
    refine wp_tswC (j := 11) 100 i_43_1 (by rw [c_12]; decide) (by decide) rfl rfl ?_
    refine wp_s 101 [some (.int x0), some (.long w1), none, some (.long w3), none] [.long w1] h0 i_43_100 rfl ?_
    refine wp_s 102 [some (.int x0), some (.long w1), none, some (.long w3), none] [.long w3, .long w1] h0 i_43_101 rfl ?_
    refine wp_s 103 [some (.int x0), some (.long w1), none, some (.long w3), none] [.long (w1 * w3)] h0 i_43_102 rfl ?_
    obtain rfl := Option.some.inj hd
    exact wp_ret i_43_103 rfl ⟨rfl, rfl⟩
  rw [if_neg c_12] at hd
  by_cases c_13 : x0 = (29 : Int32)
  · rw [if_pos c_13] at hd
    refine wp_tswC (j := 12) 104 i_43_1 (by rw [c_13]; decide) (by decide) rfl rfl ?_
    refine wp_s 105 [some (.int x0), some (.long w1), none, some (.long w3), none] [.long w3] h0 i_43_104 rfl ?_
    refine wp_s 106 [some (.int x0), some (.long w1), none, some (.long w3), none] [.long (0 : Int64), .long w3] h0 i_43_105 rfl ?_
    refine wp_s 107 [some (.int x0), some (.long w1), none, some (.long w3), none] [.int (lg_cmp w3 (0 : Int64))] h0 i_43_106 rfl ?_
    refine wp_if_ne 114 110 rfl rfl i_43_107 (fun c_14 => ?_) (fun c_14 => ?_)
    · rw [if_pos c_14] at hd
      refine wp_s 115 [some (.int x0), some (.long w1), none, some (.long w3), none] [.long w1] h0 i_43_114 rfl ?_
      refine wp_s 116 [some (.int x0), some (.long w1), none, some (.long w3), none] [.long w3, .long w1] h0 i_43_115 rfl ?_
      obtain ⟨k_15, hd⟩ := dk_if hd
      refine wp_ldiv 117 rfl i_43_116 k_15 ?_
      obtain rfl := Option.some.inj hd
      exact wp_ret i_43_117 rfl ⟨rfl, rfl⟩
    · rw [if_neg c_14] at hd
      refine wp_s 111 [some (.int x0), some (.long w1), none, some (.long w3), none] [.long (0 : Int64)] h0 i_43_110 rfl ?_
      refine wp_s 117 [some (.int x0), some (.long w1), none, some (.long w3), none] [.long (0 : Int64)] h0 i_43_111 rfl ?_
      obtain rfl := Option.some.inj hd
      exact wp_ret i_43_117 rfl ⟨rfl, rfl⟩
  rw [if_neg c_13] at hd
  by_cases c_16 : x0 = (30 : Int32)
  · rw [if_pos c_16] at hd
    refine wp_tswC (j := 13) 118 i_43_1 (by rw [c_16]; decide) (by decide) rfl rfl ?_
    refine wp_s 119 [some (.int x0), some (.long w1), none, some (.long w3), none] [.long w3] h0 i_43_118 rfl ?_
    refine wp_s 120 [some (.int x0), some (.long w1), none, some (.long w3), none] [.long (0 : Int64), .long w3] h0 i_43_119 rfl ?_
    refine wp_s 121 [some (.int x0), some (.long w1), none, some (.long w3), none] [.int (lg_cmp w3 (0 : Int64))] h0 i_43_120 rfl ?_
    refine wp_if_ne 128 124 rfl rfl i_43_121 (fun c_17 => ?_) (fun c_17 => ?_)
    · rw [if_pos c_17] at hd
      refine wp_s 129 [some (.int x0), some (.long w1), none, some (.long w3), none] [.long w1] h0 i_43_128 rfl ?_
      refine wp_s 130 [some (.int x0), some (.long w1), none, some (.long w3), none] [.long w3, .long w1] h0 i_43_129 rfl ?_
      obtain ⟨k_18, hd⟩ := dk_if hd
      refine wp_lrem 131 rfl i_43_130 k_18 ?_
      obtain rfl := Option.some.inj hd
      exact wp_ret i_43_131 rfl ⟨rfl, rfl⟩
    · rw [if_neg c_17] at hd
      refine wp_s 125 [some (.int x0), some (.long w1), none, some (.long w3), none] [.long (0 : Int64)] h0 i_43_124 rfl ?_
      refine wp_s 131 [some (.int x0), some (.long w1), none, some (.long w3), none] [.long (0 : Int64)] h0 i_43_125 rfl ?_
      obtain rfl := Option.some.inj hd
      exact wp_ret i_43_131 rfl ⟨rfl, rfl⟩
  rw [if_neg c_16] at hd
  by_cases c_19 : x0 = (31 : Int32)
  · rw [if_pos c_19] at hd
    refine wp_tswC (j := 14) 132 i_43_1 (by rw [c_19]; decide) (by decide) rfl rfl ?_
    refine wp_s 133 [some (.int x0), some (.long w1), none, some (.long w3), none] [.long w1] h0 i_43_132 rfl ?_
    refine wp_s 134 [some (.int x0), some (.long w1), none, some (.long w3), none] [.long w3, .long w1] h0 i_43_133 rfl ?_
    refine wp_s 135 [some (.int x0), some (.long w1), none, some (.long w3), none] [.int (lg_cmp w1 w3)] h0 i_43_134 rfl ?_
    refine wp_if_ge 142 138 rfl rfl i_43_135 (fun c_20 => ?_) (fun c_20 => ?_)
    · rw [if_pos c_20] at hd
      refine wp_s 143 [some (.int x0), some (.long w1), none, some (.long w3), none] [.long (0 : Int64)] h0 i_43_142 rfl ?_
      obtain rfl := Option.some.inj hd
      exact wp_ret i_43_143 rfl ⟨rfl, rfl⟩
    · rw [if_neg c_20] at hd
      refine wp_s 139 [some (.int x0), some (.long w1), none, some (.long w3), none] [.long (1 : Int64)] h0 i_43_138 rfl ?_
      refine wp_s 143 [some (.int x0), some (.long w1), none, some (.long w3), none] [.long (1 : Int64)] h0 i_43_139 rfl ?_
      obtain rfl := Option.some.inj hd
      exact wp_ret i_43_143 rfl ⟨rfl, rfl⟩
  rw [if_neg c_19] at hd
  by_cases c_21 : x0 = (32 : Int32)
  · rw [if_pos c_21] at hd
    refine wp_tswC (j := 15) 144 i_43_1 (by rw [c_21]; decide) (by decide) rfl rfl ?_
    refine wp_s 145 [some (.int x0), some (.long w1), none, some (.long w3), none] [.long w1] h0 i_43_144 rfl ?_
    refine wp_s 146 [some (.int x0), some (.long w1), none, some (.long w3), none] [.long w3, .long w1] h0 i_43_145 rfl ?_
    refine wp_s 147 [some (.int x0), some (.long w1), none, some (.long w3), none] [.int (lg_cmp w1 w3)] h0 i_43_146 rfl ?_
    refine wp_if_gt 154 150 rfl rfl i_43_147 (fun c_22 => ?_) (fun c_22 => ?_)
    · rw [if_pos c_22] at hd
      refine wp_s 155 [some (.int x0), some (.long w1), none, some (.long w3), none] [.long (0 : Int64)] h0 i_43_154 rfl ?_
      obtain rfl := Option.some.inj hd
      exact wp_ret i_43_155 rfl ⟨rfl, rfl⟩
    · rw [if_neg c_22] at hd
      refine wp_s 151 [some (.int x0), some (.long w1), none, some (.long w3), none] [.long (1 : Int64)] h0 i_43_150 rfl ?_
      refine wp_s 155 [some (.int x0), some (.long w1), none, some (.long w3), none] [.long (1 : Int64)] h0 i_43_151 rfl ?_
      obtain rfl := Option.some.inj hd
      exact wp_ret i_43_155 rfl ⟨rfl, rfl⟩
  rw [if_neg c_21] at hd
  by_cases c_23 : x0 = (33 : Int32)
  · rw [if_pos c_23] at hd
    refine wp_tswC (j := 16) 156 i_43_1 (by rw [c_23]; decide) (by decide) rfl rfl ?_
    refine wp_s 157 [some (.int x0), some (.long w1), none, some (.long w3), none] [.long w1] h0 i_43_156 rfl ?_
    refine wp_s 158 [some (.int x0), some (.long w1), none, some (.long w3), none] [.long w3, .long w1] h0 i_43_157 rfl ?_
    refine wp_s 159 [some (.int x0), some (.long w1), none, some (.long w3), none] [.int (lg_cmp w1 w3)] h0 i_43_158 rfl ?_
    refine wp_if_ne 166 162 rfl rfl i_43_159 (fun c_24 => ?_) (fun c_24 => ?_)
    · rw [if_pos c_24] at hd
      refine wp_s 167 [some (.int x0), some (.long w1), none, some (.long w3), none] [.long (0 : Int64)] h0 i_43_166 rfl ?_
      obtain rfl := Option.some.inj hd
      exact wp_ret i_43_167 rfl ⟨rfl, rfl⟩
    · rw [if_neg c_24] at hd
      refine wp_s 163 [some (.int x0), some (.long w1), none, some (.long w3), none] [.long (1 : Int64)] h0 i_43_162 rfl ?_
      refine wp_s 167 [some (.int x0), some (.long w1), none, some (.long w3), none] [.long (1 : Int64)] h0 i_43_163 rfl ?_
      obtain rfl := Option.some.inj hd
      exact wp_ret i_43_167 rfl ⟨rfl, rfl⟩
  rw [if_neg c_23] at hd
  by_cases c_25 : x0 = (34 : Int32)
  · rw [if_pos c_25] at hd
    refine wp_tswC (j := 17) 168 i_43_1 (by rw [c_25]; decide) (by decide) rfl rfl ?_
    refine wp_s 169 [some (.int x0), some (.long w1), none, some (.long w3), none] [.long w1] h0 i_43_168 rfl ?_
    refine wp_s 170 [some (.int x0), some (.long w1), none, some (.long w3), none] [.long w3, .long w1] h0 i_43_169 rfl ?_
    refine wp_s 171 [some (.int x0), some (.long w1), none, some (.long w3), none] [.int (lg_cmp w1 w3)] h0 i_43_170 rfl ?_
    refine wp_if_lt 178 174 rfl rfl i_43_171 (fun c_26 => ?_) (fun c_26 => ?_)
    · rw [if_pos c_26] at hd
      refine wp_s 179 [some (.int x0), some (.long w1), none, some (.long w3), none] [.long (0 : Int64)] h0 i_43_178 rfl ?_
      obtain rfl := Option.some.inj hd
      exact wp_ret i_43_179 rfl ⟨rfl, rfl⟩
    · rw [if_neg c_26] at hd
      refine wp_s 175 [some (.int x0), some (.long w1), none, some (.long w3), none] [.long (1 : Int64)] h0 i_43_174 rfl ?_
      refine wp_s 179 [some (.int x0), some (.long w1), none, some (.long w3), none] [.long (1 : Int64)] h0 i_43_175 rfl ?_
      obtain rfl := Option.some.inj hd
      exact wp_ret i_43_179 rfl ⟨rfl, rfl⟩
  rw [if_neg c_25] at hd
  by_cases c_27 : x0 = (35 : Int32)
  · rw [if_pos c_27] at hd
    refine wp_tswC (j := 18) 180 i_43_1 (by rw [c_27]; decide) (by decide) rfl rfl ?_
    refine wp_s 181 [some (.int x0), some (.long w1), none, some (.long w3), none] [.long w1] h0 i_43_180 rfl ?_
    refine wp_s 182 [some (.int x0), some (.long w1), none, some (.long w3), none] [.long w3, .long w1] h0 i_43_181 rfl ?_
    refine wp_s 183 [some (.int x0), some (.long w1), none, some (.long w3), none] [.int (lg_cmp w1 w3)] h0 i_43_182 rfl ?_
    refine wp_if_le 190 186 rfl rfl i_43_183 (fun c_28 => ?_) (fun c_28 => ?_)
    · rw [if_pos c_28] at hd
      refine wp_s 191 [some (.int x0), some (.long w1), none, some (.long w3), none] [.long (0 : Int64)] h0 i_43_190 rfl ?_
      obtain rfl := Option.some.inj hd
      exact wp_ret i_43_191 rfl ⟨rfl, rfl⟩
    · rw [if_neg c_28] at hd
      refine wp_s 187 [some (.int x0), some (.long w1), none, some (.long w3), none] [.long (1 : Int64)] h0 i_43_186 rfl ?_
      refine wp_s 191 [some (.int x0), some (.long w1), none, some (.long w3), none] [.long (1 : Int64)] h0 i_43_187 rfl ?_
      obtain rfl := Option.some.inj hd
      exact wp_ret i_43_191 rfl ⟨rfl, rfl⟩
  rw [if_neg c_27] at hd
  have o_29 : (x0).toInt < (17 : Int) ∨ (35 : Int) < (x0).toInt := by
    have e_0 := lv_neT c_1 (a := 17) (by decide)
    have e_1 := lv_neT c_2 (a := 18) (by decide)
    have e_2 := lv_neT c_3 (a := 19) (by decide)
    have e_3 := lv_neT c_4 (a := 20) (by decide)
    have e_4 := lv_neT c_5 (a := 21) (by decide)
    have e_5 := lv_neT c_6 (a := 22) (by decide)
    have e_6 := lv_neT c_7 (a := 23) (by decide)
    have e_7 := lv_neT c_8 (a := 24) (by decide)
    have e_8 := lv_neT c_9 (a := 25) (by decide)
    have e_9 := lv_neT c_10 (a := 26) (by decide)
    have e_10 := lv_neT c_11 (a := 27) (by decide)
    have e_11 := lv_neT c_12 (a := 28) (by decide)
    have e_12 := lv_neT c_13 (a := 29) (by decide)
    have e_13 := lv_neT c_16 (a := 30) (by decide)
    have e_14 := lv_neT c_19 (a := 31) (by decide)
    have e_15 := lv_neT c_21 (a := 32) (by decide)
    have e_16 := lv_neT c_23 (a := 33) (by decide)
    have e_17 := lv_neT c_25 (a := 34) (by decide)
    have e_18 := lv_neT c_27 (a := 35) (by decide)
    omega
  refine wp_tswD 196 i_43_1 o_29 rfl ?_
  refine wp_s 197 [some (.int x0), some (.long w1), none, some (.long w3), none] [.long w1] h0 i_43_196 rfl ?_
  refine wp_s 198 [some (.int x0), some (.long w1), none, some (.long w3), none] [.long w3, .long w1] h0 i_43_197 rfl ?_
  refine wp_s 199 [some (.int x0), some (.long w1), none, some (.long w3), none] [.long (w1 &&& w3)] h0 i_43_198 rfl ?_
  obtain rfl := Option.some.inj hd
  exact wp_ret i_43_199 rfl ⟨rfl, rfl⟩
def l_42 (g n tag : Nat) (a0 : Nat) (x1 : Int32) (x2 : Int32) (a3 : Nat) (x4 : Int32) (x5 : Int32) (x6 : Int32) (x7 : Int32) (u0 : Int64) (s1 : Int32) (b2 : Nat) (h0 : aH) : Option (Int64 × aH) := match n with
  | 0 => none
  | n + 1 => if tag = 0 then (if x2 ≤ x5 then ((gR h0 a0 3 4).bind (fun f_2 => ((gJ h0 f_2 (0 : Int32)).bind (fun f_4 => some (f_4, h0))))) else ((gR h0 a0 3 0).bind (fun f_6 => ((gA h0 f_6 x5).bind (fun f_8 => (if (8 : Int32) ≤ ((-1 : Int32) - f_8) then (if ¬ ((-1 : Int32) - f_8) = (19 : Int32) then (if x4 ≤ (1 : Int32) then (l_42 g n 2 a0 x1 x2 a3 x4 x5 f_8 ((-1 : Int32) - f_8) 0 0 0 h0) else ((gR h0 a0 3 4).bind (fun f_13 => ((gR h0 a0 3 4).bind (fun f_15 => ((gJ h0 f_15 ((x4 + (-1 : Int32)) - (1 : Int32))).bind (fun f_17 => ((gR h0 a0 3 4).bind (fun f_19 => ((gJ h0 f_19 (x4 + (-1 : Int32))).bind (fun f_21 => ((d_43 g ((-1 : Int32) - f_8) f_17 f_21 h0).bind (fun z_23 => ((sJ z_23.2 f_13 ((x4 + (-1 : Int32)) - (1 : Int32)) z_23.1).bind (fun h_27 => (l_42 g n 2 a0 x1 x2 a3 (x4 + (-1 : Int32)) x5 f_8 ((-1 : Int32) - f_8) 0 0 0 h_27)))))))))))))))) else (if x4 ≤ 0 then (l_42 g n 2 a0 x1 x2 a3 x4 x5 f_8 ((-1 : Int32) - f_8) 0 0 0 h0) else ((gR h0 a0 3 4).bind (fun f_30 => ((gR h0 a0 3 4).bind (fun f_32 => ((gJ h0 f_32 (x4 - (1 : Int32))).bind (fun f_34 => ((sJ h0 f_30 (x4 - (1 : Int32)) ((1 : Int64) - f_34)).bind (fun h_36 => (l_42 g n 2 a0 x1 x2 a3 x4 x5 f_8 ((-1 : Int32) - f_8) 0 0 0 h_36))))))))))) else ((gR h0 a0 3 4).bind (fun f_38 => ((gN h0 f_38).bind (fun f_40 => (if f_40 ≤ x4 then (l_42 g n 2 a0 x1 x2 a3 x4 x5 f_8 ((-1 : Int32) - f_8) 0 0 0 h0) else ((gR h0 a0 3 4).bind (fun f_43 => (if 0 ≤ ((-1 : Int32) - f_8) then ((gJ h0 a3 ((-1 : Int32) - f_8)).bind (fun f_46 => (l_42 g n 1 a0 x1 x2 a3 x4 x5 f_8 ((-1 : Int32) - f_8) f_46 x4 f_43 h0))) else (l_42 g n 1 a0 x1 x2 a3 x4 x5 f_8 ((-1 : Int32) - f_8) (f_8.toInt64) x4 f_43 h0))))))))))))))) else if tag = 1 then ((sJ h0 b2 s1 u0).bind (fun h_48 => (l_42 g n 2 a0 x1 x2 a3 (x4 + (1 : Int32)) x5 x6 x7 0 0 0 h_48))) else if tag = 2 then (l_42 g n 0 a0 x1 x2 a3 x4 (x5 + (1 : Int32)) 0 0 0 0 0 h0) else none
set_option maxHeartbeats 4000000 in
set_option maxRecDepth 100000 in
theorem l_42_ok {X : aX} {g : Nat} {d : Nat} (hdp : 1 ≤ d) : ∀ n, (∀ (a0 : Nat) (x1 : Int32) (x2 : Int32) (a3 : Nat) (x4 : Int32) (x5 : Int32) (x6 : Int32) (x7 : Int32) (u0 : Int64) (s1 : Int32) (b2 : Nat) (h0 : aH) (zz : Int64 × aH), l_42 g n 0 a0 x1 x2 a3 x4 x5 x6 x7 u0 s1 b2 h0 = some zz → aWp X d 42 6 [some (.ref a0), some (.int x1), some (.int x2), some (.ref a3), some (.int x4), some (.int x5), none, none] [] h0 (fun w h' => w = some (.long zz.1) ∧ h' = zz.2)) ∧ (∀ (a0 : Nat) (x1 : Int32) (x2 : Int32) (a3 : Nat) (x4 : Int32) (x5 : Int32) (x6 : Int32) (x7 : Int32) (u0 : Int64) (s1 : Int32) (b2 : Nat) (h0 : aH) (zz : Int64 × aH), l_42 g n 1 a0 x1 x2 a3 x4 x5 x6 x7 u0 s1 b2 h0 = some zz → aWp X d 42 65 [some (.ref a0), some (.int x1), some (.int x2), some (.ref a3), some (.int x4), some (.int x5), some (.int x6), some (.int x7)] [.long u0, .int s1, .ref b2] h0 (fun w h' => w = some (.long zz.1) ∧ h' = zz.2)) ∧ (∀ (a0 : Nat) (x1 : Int32) (x2 : Int32) (a3 : Nat) (x4 : Int32) (x5 : Int32) (x6 : Int32) (x7 : Int32) (u0 : Int64) (s1 : Int32) (b2 : Nat) (h0 : aH) (zz : Int64 × aH), l_42 g n 2 a0 x1 x2 a3 x4 x5 x6 x7 u0 s1 b2 h0 = some zz → aWp X d 42 146 [some (.ref a0), some (.int x1), some (.int x2), some (.ref a3), some (.int x4), some (.int x5), some (.int x6), some (.int x7)] [] h0 (fun w h' => w = some (.long zz.1) ∧ h' = zz.2)) := by
  intro n
  induction n with
  | zero => exact ⟨fun _ _ _ _ _ _ _ _ _ _ _ _ _ hd => by simp [l_42] at hd, fun _ _ _ _ _ _ _ _ _ _ _ _ _ hd => by simp [l_42] at hd, fun _ _ _ _ _ _ _ _ _ _ _ _ _ hd => by simp [l_42] at hd⟩
  | succ n ih =>
    refine ⟨?_, ?_, ?_⟩
    · intro a0 x1 x2 a3 x4 x5 x6 x7 u0 s1 b2 h0 zz hd
      unfold l_42 at hd
      rw [if_pos rfl] at hd
      obtain ⟨e, rfl⟩ : ∃ e, d = e + 1 := ⟨d - 1, by omega⟩
      refine wp_s 8 [some (.ref a0), some (.int x1), some (.int x2), some (.ref a3), some (.int x4), some (.int x5), none, none] [.int x5] h0 i_42_6 rfl ?_
      refine wp_s 9 [some (.ref a0), some (.int x1), some (.int x2), some (.ref a3), some (.int x4), some (.int x5), none, none] [.int x2, .int x5] h0 i_42_8 rfl ?_
      refine wp_cmp_ge 152 12 rfl rfl i_42_9 (fun c_1 => ?_) (fun c_1 => ?_)
      · rw [if_pos c_1] at hd
        refine wp_s 153 [some (.ref a0), some (.int x1), some (.int x2), some (.ref a3), some (.int x4), some (.int x5), none, none] [.ref a0] h0 i_42_152 rfl ?_
        obtain ⟨f_2, q_3, hd⟩ := dk_bind hd
        refine hp_gR 156 rfl i_42_153 q_3 ?_
        refine wp_s 157 [some (.ref a0), some (.int x1), some (.int x2), some (.ref a3), some (.int x4), some (.int x5), none, none] [.int (0 : Int32), .ref f_2] h0 i_42_156 rfl ?_
        obtain ⟨f_4, q_5, hd⟩ := dk_bind hd
        refine hp_gJ 158 rfl i_42_157 q_5 ?_
        obtain rfl := Option.some.inj hd
        exact wp_ret i_42_158 rfl ⟨rfl, rfl⟩
      · rw [if_neg c_1] at hd
        refine wp_s 13 [some (.ref a0), some (.int x1), some (.int x2), some (.ref a3), some (.int x4), some (.int x5), none, none] [.ref a0] h0 i_42_12 rfl ?_
        obtain ⟨f_6, q_7, hd⟩ := dk_bind hd
        refine hp_gR 16 rfl i_42_13 q_7 ?_
        refine wp_s 18 [some (.ref a0), some (.int x1), some (.int x2), some (.ref a3), some (.int x4), some (.int x5), none, none] [.int x5, .ref f_6] h0 i_42_16 rfl ?_
        obtain ⟨f_8, q_9, hd⟩ := dk_bind hd
        refine hp_gA 19 rfl i_42_18 q_9 ?_
        refine wp_s 21 [some (.ref a0), some (.int x1), some (.int x2), some (.ref a3), some (.int x4), some (.int x5), some (.int f_8), none] [] h0 i_42_19 rfl ?_
        refine wp_s 22 [some (.ref a0), some (.int x1), some (.int x2), some (.ref a3), some (.int x4), some (.int x5), some (.int f_8), none] [.int (-1 : Int32)] h0 i_42_21 rfl ?_
        refine wp_s 24 [some (.ref a0), some (.int x1), some (.int x2), some (.ref a3), some (.int x4), some (.int x5), some (.int f_8), none] [.int f_8, .int (-1 : Int32)] h0 i_42_22 rfl ?_
        refine wp_s 25 [some (.ref a0), some (.int x1), some (.int x2), some (.ref a3), some (.int x4), some (.int x5), some (.int f_8), none] [.int ((-1 : Int32) - f_8)] h0 i_42_24 rfl ?_
        refine wp_s 27 [some (.ref a0), some (.int x1), some (.int x2), some (.ref a3), some (.int x4), some (.int x5), some (.int f_8), some (.int ((-1 : Int32) - f_8))] [] h0 i_42_25 rfl ?_
        refine wp_s 29 [some (.ref a0), some (.int x1), some (.int x2), some (.ref a3), some (.int x4), some (.int x5), some (.int f_8), some (.int ((-1 : Int32) - f_8))] [.int ((-1 : Int32) - f_8)] h0 i_42_27 rfl ?_
        refine wp_s 31 [some (.ref a0), some (.int x1), some (.int x2), some (.ref a3), some (.int x4), some (.int x5), some (.int f_8), some (.int ((-1 : Int32) - f_8))] [.int (8 : Int32), .int ((-1 : Int32) - f_8)] h0 i_42_29 rfl ?_
        refine wp_cmp_ge 72 34 rfl rfl i_42_31 (fun c_10 => ?_) (fun c_10 => ?_)
        · rw [if_pos c_10] at hd
          refine wp_s 74 [some (.ref a0), some (.int x1), some (.int x2), some (.ref a3), some (.int x4), some (.int x5), some (.int f_8), some (.int ((-1 : Int32) - f_8))] [.int ((-1 : Int32) - f_8)] h0 i_42_72 rfl ?_
          refine wp_s 76 [some (.ref a0), some (.int x1), some (.int x2), some (.ref a3), some (.int x4), some (.int x5), some (.int f_8), some (.int ((-1 : Int32) - f_8))] [.int (19 : Int32), .int ((-1 : Int32) - f_8)] h0 i_42_74 rfl ?_
          refine wp_cmp_ne 107 79 rfl rfl i_42_76 (fun c_11 => ?_) (fun c_11 => ?_)
          · rw [if_pos c_11] at hd
            refine wp_s 109 [some (.ref a0), some (.int x1), some (.int x2), some (.ref a3), some (.int x4), some (.int x5), some (.int f_8), some (.int ((-1 : Int32) - f_8))] [.int x4] h0 i_42_107 rfl ?_
            refine wp_s 110 [some (.ref a0), some (.int x1), some (.int x2), some (.ref a3), some (.int x4), some (.int x5), some (.int f_8), some (.int ((-1 : Int32) - f_8))] [.int (1 : Int32), .int x4] h0 i_42_109 rfl ?_
            refine wp_cmp_le 146 113 rfl rfl i_42_110 (fun c_12 => ?_) (fun c_12 => ?_)
            · rw [if_pos c_12] at hd
              exact aWp.forget (ih.2.2 _ _ _ _ _ _ _ _ _ _ _ _ _ hd) (lvS (lvS (lvS (lvS (lvS (lvS (lvS (lvS lvE))))))))
            · rw [if_neg c_12] at hd
              refine wp_s 116 [some (.ref a0), some (.int x1), some (.int x2), some (.ref a3), some (.int (x4 + (-1 : Int32))), some (.int x5), some (.int f_8), some (.int ((-1 : Int32) - f_8))] [] h0 i_42_113 rfl ?_
              refine wp_s 117 [some (.ref a0), some (.int x1), some (.int x2), some (.ref a3), some (.int (x4 + (-1 : Int32))), some (.int x5), some (.int f_8), some (.int ((-1 : Int32) - f_8))] [.ref a0] h0 i_42_116 rfl ?_
              obtain ⟨f_13, q_14, hd⟩ := dk_bind hd
              refine hp_gR 120 rfl i_42_117 q_14 ?_
              refine wp_s 122 [some (.ref a0), some (.int x1), some (.int x2), some (.ref a3), some (.int (x4 + (-1 : Int32))), some (.int x5), some (.int f_8), some (.int ((-1 : Int32) - f_8))] [.int (x4 + (-1 : Int32)), .ref f_13] h0 i_42_120 rfl ?_
              refine wp_s 123 [some (.ref a0), some (.int x1), some (.int x2), some (.ref a3), some (.int (x4 + (-1 : Int32))), some (.int x5), some (.int f_8), some (.int ((-1 : Int32) - f_8))] [.int (1 : Int32), .int (x4 + (-1 : Int32)), .ref f_13] h0 i_42_122 rfl ?_
              refine wp_s 124 [some (.ref a0), some (.int x1), some (.int x2), some (.ref a3), some (.int (x4 + (-1 : Int32))), some (.int x5), some (.int f_8), some (.int ((-1 : Int32) - f_8))] [.int ((x4 + (-1 : Int32)) - (1 : Int32)), .ref f_13] h0 i_42_123 rfl ?_
              refine wp_s 126 [some (.ref a0), some (.int x1), some (.int x2), some (.ref a3), some (.int (x4 + (-1 : Int32))), some (.int x5), some (.int f_8), some (.int ((-1 : Int32) - f_8))] [.int ((-1 : Int32) - f_8), .int ((x4 + (-1 : Int32)) - (1 : Int32)), .ref f_13] h0 i_42_124 rfl ?_
              refine wp_s 127 [some (.ref a0), some (.int x1), some (.int x2), some (.ref a3), some (.int (x4 + (-1 : Int32))), some (.int x5), some (.int f_8), some (.int ((-1 : Int32) - f_8))] [.ref a0, .int ((-1 : Int32) - f_8), .int ((x4 + (-1 : Int32)) - (1 : Int32)), .ref f_13] h0 i_42_126 rfl ?_
              obtain ⟨f_15, q_16, hd⟩ := dk_bind hd
              refine hp_gR 130 rfl i_42_127 q_16 ?_
              refine wp_s 132 [some (.ref a0), some (.int x1), some (.int x2), some (.ref a3), some (.int (x4 + (-1 : Int32))), some (.int x5), some (.int f_8), some (.int ((-1 : Int32) - f_8))] [.int (x4 + (-1 : Int32)), .ref f_15, .int ((-1 : Int32) - f_8), .int ((x4 + (-1 : Int32)) - (1 : Int32)), .ref f_13] h0 i_42_130 rfl ?_
              refine wp_s 133 [some (.ref a0), some (.int x1), some (.int x2), some (.ref a3), some (.int (x4 + (-1 : Int32))), some (.int x5), some (.int f_8), some (.int ((-1 : Int32) - f_8))] [.int (1 : Int32), .int (x4 + (-1 : Int32)), .ref f_15, .int ((-1 : Int32) - f_8), .int ((x4 + (-1 : Int32)) - (1 : Int32)), .ref f_13] h0 i_42_132 rfl ?_
              refine wp_s 134 [some (.ref a0), some (.int x1), some (.int x2), some (.ref a3), some (.int (x4 + (-1 : Int32))), some (.int x5), some (.int f_8), some (.int ((-1 : Int32) - f_8))] [.int ((x4 + (-1 : Int32)) - (1 : Int32)), .ref f_15, .int ((-1 : Int32) - f_8), .int ((x4 + (-1 : Int32)) - (1 : Int32)), .ref f_13] h0 i_42_133 rfl ?_
              obtain ⟨f_17, q_18, hd⟩ := dk_bind hd
              refine hp_gJ 135 rfl i_42_134 q_18 ?_
              refine wp_s 136 [some (.ref a0), some (.int x1), some (.int x2), some (.ref a3), some (.int (x4 + (-1 : Int32))), some (.int x5), some (.int f_8), some (.int ((-1 : Int32) - f_8))] [.ref a0, .long f_17, .int ((-1 : Int32) - f_8), .int ((x4 + (-1 : Int32)) - (1 : Int32)), .ref f_13] h0 i_42_135 rfl ?_
              obtain ⟨f_19, q_20, hd⟩ := dk_bind hd
              refine hp_gR 139 rfl i_42_136 q_20 ?_
              refine wp_s 141 [some (.ref a0), some (.int x1), some (.int x2), some (.ref a3), some (.int (x4 + (-1 : Int32))), some (.int x5), some (.int f_8), some (.int ((-1 : Int32) - f_8))] [.int (x4 + (-1 : Int32)), .ref f_19, .long f_17, .int ((-1 : Int32) - f_8), .int ((x4 + (-1 : Int32)) - (1 : Int32)), .ref f_13] h0 i_42_139 rfl ?_
              obtain ⟨f_21, q_22, hd⟩ := dk_bind hd
              refine hp_gJ 142 rfl i_42_141 q_22 ?_
              obtain ⟨z_23, q_24, hd⟩ := dk_bind hd
              refine wp_callS 145 rfl i_42_142 (by decide) (vs := [.int ((-1 : Int32) - f_8), .long f_17, .long f_21]) (rest := [.int ((x4 + (-1 : Int32)) - (1 : Int32)), .ref f_13]) rfl rfl rfl (y := m_43) rfl (Nat.le_of_ble_eq_true rfl) (d_43_ok (d := e) (by omega) q_24) ?_
              rintro v_25 h_26 ⟨rfl, rfl⟩
              obtain ⟨h_27, q_28, hd⟩ := dk_bind hd
              refine hp_sJ 146 rfl i_42_145 q_28 ?_
              exact aWp.forget (ih.2.2 _ _ _ _ _ _ _ _ _ _ _ _ _ hd) (lvS (lvS (lvS (lvS (lvS (lvS (lvS (lvS lvE))))))))
          · rw [if_neg c_11] at hd
            refine wp_s 81 [some (.ref a0), some (.int x1), some (.int x2), some (.ref a3), some (.int x4), some (.int x5), some (.int f_8), some (.int ((-1 : Int32) - f_8))] [.int x4] h0 i_42_79 rfl ?_
            refine wp_if_le 146 84 rfl rfl i_42_81 (fun c_29 => ?_) (fun c_29 => ?_)
            · rw [if_pos c_29] at hd
              exact aWp.forget (ih.2.2 _ _ _ _ _ _ _ _ _ _ _ _ _ hd) (lvS (lvS (lvS (lvS (lvS (lvS (lvS (lvS lvE))))))))
            · rw [if_neg c_29] at hd
              refine wp_s 85 [some (.ref a0), some (.int x1), some (.int x2), some (.ref a3), some (.int x4), some (.int x5), some (.int f_8), some (.int ((-1 : Int32) - f_8))] [.ref a0] h0 i_42_84 rfl ?_
              obtain ⟨f_30, q_31, hd⟩ := dk_bind hd
              refine hp_gR 88 rfl i_42_85 q_31 ?_
              refine wp_s 90 [some (.ref a0), some (.int x1), some (.int x2), some (.ref a3), some (.int x4), some (.int x5), some (.int f_8), some (.int ((-1 : Int32) - f_8))] [.int x4, .ref f_30] h0 i_42_88 rfl ?_
              refine wp_s 91 [some (.ref a0), some (.int x1), some (.int x2), some (.ref a3), some (.int x4), some (.int x5), some (.int f_8), some (.int ((-1 : Int32) - f_8))] [.int (1 : Int32), .int x4, .ref f_30] h0 i_42_90 rfl ?_
              refine wp_s 92 [some (.ref a0), some (.int x1), some (.int x2), some (.ref a3), some (.int x4), some (.int x5), some (.int f_8), some (.int ((-1 : Int32) - f_8))] [.int (x4 - (1 : Int32)), .ref f_30] h0 i_42_91 rfl ?_
              refine wp_s 93 [some (.ref a0), some (.int x1), some (.int x2), some (.ref a3), some (.int x4), some (.int x5), some (.int f_8), some (.int ((-1 : Int32) - f_8))] [.long (1 : Int64), .int (x4 - (1 : Int32)), .ref f_30] h0 i_42_92 rfl ?_
              refine wp_s 94 [some (.ref a0), some (.int x1), some (.int x2), some (.ref a3), some (.int x4), some (.int x5), some (.int f_8), some (.int ((-1 : Int32) - f_8))] [.ref a0, .long (1 : Int64), .int (x4 - (1 : Int32)), .ref f_30] h0 i_42_93 rfl ?_
              obtain ⟨f_32, q_33, hd⟩ := dk_bind hd
              refine hp_gR 97 rfl i_42_94 q_33 ?_
              refine wp_s 99 [some (.ref a0), some (.int x1), some (.int x2), some (.ref a3), some (.int x4), some (.int x5), some (.int f_8), some (.int ((-1 : Int32) - f_8))] [.int x4, .ref f_32, .long (1 : Int64), .int (x4 - (1 : Int32)), .ref f_30] h0 i_42_97 rfl ?_
              refine wp_s 100 [some (.ref a0), some (.int x1), some (.int x2), some (.ref a3), some (.int x4), some (.int x5), some (.int f_8), some (.int ((-1 : Int32) - f_8))] [.int (1 : Int32), .int x4, .ref f_32, .long (1 : Int64), .int (x4 - (1 : Int32)), .ref f_30] h0 i_42_99 rfl ?_
              refine wp_s 101 [some (.ref a0), some (.int x1), some (.int x2), some (.ref a3), some (.int x4), some (.int x5), some (.int f_8), some (.int ((-1 : Int32) - f_8))] [.int (x4 - (1 : Int32)), .ref f_32, .long (1 : Int64), .int (x4 - (1 : Int32)), .ref f_30] h0 i_42_100 rfl ?_
              obtain ⟨f_34, q_35, hd⟩ := dk_bind hd
              refine hp_gJ 102 rfl i_42_101 q_35 ?_
              refine wp_s 103 [some (.ref a0), some (.int x1), some (.int x2), some (.ref a3), some (.int x4), some (.int x5), some (.int f_8), some (.int ((-1 : Int32) - f_8))] [.long ((1 : Int64) - f_34), .int (x4 - (1 : Int32)), .ref f_30] h0 i_42_102 rfl ?_
              obtain ⟨h_36, q_37, hd⟩ := dk_bind hd
              refine hp_sJ 104 rfl i_42_103 q_37 ?_
              refine wp_s 146 [some (.ref a0), some (.int x1), some (.int x2), some (.ref a3), some (.int x4), some (.int x5), some (.int f_8), some (.int ((-1 : Int32) - f_8))] [] h_36 i_42_104 rfl ?_
              exact aWp.forget (ih.2.2 _ _ _ _ _ _ _ _ _ _ _ _ _ hd) (lvS (lvS (lvS (lvS (lvS (lvS (lvS (lvS lvE))))))))
        · rw [if_neg c_10] at hd
          refine wp_s 36 [some (.ref a0), some (.int x1), some (.int x2), some (.ref a3), some (.int x4), some (.int x5), some (.int f_8), some (.int ((-1 : Int32) - f_8))] [.int x4] h0 i_42_34 rfl ?_
          refine wp_s 37 [some (.ref a0), some (.int x1), some (.int x2), some (.ref a3), some (.int x4), some (.int x5), some (.int f_8), some (.int ((-1 : Int32) - f_8))] [.ref a0, .int x4] h0 i_42_36 rfl ?_
          obtain ⟨f_38, q_39, hd⟩ := dk_bind hd
          refine hp_gR 40 rfl i_42_37 q_39 ?_
          obtain ⟨f_40, q_41, hd⟩ := dk_bind hd
          refine hp_gN 41 rfl i_42_40 q_41 ?_
          refine wp_cmp_ge 146 44 rfl rfl i_42_41 (fun c_42 => ?_) (fun c_42 => ?_)
          · rw [if_pos c_42] at hd
            exact aWp.forget (ih.2.2 _ _ _ _ _ _ _ _ _ _ _ _ _ hd) (lvS (lvS (lvS (lvS (lvS (lvS (lvS (lvS lvE))))))))
          · rw [if_neg c_42] at hd
            refine wp_s 45 [some (.ref a0), some (.int x1), some (.int x2), some (.ref a3), some (.int x4), some (.int x5), some (.int f_8), some (.int ((-1 : Int32) - f_8))] [.ref a0] h0 i_42_44 rfl ?_
            obtain ⟨f_43, q_44, hd⟩ := dk_bind hd
            refine hp_gR 48 rfl i_42_45 q_44 ?_
            refine wp_s 50 [some (.ref a0), some (.int x1), some (.int x2), some (.ref a3), some (.int x4), some (.int x5), some (.int f_8), some (.int ((-1 : Int32) - f_8))] [.int x4, .ref f_43] h0 i_42_48 rfl ?_
            refine wp_s 52 [some (.ref a0), some (.int x1), some (.int x2), some (.ref a3), some (.int x4), some (.int x5), some (.int f_8), some (.int ((-1 : Int32) - f_8))] [.int ((-1 : Int32) - f_8), .int x4, .ref f_43] h0 i_42_50 rfl ?_
            refine wp_if_ge 61 55 rfl rfl i_42_52 (fun c_45 => ?_) (fun c_45 => ?_)
            · rw [if_pos c_45] at hd
              refine wp_s 62 [some (.ref a0), some (.int x1), some (.int x2), some (.ref a3), some (.int x4), some (.int x5), some (.int f_8), some (.int ((-1 : Int32) - f_8))] [.ref a3, .int x4, .ref f_43] h0 i_42_61 rfl ?_
              refine wp_s 64 [some (.ref a0), some (.int x1), some (.int x2), some (.ref a3), some (.int x4), some (.int x5), some (.int f_8), some (.int ((-1 : Int32) - f_8))] [.int ((-1 : Int32) - f_8), .ref a3, .int x4, .ref f_43] h0 i_42_62 rfl ?_
              obtain ⟨f_46, q_47, hd⟩ := dk_bind hd
              refine hp_gJ 65 rfl i_42_64 q_47 ?_
              exact aWp.forget (ih.2.1 _ _ _ _ _ _ _ _ _ _ _ _ _ hd) (lvS (lvS (lvS (lvS (lvS (lvS (lvS (lvS lvE))))))))
            · rw [if_neg c_45] at hd
              refine wp_s 57 [some (.ref a0), some (.int x1), some (.int x2), some (.ref a3), some (.int x4), some (.int x5), some (.int f_8), some (.int ((-1 : Int32) - f_8))] [.int f_8, .int x4, .ref f_43] h0 i_42_55 rfl ?_
              refine wp_s 58 [some (.ref a0), some (.int x1), some (.int x2), some (.ref a3), some (.int x4), some (.int x5), some (.int f_8), some (.int ((-1 : Int32) - f_8))] [.long (f_8.toInt64), .int x4, .ref f_43] h0 i_42_57 rfl ?_
              refine wp_s 65 [some (.ref a0), some (.int x1), some (.int x2), some (.ref a3), some (.int x4), some (.int x5), some (.int f_8), some (.int ((-1 : Int32) - f_8))] [.long (f_8.toInt64), .int x4, .ref f_43] h0 i_42_58 rfl ?_
              exact aWp.forget (ih.2.1 _ _ _ _ _ _ _ _ _ _ _ _ _ hd) (lvS (lvS (lvS (lvS (lvS (lvS (lvS (lvS lvE))))))))
    · intro a0 x1 x2 a3 x4 x5 x6 x7 u0 s1 b2 h0 zz hd
      unfold l_42 at hd
      rw [if_neg (by decide), if_pos rfl] at hd
      obtain ⟨e, rfl⟩ : ∃ e, d = e + 1 := ⟨d - 1, by omega⟩
      obtain ⟨h_48, q_49, hd⟩ := dk_bind hd
      refine hp_sJ 66 rfl i_42_65 q_49 ?_
      refine wp_s 69 [some (.ref a0), some (.int x1), some (.int x2), some (.ref a3), some (.int (x4 + (1 : Int32))), some (.int x5), some (.int x6), some (.int x7)] [] h_48 i_42_66 rfl ?_
      refine wp_s 146 [some (.ref a0), some (.int x1), some (.int x2), some (.ref a3), some (.int (x4 + (1 : Int32))), some (.int x5), some (.int x6), some (.int x7)] [] h_48 i_42_69 rfl ?_
      exact aWp.forget (ih.2.2 _ _ _ _ _ _ _ _ _ _ _ _ _ hd) (lvS (lvS (lvS (lvS (lvS (lvS (lvS (lvS lvE))))))))
    · intro a0 x1 x2 a3 x4 x5 x6 x7 u0 s1 b2 h0 zz hd
      unfold l_42 at hd
      rw [if_neg (by decide), if_neg (by decide), if_pos rfl] at hd
      obtain ⟨e, rfl⟩ : ∃ e, d = e + 1 := ⟨d - 1, by omega⟩
      refine wp_s 149 [some (.ref a0), some (.int x1), some (.int x2), some (.ref a3), some (.int x4), some (.int (x5 + (1 : Int32))), some (.int x6), some (.int x7)] [] h0 i_42_146 rfl ?_
      refine wp_s 6 [some (.ref a0), some (.int x1), some (.int x2), some (.ref a3), some (.int x4), some (.int (x5 + (1 : Int32))), some (.int x6), some (.int x7)] [] h0 i_42_149 rfl ?_
      exact aWp.forget (ih.1 _ _ _ _ _ _ _ _ _ _ _ _ _ hd) (lvS (lvS (lvS (lvS (lvS (lvS (lvN (lvN lvE))))))))
def d_42 (g : Nat) (a0 : Nat) (x1 : Int32) (x2 : Int32) (a3 : Nat) (h0 : aH) : Option (Int64 × aH) := (l_42 g g 0 a0 x1 x2 a3 (0 : Int32) x1 0 0 0 0 0 h0)
set_option maxHeartbeats 4000000 in
set_option maxRecDepth 100000 in
theorem d_42_ok {X : aX} {g : Nat} {a0 : Nat} {x1 : Int32} {x2 : Int32} {a3 : Nat} {h0 : aH} {zz : Int64 × aH} {d : Nat} (hdp : 1 ≤ d) (hd : d_42 g a0 x1 x2 a3 h0 = some zz) : aWp X d 42 0 (aEntL [.ref a0, .int x1, .int x2, .ref a3] 8) [] h0 (fun w h' => w = some (.long zz.1) ∧ h' = zz.2) := by
  unfold d_42 at hd
  refine wp_lv (l2 := [some (.ref a0), some (.int x1), some (.int x2), some (.ref a3), none, none, none, none]) rfl ?_
  obtain ⟨e, rfl⟩ : ∃ e, d = e + 1 := ⟨d - 1, by omega⟩
  refine wp_s 1 [some (.ref a0), some (.int x1), some (.int x2), some (.ref a3), none, none, none, none] [.int (0 : Int32)] h0 i_42_0 rfl ?_
  refine wp_s 3 [some (.ref a0), some (.int x1), some (.int x2), some (.ref a3), some (.int (0 : Int32)), none, none, none] [] h0 i_42_1 rfl ?_
  refine wp_s 4 [some (.ref a0), some (.int x1), some (.int x2), some (.ref a3), some (.int (0 : Int32)), none, none, none] [.int x1] h0 i_42_3 rfl ?_
  refine wp_s 6 [some (.ref a0), some (.int x1), some (.int x2), some (.ref a3), some (.int (0 : Int32)), some (.int x1), none, none] [] h0 i_42_4 rfl ?_
  exact aWp.forget ((l_42_ok hdp g).1 _ _ _ _ _ _ _ _ _ _ _ _ _ hd) (lvS (lvS (lvS (lvS (lvS (lvS (lvN (lvN lvE))))))))
def l_41 (g n tag : Nat) (a0 : Nat) (a1 : Nat) (x2 : Int32) (h0 : aH) : Option (Int32 × aH) := match n with
  | 0 => none
  | n + 1 => if tag = 0 then ((gI h0 a0 3 6).bind (fun f_1 => (if f_1 ≤ x2 then some ((1 : Int32), h0) else ((gR h0 a0 3 2).bind (fun f_4 => ((gA h0 f_4 x2).bind (fun f_6 => ((gR h0 a0 3 3).bind (fun f_8 => ((gA h0 f_8 x2).bind (fun f_10 => (if f_6 = f_10 then (l_41 g n 1 a0 a1 x2 h0) else ((gR h0 a0 3 2).bind (fun f_13 => ((gA h0 f_13 x2).bind (fun f_15 => ((gR h0 a0 3 3).bind (fun f_17 => ((gA h0 f_17 x2).bind (fun f_19 => (if isO h0 a0 3 = true then ((d_42 g a0 f_15 f_19 a1 h0).bind (fun z_24 => (if (lg_cmp z_24.1 (0 : Int64)) = 0 then (l_41 g n 0 a0 a1 (x2 + (1 : Int32)) z_24.2) else (l_41 g n 1 a0 a1 x2 z_24.2)))) else none))))))))))))))))))))) else if tag = 1 then ((gR h0 a0 3 1).bind (fun f_29 => ((gA h0 f_29 x2).bind (fun f_31 => ((gR h0 a0 3 2).bind (fun f_33 => ((gA h0 f_33 x2).bind (fun f_35 => (if isO h0 a0 3 = true then ((d_42 g a0 f_31 f_35 a1 h0).bind (fun z_40 => some (((if (if z_40.1 < (9999 : Int64) then z_40.1 else (9999 : Int64)) < (1 : Int64) then (1 : Int64) else (if z_40.1 < (9999 : Int64) then z_40.1 else (9999 : Int64))).toInt32), z_40.2))) else none))))))))) else none
set_option maxHeartbeats 4000000 in
set_option maxRecDepth 100000 in
theorem l_41_ok {X : aX} {g : Nat} {d : Nat} (hdp : 2 ≤ d) : ∀ n, (∀ (a0 : Nat) (a1 : Nat) (x2 : Int32) (h0 : aH) (zz : Int32 × aH), l_41 g n 0 a0 a1 x2 h0 = some zz → aWp X d 41 2 [some (.ref a0), some (.ref a1), some (.int x2), none, none] [] h0 (fun w h' => w = some (.int zz.1) ∧ h' = zz.2)) ∧ (∀ (a0 : Nat) (a1 : Nat) (x2 : Int32) (h0 : aH) (zz : Int32 × aH), l_41 g n 1 a0 a1 x2 h0 = some zz → aWp X d 41 47 [some (.ref a0), some (.ref a1), some (.int x2), none, none] [] h0 (fun w h' => w = some (.int zz.1) ∧ h' = zz.2)) := by
  intro n
  induction n with
  | zero => exact ⟨fun _ _ _ _ _ hd => by simp [l_41] at hd, fun _ _ _ _ _ hd => by simp [l_41] at hd⟩
  | succ n ih =>
    refine ⟨?_, ?_⟩
    · intro a0 a1 x2 h0 zz hd
      unfold l_41 at hd
      rw [if_pos rfl] at hd
      obtain ⟨e, rfl⟩ : ∃ e, d = e + 1 := ⟨d - 1, by omega⟩
      refine wp_s 3 [some (.ref a0), some (.ref a1), some (.int x2), none, none] [.int x2] h0 i_41_2 rfl ?_
      refine wp_s 4 [some (.ref a0), some (.ref a1), some (.int x2), none, none] [.ref a0, .int x2] h0 i_41_3 rfl ?_
      obtain ⟨f_1, q_2, hd⟩ := dk_bind hd
      refine hp_gI 7 rfl i_41_4 q_2 ?_
      refine wp_cmp_ge 84 10 rfl rfl i_41_7 (fun c_3 => ?_) (fun c_3 => ?_)
      · rw [if_pos c_3] at hd
        refine wp_s 85 [some (.ref a0), some (.ref a1), some (.int x2), none, none] [.int (1 : Int32)] h0 i_41_84 rfl ?_
        obtain rfl := Option.some.inj hd
        exact wp_iret i_41_85 ⟨rfl, rfl⟩
      · rw [if_neg c_3] at hd
        refine wp_s 11 [some (.ref a0), some (.ref a1), some (.int x2), none, none] [.ref a0] h0 i_41_10 rfl ?_
        obtain ⟨f_4, q_5, hd⟩ := dk_bind hd
        refine hp_gR 14 rfl i_41_11 q_5 ?_
        refine wp_s 15 [some (.ref a0), some (.ref a1), some (.int x2), none, none] [.int x2, .ref f_4] h0 i_41_14 rfl ?_
        obtain ⟨f_6, q_7, hd⟩ := dk_bind hd
        refine hp_gA 16 rfl i_41_15 q_7 ?_
        refine wp_s 17 [some (.ref a0), some (.ref a1), some (.int x2), none, none] [.ref a0, .int f_6] h0 i_41_16 rfl ?_
        obtain ⟨f_8, q_9, hd⟩ := dk_bind hd
        refine hp_gR 20 rfl i_41_17 q_9 ?_
        refine wp_s 21 [some (.ref a0), some (.ref a1), some (.int x2), none, none] [.int x2, .ref f_8, .int f_6] h0 i_41_20 rfl ?_
        obtain ⟨f_10, q_11, hd⟩ := dk_bind hd
        refine hp_gA 22 rfl i_41_21 q_11 ?_
        refine wp_cmp_eq 47 25 rfl rfl i_41_22 (fun c_12 => ?_) (fun c_12 => ?_)
        · rw [if_pos c_12] at hd
          exact aWp.forget (ih.2 _ _ _ _ _ hd) (lvS (lvS (lvS (lvN (lvN lvE)))))
        · rw [if_neg c_12] at hd
          refine wp_s 26 [some (.ref a0), some (.ref a1), some (.int x2), none, none] [.ref a0] h0 i_41_25 rfl ?_
          refine wp_s 27 [some (.ref a0), some (.ref a1), some (.int x2), none, none] [.ref a0, .ref a0] h0 i_41_26 rfl ?_
          obtain ⟨f_13, q_14, hd⟩ := dk_bind hd
          refine hp_gR 30 rfl i_41_27 q_14 ?_
          refine wp_s 31 [some (.ref a0), some (.ref a1), some (.int x2), none, none] [.int x2, .ref f_13, .ref a0] h0 i_41_30 rfl ?_
          obtain ⟨f_15, q_16, hd⟩ := dk_bind hd
          refine hp_gA 32 rfl i_41_31 q_16 ?_
          refine wp_s 33 [some (.ref a0), some (.ref a1), some (.int x2), none, none] [.ref a0, .int f_15, .ref a0] h0 i_41_32 rfl ?_
          obtain ⟨f_17, q_18, hd⟩ := dk_bind hd
          refine hp_gR 36 rfl i_41_33 q_18 ?_
          refine wp_s 37 [some (.ref a0), some (.ref a1), some (.int x2), none, none] [.int x2, .ref f_17, .int f_15, .ref a0] h0 i_41_36 rfl ?_
          obtain ⟨f_19, q_20, hd⟩ := dk_bind hd
          refine hp_gA 38 rfl i_41_37 q_20 ?_
          refine wp_s 39 [some (.ref a0), some (.ref a1), some (.int x2), none, none] [.ref a1, .int f_19, .int f_15, .ref a0] h0 i_41_38 rfl ?_
          obtain ⟨k_21, hd⟩ := dk_if hd
          obtain ⟨fs_22, o_23⟩ := isO_of k_21
          obtain ⟨z_24, q_25, hd⟩ := dk_bind hd
          refine wp_callV 42 rfl i_41_39 (by decide) rfl (vs := [.int f_15, .int f_19, .ref a1]) (rest := []) rfl rfl rfl o_23 (y := m_42) rfl (Nat.le_of_ble_eq_true rfl) (d_42_ok (d := e) (by omega) q_25) ?_
          rintro v_26 h_27 ⟨rfl, rfl⟩
          refine wp_s 43 [some (.ref a0), some (.ref a1), some (.int x2), none, none] [.long (0 : Int64), .long z_24.1] z_24.2 i_41_42 rfl ?_
          refine wp_s 44 [some (.ref a0), some (.ref a1), some (.int x2), none, none] [.int (lg_cmp z_24.1 (0 : Int64))] z_24.2 i_41_43 rfl ?_
          refine wp_if_eq 78 47 rfl rfl i_41_44 (fun c_28 => ?_) (fun c_28 => ?_)
          · rw [if_pos c_28] at hd
            refine wp_s 81 [some (.ref a0), some (.ref a1), some (.int (x2 + (1 : Int32))), none, none] [] z_24.2 i_41_78 rfl ?_
            refine wp_s 2 [some (.ref a0), some (.ref a1), some (.int (x2 + (1 : Int32))), none, none] [] z_24.2 i_41_81 rfl ?_
            exact aWp.forget (ih.1 _ _ _ _ _ hd) (lvS (lvS (lvS (lvN (lvN lvE)))))
          · rw [if_neg c_28] at hd
            exact aWp.forget (ih.2 _ _ _ _ _ hd) (lvS (lvS (lvS (lvN (lvN lvE)))))
    · intro a0 a1 x2 h0 zz hd
      unfold l_41 at hd
      rw [if_neg (by decide), if_pos rfl] at hd
      obtain ⟨e, rfl⟩ : ∃ e, d = e + 1 := ⟨d - 1, by omega⟩
      refine wp_s 48 [some (.ref a0), some (.ref a1), some (.int x2), none, none] [.ref a0] h0 i_41_47 rfl ?_
      refine wp_s 49 [some (.ref a0), some (.ref a1), some (.int x2), none, none] [.ref a0, .ref a0] h0 i_41_48 rfl ?_
      obtain ⟨f_29, q_30, hd⟩ := dk_bind hd
      refine hp_gR 52 rfl i_41_49 q_30 ?_
      refine wp_s 53 [some (.ref a0), some (.ref a1), some (.int x2), none, none] [.int x2, .ref f_29, .ref a0] h0 i_41_52 rfl ?_
      obtain ⟨f_31, q_32, hd⟩ := dk_bind hd
      refine hp_gA 54 rfl i_41_53 q_32 ?_
      refine wp_s 55 [some (.ref a0), some (.ref a1), some (.int x2), none, none] [.ref a0, .int f_31, .ref a0] h0 i_41_54 rfl ?_
      obtain ⟨f_33, q_34, hd⟩ := dk_bind hd
      refine hp_gR 58 rfl i_41_55 q_34 ?_
      refine wp_s 59 [some (.ref a0), some (.ref a1), some (.int x2), none, none] [.int x2, .ref f_33, .int f_31, .ref a0] h0 i_41_58 rfl ?_
      obtain ⟨f_35, q_36, hd⟩ := dk_bind hd
      refine hp_gA 60 rfl i_41_59 q_36 ?_
      refine wp_s 61 [some (.ref a0), some (.ref a1), some (.int x2), none, none] [.ref a1, .int f_35, .int f_31, .ref a0] h0 i_41_60 rfl ?_
      obtain ⟨k_37, hd⟩ := dk_if hd
      obtain ⟨fs_38, o_39⟩ := isO_of k_37
      obtain ⟨z_40, q_41, hd⟩ := dk_bind hd
      refine wp_callV 64 rfl i_41_61 (by decide) rfl (vs := [.int f_31, .int f_35, .ref a1]) (rest := []) rfl rfl rfl o_39 (y := m_42) rfl (Nat.le_of_ble_eq_true rfl) (d_42_ok (d := e) (by omega) q_41) ?_
      rintro v_42 h_43 ⟨rfl, rfl⟩
      refine wp_s 65 [some (.ref a0), some (.ref a1), some (.int x2), some (.long z_40.1), none] [] z_40.2 i_41_64 rfl ?_
      refine wp_s 66 [some (.ref a0), some (.ref a1), some (.int x2), some (.long z_40.1), none] [.long (1 : Int64)] z_40.2 i_41_65 rfl ?_
      refine wp_s 69 [some (.ref a0), some (.ref a1), some (.int x2), some (.long z_40.1), none] [.long (9999 : Int64), .long (1 : Int64)] z_40.2 i_41_66 rfl ?_
      refine wp_s 70 [some (.ref a0), some (.ref a1), some (.int x2), some (.long z_40.1), none] [.long z_40.1, .long (9999 : Int64), .long (1 : Int64)] z_40.2 i_41_69 rfl ?_
      refine hp_lmin 73 rfl i_41_70 rfl ?_
      refine hp_lmax 76 rfl i_41_73 rfl ?_
      refine wp_s 77 [some (.ref a0), some (.ref a1), some (.int x2), some (.long z_40.1), none] [.int ((if (if z_40.1 < (9999 : Int64) then z_40.1 else (9999 : Int64)) < (1 : Int64) then (1 : Int64) else (if z_40.1 < (9999 : Int64) then z_40.1 else (9999 : Int64))).toInt32)] z_40.2 i_41_76 rfl ?_
      obtain rfl := Option.some.inj hd
      exact wp_iret i_41_77 ⟨rfl, rfl⟩
def d_41 (g : Nat) (a0 : Nat) (a1 : Nat) (h0 : aH) : Option (Int32 × aH) := (l_41 g g 0 a0 a1 (0 : Int32) h0)
set_option maxHeartbeats 4000000 in
set_option maxRecDepth 100000 in
theorem d_41_ok {X : aX} {g : Nat} {a0 : Nat} {a1 : Nat} {h0 : aH} {zz : Int32 × aH} {d : Nat} (hdp : 2 ≤ d) (hd : d_41 g a0 a1 h0 = some zz) : aWp X d 41 0 (aEntL [.ref a0, .ref a1] 5) [] h0 (fun w h' => w = some (.int zz.1) ∧ h' = zz.2) := by
  unfold d_41 at hd
  refine wp_lv (l2 := [some (.ref a0), some (.ref a1), none, none, none]) rfl ?_
  obtain ⟨e, rfl⟩ : ∃ e, d = e + 1 := ⟨d - 1, by omega⟩
  refine wp_s 1 [some (.ref a0), some (.ref a1), none, none, none] [.int (0 : Int32)] h0 i_41_0 rfl ?_
  refine wp_s 2 [some (.ref a0), some (.ref a1), some (.int (0 : Int32)), none, none] [] h0 i_41_1 rfl ?_
  exact aWp.forget ((l_41_ok hdp g).1 _ _ _ _ _ hd) (lvS (lvS (lvS (lvN (lvN lvE)))))
def d_138 (g : Nat) (x0 : Int32) (x1 : Int32) (x2 : Int32) (h0 : aH) : Option (Int32 × aH) := (if x0 < x1 then some ((0 : Int32), h0) else (if x2 < x0 then some ((0 : Int32), h0) else some ((1 : Int32), h0)))
set_option maxHeartbeats 4000000 in
set_option maxRecDepth 100000 in
theorem d_138_ok {X : aX} {g : Nat} {x0 : Int32} {x1 : Int32} {x2 : Int32} {h0 : aH} {zz : Int32 × aH} {d : Nat} (hdp : 0 ≤ d) (hd : d_138 g x0 x1 x2 h0 = some zz) : aWp X d 138 0 (aEntL [.int x0, .int x1, .int x2] 3) [] h0 (fun w h' => w = some (.int zz.1) ∧ h' = zz.2) := by
  unfold d_138 at hd
  refine wp_lv (l2 := [some (.int x0), some (.int x1), some (.int x2)]) rfl ?_
  refine wp_s 1 [some (.int x0), some (.int x1), some (.int x2)] [.int x0] h0 i_138_0 rfl ?_
  refine wp_s 2 [some (.int x0), some (.int x1), some (.int x2)] [.int x1, .int x0] h0 i_138_1 rfl ?_
  refine wp_cmp_lt 14 5 rfl rfl i_138_2 (fun c_1 => ?_) (fun c_1 => ?_)
  · rw [if_pos c_1] at hd
    refine wp_s 15 [some (.int x0), some (.int x1), some (.int x2)] [.int (0 : Int32)] h0 i_138_14 rfl ?_
    obtain rfl := Option.some.inj hd
    exact wp_iretZ (z := 0) i_138_15 (by decide) ⟨rfl, rfl⟩
  · rw [if_neg c_1] at hd
    refine wp_s 6 [some (.int x0), some (.int x1), some (.int x2)] [.int x0] h0 i_138_5 rfl ?_
    refine wp_s 7 [some (.int x0), some (.int x1), some (.int x2)] [.int x2, .int x0] h0 i_138_6 rfl ?_
    refine wp_cmp_gt 14 10 rfl rfl i_138_7 (fun c_2 => ?_) (fun c_2 => ?_)
    · rw [if_pos c_2] at hd
      refine wp_s 15 [some (.int x0), some (.int x1), some (.int x2)] [.int (0 : Int32)] h0 i_138_14 rfl ?_
      obtain rfl := Option.some.inj hd
      exact wp_iretZ (z := 0) i_138_15 (by decide) ⟨rfl, rfl⟩
    · rw [if_neg c_2] at hd
      refine wp_s 11 [some (.int x0), some (.int x1), some (.int x2)] [.int (1 : Int32)] h0 i_138_10 rfl ?_
      refine wp_s 15 [some (.int x0), some (.int x1), some (.int x2)] [.int (1 : Int32)] h0 i_138_11 rfl ?_
      obtain rfl := Option.some.inj hd
      exact wp_iretZ (z := 0) i_138_15 (by decide) ⟨rfl, rfl⟩
def l_57 (g n tag : Nat) (a0 : Nat) (x1 : Int32) (x2 : Int32) (x3 : Int32) (h0 : aH) : Option (Int32 × aH) := match n with
  | 0 => none
  | n + 1 => if tag = 0 then ((gI h0 a0 5 11).bind (fun f_1 => (if f_1 ≤ x3 then some (x2, h0) else ((gR h0 a0 5 12).bind (fun f_4 => ((gA h0 f_4 x3).bind (fun f_6 => ((gR h0 a0 5 13).bind (fun f_8 => ((gA h0 f_8 x3).bind (fun f_10 => ((d_138 g x1 f_6 f_10 h0).bind (fun z_12 => (if z_12.1 = 0 then (l_57 g n 1 a0 x1 x2 x3 z_12.2) else ((gR z_12.2 a0 5 14).bind (fun f_17 => ((gA z_12.2 f_17 x3).bind (fun f_19 => (l_57 g n 1 a0 x1 f_19 x3 z_12.2))))))))))))))))))) else if tag = 1 then (l_57 g n 0 a0 x1 x2 (x3 + (1 : Int32)) h0) else none
set_option maxHeartbeats 4000000 in
set_option maxRecDepth 100000 in
theorem l_57_ok {X : aX} {g : Nat} {d : Nat} (hdp : 1 ≤ d) : ∀ n, (∀ (a0 : Nat) (x1 : Int32) (x2 : Int32) (x3 : Int32) (h0 : aH) (zz : Int32 × aH), l_57 g n 0 a0 x1 x2 x3 h0 = some zz → aWp X d 57 4 [some (.ref a0), some (.int x1), some (.int x2), some (.int x3)] [] h0 (fun w h' => w = some (.int zz.1) ∧ h' = zz.2)) ∧ (∀ (a0 : Nat) (x1 : Int32) (x2 : Int32) (x3 : Int32) (h0 : aH) (zz : Int32 × aH), l_57 g n 1 a0 x1 x2 x3 h0 = some zz → aWp X d 57 38 [some (.ref a0), some (.int x1), some (.int x2), some (.int x3)] [] h0 (fun w h' => w = some (.int zz.1) ∧ h' = zz.2)) := by
  intro n
  induction n with
  | zero => exact ⟨fun _ _ _ _ _ _ hd => by simp [l_57] at hd, fun _ _ _ _ _ _ hd => by simp [l_57] at hd⟩
  | succ n ih =>
    refine ⟨?_, ?_⟩
    · intro a0 x1 x2 x3 h0 zz hd
      unfold l_57 at hd
      rw [if_pos rfl] at hd
      obtain ⟨e, rfl⟩ : ∃ e, d = e + 1 := ⟨d - 1, by omega⟩
      refine wp_s 5 [some (.ref a0), some (.int x1), some (.int x2), some (.int x3)] [.int x3] h0 i_57_4 rfl ?_
      refine wp_s 6 [some (.ref a0), some (.int x1), some (.int x2), some (.int x3)] [.ref a0, .int x3] h0 i_57_5 rfl ?_
      obtain ⟨f_1, q_2, hd⟩ := dk_bind hd
      refine hp_gI 9 rfl i_57_6 q_2 ?_
      refine wp_cmp_ge 44 12 rfl rfl i_57_9 (fun c_3 => ?_) (fun c_3 => ?_)
      · rw [if_pos c_3] at hd
        refine wp_s 45 [some (.ref a0), some (.int x1), some (.int x2), some (.int x3)] [.int x2] h0 i_57_44 rfl ?_
        obtain rfl := Option.some.inj hd
        exact wp_iret i_57_45 ⟨rfl, rfl⟩
      · rw [if_neg c_3] at hd
        refine wp_s 13 [some (.ref a0), some (.int x1), some (.int x2), some (.int x3)] [.int x1] h0 i_57_12 rfl ?_
        refine wp_s 14 [some (.ref a0), some (.int x1), some (.int x2), some (.int x3)] [.ref a0, .int x1] h0 i_57_13 rfl ?_
        obtain ⟨f_4, q_5, hd⟩ := dk_bind hd
        refine hp_gR 17 rfl i_57_14 q_5 ?_
        refine wp_s 18 [some (.ref a0), some (.int x1), some (.int x2), some (.int x3)] [.int x3, .ref f_4, .int x1] h0 i_57_17 rfl ?_
        obtain ⟨f_6, q_7, hd⟩ := dk_bind hd
        refine hp_gA 19 rfl i_57_18 q_7 ?_
        refine wp_s 20 [some (.ref a0), some (.int x1), some (.int x2), some (.int x3)] [.ref a0, .int f_6, .int x1] h0 i_57_19 rfl ?_
        obtain ⟨f_8, q_9, hd⟩ := dk_bind hd
        refine hp_gR 23 rfl i_57_20 q_9 ?_
        refine wp_s 24 [some (.ref a0), some (.int x1), some (.int x2), some (.int x3)] [.int x3, .ref f_8, .int f_6, .int x1] h0 i_57_23 rfl ?_
        obtain ⟨f_10, q_11, hd⟩ := dk_bind hd
        refine hp_gA 25 rfl i_57_24 q_11 ?_
        obtain ⟨z_12, q_13, hd⟩ := dk_bind hd
        refine wp_callS 28 rfl i_57_25 (by decide) (vs := [.int x1, .int f_6, .int f_10]) (rest := []) rfl rfl rfl (y := m_138) rfl (Nat.le_of_ble_eq_true rfl) (d_138_ok (d := e) (by omega) q_13) ?_
        rintro v_14 h_15 ⟨rfl, rfl⟩
        refine wp_if_eq 38 31 rfl rfl i_57_28 (fun c_16 => ?_) (fun c_16 => ?_)
        · rw [if_pos c_16] at hd
          exact aWp.forget (ih.2 _ _ _ _ _ _ hd) (lvS (lvS (lvS (lvS lvE))))
        · rw [if_neg c_16] at hd
          refine wp_s 32 [some (.ref a0), some (.int x1), some (.int x2), some (.int x3)] [.ref a0] z_12.2 i_57_31 rfl ?_
          obtain ⟨f_17, q_18, hd⟩ := dk_bind hd
          refine hp_gR 35 rfl i_57_32 q_18 ?_
          refine wp_s 36 [some (.ref a0), some (.int x1), some (.int x2), some (.int x3)] [.int x3, .ref f_17] z_12.2 i_57_35 rfl ?_
          obtain ⟨f_19, q_20, hd⟩ := dk_bind hd
          refine hp_gA 37 rfl i_57_36 q_20 ?_
          refine wp_s 38 [some (.ref a0), some (.int x1), some (.int f_19), some (.int x3)] [] z_12.2 i_57_37 rfl ?_
          exact aWp.forget (ih.2 _ _ _ _ _ _ hd) (lvS (lvS (lvS (lvS lvE))))
    · intro a0 x1 x2 x3 h0 zz hd
      unfold l_57 at hd
      rw [if_neg (by decide), if_pos rfl] at hd
      obtain ⟨e, rfl⟩ : ∃ e, d = e + 1 := ⟨d - 1, by omega⟩
      refine wp_s 41 [some (.ref a0), some (.int x1), some (.int x2), some (.int (x3 + (1 : Int32)))] [] h0 i_57_38 rfl ?_
      refine wp_s 4 [some (.ref a0), some (.int x1), some (.int x2), some (.int (x3 + (1 : Int32)))] [] h0 i_57_41 rfl ?_
      exact aWp.forget (ih.1 _ _ _ _ _ _ hd) (lvS (lvS (lvS (lvS lvE))))
def d_57 (g : Nat) (a0 : Nat) (x1 : Int32) (h0 : aH) : Option (Int32 × aH) := (l_57 g g 0 a0 x1 (0 : Int32) (0 : Int32) h0)
set_option maxHeartbeats 4000000 in
set_option maxRecDepth 100000 in
theorem d_57_ok {X : aX} {g : Nat} {a0 : Nat} {x1 : Int32} {h0 : aH} {zz : Int32 × aH} {d : Nat} (hdp : 1 ≤ d) (hd : d_57 g a0 x1 h0 = some zz) : aWp X d 57 0 (aEntL [.ref a0, .int x1] 4) [] h0 (fun w h' => w = some (.int zz.1) ∧ h' = zz.2) := by
  unfold d_57 at hd
  refine wp_lv (l2 := [some (.ref a0), some (.int x1), none, none]) rfl ?_
  obtain ⟨e, rfl⟩ : ∃ e, d = e + 1 := ⟨d - 1, by omega⟩
  refine wp_s 1 [some (.ref a0), some (.int x1), none, none] [.int (0 : Int32)] h0 i_57_0 rfl ?_
  refine wp_s 2 [some (.ref a0), some (.int x1), some (.int (0 : Int32)), none] [] h0 i_57_1 rfl ?_
  refine wp_s 3 [some (.ref a0), some (.int x1), some (.int (0 : Int32)), none] [.int (0 : Int32)] h0 i_57_2 rfl ?_
  refine wp_s 4 [some (.ref a0), some (.int x1), some (.int (0 : Int32)), some (.int (0 : Int32))] [] h0 i_57_3 rfl ?_
  exact aWp.forget ((l_57_ok hdp g).1 _ _ _ _ _ _ hd) (lvS (lvS (lvS (lvS lvE))))
def j_89_30 (g : Nat) (a0 : Nat) (a1 : Nat) (x2 : Int32) (x3 : Int32) (x4 : Int32) (x5 : Int32) (a6 : Nat) (x7 : Int32) (h0 : aH) : Option (Int32 × aH) := ((gR h0 a6 5 5).bind (fun f_1 => ((gA h0 f_1 x3).bind (fun f_3 => (if ¬ (100 : Int32) = 0 then some ((if (1 : Int32) < (f_3 - ((f_3 * x7) / (100 : Int32))) then (f_3 - ((f_3 * x7) / (100 : Int32))) else (1 : Int32)), h0) else none)))))
set_option maxHeartbeats 4000000 in
set_option maxRecDepth 100000 in
theorem j_89_30_ok {X : aX} {g : Nat} {a0 : Nat} {a1 : Nat} {x2 : Int32} {x3 : Int32} {x4 : Int32} {x5 : Int32} {a6 : Nat} {x7 : Int32} {h0 : aH} {zz : Int32 × aH} {d : Nat} (hdp : 3 ≤ d) (hd : j_89_30 g a0 a1 x2 x3 x4 x5 a6 x7 h0 = some zz) : aWp X d 89 30 [some (.ref a0), some (.ref a1), some (.int x2), some (.int x3), some (.int x4), some (.int x5), some (.ref a6), some (.int x7), none] [] h0 (fun w h' => w = some (.int zz.1) ∧ h' = zz.2) := by
  unfold j_89_30 at hd
  obtain ⟨e, rfl⟩ : ∃ e, d = e + 1 := ⟨d - 1, by omega⟩
  refine wp_s 32 [some (.ref a0), some (.ref a1), some (.int x2), some (.int x3), some (.int x4), some (.int x5), some (.ref a6), some (.int x7), none] [.ref a6] h0 i_89_30 rfl ?_
  obtain ⟨f_1, q_2, hd⟩ := dk_bind hd
  refine hp_gR 35 rfl i_89_32 q_2 ?_
  refine wp_s 36 [some (.ref a0), some (.ref a1), some (.int x2), some (.int x3), some (.int x4), some (.int x5), some (.ref a6), some (.int x7), none] [.int x3, .ref f_1] h0 i_89_35 rfl ?_
  obtain ⟨f_3, q_4, hd⟩ := dk_bind hd
  refine hp_gA 37 rfl i_89_36 q_4 ?_
  refine wp_s 39 [some (.ref a0), some (.ref a1), some (.int x2), some (.int x3), some (.int x4), some (.int x5), some (.ref a6), some (.int x7), some (.int f_3)] [] h0 i_89_37 rfl ?_
  refine wp_s 40 [some (.ref a0), some (.ref a1), some (.int x2), some (.int x3), some (.int x4), some (.int x5), some (.ref a6), some (.int x7), some (.int f_3)] [.int (1 : Int32)] h0 i_89_39 rfl ?_
  refine wp_s 42 [some (.ref a0), some (.ref a1), some (.int x2), some (.int x3), some (.int x4), some (.int x5), some (.ref a6), some (.int x7), some (.int f_3)] [.int f_3, .int (1 : Int32)] h0 i_89_40 rfl ?_
  refine wp_s 44 [some (.ref a0), some (.ref a1), some (.int x2), some (.int x3), some (.int x4), some (.int x5), some (.ref a6), some (.int x7), some (.int f_3)] [.int f_3, .int f_3, .int (1 : Int32)] h0 i_89_42 rfl ?_
  refine wp_s 46 [some (.ref a0), some (.ref a1), some (.int x2), some (.int x3), some (.int x4), some (.int x5), some (.ref a6), some (.int x7), some (.int f_3)] [.int x7, .int f_3, .int f_3, .int (1 : Int32)] h0 i_89_44 rfl ?_
  refine wp_s 47 [some (.ref a0), some (.ref a1), some (.int x2), some (.int x3), some (.int x4), some (.int x5), some (.ref a6), some (.int x7), some (.int f_3)] [.int (f_3 * x7), .int f_3, .int (1 : Int32)] h0 i_89_46 rfl ?_
  refine wp_s 49 [some (.ref a0), some (.ref a1), some (.int x2), some (.int x3), some (.int x4), some (.int x5), some (.ref a6), some (.int x7), some (.int f_3)] [.int (100 : Int32), .int (f_3 * x7), .int f_3, .int (1 : Int32)] h0 i_89_47 rfl ?_
  obtain ⟨k_5, hd⟩ := dk_if hd
  refine wp_idiv 50 rfl i_89_49 k_5 ?_
  refine wp_s 51 [some (.ref a0), some (.ref a1), some (.int x2), some (.int x3), some (.int x4), some (.int x5), some (.ref a6), some (.int x7), some (.int f_3)] [.int (f_3 - ((f_3 * x7) / (100 : Int32))), .int (1 : Int32)] h0 i_89_50 rfl ?_
  refine hp_max 54 rfl i_89_51 rfl ?_
  obtain rfl := Option.some.inj hd
  exact wp_iret i_89_54 ⟨rfl, rfl⟩
def d_89 (g : Nat) (a0 : Nat) (a1 : Nat) (x2 : Int32) (x3 : Int32) (x4 : Int32) (x5 : Int32) (h0 : aH) : Option (Int32 × aH) := ((gR h0 a0 9 0).bind (fun f_1 => ((gR h0 f_1 10 0).bind (fun f_3 => (if isO h0 f_3 5 = true then ((d_57 g f_3 x4 h0).bind (fun z_8 => (if x2 < 0 then (j_89_30 g a0 a1 x2 x3 x4 x5 f_3 z_8.1 z_8.2) else ((gI z_8.2 a0 9 2).bind (fun f_13 => (if x2 < f_13 then ((gR z_8.2 a0 9 3).bind (fun f_16 => ((sJ z_8.2 f_16 (0 : Int32) (x3.toInt64)).bind (fun h_18 => ((gR h_18 a0 9 3).bind (fun f_20 => ((gR h_18 f_3 5 5).bind (fun f_22 => ((gA h_18 f_22 x3).bind (fun f_24 => ((sJ h_18 f_20 (1 : Int32) (f_24.toInt64)).bind (fun h_26 => ((gR h_26 a0 9 3).bind (fun f_28 => ((sJ h_26 f_28 (2 : Int32) (z_8.1.toInt64)).bind (fun h_30 => ((gR h_30 a0 9 3).bind (fun f_32 => ((sJ h_30 f_32 (3 : Int32) (x4.toInt64)).bind (fun h_34 => ((gR h_34 a0 9 3).bind (fun f_36 => ((sJ h_34 f_36 (4 : Int32) (x5.toInt64)).bind (fun h_38 => ((gR h_38 a0 9 3).bind (fun f_40 => ((gR h_38 a1 7 1).bind (fun f_42 => ((gA h_38 f_42 x3).bind (fun f_44 => ((sJ h_38 f_40 (5 : Int32) (f_44.toInt64)).bind (fun h_46 => ((gR h_46 a0 9 3).bind (fun f_48 => ((gR h_46 a1 7 2).bind (fun f_50 => ((gA h_46 f_50 x3).bind (fun f_52 => ((sJ h_46 f_48 (6 : Int32) (f_52.toInt64)).bind (fun h_54 => ((gR h_54 a0 9 3).bind (fun f_56 => ((gR h_54 f_3 5 6).bind (fun f_58 => ((gA h_54 f_58 x3).bind (fun f_60 => ((sJ h_54 f_56 (7 : Int32) (f_60.toInt64)).bind (fun h_62 => ((gR h_62 a0 9 1).bind (fun f_64 => ((gQ h_62 f_64 x2).bind (fun f_66 => ((gR h_62 a0 9 3).bind (fun f_68 => (if isO h_62 f_66 3 = true then ((d_41 g f_66 f_68 h_62).bind (fun z_73 => some (z_73.1, z_73.2))) else none))))))))))))))))))))))))))))))))))))))))))))))))))))))) else (j_89_30 g a0 a1 x2 x3 x4 x5 f_3 z_8.1 z_8.2))))))) else none)))))
set_option maxHeartbeats 4000000 in
set_option maxRecDepth 100000 in
theorem d_89_ok {X : aX} {g : Nat} {a0 : Nat} {a1 : Nat} {x2 : Int32} {x3 : Int32} {x4 : Int32} {x5 : Int32} {h0 : aH} {zz : Int32 × aH} {d : Nat} (hdp : 3 ≤ d) (hd : d_89 g a0 a1 x2 x3 x4 x5 h0 = some zz) : aWp X d 89 0 (aEntL [.ref a0, .ref a1, .int x2, .int x3, .int x4, .int x5] 9) [] h0 (fun w h' => w = some (.int zz.1) ∧ h' = zz.2) := by
  unfold d_89 at hd
  refine wp_lv (l2 := [some (.ref a0), some (.ref a1), some (.int x2), some (.int x3), some (.int x4), some (.int x5), none, none, none]) rfl ?_
  obtain ⟨e, rfl⟩ : ∃ e, d = e + 1 := ⟨d - 1, by omega⟩
  refine wp_s 1 [some (.ref a0), some (.ref a1), some (.int x2), some (.int x3), some (.int x4), some (.int x5), none, none, none] [.ref a0] h0 i_89_0 rfl ?_
  obtain ⟨f_1, q_2, hd⟩ := dk_bind hd
  refine hp_gR 4 rfl i_89_1 q_2 ?_
  obtain ⟨f_3, q_4, hd⟩ := dk_bind hd
  refine hp_gR 7 rfl i_89_4 q_4 ?_
  refine wp_s 9 [some (.ref a0), some (.ref a1), some (.int x2), some (.int x3), some (.int x4), some (.int x5), some (.ref f_3), none, none] [] h0 i_89_7 rfl ?_
  refine wp_s 11 [some (.ref a0), some (.ref a1), some (.int x2), some (.int x3), some (.int x4), some (.int x5), some (.ref f_3), none, none] [.ref f_3] h0 i_89_9 rfl ?_
  refine wp_s 13 [some (.ref a0), some (.ref a1), some (.int x2), some (.int x3), some (.int x4), some (.int x5), some (.ref f_3), none, none] [.int x4, .ref f_3] h0 i_89_11 rfl ?_
  obtain ⟨k_5, hd⟩ := dk_if hd
  obtain ⟨fs_6, o_7⟩ := isO_of k_5
  obtain ⟨z_8, q_9, hd⟩ := dk_bind hd
  refine wp_callV 16 rfl i_89_13 (by decide) rfl (vs := [.int x4]) (rest := []) rfl rfl rfl o_7 (y := m_57) rfl (Nat.le_of_ble_eq_true rfl) (d_57_ok (d := e) (by omega) q_9) ?_
  rintro v_10 h_11 ⟨rfl, rfl⟩
  refine wp_s 18 [some (.ref a0), some (.ref a1), some (.int x2), some (.int x3), some (.int x4), some (.int x5), some (.ref f_3), some (.int z_8.1), none] [] z_8.2 i_89_16 rfl ?_
  refine wp_s 19 [some (.ref a0), some (.ref a1), some (.int x2), some (.int x3), some (.int x4), some (.int x5), some (.ref f_3), some (.int z_8.1), none] [.int x2] z_8.2 i_89_18 rfl ?_
  refine wp_if_lt 30 22 rfl rfl i_89_19 (fun c_12 => ?_) (fun c_12 => ?_)
  · rw [if_pos c_12] at hd
    exact aWp.forget (j_89_30_ok hdp hd) (lvS (lvS (lvS (lvS (lvS (lvS (lvS (lvS (lvN lvE)))))))))
  · rw [if_neg c_12] at hd
    refine wp_s 23 [some (.ref a0), some (.ref a1), some (.int x2), some (.int x3), some (.int x4), some (.int x5), some (.ref f_3), some (.int z_8.1), none] [.int x2] z_8.2 i_89_22 rfl ?_
    refine wp_s 24 [some (.ref a0), some (.ref a1), some (.int x2), some (.int x3), some (.int x4), some (.int x5), some (.ref f_3), some (.int z_8.1), none] [.ref a0, .int x2] z_8.2 i_89_23 rfl ?_
    obtain ⟨f_13, q_14, hd⟩ := dk_bind hd
    refine hp_gI 27 rfl i_89_24 q_14 ?_
    refine wp_cmp_lt 55 30 rfl rfl i_89_27 (fun c_15 => ?_) (fun c_15 => ?_)
    · rw [if_pos c_15] at hd
      refine wp_s 56 [some (.ref a0), some (.ref a1), some (.int x2), some (.int x3), some (.int x4), some (.int x5), some (.ref f_3), some (.int z_8.1), none] [.ref a0] z_8.2 i_89_55 rfl ?_
      obtain ⟨f_16, q_17, hd⟩ := dk_bind hd
      refine hp_gR 59 rfl i_89_56 q_17 ?_
      refine wp_s 60 [some (.ref a0), some (.ref a1), some (.int x2), some (.int x3), some (.int x4), some (.int x5), some (.ref f_3), some (.int z_8.1), none] [.int (0 : Int32), .ref f_16] z_8.2 i_89_59 rfl ?_
      refine wp_s 61 [some (.ref a0), some (.ref a1), some (.int x2), some (.int x3), some (.int x4), some (.int x5), some (.ref f_3), some (.int z_8.1), none] [.int x3, .int (0 : Int32), .ref f_16] z_8.2 i_89_60 rfl ?_
      refine wp_s 62 [some (.ref a0), some (.ref a1), some (.int x2), some (.int x3), some (.int x4), some (.int x5), some (.ref f_3), some (.int z_8.1), none] [.long (x3.toInt64), .int (0 : Int32), .ref f_16] z_8.2 i_89_61 rfl ?_
      obtain ⟨h_18, q_19, hd⟩ := dk_bind hd
      refine hp_sJ 63 rfl i_89_62 q_19 ?_
      refine wp_s 64 [some (.ref a0), some (.ref a1), some (.int x2), some (.int x3), some (.int x4), some (.int x5), some (.ref f_3), some (.int z_8.1), none] [.ref a0] h_18 i_89_63 rfl ?_
      obtain ⟨f_20, q_21, hd⟩ := dk_bind hd
      refine hp_gR 67 rfl i_89_64 q_21 ?_
      refine wp_s 68 [some (.ref a0), some (.ref a1), some (.int x2), some (.int x3), some (.int x4), some (.int x5), some (.ref f_3), some (.int z_8.1), none] [.int (1 : Int32), .ref f_20] h_18 i_89_67 rfl ?_
      refine wp_s 70 [some (.ref a0), some (.ref a1), some (.int x2), some (.int x3), some (.int x4), some (.int x5), some (.ref f_3), some (.int z_8.1), none] [.ref f_3, .int (1 : Int32), .ref f_20] h_18 i_89_68 rfl ?_
      obtain ⟨f_22, q_23, hd⟩ := dk_bind hd
      refine hp_gR 73 rfl i_89_70 q_23 ?_
      refine wp_s 74 [some (.ref a0), some (.ref a1), some (.int x2), some (.int x3), some (.int x4), some (.int x5), some (.ref f_3), some (.int z_8.1), none] [.int x3, .ref f_22, .int (1 : Int32), .ref f_20] h_18 i_89_73 rfl ?_
      obtain ⟨f_24, q_25, hd⟩ := dk_bind hd
      refine hp_gA 75 rfl i_89_74 q_25 ?_
      refine wp_s 76 [some (.ref a0), some (.ref a1), some (.int x2), some (.int x3), some (.int x4), some (.int x5), some (.ref f_3), some (.int z_8.1), none] [.long (f_24.toInt64), .int (1 : Int32), .ref f_20] h_18 i_89_75 rfl ?_
      obtain ⟨h_26, q_27, hd⟩ := dk_bind hd
      refine hp_sJ 77 rfl i_89_76 q_27 ?_
      refine wp_s 78 [some (.ref a0), some (.ref a1), some (.int x2), some (.int x3), some (.int x4), some (.int x5), some (.ref f_3), some (.int z_8.1), none] [.ref a0] h_26 i_89_77 rfl ?_
      obtain ⟨f_28, q_29, hd⟩ := dk_bind hd
      refine hp_gR 81 rfl i_89_78 q_29 ?_
      refine wp_s 82 [some (.ref a0), some (.ref a1), some (.int x2), some (.int x3), some (.int x4), some (.int x5), some (.ref f_3), some (.int z_8.1), none] [.int (2 : Int32), .ref f_28] h_26 i_89_81 rfl ?_
      refine wp_s 84 [some (.ref a0), some (.ref a1), some (.int x2), some (.int x3), some (.int x4), some (.int x5), some (.ref f_3), some (.int z_8.1), none] [.int z_8.1, .int (2 : Int32), .ref f_28] h_26 i_89_82 rfl ?_
      refine wp_s 85 [some (.ref a0), some (.ref a1), some (.int x2), some (.int x3), some (.int x4), some (.int x5), some (.ref f_3), some (.int z_8.1), none] [.long (z_8.1.toInt64), .int (2 : Int32), .ref f_28] h_26 i_89_84 rfl ?_
      obtain ⟨h_30, q_31, hd⟩ := dk_bind hd
      refine hp_sJ 86 rfl i_89_85 q_31 ?_
      refine wp_s 87 [some (.ref a0), some (.ref a1), some (.int x2), some (.int x3), some (.int x4), some (.int x5), some (.ref f_3), some (.int z_8.1), none] [.ref a0] h_30 i_89_86 rfl ?_
      obtain ⟨f_32, q_33, hd⟩ := dk_bind hd
      refine hp_gR 90 rfl i_89_87 q_33 ?_
      refine wp_s 91 [some (.ref a0), some (.ref a1), some (.int x2), some (.int x3), some (.int x4), some (.int x5), some (.ref f_3), some (.int z_8.1), none] [.int (3 : Int32), .ref f_32] h_30 i_89_90 rfl ?_
      refine wp_s 93 [some (.ref a0), some (.ref a1), some (.int x2), some (.int x3), some (.int x4), some (.int x5), some (.ref f_3), some (.int z_8.1), none] [.int x4, .int (3 : Int32), .ref f_32] h_30 i_89_91 rfl ?_
      refine wp_s 94 [some (.ref a0), some (.ref a1), some (.int x2), some (.int x3), some (.int x4), some (.int x5), some (.ref f_3), some (.int z_8.1), none] [.long (x4.toInt64), .int (3 : Int32), .ref f_32] h_30 i_89_93 rfl ?_
      obtain ⟨h_34, q_35, hd⟩ := dk_bind hd
      refine hp_sJ 95 rfl i_89_94 q_35 ?_
      refine wp_s 96 [some (.ref a0), some (.ref a1), some (.int x2), some (.int x3), some (.int x4), some (.int x5), some (.ref f_3), some (.int z_8.1), none] [.ref a0] h_34 i_89_95 rfl ?_
      obtain ⟨f_36, q_37, hd⟩ := dk_bind hd
      refine hp_gR 99 rfl i_89_96 q_37 ?_
      refine wp_s 100 [some (.ref a0), some (.ref a1), some (.int x2), some (.int x3), some (.int x4), some (.int x5), some (.ref f_3), some (.int z_8.1), none] [.int (4 : Int32), .ref f_36] h_34 i_89_99 rfl ?_
      refine wp_s 102 [some (.ref a0), some (.ref a1), some (.int x2), some (.int x3), some (.int x4), some (.int x5), some (.ref f_3), some (.int z_8.1), none] [.int x5, .int (4 : Int32), .ref f_36] h_34 i_89_100 rfl ?_
      refine wp_s 103 [some (.ref a0), some (.ref a1), some (.int x2), some (.int x3), some (.int x4), some (.int x5), some (.ref f_3), some (.int z_8.1), none] [.long (x5.toInt64), .int (4 : Int32), .ref f_36] h_34 i_89_102 rfl ?_
      obtain ⟨h_38, q_39, hd⟩ := dk_bind hd
      refine hp_sJ 104 rfl i_89_103 q_39 ?_
      refine wp_s 105 [some (.ref a0), some (.ref a1), some (.int x2), some (.int x3), some (.int x4), some (.int x5), some (.ref f_3), some (.int z_8.1), none] [.ref a0] h_38 i_89_104 rfl ?_
      obtain ⟨f_40, q_41, hd⟩ := dk_bind hd
      refine hp_gR 108 rfl i_89_105 q_41 ?_
      refine wp_s 109 [some (.ref a0), some (.ref a1), some (.int x2), some (.int x3), some (.int x4), some (.int x5), some (.ref f_3), some (.int z_8.1), none] [.int (5 : Int32), .ref f_40] h_38 i_89_108 rfl ?_
      refine wp_s 110 [some (.ref a0), some (.ref a1), some (.int x2), some (.int x3), some (.int x4), some (.int x5), some (.ref f_3), some (.int z_8.1), none] [.ref a1, .int (5 : Int32), .ref f_40] h_38 i_89_109 rfl ?_
      obtain ⟨f_42, q_43, hd⟩ := dk_bind hd
      refine hp_gR 113 rfl i_89_110 q_43 ?_
      refine wp_s 114 [some (.ref a0), some (.ref a1), some (.int x2), some (.int x3), some (.int x4), some (.int x5), some (.ref f_3), some (.int z_8.1), none] [.int x3, .ref f_42, .int (5 : Int32), .ref f_40] h_38 i_89_113 rfl ?_
      obtain ⟨f_44, q_45, hd⟩ := dk_bind hd
      refine hp_gA 115 rfl i_89_114 q_45 ?_
      refine wp_s 116 [some (.ref a0), some (.ref a1), some (.int x2), some (.int x3), some (.int x4), some (.int x5), some (.ref f_3), some (.int z_8.1), none] [.long (f_44.toInt64), .int (5 : Int32), .ref f_40] h_38 i_89_115 rfl ?_
      obtain ⟨h_46, q_47, hd⟩ := dk_bind hd
      refine hp_sJ 117 rfl i_89_116 q_47 ?_
      refine wp_s 118 [some (.ref a0), some (.ref a1), some (.int x2), some (.int x3), some (.int x4), some (.int x5), some (.ref f_3), some (.int z_8.1), none] [.ref a0] h_46 i_89_117 rfl ?_
      obtain ⟨f_48, q_49, hd⟩ := dk_bind hd
      refine hp_gR 121 rfl i_89_118 q_49 ?_
      refine wp_s 123 [some (.ref a0), some (.ref a1), some (.int x2), some (.int x3), some (.int x4), some (.int x5), some (.ref f_3), some (.int z_8.1), none] [.int (6 : Int32), .ref f_48] h_46 i_89_121 rfl ?_
      refine wp_s 124 [some (.ref a0), some (.ref a1), some (.int x2), some (.int x3), some (.int x4), some (.int x5), some (.ref f_3), some (.int z_8.1), none] [.ref a1, .int (6 : Int32), .ref f_48] h_46 i_89_123 rfl ?_
      obtain ⟨f_50, q_51, hd⟩ := dk_bind hd
      refine hp_gR 127 rfl i_89_124 q_51 ?_
      refine wp_s 128 [some (.ref a0), some (.ref a1), some (.int x2), some (.int x3), some (.int x4), some (.int x5), some (.ref f_3), some (.int z_8.1), none] [.int x3, .ref f_50, .int (6 : Int32), .ref f_48] h_46 i_89_127 rfl ?_
      obtain ⟨f_52, q_53, hd⟩ := dk_bind hd
      refine hp_gA 129 rfl i_89_128 q_53 ?_
      refine wp_s 130 [some (.ref a0), some (.ref a1), some (.int x2), some (.int x3), some (.int x4), some (.int x5), some (.ref f_3), some (.int z_8.1), none] [.long (f_52.toInt64), .int (6 : Int32), .ref f_48] h_46 i_89_129 rfl ?_
      obtain ⟨h_54, q_55, hd⟩ := dk_bind hd
      refine hp_sJ 131 rfl i_89_130 q_55 ?_
      refine wp_s 132 [some (.ref a0), some (.ref a1), some (.int x2), some (.int x3), some (.int x4), some (.int x5), some (.ref f_3), some (.int z_8.1), none] [.ref a0] h_54 i_89_131 rfl ?_
      obtain ⟨f_56, q_57, hd⟩ := dk_bind hd
      refine hp_gR 135 rfl i_89_132 q_57 ?_
      refine wp_s 137 [some (.ref a0), some (.ref a1), some (.int x2), some (.int x3), some (.int x4), some (.int x5), some (.ref f_3), some (.int z_8.1), none] [.int (7 : Int32), .ref f_56] h_54 i_89_135 rfl ?_
      refine wp_s 139 [some (.ref a0), some (.ref a1), some (.int x2), some (.int x3), some (.int x4), some (.int x5), some (.ref f_3), some (.int z_8.1), none] [.ref f_3, .int (7 : Int32), .ref f_56] h_54 i_89_137 rfl ?_
      obtain ⟨f_58, q_59, hd⟩ := dk_bind hd
      refine hp_gR 142 rfl i_89_139 q_59 ?_
      refine wp_s 143 [some (.ref a0), some (.ref a1), some (.int x2), some (.int x3), some (.int x4), some (.int x5), some (.ref f_3), some (.int z_8.1), none] [.int x3, .ref f_58, .int (7 : Int32), .ref f_56] h_54 i_89_142 rfl ?_
      obtain ⟨f_60, q_61, hd⟩ := dk_bind hd
      refine hp_gA 144 rfl i_89_143 q_61 ?_
      refine wp_s 145 [some (.ref a0), some (.ref a1), some (.int x2), some (.int x3), some (.int x4), some (.int x5), some (.ref f_3), some (.int z_8.1), none] [.long (f_60.toInt64), .int (7 : Int32), .ref f_56] h_54 i_89_144 rfl ?_
      obtain ⟨h_62, q_63, hd⟩ := dk_bind hd
      refine hp_sJ 146 rfl i_89_145 q_63 ?_
      refine wp_s 147 [some (.ref a0), some (.ref a1), some (.int x2), some (.int x3), some (.int x4), some (.int x5), some (.ref f_3), some (.int z_8.1), none] [.ref a0] h_62 i_89_146 rfl ?_
      obtain ⟨f_64, q_65, hd⟩ := dk_bind hd
      refine hp_gR 150 rfl i_89_147 q_65 ?_
      refine wp_s 151 [some (.ref a0), some (.ref a1), some (.int x2), some (.int x3), some (.int x4), some (.int x5), some (.ref f_3), some (.int z_8.1), none] [.int x2, .ref f_64] h_62 i_89_150 rfl ?_
      obtain ⟨f_66, q_67, hd⟩ := dk_bind hd
      refine hp_gQ 152 rfl i_89_151 q_67 ?_
      refine wp_s 153 [some (.ref a0), some (.ref a1), some (.int x2), some (.int x3), some (.int x4), some (.int x5), some (.ref f_3), some (.int z_8.1), none] [.ref a0, .ref f_66] h_62 i_89_152 rfl ?_
      obtain ⟨f_68, q_69, hd⟩ := dk_bind hd
      refine hp_gR 156 rfl i_89_153 q_69 ?_
      obtain ⟨k_70, hd⟩ := dk_if hd
      obtain ⟨fs_71, o_72⟩ := isO_of k_70
      obtain ⟨z_73, q_74, hd⟩ := dk_bind hd
      refine wp_callV 159 rfl i_89_156 (by decide) rfl (vs := [.ref f_68]) (rest := []) rfl rfl rfl o_72 (y := m_41) rfl (Nat.le_of_ble_eq_true rfl) (d_41_ok (d := e) (by omega) q_74) ?_
      rintro v_75 h_76 ⟨rfl, rfl⟩
      obtain rfl := Option.some.inj hd
      exact wp_iret i_89_159 ⟨rfl, rfl⟩
    · rw [if_neg c_15] at hd
      exact aWp.forget (j_89_30_ok hdp hd) (lvS (lvS (lvS (lvS (lvS (lvS (lvS (lvS (lvN lvE)))))))))
