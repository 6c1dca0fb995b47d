theorem i_13_0 : aIns 13 0 = some (.aload_n 0, 1, 0, 0, .null) := by decide +kernel
theorem i_13_1 : aIns 13 1 = some (.getfield 12, 3, 2, 2, .null) := by decide +kernel
theorem i_13_4 : aIns 13 4 = some (.invokevirtual 89, 3, 1, 0, .int 0) := by decide +kernel
theorem i_13_7 : aIns 13 7 = some (.aload_n 0, 1, 0, 0, .null) := by decide +kernel
theorem i_13_8 : aIns 13 8 = some (.aload_n 0, 1, 0, 0, .null) := by decide +kernel
theorem i_13_9 : aIns 13 9 = some (.getfield 47, 3, 2, 0, .null) := by decide +kernel
theorem i_13_12 : aIns 13 12 = some (.getfield 76, 3, 10, 1, .null) := by decide +kernel
theorem i_13_15 : aIns 13 15 = some (.getfield 92, 3, 7, 13, .null) := by decide +kernel
theorem i_13_18 : aIns 13 18 = some (.invokevirtual 95, 3, 12, 1, .int 2) := by decide +kernel
theorem i_13_21 : aIns 13 21 = some (.aload_n 0, 1, 0, 0, .null) := by decide +kernel
theorem i_13_22 : aIns 13 22 = some (.iconst 0, 1, 0, 0, .int (0)) := by decide +kernel
theorem i_13_23 : aIns 13 23 = some (.invokevirtual 99, 3, 14, 1, .int 2) := by decide +kernel
theorem i_13_26 : aIns 13 26 = some (.return_, 1, 0, 0, .null) := by decide +kernel
theorem i_14_0 : aIns 14 0 = some (.aload_n 0, 1, 0, 0, .null) := by decide +kernel
theorem i_14_1 : aIns 14 1 = some (.getfield 12, 3, 2, 2, .null) := by decide +kernel
theorem i_14_4 : aIns 14 4 = some (.aload_n 0, 1, 0, 0, .null) := by decide +kernel
theorem i_14_5 : aIns 14 5 = some (.getfield 51, 3, 2, 1, .null) := by decide +kernel
theorem i_14_8 : aIns 14 8 = some (.aload_n 0, 1, 0, 0, .null) := by decide +kernel
theorem i_14_9 : aIns 14 9 = some (.getfield 86, 3, 2, 12, .null) := by decide +kernel
theorem i_14_12 : aIns 14 12 = some (.aload_n 0, 1, 0, 0, .null) := by decide +kernel
theorem i_14_13 : aIns 14 13 = some (.getfield 55, 3, 2, 11, .null) := by decide +kernel
theorem i_14_16 : aIns 14 16 = some (.aload_n 0, 1, 0, 0, .null) := by decide +kernel
theorem i_14_17 : aIns 14 17 = some (.getfield 18, 3, 2, 3, .null) := by decide +kernel
theorem i_14_20 : aIns 14 20 = some (.iload_n 1, 1, 0, 0, .null) := by decide +kernel
theorem i_14_21 : aIns 14 21 = some (.aload_n 0, 1, 0, 0, .null) := by decide +kernel
theorem i_14_22 : aIns 14 22 = some (.getfield 47, 3, 2, 0, .null) := by decide +kernel
theorem i_14_25 : aIns 14 25 = some (.getfield 59, 3, 10, 0, .null) := by decide +kernel
theorem i_14_28 : aIns 14 28 = some (.getfield 102, 3, 5, 2, .null) := by decide +kernel
theorem i_14_31 : aIns 14 31 = some (.invokevirtual 105, 3, 94, 5, .int 9) := by decide +kernel
theorem i_14_34 : aIns 14 34 = some (.aload_n 0, 1, 0, 0, .null) := by decide +kernel
theorem i_14_35 : aIns 14 35 = some (.getfield 18, 3, 2, 3, .null) := by decide +kernel
theorem i_14_38 : aIns 14 38 = some (.iload_n 1, 1, 0, 0, .null) := by decide +kernel
theorem i_14_39 : aIns 14 39 = some (.invokevirtual 109, 3, 2, 3, .int 0) := by decide +kernel
theorem i_14_42 : aIns 14 42 = some (.iload_n 1, 1, 0, 0, .null) := by decide +kernel
theorem i_14_43 : aIns 14 43 = some (.iconst 5, 1, 0, 0, .int (5)) := by decide +kernel
theorem i_14_44 : aIns 14 44 = some (.if_icmp .lt 4, 3, 0, 0, .null) := by decide +kernel
theorem i_14_47 : aIns 14 47 = some (.return_, 1, 0, 0, .null) := by decide +kernel
theorem i_14_48 : aIns 14 48 = some (.iconst 0, 1, 0, 0, .int (0)) := by decide +kernel
theorem i_14_49 : aIns 14 49 = some (.istore_n 2, 1, 0, 0, .null) := by decide +kernel
theorem i_14_50 : aIns 14 50 = some (.iload_n 2, 1, 0, 0, .null) := by decide +kernel
theorem i_14_51 : aIns 14 51 = some (.aload_n 0, 1, 0, 0, .null) := by decide +kernel
theorem i_14_52 : aIns 14 52 = some (.getfield 47, 3, 2, 0, .null) := by decide +kernel
theorem i_14_55 : aIns 14 55 = some (.getfield 59, 3, 10, 0, .null) := by decide +kernel
theorem i_14_58 : aIns 14 58 = some (.getfield 113, 3, 5, 15, .null) := by decide +kernel
theorem i_14_61 : aIns 14 61 = some (.if_icmp .ge 56, 3, 0, 0, .null) := by decide +kernel
theorem i_14_64 : aIns 14 64 = some (.aload_n 0, 1, 0, 0, .null) := by decide +kernel
theorem i_14_65 : aIns 14 65 = some (.getfield 47, 3, 2, 0, .null) := by decide +kernel
theorem i_14_68 : aIns 14 68 = some (.getfield 76, 3, 10, 1, .null) := by decide +kernel
theorem i_14_71 : aIns 14 71 = some (.iload_n 2, 1, 0, 0, .null) := by decide +kernel
theorem i_14_72 : aIns 14 72 = some (.invokevirtual 116, 3, 77, 1, .int 7) := by decide +kernel
theorem i_14_75 : aIns 14 75 = some (.ifCond .ne 36, 3, 0, 0, .null) := by decide +kernel
theorem i_14_78 : aIns 14 78 = some (.aload_n 0, 1, 0, 0, .null) := by decide +kernel
theorem i_14_79 : aIns 14 79 = some (.getfield 47, 3, 2, 0, .null) := by decide +kernel
theorem i_14_82 : aIns 14 82 = some (.getfield 59, 3, 10, 0, .null) := by decide +kernel
theorem i_14_85 : aIns 14 85 = some (.iload_n 2, 1, 0, 0, .null) := by decide +kernel
theorem i_14_86 : aIns 14 86 = some (.aload_n 0, 1, 0, 0, .null) := by decide +kernel
theorem i_14_87 : aIns 14 87 = some (.getfield 18, 3, 2, 3, .null) := by decide +kernel
theorem i_14_90 : aIns 14 90 = some (.iload_n 1, 1, 0, 0, .null) := by decide +kernel
theorem i_14_91 : aIns 14 91 = some (.invokevirtual 120, 3, 58, 3, .int 5) := by decide +kernel
theorem i_14_94 : aIns 14 94 = some (.ifCond .eq 17, 3, 0, 0, .null) := by decide +kernel
theorem i_14_97 : aIns 14 97 = some (.aload_n 0, 1, 0, 0, .null) := by decide +kernel
theorem i_14_98 : aIns 14 98 = some (.getfield 18, 3, 2, 3, .null) := by decide +kernel
theorem i_14_101 : aIns 14 101 = some (.iload_n 1, 1, 0, 0, .null) := by decide +kernel
theorem i_14_102 : aIns 14 102 = some (.iload_n 2, 1, 0, 0, .null) := by decide +kernel
theorem i_14_103 : aIns 14 103 = some (.iastore, 1, 0, 0, .null) := by decide +kernel
theorem i_14_104 : aIns 14 104 = some (.aload_n 0, 1, 0, 0, .null) := by decide +kernel
theorem i_14_105 : aIns 14 105 = some (.iload_n 1, 1, 0, 0, .null) := by decide +kernel
theorem i_14_106 : aIns 14 106 = some (.iconst 1, 1, 0, 0, .int (1)) := by decide +kernel
theorem i_14_107 : aIns 14 107 = some (.iadd, 1, 0, 0, .null) := by decide +kernel
theorem i_14_108 : aIns 14 108 = some (.invokevirtual 99, 3, 14, 1, .int 2) := by decide +kernel
theorem i_14_111 : aIns 14 111 = some (.iinc 2 1, 3, 0, 0, .null) := by decide +kernel
theorem i_14_114 : aIns 14 114 = some (.goto (-64), 3, 0, 0, .null) := by decide +kernel
theorem i_14_117 : aIns 14 117 = some (.return_, 1, 0, 0, .null) := by decide +kernel
theorem i_15_0 : aIns 15 0 = some (.aload_n 0, 1, 0, 0, .null) := by decide +kernel
theorem i_15_1 : aIns 15 1 = some (.getfield 12, 3, 2, 2, .null) := by decide +kernel
theorem i_15_4 : aIns 15 4 = some (.invokevirtual 89, 3, 1, 0, .int 0) := by decide +kernel
theorem i_15_7 : aIns 15 7 = some (.iconst 0, 1, 0, 0, .int (0)) := by decide +kernel
theorem i_15_8 : aIns 15 8 = some (.istore_n 2, 1, 0, 0, .null) := by decide +kernel
theorem i_15_9 : aIns 15 9 = some (.iload_n 2, 1, 0, 0, .null) := by decide +kernel
theorem i_15_10 : aIns 15 10 = some (.iconst 3, 1, 0, 0, .int (3)) := by decide +kernel
theorem i_15_11 : aIns 15 11 = some (.if_icmp .gt 77, 3, 0, 0, .null) := by decide +kernel
theorem i_15_14 : aIns 15 14 = some (.aload_n 0, 1, 0, 0, .null) := by decide +kernel
theorem i_15_15 : aIns 15 15 = some (.iload_n 2, 1, 0, 0, .null) := by decide +kernel
theorem i_15_16 : aIns 15 16 = some (.invokevirtual 124, 3, 16, 1, .int 2) := by decide +kernel
theorem i_15_19 : aIns 15 19 = some (.istore_n 3, 1, 0, 0, .null) := by decide +kernel
theorem i_15_20 : aIns 15 20 = some (.iconst 0, 1, 0, 0, .int (0)) := by decide +kernel
theorem i_15_21 : aIns 15 21 = some (.istore 4, 2, 0, 0, .null) := by decide +kernel
theorem i_15_23 : aIns 15 23 = some (.iload_n 3, 1, 0, 0, .null) := by decide +kernel
theorem i_15_24 : aIns 15 24 = some (.ifCond .eq 58, 3, 0, 0, .null) := by decide +kernel
theorem i_15_27 : aIns 15 27 = some (.iload 4, 2, 0, 0, .null) := by decide +kernel
theorem i_15_29 : aIns 15 29 = some (.ldc 127, 2, 0, 0, .int (1000000)) := by decide +kernel
theorem i_15_31 : aIns 15 31 = some (.if_icmp .ge 51, 3, 0, 0, .null) := by decide +kernel
theorem i_15_34 : aIns 15 34 = some (.aload_n 0, 1, 0, 0, .null) := by decide +kernel
theorem i_15_35 : aIns 15 35 = some (.iload_n 2, 1, 0, 0, .null) := by decide +kernel
theorem i_15_36 : aIns 15 36 = some (.invokevirtual 128, 3, 18, 1, .int 2) := by decide +kernel
theorem i_15_39 : aIns 15 39 = some (.ifCond .eq 31, 3, 0, 0, .null) := by decide +kernel
theorem i_15_42 : aIns 15 42 = some (.aload_n 0, 1, 0, 0, .null) := by decide +kernel
theorem i_15_43 : aIns 15 43 = some (.getfield 12, 3, 2, 2, .null) := by decide +kernel
theorem i_15_46 : aIns 15 46 = some (.aload_n 0, 1, 0, 0, .null) := by decide +kernel
theorem i_15_47 : aIns 15 47 = some (.iload_n 1, 1, 0, 0, .null) := by decide +kernel
theorem i_15_48 : aIns 15 48 = some (.iload_n 2, 1, 0, 0, .null) := by decide +kernel
theorem i_15_49 : aIns 15 49 = some (.invokevirtual 131, 3, 19, 2, .int 2) := by decide +kernel
theorem i_15_52 : aIns 15 52 = some (.aload_n 0, 1, 0, 0, .null) := by decide +kernel
theorem i_15_53 : aIns 15 53 = some (.aload_n 0, 1, 0, 0, .null) := by decide +kernel
theorem i_15_54 : aIns 15 54 = some (.getfield 18, 3, 2, 3, .null) := by decide +kernel
theorem i_15_57 : aIns 15 57 = some (.iload_n 2, 1, 0, 0, .null) := by decide +kernel
theorem i_15_58 : aIns 15 58 = some (.invokevirtual 134, 3, 21, 2, .int 2) := by decide +kernel
theorem i_15_61 : aIns 15 61 = some (.isub, 1, 0, 0, .null) := by decide +kernel
theorem i_15_62 : aIns 15 62 = some (.aload_n 0, 1, 0, 0, .null) := by decide +kernel
theorem i_15_63 : aIns 15 63 = some (.getfield 18, 3, 2, 3, .null) := by decide +kernel
theorem i_15_66 : aIns 15 66 = some (.iload_n 2, 1, 0, 0, .null) := by decide +kernel
theorem i_15_67 : aIns 15 67 = some (.invokevirtual 109, 3, 2, 3, .int 0) := by decide +kernel
theorem i_15_70 : aIns 15 70 = some (.aload_n 0, 1, 0, 0, .null) := by decide +kernel
theorem i_15_71 : aIns 15 71 = some (.iload_n 2, 1, 0, 0, .null) := by decide +kernel
theorem i_15_72 : aIns 15 72 = some (.invokevirtual 138, 3, 17, 1, .int 2) := by decide +kernel
theorem i_15_75 : aIns 15 75 = some (.istore_n 3, 1, 0, 0, .null) := by decide +kernel
theorem i_15_76 : aIns 15 76 = some (.iinc 4 1, 3, 0, 0, .null) := by decide +kernel
theorem i_15_79 : aIns 15 79 = some (.goto (-56), 3, 0, 0, .null) := by decide +kernel
theorem i_15_82 : aIns 15 82 = some (.iinc 2 1, 3, 0, 0, .null) := by decide +kernel
theorem i_15_85 : aIns 15 85 = some (.goto (-76), 3, 0, 0, .null) := by decide +kernel
theorem i_15_88 : aIns 15 88 = some (.return_, 1, 0, 0, .null) := by decide +kernel
theorem i_16_0 : aIns 16 0 = some (.aload_n 0, 1, 0, 0, .null) := by decide +kernel
theorem i_16_1 : aIns 16 1 = some (.getfield 18, 3, 2, 3, .null) := by decide +kernel
theorem i_16_4 : aIns 16 4 = some (.iconst 0, 1, 0, 0, .int (0)) := by decide +kernel
theorem i_16_5 : aIns 16 5 = some (.invokestatic 141, 3, 273, 2, .null) := by decide +kernel
theorem i_16_8 : aIns 16 8 = some (.iload_n 1, 1, 0, 0, .null) := by decide +kernel
theorem i_16_9 : aIns 16 9 = some (.ifCond .eq 16, 3, 0, 0, .null) := by decide +kernel
theorem i_16_12 : aIns 16 12 = some (.aload_n 0, 1, 0, 0, .null) := by decide +kernel
theorem i_16_13 : aIns 16 13 = some (.getfield 47, 3, 2, 0, .null) := by decide +kernel
theorem i_16_16 : aIns 16 16 = some (.getfield 59, 3, 10, 0, .null) := by decide +kernel
theorem i_16_19 : aIns 16 19 = some (.getfield 65, 3, 5, 4, .null) := by decide +kernel
theorem i_16_22 : aIns 16 22 = some (.ifCond .le 7, 3, 0, 0, .null) := by decide +kernel
theorem i_16_25 : aIns 16 25 = some (.iconst 1, 1, 0, 0, .int (1)) := by decide +kernel
theorem i_16_26 : aIns 16 26 = some (.goto 4, 3, 0, 0, .null) := by decide +kernel
theorem i_16_29 : aIns 16 29 = some (.iconst 0, 1, 0, 0, .int (0)) := by decide +kernel
theorem i_16_30 : aIns 16 30 = some (.ireturn, 1, 1, 0, .null) := by decide +kernel
theorem i_17_0 : aIns 17 0 = some (.iload_n 1, 1, 0, 0, .null) := by decide +kernel
theorem i_17_1 : aIns 17 1 = some (.iconst 1, 1, 0, 0, .int (1)) := by decide +kernel
theorem i_17_2 : aIns 17 2 = some (.isub, 1, 0, 0, .null) := by decide +kernel
theorem i_17_3 : aIns 17 3 = some (.istore_n 2, 1, 0, 0, .null) := by decide +kernel
theorem i_17_4 : aIns 17 4 = some (.iload_n 2, 1, 0, 0, .null) := by decide +kernel
theorem i_17_5 : aIns 17 5 = some (.ifCond .lt 57, 3, 0, 0, .null) := by decide +kernel
theorem i_17_8 : aIns 17 8 = some (.aload_n 0, 1, 0, 0, .null) := by decide +kernel
theorem i_17_9 : aIns 17 9 = some (.getfield 18, 3, 2, 3, .null) := by decide +kernel
theorem i_17_12 : aIns 17 12 = some (.iload_n 2, 1, 0, 0, .null) := by decide +kernel
theorem i_17_13 : aIns 17 13 = some (.iaload, 1, 0, 0, .null) := by decide +kernel
theorem i_17_14 : aIns 17 14 = some (.iconst 1, 1, 0, 0, .int (1)) := by decide +kernel
theorem i_17_15 : aIns 17 15 = some (.iadd, 1, 0, 0, .null) := by decide +kernel
theorem i_17_16 : aIns 17 16 = some (.istore_n 3, 1, 0, 0, .null) := by decide +kernel
theorem i_17_17 : aIns 17 17 = some (.iload_n 3, 1, 0, 0, .null) := by decide +kernel
theorem i_17_18 : aIns 17 18 = some (.aload_n 0, 1, 0, 0, .null) := by decide +kernel
theorem i_17_19 : aIns 17 19 = some (.getfield 47, 3, 2, 0, .null) := by decide +kernel
theorem i_17_22 : aIns 17 22 = some (.getfield 59, 3, 10, 0, .null) := by decide +kernel
theorem i_17_25 : aIns 17 25 = some (.getfield 65, 3, 5, 4, .null) := by decide +kernel
theorem i_17_28 : aIns 17 28 = some (.if_icmp .ge 28, 3, 0, 0, .null) := by decide +kernel
theorem i_17_31 : aIns 17 31 = some (.iload_n 2, 1, 0, 0, .null) := by decide +kernel
theorem i_17_32 : aIns 17 32 = some (.istore 4, 2, 0, 0, .null) := by decide +kernel
theorem i_17_34 : aIns 17 34 = some (.iload 4, 2, 0, 0, .null) := by decide +kernel
theorem i_17_36 : aIns 17 36 = some (.iload_n 1, 1, 0, 0, .null) := by decide +kernel
theorem i_17_37 : aIns 17 37 = some (.if_icmp .ge 17, 3, 0, 0, .null) := by decide +kernel
theorem i_17_40 : aIns 17 40 = some (.aload_n 0, 1, 0, 0, .null) := by decide +kernel
theorem i_17_41 : aIns 17 41 = some (.getfield 18, 3, 2, 3, .null) := by decide +kernel
theorem i_17_44 : aIns 17 44 = some (.iload 4, 2, 0, 0, .null) := by decide +kernel
theorem i_17_46 : aIns 17 46 = some (.iload_n 3, 1, 0, 0, .null) := by decide +kernel
theorem i_17_47 : aIns 17 47 = some (.iastore, 1, 0, 0, .null) := by decide +kernel
theorem i_17_48 : aIns 17 48 = some (.iinc 4 1, 3, 0, 0, .null) := by decide +kernel
theorem i_17_51 : aIns 17 51 = some (.goto (-17), 3, 0, 0, .null) := by decide +kernel
theorem i_17_54 : aIns 17 54 = some (.iconst 1, 1, 0, 0, .int (1)) := by decide +kernel
theorem i_17_55 : aIns 17 55 = some (.ireturn, 1, 1, 0, .null) := by decide +kernel
theorem i_17_56 : aIns 17 56 = some (.iinc 2 (-1), 3, 0, 0, .null) := by decide +kernel
theorem i_17_59 : aIns 17 59 = some (.goto (-55), 3, 0, 0, .null) := by decide +kernel
theorem i_17_62 : aIns 17 62 = some (.iconst 0, 1, 0, 0, .int (0)) := by decide +kernel
theorem i_17_63 : aIns 17 63 = some (.ireturn, 1, 1, 0, .null) := by decide +kernel
theorem i_18_0 : aIns 18 0 = some (.iconst 0, 1, 0, 0, .int (0)) := by decide +kernel
theorem i_18_1 : aIns 18 1 = some (.istore_n 2, 1, 0, 0, .null) := by decide +kernel
theorem i_18_2 : aIns 18 2 = some (.iconst 0, 1, 0, 0, .int (0)) := by decide +kernel
theorem i_18_3 : aIns 18 3 = some (.istore_n 3, 1, 0, 0, .null) := by decide +kernel
theorem i_18_4 : aIns 18 4 = some (.iload_n 3, 1, 0, 0, .null) := by decide +kernel
theorem i_18_5 : aIns 18 5 = some (.iload_n 1, 1, 0, 0, .null) := by decide +kernel
theorem i_18_6 : aIns 18 6 = some (.if_icmp .ge 75, 3, 0, 0, .null) := by decide +kernel
theorem i_18_9 : aIns 18 9 = some (.aload_n 0, 1, 0, 0, .null) := by decide +kernel
theorem i_18_10 : aIns 18 10 = some (.getfield 18, 3, 2, 3, .null) := by decide +kernel
theorem i_18_13 : aIns 18 13 = some (.iload_n 3, 1, 0, 0, .null) := by decide +kernel
theorem i_18_14 : aIns 18 14 = some (.iaload, 1, 0, 0, .null) := by decide +kernel
theorem i_18_15 : aIns 18 15 = some (.istore 4, 2, 0, 0, .null) := by decide +kernel
theorem i_18_17 : aIns 18 17 = some (.iload_n 3, 1, 0, 0, .null) := by decide +kernel
theorem i_18_18 : aIns 18 18 = some (.ifCond .le 22, 3, 0, 0, .null) := by decide +kernel
theorem i_18_21 : aIns 18 21 = some (.aload_n 0, 1, 0, 0, .null) := by decide +kernel
theorem i_18_22 : aIns 18 22 = some (.getfield 18, 3, 2, 3, .null) := by decide +kernel
theorem i_18_25 : aIns 18 25 = some (.iload_n 3, 1, 0, 0, .null) := by decide +kernel
theorem i_18_26 : aIns 18 26 = some (.iconst 1, 1, 0, 0, .int (1)) := by decide +kernel
theorem i_18_27 : aIns 18 27 = some (.isub, 1, 0, 0, .null) := by decide +kernel
theorem i_18_28 : aIns 18 28 = some (.iaload, 1, 0, 0, .null) := by decide +kernel
theorem i_18_29 : aIns 18 29 = some (.iload 4, 2, 0, 0, .null) := by decide +kernel
theorem i_18_31 : aIns 18 31 = some (.if_icmp .ne 9, 3, 0, 0, .null) := by decide +kernel
theorem i_18_34 : aIns 18 34 = some (.iload_n 2, 1, 0, 0, .null) := by decide +kernel
theorem i_18_35 : aIns 18 35 = some (.iconst 1, 1, 0, 0, .int (1)) := by decide +kernel
theorem i_18_36 : aIns 18 36 = some (.iadd, 1, 0, 0, .null) := by decide +kernel
theorem i_18_37 : aIns 18 37 = some (.goto 4, 3, 0, 0, .null) := by decide +kernel
theorem i_18_40 : aIns 18 40 = some (.iconst 1, 1, 0, 0, .int (1)) := by decide +kernel
theorem i_18_41 : aIns 18 41 = some (.istore_n 2, 1, 0, 0, .null) := by decide +kernel
theorem i_18_42 : aIns 18 42 = some (.aload_n 0, 1, 0, 0, .null) := by decide +kernel
theorem i_18_43 : aIns 18 43 = some (.getfield 47, 3, 2, 0, .null) := by decide +kernel
theorem i_18_46 : aIns 18 46 = some (.getfield 76, 3, 10, 1, .null) := by decide +kernel
theorem i_18_49 : aIns 18 49 = some (.getfield 79, 3, 7, 0, .null) := by decide +kernel
theorem i_18_52 : aIns 18 52 = some (.iload 4, 2, 0, 0, .null) := by decide +kernel
theorem i_18_54 : aIns 18 54 = some (.iaload, 1, 0, 0, .null) := by decide +kernel
theorem i_18_55 : aIns 18 55 = some (.iload_n 2, 1, 0, 0, .null) := by decide +kernel
theorem i_18_56 : aIns 18 56 = some (.iadd, 1, 0, 0, .null) := by decide +kernel
theorem i_18_57 : aIns 18 57 = some (.aload_n 0, 1, 0, 0, .null) := by decide +kernel
theorem i_18_58 : aIns 18 58 = some (.getfield 47, 3, 2, 0, .null) := by decide +kernel
theorem i_18_61 : aIns 18 61 = some (.getfield 76, 3, 10, 1, .null) := by decide +kernel
theorem i_18_64 : aIns 18 64 = some (.getfield 147, 3, 7, 1, .null) := by decide +kernel
theorem i_18_67 : aIns 18 67 = some (.iload 4, 2, 0, 0, .null) := by decide +kernel
theorem i_18_69 : aIns 18 69 = some (.iaload, 1, 0, 0, .null) := by decide +kernel
theorem i_18_70 : aIns 18 70 = some (.if_icmp .le 5, 3, 0, 0, .null) := by decide +kernel
theorem i_18_73 : aIns 18 73 = some (.iconst 0, 1, 0, 0, .int (0)) := by decide +kernel
theorem i_18_74 : aIns 18 74 = some (.ireturn, 1, 1, 0, .null) := by decide +kernel
theorem i_18_75 : aIns 18 75 = some (.iinc 3 1, 3, 0, 0, .null) := by decide +kernel
theorem i_18_78 : aIns 18 78 = some (.goto (-74), 3, 0, 0, .null) := by decide +kernel
theorem i_18_81 : aIns 18 81 = some (.aload_n 0, 1, 0, 0, .null) := by decide +kernel
theorem i_18_82 : aIns 18 82 = some (.getfield 86, 3, 2, 12, .null) := by decide +kernel
theorem i_18_85 : aIns 18 85 = some (.iload_n 1, 1, 0, 0, .null) := by decide +kernel
theorem i_18_86 : aIns 18 86 = some (.iadd, 1, 0, 0, .null) := by decide +kernel
theorem i_18_87 : aIns 18 87 = some (.bipush 12, 2, 0, 0, .int (12)) := by decide +kernel
theorem i_18_89 : aIns 18 89 = some (.if_icmp .gt 7, 3, 0, 0, .null) := by decide +kernel
theorem i_18_92 : aIns 18 92 = some (.iconst 1, 1, 0, 0, .int (1)) := by decide +kernel
theorem i_18_93 : aIns 18 93 = some (.goto 4, 3, 0, 0, .null) := by decide +kernel
theorem i_18_96 : aIns 18 96 = some (.iconst 0, 1, 0, 0, .int (0)) := by decide +kernel
theorem i_18_97 : aIns 18 97 = some (.ireturn, 1, 1, 0, .null) := by decide +kernel
theorem i_19_0 : aIns 19 0 = some (.aload_n 0, 1, 0, 0, .null) := by decide +kernel
theorem i_19_1 : aIns 19 1 = some (.getfield 51, 3, 2, 1, .null) := by decide +kernel
theorem i_19_4 : aIns 19 4 = some (.aload_n 0, 1, 0, 0, .null) := by decide +kernel
theorem i_19_5 : aIns 19 5 = some (.getfield 86, 3, 2, 12, .null) := by decide +kernel
theorem i_19_8 : aIns 19 8 = some (.iload_n 2, 1, 0, 0, .null) := by decide +kernel
theorem i_19_9 : aIns 19 9 = some (.iadd, 1, 0, 0, .null) := by decide +kernel
theorem i_19_10 : aIns 19 10 = some (.aload_n 0, 1, 0, 0, .null) := by decide +kernel
theorem i_19_11 : aIns 19 11 = some (.getfield 55, 3, 2, 11, .null) := by decide +kernel
theorem i_19_14 : aIns 19 14 = some (.aload_n 0, 1, 0, 0, .null) := by decide +kernel
theorem i_19_15 : aIns 19 15 = some (.iload_n 2, 1, 0, 0, .null) := by decide +kernel
theorem i_19_16 : aIns 19 16 = some (.invokevirtual 150, 3, 20, 1, .int 2) := by decide +kernel
theorem i_19_19 : aIns 19 19 = some (.iadd, 1, 0, 0, .null) := by decide +kernel
theorem i_19_20 : aIns 19 20 = some (.aload_n 0, 1, 0, 0, .null) := by decide +kernel
theorem i_19_21 : aIns 19 21 = some (.getfield 47, 3, 2, 0, .null) := by decide +kernel
theorem i_19_24 : aIns 19 24 = some (.getfield 76, 3, 10, 1, .null) := by decide +kernel
theorem i_19_27 : aIns 19 27 = some (.getfield 154, 3, 7, 6, .null) := by decide +kernel
theorem i_19_30 : aIns 19 30 = some (.aload_n 0, 1, 0, 0, .null) := by decide +kernel
theorem i_19_31 : aIns 19 31 = some (.getfield 47, 3, 2, 0, .null) := by decide +kernel
theorem i_19_34 : aIns 19 34 = some (.getfield 76, 3, 10, 1, .null) := by decide +kernel
theorem i_19_37 : aIns 19 37 = some (.getfield 157, 3, 7, 8, .null) := by decide +kernel
theorem i_19_40 : aIns 19 40 = some (.iload_n 1, 1, 0, 0, .null) := by decide +kernel
theorem i_19_41 : aIns 19 41 = some (.invokevirtual 105, 3, 94, 5, .int 9) := by decide +kernel
theorem i_19_44 : aIns 19 44 = some (.ireturn, 1, 0, 0, .null) := by decide +kernel
theorem i_20_0 : aIns 20 0 = some (.iconst 0, 1, 0, 0, .int (0)) := by decide +kernel
theorem i_20_1 : aIns 20 1 = some (.istore_n 2, 1, 0, 0, .null) := by decide +kernel
theorem i_20_2 : aIns 20 2 = some (.iconst 0, 1, 0, 0, .int (0)) := by decide +kernel
theorem i_20_3 : aIns 20 3 = some (.istore_n 3, 1, 0, 0, .null) := by decide +kernel
theorem i_20_4 : aIns 20 4 = some (.iload_n 3, 1, 0, 0, .null) := by decide +kernel
theorem i_20_5 : aIns 20 5 = some (.iload_n 1, 1, 0, 0, .null) := by decide +kernel
theorem i_20_6 : aIns 20 6 = some (.if_icmp .ge 23, 3, 0, 0, .null) := by decide +kernel
theorem i_20_9 : aIns 20 9 = some (.iload_n 2, 1, 0, 0, .null) := by decide +kernel
theorem i_20_10 : aIns 20 10 = some (.aload_n 0, 1, 0, 0, .null) := by decide +kernel
theorem i_20_11 : aIns 20 11 = some (.getfield 22, 3, 2, 4, .null) := by decide +kernel
theorem i_20_14 : aIns 20 14 = some (.aload_n 0, 1, 0, 0, .null) := by decide +kernel
theorem i_20_15 : aIns 20 15 = some (.getfield 18, 3, 2, 3, .null) := by decide +kernel
theorem i_20_18 : aIns 20 18 = some (.iload_n 3, 1, 0, 0, .null) := by decide +kernel
theorem i_20_19 : aIns 20 19 = some (.iaload, 1, 0, 0, .null) := by decide +kernel
theorem i_20_20 : aIns 20 20 = some (.iaload, 1, 0, 0, .null) := by decide +kernel
theorem i_20_21 : aIns 20 21 = some (.iadd, 1, 0, 0, .null) := by decide +kernel
theorem i_20_22 : aIns 20 22 = some (.istore_n 2, 1, 0, 0, .null) := by decide +kernel
theorem i_20_23 : aIns 20 23 = some (.iinc 3 1, 3, 0, 0, .null) := by decide +kernel
theorem i_20_26 : aIns 20 26 = some (.goto (-22), 3, 0, 0, .null) := by decide +kernel
theorem i_20_29 : aIns 20 29 = some (.iload_n 2, 1, 0, 0, .null) := by decide +kernel
theorem i_20_30 : aIns 20 30 = some (.ireturn, 1, 0, 0, .null) := by decide +kernel
theorem i_21_0 : aIns 21 0 = some (.iconst 0, 1, 0, 0, .int (0)) := by decide +kernel
theorem i_21_1 : aIns 21 1 = some (.istore_n 3, 1, 0, 0, .null) := by decide +kernel
theorem i_21_2 : aIns 21 2 = some (.iconst 0, 1, 0, 0, .int (0)) := by decide +kernel
theorem i_21_3 : aIns 21 3 = some (.istore 4, 2, 0, 0, .null) := by decide +kernel
theorem i_21_5 : aIns 21 5 = some (.iload 4, 2, 0, 0, .null) := by decide +kernel
theorem i_21_7 : aIns 21 7 = some (.iload_n 2, 1, 0, 0, .null) := by decide +kernel
theorem i_21_8 : aIns 21 8 = some (.if_icmp .ge 27, 3, 0, 0, .null) := by decide +kernel
theorem i_21_11 : aIns 21 11 = some (.iload_n 3, 1, 0, 0, .null) := by decide +kernel
theorem i_21_12 : aIns 21 12 = some (.aload_n 0, 1, 0, 0, .null) := by decide +kernel
theorem i_21_13 : aIns 21 13 = some (.getfield 47, 3, 2, 0, .null) := by decide +kernel
theorem i_21_16 : aIns 21 16 = some (.getfield 59, 3, 10, 0, .null) := by decide +kernel
theorem i_21_19 : aIns 21 19 = some (.getfield 160, 3, 5, 6, .null) := by decide +kernel
theorem i_21_22 : aIns 21 22 = some (.aload_n 1, 1, 0, 0, .null) := by decide +kernel
theorem i_21_23 : aIns 21 23 = some (.iload 4, 2, 0, 0, .null) := by decide +kernel
theorem i_21_25 : aIns 21 25 = some (.iaload, 1, 0, 0, .null) := by decide +kernel
theorem i_21_26 : aIns 21 26 = some (.iaload, 1, 0, 0, .null) := by decide +kernel
theorem i_21_27 : aIns 21 27 = some (.iadd, 1, 0, 0, .null) := by decide +kernel
theorem i_21_28 : aIns 21 28 = some (.istore_n 3, 1, 0, 0, .null) := by decide +kernel
theorem i_21_29 : aIns 21 29 = some (.iinc 4 1, 3, 0, 0, .null) := by decide +kernel
theorem i_21_32 : aIns 21 32 = some (.goto (-27), 3, 0, 0, .null) := by decide +kernel
theorem i_21_35 : aIns 21 35 = some (.iload_n 3, 1, 0, 0, .null) := by decide +kernel
theorem i_21_36 : aIns 21 36 = some (.ireturn, 1, 0, 0, .null) := by decide +kernel
theorem i_22_0 : aIns 22 0 = some (.aload_n 0, 1, 0, 0, .null) := by decide +kernel
theorem i_22_1 : aIns 22 1 = some (.aload_n 0, 1, 0, 0, .null) := by decide +kernel
theorem i_22_2 : aIns 22 2 = some (.getfield 47, 3, 2, 0, .null) := by decide +kernel
theorem i_22_5 : aIns 22 5 = some (.getfield 76, 3, 10, 1, .null) := by decide +kernel
theorem i_22_8 : aIns 22 8 = some (.getfield 92, 3, 7, 13, .null) := by decide +kernel
theorem i_22_11 : aIns 22 11 = some (.invokevirtual 95, 3, 12, 1, .int 2) := by decide +kernel
theorem i_22_14 : aIns 22 14 = some (.aload_n 0, 1, 0, 0, .null) := by decide +kernel
theorem i_22_15 : aIns 22 15 = some (.iconst (-1), 1, 0, 0, .int (-1)) := by decide +kernel
theorem i_22_16 : aIns 22 16 = some (.putfield 163, 3, 2, 13, .null) := by decide +kernel
theorem i_22_19 : aIns 22 19 = some (.iconst 0, 1, 0, 0, .int (0)) := by decide +kernel
theorem i_22_20 : aIns 22 20 = some (.istore_n 1, 1, 0, 0, .null) := by decide +kernel
theorem i_22_21 : aIns 22 21 = some (.iload_n 1, 1, 0, 0, .null) := by decide +kernel
theorem i_22_22 : aIns 22 22 = some (.sipush 9500, 3, 0, 0, .int (9500)) := by decide +kernel
theorem i_22_25 : aIns 22 25 = some (.if_icmp .gt 75, 3, 0, 0, .null) := by decide +kernel
theorem i_22_28 : aIns 22 28 = some (.aload_n 0, 1, 0, 0, .null) := by decide +kernel
theorem i_22_29 : aIns 22 29 = some (.iload_n 1, 1, 0, 0, .null) := by decide +kernel
theorem i_22_30 : aIns 22 30 = some (.invokevirtual 166, 3, 15, 1, .int 2) := by decide +kernel
theorem i_22_33 : aIns 22 33 = some (.aload_n 0, 1, 0, 0, .null) := by decide +kernel
theorem i_22_34 : aIns 22 34 = some (.aload_n 0, 1, 0, 0, .null) := by decide +kernel
theorem i_22_35 : aIns 22 35 = some (.getfield 12, 3, 2, 2, .null) := by decide +kernel
theorem i_22_38 : aIns 22 38 = some (.getfield 169, 3, 0, 3, .null) := by decide +kernel
theorem i_22_41 : aIns 22 41 = some (.aload_n 0, 1, 0, 0, .null) := by decide +kernel
theorem i_22_42 : aIns 22 42 = some (.getfield 12, 3, 2, 2, .null) := by decide +kernel
theorem i_22_45 : aIns 22 45 = some (.getfield 170, 3, 0, 2, .null) := by decide +kernel
theorem i_22_48 : aIns 22 48 = some (.invokevirtual 134, 3, 21, 2, .int 2) := by decide +kernel
theorem i_22_51 : aIns 22 51 = some (.istore_n 2, 1, 0, 0, .null) := by decide +kernel
theorem i_22_52 : aIns 22 52 = some (.aload_n 0, 1, 0, 0, .null) := by decide +kernel
theorem i_22_53 : aIns 22 53 = some (.getfield 12, 3, 2, 2, .null) := by decide +kernel
theorem i_22_56 : aIns 22 56 = some (.getfield 173, 3, 0, 1, .null) := by decide +kernel
theorem i_22_59 : aIns 22 59 = some (.iload_n 2, 1, 0, 0, .null) := by decide +kernel
theorem i_22_60 : aIns 22 60 = some (.iadd, 1, 0, 0, .null) := by decide +kernel
theorem i_22_61 : aIns 22 61 = some (.iload_n 2, 1, 0, 0, .null) := by decide +kernel
theorem i_22_62 : aIns 22 62 = some (.iconst 2, 1, 0, 0, .int (2)) := by decide +kernel
theorem i_22_63 : aIns 22 63 = some (.idiv, 1, 0, 0, .null) := by decide +kernel
theorem i_22_64 : aIns 22 64 = some (.isub, 1, 0, 0, .null) := by decide +kernel
theorem i_22_65 : aIns 22 65 = some (.istore_n 3, 1, 0, 0, .null) := by decide +kernel
theorem i_22_66 : aIns 22 66 = some (.aload_n 0, 1, 0, 0, .null) := by decide +kernel
theorem i_22_67 : aIns 22 67 = some (.getfield 163, 3, 2, 13, .null) := by decide +kernel
theorem i_22_70 : aIns 22 70 = some (.ifCond .lt 11, 3, 0, 0, .null) := by decide +kernel
theorem i_22_73 : aIns 22 73 = some (.iload_n 3, 1, 0, 0, .null) := by decide +kernel
theorem i_22_74 : aIns 22 74 = some (.aload_n 0, 1, 0, 0, .null) := by decide +kernel
theorem i_22_75 : aIns 22 75 = some (.getfield 176, 3, 2, 14, .null) := by decide +kernel
theorem i_22_78 : aIns 22 78 = some (.if_icmp .le 13, 3, 0, 0, .null) := by decide +kernel
theorem i_22_81 : aIns 22 81 = some (.aload_n 0, 1, 0, 0, .null) := by decide +kernel
theorem i_22_82 : aIns 22 82 = some (.iload_n 1, 1, 0, 0, .null) := by decide +kernel
theorem i_22_83 : aIns 22 83 = some (.putfield 163, 3, 2, 13, .null) := by decide +kernel
theorem i_22_86 : aIns 22 86 = some (.aload_n 0, 1, 0, 0, .null) := by decide +kernel
theorem i_22_87 : aIns 22 87 = some (.iload_n 3, 1, 0, 0, .null) := by decide +kernel
theorem i_22_88 : aIns 22 88 = some (.putfield 176, 3, 2, 14, .null) := by decide +kernel
theorem i_22_91 : aIns 22 91 = some (.iinc 1 500, 6, 0, 0, .null) := by decide +kernel
theorem i_22_97 : aIns 22 97 = some (.goto (-76), 3, 0, 0, .null) := by decide +kernel
theorem i_22_100 : aIns 22 100 = some (.return_, 1, 0, 0, .null) := by decide +kernel
theorem i_23_0 : aIns 23 0 = some (.aload_n 0, 1, 0, 0, .null) := by decide +kernel
theorem i_23_1 : aIns 23 1 = some (.getfield 12, 3, 2, 2, .null) := by decide +kernel
theorem i_23_4 : aIns 23 4 = some (.invokevirtual 89, 3, 1, 0, .int 0) := by decide +kernel
theorem i_23_7 : aIns 23 7 = some (.aload_n 0, 1, 0, 0, .null) := by decide +kernel
theorem i_23_8 : aIns 23 8 = some (.aload_n 0, 1, 0, 0, .null) := by decide +kernel
theorem i_23_9 : aIns 23 9 = some (.getfield 47, 3, 2, 0, .null) := by decide +kernel
theorem i_23_12 : aIns 23 12 = some (.getfield 76, 3, 10, 1, .null) := by decide +kernel
theorem i_23_15 : aIns 23 15 = some (.getfield 92, 3, 7, 13, .null) := by decide +kernel
theorem i_23_18 : aIns 23 18 = some (.invokevirtual 95, 3, 12, 1, .int 2) := by decide +kernel
theorem i_23_21 : aIns 23 21 = some (.aload_n 0, 1, 0, 0, .null) := by decide +kernel
theorem i_23_22 : aIns 23 22 = some (.getfield 25, 3, 2, 5, .null) := by decide +kernel
theorem i_23_25 : aIns 23 25 = some (.iconst 0, 1, 0, 0, .int (0)) := by decide +kernel
theorem i_23_26 : aIns 23 26 = some (.invokestatic 141, 3, 273, 2, .null) := by decide +kernel
theorem i_23_29 : aIns 23 29 = some (.aload_n 0, 1, 0, 0, .null) := by decide +kernel
theorem i_23_30 : aIns 23 30 = some (.iconst 0, 1, 0, 0, .int (0)) := by decide +kernel
theorem i_23_31 : aIns 23 31 = some (.iconst 0, 1, 0, 0, .int (0)) := by decide +kernel
theorem i_23_32 : aIns 23 32 = some (.invokevirtual 179, 3, 24, 2, .int 2) := by decide +kernel
theorem i_23_35 : aIns 23 35 = some (.return_, 1, 0, 0, .null) := by decide +kernel
theorem i_24_0 : aIns 24 0 = some (.iload_n 1, 1, 0, 0, .null) := by decide +kernel
theorem i_24_1 : aIns 24 1 = some (.aload_n 0, 1, 0, 0, .null) := by decide +kernel
theorem i_24_2 : aIns 24 2 = some (.getfield 47, 3, 2, 0, .null) := by decide +kernel
theorem i_24_5 : aIns 24 5 = some (.getfield 59, 3, 10, 0, .null) := by decide +kernel
theorem i_24_8 : aIns 24 8 = some (.getfield 183, 3, 5, 8, .null) := by decide +kernel
theorem i_24_11 : aIns 24 11 = some (.if_icmp .lt 21, 3, 0, 0, .null) := by decide +kernel
theorem i_24_14 : aIns 24 14 = some (.aload_n 0, 1, 0, 0, .null) := by decide +kernel
theorem i_24_15 : aIns 24 15 = some (.getfield 12, 3, 2, 2, .null) := by decide +kernel
theorem i_24_18 : aIns 24 18 = some (.aload_n 0, 1, 0, 0, .null) := by decide +kernel
theorem i_24_19 : aIns 24 19 = some (.iload_n 2, 1, 0, 0, .null) := by decide +kernel
theorem i_24_20 : aIns 24 20 = some (.invokevirtual 186, 3, 25, 1, .int 2) := by decide +kernel
theorem i_24_23 : aIns 24 23 = some (.aload_n 0, 1, 0, 0, .null) := by decide +kernel
theorem i_24_24 : aIns 24 24 = some (.getfield 18, 3, 2, 3, .null) := by decide +kernel
theorem i_24_27 : aIns 24 27 = some (.iload_n 1, 1, 0, 0, .null) := by decide +kernel
theorem i_24_28 : aIns 24 28 = some (.invokevirtual 109, 3, 2, 3, .int 0) := by decide +kernel
theorem i_24_31 : aIns 24 31 = some (.return_, 1, 0, 0, .null) := by decide +kernel
theorem i_24_32 : aIns 24 32 = some (.aload_n 0, 1, 0, 0, .null) := by decide +kernel
theorem i_24_33 : aIns 24 33 = some (.getfield 22, 3, 2, 4, .null) := by decide +kernel
theorem i_24_36 : aIns 24 36 = some (.aload_n 0, 1, 0, 0, .null) := by decide +kernel
theorem i_24_37 : aIns 24 37 = some (.getfield 47, 3, 2, 0, .null) := by decide +kernel
theorem i_24_40 : aIns 24 40 = some (.getfield 59, 3, 10, 0, .null) := by decide +kernel
theorem i_24_43 : aIns 24 43 = some (.getfield 189, 3, 5, 9, .null) := by decide +kernel
theorem i_24_46 : aIns 24 46 = some (.iload_n 1, 1, 0, 0, .null) := by decide +kernel
theorem i_24_47 : aIns 24 47 = some (.iaload, 1, 0, 0, .null) := by decide +kernel
theorem i_24_48 : aIns 24 48 = some (.iaload, 1, 0, 0, .null) := by decide +kernel
theorem i_24_49 : aIns 24 49 = some (.istore_n 3, 1, 0, 0, .null) := by decide +kernel
theorem i_24_50 : aIns 24 50 = some (.iconst 0, 1, 0, 0, .int (0)) := by decide +kernel
theorem i_24_51 : aIns 24 51 = some (.istore 4, 2, 0, 0, .null) := by decide +kernel
theorem i_24_53 : aIns 24 53 = some (.iload 4, 2, 0, 0, .null) := by decide +kernel
theorem i_24_55 : aIns 24 55 = some (.iload_n 2, 1, 0, 0, .null) := by decide +kernel
theorem i_24_56 : aIns 24 56 = some (.if_icmp .gt 61, 3, 0, 0, .null) := by decide +kernel
theorem i_24_59 : aIns 24 59 = some (.iload 4, 2, 0, 0, .null) := by decide +kernel
theorem i_24_61 : aIns 24 61 = some (.bipush 6, 2, 0, 0, .int (6)) := by decide +kernel
theorem i_24_63 : aIns 24 63 = some (.if_icmp .ge 54, 3, 0, 0, .null) := by decide +kernel
theorem i_24_66 : aIns 24 66 = some (.aload_n 0, 1, 0, 0, .null) := by decide +kernel
theorem i_24_67 : aIns 24 67 = some (.getfield 18, 3, 2, 3, .null) := by decide +kernel
theorem i_24_70 : aIns 24 70 = some (.iload_n 1, 1, 0, 0, .null) := by decide +kernel
theorem i_24_71 : aIns 24 71 = some (.iload 4, 2, 0, 0, .null) := by decide +kernel
theorem i_24_73 : aIns 24 73 = some (.iastore, 1, 0, 0, .null) := by decide +kernel
theorem i_24_74 : aIns 24 74 = some (.aload_n 0, 1, 0, 0, .null) := by decide +kernel
theorem i_24_75 : aIns 24 75 = some (.getfield 25, 3, 2, 5, .null) := by decide +kernel
theorem i_24_78 : aIns 24 78 = some (.iload 4, 2, 0, 0, .null) := by decide +kernel
theorem i_24_80 : aIns 24 80 = some (.dup2, 1, 0, 0, .null) := by decide +kernel
theorem i_24_81 : aIns 24 81 = some (.iaload, 1, 0, 0, .null) := by decide +kernel
theorem i_24_82 : aIns 24 82 = some (.iload_n 3, 1, 0, 0, .null) := by decide +kernel
theorem i_24_83 : aIns 24 83 = some (.iadd, 1, 0, 0, .null) := by decide +kernel
theorem i_24_84 : aIns 24 84 = some (.iastore, 1, 0, 0, .null) := by decide +kernel
theorem i_24_85 : aIns 24 85 = some (.aload_n 0, 1, 0, 0, .null) := by decide +kernel
theorem i_24_86 : aIns 24 86 = some (.iload_n 1, 1, 0, 0, .null) := by decide +kernel
theorem i_24_87 : aIns 24 87 = some (.iconst 1, 1, 0, 0, .int (1)) := by decide +kernel
theorem i_24_88 : aIns 24 88 = some (.iadd, 1, 0, 0, .null) := by decide +kernel
theorem i_24_89 : aIns 24 89 = some (.iload_n 2, 1, 0, 0, .null) := by decide +kernel
theorem i_24_90 : aIns 24 90 = some (.iload 4, 2, 0, 0, .null) := by decide +kernel
theorem i_24_92 : aIns 24 92 = some (.iconst 1, 1, 0, 0, .int (1)) := by decide +kernel
theorem i_24_93 : aIns 24 93 = some (.iadd, 1, 0, 0, .null) := by decide +kernel
theorem i_24_94 : aIns 24 94 = some (.invokestatic 192, 3, 1001, 0, .null) := by decide +kernel
theorem i_24_97 : aIns 24 97 = some (.invokevirtual 179, 3, 24, 2, .int 2) := by decide +kernel
theorem i_24_100 : aIns 24 100 = some (.aload_n 0, 1, 0, 0, .null) := by decide +kernel
theorem i_24_101 : aIns 24 101 = some (.getfield 25, 3, 2, 5, .null) := by decide +kernel
theorem i_24_104 : aIns 24 104 = some (.iload 4, 2, 0, 0, .null) := by decide +kernel
theorem i_24_106 : aIns 24 106 = some (.dup2, 1, 0, 0, .null) := by decide +kernel
theorem i_24_107 : aIns 24 107 = some (.iaload, 1, 0, 0, .null) := by decide +kernel
theorem i_24_108 : aIns 24 108 = some (.iload_n 3, 1, 0, 0, .null) := by decide +kernel
theorem i_24_109 : aIns 24 109 = some (.isub, 1, 0, 0, .null) := by decide +kernel
theorem i_24_110 : aIns 24 110 = some (.iastore, 1, 0, 0, .null) := by decide +kernel
theorem i_24_111 : aIns 24 111 = some (.iinc 4 1, 3, 0, 0, .null) := by decide +kernel
theorem i_24_114 : aIns 24 114 = some (.goto (-61), 3, 0, 0, .null) := by decide +kernel
theorem i_24_117 : aIns 24 117 = some (.return_, 1, 0, 0, .null) := by decide +kernel
theorem i_25_0 : aIns 25 0 = some (.iconst 0, 1, 0, 0, .int (0)) := by decide +kernel
theorem i_25_1 : aIns 25 1 = some (.istore_n 2, 1, 0, 0, .null) := by decide +kernel
theorem i_25_2 : aIns 25 2 = some (.iconst 0, 1, 0, 0, .int (0)) := by decide +kernel
theorem i_25_3 : aIns 25 3 = some (.istore_n 3, 1, 0, 0, .null) := by decide +kernel
theorem i_25_4 : aIns 25 4 = some (.iload_n 3, 1, 0, 0, .null) := by decide +kernel
theorem i_25_5 : aIns 25 5 = some (.iload_n 1, 1, 0, 0, .null) := by decide +kernel
theorem i_25_6 : aIns 25 6 = some (.if_icmp .ge 25, 3, 0, 0, .null) := by decide +kernel
theorem i_25_9 : aIns 25 9 = some (.iload_n 2, 1, 0, 0, .null) := by decide +kernel
theorem i_25_10 : aIns 25 10 = some (.aload_n 0, 1, 0, 0, .null) := by decide +kernel
theorem i_25_11 : aIns 25 11 = some (.getfield 51, 3, 2, 1, .null) := by decide +kernel
theorem i_25_14 : aIns 25 14 = some (.aload_n 0, 1, 0, 0, .null) := by decide +kernel
theorem i_25_15 : aIns 25 15 = some (.getfield 25, 3, 2, 5, .null) := by decide +kernel
theorem i_25_18 : aIns 25 18 = some (.iload_n 3, 1, 0, 0, .null) := by decide +kernel
theorem i_25_19 : aIns 25 19 = some (.iaload, 1, 0, 0, .null) := by decide +kernel
theorem i_25_20 : aIns 25 20 = some (.invokevirtual 197, 3, 95, 1, .int 9) := by decide +kernel
theorem i_25_23 : aIns 25 23 = some (.iadd, 1, 0, 0, .null) := by decide +kernel
theorem i_25_24 : aIns 25 24 = some (.istore_n 2, 1, 0, 0, .null) := by decide +kernel
theorem i_25_25 : aIns 25 25 = some (.iinc 3 1, 3, 0, 0, .null) := by decide +kernel
theorem i_25_28 : aIns 25 28 = some (.goto (-24), 3, 0, 0, .null) := by decide +kernel
theorem i_25_31 : aIns 25 31 = some (.iload_n 2, 1, 0, 0, .null) := by decide +kernel
theorem i_25_32 : aIns 25 32 = some (.ireturn, 1, 0, 0, .null) := by decide +kernel
theorem i_27_0 : aIns 27 0 = some (.aload_n 0, 1, 0, 0, .null) := by decide +kernel
theorem i_27_1 : aIns 27 1 = some (.getfield 12, 3, 2, 2, .null) := by decide +kernel
theorem i_27_4 : aIns 27 4 = some (.getfield 204, 3, 0, 0, .null) := by decide +kernel
theorem i_27_7 : aIns 27 7 = some (.ifCond .eq 15, 3, 0, 0, .null) := by decide +kernel
theorem i_27_10 : aIns 27 10 = some (.iload_n 2, 1, 0, 0, .null) := by decide +kernel
theorem i_27_11 : aIns 27 11 = some (.aload_n 0, 1, 0, 0, .null) := by decide +kernel
theorem i_27_12 : aIns 27 12 = some (.getfield 12, 3, 2, 2, .null) := by decide +kernel
theorem i_27_15 : aIns 27 15 = some (.getfield 173, 3, 0, 1, .null) := by decide +kernel
theorem i_27_18 : aIns 27 18 = some (.if_icmp .lt 4, 3, 0, 0, .null) := by decide +kernel
theorem i_27_21 : aIns 27 21 = some (.return_, 1, 0, 0, .null) := by decide +kernel
theorem i_27_22 : aIns 27 22 = some (.iload_n 1, 1, 0, 0, .null) := by decide +kernel
theorem i_27_23 : aIns 27 23 = some (.aload_n 0, 1, 0, 0, .null) := by decide +kernel
theorem i_27_24 : aIns 27 24 = some (.getfield 47, 3, 2, 0, .null) := by decide +kernel
theorem i_27_27 : aIns 27 27 = some (.getfield 59, 3, 10, 0, .null) := by decide +kernel
theorem i_27_30 : aIns 27 30 = some (.getfield 183, 3, 5, 8, .null) := by decide +kernel
theorem i_27_33 : aIns 27 33 = some (.if_icmp .lt 17, 3, 0, 0, .null) := by decide +kernel
theorem i_27_36 : aIns 27 36 = some (.aload_n 0, 1, 0, 0, .null) := by decide +kernel
theorem i_27_37 : aIns 27 37 = some (.getfield 12, 3, 2, 2, .null) := by decide +kernel
theorem i_27_40 : aIns 27 40 = some (.iload_n 3, 1, 0, 0, .null) := by decide +kernel
theorem i_27_41 : aIns 27 41 = some (.aload_n 0, 1, 0, 0, .null) := by decide +kernel
theorem i_27_42 : aIns 27 42 = some (.getfield 18, 3, 2, 3, .null) := by decide +kernel
theorem i_27_45 : aIns 27 45 = some (.iload_n 1, 1, 0, 0, .null) := by decide +kernel
theorem i_27_46 : aIns 27 46 = some (.invokevirtual 109, 3, 2, 3, .int 0) := by decide +kernel
theorem i_27_49 : aIns 27 49 = some (.return_, 1, 0, 0, .null) := by decide +kernel
theorem i_27_50 : aIns 27 50 = some (.iconst 0, 1, 0, 0, .int (0)) := by decide +kernel
theorem i_27_51 : aIns 27 51 = some (.iconst 4, 1, 0, 0, .int (4)) := by decide +kernel
theorem i_27_52 : aIns 27 52 = some (.aload_n 0, 1, 0, 0, .null) := by decide +kernel
theorem i_27_53 : aIns 27 53 = some (.getfield 47, 3, 2, 0, .null) := by decide +kernel
theorem i_27_56 : aIns 27 56 = some (.getfield 59, 3, 10, 0, .null) := by decide +kernel
theorem i_27_59 : aIns 27 59 = some (.getfield 208, 3, 5, 10, .null) := by decide +kernel
theorem i_27_62 : aIns 27 62 = some (.iload_n 1, 1, 0, 0, .null) := by decide +kernel
theorem i_27_63 : aIns 27 63 = some (.iaload, 1, 0, 0, .null) := by decide +kernel
theorem i_27_64 : aIns 27 64 = some (.aload_n 0, 1, 0, 0, .null) := by decide +kernel
theorem i_27_65 : aIns 27 65 = some (.getfield 47, 3, 2, 0, .null) := by decide +kernel
theorem i_27_68 : aIns 27 68 = some (.getfield 76, 3, 10, 1, .null) := by decide +kernel
theorem i_27_71 : aIns 27 71 = some (.getfield 92, 3, 7, 13, .null) := by decide +kernel
theorem i_27_74 : aIns 27 74 = some (.isub, 1, 0, 0, .null) := by decide +kernel
theorem i_27_75 : aIns 27 75 = some (.invokestatic 211, 3, 1002, 0, .null) := by decide +kernel
theorem i_27_78 : aIns 27 78 = some (.invokestatic 192, 3, 1001, 0, .null) := by decide +kernel
theorem i_27_81 : aIns 27 81 = some (.istore 4, 2, 0, 0, .null) := by decide +kernel
theorem i_27_83 : aIns 27 83 = some (.iconst 0, 1, 0, 0, .int (0)) := by decide +kernel
theorem i_27_84 : aIns 27 84 = some (.istore 5, 2, 0, 0, .null) := by decide +kernel
theorem i_27_86 : aIns 27 86 = some (.iload 5, 2, 0, 0, .null) := by decide +kernel
theorem i_27_88 : aIns 27 88 = some (.iload 4, 2, 0, 0, .null) := by decide +kernel
theorem i_27_90 : aIns 27 90 = some (.if_icmp .gt 100, 3, 0, 0, .null) := by decide +kernel
theorem i_27_93 : aIns 27 93 = some (.aload_n 0, 1, 0, 0, .null) := by decide +kernel
theorem i_27_94 : aIns 27 94 = some (.getfield 28, 3, 2, 6, .null) := by decide +kernel
theorem i_27_97 : aIns 27 97 = some (.iload_n 1, 1, 0, 0, .null) := by decide +kernel
theorem i_27_98 : aIns 27 98 = some (.iconst 5, 1, 0, 0, .int (5)) := by decide +kernel
theorem i_27_99 : aIns 27 99 = some (.imul, 1, 0, 0, .null) := by decide +kernel
theorem i_27_100 : aIns 27 100 = some (.iload 5, 2, 0, 0, .null) := by decide +kernel
theorem i_27_102 : aIns 27 102 = some (.iadd, 1, 0, 0, .null) := by decide +kernel
theorem i_27_103 : aIns 27 103 = some (.iaload, 1, 0, 0, .null) := by decide +kernel
theorem i_27_104 : aIns 27 104 = some (.istore 6, 2, 0, 0, .null) := by decide +kernel
theorem i_27_106 : aIns 27 106 = some (.aload_n 0, 1, 0, 0, .null) := by decide +kernel
theorem i_27_107 : aIns 27 107 = some (.getfield 51, 3, 2, 1, .null) := by decide +kernel
theorem i_27_110 : aIns 27 110 = some (.aload_n 0, 1, 0, 0, .null) := by decide +kernel
theorem i_27_111 : aIns 27 111 = some (.getfield 25, 3, 2, 5, .null) := by decide +kernel
theorem i_27_114 : aIns 27 114 = some (.iload 5, 2, 0, 0, .null) := by decide +kernel
theorem i_27_116 : aIns 27 116 = some (.iaload, 1, 0, 0, .null) := by decide +kernel
theorem i_27_117 : aIns 27 117 = some (.invokevirtual 197, 3, 95, 1, .int 9) := by decide +kernel
theorem i_27_120 : aIns 27 120 = some (.istore 7, 2, 0, 0, .null) := by decide +kernel
theorem i_27_122 : aIns 27 122 = some (.aload_n 0, 1, 0, 0, .null) := by decide +kernel
theorem i_27_123 : aIns 27 123 = some (.getfield 18, 3, 2, 3, .null) := by decide +kernel
theorem i_27_126 : aIns 27 126 = some (.iload_n 1, 1, 0, 0, .null) := by decide +kernel
theorem i_27_127 : aIns 27 127 = some (.iload 5, 2, 0, 0, .null) := by decide +kernel
theorem i_27_129 : aIns 27 129 = some (.iastore, 1, 0, 0, .null) := by decide +kernel
theorem i_27_130 : aIns 27 130 = some (.aload_n 0, 1, 0, 0, .null) := by decide +kernel
theorem i_27_131 : aIns 27 131 = some (.getfield 25, 3, 2, 5, .null) := by decide +kernel
theorem i_27_134 : aIns 27 134 = some (.iload 5, 2, 0, 0, .null) := by decide +kernel
theorem i_27_136 : aIns 27 136 = some (.dup2, 1, 0, 0, .null) := by decide +kernel
theorem i_27_137 : aIns 27 137 = some (.iaload, 1, 0, 0, .null) := by decide +kernel
theorem i_27_138 : aIns 27 138 = some (.iload 6, 2, 0, 0, .null) := by decide +kernel
theorem i_27_140 : aIns 27 140 = some (.iadd, 1, 0, 0, .null) := by decide +kernel
theorem i_27_141 : aIns 27 141 = some (.iastore, 1, 0, 0, .null) := by decide +kernel
theorem i_27_142 : aIns 27 142 = some (.aload_n 0, 1, 0, 0, .null) := by decide +kernel
theorem i_27_143 : aIns 27 143 = some (.iload_n 1, 1, 0, 0, .null) := by decide +kernel
theorem i_27_144 : aIns 27 144 = some (.iconst 1, 1, 0, 0, .int (1)) := by decide +kernel
theorem i_27_145 : aIns 27 145 = some (.iadd, 1, 0, 0, .null) := by decide +kernel
theorem i_27_146 : aIns 27 146 = some (.iload_n 2, 1, 0, 0, .null) := by decide +kernel
theorem i_27_147 : aIns 27 147 = some (.iload 6, 2, 0, 0, .null) := by decide +kernel
theorem i_27_149 : aIns 27 149 = some (.iadd, 1, 0, 0, .null) := by decide +kernel
theorem i_27_150 : aIns 27 150 = some (.iload_n 3, 1, 0, 0, .null) := by decide +kernel
theorem i_27_151 : aIns 27 151 = some (.iload 7, 2, 0, 0, .null) := by decide +kernel
theorem i_27_153 : aIns 27 153 = some (.isub, 1, 0, 0, .null) := by decide +kernel
theorem i_27_154 : aIns 27 154 = some (.aload_n 0, 1, 0, 0, .null) := by decide +kernel
theorem i_27_155 : aIns 27 155 = some (.getfield 51, 3, 2, 1, .null) := by decide +kernel
theorem i_27_158 : aIns 27 158 = some (.aload_n 0, 1, 0, 0, .null) := by decide +kernel
theorem i_27_159 : aIns 27 159 = some (.getfield 25, 3, 2, 5, .null) := by decide +kernel
theorem i_27_162 : aIns 27 162 = some (.iload 5, 2, 0, 0, .null) := by decide +kernel
theorem i_27_164 : aIns 27 164 = some (.iaload, 1, 0, 0, .null) := by decide +kernel
theorem i_27_165 : aIns 27 165 = some (.invokevirtual 197, 3, 95, 1, .int 9) := by decide +kernel
theorem i_27_168 : aIns 27 168 = some (.iadd, 1, 0, 0, .null) := by decide +kernel
theorem i_27_169 : aIns 27 169 = some (.invokevirtual 200, 3, 27, 3, .int 2) := by decide +kernel
theorem i_27_172 : aIns 27 172 = some (.aload_n 0, 1, 0, 0, .null) := by decide +kernel
theorem i_27_173 : aIns 27 173 = some (.getfield 25, 3, 2, 5, .null) := by decide +kernel
theorem i_27_176 : aIns 27 176 = some (.iload 5, 2, 0, 0, .null) := by decide +kernel
theorem i_27_178 : aIns 27 178 = some (.dup2, 1, 0, 0, .null) := by decide +kernel
theorem i_27_179 : aIns 27 179 = some (.iaload, 1, 0, 0, .null) := by decide +kernel
theorem i_27_180 : aIns 27 180 = some (.iload 6, 2, 0, 0, .null) := by decide +kernel
theorem i_27_182 : aIns 27 182 = some (.isub, 1, 0, 0, .null) := by decide +kernel
theorem i_27_183 : aIns 27 183 = some (.iastore, 1, 0, 0, .null) := by decide +kernel
theorem i_27_184 : aIns 27 184 = some (.iinc 5 1, 3, 0, 0, .null) := by decide +kernel
theorem i_27_187 : aIns 27 187 = some (.goto (-101), 3, 0, 0, .null) := by decide +kernel
theorem i_27_190 : aIns 27 190 = some (.return_, 1, 0, 0, .null) := by decide +kernel
theorem i_58_0 : aIns 58 0 = some (.iconst 0, 1, 0, 0, .int (0)) := by decide +kernel
theorem i_58_1 : aIns 58 1 = some (.istore 4, 2, 0, 0, .null) := by decide +kernel
theorem i_58_3 : aIns 58 3 = some (.iload 4, 2, 0, 0, .null) := by decide +kernel
theorem i_58_5 : aIns 58 5 = some (.iload_n 3, 1, 0, 0, .null) := by decide +kernel
theorem i_58_6 : aIns 58 6 = some (.if_icmp .ge 36, 3, 0, 0, .null) := by decide +kernel
theorem i_58_9 : aIns 58 9 = some (.aload_n 2, 1, 0, 0, .null) := by decide +kernel
theorem i_58_10 : aIns 58 10 = some (.iload 4, 2, 0, 0, .null) := by decide +kernel
theorem i_58_12 : aIns 58 12 = some (.iaload, 1, 0, 0, .null) := by decide +kernel
theorem i_58_13 : aIns 58 13 = some (.iload_n 1, 1, 0, 0, .null) := by decide +kernel
theorem i_58_14 : aIns 58 14 = some (.if_icmp .eq 20, 3, 0, 0, .null) := by decide +kernel
theorem i_58_17 : aIns 58 17 = some (.aload_n 0, 1, 0, 0, .null) := by decide +kernel
theorem i_58_18 : aIns 58 18 = some (.getfield 45, 3, 5, 19, .null) := by decide +kernel
theorem i_58_21 : aIns 58 21 = some (.iload_n 1, 1, 0, 0, .null) := by decide +kernel
theorem i_58_22 : aIns 58 22 = some (.iaload, 1, 0, 0, .null) := by decide +kernel
theorem i_58_23 : aIns 58 23 = some (.aload_n 2, 1, 0, 0, .null) := by decide +kernel
theorem i_58_24 : aIns 58 24 = some (.iload 4, 2, 0, 0, .null) := by decide +kernel
theorem i_58_26 : aIns 58 26 = some (.iaload, 1, 0, 0, .null) := by decide +kernel
theorem i_58_27 : aIns 58 27 = some (.ishr, 1, 0, 0, .null) := by decide +kernel
theorem i_58_28 : aIns 58 28 = some (.iconst 1, 1, 0, 0, .int (1)) := by decide +kernel
theorem i_58_29 : aIns 58 29 = some (.iand, 1, 0, 0, .null) := by decide +kernel
theorem i_58_30 : aIns 58 30 = some (.iconst 1, 1, 0, 0, .int (1)) := by decide +kernel
theorem i_58_31 : aIns 58 31 = some (.if_icmp .ne 5, 3, 0, 0, .null) := by decide +kernel
theorem i_58_34 : aIns 58 34 = some (.iconst 0, 1, 0, 0, .int (0)) := by decide +kernel
theorem i_58_35 : aIns 58 35 = some (.ireturn, 1, 1, 0, .null) := by decide +kernel
theorem i_58_36 : aIns 58 36 = some (.iinc 4 1, 3, 0, 0, .null) := by decide +kernel
theorem i_58_39 : aIns 58 39 = some (.goto (-36), 3, 0, 0, .null) := by decide +kernel
theorem i_58_42 : aIns 58 42 = some (.iconst 1, 1, 0, 0, .int (1)) := by decide +kernel
theorem i_58_43 : aIns 58 43 = some (.ireturn, 1, 1, 0, .null) := by decide +kernel
theorem i_77_0 : aIns 77 0 = some (.aload_n 0, 1, 0, 0, .null) := by decide +kernel
theorem i_77_1 : aIns 77 1 = some (.getfield 58, 3, 7, 10, .null) := by decide +kernel
theorem i_77_4 : aIns 77 4 = some (.iload_n 1, 1, 0, 0, .null) := by decide +kernel
theorem i_77_5 : aIns 77 5 = some (.ishr, 1, 0, 0, .null) := by decide +kernel
theorem i_77_6 : aIns 77 6 = some (.iconst 1, 1, 0, 0, .int (1)) := by decide +kernel
theorem i_77_7 : aIns 77 7 = some (.iand, 1, 0, 0, .null) := by decide +kernel
theorem i_77_8 : aIns 77 8 = some (.iconst 1, 1, 0, 0, .int (1)) := by decide +kernel
theorem i_77_9 : aIns 77 9 = some (.if_icmp .ne 7, 3, 0, 0, .null) := by decide +kernel
theorem i_77_12 : aIns 77 12 = some (.iconst 1, 1, 0, 0, .int (1)) := by decide +kernel
theorem i_77_13 : aIns 77 13 = some (.goto 4, 3, 0, 0, .null) := by decide +kernel
theorem i_77_16 : aIns 77 16 = some (.iconst 0, 1, 0, 0, .int (0)) := by decide +kernel
theorem i_77_17 : aIns 77 17 = some (.ireturn, 1, 1, 0, .null) := by decide +kernel
theorem i_94_0 : aIns 94 0 = some (.aload_n 0, 1, 0, 0, .null) := by decide +kernel
theorem i_94_1 : aIns 94 1 = some (.iconst 0, 1, 0, 0, .int (0)) := by decide +kernel
theorem i_94_2 : aIns 94 2 = some (.putfield 113, 3, 9, 4, .null) := by decide +kernel
theorem i_94_5 : aIns 94 5 = some (.iload_n 1, 1, 0, 0, .null) := by decide +kernel
theorem i_94_6 : aIns 94 6 = some (.iconst 1, 1, 0, 0, .int (1)) := by decide +kernel
theorem i_94_7 : aIns 94 7 = some (.if_icmp .ge 5, 3, 0, 0, .null) := by decide +kernel
theorem i_94_10 : aIns 94 10 = some (.iconst 0, 1, 0, 0, .int (0)) := by decide +kernel
theorem i_94_11 : aIns 94 11 = some (.ireturn, 1, 0, 0, .null) := by decide +kernel
theorem i_94_12 : aIns 94 12 = some (.aload_n 0, 1, 0, 0, .null) := by decide +kernel
theorem i_94_13 : aIns 94 13 = some (.getfield 21, 3, 9, 0, .null) := by decide +kernel
theorem i_94_16 : aIns 94 16 = some (.getfield 26, 3, 10, 0, .null) := by decide +kernel
theorem i_94_19 : aIns 94 19 = some (.astore 6, 2, 0, 0, .null) := by decide +kernel
theorem i_94_21 : aIns 94 21 = some (.iload_n 2, 1, 0, 0, .null) := by decide +kernel
theorem i_94_22 : aIns 94 22 = some (.istore 7, 2, 0, 0, .null) := by decide +kernel
theorem i_94_24 : aIns 94 24 = some (.iconst 0, 1, 0, 0, .int (0)) := by decide +kernel
theorem i_94_25 : aIns 94 25 = some (.istore 8, 2, 0, 0, .null) := by decide +kernel
theorem i_94_27 : aIns 94 27 = some (.iconst 0, 1, 0, 0, .int (0)) := by decide +kernel
theorem i_94_28 : aIns 94 28 = some (.istore 9, 2, 0, 0, .null) := by decide +kernel
theorem i_94_30 : aIns 94 30 = some (.iload 9, 2, 0, 0, .null) := by decide +kernel
theorem i_94_32 : aIns 94 32 = some (.iload 4, 2, 0, 0, .null) := by decide +kernel
theorem i_94_34 : aIns 94 34 = some (.if_icmp .ge 105, 3, 0, 0, .null) := by decide +kernel
theorem i_94_37 : aIns 94 37 = some (.aload_n 3, 1, 0, 0, .null) := by decide +kernel
theorem i_94_38 : aIns 94 38 = some (.iload 9, 2, 0, 0, .null) := by decide +kernel
theorem i_94_40 : aIns 94 40 = some (.iaload, 1, 0, 0, .null) := by decide +kernel
theorem i_94_41 : aIns 94 41 = some (.istore 10, 2, 0, 0, .null) := by decide +kernel
theorem i_94_43 : aIns 94 43 = some (.iload 7, 2, 0, 0, .null) := by decide +kernel
theorem i_94_45 : aIns 94 45 = some (.aload 6, 2, 0, 0, .null) := by decide +kernel
theorem i_94_47 : aIns 94 47 = some (.getfield 116, 3, 5, 18, .null) := by decide +kernel
theorem i_94_50 : aIns 94 50 = some (.iload 10, 2, 0, 0, .null) := by decide +kernel
theorem i_94_52 : aIns 94 52 = some (.iaload, 1, 0, 0, .null) := by decide +kernel
theorem i_94_53 : aIns 94 53 = some (.if_icmp .lt 80, 3, 0, 0, .null) := by decide +kernel
theorem i_94_56 : aIns 94 56 = some (.aload 6, 2, 0, 0, .null) := by decide +kernel
theorem i_94_58 : aIns 94 58 = some (.getfield 119, 3, 5, 17, .null) := by decide +kernel
theorem i_94_61 : aIns 94 61 = some (.iload 10, 2, 0, 0, .null) := by decide +kernel
theorem i_94_63 : aIns 94 63 = some (.iaload, 1, 0, 0, .null) := by decide +kernel
theorem i_94_64 : aIns 94 64 = some (.istore 11, 2, 0, 0, .null) := by decide +kernel
theorem i_94_66 : aIns 94 66 = some (.aload 6, 2, 0, 0, .null) := by decide +kernel
theorem i_94_68 : aIns 94 68 = some (.getfield 122, 3, 5, 16, .null) := by decide +kernel
theorem i_94_71 : aIns 94 71 = some (.iload 10, 2, 0, 0, .null) := by decide +kernel
theorem i_94_73 : aIns 94 73 = some (.iaload, 1, 0, 0, .null) := by decide +kernel
theorem i_94_74 : aIns 94 74 = some (.lookupswitch 56 #[(10, 26), (11, 42)], 26, 0, 0, .null) := by decide +kernel
theorem i_94_100 : aIns 94 100 = some (.iload 7, 2, 0, 0, .null) := by decide +kernel
theorem i_94_102 : aIns 94 102 = some (.iload 7, 2, 0, 0, .null) := by decide +kernel
theorem i_94_104 : aIns 94 104 = some (.iload 11, 2, 0, 0, .null) := by decide +kernel
theorem i_94_106 : aIns 94 106 = some (.imul, 1, 0, 0, .null) := by decide +kernel
theorem i_94_107 : aIns 94 107 = some (.bipush 100, 2, 0, 0, .int (100)) := by decide +kernel
theorem i_94_109 : aIns 94 109 = some (.idiv, 1, 0, 0, .null) := by decide +kernel
theorem i_94_110 : aIns 94 110 = some (.isub, 1, 0, 0, .null) := by decide +kernel
theorem i_94_111 : aIns 94 111 = some (.istore 7, 2, 0, 0, .null) := by decide +kernel
theorem i_94_113 : aIns 94 113 = some (.goto 20, 3, 0, 0, .null) := by decide +kernel
theorem i_94_116 : aIns 94 116 = some (.iconst 0, 1, 0, 0, .int (0)) := by decide +kernel
theorem i_94_117 : aIns 94 117 = some (.iload 7, 2, 0, 0, .null) := by decide +kernel
theorem i_94_119 : aIns 94 119 = some (.iload 11, 2, 0, 0, .null) := by decide +kernel
theorem i_94_121 : aIns 94 121 = some (.isub, 1, 0, 0, .null) := by decide +kernel
theorem i_94_122 : aIns 94 122 = some (.invokestatic 46, 3, 1001, 0, .null) := by decide +kernel
theorem i_94_125 : aIns 94 125 = some (.istore 7, 2, 0, 0, .null) := by decide +kernel
theorem i_94_127 : aIns 94 127 = some (.goto 6, 3, 0, 0, .null) := by decide +kernel
theorem i_94_130 : aIns 94 130 = some (.iconst 1, 1, 0, 0, .int (1)) := by decide +kernel
theorem i_94_131 : aIns 94 131 = some (.istore 8, 2, 0, 0, .null) := by decide +kernel
theorem i_94_133 : aIns 94 133 = some (.iinc 9 1, 3, 0, 0, .null) := by decide +kernel
theorem i_94_136 : aIns 94 136 = some (.goto (-106), 3, 0, 0, .null) := by decide +kernel
theorem i_94_139 : aIns 94 139 = some (.aload_n 0, 1, 0, 0, .null) := by decide +kernel
theorem i_94_140 : aIns 94 140 = some (.iload 7, 2, 0, 0, .null) := by decide +kernel
theorem i_94_142 : aIns 94 142 = some (.iload 5, 2, 0, 0, .null) := by decide +kernel
theorem i_94_144 : aIns 94 144 = some (.if_icmp .ge 16, 3, 0, 0, .null) := by decide +kernel
theorem i_94_147 : aIns 94 147 = some (.iload 8, 2, 0, 0, .null) := by decide +kernel
theorem i_94_149 : aIns 94 149 = some (.ifCond .ne 11, 3, 0, 0, .null) := by decide +kernel
theorem i_94_152 : aIns 94 152 = some (.aload 6, 2, 0, 0, .null) := by decide +kernel
theorem i_94_154 : aIns 94 154 = some (.getfield 125, 3, 5, 1, .null) := by decide +kernel
theorem i_94_157 : aIns 94 157 = some (.goto 4, 3, 0, 0, .null) := by decide +kernel
theorem i_94_160 : aIns 94 160 = some (.iconst 0, 1, 0, 0, .int (0)) := by decide +kernel
theorem i_94_161 : aIns 94 161 = some (.putfield 113, 3, 9, 4, .null) := by decide +kernel
theorem i_94_164 : aIns 94 164 = some (.iload 7, 2, 0, 0, .null) := by decide +kernel
theorem i_94_166 : aIns 94 166 = some (.aload_n 0, 1, 0, 0, .null) := by decide +kernel
theorem i_94_167 : aIns 94 167 = some (.getfield 113, 3, 9, 4, .null) := by decide +kernel
theorem i_94_170 : aIns 94 170 = some (.iadd, 1, 0, 0, .null) := by decide +kernel
theorem i_94_171 : aIns 94 171 = some (.ireturn, 1, 0, 0, .null) := by decide +kernel
theorem i_95_0 : aIns 95 0 = some (.iload_n 1, 1, 0, 0, .null) := by decide +kernel
theorem i_95_1 : aIns 95 1 = some (.ifCond .le 32, 3, 0, 0, .null) := by decide +kernel
theorem i_95_4 : aIns 95 4 = some (.iload_n 1, 1, 0, 0, .null) := by decide +kernel
theorem i_95_5 : aIns 95 5 = some (.aload_n 0, 1, 0, 0, .null) := by decide +kernel
theorem i_95_6 : aIns 95 6 = some (.getfield 21, 3, 9, 0, .null) := by decide +kernel
theorem i_95_9 : aIns 95 9 = some (.getfield 26, 3, 10, 0, .null) := by decide +kernel
theorem i_95_12 : aIns 95 12 = some (.getfield 106, 3, 5, 2, .null) := by decide +kernel
theorem i_95_15 : aIns 95 15 = some (.if_icmp .ge 18, 3, 0, 0, .null) := by decide +kernel
theorem i_95_18 : aIns 95 18 = some (.iload_n 1, 1, 0, 0, .null) := by decide +kernel
theorem i_95_19 : aIns 95 19 = some (.aload_n 0, 1, 0, 0, .null) := by decide +kernel
theorem i_95_20 : aIns 95 20 = some (.getfield 21, 3, 9, 0, .null) := by decide +kernel
theorem i_95_23 : aIns 95 23 = some (.getfield 26, 3, 10, 0, .null) := by decide +kernel
theorem i_95_26 : aIns 95 26 = some (.getfield 125, 3, 5, 1, .null) := by decide +kernel
theorem i_95_29 : aIns 95 29 = some (.iadd, 1, 0, 0, .null) := by decide +kernel
theorem i_95_30 : aIns 95 30 = some (.goto 4, 3, 0, 0, .null) := by decide +kernel
theorem i_95_33 : aIns 95 33 = some (.iload_n 1, 1, 0, 0, .null) := by decide +kernel
theorem i_95_34 : aIns 95 34 = some (.ireturn, 1, 0, 0, .null) := by decide +kernel
theorem i_273_0 : aIns 273 0 = some (.iconst 0, 1, 0, 0, .int (0)) := by decide +kernel
theorem i_273_1 : aIns 273 1 = some (.istore_n 2, 1, 0, 0, .null) := by decide +kernel
theorem i_273_2 : aIns 273 2 = some (.aload_n 0, 1, 0, 0, .null) := by decide +kernel
theorem i_273_3 : aIns 273 3 = some (.arraylength, 1, 0, 0, .null) := by decide +kernel
theorem i_273_4 : aIns 273 4 = some (.istore_n 3, 1, 0, 0, .null) := by decide +kernel
theorem i_273_5 : aIns 273 5 = some (.iload_n 2, 1, 0, 0, .null) := by decide +kernel
theorem i_273_6 : aIns 273 6 = some (.iload_n 3, 1, 0, 0, .null) := by decide +kernel
theorem i_273_7 : aIns 273 7 = some (.if_icmp .ge 13, 3, 0, 0, .null) := by decide +kernel
theorem i_273_10 : aIns 273 10 = some (.aload_n 0, 1, 0, 0, .null) := by decide +kernel
theorem i_273_11 : aIns 273 11 = some (.iload_n 2, 1, 0, 0, .null) := by decide +kernel
theorem i_273_12 : aIns 273 12 = some (.iload_n 1, 1, 0, 0, .null) := by decide +kernel
theorem i_273_13 : aIns 273 13 = some (.iastore, 1, 0, 0, .null) := by decide +kernel
theorem i_273_14 : aIns 273 14 = some (.iinc 2 1, 3, 0, 0, .null) := by decide +kernel
theorem i_273_17 : aIns 273 17 = some (.goto (-12), 3, 0, 0, .null) := by decide +kernel
theorem i_273_20 : aIns 273 20 = some (.return_, 1, 0, 0, .null) := by decide +kernel
set_option maxHeartbeats 4000000 in
set_option maxRecDepth 100000 in
theorem l_58_ok {X : aX} {S : rS} {g : Nat} {d : Nat} (hdp : 0 ≤ d) : ∀ n, (∀ (a0 : Nat) (a2 : Nat) (x1 : Int32) (x3 : Int32) (x4 : Int32) (m : cM) (zz : Int32), l_58 g n 0 a0 a2 x1 x3 x4 m = some zz → aWp X d 58 3 [some (.ref a0), some (.int x1), some (.ref a2), some (.int x3), some (.int x4)] [] (hr m S) (fun w h' => w = some (.int zz) ∧ h' = hr m S)) := by
  intro n
  induction n with
  | zero => exact fun _ _ _ _ _ _ _ hd => by simp [l_58] at hd
  | succ n ih =>
    intro a0 a2 x1 x3 x4 m zz hd
    unfold l_58 at hd
    rw [if_pos rfl] at hd
    refine wp_s 5 [some (.ref a0), some (.int x1), some (.ref a2), some (.int x3), some (.int x4)] [.int x4] _ i_58_3 rfl ?_
    refine wp_s 6 [some (.ref a0), some (.int x1), some (.ref a2), some (.int x3), some (.int x4)] [.int x3, .int x4] _ i_58_5 rfl ?_
    refine wp_cmp_ge 42 9 rfl rfl i_58_6 (fun c_1 => ?_) (fun c_1 => ?_)
    · rw [if_pos c_1] at hd
      refine wp_s 43 [some (.ref a0), some (.int x1), some (.ref a2), some (.int x3), some (.int x4)] [.int (1 : Int32)] _ i_58_42 rfl ?_
      obtain rfl := Option.some.inj hd
      exact wp_iretZ (z := 0) i_58_43 (by decide) ⟨rfl, rfl⟩
    · rw [if_neg c_1] at hd
      refine wp_s 10 [some (.ref a0), some (.int x1), some (.ref a2), some (.int x3), some (.int x4)] [.ref a2] _ i_58_9 rfl ?_
      refine wp_s 12 [some (.ref a0), some (.int x1), some (.ref a2), some (.int x3), some (.int x4)] [.int x4, .ref a2] _ i_58_10 rfl ?_
      obtain ⟨k_2, hd⟩ := dk_if hd
      refine hm_iald 13 rfl i_58_12 (cA_iff k_2).1 (cA_iff k_2).2.1 (cA_iff k_2).2.2 ?_
      refine wp_s 14 [some (.ref a0), some (.int x1), some (.ref a2), some (.int x3), some (.int x4)] [.int x1, .int (m.1 a2 x4.toNatClampNeg)] _ i_58_13 rfl ?_
      refine wp_cmp_eq 34 17 rfl rfl i_58_14 (fun c_3 => ?_) (fun c_3 => ?_)
      · rw [if_pos c_3] at hd
        refine wp_s 35 [some (.ref a0), some (.int x1), some (.ref a2), some (.int x3), some (.int x4)] [.int (0 : Int32)] _ i_58_34 rfl ?_
        obtain rfl := Option.some.inj hd
        exact wp_iretZ (z := 0) i_58_35 (by decide) ⟨rfl, rfl⟩
      · rw [if_neg c_3] at hd
        refine wp_s 18 [some (.ref a0), some (.int x1), some (.ref a2), some (.int x3), some (.int x4)] [.ref a0] _ i_58_17 rfl ?_
        obtain ⟨k_4, hd⟩ := dk_if hd
        refine hm_get (w := .ref (a0 + 12)) 21 rfl i_58_18 (cO_iff k_4).1 (cO_iff k_4).2 rfl ?_
        refine wp_s 22 [some (.ref a0), some (.int x1), some (.ref a2), some (.int x3), some (.int x4)] [.int x1, .ref (a0 + 12)] _ i_58_21 rfl ?_
        obtain ⟨k_5, hd⟩ := dk_if hd
        refine hm_iald 23 rfl i_58_22 (kb_5_12 (cO_iff k_4).1 (cO_iff k_4).2) (kr_5_12 (cO_iff k_4).2) k_5 ?_
        refine wp_s 24 [some (.ref a0), some (.int x1), some (.ref a2), some (.int x3), some (.int x4)] [.ref a2, .int (m.1 (a0 + 12) x1.toNatClampNeg)] _ i_58_23 rfl ?_
        refine wp_s 26 [some (.ref a0), some (.int x1), some (.ref a2), some (.int x3), some (.int x4)] [.int x4, .ref a2, .int (m.1 (a0 + 12) x1.toNatClampNeg)] _ i_58_24 rfl ?_
        obtain ⟨k_6, hd⟩ := dk_if hd
        refine hm_iald 27 rfl i_58_26 (cA_iff k_6).1 (cA_iff k_6).2.1 (cA_iff k_6).2.2 ?_
        refine wp_s 28 [some (.ref a0), some (.int x1), some (.ref a2), some (.int x3), some (.int x4)] [.int ((m.1 (a0 + 12) x1.toNatClampNeg) >>> ((m.1 a2 x4.toNatClampNeg) &&& 31))] _ i_58_27 rfl ?_
        refine wp_s 29 [some (.ref a0), some (.int x1), some (.ref a2), some (.int x3), some (.int x4)] [.int (1 : Int32), .int ((m.1 (a0 + 12) x1.toNatClampNeg) >>> ((m.1 a2 x4.toNatClampNeg) &&& 31))] _ i_58_28 rfl ?_
        refine wp_s 30 [some (.ref a0), some (.int x1), some (.ref a2), some (.int x3), some (.int x4)] [.int (((m.1 (a0 + 12) x1.toNatClampNeg) >>> ((m.1 a2 x4.toNatClampNeg) &&& 31)) &&& (1 : Int32))] _ i_58_29 rfl ?_
        refine wp_s 31 [some (.ref a0), some (.int x1), some (.ref a2), some (.int x3), some (.int x4)] [.int (1 : Int32), .int (((m.1 (a0 + 12) x1.toNatClampNeg) >>> ((m.1 a2 x4.toNatClampNeg) &&& 31)) &&& (1 : Int32))] _ i_58_30 rfl ?_
        refine wp_cmp_ne 36 34 rfl rfl i_58_31 (fun c_7 => ?_) (fun c_7 => ?_)
        · rw [if_pos c_7] at hd
          refine wp_s 39 [some (.ref a0), some (.int x1), some (.ref a2), some (.int x3), some (.int (x4 + (1 : Int32)))] [] _ i_58_36 rfl ?_
          refine wp_s 3 [some (.ref a0), some (.int x1), some (.ref a2), some (.int x3), some (.int (x4 + (1 : Int32)))] [] _ i_58_39 rfl ?_
          exact aWp.forget (ih _ _ _ _ _ _ _ hd) (lvS (lvS (lvS (lvS (lvS lvE)))))
        · rw [if_neg c_7] at hd
          refine wp_s 35 [some (.ref a0), some (.int x1), some (.ref a2), some (.int x3), some (.int x4)] [.int (0 : Int32)] _ i_58_34 rfl ?_
          obtain rfl := Option.some.inj hd
          exact wp_iretZ (z := 0) i_58_35 (by decide) ⟨rfl, rfl⟩
set_option maxHeartbeats 4000000 in
set_option maxRecDepth 100000 in
theorem d_58_ok {X : aX} {S : rS} {g : Nat} {a0 : Nat} {x1 : Int32} {a2 : Nat} {x3 : Int32} {m : cM} {zz : Int32} {d : Nat} (hdp : 0 ≤ d) (hd : d_58 g a0 x1 a2 x3 m = some zz) : aWp X d 58 0 (aEntL [.ref a0, .int x1, .ref a2, .int x3] 5) [] (hr m S) (fun w h' => w = some (.int zz) ∧ h' = hr m S) := by
  unfold d_58 at hd
  refine wp_lv (l2 := [some (.ref a0), some (.int x1), some (.ref a2), some (.int x3), none]) rfl ?_
  refine wp_s 1 [some (.ref a0), some (.int x1), some (.ref a2), some (.int x3), none] [.int (0 : Int32)] _ i_58_0 rfl ?_
  refine wp_s 3 [some (.ref a0), some (.int x1), some (.ref a2), some (.int x3), some (.int (0 : Int32))] [] _ i_58_1 rfl ?_
  exact aWp.forget ((l_58_ok hdp g) _ _ _ _ _ _ _ hd) (lvS (lvS (lvS (lvS (lvS lvE)))))
set_option maxHeartbeats 4000000 in
set_option maxRecDepth 100000 in
theorem d_77_ok {X : aX} {S : rS} {g : Nat} {x1 : Int32} {m : cM} {zz : Int32} {d : Nat} (hdp : 0 ≤ d) (hd : d_77 g x1 m = some zz) : aWp X d 77 0 (aEntL [.ref 19, .int x1] 2) [] (hr m S) (fun w h' => w = some (.int zz) ∧ h' = hr m S) := by
  unfold d_77 at hd
  refine wp_lv (l2 := [some (.ref 19), some (.int x1)]) rfl ?_
  refine wp_s 1 [some (.ref 19), some (.int x1)] [.ref 19] _ i_77_0 rfl ?_
  refine hm_get (w := .int (m.1 19 10)) 4 rfl i_77_1 (cb rfl) kk_19 rfl ?_
  refine wp_s 5 [some (.ref 19), some (.int x1)] [.int x1, .int (m.1 19 10)] _ i_77_4 rfl ?_
  refine wp_s 6 [some (.ref 19), some (.int x1)] [.int ((m.1 19 10) >>> (x1 &&& 31))] _ i_77_5 rfl ?_
  refine wp_s 7 [some (.ref 19), some (.int x1)] [.int (1 : Int32), .int ((m.1 19 10) >>> (x1 &&& 31))] _ i_77_6 rfl ?_
  refine wp_s 8 [some (.ref 19), some (.int x1)] [.int (((m.1 19 10) >>> (x1 &&& 31)) &&& (1 : Int32))] _ i_77_7 rfl ?_
  refine wp_s 9 [some (.ref 19), some (.int x1)] [.int (1 : Int32), .int (((m.1 19 10) >>> (x1 &&& 31)) &&& (1 : Int32))] _ i_77_8 rfl ?_
  refine wp_cmp_ne 16 12 rfl rfl i_77_9 (fun c_1 => ?_) (fun c_1 => ?_)
  · rw [if_pos c_1] at hd
    refine wp_s 17 [some (.ref 19), some (.int x1)] [.int (0 : Int32)] _ i_77_16 rfl ?_
    obtain rfl := Option.some.inj hd
    exact wp_iretZ (z := 0) i_77_17 (by decide) ⟨rfl, rfl⟩
  · rw [if_neg c_1] at hd
    refine wp_s 13 [some (.ref 19), some (.int x1)] [.int (1 : Int32)] _ i_77_12 rfl ?_
    refine wp_s 17 [some (.ref 19), some (.int x1)] [.int (1 : Int32)] _ i_77_13 rfl ?_
    obtain rfl := Option.some.inj hd
    exact wp_iretZ (z := 0) i_77_17 (by decide) ⟨rfl, rfl⟩
set_option maxHeartbeats 4000000 in
set_option maxRecDepth 100000 in
theorem l_94_ok {X : aX} {S : rS} {g : Nat} {d : Nat} (hdp : 0 ≤ d) : ∀ n, (∀ (a3 : Nat) (x1 : Int32) (x2 : Int32) (x4 : Int32) (x5 : Int32) (a6 : Nat) (x7 : Int32) (x8 : Int32) (x9 : Int32) (x10 : Int32) (s0 : Int32) (m : cM) (zz : Int32 × cM), l_94 g n 0 a3 x1 x2 x4 x5 a6 x7 x8 x9 x10 s0 m = some zz → aWp X d 94 30 [some (.ref 32), some (.int x1), some (.int x2), some (.ref a3), some (.int x4), some (.int x5), some (.ref a6), some (.int x7), some (.int x8), some (.int x9), none, none] [] (hr m S) (fun w h' => w = some (.int zz.1) ∧ h' = hr zz.2 S)) ∧ (∀ (a3 : Nat) (x1 : Int32) (x2 : Int32) (x4 : Int32) (x5 : Int32) (a6 : Nat) (x7 : Int32) (x8 : Int32) (x9 : Int32) (x10 : Int32) (s0 : Int32) (m : cM) (zz : Int32 × cM), l_94 g n 1 a3 x1 x2 x4 x5 a6 x7 x8 x9 x10 s0 m = some zz → aWp X d 94 133 [some (.ref 32), some (.int x1), some (.int x2), some (.ref a3), some (.int x4), some (.int x5), some (.ref a6), some (.int x7), some (.int x8), some (.int x9), some (.int x10), none] [] (hr m S) (fun w h' => w = some (.int zz.1) ∧ h' = hr zz.2 S)) ∧ (∀ (a3 : Nat) (x1 : Int32) (x2 : Int32) (x4 : Int32) (x5 : Int32) (a6 : Nat) (x7 : Int32) (x8 : Int32) (x9 : Int32) (x10 : Int32) (s0 : Int32) (m : cM) (zz : Int32 × cM), l_94 g n 2 a3 x1 x2 x4 x5 a6 x7 x8 x9 x10 s0 m = some zz → aWp X d 94 160 [some (.ref 32), some (.int x1), some (.int x2), some (.ref a3), some (.int x4), some (.int x5), some (.ref a6), some (.int x7), some (.int x8), some (.int x9), none, none] [.ref 32] (hr m S) (fun w h' => w = some (.int zz.1) ∧ h' = hr zz.2 S)) ∧ (∀ (a3 : Nat) (x1 : Int32) (x2 : Int32) (x4 : Int32) (x5 : Int32) (a6 : Nat) (x7 : Int32) (x8 : Int32) (x9 : Int32) (x10 : Int32) (s0 : Int32) (m : cM) (zz : Int32 × cM), l_94 g n 3 a3 x1 x2 x4 x5 a6 x7 x8 x9 x10 s0 m = some zz → aWp X d 94 161 [some (.ref 32), some (.int x1), some (.int x2), some (.ref a3), some (.int x4), some (.int x5), some (.ref a6), some (.int x7), some (.int x8), some (.int x9), none, none] [.int s0, .ref 32] (hr m S) (fun w h' => w = some (.int zz.1) ∧ h' = hr zz.2 S)) := by
  intro n
  induction n with
  | zero => exact ⟨fun _ _ _ _ _ _ _ _ _ _ _ _ _ hd => by simp [l_94] at hd, fun _ _ _ _ _ _ _ _ _ _ _ _ _ hd => by simp [l_94] at hd, fun _ _ _ _ _ _ _ _ _ _ _ _ _ hd => by simp [l_94] at hd, fun _ _ _ _ _ _ _ _ _ _ _ _ _ hd => by simp [l_94] at hd⟩
  | succ n ih =>
    refine ⟨?_, ?_, ?_, ?_⟩
    · intro a3 x1 x2 x4 x5 a6 x7 x8 x9 x10 s0 m zz hd
      unfold l_94 at hd
      rw [if_pos rfl] at hd
      refine wp_s 32 [some (.ref 32), some (.int x1), some (.int x2), some (.ref a3), some (.int x4), some (.int x5), some (.ref a6), some (.int x7), some (.int x8), some (.int x9), none, none] [.int x9] _ i_94_30 rfl ?_
      refine wp_s 34 [some (.ref 32), some (.int x1), some (.int x2), some (.ref a3), some (.int x4), some (.int x5), some (.ref a6), some (.int x7), some (.int x8), some (.int x9), none, none] [.int x4, .int x9] _ i_94_32 rfl ?_
      refine wp_cmp_ge 139 37 rfl rfl i_94_34 (fun c_1 => ?_) (fun c_1 => ?_)
      · rw [if_pos c_1] at hd
        refine wp_s 140 [some (.ref 32), some (.int x1), some (.int x2), some (.ref a3), some (.int x4), some (.int x5), some (.ref a6), some (.int x7), some (.int x8), some (.int x9), none, none] [.ref 32] _ i_94_139 rfl ?_
        refine wp_s 142 [some (.ref 32), some (.int x1), some (.int x2), some (.ref a3), some (.int x4), some (.int x5), some (.ref a6), some (.int x7), some (.int x8), some (.int x9), none, none] [.int x7, .ref 32] _ i_94_140 rfl ?_
        refine wp_s 144 [some (.ref 32), some (.int x1), some (.int x2), some (.ref a3), some (.int x4), some (.int x5), some (.ref a6), some (.int x7), some (.int x8), some (.int x9), none, none] [.int x5, .int x7, .ref 32] _ i_94_142 rfl ?_
        refine wp_cmp_ge 160 147 rfl rfl i_94_144 (fun c_2 => ?_) (fun c_2 => ?_)
        · rw [if_pos c_2] at hd
          exact aWp.forget (ih.2.2.1 _ _ _ _ _ _ _ _ _ _ _ _ _ hd) (lvS (lvS (lvS (lvS (lvS (lvS (lvS (lvS (lvS (lvS (lvN (lvN lvE))))))))))))
        · rw [if_neg c_2] at hd
          refine wp_s 149 [some (.ref 32), some (.int x1), some (.int x2), some (.ref a3), some (.int x4), some (.int x5), some (.ref a6), some (.int x7), some (.int x8), some (.int x9), none, none] [.int x8, .ref 32] _ i_94_147 rfl ?_
          refine wp_if_ne 160 152 rfl rfl i_94_149 (fun c_3 => ?_) (fun c_3 => ?_)
          · rw [if_pos c_3] at hd
            exact aWp.forget (ih.2.2.1 _ _ _ _ _ _ _ _ _ _ _ _ _ hd) (lvS (lvS (lvS (lvS (lvS (lvS (lvS (lvS (lvS (lvS (lvN (lvN lvE))))))))))))
          · rw [if_neg c_3] at hd
            refine wp_s 154 [some (.ref 32), some (.int x1), some (.int x2), some (.ref a3), some (.int x4), some (.int x5), some (.ref a6), some (.int x7), some (.int x8), some (.int x9), none, none] [.ref a6, .ref 32] _ i_94_152 rfl ?_
            obtain ⟨k_4, hd⟩ := dk_if hd
            refine hm_get (w := .int (m.1 a6 1)) 157 rfl i_94_154 (cO_iff k_4).1 (cO_iff k_4).2 rfl ?_
            refine wp_s 161 [some (.ref 32), some (.int x1), some (.int x2), some (.ref a3), some (.int x4), some (.int x5), some (.ref a6), some (.int x7), some (.int x8), some (.int x9), none, none] [.int (m.1 a6 1), .ref 32] _ i_94_157 rfl ?_
            exact aWp.forget (ih.2.2.2 _ _ _ _ _ _ _ _ _ _ _ _ _ hd) (lvS (lvS (lvS (lvS (lvS (lvS (lvS (lvS (lvS (lvS (lvN (lvN lvE))))))))))))
      · rw [if_neg c_1] at hd
        refine wp_s 38 [some (.ref 32), some (.int x1), some (.int x2), some (.ref a3), some (.int x4), some (.int x5), some (.ref a6), some (.int x7), some (.int x8), some (.int x9), none, none] [.ref a3] _ i_94_37 rfl ?_
        refine wp_s 40 [some (.ref 32), some (.int x1), some (.int x2), some (.ref a3), some (.int x4), some (.int x5), some (.ref a6), some (.int x7), some (.int x8), some (.int x9), none, none] [.int x9, .ref a3] _ i_94_38 rfl ?_
        obtain ⟨k_5, hd⟩ := dk_if hd
        refine hm_iald 41 rfl i_94_40 (cA_iff k_5).1 (cA_iff k_5).2.1 (cA_iff k_5).2.2 ?_
        refine wp_s 43 [some (.ref 32), some (.int x1), some (.int x2), some (.ref a3), some (.int x4), some (.int x5), some (.ref a6), some (.int x7), some (.int x8), some (.int x9), some (.int (m.1 a3 x9.toNatClampNeg)), none] [] _ i_94_41 rfl ?_
        refine wp_s 45 [some (.ref 32), some (.int x1), some (.int x2), some (.ref a3), some (.int x4), some (.int x5), some (.ref a6), some (.int x7), some (.int x8), some (.int x9), some (.int (m.1 a3 x9.toNatClampNeg)), none] [.int x7] _ i_94_43 rfl ?_
        refine wp_s 47 [some (.ref 32), some (.int x1), some (.int x2), some (.ref a3), some (.int x4), some (.int x5), some (.ref a6), some (.int x7), some (.int x8), some (.int x9), some (.int (m.1 a3 x9.toNatClampNeg)), none] [.ref a6, .int x7] _ i_94_45 rfl ?_
        obtain ⟨k_6, hd⟩ := dk_if hd
        refine hm_get (w := .ref (a6 + 11)) 50 rfl i_94_47 (cO_iff k_6).1 (cO_iff k_6).2 rfl ?_
        refine wp_s 52 [some (.ref 32), some (.int x1), some (.int x2), some (.ref a3), some (.int x4), some (.int x5), some (.ref a6), some (.int x7), some (.int x8), some (.int x9), some (.int (m.1 a3 x9.toNatClampNeg)), none] [.int (m.1 a3 x9.toNatClampNeg), .ref (a6 + 11), .int x7] _ i_94_50 rfl ?_
        obtain ⟨k_7, hd⟩ := dk_if hd
        refine hm_iald 53 rfl i_94_52 (kb_5_11 (cO_iff k_6).1 (cO_iff k_6).2) (kr_5_11 (cO_iff k_6).2) k_7 ?_
        refine wp_cmp_lt 133 56 rfl rfl i_94_53 (fun c_8 => ?_) (fun c_8 => ?_)
        · rw [if_pos c_8] at hd
          exact aWp.forget (ih.2.1 _ _ _ _ _ _ _ _ _ _ _ _ _ hd) (lvS (lvS (lvS (lvS (lvS (lvS (lvS (lvS (lvS (lvS (lvS (lvN lvE))))))))))))
        · rw [if_neg c_8] at hd
          refine wp_s 58 [some (.ref 32), some (.int x1), some (.int x2), some (.ref a3), some (.int x4), some (.int x5), some (.ref a6), some (.int x7), some (.int x8), some (.int x9), some (.int (m.1 a3 x9.toNatClampNeg)), none] [.ref a6] _ i_94_56 rfl ?_
          refine hm_get (w := .ref (a6 + 10)) 61 rfl i_94_58 (cO_iff k_6).1 (cO_iff k_6).2 rfl ?_
          refine wp_s 63 [some (.ref 32), some (.int x1), some (.int x2), some (.ref a3), some (.int x4), some (.int x5), some (.ref a6), some (.int x7), some (.int x8), some (.int x9), some (.int (m.1 a3 x9.toNatClampNeg)), none] [.int (m.1 a3 x9.toNatClampNeg), .ref (a6 + 10)] _ i_94_61 rfl ?_
          obtain ⟨k_9, hd⟩ := dk_if hd
          refine hm_iald 64 rfl i_94_63 (kb_5_10 (cO_iff k_6).1 (cO_iff k_6).2) (kr_5_10 (cO_iff k_6).2) k_9 ?_
          refine wp_s 66 [some (.ref 32), some (.int x1), some (.int x2), some (.ref a3), some (.int x4), some (.int x5), some (.ref a6), some (.int x7), some (.int x8), some (.int x9), some (.int (m.1 a3 x9.toNatClampNeg)), some (.int (m.1 (a6 + 10) (m.1 a3 x9.toNatClampNeg).toNatClampNeg))] [] _ i_94_64 rfl ?_
          refine wp_s 68 [some (.ref 32), some (.int x1), some (.int x2), some (.ref a3), some (.int x4), some (.int x5), some (.ref a6), some (.int x7), some (.int x8), some (.int x9), some (.int (m.1 a3 x9.toNatClampNeg)), some (.int (m.1 (a6 + 10) (m.1 a3 x9.toNatClampNeg).toNatClampNeg))] [.ref a6] _ i_94_66 rfl ?_
          refine hm_get (w := .ref (a6 + 9)) 71 rfl i_94_68 (cO_iff k_6).1 (cO_iff k_6).2 rfl ?_
          refine wp_s 73 [some (.ref 32), some (.int x1), some (.int x2), some (.ref a3), some (.int x4), some (.int x5), some (.ref a6), some (.int x7), some (.int x8), some (.int x9), some (.int (m.1 a3 x9.toNatClampNeg)), some (.int (m.1 (a6 + 10) (m.1 a3 x9.toNatClampNeg).toNatClampNeg))] [.int (m.1 a3 x9.toNatClampNeg), .ref (a6 + 9)] _ i_94_71 rfl ?_
          obtain ⟨k_10, hd⟩ := dk_if hd
          refine hm_iald 74 rfl i_94_73 (kb_5_9 (cO_iff k_6).1 (cO_iff k_6).2) (kr_5_9 (cO_iff k_6).2) k_10 ?_
          by_cases c_11 : (m.1 (a6 + 9) (m.1 a3 x9.toNatClampNeg).toNatClampNeg) = (10 : Int32)
          · rw [if_pos c_11] at hd
            refine hp_lsw 100 i_94_74 (by rw [c_11]; decide) ?_
            refine wp_s 102 [some (.ref 32), some (.int x1), some (.int x2), some (.ref a3), some (.int x4), some (.int x5), some (.ref a6), some (.int x7), some (.int x8), some (.int x9), some (.int (m.1 a3 x9.toNatClampNeg)), some (.int (m.1 (a6 + 10) (m.1 a3 x9.toNatClampNeg).toNatClampNeg))] [.int x7] _ i_94_100 rfl ?_
            refine wp_s 104 [some (.ref 32), some (.int x1), some (.int x2), some (.ref a3), some (.int x4), some (.int x5), some (.ref a6), some (.int x7), some (.int x8), some (.int x9), some (.int (m.1 a3 x9.toNatClampNeg)), some (.int (m.1 (a6 + 10) (m.1 a3 x9.toNatClampNeg).toNatClampNeg))] [.int x7, .int x7] _ i_94_102 rfl ?_
            refine wp_s 106 [some (.ref 32), some (.int x1), some (.int x2), some (.ref a3), some (.int x4), some (.int x5), some (.ref a6), some (.int x7), some (.int x8), some (.int x9), some (.int (m.1 a3 x9.toNatClampNeg)), some (.int (m.1 (a6 + 10) (m.1 a3 x9.toNatClampNeg).toNatClampNeg))] [.int (m.1 (a6 + 10) (m.1 a3 x9.toNatClampNeg).toNatClampNeg), .int x7, .int x7] _ i_94_104 rfl ?_
            refine wp_s 107 [some (.ref 32), some (.int x1), some (.int x2), some (.ref a3), some (.int x4), some (.int x5), some (.ref a6), some (.int x7), some (.int x8), some (.int x9), some (.int (m.1 a3 x9.toNatClampNeg)), some (.int (m.1 (a6 + 10) (m.1 a3 x9.toNatClampNeg).toNatClampNeg))] [.int (x7 * (m.1 (a6 + 10) (m.1 a3 x9.toNatClampNeg).toNatClampNeg)), .int x7] _ i_94_106 rfl ?_
            refine wp_s 109 [some (.ref 32), some (.int x1), some (.int x2), some (.ref a3), some (.int x4), some (.int x5), some (.ref a6), some (.int x7), some (.int x8), some (.int x9), some (.int (m.1 a3 x9.toNatClampNeg)), some (.int (m.1 (a6 + 10) (m.1 a3 x9.toNatClampNeg).toNatClampNeg))] [.int (100 : Int32), .int (x7 * (m.1 (a6 + 10) (m.1 a3 x9.toNatClampNeg).toNatClampNeg)), .int x7] _ i_94_107 rfl ?_
            refine wp_idiv 110 rfl i_94_109 (by decide) ?_
            refine wp_s 111 [some (.ref 32), some (.int x1), some (.int x2), some (.ref a3), some (.int x4), some (.int x5), some (.ref a6), some (.int x7), some (.int x8), some (.int x9), some (.int (m.1 a3 x9.toNatClampNeg)), some (.int (m.1 (a6 + 10) (m.1 a3 x9.toNatClampNeg).toNatClampNeg))] [.int (x7 - ((x7 * (m.1 (a6 + 10) (m.1 a3 x9.toNatClampNeg).toNatClampNeg)) / (100 : Int32)))] _ i_94_110 rfl ?_
            refine wp_s 113 [some (.ref 32), some (.int x1), some (.int x2), some (.ref a3), some (.int x4), some (.int x5), some (.ref a6), some (.int (x7 - ((x7 * (m.1 (a6 + 10) (m.1 a3 x9.toNatClampNeg).toNatClampNeg)) / (100 : Int32)))), some (.int x8), some (.int x9), some (.int (m.1 a3 x9.toNatClampNeg)), some (.int (m.1 (a6 + 10) (m.1 a3 x9.toNatClampNeg).toNatClampNeg))] [] _ i_94_111 rfl ?_
            refine wp_s 133 [some (.ref 32), some (.int x1), some (.int x2), some (.ref a3), some (.int x4), some (.int x5), some (.ref a6), some (.int (x7 - ((x7 * (m.1 (a6 + 10) (m.1 a3 x9.toNatClampNeg).toNatClampNeg)) / (100 : Int32)))), some (.int x8), some (.int x9), some (.int (m.1 a3 x9.toNatClampNeg)), some (.int (m.1 (a6 + 10) (m.1 a3 x9.toNatClampNeg).toNatClampNeg))] [] _ i_94_113 rfl ?_
            exact aWp.forget (ih.2.1 _ _ _ _ _ _ _ _ _ _ _ _ _ hd) (lvS (lvS (lvS (lvS (lvS (lvS (lvS (lvS (lvS (lvS (lvS (lvN lvE))))))))))))
          rw [if_neg c_11] at hd
          by_cases c_12 : (m.1 (a6 + 9) (m.1 a3 x9.toNatClampNeg).toNatClampNeg) = (11 : Int32)
          · rw [if_pos c_12] at hd
            refine hp_lsw 116 i_94_74 (by rw [c_12]; decide) ?_
            refine wp_s 117 [some (.ref 32), some (.int x1), some (.int x2), some (.ref a3), some (.int x4), some (.int x5), some (.ref a6), some (.int x7), some (.int x8), some (.int x9), some (.int (m.1 a3 x9.toNatClampNeg)), some (.int (m.1 (a6 + 10) (m.1 a3 x9.toNatClampNeg).toNatClampNeg))] [.int (0 : Int32)] _ i_94_116 rfl ?_
            refine wp_s 119 [some (.ref 32), some (.int x1), some (.int x2), some (.ref a3), some (.int x4), some (.int x5), some (.ref a6), some (.int x7), some (.int x8), some (.int x9), some (.int (m.1 a3 x9.toNatClampNeg)), some (.int (m.1 (a6 + 10) (m.1 a3 x9.toNatClampNeg).toNatClampNeg))] [.int x7, .int (0 : Int32)] _ i_94_117 rfl ?_
            refine wp_s 121 [some (.ref 32), some (.int x1), some (.int x2), some (.ref a3), some (.int x4), some (.int x5), some (.ref a6), some (.int x7), some (.int x8), some (.int x9), some (.int (m.1 a3 x9.toNatClampNeg)), some (.int (m.1 (a6 + 10) (m.1 a3 x9.toNatClampNeg).toNatClampNeg))] [.int (m.1 (a6 + 10) (m.1 a3 x9.toNatClampNeg).toNatClampNeg), .int x7, .int (0 : Int32)] _ i_94_119 rfl ?_
            refine wp_s 122 [some (.ref 32), some (.int x1), some (.int x2), some (.ref a3), some (.int x4), some (.int x5), some (.ref a6), some (.int x7), some (.int x8), some (.int x9), some (.int (m.1 a3 x9.toNatClampNeg)), some (.int (m.1 (a6 + 10) (m.1 a3 x9.toNatClampNeg).toNatClampNeg))] [.int (x7 - (m.1 (a6 + 10) (m.1 a3 x9.toNatClampNeg).toNatClampNeg)), .int (0 : Int32)] _ i_94_121 rfl ?_
            refine hp_max 125 rfl i_94_122 rfl ?_
            refine wp_s 127 [some (.ref 32), some (.int x1), some (.int x2), some (.ref a3), some (.int x4), some (.int x5), some (.ref a6), some (.int (if (0 : Int32) < (x7 - (m.1 (a6 + 10) (m.1 a3 x9.toNatClampNeg).toNatClampNeg)) then (x7 - (m.1 (a6 + 10) (m.1 a3 x9.toNatClampNeg).toNatClampNeg)) else (0 : Int32))), some (.int x8), some (.int x9), some (.int (m.1 a3 x9.toNatClampNeg)), some (.int (m.1 (a6 + 10) (m.1 a3 x9.toNatClampNeg).toNatClampNeg))] [] _ i_94_125 rfl ?_
            refine wp_s 133 [some (.ref 32), some (.int x1), some (.int x2), some (.ref a3), some (.int x4), some (.int x5), some (.ref a6), some (.int (if (0 : Int32) < (x7 - (m.1 (a6 + 10) (m.1 a3 x9.toNatClampNeg).toNatClampNeg)) then (x7 - (m.1 (a6 + 10) (m.1 a3 x9.toNatClampNeg).toNatClampNeg)) else (0 : Int32))), some (.int x8), some (.int x9), some (.int (m.1 a3 x9.toNatClampNeg)), some (.int (m.1 (a6 + 10) (m.1 a3 x9.toNatClampNeg).toNatClampNeg))] [] _ i_94_127 rfl ?_
            exact aWp.forget (ih.2.1 _ _ _ _ _ _ _ _ _ _ _ _ _ hd) (lvS (lvS (lvS (lvS (lvS (lvS (lvS (lvS (lvS (lvS (lvS (lvN lvE))))))))))))
          rw [if_neg c_12] at hd
          refine hp_lsw 130 i_94_74 (by rw [lv_osw c_11 (by decide), lv_osw c_12 (by decide)]; rfl) ?_
          refine wp_s 131 [some (.ref 32), some (.int x1), some (.int x2), some (.ref a3), some (.int x4), some (.int x5), some (.ref a6), some (.int x7), some (.int x8), some (.int x9), some (.int (m.1 a3 x9.toNatClampNeg)), some (.int (m.1 (a6 + 10) (m.1 a3 x9.toNatClampNeg).toNatClampNeg))] [.int (1 : Int32)] _ i_94_130 rfl ?_
          refine wp_s 133 [some (.ref 32), some (.int x1), some (.int x2), some (.ref a3), some (.int x4), some (.int x5), some (.ref a6), some (.int x7), some (.int (1 : Int32)), some (.int x9), some (.int (m.1 a3 x9.toNatClampNeg)), some (.int (m.1 (a6 + 10) (m.1 a3 x9.toNatClampNeg).toNatClampNeg))] [] _ i_94_131 rfl ?_
          exact aWp.forget (ih.2.1 _ _ _ _ _ _ _ _ _ _ _ _ _ hd) (lvS (lvS (lvS (lvS (lvS (lvS (lvS (lvS (lvS (lvS (lvS (lvN lvE))))))))))))
    · intro a3 x1 x2 x4 x5 a6 x7 x8 x9 x10 s0 m zz hd
      unfold l_94 at hd
      rw [if_neg (by decide), if_pos rfl] at hd
      refine wp_s 136 [some (.ref 32), some (.int x1), some (.int x2), some (.ref a3), some (.int x4), some (.int x5), some (.ref a6), some (.int x7), some (.int x8), some (.int (x9 + (1 : Int32))), some (.int x10), none] [] _ i_94_133 rfl ?_
      refine wp_s 30 [some (.ref 32), some (.int x1), some (.int x2), some (.ref a3), some (.int x4), some (.int x5), some (.ref a6), some (.int x7), some (.int x8), some (.int (x9 + (1 : Int32))), some (.int x10), none] [] _ i_94_136 rfl ?_
      exact aWp.forget (ih.1 _ _ _ _ _ _ _ _ _ _ _ _ _ hd) (lvS (lvS (lvS (lvS (lvS (lvS (lvS (lvS (lvS (lvS (lvN (lvN lvE))))))))))))
    · intro a3 x1 x2 x4 x5 a6 x7 x8 x9 x10 s0 m zz hd
      unfold l_94 at hd
      rw [if_neg (by decide), if_neg (by decide), if_pos rfl] at hd
      refine wp_s 161 [some (.ref 32), some (.int x1), some (.int x2), some (.ref a3), some (.int x4), some (.int x5), some (.ref a6), some (.int x7), some (.int x8), some (.int x9), none, none] [.int (0 : Int32), .ref 32] _ i_94_160 rfl ?_
      exact aWp.forget (ih.2.2.2 _ _ _ _ _ _ _ _ _ _ _ _ _ hd) (lvS (lvS (lvS (lvS (lvS (lvS (lvS (lvS (lvS (lvS (lvN (lvN lvE))))))))))))
    · intro a3 x1 x2 x4 x5 a6 x7 x8 x9 x10 s0 m zz hd
      unfold l_94 at hd
      rw [if_neg (by decide), if_neg (by decide), if_neg (by decide), if_pos rfl] at hd
      obtain ⟨mm_13, q_14, hd⟩ := dk_bind hd
      refine hm_put 164 rfl i_94_161 (cb rfl) kk_32 (fun _ _ => rfl) (fun _ _ => Nat.le_of_ble_eq_true rfl) rfl ?_
      rw [Option.some.inj q_14]
      refine wp_s 166 [some (.ref 32), some (.int x1), some (.int x2), some (.ref a3), some (.int x4), some (.int x5), some (.ref a6), some (.int x7), some (.int x8), some (.int x9), none, none] [.int x7] _ i_94_164 rfl ?_
      refine wp_s 167 [some (.ref 32), some (.int x1), some (.int x2), some (.ref a3), some (.int x4), some (.int x5), some (.ref a6), some (.int x7), some (.int x8), some (.int x9), none, none] [.ref 32, .int x7] _ i_94_166 rfl ?_
      refine hm_get (w := .int (mm_13.1 32 4)) 170 rfl i_94_167 (cb rfl) kk_32 rfl ?_
      refine wp_s 171 [some (.ref 32), some (.int x1), some (.int x2), some (.ref a3), some (.int x4), some (.int x5), some (.ref a6), some (.int x7), some (.int x8), some (.int x9), none, none] [.int (x7 + (mm_13.1 32 4))] _ i_94_170 rfl ?_
      obtain rfl := Option.some.inj hd
      exact wp_iret i_94_171 ⟨rfl, rfl⟩
set_option maxHeartbeats 4000000 in
set_option maxRecDepth 100000 in
theorem d_94_ok {X : aX} {S : rS} {g : Nat} {x1 : Int32} {x2 : Int32} {a3 : Nat} {x4 : Int32} {x5 : Int32} {m : cM} {zz : Int32 × cM} {d : Nat} (hdp : 0 ≤ d) (hd : d_94 g x1 x2 a3 x4 x5 m = some zz) : aWp X d 94 0 (aEntL [.ref 32, .int x1, .int x2, .ref a3, .int x4, .int x5] 12) [] (hr m S) (fun w h' => w = some (.int zz.1) ∧ h' = hr zz.2 S) := by
  unfold d_94 at hd
  refine wp_lv (l2 := [some (.ref 32), some (.int x1), some (.int x2), some (.ref a3), some (.int x4), some (.int x5), none, none, none, none, none, none]) rfl ?_
  refine wp_s 1 [some (.ref 32), some (.int x1), some (.int x2), some (.ref a3), some (.int x4), some (.int x5), none, none, none, none, none, none] [.ref 32] _ i_94_0 rfl ?_
  refine wp_s 2 [some (.ref 32), some (.int x1), some (.int x2), some (.ref a3), some (.int x4), some (.int x5), none, none, none, none, none, none] [.int (0 : Int32), .ref 32] _ i_94_1 rfl ?_
  obtain ⟨mm_1001, q_1002, hd⟩ := dk_bind hd
  refine hm_put 5 rfl i_94_2 (cb rfl) kk_32 (fun _ _ => rfl) (fun _ _ => Nat.le_of_ble_eq_true rfl) rfl ?_
  rw [Option.some.inj q_1002]
  refine wp_s 6 [some (.ref 32), some (.int x1), some (.int x2), some (.ref a3), some (.int x4), some (.int x5), none, none, none, none, none, none] [.int x1] _ i_94_5 rfl ?_
  refine wp_s 7 [some (.ref 32), some (.int x1), some (.int x2), some (.ref a3), some (.int x4), some (.int x5), none, none, none, none, none, none] [.int (1 : Int32), .int x1] _ i_94_6 rfl ?_
  refine wp_cmp_ge 12 10 rfl rfl i_94_7 (fun c_1003 => ?_) (fun c_1003 => ?_)
  · rw [if_pos c_1003] at hd
    refine wp_s 13 [some (.ref 32), some (.int x1), some (.int x2), some (.ref a3), some (.int x4), some (.int x5), none, none, none, none, none, none] [.ref 32] _ i_94_12 rfl ?_
    refine hm_get (w := .ref 5) 16 rfl i_94_13 (cb rfl) kk_32 rfl ?_
    obtain ⟨k_1004, hd⟩ := dk_if hd
    refine hm_dyn 19 rfl i_94_16 (cb rfl) kk_5 (fun _ _ => rfl) (kd_ne0 (cO_iff k_1004).2 (by decide)) ?_
    refine wp_s 21 [some (.ref 32), some (.int x1), some (.int x2), some (.ref a3), some (.int x4), some (.int x5), some (.ref (mm_1001.2.2.1 5)), none, none, none, none, none] [] _ i_94_19 rfl ?_
    refine wp_s 22 [some (.ref 32), some (.int x1), some (.int x2), some (.ref a3), some (.int x4), some (.int x5), some (.ref (mm_1001.2.2.1 5)), none, none, none, none, none] [.int x2] _ i_94_21 rfl ?_
    refine wp_s 24 [some (.ref 32), some (.int x1), some (.int x2), some (.ref a3), some (.int x4), some (.int x5), some (.ref (mm_1001.2.2.1 5)), some (.int x2), none, none, none, none] [] _ i_94_22 rfl ?_
    refine wp_s 25 [some (.ref 32), some (.int x1), some (.int x2), some (.ref a3), some (.int x4), some (.int x5), some (.ref (mm_1001.2.2.1 5)), some (.int x2), none, none, none, none] [.int (0 : Int32)] _ i_94_24 rfl ?_
    refine wp_s 27 [some (.ref 32), some (.int x1), some (.int x2), some (.ref a3), some (.int x4), some (.int x5), some (.ref (mm_1001.2.2.1 5)), some (.int x2), some (.int (0 : Int32)), none, none, none] [] _ i_94_25 rfl ?_
    refine wp_s 28 [some (.ref 32), some (.int x1), some (.int x2), some (.ref a3), some (.int x4), some (.int x5), some (.ref (mm_1001.2.2.1 5)), some (.int x2), some (.int (0 : Int32)), none, none, none] [.int (0 : Int32)] _ i_94_27 rfl ?_
    refine wp_s 30 [some (.ref 32), some (.int x1), some (.int x2), some (.ref a3), some (.int x4), some (.int x5), some (.ref (mm_1001.2.2.1 5)), some (.int x2), some (.int (0 : Int32)), some (.int (0 : Int32)), none, none] [] _ i_94_28 rfl ?_
    exact aWp.forget ((l_94_ok hdp g).1 _ _ _ _ _ _ _ _ _ _ _ _ _ hd) (lvS (lvS (lvS (lvS (lvS (lvS (lvS (lvS (lvS (lvS (lvN (lvN lvE))))))))))))
  · rw [if_neg c_1003] at hd
    refine wp_s 11 [some (.ref 32), some (.int x1), some (.int x2), some (.ref a3), some (.int x4), some (.int x5), none, none, none, none, none, none] [.int (0 : Int32)] _ i_94_10 rfl ?_
    obtain rfl := Option.some.inj hd
    exact wp_iret i_94_11 ⟨rfl, rfl⟩
set_option maxHeartbeats 4000000 in
set_option maxRecDepth 100000 in
theorem l_14_ok {X : aX} {S : rS} {g : Nat} {sf14 : Int32 → cM → Option cM} {e : Nat} (hdp : 1 ≤ e) (hs14 : ∀ (x1 : Int32) (m zz : cM), sf14 x1 m = some zz → aWp X e 14 0 (aEntL [.ref 71, .int x1] 3) [] (hr m S) (fun w h' => w = none ∧ h' = hr zz S)) : ∀ n, (∀ (x1 : Int32) (x2 : Int32) (m : cM) (zz : cM), l_14 sf14 g n 0 x1 x2 m = some zz → aWp X (e + 1) 14 50 [some (.ref 71), some (.int x1), some (.int x2)] [] (hr m S) (fun w h' => w = none ∧ h' = hr zz S)) ∧ (∀ (x1 : Int32) (x2 : Int32) (m : cM) (zz : cM), l_14 sf14 g n 1 x1 x2 m = some zz → aWp X (e + 1) 14 111 [some (.ref 71), some (.int x1), some (.int x2)] [] (hr m S) (fun w h' => w = none ∧ h' = hr zz S)) := by
  intro n
  induction n with
  | zero => exact ⟨fun _ _ _ _ hd => by simp [l_14] at hd, fun _ _ _ _ hd => by simp [l_14] at hd⟩
  | succ n ih =>
    refine ⟨?_, ?_⟩
    · intro x1 x2 m zz hd
      unfold l_14 at hd
      rw [if_pos rfl] at hd
      refine wp_s 51 [some (.ref 71), some (.int x1), some (.int x2)] [.int x2] _ i_14_50 rfl ?_
      refine wp_s 52 [some (.ref 71), some (.int x1), some (.int x2)] [.ref 71, .int x2] _ i_14_51 rfl ?_
      refine hm_get (w := .ref 5) 55 rfl i_14_52 (cb rfl) kk_71 rfl ?_
      obtain ⟨k_1, hd⟩ := dk_if hd
      refine hm_dyn 58 rfl i_14_55 (cb rfl) kk_5 (fun _ _ => rfl) (kd_ne0 (cO_iff k_1).2 (by decide)) ?_
      refine hm_get (w := .int (m.1 (m.2.2.1 5) 15)) 61 rfl i_14_58 (cO_iff k_1).1 (cO_iff k_1).2 rfl ?_
      refine wp_cmp_ge 117 64 rfl rfl i_14_61 (fun c_2 => ?_) (fun c_2 => ?_)
      · rw [if_pos c_2] at hd
        obtain rfl := Option.some.inj hd
        exact wp_ret i_14_117 rfl ⟨rfl, rfl⟩
      · rw [if_neg c_2] at hd
        refine wp_s 65 [some (.ref 71), some (.int x1), some (.int x2)] [.ref 71] _ i_14_64 rfl ?_
        refine hm_get (w := .ref 5) 68 rfl i_14_65 (cb rfl) kk_71 rfl ?_
        refine hm_get (w := .ref 19) 71 rfl i_14_68 (cb rfl) kk_5 rfl ?_
        refine wp_s 72 [some (.ref 71), some (.int x1), some (.int x2)] [.int x2, .ref 19] _ i_14_71 rfl ?_
        obtain ⟨z_3, q_4, hd⟩ := dk_bind hd
        refine wp_callV 75 rfl i_14_72 (by decide) rfl (vs := [.int x2]) (rest := []) rfl rfl rfl (hm_isO (cb rfl) kk_19) (y := m_77) rfl (Nat.le_of_ble_eq_true rfl) (d_77_ok (S := S) (d := e) (by omega) q_4) ?_
        rintro v_5 h_6 ⟨rfl, rfl⟩
        refine wp_if_ne 111 78 rfl rfl i_14_75 (fun c_7 => ?_) (fun c_7 => ?_)
        · rw [if_pos c_7] at hd
          exact aWp.forget (ih.2 _ _ _ _ hd) (lvS (lvS (lvS lvE)))
        · rw [if_neg c_7] at hd
          refine wp_s 79 [some (.ref 71), some (.int x1), some (.int x2)] [.ref 71] _ i_14_78 rfl ?_
          refine hm_get (w := .ref 5) 82 rfl i_14_79 (cb rfl) kk_71 rfl ?_
          refine hm_dyn 85 rfl i_14_82 (cb rfl) kk_5 (fun _ _ => rfl) (kd_ne0 (cO_iff k_1).2 (by decide)) ?_
          refine wp_s 86 [some (.ref 71), some (.int x1), some (.int x2)] [.int x2, .ref (m.2.2.1 5)] _ i_14_85 rfl ?_
          refine wp_s 87 [some (.ref 71), some (.int x1), some (.int x2)] [.ref 71, .int x2, .ref (m.2.2.1 5)] _ i_14_86 rfl ?_
          refine hm_get (w := .ref 74) 90 rfl i_14_87 (cb rfl) kk_71 rfl ?_
          refine wp_s 91 [some (.ref 71), some (.int x1), some (.int x2)] [.int x1, .ref 74, .int x2, .ref (m.2.2.1 5)] _ i_14_90 rfl ?_
          obtain ⟨z_8, q_9, hd⟩ := dk_bind hd
          refine wp_callV 94 rfl i_14_91 (by decide) rfl (vs := [.int x2, .ref 74, .int x1]) (rest := []) rfl rfl rfl (hm_isO (cO_iff k_1).1 (cO_iff k_1).2) (y := m_58) rfl (Nat.le_of_ble_eq_true rfl) (d_58_ok (S := S) (d := e) (by omega) q_9) ?_
          rintro v_10 h_11 ⟨rfl, rfl⟩
          refine wp_if_eq 111 97 rfl rfl i_14_94 (fun c_12 => ?_) (fun c_12 => ?_)
          · rw [if_pos c_12] at hd
            exact aWp.forget (ih.2 _ _ _ _ hd) (lvS (lvS (lvS lvE)))
          · rw [if_neg c_12] at hd
            refine wp_s 98 [some (.ref 71), some (.int x1), some (.int x2)] [.ref 71] _ i_14_97 rfl ?_
            refine hm_get (w := .ref 74) 101 rfl i_14_98 (cb rfl) kk_71 rfl ?_
            refine wp_s 102 [some (.ref 71), some (.int x1), some (.int x2)] [.int x1, .ref 74] _ i_14_101 rfl ?_
            refine wp_s 103 [some (.ref 71), some (.int x1), some (.int x2)] [.int x2, .int x1, .ref 74] _ i_14_102 rfl ?_
            obtain ⟨k_13, hd⟩ := dk_if hd
            obtain ⟨mm_14, q_15, hd⟩ := dk_bind hd
            refine hm_iast 104 rfl i_14_103 (cb rfl) kk_74 k_13 ?_
            rw [Option.some.inj q_15]
            refine wp_s 105 [some (.ref 71), some (.int x1), some (.int x2)] [.ref 71] _ i_14_104 rfl ?_
            refine wp_s 106 [some (.ref 71), some (.int x1), some (.int x2)] [.int x1, .ref 71] _ i_14_105 rfl ?_
            refine wp_s 107 [some (.ref 71), some (.int x1), some (.int x2)] [.int (1 : Int32), .int x1, .ref 71] _ i_14_106 rfl ?_
            refine wp_s 108 [some (.ref 71), some (.int x1), some (.int x2)] [.int (x1 + (1 : Int32)), .ref 71] _ i_14_107 rfl ?_
            obtain ⟨z_16, q_17, hd⟩ := dk_bind hd
            refine wp_callV 111 rfl i_14_108 (by decide) rfl (vs := [.int (x1 + (1 : Int32))]) (rest := []) rfl rfl rfl (hm_isO (cb rfl) kk_71) (y := m_14) rfl (Nat.le_of_ble_eq_true rfl) (hs14 _ _ _ q_17) ?_
            rintro v_18 h_19 ⟨rfl, rfl⟩
            exact aWp.forget (ih.2 _ _ _ _ hd) (lvS (lvS (lvS lvE)))
    · intro x1 x2 m zz hd
      unfold l_14 at hd
      rw [if_neg (by decide), if_pos rfl] at hd
      refine wp_s 114 [some (.ref 71), some (.int x1), some (.int (x2 + (1 : Int32)))] [] _ i_14_111 rfl ?_
      refine wp_s 50 [some (.ref 71), some (.int x1), some (.int (x2 + (1 : Int32)))] [] _ i_14_114 rfl ?_
      exact aWp.forget (ih.1 _ _ _ _ hd) (lvS (lvS (lvS lvE)))
set_option maxHeartbeats 4000000 in
set_option maxRecDepth 100000 in
theorem t_14_ok {X : aX} {S : rS} {g : Nat} {sf14 : Int32 → cM → Option cM} {x1 : Int32} {m : cM} {zz : cM} {e : Nat} (hdp : 1 ≤ e) (hs14 : ∀ (x1 : Int32) (m zz : cM), sf14 x1 m = some zz → aWp X e 14 0 (aEntL [.ref 71, .int x1] 3) [] (hr m S) (fun w h' => w = none ∧ h' = hr zz S)) (hd : t_14 sf14 g x1 m = some zz) : aWp X (e + 1) 14 0 (aEntL [.ref 71, .int x1] 3) [] (hr m S) (fun w h' => w = none ∧ h' = hr zz S) := by
  unfold t_14 at hd
  refine wp_lv (l2 := [some (.ref 71), some (.int x1), none]) rfl ?_
  refine wp_s 1 [some (.ref 71), some (.int x1), none] [.ref 71] _ i_14_0 rfl ?_
  refine hm_get (w := .ref 72) 4 rfl i_14_1 (cb rfl) kk_71 rfl ?_
  refine wp_s 5 [some (.ref 71), some (.int x1), none] [.ref 71, .ref 72] _ i_14_4 rfl ?_
  refine hm_get (w := .ref 32) 8 rfl i_14_5 (cb rfl) kk_71 rfl ?_
  refine wp_s 9 [some (.ref 71), some (.int x1), none] [.ref 71, .ref 32, .ref 72] _ i_14_8 rfl ?_
  refine hm_get (w := .int (m.1 71 12)) 12 rfl i_14_9 (cb rfl) kk_71 rfl ?_
  refine wp_s 13 [some (.ref 71), some (.int x1), none] [.ref 71, .int (m.1 71 12), .ref 32, .ref 72] _ i_14_12 rfl ?_
  refine hm_get (w := .int (m.1 71 11)) 16 rfl i_14_13 (cb rfl) kk_71 rfl ?_
  refine wp_s 17 [some (.ref 71), some (.int x1), none] [.ref 71, .int (m.1 71 11), .int (m.1 71 12), .ref 32, .ref 72] _ i_14_16 rfl ?_
  refine hm_get (w := .ref 74) 20 rfl i_14_17 (cb rfl) kk_71 rfl ?_
  refine wp_s 21 [some (.ref 71), some (.int x1), none] [.int x1, .ref 74, .int (m.1 71 11), .int (m.1 71 12), .ref 32, .ref 72] _ i_14_20 rfl ?_
  refine wp_s 22 [some (.ref 71), some (.int x1), none] [.ref 71, .int x1, .ref 74, .int (m.1 71 11), .int (m.1 71 12), .ref 32, .ref 72] _ i_14_21 rfl ?_
  refine hm_get (w := .ref 5) 25 rfl i_14_22 (cb rfl) kk_71 rfl ?_
  obtain ⟨k_1001, hd⟩ := dk_if hd
  refine hm_dyn 28 rfl i_14_25 (cb rfl) kk_5 (fun _ _ => rfl) (kd_ne0 (cO_iff k_1001).2 (by decide)) ?_
  refine hm_get (w := .int (m.1 (m.2.2.1 5) 2)) 31 rfl i_14_28 (cO_iff k_1001).1 (cO_iff k_1001).2 rfl ?_
  obtain ⟨z_1002, q_1003, hd⟩ := dk_bind hd
  refine wp_callV 34 rfl i_14_31 (by decide) rfl (vs := [.int (m.1 71 12), .int (m.1 71 11), .ref 74, .int x1, .int (m.1 (m.2.2.1 5) 2)]) (rest := [.ref 72]) rfl rfl rfl (hm_isO (cb rfl) kk_32) (y := m_94) rfl (Nat.le_of_ble_eq_true rfl) (d_94_ok (S := S) (d := e) (by omega) q_1003) ?_
  rintro v_1004 h_1005 ⟨rfl, rfl⟩
  refine wp_s 35 [some (.ref 71), some (.int x1), none] [.ref 71, .int z_1002.1, .ref 72] _ i_14_34 rfl ?_
  refine hm_get (w := .ref 74) 38 rfl i_14_35 (cb rfl) kk_71 rfl ?_
  refine wp_s 39 [some (.ref 71), some (.int x1), none] [.int x1, .ref 74, .int z_1002.1, .ref 72] _ i_14_38 rfl ?_
  obtain ⟨z_1006, q_1007, hd⟩ := dk_bind hd
  refine wp_callV 42 rfl i_14_39 (by decide) rfl (vs := [.int z_1002.1, .ref 74, .int x1]) (rest := []) rfl rfl rfl (hm_isO (cb rfl) kk_72) (y := m_2) rfl (Nat.le_of_ble_eq_true rfl) (d_2_ok (S := S) (d := e) (by omega) q_1007) ?_
  rintro v_1008 h_1009 ⟨rfl, rfl⟩
  refine wp_s 43 [some (.ref 71), some (.int x1), none] [.int x1] _ i_14_42 rfl ?_
  refine wp_s 44 [some (.ref 71), some (.int x1), none] [.int (5 : Int32), .int x1] _ i_14_43 rfl ?_
  refine wp_cmp_lt 48 47 rfl rfl i_14_44 (fun c_1010 => ?_) (fun c_1010 => ?_)
  · rw [if_pos c_1010] at hd
    refine wp_s 49 [some (.ref 71), some (.int x1), none] [.int (0 : Int32)] _ i_14_48 rfl ?_
    refine wp_s 50 [some (.ref 71), some (.int x1), some (.int (0 : Int32))] [] _ i_14_49 rfl ?_
    exact aWp.forget ((l_14_ok hdp hs14 g).1 _ _ _ _ hd) (lvS (lvS (lvS lvE)))
  · rw [if_neg c_1010] at hd
    obtain rfl := Option.some.inj hd
    exact wp_ret i_14_47 rfl ⟨rfl, rfl⟩
theorem R_14_ok {X : aX} {S : rS} {g : Nat} : ∀ n, (∀ (x1 : Int32) (m zz : cM), R_14 g n 0 x1 m = some zz → aWp X (1 + n) 14 0 (aEntL [.ref 71, .int x1] 3) [] (hr m S) (fun w h' => w = none ∧ h' = hr zz S)) := by
  intro n
  induction n with
  | zero => exact fun _ _ _ hd => by simp [R_14] at hd
  | succ n ih =>
    intro x1 m zz hd
    unfold R_14 at hd
    rw [if_pos rfl] at hd
    exact t_14_ok (e := 1 + n) (by omega) ih hd
theorem d_14_ok {X : aX} {S : rS} {g : Nat} {x1 : Int32} {m zz : cM} {d : Nat} (hdp : 9 ≤ d) (hd : d_14 g x1 m = some zz) : aWp X d 14 0 (aEntL [.ref 71, .int x1] 3) [] (hr m S) (fun w h' => w = none ∧ h' = hr zz S) := ((R_14_ok 8) _ _ _ hd).deep hdp
set_option maxHeartbeats 4000000 in
set_option maxRecDepth 100000 in
theorem d_13_ok {X : aX} {S : rS} {g : Nat}  {m : cM} {zz : cM} {d : Nat} (hdp : 10 ≤ d) (hd : d_13 g  m = some zz) : aWp X d 13 0 (aEntL [.ref 71] 1) [] (hr m S) (fun w h' => w = none ∧ h' = hr zz S) := by
  unfold d_13 at hd
  refine wp_lv (l2 := [some (.ref 71)]) rfl ?_
  obtain ⟨e, rfl⟩ : ∃ e, d = e + 1 := ⟨d - 1, by omega⟩
  refine wp_s 1 [some (.ref 71)] [.ref 71] _ i_13_0 rfl ?_
  refine hm_get (w := .ref 72) 4 rfl i_13_1 (cb rfl) kk_71 rfl ?_
  obtain ⟨z_1, q_2, hd⟩ := dk_bind hd
  refine wp_callV 7 rfl i_13_4 (by decide) rfl (vs := []) (rest := []) rfl rfl rfl (hm_isO (cb rfl) kk_72) (y := m_1) rfl (Nat.le_of_ble_eq_true rfl) (d_1_ok (S := S) (d := e) (by omega) q_2) ?_
  rintro v_3 h_4 ⟨rfl, rfl⟩
  refine wp_s 8 [some (.ref 71)] [.ref 71] _ i_13_7 rfl ?_
  refine wp_s 9 [some (.ref 71)] [.ref 71, .ref 71] _ i_13_8 rfl ?_
  refine hm_get (w := .ref 5) 12 rfl i_13_9 (cb rfl) kk_71 rfl ?_
  refine hm_get (w := .ref 19) 15 rfl i_13_12 (cb rfl) kk_5 rfl ?_
  refine hm_get (w := .int (z_1.1 19 13)) 18 rfl i_13_15 (cb rfl) kk_19 rfl ?_
  obtain ⟨z_5, q_6, hd⟩ := dk_bind hd
  refine wp_callV 21 rfl i_13_18 (by decide) rfl (vs := [.int (z_1.1 19 13)]) (rest := []) rfl rfl rfl (hm_isO (cb rfl) kk_71) (y := m_12) rfl (Nat.le_of_ble_eq_true rfl) (d_12_ok (S := S) (d := e) (by omega) q_6) ?_
  rintro v_7 h_8 ⟨rfl, rfl⟩
  refine wp_s 22 [some (.ref 71)] [.ref 71] _ i_13_21 rfl ?_
  refine wp_s 23 [some (.ref 71)] [.int (0 : Int32), .ref 71] _ i_13_22 rfl ?_
  obtain ⟨z_9, q_10, hd⟩ := dk_bind hd
  refine wp_callV 26 rfl i_13_23 (by decide) rfl (vs := [.int (0 : Int32)]) (rest := []) rfl rfl rfl (hm_isO (cb rfl) kk_71) (y := m_14) rfl (Nat.le_of_ble_eq_true rfl) (d_14_ok (S := S) (d := e) (by omega) q_10) ?_
  rintro v_11 h_12 ⟨rfl, rfl⟩
  obtain rfl := Option.some.inj hd
  exact wp_ret i_13_26 rfl ⟨rfl, rfl⟩
set_option maxHeartbeats 4000000 in
set_option maxRecDepth 100000 in
theorem l_273_ok {X : aX} {S : rS} {g : Nat} {d : Nat} (hdp : 0 ≤ d) : ∀ n, (∀ (a0 : Nat) (x1 : Int32) (x2 : Int32) (x3 : Int32) (m : cM) (zz : cM), l_273 g n 0 a0 x1 x2 x3 m = some zz → aWp X d 273 5 [some (.ref a0), some (.int x1), some (.int x2), some (.int x3)] [] (hr m S) (fun w h' => w = none ∧ h' = hr zz S)) := by
  intro n
  induction n with
  | zero => exact fun _ _ _ _ _ _ hd => by simp [l_273] at hd
  | succ n ih =>
    intro a0 x1 x2 x3 m zz hd
    unfold l_273 at hd
    rw [if_pos rfl] at hd
    refine wp_s 6 [some (.ref a0), some (.int x1), some (.int x2), some (.int x3)] [.int x2] _ i_273_5 rfl ?_
    refine wp_s 7 [some (.ref a0), some (.int x1), some (.int x2), some (.int x3)] [.int x3, .int x2] _ i_273_6 rfl ?_
    refine wp_cmp_ge 20 10 rfl rfl i_273_7 (fun c_1 => ?_) (fun c_1 => ?_)
    · rw [if_pos c_1] at hd
      obtain rfl := Option.some.inj hd
      exact wp_ret i_273_20 rfl ⟨rfl, rfl⟩
    · rw [if_neg c_1] at hd
      refine wp_s 11 [some (.ref a0), some (.int x1), some (.int x2), some (.int x3)] [.ref a0] _ i_273_10 rfl ?_
      refine wp_s 12 [some (.ref a0), some (.int x1), some (.int x2), some (.int x3)] [.int x2, .ref a0] _ i_273_11 rfl ?_
      refine wp_s 13 [some (.ref a0), some (.int x1), some (.int x2), some (.int x3)] [.int x1, .int x2, .ref a0] _ i_273_12 rfl ?_
      obtain ⟨k_2, hd⟩ := dk_if hd
      obtain ⟨mm_3, q_4, hd⟩ := dk_bind hd
      refine hm_iast 14 rfl i_273_13 (cA_iff k_2).1 (cA_iff k_2).2.1 (cA_iff k_2).2.2 ?_
      rw [Option.some.inj q_4]
      refine wp_s 17 [some (.ref a0), some (.int x1), some (.int (x2 + (1 : Int32))), some (.int x3)] [] _ i_273_14 rfl ?_
      refine wp_s 5 [some (.ref a0), some (.int x1), some (.int (x2 + (1 : Int32))), some (.int x3)] [] _ i_273_17 rfl ?_
      exact aWp.forget (ih _ _ _ _ _ _ hd) (lvS (lvS (lvS (lvS lvE))))
set_option maxHeartbeats 4000000 in
set_option maxRecDepth 100000 in
theorem d_273_ok {X : aX} {S : rS} {g : Nat} {a0 : Nat} {x1 : Int32} {m : cM} {zz : cM} {d : Nat} (hdp : 0 ≤ d) (hd : d_273 g a0 x1 m = some zz) : aWp X d 273 0 (aEntL [.ref a0, .int x1] 4) [] (hr m S) (fun w h' => w = none ∧ h' = hr zz S) := by
  unfold d_273 at hd
  refine wp_lv (l2 := [some (.ref a0), some (.int x1), none, none]) rfl ?_
  refine wp_s 1 [some (.ref a0), some (.int x1), none, none] [.int (0 : Int32)] _ i_273_0 rfl ?_
  refine wp_s 2 [some (.ref a0), some (.int x1), some (.int (0 : Int32)), none] [] _ i_273_1 rfl ?_
  refine wp_s 3 [some (.ref a0), some (.int x1), some (.int (0 : Int32)), none] [.ref a0] _ i_273_2 rfl ?_
  obtain ⟨k_1001, hd⟩ := dk_if hd
  refine hm_alenI 4 rfl i_273_3 (cE_iff k_1001).1 (cE_iff k_1001).2 ?_
  refine wp_s 5 [some (.ref a0), some (.int x1), some (.int (0 : Int32)), some (.int (Int32.ofNat (kd a0).2))] [] _ i_273_4 rfl ?_
  exact aWp.forget ((l_273_ok hdp g) _ _ _ _ _ _ hd) (lvS (lvS (lvS (lvS lvE))))
set_option maxHeartbeats 4000000 in
set_option maxRecDepth 100000 in
theorem j_16_25_ok {X : aX} {S : rS} {g : Nat} {x1 : Int32} {m : cM} {zz : Int32 × cM} {d : Nat} (hdp : 1 ≤ d) (hd : j_16_25 g x1 m = some zz) : aWp X d 16 25 [some (.ref 71), some (.int x1)] [] (hr m S) (fun w h' => w = some (.int zz.1) ∧ h' = hr zz.2 S) := by
  unfold j_16_25 at hd
  obtain ⟨e, rfl⟩ : ∃ e, d = e + 1 := ⟨d - 1, by omega⟩
  refine wp_s 26 [some (.ref 71), some (.int x1)] [.int (1 : Int32)] _ i_16_25 rfl ?_
  refine wp_s 30 [some (.ref 71), some (.int x1)] [.int (1 : Int32)] _ i_16_26 rfl ?_
  obtain rfl := Option.some.inj hd
  exact wp_iretZ (z := 0) i_16_30 (by decide) ⟨rfl, rfl⟩
set_option maxHeartbeats 4000000 in
set_option maxRecDepth 100000 in
theorem d_16_ok {X : aX} {S : rS} {g : Nat} {x1 : Int32} {m : cM} {zz : Int32 × cM} {d : Nat} (hdp : 1 ≤ d) (hd : d_16 g x1 m = some zz) : aWp X d 16 0 (aEntL [.ref 71, .int x1] 2) [] (hr m S) (fun w h' => w = some (.int zz.1) ∧ h' = hr zz.2 S) := by
  unfold d_16 at hd
  refine wp_lv (l2 := [some (.ref 71), some (.int x1)]) rfl ?_
  obtain ⟨e, rfl⟩ : ∃ e, d = e + 1 := ⟨d - 1, by omega⟩
  refine wp_s 1 [some (.ref 71), some (.int x1)] [.ref 71] _ i_16_0 rfl ?_
  refine hm_get (w := .ref 74) 4 rfl i_16_1 (cb rfl) kk_71 rfl ?_
  refine wp_s 5 [some (.ref 71), some (.int x1)] [.int (0 : Int32), .ref 74] _ i_16_4 rfl ?_
  obtain ⟨z_1, q_2, hd⟩ := dk_bind hd
  refine wp_callS 8 rfl i_16_5 (by decide) (vs := [.ref 74, .int (0 : Int32)]) (rest := []) rfl rfl rfl (y := m_273) rfl (Nat.le_of_ble_eq_true rfl) (d_273_ok (S := S) (d := e) (by omega) q_2) ?_
  rintro v_3 h_4 ⟨rfl, rfl⟩
  refine wp_s 9 [some (.ref 71), some (.int x1)] [.int x1] _ i_16_8 rfl ?_
  refine wp_if_eq 25 12 rfl rfl i_16_9 (fun c_5 => ?_) (fun c_5 => ?_)
  · rw [if_pos c_5] at hd
    exact aWp.forget (j_16_25_ok hdp hd) (lvS (lvS lvE))
  · rw [if_neg c_5] at hd
    refine wp_s 13 [some (.ref 71), some (.int x1)] [.ref 71] _ i_16_12 rfl ?_
    refine hm_get (w := .ref 5) 16 rfl i_16_13 (cb rfl) kk_71 rfl ?_
    obtain ⟨k_6, hd⟩ := dk_if hd
    refine hm_dyn 19 rfl i_16_16 (cb rfl) kk_5 (fun _ _ => rfl) (kd_ne0 (cO_iff k_6).2 (by decide)) ?_
    refine hm_get (w := .int (z_1.1 (z_1.2.2.1 5) 4)) 22 rfl i_16_19 (cO_iff k_6).1 (cO_iff k_6).2 rfl ?_
    refine wp_if_le 29 25 rfl rfl i_16_22 (fun c_7 => ?_) (fun c_7 => ?_)
    · rw [if_pos c_7] at hd
      refine wp_s 30 [some (.ref 71), some (.int x1)] [.int (0 : Int32)] _ i_16_29 rfl ?_
      obtain rfl := Option.some.inj hd
      exact wp_iretZ (z := 0) i_16_30 (by decide) ⟨rfl, rfl⟩
    · rw [if_neg c_7] at hd
      exact aWp.forget (j_16_25_ok hdp hd) (lvS (lvS lvE))
set_option maxHeartbeats 4000000 in
set_option maxRecDepth 100000 in
theorem l_17_ok {X : aX} {S : rS} {g : Nat} {d : Nat} (hdp : 0 ≤ d) : ∀ n, (∀ (x1 : Int32) (x2 : Int32) (x3 : Int32) (x4 : Int32) (m : cM) (zz : Int32 × cM), l_17 g n 0 x1 x2 x3 x4 m = some zz → aWp X d 17 4 [some (.ref 71), some (.int x1), some (.int x2), none, none] [] (hr m S) (fun w h' => w = some (.int zz.1) ∧ h' = hr zz.2 S)) ∧ (∀ (x1 : Int32) (x2 : Int32) (x3 : Int32) (x4 : Int32) (m : cM) (zz : Int32 × cM), l_17 g n 1 x1 x2 x3 x4 m = some zz → aWp X d 17 34 [some (.ref 71), some (.int x1), some (.int x2), some (.int x3), some (.int x4)] [] (hr m S) (fun w h' => w = some (.int zz.1) ∧ h' = hr zz.2 S)) := by
  intro n
  induction n with
  | zero => exact ⟨fun _ _ _ _ _ _ hd => by simp [l_17] at hd, fun _ _ _ _ _ _ hd => by simp [l_17] at hd⟩
  | succ n ih =>
    refine ⟨?_, ?_⟩
    · intro x1 x2 x3 x4 m zz hd
      unfold l_17 at hd
      rw [if_pos rfl] at hd
      refine wp_s 5 [some (.ref 71), some (.int x1), some (.int x2), none, none] [.int x2] _ i_17_4 rfl ?_
      refine wp_if_lt 62 8 rfl rfl i_17_5 (fun c_1 => ?_) (fun c_1 => ?_)
      · rw [if_pos c_1] at hd
        refine wp_s 63 [some (.ref 71), some (.int x1), some (.int x2), none, none] [.int (0 : Int32)] _ i_17_62 rfl ?_
        obtain rfl := Option.some.inj hd
        exact wp_iretZ (z := 0) i_17_63 (by decide) ⟨rfl, rfl⟩
      · rw [if_neg c_1] at hd
        refine wp_s 9 [some (.ref 71), some (.int x1), some (.int x2), none, none] [.ref 71] _ i_17_8 rfl ?_
        refine hm_get (w := .ref 74) 12 rfl i_17_9 (cb rfl) kk_71 rfl ?_
        refine wp_s 13 [some (.ref 71), some (.int x1), some (.int x2), none, none] [.int x2, .ref 74] _ i_17_12 rfl ?_
        obtain ⟨k_2, hd⟩ := dk_if hd
        refine hm_iald 14 rfl i_17_13 (cb rfl) kk_74 k_2 ?_
        refine wp_s 15 [some (.ref 71), some (.int x1), some (.int x2), none, none] [.int (1 : Int32), .int (m.1 74 x2.toNatClampNeg)] _ i_17_14 rfl ?_
        refine wp_s 16 [some (.ref 71), some (.int x1), some (.int x2), none, none] [.int ((m.1 74 x2.toNatClampNeg) + (1 : Int32))] _ i_17_15 rfl ?_
        refine wp_s 17 [some (.ref 71), some (.int x1), some (.int x2), some (.int ((m.1 74 x2.toNatClampNeg) + (1 : Int32))), none] [] _ i_17_16 rfl ?_
        refine wp_s 18 [some (.ref 71), some (.int x1), some (.int x2), some (.int ((m.1 74 x2.toNatClampNeg) + (1 : Int32))), none] [.int ((m.1 74 x2.toNatClampNeg) + (1 : Int32))] _ i_17_17 rfl ?_
        refine wp_s 19 [some (.ref 71), some (.int x1), some (.int x2), some (.int ((m.1 74 x2.toNatClampNeg) + (1 : Int32))), none] [.ref 71, .int ((m.1 74 x2.toNatClampNeg) + (1 : Int32))] _ i_17_18 rfl ?_
        refine hm_get (w := .ref 5) 22 rfl i_17_19 (cb rfl) kk_71 rfl ?_
        obtain ⟨k_3, hd⟩ := dk_if hd
        refine hm_dyn 25 rfl i_17_22 (cb rfl) kk_5 (fun _ _ => rfl) (kd_ne0 (cO_iff k_3).2 (by decide)) ?_
        refine hm_get (w := .int (m.1 (m.2.2.1 5) 4)) 28 rfl i_17_25 (cO_iff k_3).1 (cO_iff k_3).2 rfl ?_
        refine wp_cmp_ge 56 31 rfl rfl i_17_28 (fun c_4 => ?_) (fun c_4 => ?_)
        · rw [if_pos c_4] at hd
          refine wp_s 59 [some (.ref 71), some (.int x1), some (.int (x2 + (-1 : Int32))), some (.int ((m.1 74 x2.toNatClampNeg) + (1 : Int32))), none] [] _ i_17_56 rfl ?_
          refine wp_s 4 [some (.ref 71), some (.int x1), some (.int (x2 + (-1 : Int32))), some (.int ((m.1 74 x2.toNatClampNeg) + (1 : Int32))), none] [] _ i_17_59 rfl ?_
          exact aWp.forget (ih.1 _ _ _ _ _ _ hd) (lvS (lvS (lvS (lvN (lvN lvE)))))
        · rw [if_neg c_4] at hd
          refine wp_s 32 [some (.ref 71), some (.int x1), some (.int x2), some (.int ((m.1 74 x2.toNatClampNeg) + (1 : Int32))), none] [.int x2] _ i_17_31 rfl ?_
          refine wp_s 34 [some (.ref 71), some (.int x1), some (.int x2), some (.int ((m.1 74 x2.toNatClampNeg) + (1 : Int32))), some (.int x2)] [] _ i_17_32 rfl ?_
          exact aWp.forget (ih.2 _ _ _ _ _ _ hd) (lvS (lvS (lvS (lvS (lvS lvE)))))
    · intro x1 x2 x3 x4 m zz hd
      unfold l_17 at hd
      rw [if_neg (by decide), if_pos rfl] at hd
      refine wp_s 36 [some (.ref 71), some (.int x1), some (.int x2), some (.int x3), some (.int x4)] [.int x4] _ i_17_34 rfl ?_
      refine wp_s 37 [some (.ref 71), some (.int x1), some (.int x2), some (.int x3), some (.int x4)] [.int x1, .int x4] _ i_17_36 rfl ?_
      refine wp_cmp_ge 54 40 rfl rfl i_17_37 (fun c_5 => ?_) (fun c_5 => ?_)
      · rw [if_pos c_5] at hd
        refine wp_s 55 [some (.ref 71), some (.int x1), some (.int x2), some (.int x3), some (.int x4)] [.int (1 : Int32)] _ i_17_54 rfl ?_
        obtain rfl := Option.some.inj hd
        exact wp_iretZ (z := 0) i_17_55 (by decide) ⟨rfl, rfl⟩
      · rw [if_neg c_5] at hd
        refine wp_s 41 [some (.ref 71), some (.int x1), some (.int x2), some (.int x3), some (.int x4)] [.ref 71] _ i_17_40 rfl ?_
        refine hm_get (w := .ref 74) 44 rfl i_17_41 (cb rfl) kk_71 rfl ?_
        refine wp_s 46 [some (.ref 71), some (.int x1), some (.int x2), some (.int x3), some (.int x4)] [.int x4, .ref 74] _ i_17_44 rfl ?_
        refine wp_s 47 [some (.ref 71), some (.int x1), some (.int x2), some (.int x3), some (.int x4)] [.int x3, .int x4, .ref 74] _ i_17_46 rfl ?_
        obtain ⟨k_6, hd⟩ := dk_if hd
        obtain ⟨mm_7, q_8, hd⟩ := dk_bind hd
        refine hm_iast 48 rfl i_17_47 (cb rfl) kk_74 k_6 ?_
        rw [Option.some.inj q_8]
        refine wp_s 51 [some (.ref 71), some (.int x1), some (.int x2), some (.int x3), some (.int (x4 + (1 : Int32)))] [] _ i_17_48 rfl ?_
        refine wp_s 34 [some (.ref 71), some (.int x1), some (.int x2), some (.int x3), some (.int (x4 + (1 : Int32)))] [] _ i_17_51 rfl ?_
        exact aWp.forget (ih.2 _ _ _ _ _ _ hd) (lvS (lvS (lvS (lvS (lvS lvE)))))
set_option maxHeartbeats 4000000 in
set_option maxRecDepth 100000 in
theorem d_17_ok {X : aX} {S : rS} {g : Nat} {x1 : Int32} {m : cM} {zz : Int32 × cM} {d : Nat} (hdp : 0 ≤ d) (hd : d_17 g x1 m = some zz) : aWp X d 17 0 (aEntL [.ref 71, .int x1] 5) [] (hr m S) (fun w h' => w = some (.int zz.1) ∧ h' = hr zz.2 S) := by
  unfold d_17 at hd
  refine wp_lv (l2 := [some (.ref 71), some (.int x1), none, none, none]) rfl ?_
  refine wp_s 1 [some (.ref 71), some (.int x1), none, none, none] [.int x1] _ i_17_0 rfl ?_
  refine wp_s 2 [some (.ref 71), some (.int x1), none, none, none] [.int (1 : Int32), .int x1] _ i_17_1 rfl ?_
  refine wp_s 3 [some (.ref 71), some (.int x1), none, none, none] [.int (x1 - (1 : Int32))] _ i_17_2 rfl ?_
  refine wp_s 4 [some (.ref 71), some (.int x1), some (.int (x1 - (1 : Int32))), none, none] [] _ i_17_3 rfl ?_
  exact aWp.forget ((l_17_ok hdp g).1 _ _ _ _ _ _ hd) (lvS (lvS (lvS (lvN (lvN lvE)))))
set_option maxHeartbeats 4000000 in
set_option maxRecDepth 100000 in
theorem l_18_ok {X : aX} {S : rS} {g : Nat} {d : Nat} (hdp : 0 ≤ d) : ∀ n, (∀ (x1 : Int32) (x2 : Int32) (x3 : Int32) (x4 : Int32) (s0 : Int32) (m : cM) (zz : Int32), l_18 g n 0 x1 x2 x3 x4 s0 m = some zz → aWp X d 18 4 [some (.ref 71), some (.int x1), some (.int x2), some (.int x3), none] [] (hr m S) (fun w h' => w = some (.int zz) ∧ h' = hr m S)) ∧ (∀ (x1 : Int32) (x2 : Int32) (x3 : Int32) (x4 : Int32) (s0 : Int32) (m : cM) (zz : Int32), l_18 g n 1 x1 x2 x3 x4 s0 m = some zz → aWp X d 18 40 [some (.ref 71), some (.int x1), some (.int x2), some (.int x3), some (.int x4)] [] (hr m S) (fun w h' => w = some (.int zz) ∧ h' = hr m S)) ∧ (∀ (x1 : Int32) (x2 : Int32) (x3 : Int32) (x4 : Int32) (s0 : Int32) (m : cM) (zz : Int32), l_18 g n 2 x1 x2 x3 x4 s0 m = some zz → aWp X d 18 41 [some (.ref 71), some (.int x1), some (.int x2), some (.int x3), some (.int x4)] [.int s0] (hr m S) (fun w h' => w = some (.int zz) ∧ h' = hr m S)) := by
  intro n
  induction n with
  | zero => exact ⟨fun _ _ _ _ _ _ _ hd => by simp [l_18] at hd, fun _ _ _ _ _ _ _ hd => by simp [l_18] at hd, fun _ _ _ _ _ _ _ hd => by simp [l_18] at hd⟩
  | succ n ih =>
    refine ⟨?_, ?_, ?_⟩
    · intro x1 x2 x3 x4 s0 m zz hd
      unfold l_18 at hd
      rw [if_pos rfl] at hd
      refine wp_s 5 [some (.ref 71), some (.int x1), some (.int x2), some (.int x3), none] [.int x3] _ i_18_4 rfl ?_
      refine wp_s 6 [some (.ref 71), some (.int x1), some (.int x2), some (.int x3), none] [.int x1, .int x3] _ i_18_5 rfl ?_
      refine wp_cmp_ge 81 9 rfl rfl i_18_6 (fun c_1 => ?_) (fun c_1 => ?_)
      · rw [if_pos c_1] at hd
        refine wp_s 82 [some (.ref 71), some (.int x1), some (.int x2), some (.int x3), none] [.ref 71] _ i_18_81 rfl ?_
        refine hm_get (w := .int (m.1 71 12)) 85 rfl i_18_82 (cb rfl) kk_71 rfl ?_
        refine wp_s 86 [some (.ref 71), some (.int x1), some (.int x2), some (.int x3), none] [.int x1, .int (m.1 71 12)] _ i_18_85 rfl ?_
        refine wp_s 87 [some (.ref 71), some (.int x1), some (.int x2), some (.int x3), none] [.int ((m.1 71 12) + x1)] _ i_18_86 rfl ?_
        refine wp_s 89 [some (.ref 71), some (.int x1), some (.int x2), some (.int x3), none] [.int (12 : Int32), .int ((m.1 71 12) + x1)] _ i_18_87 rfl ?_
        refine wp_cmp_gt 96 92 rfl rfl i_18_89 (fun c_2 => ?_) (fun c_2 => ?_)
        · rw [if_pos c_2] at hd
          refine wp_s 97 [some (.ref 71), some (.int x1), some (.int x2), some (.int x3), none] [.int (0 : Int32)] _ i_18_96 rfl ?_
          obtain rfl := Option.some.inj hd
          exact wp_iretZ (z := 0) i_18_97 (by decide) ⟨rfl, rfl⟩
        · rw [if_neg c_2] at hd
          refine wp_s 93 [some (.ref 71), some (.int x1), some (.int x2), some (.int x3), none] [.int (1 : Int32)] _ i_18_92 rfl ?_
          refine wp_s 97 [some (.ref 71), some (.int x1), some (.int x2), some (.int x3), none] [.int (1 : Int32)] _ i_18_93 rfl ?_
          obtain rfl := Option.some.inj hd
          exact wp_iretZ (z := 0) i_18_97 (by decide) ⟨rfl, rfl⟩
      · rw [if_neg c_1] at hd
        refine wp_s 10 [some (.ref 71), some (.int x1), some (.int x2), some (.int x3), none] [.ref 71] _ i_18_9 rfl ?_
        refine hm_get (w := .ref 74) 13 rfl i_18_10 (cb rfl) kk_71 rfl ?_
        refine wp_s 14 [some (.ref 71), some (.int x1), some (.int x2), some (.int x3), none] [.int x3, .ref 74] _ i_18_13 rfl ?_
        obtain ⟨k_3, hd⟩ := dk_if hd
        refine hm_iald 15 rfl i_18_14 (cb rfl) kk_74 k_3 ?_
        refine wp_s 17 [some (.ref 71), some (.int x1), some (.int x2), some (.int x3), some (.int (m.1 74 x3.toNatClampNeg))] [] _ i_18_15 rfl ?_
        refine wp_s 18 [some (.ref 71), some (.int x1), some (.int x2), some (.int x3), some (.int (m.1 74 x3.toNatClampNeg))] [.int x3] _ i_18_17 rfl ?_
        refine wp_if_le 40 21 rfl rfl i_18_18 (fun c_4 => ?_) (fun c_4 => ?_)
        · rw [if_pos c_4] at hd
          exact aWp.forget (ih.2.1 _ _ _ _ _ _ _ hd) (lvS (lvS (lvS (lvS (lvS lvE)))))
        · rw [if_neg c_4] at hd
          refine wp_s 22 [some (.ref 71), some (.int x1), some (.int x2), some (.int x3), some (.int (m.1 74 x3.toNatClampNeg))] [.ref 71] _ i_18_21 rfl ?_
          refine hm_get (w := .ref 74) 25 rfl i_18_22 (cb rfl) kk_71 rfl ?_
          refine wp_s 26 [some (.ref 71), some (.int x1), some (.int x2), some (.int x3), some (.int (m.1 74 x3.toNatClampNeg))] [.int x3, .ref 74] _ i_18_25 rfl ?_
          refine wp_s 27 [some (.ref 71), some (.int x1), some (.int x2), some (.int x3), some (.int (m.1 74 x3.toNatClampNeg))] [.int (1 : Int32), .int x3, .ref 74] _ i_18_26 rfl ?_
          refine wp_s 28 [some (.ref 71), some (.int x1), some (.int x2), some (.int x3), some (.int (m.1 74 x3.toNatClampNeg))] [.int (x3 - (1 : Int32)), .ref 74] _ i_18_27 rfl ?_
          obtain ⟨k_5, hd⟩ := dk_if hd
          refine hm_iald 29 rfl i_18_28 (cb rfl) kk_74 k_5 ?_
          refine wp_s 31 [some (.ref 71), some (.int x1), some (.int x2), some (.int x3), some (.int (m.1 74 x3.toNatClampNeg))] [.int (m.1 74 x3.toNatClampNeg), .int (m.1 74 (x3 - (1 : Int32)).toNatClampNeg)] _ i_18_29 rfl ?_
          refine wp_cmp_ne 40 34 rfl rfl i_18_31 (fun c_6 => ?_) (fun c_6 => ?_)
          · rw [if_pos c_6] at hd
            exact aWp.forget (ih.2.1 _ _ _ _ _ _ _ hd) (lvS (lvS (lvS (lvS (lvS lvE)))))
          · rw [if_neg c_6] at hd
            refine wp_s 35 [some (.ref 71), some (.int x1), some (.int x2), some (.int x3), some (.int (m.1 74 x3.toNatClampNeg))] [.int x2] _ i_18_34 rfl ?_
            refine wp_s 36 [some (.ref 71), some (.int x1), some (.int x2), some (.int x3), some (.int (m.1 74 x3.toNatClampNeg))] [.int (1 : Int32), .int x2] _ i_18_35 rfl ?_
            refine wp_s 37 [some (.ref 71), some (.int x1), some (.int x2), some (.int x3), some (.int (m.1 74 x3.toNatClampNeg))] [.int (x2 + (1 : Int32))] _ i_18_36 rfl ?_
            refine wp_s 41 [some (.ref 71), some (.int x1), some (.int x2), some (.int x3), some (.int (m.1 74 x3.toNatClampNeg))] [.int (x2 + (1 : Int32))] _ i_18_37 rfl ?_
            exact aWp.forget (ih.2.2 _ _ _ _ _ _ _ hd) (lvS (lvS (lvS (lvS (lvS lvE)))))
    · intro x1 x2 x3 x4 s0 m zz hd
      unfold l_18 at hd
      rw [if_neg (by decide), if_pos rfl] at hd
      refine wp_s 41 [some (.ref 71), some (.int x1), some (.int x2), some (.int x3), some (.int x4)] [.int (1 : Int32)] _ i_18_40 rfl ?_
      exact aWp.forget (ih.2.2 _ _ _ _ _ _ _ hd) (lvS (lvS (lvS (lvS (lvS lvE)))))
    · intro x1 x2 x3 x4 s0 m zz hd
      unfold l_18 at hd
      rw [if_neg (by decide), if_neg (by decide), if_pos rfl] at hd
      refine wp_s 42 [some (.ref 71), some (.int x1), some (.int s0), some (.int x3), some (.int x4)] [] _ i_18_41 rfl ?_
      refine wp_s 43 [some (.ref 71), some (.int x1), some (.int s0), some (.int x3), some (.int x4)] [.ref 71] _ i_18_42 rfl ?_
      refine hm_get (w := .ref 5) 46 rfl i_18_43 (cb rfl) kk_71 rfl ?_
      refine hm_get (w := .ref 19) 49 rfl i_18_46 (cb rfl) kk_5 rfl ?_
      refine hm_get (w := .ref 20) 52 rfl i_18_49 (cb rfl) kk_19 rfl ?_
      refine wp_s 54 [some (.ref 71), some (.int x1), some (.int s0), some (.int x3), some (.int x4)] [.int x4, .ref 20] _ i_18_52 rfl ?_
      obtain ⟨k_7, hd⟩ := dk_if hd
      refine hm_iald 55 rfl i_18_54 (cb rfl) kk_20 k_7 ?_
      refine wp_s 56 [some (.ref 71), some (.int x1), some (.int s0), some (.int x3), some (.int x4)] [.int s0, .int (m.1 20 x4.toNatClampNeg)] _ i_18_55 rfl ?_
      refine wp_s 57 [some (.ref 71), some (.int x1), some (.int s0), some (.int x3), some (.int x4)] [.int ((m.1 20 x4.toNatClampNeg) + s0)] _ i_18_56 rfl ?_
      refine wp_s 58 [some (.ref 71), some (.int x1), some (.int s0), some (.int x3), some (.int x4)] [.ref 71, .int ((m.1 20 x4.toNatClampNeg) + s0)] _ i_18_57 rfl ?_
      refine hm_get (w := .ref 5) 61 rfl i_18_58 (cb rfl) kk_71 rfl ?_
      refine hm_get (w := .ref 19) 64 rfl i_18_61 (cb rfl) kk_5 rfl ?_
      refine hm_get (w := .ref 21) 67 rfl i_18_64 (cb rfl) kk_19 rfl ?_
      refine wp_s 69 [some (.ref 71), some (.int x1), some (.int s0), some (.int x3), some (.int x4)] [.int x4, .ref 21, .int ((m.1 20 x4.toNatClampNeg) + s0)] _ i_18_67 rfl ?_
      obtain ⟨k_8, hd⟩ := dk_if hd
      refine hm_iald 70 rfl i_18_69 (cb rfl) kk_21 k_8 ?_
      refine wp_cmp_le 75 73 rfl rfl i_18_70 (fun c_9 => ?_) (fun c_9 => ?_)
      · rw [if_pos c_9] at hd
        refine wp_s 78 [some (.ref 71), some (.int x1), some (.int s0), some (.int (x3 + (1 : Int32))), some (.int x4)] [] _ i_18_75 rfl ?_
        refine wp_s 4 [some (.ref 71), some (.int x1), some (.int s0), some (.int (x3 + (1 : Int32))), some (.int x4)] [] _ i_18_78 rfl ?_
        exact aWp.forget (ih.1 _ _ _ _ _ _ _ hd) (lvS (lvS (lvS (lvS (lvN lvE)))))
      · rw [if_neg c_9] at hd
        refine wp_s 74 [some (.ref 71), some (.int x1), some (.int s0), some (.int x3), some (.int x4)] [.int (0 : Int32)] _ i_18_73 rfl ?_
        obtain rfl := Option.some.inj hd
        exact wp_iretZ (z := 0) i_18_74 (by decide) ⟨rfl, rfl⟩
set_option maxHeartbeats 4000000 in
set_option maxRecDepth 100000 in
theorem d_18_ok {X : aX} {S : rS} {g : Nat} {x1 : Int32} {m : cM} {zz : Int32} {d : Nat} (hdp : 0 ≤ d) (hd : d_18 g x1 m = some zz) : aWp X d 18 0 (aEntL [.ref 71, .int x1] 5) [] (hr m S) (fun w h' => w = some (.int zz) ∧ h' = hr m S) := by
  unfold d_18 at hd
  refine wp_lv (l2 := [some (.ref 71), some (.int x1), none, none, none]) rfl ?_
  refine wp_s 1 [some (.ref 71), some (.int x1), none, none, none] [.int (0 : Int32)] _ i_18_0 rfl ?_
  refine wp_s 2 [some (.ref 71), some (.int x1), some (.int (0 : Int32)), none, none] [] _ i_18_1 rfl ?_
  refine wp_s 3 [some (.ref 71), some (.int x1), some (.int (0 : Int32)), none, none] [.int (0 : Int32)] _ i_18_2 rfl ?_
  refine wp_s 4 [some (.ref 71), some (.int x1), some (.int (0 : Int32)), some (.int (0 : Int32)), none] [] _ i_18_3 rfl ?_
  exact aWp.forget ((l_18_ok hdp g).1 _ _ _ _ _ _ _ hd) (lvS (lvS (lvS (lvS (lvN lvE)))))
set_option maxHeartbeats 4000000 in
set_option maxRecDepth 100000 in
theorem l_20_ok {X : aX} {S : rS} {g : Nat} {d : Nat} (hdp : 0 ≤ d) : ∀ n, (∀ (x1 : Int32) (x2 : Int32) (x3 : Int32) (m : cM) (zz : Int32), l_20 g n 0 x1 x2 x3 m = some zz → aWp X d 20 4 [some (.ref 71), some (.int x1), some (.int x2), some (.int x3)] [] (hr m S) (fun w h' => w = some (.int zz) ∧ h' = hr m S)) := by
  intro n
  induction n with
  | zero => exact fun _ _ _ _ _ hd => by simp [l_20] at hd
  | succ n ih =>
    intro x1 x2 x3 m zz hd
    unfold l_20 at hd
    rw [if_pos rfl] at hd
    refine wp_s 5 [some (.ref 71), some (.int x1), some (.int x2), some (.int x3)] [.int x3] _ i_20_4 rfl ?_
    refine wp_s 6 [some (.ref 71), some (.int x1), some (.int x2), some (.int x3)] [.int x1, .int x3] _ i_20_5 rfl ?_
    refine wp_cmp_ge 29 9 rfl rfl i_20_6 (fun c_1 => ?_) (fun c_1 => ?_)
    · rw [if_pos c_1] at hd
      refine wp_s 30 [some (.ref 71), some (.int x1), some (.int x2), some (.int x3)] [.int x2] _ i_20_29 rfl ?_
      obtain rfl := Option.some.inj hd
      exact wp_iret i_20_30 ⟨rfl, rfl⟩
    · rw [if_neg c_1] at hd
      refine wp_s 10 [some (.ref 71), some (.int x1), some (.int x2), some (.int x3)] [.int x2] _ i_20_9 rfl ?_
      refine wp_s 11 [some (.ref 71), some (.int x1), some (.int x2), some (.int x3)] [.ref 71, .int x2] _ i_20_10 rfl ?_
      refine hm_get (w := .ref 75) 14 rfl i_20_11 (cb rfl) kk_71 rfl ?_
      refine wp_s 15 [some (.ref 71), some (.int x1), some (.int x2), some (.int x3)] [.ref 71, .ref 75, .int x2] _ i_20_14 rfl ?_
      refine hm_get (w := .ref 74) 18 rfl i_20_15 (cb rfl) kk_71 rfl ?_
      refine wp_s 19 [some (.ref 71), some (.int x1), some (.int x2), some (.int x3)] [.int x3, .ref 74, .ref 75, .int x2] _ i_20_18 rfl ?_
      obtain ⟨k_2, hd⟩ := dk_if hd
      refine hm_iald 20 rfl i_20_19 (cb rfl) kk_74 k_2 ?_
      obtain ⟨k_3, hd⟩ := dk_if hd
      refine hm_iald 21 rfl i_20_20 (cb rfl) kk_75 k_3 ?_
      refine wp_s 22 [some (.ref 71), some (.int x1), some (.int x2), some (.int x3)] [.int (x2 + (m.1 75 (m.1 74 x3.toNatClampNeg).toNatClampNeg))] _ i_20_21 rfl ?_
      refine wp_s 23 [some (.ref 71), some (.int x1), some (.int (x2 + (m.1 75 (m.1 74 x3.toNatClampNeg).toNatClampNeg))), some (.int x3)] [] _ i_20_22 rfl ?_
      refine wp_s 26 [some (.ref 71), some (.int x1), some (.int (x2 + (m.1 75 (m.1 74 x3.toNatClampNeg).toNatClampNeg))), some (.int (x3 + (1 : Int32)))] [] _ i_20_23 rfl ?_
      refine wp_s 4 [some (.ref 71), some (.int x1), some (.int (x2 + (m.1 75 (m.1 74 x3.toNatClampNeg).toNatClampNeg))), some (.int (x3 + (1 : Int32)))] [] _ i_20_26 rfl ?_
      exact aWp.forget (ih _ _ _ _ _ hd) (lvS (lvS (lvS (lvS lvE))))
set_option maxHeartbeats 4000000 in
set_option maxRecDepth 100000 in
theorem d_20_ok {X : aX} {S : rS} {g : Nat} {x1 : Int32} {m : cM} {zz : Int32} {d : Nat} (hdp : 0 ≤ d) (hd : d_20 g x1 m = some zz) : aWp X d 20 0 (aEntL [.ref 71, .int x1] 4) [] (hr m S) (fun w h' => w = some (.int zz) ∧ h' = hr m S) := by
  unfold d_20 at hd
  refine wp_lv (l2 := [some (.ref 71), some (.int x1), none, none]) rfl ?_
  refine wp_s 1 [some (.ref 71), some (.int x1), none, none] [.int (0 : Int32)] _ i_20_0 rfl ?_
  refine wp_s 2 [some (.ref 71), some (.int x1), some (.int (0 : Int32)), none] [] _ i_20_1 rfl ?_
  refine wp_s 3 [some (.ref 71), some (.int x1), some (.int (0 : Int32)), none] [.int (0 : Int32)] _ i_20_2 rfl ?_
  refine wp_s 4 [some (.ref 71), some (.int x1), some (.int (0 : Int32)), some (.int (0 : Int32))] [] _ i_20_3 rfl ?_
  exact aWp.forget ((l_20_ok hdp g) _ _ _ _ _ hd) (lvS (lvS (lvS (lvS lvE))))
set_option maxHeartbeats 4000000 in
set_option maxRecDepth 100000 in
theorem d_19_ok {X : aX} {S : rS} {g : Nat} {x1 : Int32} {x2 : Int32} {m : cM} {zz : Int32 × cM} {d : Nat} (hdp : 1 ≤ d) (hd : d_19 g x1 x2 m = some zz) : aWp X d 19 0 (aEntL [.ref 71, .int x1, .int x2] 3) [] (hr m S) (fun w h' => w = some (.int zz.1) ∧ h' = hr zz.2 S) := by
  unfold d_19 at hd
  refine wp_lv (l2 := [some (.ref 71), some (.int x1), some (.int x2)]) rfl ?_
  obtain ⟨e, rfl⟩ : ∃ e, d = e + 1 := ⟨d - 1, by omega⟩
  refine wp_s 1 [some (.ref 71), some (.int x1), some (.int x2)] [.ref 71] _ i_19_0 rfl ?_
  refine hm_get (w := .ref 32) 4 rfl i_19_1 (cb rfl) kk_71 rfl ?_
  refine wp_s 5 [some (.ref 71), some (.int x1), some (.int x2)] [.ref 71, .ref 32] _ i_19_4 rfl ?_
  refine hm_get (w := .int (m.1 71 12)) 8 rfl i_19_5 (cb rfl) kk_71 rfl ?_
  refine wp_s 9 [some (.ref 71), some (.int x1), some (.int x2)] [.int x2, .int (m.1 71 12), .ref 32] _ i_19_8 rfl ?_
  refine wp_s 10 [some (.ref 71), some (.int x1), some (.int x2)] [.int ((m.1 71 12) + x2), .ref 32] _ i_19_9 rfl ?_
  refine wp_s 11 [some (.ref 71), some (.int x1), some (.int x2)] [.ref 71, .int ((m.1 71 12) + x2), .ref 32] _ i_19_10 rfl ?_
  refine hm_get (w := .int (m.1 71 11)) 14 rfl i_19_11 (cb rfl) kk_71 rfl ?_
  refine wp_s 15 [some (.ref 71), some (.int x1), some (.int x2)] [.ref 71, .int (m.1 71 11), .int ((m.1 71 12) + x2), .ref 32] _ i_19_14 rfl ?_
  refine wp_s 16 [some (.ref 71), some (.int x1), some (.int x2)] [.int x2, .ref 71, .int (m.1 71 11), .int ((m.1 71 12) + x2), .ref 32] _ i_19_15 rfl ?_
  obtain ⟨z_1, q_2, hd⟩ := dk_bind hd
  refine wp_callV 19 rfl i_19_16 (by decide) rfl (vs := [.int x2]) (rest := [.int (m.1 71 11), .int ((m.1 71 12) + x2), .ref 32]) rfl rfl rfl (hm_isO (cb rfl) kk_71) (y := m_20) rfl (Nat.le_of_ble_eq_true rfl) (d_20_ok (S := S) (d := e) (by omega) q_2) ?_
  rintro v_3 h_4 ⟨rfl, rfl⟩
  refine wp_s 20 [some (.ref 71), some (.int x1), some (.int x2)] [.int ((m.1 71 11) + z_1), .int ((m.1 71 12) + x2), .ref 32] _ i_19_19 rfl ?_
  refine wp_s 21 [some (.ref 71), some (.int x1), some (.int x2)] [.ref 71, .int ((m.1 71 11) + z_1), .int ((m.1 71 12) + x2), .ref 32] _ i_19_20 rfl ?_
  refine hm_get (w := .ref 5) 24 rfl i_19_21 (cb rfl) kk_71 rfl ?_
  refine hm_get (w := .ref 19) 27 rfl i_19_24 (cb rfl) kk_5 rfl ?_
  refine hm_get (w := .ref 26) 30 rfl i_19_27 (cb rfl) kk_19 rfl ?_
  refine wp_s 31 [some (.ref 71), some (.int x1), some (.int x2)] [.ref 71, .ref 26, .int ((m.1 71 11) + z_1), .int ((m.1 71 12) + x2), .ref 32] _ i_19_30 rfl ?_
  refine hm_get (w := .ref 5) 34 rfl i_19_31 (cb rfl) kk_71 rfl ?_
  refine hm_get (w := .ref 19) 37 rfl i_19_34 (cb rfl) kk_5 rfl ?_
  refine hm_get (w := .int (m.1 19 8)) 40 rfl i_19_37 (cb rfl) kk_19 rfl ?_
  refine wp_s 41 [some (.ref 71), some (.int x1), some (.int x2)] [.int x1, .int (m.1 19 8), .ref 26, .int ((m.1 71 11) + z_1), .int ((m.1 71 12) + x2), .ref 32] _ i_19_40 rfl ?_
  obtain ⟨z_5, q_6, hd⟩ := dk_bind hd
  refine wp_callV 44 rfl i_19_41 (by decide) rfl (vs := [.int ((m.1 71 12) + x2), .int ((m.1 71 11) + z_1), .ref 26, .int (m.1 19 8), .int x1]) (rest := []) rfl rfl rfl (hm_isO (cb rfl) kk_32) (y := m_94) rfl (Nat.le_of_ble_eq_true rfl) (d_94_ok (S := S) (d := e) (by omega) q_6) ?_
  rintro v_7 h_8 ⟨rfl, rfl⟩
  obtain rfl := Option.some.inj hd
  exact wp_iret i_19_44 ⟨rfl, rfl⟩
set_option maxHeartbeats 4000000 in
set_option maxRecDepth 100000 in
theorem l_21_ok {X : aX} {S : rS} {g : Nat} {d : Nat} (hdp : 0 ≤ d) : ∀ n, (∀ (a1 : Nat) (x2 : Int32) (x3 : Int32) (x4 : Int32) (m : cM) (zz : Int32), l_21 g n 0 a1 x2 x3 x4 m = some zz → aWp X d 21 5 [some (.ref 71), some (.ref a1), some (.int x2), some (.int x3), some (.int x4)] [] (hr m S) (fun w h' => w = some (.int zz) ∧ h' = hr m S)) := by
  intro n
  induction n with
  | zero => exact fun _ _ _ _ _ _ hd => by simp [l_21] at hd
  | succ n ih =>
    intro a1 x2 x3 x4 m zz hd
    unfold l_21 at hd
    rw [if_pos rfl] at hd
    refine wp_s 7 [some (.ref 71), some (.ref a1), some (.int x2), some (.int x3), some (.int x4)] [.int x4] _ i_21_5 rfl ?_
    refine wp_s 8 [some (.ref 71), some (.ref a1), some (.int x2), some (.int x3), some (.int x4)] [.int x2, .int x4] _ i_21_7 rfl ?_
    refine wp_cmp_ge 35 11 rfl rfl i_21_8 (fun c_1 => ?_) (fun c_1 => ?_)
    · rw [if_pos c_1] at hd
      refine wp_s 36 [some (.ref 71), some (.ref a1), some (.int x2), some (.int x3), some (.int x4)] [.int x3] _ i_21_35 rfl ?_
      obtain rfl := Option.some.inj hd
      exact wp_iret i_21_36 ⟨rfl, rfl⟩
    · rw [if_neg c_1] at hd
      refine wp_s 12 [some (.ref 71), some (.ref a1), some (.int x2), some (.int x3), some (.int x4)] [.int x3] _ i_21_11 rfl ?_
      refine wp_s 13 [some (.ref 71), some (.ref a1), some (.int x2), some (.int x3), some (.int x4)] [.ref 71, .int x3] _ i_21_12 rfl ?_
      refine hm_get (w := .ref 5) 16 rfl i_21_13 (cb rfl) kk_71 rfl ?_
      obtain ⟨k_2, hd⟩ := dk_if hd
      refine hm_dyn 19 rfl i_21_16 (cb rfl) kk_5 (fun _ _ => rfl) (kd_ne0 (cO_iff k_2).2 (by decide)) ?_
      refine hm_get (w := .ref ((m.2.2.1 5) + 2)) 22 rfl i_21_19 (cO_iff k_2).1 (cO_iff k_2).2 rfl ?_
      refine wp_s 23 [some (.ref 71), some (.ref a1), some (.int x2), some (.int x3), some (.int x4)] [.ref a1, .ref ((m.2.2.1 5) + 2), .int x3] _ i_21_22 rfl ?_
      refine wp_s 25 [some (.ref 71), some (.ref a1), some (.int x2), some (.int x3), some (.int x4)] [.int x4, .ref a1, .ref ((m.2.2.1 5) + 2), .int x3] _ i_21_23 rfl ?_
      obtain ⟨k_3, hd⟩ := dk_if hd
      refine hm_iald 26 rfl i_21_25 (cA_iff k_3).1 (cA_iff k_3).2.1 (cA_iff k_3).2.2 ?_
      obtain ⟨k_4, hd⟩ := dk_if hd
      refine hm_iald 27 rfl i_21_26 (kb_5_2 (cO_iff k_2).1 (cO_iff k_2).2) (kr_5_2 (cO_iff k_2).2) k_4 ?_
      refine wp_s 28 [some (.ref 71), some (.ref a1), some (.int x2), some (.int x3), some (.int x4)] [.int (x3 + (m.1 ((m.2.2.1 5) + 2) (m.1 a1 x4.toNatClampNeg).toNatClampNeg))] _ i_21_27 rfl ?_
      refine wp_s 29 [some (.ref 71), some (.ref a1), some (.int x2), some (.int (x3 + (m.1 ((m.2.2.1 5) + 2) (m.1 a1 x4.toNatClampNeg).toNatClampNeg))), some (.int x4)] [] _ i_21_28 rfl ?_
      refine wp_s 32 [some (.ref 71), some (.ref a1), some (.int x2), some (.int (x3 + (m.1 ((m.2.2.1 5) + 2) (m.1 a1 x4.toNatClampNeg).toNatClampNeg))), some (.int (x4 + (1 : Int32)))] [] _ i_21_29 rfl ?_
      refine wp_s 5 [some (.ref 71), some (.ref a1), some (.int x2), some (.int (x3 + (m.1 ((m.2.2.1 5) + 2) (m.1 a1 x4.toNatClampNeg).toNatClampNeg))), some (.int (x4 + (1 : Int32)))] [] _ i_21_32 rfl ?_
      exact aWp.forget (ih _ _ _ _ _ _ hd) (lvS (lvS (lvS (lvS (lvS lvE)))))
set_option maxHeartbeats 4000000 in
set_option maxRecDepth 100000 in
theorem d_21_ok {X : aX} {S : rS} {g : Nat} {a1 : Nat} {x2 : Int32} {m : cM} {zz : Int32} {d : Nat} (hdp : 0 ≤ d) (hd : d_21 g a1 x2 m = some zz) : aWp X d 21 0 (aEntL [.ref 71, .ref a1, .int x2] 5) [] (hr m S) (fun w h' => w = some (.int zz) ∧ h' = hr m S) := by
  unfold d_21 at hd
  refine wp_lv (l2 := [some (.ref 71), some (.ref a1), some (.int x2), none, none]) rfl ?_
  refine wp_s 1 [some (.ref 71), some (.ref a1), some (.int x2), none, none] [.int (0 : Int32)] _ i_21_0 rfl ?_
  refine wp_s 2 [some (.ref 71), some (.ref a1), some (.int x2), some (.int (0 : Int32)), none] [] _ i_21_1 rfl ?_
  refine wp_s 3 [some (.ref 71), some (.ref a1), some (.int x2), some (.int (0 : Int32)), none] [.int (0 : Int32)] _ i_21_2 rfl ?_
  refine wp_s 5 [some (.ref 71), some (.ref a1), some (.int x2), some (.int (0 : Int32)), some (.int (0 : Int32))] [] _ i_21_3 rfl ?_
  exact aWp.forget ((l_21_ok hdp g) _ _ _ _ _ _ hd) (lvS (lvS (lvS (lvS (lvS lvE)))))
set_option maxHeartbeats 4000000 in
set_option maxRecDepth 100000 in
theorem l_15_ok {X : aX} {S : rS} {g : Nat} {d : Nat} (hdp : 2 ≤ d) : ∀ n, (∀ (x1 : Int32) (x2 : Int32) (x3 : Int32) (x4 : Int32) (m : cM) (zz : cM), l_15 g n 0 x1 x2 x3 x4 m = some zz → aWp X d 15 9 [some (.ref 71), some (.int x1), some (.int x2), none, none] [] (hr m S) (fun w h' => w = none ∧ h' = hr zz S)) ∧ (∀ (x1 : Int32) (x2 : Int32) (x3 : Int32) (x4 : Int32) (m : cM) (zz : cM), l_15 g n 1 x1 x2 x3 x4 m = some zz → aWp X d 15 23 [some (.ref 71), some (.int x1), some (.int x2), some (.int x3), some (.int x4)] [] (hr m S) (fun w h' => w = none ∧ h' = hr zz S)) ∧ (∀ (x1 : Int32) (x2 : Int32) (x3 : Int32) (x4 : Int32) (m : cM) (zz : cM), l_15 g n 2 x1 x2 x3 x4 m = some zz → aWp X d 15 70 [some (.ref 71), some (.int x1), some (.int x2), some (.int x3), some (.int x4)] [] (hr m S) (fun w h' => w = none ∧ h' = hr zz S)) ∧ (∀ (x1 : Int32) (x2 : Int32) (x3 : Int32) (x4 : Int32) (m : cM) (zz : cM), l_15 g n 3 x1 x2 x3 x4 m = some zz → aWp X d 15 82 [some (.ref 71), some (.int x1), some (.int x2), some (.int x3), some (.int x4)] [] (hr m S) (fun w h' => w = none ∧ h' = hr zz S)) := by
  intro n
  induction n with
  | zero => exact ⟨fun _ _ _ _ _ _ hd => by simp [l_15] at hd, fun _ _ _ _ _ _ hd => by simp [l_15] at hd, fun _ _ _ _ _ _ hd => by simp [l_15] at hd, fun _ _ _ _ _ _ hd => by simp [l_15] at hd⟩
  | succ n ih =>
    refine ⟨?_, ?_, ?_, ?_⟩
    · intro x1 x2 x3 x4 m zz hd
      unfold l_15 at hd
      rw [if_pos rfl] at hd
      obtain ⟨e, rfl⟩ : ∃ e, d = e + 1 := ⟨d - 1, by omega⟩
      refine wp_s 10 [some (.ref 71), some (.int x1), some (.int x2), none, none] [.int x2] _ i_15_9 rfl ?_
      refine wp_s 11 [some (.ref 71), some (.int x1), some (.int x2), none, none] [.int (3 : Int32), .int x2] _ i_15_10 rfl ?_
      refine wp_cmp_gt 88 14 rfl rfl i_15_11 (fun c_1 => ?_) (fun c_1 => ?_)
      · rw [if_pos c_1] at hd
        obtain rfl := Option.some.inj hd
        exact wp_ret i_15_88 rfl ⟨rfl, rfl⟩
      · rw [if_neg c_1] at hd
        refine wp_s 15 [some (.ref 71), some (.int x1), some (.int x2), none, none] [.ref 71] _ i_15_14 rfl ?_
        refine wp_s 16 [some (.ref 71), some (.int x1), some (.int x2), none, none] [.int x2, .ref 71] _ i_15_15 rfl ?_
        obtain ⟨z_2, q_3, hd⟩ := dk_bind hd
        refine wp_callV 19 rfl i_15_16 (by decide) rfl (vs := [.int x2]) (rest := []) rfl rfl rfl (hm_isO (cb rfl) kk_71) (y := m_16) rfl (Nat.le_of_ble_eq_true rfl) (d_16_ok (S := S) (d := e) (by omega) q_3) ?_
        rintro v_4 h_5 ⟨rfl, rfl⟩
        refine wp_s 20 [some (.ref 71), some (.int x1), some (.int x2), some (.int z_2.1), none] [] _ i_15_19 rfl ?_
        refine wp_s 21 [some (.ref 71), some (.int x1), some (.int x2), some (.int z_2.1), none] [.int (0 : Int32)] _ i_15_20 rfl ?_
        refine wp_s 23 [some (.ref 71), some (.int x1), some (.int x2), some (.int z_2.1), some (.int (0 : Int32))] [] _ i_15_21 rfl ?_
        exact aWp.forget (ih.2.1 _ _ _ _ _ _ hd) (lvS (lvS (lvS (lvS (lvS lvE)))))
    · intro x1 x2 x3 x4 m zz hd
      unfold l_15 at hd
      rw [if_neg (by decide), if_pos rfl] at hd
      obtain ⟨e, rfl⟩ : ∃ e, d = e + 1 := ⟨d - 1, by omega⟩
      refine wp_s 24 [some (.ref 71), some (.int x1), some (.int x2), some (.int x3), some (.int x4)] [.int x3] _ i_15_23 rfl ?_
      refine wp_if_eq 82 27 rfl rfl i_15_24 (fun c_6 => ?_) (fun c_6 => ?_)
      · rw [if_pos c_6] at hd
        exact aWp.forget (ih.2.2.2 _ _ _ _ _ _ hd) (lvS (lvS (lvS (lvS (lvS lvE)))))
      · rw [if_neg c_6] at hd
        refine wp_s 29 [some (.ref 71), some (.int x1), some (.int x2), some (.int x3), some (.int x4)] [.int x4] _ i_15_27 rfl ?_
        refine wp_s 31 [some (.ref 71), some (.int x1), some (.int x2), some (.int x3), some (.int x4)] [.int (1000000 : Int32), .int x4] _ i_15_29 rfl ?_
        refine wp_cmp_ge 82 34 rfl rfl i_15_31 (fun c_7 => ?_) (fun c_7 => ?_)
        · rw [if_pos c_7] at hd
          exact aWp.forget (ih.2.2.2 _ _ _ _ _ _ hd) (lvS (lvS (lvS (lvS (lvS lvE)))))
        · rw [if_neg c_7] at hd
          refine wp_s 35 [some (.ref 71), some (.int x1), some (.int x2), some (.int x3), some (.int x4)] [.ref 71] _ i_15_34 rfl ?_
          refine wp_s 36 [some (.ref 71), some (.int x1), some (.int x2), some (.int x3), some (.int x4)] [.int x2, .ref 71] _ i_15_35 rfl ?_
          obtain ⟨z_8, q_9, hd⟩ := dk_bind hd
          refine wp_callV 39 rfl i_15_36 (by decide) rfl (vs := [.int x2]) (rest := []) rfl rfl rfl (hm_isO (cb rfl) kk_71) (y := m_18) rfl (Nat.le_of_ble_eq_true rfl) (d_18_ok (S := S) (d := e) (by omega) q_9) ?_
          rintro v_10 h_11 ⟨rfl, rfl⟩
          refine wp_if_eq 70 42 rfl rfl i_15_39 (fun c_12 => ?_) (fun c_12 => ?_)
          · rw [if_pos c_12] at hd
            exact aWp.forget (ih.2.2.1 _ _ _ _ _ _ hd) (lvS (lvS (lvS (lvS (lvS lvE)))))
          · rw [if_neg c_12] at hd
            refine wp_s 43 [some (.ref 71), some (.int x1), some (.int x2), some (.int x3), some (.int x4)] [.ref 71] _ i_15_42 rfl ?_
            refine hm_get (w := .ref 72) 46 rfl i_15_43 (cb rfl) kk_71 rfl ?_
            refine wp_s 47 [some (.ref 71), some (.int x1), some (.int x2), some (.int x3), some (.int x4)] [.ref 71, .ref 72] _ i_15_46 rfl ?_
            refine wp_s 48 [some (.ref 71), some (.int x1), some (.int x2), some (.int x3), some (.int x4)] [.int x1, .ref 71, .ref 72] _ i_15_47 rfl ?_
            refine wp_s 49 [some (.ref 71), some (.int x1), some (.int x2), some (.int x3), some (.int x4)] [.int x2, .int x1, .ref 71, .ref 72] _ i_15_48 rfl ?_
            obtain ⟨z_13, q_14, hd⟩ := dk_bind hd
            refine wp_callV 52 rfl i_15_49 (by decide) rfl (vs := [.int x1, .int x2]) (rest := [.ref 72]) rfl rfl rfl (hm_isO (cb rfl) kk_71) (y := m_19) rfl (Nat.le_of_ble_eq_true rfl) (d_19_ok (S := S) (d := e) (by omega) q_14) ?_
            rintro v_15 h_16 ⟨rfl, rfl⟩
            refine wp_s 53 [some (.ref 71), some (.int x1), some (.int x2), some (.int x3), some (.int x4)] [.ref 71, .int z_13.1, .ref 72] _ i_15_52 rfl ?_
            refine wp_s 54 [some (.ref 71), some (.int x1), some (.int x2), some (.int x3), some (.int x4)] [.ref 71, .ref 71, .int z_13.1, .ref 72] _ i_15_53 rfl ?_
            refine hm_get (w := .ref 74) 57 rfl i_15_54 (cb rfl) kk_71 rfl ?_
            refine wp_s 58 [some (.ref 71), some (.int x1), some (.int x2), some (.int x3), some (.int x4)] [.int x2, .ref 74, .ref 71, .int z_13.1, .ref 72] _ i_15_57 rfl ?_
            obtain ⟨z_17, q_18, hd⟩ := dk_bind hd
            refine wp_callV 61 rfl i_15_58 (by decide) rfl (vs := [.ref 74, .int x2]) (rest := [.int z_13.1, .ref 72]) rfl rfl rfl (hm_isO (cb rfl) kk_71) (y := m_21) rfl (Nat.le_of_ble_eq_true rfl) (d_21_ok (S := S) (d := e) (by omega) q_18) ?_
            rintro v_19 h_20 ⟨rfl, rfl⟩
            refine wp_s 62 [some (.ref 71), some (.int x1), some (.int x2), some (.int x3), some (.int x4)] [.int (z_13.1 - z_17), .ref 72] _ i_15_61 rfl ?_
            refine wp_s 63 [some (.ref 71), some (.int x1), some (.int x2), some (.int x3), some (.int x4)] [.ref 71, .int (z_13.1 - z_17), .ref 72] _ i_15_62 rfl ?_
            refine hm_get (w := .ref 74) 66 rfl i_15_63 (cb rfl) kk_71 rfl ?_
            refine wp_s 67 [some (.ref 71), some (.int x1), some (.int x2), some (.int x3), some (.int x4)] [.int x2, .ref 74, .int (z_13.1 - z_17), .ref 72] _ i_15_66 rfl ?_
            obtain ⟨z_21, q_22, hd⟩ := dk_bind hd
            refine wp_callV 70 rfl i_15_67 (by decide) rfl (vs := [.int (z_13.1 - z_17), .ref 74, .int x2]) (rest := []) rfl rfl rfl (hm_isO (cb rfl) kk_72) (y := m_2) rfl (Nat.le_of_ble_eq_true rfl) (d_2_ok (S := S) (d := e) (by omega) q_22) ?_
            rintro v_23 h_24 ⟨rfl, rfl⟩
            exact aWp.forget (ih.2.2.1 _ _ _ _ _ _ hd) (lvS (lvS (lvS (lvS (lvS lvE)))))
    · intro x1 x2 x3 x4 m zz hd
      unfold l_15 at hd
      rw [if_neg (by decide), if_neg (by decide), if_pos rfl] at hd
      obtain ⟨e, rfl⟩ : ∃ e, d = e + 1 := ⟨d - 1, by omega⟩
      refine wp_s 71 [some (.ref 71), some (.int x1), some (.int x2), some (.int x3), some (.int x4)] [.ref 71] _ i_15_70 rfl ?_
      refine wp_s 72 [some (.ref 71), some (.int x1), some (.int x2), some (.int x3), some (.int x4)] [.int x2, .ref 71] _ i_15_71 rfl ?_
      obtain ⟨z_25, q_26, hd⟩ := dk_bind hd
      refine wp_callV 75 rfl i_15_72 (by decide) rfl (vs := [.int x2]) (rest := []) rfl rfl rfl (hm_isO (cb rfl) kk_71) (y := m_17) rfl (Nat.le_of_ble_eq_true rfl) (d_17_ok (S := S) (d := e) (by omega) q_26) ?_
      rintro v_27 h_28 ⟨rfl, rfl⟩
      refine wp_s 76 [some (.ref 71), some (.int x1), some (.int x2), some (.int z_25.1), some (.int x4)] [] _ i_15_75 rfl ?_
      refine wp_s 79 [some (.ref 71), some (.int x1), some (.int x2), some (.int z_25.1), some (.int (x4 + (1 : Int32)))] [] _ i_15_76 rfl ?_
      refine wp_s 23 [some (.ref 71), some (.int x1), some (.int x2), some (.int z_25.1), some (.int (x4 + (1 : Int32)))] [] _ i_15_79 rfl ?_
      exact aWp.forget (ih.2.1 _ _ _ _ _ _ hd) (lvS (lvS (lvS (lvS (lvS lvE)))))
    · intro x1 x2 x3 x4 m zz hd
      unfold l_15 at hd
      rw [if_neg (by decide), if_neg (by decide), if_neg (by decide), if_pos rfl] at hd
      obtain ⟨e, rfl⟩ : ∃ e, d = e + 1 := ⟨d - 1, by omega⟩
      refine wp_s 85 [some (.ref 71), some (.int x1), some (.int (x2 + (1 : Int32))), some (.int x3), some (.int x4)] [] _ i_15_82 rfl ?_
      refine wp_s 9 [some (.ref 71), some (.int x1), some (.int (x2 + (1 : Int32))), some (.int x3), some (.int x4)] [] _ i_15_85 rfl ?_
      exact aWp.forget (ih.1 _ _ _ _ _ _ hd) (lvS (lvS (lvS (lvN (lvN lvE)))))
set_option maxHeartbeats 4000000 in
set_option maxRecDepth 100000 in
theorem d_15_ok {X : aX} {S : rS} {g : Nat} {x1 : Int32} {m : cM} {zz : cM} {d : Nat} (hdp : 2 ≤ d) (hd : d_15 g x1 m = some zz) : aWp X d 15 0 (aEntL [.ref 71, .int x1] 5) [] (hr m S) (fun w h' => w = none ∧ h' = hr zz S) := by
  unfold d_15 at hd
  refine wp_lv (l2 := [some (.ref 71), some (.int x1), none, none, none]) rfl ?_
  obtain ⟨e, rfl⟩ : ∃ e, d = e + 1 := ⟨d - 1, by omega⟩
  refine wp_s 1 [some (.ref 71), some (.int x1), none, none, none] [.ref 71] _ i_15_0 rfl ?_
  refine hm_get (w := .ref 72) 4 rfl i_15_1 (cb rfl) kk_71 rfl ?_
  obtain ⟨z_1001, q_1002, hd⟩ := dk_bind hd
  refine wp_callV 7 rfl i_15_4 (by decide) rfl (vs := []) (rest := []) rfl rfl rfl (hm_isO (cb rfl) kk_72) (y := m_1) rfl (Nat.le_of_ble_eq_true rfl) (d_1_ok (S := S) (d := e) (by omega) q_1002) ?_
  rintro v_1003 h_1004 ⟨rfl, rfl⟩
  refine wp_s 8 [some (.ref 71), some (.int x1), none, none, none] [.int (0 : Int32)] _ i_15_7 rfl ?_
  refine wp_s 9 [some (.ref 71), some (.int x1), some (.int (0 : Int32)), none, none] [] _ i_15_8 rfl ?_
  exact aWp.forget ((l_15_ok hdp g).1 _ _ _ _ _ _ hd) (lvS (lvS (lvS (lvN (lvN lvE)))))
set_option maxHeartbeats 4000000 in
set_option maxRecDepth 100000 in
theorem l_22_ok {X : aX} {S : rS} {g : Nat} {d : Nat} (hdp : 6 ≤ d) : ∀ n, (∀ (x1 : Int32) (x2 : Int32) (x3 : Int32) (m : cM) (zz : cM), l_22 g n 0 x1 x2 x3 m = some zz → aWp X d 22 21 [some (.ref 71), some (.int x1), none, none] [] (hr m S) (fun w h' => w = none ∧ h' = hr zz S)) ∧ (∀ (x1 : Int32) (x2 : Int32) (x3 : Int32) (m : cM) (zz : cM), l_22 g n 1 x1 x2 x3 m = some zz → aWp X d 22 81 [some (.ref 71), some (.int x1), some (.int x2), some (.int x3)] [] (hr m S) (fun w h' => w = none ∧ h' = hr zz S)) ∧ (∀ (x1 : Int32) (x2 : Int32) (x3 : Int32) (m : cM) (zz : cM), l_22 g n 2 x1 x2 x3 m = some zz → aWp X d 22 91 [some (.ref 71), some (.int x1), some (.int x2), some (.int x3)] [] (hr m S) (fun w h' => w = none ∧ h' = hr zz S)) := by
  intro n
  induction n with
  | zero => exact ⟨fun _ _ _ _ _ hd => by simp [l_22] at hd, fun _ _ _ _ _ hd => by simp [l_22] at hd, fun _ _ _ _ _ hd => by simp [l_22] at hd⟩
  | succ n ih =>
    refine ⟨?_, ?_, ?_⟩
    · intro x1 x2 x3 m zz hd
      unfold l_22 at hd
      rw [if_pos rfl] at hd
      obtain ⟨e, rfl⟩ : ∃ e, d = e + 1 := ⟨d - 1, by omega⟩
      refine wp_s 22 [some (.ref 71), some (.int x1), none, none] [.int x1] _ i_22_21 rfl ?_
      refine wp_s 25 [some (.ref 71), some (.int x1), none, none] [.int (9500 : Int32), .int x1] _ i_22_22 rfl ?_
      refine wp_cmp_gt 100 28 rfl rfl i_22_25 (fun c_1 => ?_) (fun c_1 => ?_)
      · rw [if_pos c_1] at hd
        obtain rfl := Option.some.inj hd
        exact wp_ret i_22_100 rfl ⟨rfl, rfl⟩
      · rw [if_neg c_1] at hd
        refine wp_s 29 [some (.ref 71), some (.int x1), none, none] [.ref 71] _ i_22_28 rfl ?_
        refine wp_s 30 [some (.ref 71), some (.int x1), none, none] [.int x1, .ref 71] _ i_22_29 rfl ?_
        obtain ⟨z_2, q_3, hd⟩ := dk_bind hd
        refine wp_callV 33 rfl i_22_30 (by decide) rfl (vs := [.int x1]) (rest := []) rfl rfl rfl (hm_isO (cb rfl) kk_71) (y := m_15) rfl (Nat.le_of_ble_eq_true rfl) (d_15_ok (S := S) (d := e) (by omega) q_3) ?_
        rintro v_4 h_5 ⟨rfl, rfl⟩
        refine wp_s 34 [some (.ref 71), some (.int x1), none, none] [.ref 71] _ i_22_33 rfl ?_
        refine wp_s 35 [some (.ref 71), some (.int x1), none, none] [.ref 71, .ref 71] _ i_22_34 rfl ?_
        refine hm_get (w := .ref 72) 38 rfl i_22_35 (cb rfl) kk_71 rfl ?_
        refine hm_get (w := .ref 73) 41 rfl i_22_38 (cb rfl) kk_72 rfl ?_
        refine wp_s 42 [some (.ref 71), some (.int x1), none, none] [.ref 71, .ref 73, .ref 71] _ i_22_41 rfl ?_
        refine hm_get (w := .ref 72) 45 rfl i_22_42 (cb rfl) kk_71 rfl ?_
        refine hm_get (w := .int (z_2.1 72 2)) 48 rfl i_22_45 (cb rfl) kk_72 rfl ?_
        obtain ⟨z_6, q_7, hd⟩ := dk_bind hd
        refine wp_callV 51 rfl i_22_48 (by decide) rfl (vs := [.ref 73, .int (z_2.1 72 2)]) (rest := []) rfl rfl rfl (hm_isO (cb rfl) kk_71) (y := m_21) rfl (Nat.le_of_ble_eq_true rfl) (d_21_ok (S := S) (d := e) (by omega) q_7) ?_
        rintro v_8 h_9 ⟨rfl, rfl⟩
        refine wp_s 52 [some (.ref 71), some (.int x1), some (.int z_6), none] [] _ i_22_51 rfl ?_
        refine wp_s 53 [some (.ref 71), some (.int x1), some (.int z_6), none] [.ref 71] _ i_22_52 rfl ?_
        refine hm_get (w := .ref 72) 56 rfl i_22_53 (cb rfl) kk_71 rfl ?_
        refine hm_get (w := .int (z_2.1 72 1)) 59 rfl i_22_56 (cb rfl) kk_72 rfl ?_
        refine wp_s 60 [some (.ref 71), some (.int x1), some (.int z_6), none] [.int z_6, .int (z_2.1 72 1)] _ i_22_59 rfl ?_
        refine wp_s 61 [some (.ref 71), some (.int x1), some (.int z_6), none] [.int ((z_2.1 72 1) + z_6)] _ i_22_60 rfl ?_
        refine wp_s 62 [some (.ref 71), some (.int x1), some (.int z_6), none] [.int z_6, .int ((z_2.1 72 1) + z_6)] _ i_22_61 rfl ?_
        refine wp_s 63 [some (.ref 71), some (.int x1), some (.int z_6), none] [.int (2 : Int32), .int z_6, .int ((z_2.1 72 1) + z_6)] _ i_22_62 rfl ?_
        refine wp_idiv 64 rfl i_22_63 (by decide) ?_
        refine wp_s 65 [some (.ref 71), some (.int x1), some (.int z_6), none] [.int (((z_2.1 72 1) + z_6) - (z_6 / (2 : Int32)))] _ i_22_64 rfl ?_
        refine wp_s 66 [some (.ref 71), some (.int x1), some (.int z_6), some (.int (((z_2.1 72 1) + z_6) - (z_6 / (2 : Int32))))] [] _ i_22_65 rfl ?_
        refine wp_s 67 [some (.ref 71), some (.int x1), some (.int z_6), some (.int (((z_2.1 72 1) + z_6) - (z_6 / (2 : Int32))))] [.ref 71] _ i_22_66 rfl ?_
        refine hm_get (w := .int (z_2.1 71 13)) 70 rfl i_22_67 (cb rfl) kk_71 rfl ?_
        refine wp_if_lt 81 73 rfl rfl i_22_70 (fun c_10 => ?_) (fun c_10 => ?_)
        · rw [if_pos c_10] at hd
          exact aWp.forget (ih.2.1 _ _ _ _ _ hd) (lvS (lvS (lvS (lvS lvE))))
        · rw [if_neg c_10] at hd
          refine wp_s 74 [some (.ref 71), some (.int x1), some (.int z_6), some (.int (((z_2.1 72 1) + z_6) - (z_6 / (2 : Int32))))] [.int (((z_2.1 72 1) + z_6) - (z_6 / (2 : Int32)))] _ i_22_73 rfl ?_
          refine wp_s 75 [some (.ref 71), some (.int x1), some (.int z_6), some (.int (((z_2.1 72 1) + z_6) - (z_6 / (2 : Int32))))] [.ref 71, .int (((z_2.1 72 1) + z_6) - (z_6 / (2 : Int32)))] _ i_22_74 rfl ?_
          refine hm_get (w := .int (z_2.1 71 14)) 78 rfl i_22_75 (cb rfl) kk_71 rfl ?_
          refine wp_cmp_le 91 81 rfl rfl i_22_78 (fun c_11 => ?_) (fun c_11 => ?_)
          · rw [if_pos c_11] at hd
            exact aWp.forget (ih.2.2 _ _ _ _ _ hd) (lvS (lvS (lvS (lvS lvE))))
          · rw [if_neg c_11] at hd
            exact aWp.forget (ih.2.1 _ _ _ _ _ hd) (lvS (lvS (lvS (lvS lvE))))
    · intro x1 x2 x3 m zz hd
      unfold l_22 at hd
      rw [if_neg (by decide), if_pos rfl] at hd
      obtain ⟨e, rfl⟩ : ∃ e, d = e + 1 := ⟨d - 1, by omega⟩
      refine wp_s 82 [some (.ref 71), some (.int x1), some (.int x2), some (.int x3)] [.ref 71] _ i_22_81 rfl ?_
      refine wp_s 83 [some (.ref 71), some (.int x1), some (.int x2), some (.int x3)] [.int x1, .ref 71] _ i_22_82 rfl ?_
      obtain ⟨mm_12, q_13, hd⟩ := dk_bind hd
      refine hm_put 86 rfl i_22_83 (cb rfl) kk_71 (fun _ _ => rfl) (fun _ _ => Nat.le_of_ble_eq_true rfl) rfl ?_
      rw [Option.some.inj q_13]
      refine wp_s 87 [some (.ref 71), some (.int x1), some (.int x2), some (.int x3)] [.ref 71] _ i_22_86 rfl ?_
      refine wp_s 88 [some (.ref 71), some (.int x1), some (.int x2), some (.int x3)] [.int x3, .ref 71] _ i_22_87 rfl ?_
      obtain ⟨mm_14, q_15, hd⟩ := dk_bind hd
      refine hm_put 91 rfl i_22_88 (cb rfl) kk_71 (fun _ _ => rfl) (fun _ _ => Nat.le_of_ble_eq_true rfl) rfl ?_
      rw [Option.some.inj q_15]
      exact aWp.forget (ih.2.2 _ _ _ _ _ hd) (lvS (lvS (lvS (lvS lvE))))
    · intro x1 x2 x3 m zz hd
      unfold l_22 at hd
      rw [if_neg (by decide), if_neg (by decide), if_pos rfl] at hd
      obtain ⟨e, rfl⟩ : ∃ e, d = e + 1 := ⟨d - 1, by omega⟩
      refine wp_s 97 [some (.ref 71), some (.int (x1 + (500 : Int32))), some (.int x2), some (.int x3)] [] _ i_22_91 rfl ?_
      refine wp_s 21 [some (.ref 71), some (.int (x1 + (500 : Int32))), some (.int x2), some (.int x3)] [] _ i_22_97 rfl ?_
      exact aWp.forget (ih.1 _ _ _ _ _ hd) (lvS (lvS (lvN (lvN lvE))))
set_option maxHeartbeats 4000000 in
set_option maxRecDepth 100000 in
theorem d_22_ok {X : aX} {S : rS} {g : Nat}  {m : cM} {zz : cM} {d : Nat} (hdp : 6 ≤ d) (hd : d_22 g  m = some zz) : aWp X d 22 0 (aEntL [.ref 71] 4) [] (hr m S) (fun w h' => w = none ∧ h' = hr zz S) := by
  unfold d_22 at hd
  refine wp_lv (l2 := [some (.ref 71), none, none, none]) rfl ?_
  obtain ⟨e, rfl⟩ : ∃ e, d = e + 1 := ⟨d - 1, by omega⟩
  refine wp_s 1 [some (.ref 71), none, none, none] [.ref 71] _ i_22_0 rfl ?_
  refine wp_s 2 [some (.ref 71), none, none, none] [.ref 71, .ref 71] _ i_22_1 rfl ?_
  refine hm_get (w := .ref 5) 5 rfl i_22_2 (cb rfl) kk_71 rfl ?_
  refine hm_get (w := .ref 19) 8 rfl i_22_5 (cb rfl) kk_5 rfl ?_
  refine hm_get (w := .int (m.1 19 13)) 11 rfl i_22_8 (cb rfl) kk_19 rfl ?_
  obtain ⟨z_1001, q_1002, hd⟩ := dk_bind hd
  refine wp_callV 14 rfl i_22_11 (by decide) rfl (vs := [.int (m.1 19 13)]) (rest := []) rfl rfl rfl (hm_isO (cb rfl) kk_71) (y := m_12) rfl (Nat.le_of_ble_eq_true rfl) (d_12_ok (S := S) (d := e) (by omega) q_1002) ?_
  rintro v_1003 h_1004 ⟨rfl, rfl⟩
  refine wp_s 15 [some (.ref 71), none, none, none] [.ref 71] _ i_22_14 rfl ?_
  refine wp_s 16 [some (.ref 71), none, none, none] [.int (-1 : Int32), .ref 71] _ i_22_15 rfl ?_
  obtain ⟨mm_1005, q_1006, hd⟩ := dk_bind hd
  refine hm_put 19 rfl i_22_16 (cb rfl) kk_71 (fun _ _ => rfl) (fun _ _ => Nat.le_of_ble_eq_true rfl) rfl ?_
  rw [Option.some.inj q_1006]
  refine wp_s 20 [some (.ref 71), none, none, none] [.int (0 : Int32)] _ i_22_19 rfl ?_
  refine wp_s 21 [some (.ref 71), some (.int (0 : Int32)), none, none] [] _ i_22_20 rfl ?_
  exact aWp.forget ((l_22_ok hdp g).1 _ _ _ _ _ hd) (lvS (lvS (lvN (lvN lvE))))
set_option maxHeartbeats 4000000 in
set_option maxRecDepth 100000 in
theorem d_95_ok {X : aX} {S : rS} {g : Nat} {x1 : Int32} {m : cM} {zz : Int32} {d : Nat} (hdp : 0 ≤ d) (hd : d_95 g x1 m = some zz) : aWp X d 95 0 (aEntL [.ref 32, .int x1] 2) [] (hr m S) (fun w h' => w = some (.int zz) ∧ h' = hr m S) := by
  unfold d_95 at hd
  refine wp_lv (l2 := [some (.ref 32), some (.int x1)]) rfl ?_
  refine wp_s 1 [some (.ref 32), some (.int x1)] [.int x1] _ i_95_0 rfl ?_
  refine wp_if_le 33 4 rfl rfl i_95_1 (fun c_1 => ?_) (fun c_1 => ?_)
  · rw [if_pos c_1] at hd
    refine wp_s 34 [some (.ref 32), some (.int x1)] [.int x1] _ i_95_33 rfl ?_
    obtain rfl := Option.some.inj hd
    exact wp_iret i_95_34 ⟨rfl, rfl⟩
  · rw [if_neg c_1] at hd
    refine wp_s 5 [some (.ref 32), some (.int x1)] [.int x1] _ i_95_4 rfl ?_
    refine wp_s 6 [some (.ref 32), some (.int x1)] [.ref 32, .int x1] _ i_95_5 rfl ?_
    refine hm_get (w := .ref 5) 9 rfl i_95_6 (cb rfl) kk_32 rfl ?_
    obtain ⟨k_2, hd⟩ := dk_if hd
    refine hm_dyn 12 rfl i_95_9 (cb rfl) kk_5 (fun _ _ => rfl) (kd_ne0 (cO_iff k_2).2 (by decide)) ?_
    refine hm_get (w := .int (m.1 (m.2.2.1 5) 2)) 15 rfl i_95_12 (cO_iff k_2).1 (cO_iff k_2).2 rfl ?_
    refine wp_cmp_ge 33 18 rfl rfl i_95_15 (fun c_3 => ?_) (fun c_3 => ?_)
    · rw [if_pos c_3] at hd
      refine wp_s 34 [some (.ref 32), some (.int x1)] [.int x1] _ i_95_33 rfl ?_
      obtain rfl := Option.some.inj hd
      exact wp_iret i_95_34 ⟨rfl, rfl⟩
    · rw [if_neg c_3] at hd
      refine wp_s 19 [some (.ref 32), some (.int x1)] [.int x1] _ i_95_18 rfl ?_
      refine wp_s 20 [some (.ref 32), some (.int x1)] [.ref 32, .int x1] _ i_95_19 rfl ?_
      refine hm_get (w := .ref 5) 23 rfl i_95_20 (cb rfl) kk_32 rfl ?_
      refine hm_dyn 26 rfl i_95_23 (cb rfl) kk_5 (fun _ _ => rfl) (kd_ne0 (cO_iff k_2).2 (by decide)) ?_
      refine hm_get (w := .int (m.1 (m.2.2.1 5) 1)) 29 rfl i_95_26 (cO_iff k_2).1 (cO_iff k_2).2 rfl ?_
      refine wp_s 30 [some (.ref 32), some (.int x1)] [.int (x1 + (m.1 (m.2.2.1 5) 1))] _ i_95_29 rfl ?_
      refine wp_s 34 [some (.ref 32), some (.int x1)] [.int (x1 + (m.1 (m.2.2.1 5) 1))] _ i_95_30 rfl ?_
      obtain rfl := Option.some.inj hd
      exact wp_iret i_95_34 ⟨rfl, rfl⟩
set_option maxHeartbeats 4000000 in
set_option maxRecDepth 100000 in
theorem l_25_ok {X : aX} {S : rS} {g : Nat} {d : Nat} (hdp : 1 ≤ d) : ∀ n, (∀ (x1 : Int32) (x2 : Int32) (x3 : Int32) (m : cM) (zz : Int32), l_25 g n 0 x1 x2 x3 m = some zz → aWp X d 25 4 [some (.ref 71), some (.int x1), some (.int x2), some (.int x3)] [] (hr m S) (fun w h' => w = some (.int zz) ∧ h' = hr m S)) := by
  intro n
  induction n with
  | zero => exact fun _ _ _ _ _ hd => by simp [l_25] at hd
  | succ n ih =>
    intro x1 x2 x3 m zz hd
    unfold l_25 at hd
    rw [if_pos rfl] at hd
    obtain ⟨e, rfl⟩ : ∃ e, d = e + 1 := ⟨d - 1, by omega⟩
    refine wp_s 5 [some (.ref 71), some (.int x1), some (.int x2), some (.int x3)] [.int x3] _ i_25_4 rfl ?_
    refine wp_s 6 [some (.ref 71), some (.int x1), some (.int x2), some (.int x3)] [.int x1, .int x3] _ i_25_5 rfl ?_
    refine wp_cmp_ge 31 9 rfl rfl i_25_6 (fun c_1 => ?_) (fun c_1 => ?_)
    · rw [if_pos c_1] at hd
      refine wp_s 32 [some (.ref 71), some (.int x1), some (.int x2), some (.int x3)] [.int x2] _ i_25_31 rfl ?_
      obtain rfl := Option.some.inj hd
      exact wp_iret i_25_32 ⟨rfl, rfl⟩
    · rw [if_neg c_1] at hd
      refine wp_s 10 [some (.ref 71), some (.int x1), some (.int x2), some (.int x3)] [.int x2] _ i_25_9 rfl ?_
      refine wp_s 11 [some (.ref 71), some (.int x1), some (.int x2), some (.int x3)] [.ref 71, .int x2] _ i_25_10 rfl ?_
      refine hm_get (w := .ref 32) 14 rfl i_25_11 (cb rfl) kk_71 rfl ?_
      refine wp_s 15 [some (.ref 71), some (.int x1), some (.int x2), some (.int x3)] [.ref 71, .ref 32, .int x2] _ i_25_14 rfl ?_
      refine hm_get (w := .ref 76) 18 rfl i_25_15 (cb rfl) kk_71 rfl ?_
      refine wp_s 19 [some (.ref 71), some (.int x1), some (.int x2), some (.int x3)] [.int x3, .ref 76, .ref 32, .int x2] _ i_25_18 rfl ?_
      obtain ⟨k_2, hd⟩ := dk_if hd
      refine hm_iald 20 rfl i_25_19 (cb rfl) kk_76 k_2 ?_
      obtain ⟨z_3, q_4, hd⟩ := dk_bind hd
      refine wp_callV 23 rfl i_25_20 (by decide) rfl (vs := [.int (m.1 76 x3.toNatClampNeg)]) (rest := [.int x2]) rfl rfl rfl (hm_isO (cb rfl) kk_32) (y := m_95) rfl (Nat.le_of_ble_eq_true rfl) (d_95_ok (S := S) (d := e) (by omega) q_4) ?_
      rintro v_5 h_6 ⟨rfl, rfl⟩
      refine wp_s 24 [some (.ref 71), some (.int x1), some (.int x2), some (.int x3)] [.int (x2 + z_3)] _ i_25_23 rfl ?_
      refine wp_s 25 [some (.ref 71), some (.int x1), some (.int (x2 + z_3)), some (.int x3)] [] _ i_25_24 rfl ?_
      refine wp_s 28 [some (.ref 71), some (.int x1), some (.int (x2 + z_3)), some (.int (x3 + (1 : Int32)))] [] _ i_25_25 rfl ?_
      refine wp_s 4 [some (.ref 71), some (.int x1), some (.int (x2 + z_3)), some (.int (x3 + (1 : Int32)))] [] _ i_25_28 rfl ?_
      exact aWp.forget (ih _ _ _ _ _ hd) (lvS (lvS (lvS (lvS lvE))))
set_option maxHeartbeats 4000000 in
set_option maxRecDepth 100000 in
theorem d_25_ok {X : aX} {S : rS} {g : Nat} {x1 : Int32} {m : cM} {zz : Int32} {d : Nat} (hdp : 1 ≤ d) (hd : d_25 g x1 m = some zz) : aWp X d 25 0 (aEntL [.ref 71, .int x1] 4) [] (hr m S) (fun w h' => w = some (.int zz) ∧ h' = hr m S) := by
  unfold d_25 at hd
  refine wp_lv (l2 := [some (.ref 71), some (.int x1), none, none]) rfl ?_
  obtain ⟨e, rfl⟩ : ∃ e, d = e + 1 := ⟨d - 1, by omega⟩
  refine wp_s 1 [some (.ref 71), some (.int x1), none, none] [.int (0 : Int32)] _ i_25_0 rfl ?_
  refine wp_s 2 [some (.ref 71), some (.int x1), some (.int (0 : Int32)), none] [] _ i_25_1 rfl ?_
  refine wp_s 3 [some (.ref 71), some (.int x1), some (.int (0 : Int32)), none] [.int (0 : Int32)] _ i_25_2 rfl ?_
  refine wp_s 4 [some (.ref 71), some (.int x1), some (.int (0 : Int32)), some (.int (0 : Int32))] [] _ i_25_3 rfl ?_
  exact aWp.forget ((l_25_ok hdp g) _ _ _ _ _ hd) (lvS (lvS (lvS (lvS lvE))))
set_option maxHeartbeats 4000000 in
set_option maxRecDepth 100000 in
theorem l_24_ok {X : aX} {S : rS} {g : Nat} {sf24 : Int32 → Int32 → cM → Option cM} {e : Nat} (hdp : 1 ≤ e) (hs24 : ∀ (x1 : Int32) (x2 : Int32) (m zz : cM), sf24 x1 x2 m = some zz → aWp X e 24 0 (aEntL [.ref 71, .int x1, .int x2] 5) [] (hr m S) (fun w h' => w = none ∧ h' = hr zz S)) : ∀ n, (∀ (x1 : Int32) (x2 : Int32) (x3 : Int32) (x4 : Int32) (m : cM) (zz : cM), l_24 sf24 g n 0 x1 x2 x3 x4 m = some zz → aWp X (e + 1) 24 53 [some (.ref 71), some (.int x1), some (.int x2), some (.int x3), some (.int x4)] [] (hr m S) (fun w h' => w = none ∧ h' = hr zz S)) := by
  intro n
  induction n with
  | zero => exact fun _ _ _ _ _ _ hd => by simp [l_24] at hd
  | succ n ih =>
    intro x1 x2 x3 x4 m zz hd
    unfold l_24 at hd
    rw [if_pos rfl] at hd
    refine wp_s 55 [some (.ref 71), some (.int x1), some (.int x2), some (.int x3), some (.int x4)] [.int x4] _ i_24_53 rfl ?_
    refine wp_s 56 [some (.ref 71), some (.int x1), some (.int x2), some (.int x3), some (.int x4)] [.int x2, .int x4] _ i_24_55 rfl ?_
    refine wp_cmp_gt 117 59 rfl rfl i_24_56 (fun c_1 => ?_) (fun c_1 => ?_)
    · rw [if_pos c_1] at hd
      obtain rfl := Option.some.inj hd
      exact wp_ret i_24_117 rfl ⟨rfl, rfl⟩
    · rw [if_neg c_1] at hd
      refine wp_s 61 [some (.ref 71), some (.int x1), some (.int x2), some (.int x3), some (.int x4)] [.int x4] _ i_24_59 rfl ?_
      refine wp_s 63 [some (.ref 71), some (.int x1), some (.int x2), some (.int x3), some (.int x4)] [.int (6 : Int32), .int x4] _ i_24_61 rfl ?_
      refine wp_cmp_ge 117 66 rfl rfl i_24_63 (fun c_2 => ?_) (fun c_2 => ?_)
      · rw [if_pos c_2] at hd
        obtain rfl := Option.some.inj hd
        exact wp_ret i_24_117 rfl ⟨rfl, rfl⟩
      · rw [if_neg c_2] at hd
        refine wp_s 67 [some (.ref 71), some (.int x1), some (.int x2), some (.int x3), some (.int x4)] [.ref 71] _ i_24_66 rfl ?_
        refine hm_get (w := .ref 74) 70 rfl i_24_67 (cb rfl) kk_71 rfl ?_
        refine wp_s 71 [some (.ref 71), some (.int x1), some (.int x2), some (.int x3), some (.int x4)] [.int x1, .ref 74] _ i_24_70 rfl ?_
        refine wp_s 73 [some (.ref 71), some (.int x1), some (.int x2), some (.int x3), some (.int x4)] [.int x4, .int x1, .ref 74] _ i_24_71 rfl ?_
        obtain ⟨k_3, hd⟩ := dk_if hd
        obtain ⟨mm_4, q_5, hd⟩ := dk_bind hd
        refine hm_iast 74 rfl i_24_73 (cb rfl) kk_74 k_3 ?_
        rw [Option.some.inj q_5]
        refine wp_s 75 [some (.ref 71), some (.int x1), some (.int x2), some (.int x3), some (.int x4)] [.ref 71] _ i_24_74 rfl ?_
        refine hm_get (w := .ref 76) 78 rfl i_24_75 (cb rfl) kk_71 rfl ?_
        refine wp_s 80 [some (.ref 71), some (.int x1), some (.int x2), some (.int x3), some (.int x4)] [.int x4, .ref 76] _ i_24_78 rfl ?_
        refine wp_s 81 [some (.ref 71), some (.int x1), some (.int x2), some (.int x3), some (.int x4)] [.int x4, .ref 76, .int x4, .ref 76] _ i_24_80 rfl ?_
        obtain ⟨k_6, hd⟩ := dk_if hd
        refine hm_iald 82 rfl i_24_81 (cb rfl) kk_76 k_6 ?_
        refine wp_s 83 [some (.ref 71), some (.int x1), some (.int x2), some (.int x3), some (.int x4)] [.int x3, .int (mm_4.1 76 x4.toNatClampNeg), .int x4, .ref 76] _ i_24_82 rfl ?_
        refine wp_s 84 [some (.ref 71), some (.int x1), some (.int x2), some (.int x3), some (.int x4)] [.int ((mm_4.1 76 x4.toNatClampNeg) + x3), .int x4, .ref 76] _ i_24_83 rfl ?_
        obtain ⟨k_7, hd⟩ := dk_if hd
        obtain ⟨mm_8, q_9, hd⟩ := dk_bind hd
        refine hm_iast 85 rfl i_24_84 (cb rfl) kk_76 k_7 ?_
        rw [Option.some.inj q_9]
        refine wp_s 86 [some (.ref 71), some (.int x1), some (.int x2), some (.int x3), some (.int x4)] [.ref 71] _ i_24_85 rfl ?_
        refine wp_s 87 [some (.ref 71), some (.int x1), some (.int x2), some (.int x3), some (.int x4)] [.int x1, .ref 71] _ i_24_86 rfl ?_
        refine wp_s 88 [some (.ref 71), some (.int x1), some (.int x2), some (.int x3), some (.int x4)] [.int (1 : Int32), .int x1, .ref 71] _ i_24_87 rfl ?_
        refine wp_s 89 [some (.ref 71), some (.int x1), some (.int x2), some (.int x3), some (.int x4)] [.int (x1 + (1 : Int32)), .ref 71] _ i_24_88 rfl ?_
        refine wp_s 90 [some (.ref 71), some (.int x1), some (.int x2), some (.int x3), some (.int x4)] [.int x2, .int (x1 + (1 : Int32)), .ref 71] _ i_24_89 rfl ?_
        refine wp_s 92 [some (.ref 71), some (.int x1), some (.int x2), some (.int x3), some (.int x4)] [.int x4, .int x2, .int (x1 + (1 : Int32)), .ref 71] _ i_24_90 rfl ?_
        refine wp_s 93 [some (.ref 71), some (.int x1), some (.int x2), some (.int x3), some (.int x4)] [.int (1 : Int32), .int x4, .int x2, .int (x1 + (1 : Int32)), .ref 71] _ i_24_92 rfl ?_
        refine wp_s 94 [some (.ref 71), some (.int x1), some (.int x2), some (.int x3), some (.int x4)] [.int (x4 + (1 : Int32)), .int x2, .int (x1 + (1 : Int32)), .ref 71] _ i_24_93 rfl ?_
        refine hp_max 97 rfl i_24_94 rfl ?_
        obtain ⟨z_10, q_11, hd⟩ := dk_bind hd
        refine wp_callV 100 rfl i_24_97 (by decide) rfl (vs := [.int (x1 + (1 : Int32)), .int (if x2 < (x4 + (1 : Int32)) then (x4 + (1 : Int32)) else x2)]) (rest := []) rfl rfl rfl (hm_isO (cb rfl) kk_71) (y := m_24) rfl (Nat.le_of_ble_eq_true rfl) (hs24 _ _ _ _ q_11) ?_
        rintro v_12 h_13 ⟨rfl, rfl⟩
        refine wp_s 101 [some (.ref 71), some (.int x1), some (.int x2), some (.int x3), some (.int x4)] [.ref 71] _ i_24_100 rfl ?_
        refine hm_get (w := .ref 76) 104 rfl i_24_101 (cb rfl) kk_71 rfl ?_
        refine wp_s 106 [some (.ref 71), some (.int x1), some (.int x2), some (.int x3), some (.int x4)] [.int x4, .ref 76] _ i_24_104 rfl ?_
        refine wp_s 107 [some (.ref 71), some (.int x1), some (.int x2), some (.int x3), some (.int x4)] [.int x4, .ref 76, .int x4, .ref 76] _ i_24_106 rfl ?_
        obtain ⟨k_14, hd⟩ := dk_if hd
        refine hm_iald 108 rfl i_24_107 (cb rfl) kk_76 k_14 ?_
        refine wp_s 109 [some (.ref 71), some (.int x1), some (.int x2), some (.int x3), some (.int x4)] [.int x3, .int (z_10.1 76 x4.toNatClampNeg), .int x4, .ref 76] _ i_24_108 rfl ?_
        refine wp_s 110 [some (.ref 71), some (.int x1), some (.int x2), some (.int x3), some (.int x4)] [.int ((z_10.1 76 x4.toNatClampNeg) - x3), .int x4, .ref 76] _ i_24_109 rfl ?_
        obtain ⟨k_15, hd⟩ := dk_if hd
        obtain ⟨mm_16, q_17, hd⟩ := dk_bind hd
        refine hm_iast 111 rfl i_24_110 (cb rfl) kk_76 k_15 ?_
        rw [Option.some.inj q_17]
        refine wp_s 114 [some (.ref 71), some (.int x1), some (.int x2), some (.int x3), some (.int (x4 + (1 : Int32)))] [] _ i_24_111 rfl ?_
        refine wp_s 53 [some (.ref 71), some (.int x1), some (.int x2), some (.int x3), some (.int (x4 + (1 : Int32)))] [] _ i_24_114 rfl ?_
        exact aWp.forget (ih _ _ _ _ _ _ hd) (lvS (lvS (lvS (lvS (lvS lvE)))))
set_option maxHeartbeats 4000000 in
set_option maxRecDepth 100000 in
theorem t_24_ok {X : aX} {S : rS} {g : Nat} {sf24 : Int32 → Int32 → cM → Option cM} {x1 : Int32} {x2 : Int32} {m : cM} {zz : cM} {e : Nat} (hdp : 1 ≤ e) (hs24 : ∀ (x1 : Int32) (x2 : Int32) (m zz : cM), sf24 x1 x2 m = some zz → aWp X e 24 0 (aEntL [.ref 71, .int x1, .int x2] 5) [] (hr m S) (fun w h' => w = none ∧ h' = hr zz S)) (hd : t_24 sf24 g x1 x2 m = some zz) : aWp X (e + 1) 24 0 (aEntL [.ref 71, .int x1, .int x2] 5) [] (hr m S) (fun w h' => w = none ∧ h' = hr zz S) := by
  unfold t_24 at hd
  refine wp_lv (l2 := [some (.ref 71), some (.int x1), some (.int x2), none, none]) rfl ?_
  refine wp_s 1 [some (.ref 71), some (.int x1), some (.int x2), none, none] [.int x1] _ i_24_0 rfl ?_
  refine wp_s 2 [some (.ref 71), some (.int x1), some (.int x2), none, none] [.ref 71, .int x1] _ i_24_1 rfl ?_
  refine hm_get (w := .ref 5) 5 rfl i_24_2 (cb rfl) kk_71 rfl ?_
  obtain ⟨k_1001, hd⟩ := dk_if hd
  refine hm_dyn 8 rfl i_24_5 (cb rfl) kk_5 (fun _ _ => rfl) (kd_ne0 (cO_iff k_1001).2 (by decide)) ?_
  refine hm_get (w := .int (m.1 (m.2.2.1 5) 8)) 11 rfl i_24_8 (cO_iff k_1001).1 (cO_iff k_1001).2 rfl ?_
  refine wp_cmp_lt 32 14 rfl rfl i_24_11 (fun c_1002 => ?_) (fun c_1002 => ?_)
  · rw [if_pos c_1002] at hd
    refine wp_s 33 [some (.ref 71), some (.int x1), some (.int x2), none, none] [.ref 71] _ i_24_32 rfl ?_
    refine hm_get (w := .ref 75) 36 rfl i_24_33 (cb rfl) kk_71 rfl ?_
    refine wp_s 37 [some (.ref 71), some (.int x1), some (.int x2), none, none] [.ref 71, .ref 75] _ i_24_36 rfl ?_
    refine hm_get (w := .ref 5) 40 rfl i_24_37 (cb rfl) kk_71 rfl ?_
    refine hm_dyn 43 rfl i_24_40 (cb rfl) kk_5 (fun _ _ => rfl) (kd_ne0 (cO_iff k_1001).2 (by decide)) ?_
    refine hm_get (w := .ref ((m.2.2.1 5) + 4)) 46 rfl i_24_43 (cO_iff k_1001).1 (cO_iff k_1001).2 rfl ?_
    refine wp_s 47 [some (.ref 71), some (.int x1), some (.int x2), none, none] [.int x1, .ref ((m.2.2.1 5) + 4), .ref 75] _ i_24_46 rfl ?_
    obtain ⟨k_1003, hd⟩ := dk_if hd
    refine hm_iald 48 rfl i_24_47 (kb_5_4 (cO_iff k_1001).1 (cO_iff k_1001).2) (kr_5_4 (cO_iff k_1001).2) k_1003 ?_
    obtain ⟨k_1004, hd⟩ := dk_if hd
    refine hm_iald 49 rfl i_24_48 (cb rfl) kk_75 k_1004 ?_
    refine wp_s 50 [some (.ref 71), some (.int x1), some (.int x2), some (.int (m.1 75 (m.1 ((m.2.2.1 5) + 4) x1.toNatClampNeg).toNatClampNeg)), none] [] _ i_24_49 rfl ?_
    refine wp_s 51 [some (.ref 71), some (.int x1), some (.int x2), some (.int (m.1 75 (m.1 ((m.2.2.1 5) + 4) x1.toNatClampNeg).toNatClampNeg)), none] [.int (0 : Int32)] _ i_24_50 rfl ?_
    refine wp_s 53 [some (.ref 71), some (.int x1), some (.int x2), some (.int (m.1 75 (m.1 ((m.2.2.1 5) + 4) x1.toNatClampNeg).toNatClampNeg)), some (.int (0 : Int32))] [] _ i_24_51 rfl ?_
    exact aWp.forget ((l_24_ok hdp hs24 g) _ _ _ _ _ _ hd) (lvS (lvS (lvS (lvS (lvS lvE)))))
  · rw [if_neg c_1002] at hd
    refine wp_s 15 [some (.ref 71), some (.int x1), some (.int x2), none, none] [.ref 71] _ i_24_14 rfl ?_
    refine hm_get (w := .ref 72) 18 rfl i_24_15 (cb rfl) kk_71 rfl ?_
    refine wp_s 19 [some (.ref 71), some (.int x1), some (.int x2), none, none] [.ref 71, .ref 72] _ i_24_18 rfl ?_
    refine wp_s 20 [some (.ref 71), some (.int x1), some (.int x2), none, none] [.int x2, .ref 71, .ref 72] _ i_24_19 rfl ?_
    obtain ⟨z_1005, q_1006, hd⟩ := dk_bind hd
    refine wp_callV 23 rfl i_24_20 (by decide) rfl (vs := [.int x2]) (rest := [.ref 72]) rfl rfl rfl (hm_isO (cb rfl) kk_71) (y := m_25) rfl (Nat.le_of_ble_eq_true rfl) (d_25_ok (S := S) (d := e) (by omega) q_1006) ?_
    rintro v_1007 h_1008 ⟨rfl, rfl⟩
    refine wp_s 24 [some (.ref 71), some (.int x1), some (.int x2), none, none] [.ref 71, .int z_1005, .ref 72] _ i_24_23 rfl ?_
    refine hm_get (w := .ref 74) 27 rfl i_24_24 (cb rfl) kk_71 rfl ?_
    refine wp_s 28 [some (.ref 71), some (.int x1), some (.int x2), none, none] [.int x1, .ref 74, .int z_1005, .ref 72] _ i_24_27 rfl ?_
    obtain ⟨z_1009, q_1010, hd⟩ := dk_bind hd
    refine wp_callV 31 rfl i_24_28 (by decide) rfl (vs := [.int z_1005, .ref 74, .int x1]) (rest := []) rfl rfl rfl (hm_isO (cb rfl) kk_72) (y := m_2) rfl (Nat.le_of_ble_eq_true rfl) (d_2_ok (S := S) (d := e) (by omega) q_1010) ?_
    rintro v_1011 h_1012 ⟨rfl, rfl⟩
    obtain rfl := Option.some.inj hd
    exact wp_ret i_24_31 rfl ⟨rfl, rfl⟩
theorem R_24_ok {X : aX} {S : rS} {g : Nat} : ∀ n, (∀ (x1 : Int32) (x2 : Int32) (m zz : cM), R_24 g n 0 x1 x2 m = some zz → aWp X (1 + n) 24 0 (aEntL [.ref 71, .int x1, .int x2] 5) [] (hr m S) (fun w h' => w = none ∧ h' = hr zz S)) := by
  intro n
  induction n with
  | zero => exact fun _ _ _ _ hd => by simp [R_24] at hd
  | succ n ih =>
    intro x1 x2 m zz hd
    unfold R_24 at hd
    rw [if_pos rfl] at hd
    exact t_24_ok (e := 1 + n) (by omega) ih hd
theorem d_24_ok {X : aX} {S : rS} {g : Nat} {x1 : Int32} {x2 : Int32} {m zz : cM} {d : Nat} (hdp : 10 ≤ d) (hd : d_24 g x1 x2 m = some zz) : aWp X d 24 0 (aEntL [.ref 71, .int x1, .int x2] 5) [] (hr m S) (fun w h' => w = none ∧ h' = hr zz S) := ((R_24_ok 9) _ _ _ _ hd).deep hdp
set_option maxHeartbeats 4000000 in
set_option maxRecDepth 100000 in
theorem d_23_ok {X : aX} {S : rS} {g : Nat}  {m : cM} {zz : cM} {d : Nat} (hdp : 11 ≤ d) (hd : d_23 g  m = some zz) : aWp X d 23 0 (aEntL [.ref 71] 1) [] (hr m S) (fun w h' => w = none ∧ h' = hr zz S) := by
  unfold d_23 at hd
  refine wp_lv (l2 := [some (.ref 71)]) rfl ?_
  obtain ⟨e, rfl⟩ : ∃ e, d = e + 1 := ⟨d - 1, by omega⟩
  refine wp_s 1 [some (.ref 71)] [.ref 71] _ i_23_0 rfl ?_
  refine hm_get (w := .ref 72) 4 rfl i_23_1 (cb rfl) kk_71 rfl ?_
  obtain ⟨z_1, q_2, hd⟩ := dk_bind hd
  refine wp_callV 7 rfl i_23_4 (by decide) rfl (vs := []) (rest := []) rfl rfl rfl (hm_isO (cb rfl) kk_72) (y := m_1) rfl (Nat.le_of_ble_eq_true rfl) (d_1_ok (S := S) (d := e) (by omega) q_2) ?_
  rintro v_3 h_4 ⟨rfl, rfl⟩
  refine wp_s 8 [some (.ref 71)] [.ref 71] _ i_23_7 rfl ?_
  refine wp_s 9 [some (.ref 71)] [.ref 71, .ref 71] _ i_23_8 rfl ?_
  refine hm_get (w := .ref 5) 12 rfl i_23_9 (cb rfl) kk_71 rfl ?_
  refine hm_get (w := .ref 19) 15 rfl i_23_12 (cb rfl) kk_5 rfl ?_
  refine hm_get (w := .int (z_1.1 19 13)) 18 rfl i_23_15 (cb rfl) kk_19 rfl ?_
  obtain ⟨z_5, q_6, hd⟩ := dk_bind hd
  refine wp_callV 21 rfl i_23_18 (by decide) rfl (vs := [.int (z_1.1 19 13)]) (rest := []) rfl rfl rfl (hm_isO (cb rfl) kk_71) (y := m_12) rfl (Nat.le_of_ble_eq_true rfl) (d_12_ok (S := S) (d := e) (by omega) q_6) ?_
  rintro v_7 h_8 ⟨rfl, rfl⟩
  refine wp_s 22 [some (.ref 71)] [.ref 71] _ i_23_21 rfl ?_
  refine hm_get (w := .ref 76) 25 rfl i_23_22 (cb rfl) kk_71 rfl ?_
  refine wp_s 26 [some (.ref 71)] [.int (0 : Int32), .ref 76] _ i_23_25 rfl ?_
  obtain ⟨z_9, q_10, hd⟩ := dk_bind hd
  refine wp_callS 29 rfl i_23_26 (by decide) (vs := [.ref 76, .int (0 : Int32)]) (rest := []) rfl rfl rfl (y := m_273) rfl (Nat.le_of_ble_eq_true rfl) (d_273_ok (S := S) (d := e) (by omega) q_10) ?_
  rintro v_11 h_12 ⟨rfl, rfl⟩
  refine wp_s 30 [some (.ref 71)] [.ref 71] _ i_23_29 rfl ?_
  refine wp_s 31 [some (.ref 71)] [.int (0 : Int32), .ref 71] _ i_23_30 rfl ?_
  refine wp_s 32 [some (.ref 71)] [.int (0 : Int32), .int (0 : Int32), .ref 71] _ i_23_31 rfl ?_
  obtain ⟨z_13, q_14, hd⟩ := dk_bind hd
  refine wp_callV 35 rfl i_23_32 (by decide) rfl (vs := [.int (0 : Int32), .int (0 : Int32)]) (rest := []) rfl rfl rfl (hm_isO (cb rfl) kk_71) (y := m_24) rfl (Nat.le_of_ble_eq_true rfl) (d_24_ok (S := S) (d := e) (by omega) q_14) ?_
  rintro v_15 h_16 ⟨rfl, rfl⟩
  obtain rfl := Option.some.inj hd
  exact wp_ret i_23_35 rfl ⟨rfl, rfl⟩
set_option maxHeartbeats 4000000 in
set_option maxRecDepth 100000 in
theorem l_27_ok {X : aX} {S : rS} {g : Nat} {sf27 : Int32 → Int32 → Int32 → cM → Option cM} {e : Nat} (hdp : 1 ≤ e) (hs27 : ∀ (x1 : Int32) (x2 : Int32) (x3 : Int32) (m zz : cM), sf27 x1 x2 x3 m = some zz → aWp X e 27 0 (aEntL [.ref 71, .int x1, .int x2, .int x3] 8) [] (hr m S) (fun w h' => w = none ∧ h' = hr zz S)) : ∀ n, (∀ (x1 : Int32) (x2 : Int32) (x3 : Int32) (x4 : Int32) (x5 : Int32) (m : cM) (zz : cM), l_27 sf27 g n 0 x1 x2 x3 x4 x5 m = some zz → aWp X (e + 1) 27 22 [some (.ref 71), some (.int x1), some (.int x2), some (.int x3), none, none, none, none] [] (hr m S) (fun w h' => w = none ∧ h' = hr zz S)) ∧ (∀ (x1 : Int32) (x2 : Int32) (x3 : Int32) (x4 : Int32) (x5 : Int32) (m : cM) (zz : cM), l_27 sf27 g n 1 x1 x2 x3 x4 x5 m = some zz → aWp X (e + 1) 27 86 [some (.ref 71), some (.int x1), some (.int x2), some (.int x3), some (.int x4), some (.int x5), none, none] [] (hr m S) (fun w h' => w = none ∧ h' = hr zz S)) := by
  intro n
  induction n with
  | zero => exact ⟨fun _ _ _ _ _ _ _ hd => by simp [l_27] at hd, fun _ _ _ _ _ _ _ hd => by simp [l_27] at hd⟩
  | succ n ih =>
    refine ⟨?_, ?_⟩
    · intro x1 x2 x3 x4 x5 m zz hd
      unfold l_27 at hd
      rw [if_pos rfl] at hd
      refine wp_s 23 [some (.ref 71), some (.int x1), some (.int x2), some (.int x3), none, none, none, none] [.int x1] _ i_27_22 rfl ?_
      refine wp_s 24 [some (.ref 71), some (.int x1), some (.int x2), some (.int x3), none, none, none, none] [.ref 71, .int x1] _ i_27_23 rfl ?_
      refine hm_get (w := .ref 5) 27 rfl i_27_24 (cb rfl) kk_71 rfl ?_
      obtain ⟨k_1, hd⟩ := dk_if hd
      refine hm_dyn 30 rfl i_27_27 (cb rfl) kk_5 (fun _ _ => rfl) (kd_ne0 (cO_iff k_1).2 (by decide)) ?_
      refine hm_get (w := .int (m.1 (m.2.2.1 5) 8)) 33 rfl i_27_30 (cO_iff k_1).1 (cO_iff k_1).2 rfl ?_
      refine wp_cmp_lt 50 36 rfl rfl i_27_33 (fun c_2 => ?_) (fun c_2 => ?_)
      · rw [if_pos c_2] at hd
        refine wp_s 51 [some (.ref 71), some (.int x1), some (.int x2), some (.int x3), none, none, none, none] [.int (0 : Int32)] _ i_27_50 rfl ?_
        refine wp_s 52 [some (.ref 71), some (.int x1), some (.int x2), some (.int x3), none, none, none, none] [.int (4 : Int32), .int (0 : Int32)] _ i_27_51 rfl ?_
        refine wp_s 53 [some (.ref 71), some (.int x1), some (.int x2), some (.int x3), none, none, none, none] [.ref 71, .int (4 : Int32), .int (0 : Int32)] _ i_27_52 rfl ?_
        refine hm_get (w := .ref 5) 56 rfl i_27_53 (cb rfl) kk_71 rfl ?_
        refine hm_dyn 59 rfl i_27_56 (cb rfl) kk_5 (fun _ _ => rfl) (kd_ne0 (cO_iff k_1).2 (by decide)) ?_
        refine hm_get (w := .ref ((m.2.2.1 5) + 5)) 62 rfl i_27_59 (cO_iff k_1).1 (cO_iff k_1).2 rfl ?_
        refine wp_s 63 [some (.ref 71), some (.int x1), some (.int x2), some (.int x3), none, none, none, none] [.int x1, .ref ((m.2.2.1 5) + 5), .int (4 : Int32), .int (0 : Int32)] _ i_27_62 rfl ?_
        obtain ⟨k_3, hd⟩ := dk_if hd
        refine hm_iald 64 rfl i_27_63 (kb_5_5 (cO_iff k_1).1 (cO_iff k_1).2) (kr_5_5 (cO_iff k_1).2) k_3 ?_
        refine wp_s 65 [some (.ref 71), some (.int x1), some (.int x2), some (.int x3), none, none, none, none] [.ref 71, .int (m.1 ((m.2.2.1 5) + 5) x1.toNatClampNeg), .int (4 : Int32), .int (0 : Int32)] _ i_27_64 rfl ?_
        refine hm_get (w := .ref 5) 68 rfl i_27_65 (cb rfl) kk_71 rfl ?_
        refine hm_get (w := .ref 19) 71 rfl i_27_68 (cb rfl) kk_5 rfl ?_
        refine hm_get (w := .int (m.1 19 13)) 74 rfl i_27_71 (cb rfl) kk_19 rfl ?_
        refine wp_s 75 [some (.ref 71), some (.int x1), some (.int x2), some (.int x3), none, none, none, none] [.int ((m.1 ((m.2.2.1 5) + 5) x1.toNatClampNeg) - (m.1 19 13)), .int (4 : Int32), .int (0 : Int32)] _ i_27_74 rfl ?_
        refine hp_min 78 rfl i_27_75 rfl ?_
        refine hp_max 81 rfl i_27_78 rfl ?_
        refine wp_s 83 [some (.ref 71), some (.int x1), some (.int x2), some (.int x3), some (.int (if (0 : Int32) < (if ((m.1 ((m.2.2.1 5) + 5) x1.toNatClampNeg) - (m.1 19 13)) < (4 : Int32) then ((m.1 ((m.2.2.1 5) + 5) x1.toNatClampNeg) - (m.1 19 13)) else (4 : Int32)) then (if ((m.1 ((m.2.2.1 5) + 5) x1.toNatClampNeg) - (m.1 19 13)) < (4 : Int32) then ((m.1 ((m.2.2.1 5) + 5) x1.toNatClampNeg) - (m.1 19 13)) else (4 : Int32)) else (0 : Int32))), none, none, none] [] _ i_27_81 rfl ?_
        refine wp_s 84 [some (.ref 71), some (.int x1), some (.int x2), some (.int x3), some (.int (if (0 : Int32) < (if ((m.1 ((m.2.2.1 5) + 5) x1.toNatClampNeg) - (m.1 19 13)) < (4 : Int32) then ((m.1 ((m.2.2.1 5) + 5) x1.toNatClampNeg) - (m.1 19 13)) else (4 : Int32)) then (if ((m.1 ((m.2.2.1 5) + 5) x1.toNatClampNeg) - (m.1 19 13)) < (4 : Int32) then ((m.1 ((m.2.2.1 5) + 5) x1.toNatClampNeg) - (m.1 19 13)) else (4 : Int32)) else (0 : Int32))), none, none, none] [.int (0 : Int32)] _ i_27_83 rfl ?_
        refine wp_s 86 [some (.ref 71), some (.int x1), some (.int x2), some (.int x3), some (.int (if (0 : Int32) < (if ((m.1 ((m.2.2.1 5) + 5) x1.toNatClampNeg) - (m.1 19 13)) < (4 : Int32) then ((m.1 ((m.2.2.1 5) + 5) x1.toNatClampNeg) - (m.1 19 13)) else (4 : Int32)) then (if ((m.1 ((m.2.2.1 5) + 5) x1.toNatClampNeg) - (m.1 19 13)) < (4 : Int32) then ((m.1 ((m.2.2.1 5) + 5) x1.toNatClampNeg) - (m.1 19 13)) else (4 : Int32)) else (0 : Int32))), some (.int (0 : Int32)), none, none] [] _ i_27_84 rfl ?_
        exact aWp.forget (ih.2 _ _ _ _ _ _ _ hd) (lvS (lvS (lvS (lvS (lvS (lvS (lvN (lvN lvE))))))))
      · rw [if_neg c_2] at hd
        refine wp_s 37 [some (.ref 71), some (.int x1), some (.int x2), some (.int x3), none, none, none, none] [.ref 71] _ i_27_36 rfl ?_
        refine hm_get (w := .ref 72) 40 rfl i_27_37 (cb rfl) kk_71 rfl ?_
        refine wp_s 41 [some (.ref 71), some (.int x1), some (.int x2), some (.int x3), none, none, none, none] [.int x3, .ref 72] _ i_27_40 rfl ?_
        refine wp_s 42 [some (.ref 71), some (.int x1), some (.int x2), some (.int x3), none, none, none, none] [.ref 71, .int x3, .ref 72] _ i_27_41 rfl ?_
        refine hm_get (w := .ref 74) 45 rfl i_27_42 (cb rfl) kk_71 rfl ?_
        refine wp_s 46 [some (.ref 71), some (.int x1), some (.int x2), some (.int x3), none, none, none, none] [.int x1, .ref 74, .int x3, .ref 72] _ i_27_45 rfl ?_
        obtain ⟨z_4, q_5, hd⟩ := dk_bind hd
        refine wp_callV 49 rfl i_27_46 (by decide) rfl (vs := [.int x3, .ref 74, .int x1]) (rest := []) rfl rfl rfl (hm_isO (cb rfl) kk_72) (y := m_2) rfl (Nat.le_of_ble_eq_true rfl) (d_2_ok (S := S) (d := e) (by omega) q_5) ?_
        rintro v_6 h_7 ⟨rfl, rfl⟩
        obtain rfl := Option.some.inj hd
        exact wp_ret i_27_49 rfl ⟨rfl, rfl⟩
    · intro x1 x2 x3 x4 x5 m zz hd
      unfold l_27 at hd
      rw [if_neg (by decide), if_pos rfl] at hd
      refine wp_s 88 [some (.ref 71), some (.int x1), some (.int x2), some (.int x3), some (.int x4), some (.int x5), none, none] [.int x5] _ i_27_86 rfl ?_
      refine wp_s 90 [some (.ref 71), some (.int x1), some (.int x2), some (.int x3), some (.int x4), some (.int x5), none, none] [.int x4, .int x5] _ i_27_88 rfl ?_
      refine wp_cmp_gt 190 93 rfl rfl i_27_90 (fun c_8 => ?_) (fun c_8 => ?_)
      · rw [if_pos c_8] at hd
        obtain rfl := Option.some.inj hd
        exact wp_ret i_27_190 rfl ⟨rfl, rfl⟩
      · rw [if_neg c_8] at hd
        refine wp_s 94 [some (.ref 71), some (.int x1), some (.int x2), some (.int x3), some (.int x4), some (.int x5), none, none] [.ref 71] _ i_27_93 rfl ?_
        refine hm_get (w := .ref 77) 97 rfl i_27_94 (cb rfl) kk_71 rfl ?_
        refine wp_s 98 [some (.ref 71), some (.int x1), some (.int x2), some (.int x3), some (.int x4), some (.int x5), none, none] [.int x1, .ref 77] _ i_27_97 rfl ?_
        refine wp_s 99 [some (.ref 71), some (.int x1), some (.int x2), some (.int x3), some (.int x4), some (.int x5), none, none] [.int (5 : Int32), .int x1, .ref 77] _ i_27_98 rfl ?_
        refine wp_s 100 [some (.ref 71), some (.int x1), some (.int x2), some (.int x3), some (.int x4), some (.int x5), none, none] [.int (x1 * (5 : Int32)), .ref 77] _ i_27_99 rfl ?_
        refine wp_s 102 [some (.ref 71), some (.int x1), some (.int x2), some (.int x3), some (.int x4), some (.int x5), none, none] [.int x5, .int (x1 * (5 : Int32)), .ref 77] _ i_27_100 rfl ?_
        refine wp_s 103 [some (.ref 71), some (.int x1), some (.int x2), some (.int x3), some (.int x4), some (.int x5), none, none] [.int ((x1 * (5 : Int32)) + x5), .ref 77] _ i_27_102 rfl ?_
        obtain ⟨k_9, hd⟩ := dk_if hd
        refine hm_iald 104 rfl i_27_103 (cb rfl) kk_77 k_9 ?_
        refine wp_s 106 [some (.ref 71), some (.int x1), some (.int x2), some (.int x3), some (.int x4), some (.int x5), some (.int (m.1 77 ((x1 * (5 : Int32)) + x5).toNatClampNeg)), none] [] _ i_27_104 rfl ?_
        refine wp_s 107 [some (.ref 71), some (.int x1), some (.int x2), some (.int x3), some (.int x4), some (.int x5), some (.int (m.1 77 ((x1 * (5 : Int32)) + x5).toNatClampNeg)), none] [.ref 71] _ i_27_106 rfl ?_
        refine hm_get (w := .ref 32) 110 rfl i_27_107 (cb rfl) kk_71 rfl ?_
        refine wp_s 111 [some (.ref 71), some (.int x1), some (.int x2), some (.int x3), some (.int x4), some (.int x5), some (.int (m.1 77 ((x1 * (5 : Int32)) + x5).toNatClampNeg)), none] [.ref 71, .ref 32] _ i_27_110 rfl ?_
        refine hm_get (w := .ref 76) 114 rfl i_27_111 (cb rfl) kk_71 rfl ?_
        refine wp_s 116 [some (.ref 71), some (.int x1), some (.int x2), some (.int x3), some (.int x4), some (.int x5), some (.int (m.1 77 ((x1 * (5 : Int32)) + x5).toNatClampNeg)), none] [.int x5, .ref 76, .ref 32] _ i_27_114 rfl ?_
        obtain ⟨k_10, hd⟩ := dk_if hd
        refine hm_iald 117 rfl i_27_116 (cb rfl) kk_76 k_10 ?_
        obtain ⟨z_11, q_12, hd⟩ := dk_bind hd
        refine wp_callV 120 rfl i_27_117 (by decide) rfl (vs := [.int (m.1 76 x5.toNatClampNeg)]) (rest := []) rfl rfl rfl (hm_isO (cb rfl) kk_32) (y := m_95) rfl (Nat.le_of_ble_eq_true rfl) (d_95_ok (S := S) (d := e) (by omega) q_12) ?_
        rintro v_13 h_14 ⟨rfl, rfl⟩
        refine wp_s 122 [some (.ref 71), some (.int x1), some (.int x2), some (.int x3), some (.int x4), some (.int x5), some (.int (m.1 77 ((x1 * (5 : Int32)) + x5).toNatClampNeg)), some (.int z_11)] [] _ i_27_120 rfl ?_
        refine wp_s 123 [some (.ref 71), some (.int x1), some (.int x2), some (.int x3), some (.int x4), some (.int x5), some (.int (m.1 77 ((x1 * (5 : Int32)) + x5).toNatClampNeg)), some (.int z_11)] [.ref 71] _ i_27_122 rfl ?_
        refine hm_get (w := .ref 74) 126 rfl i_27_123 (cb rfl) kk_71 rfl ?_
        refine wp_s 127 [some (.ref 71), some (.int x1), some (.int x2), some (.int x3), some (.int x4), some (.int x5), some (.int (m.1 77 ((x1 * (5 : Int32)) + x5).toNatClampNeg)), some (.int z_11)] [.int x1, .ref 74] _ i_27_126 rfl ?_
        refine wp_s 129 [some (.ref 71), some (.int x1), some (.int x2), some (.int x3), some (.int x4), some (.int x5), some (.int (m.1 77 ((x1 * (5 : Int32)) + x5).toNatClampNeg)), some (.int z_11)] [.int x5, .int x1, .ref 74] _ i_27_127 rfl ?_
        obtain ⟨k_15, hd⟩ := dk_if hd
        obtain ⟨mm_16, q_17, hd⟩ := dk_bind hd
        refine hm_iast 130 rfl i_27_129 (cb rfl) kk_74 k_15 ?_
        rw [Option.some.inj q_17]
        refine wp_s 131 [some (.ref 71), some (.int x1), some (.int x2), some (.int x3), some (.int x4), some (.int x5), some (.int (m.1 77 ((x1 * (5 : Int32)) + x5).toNatClampNeg)), some (.int z_11)] [.ref 71] _ i_27_130 rfl ?_
        refine hm_get (w := .ref 76) 134 rfl i_27_131 (cb rfl) kk_71 rfl ?_
        refine wp_s 136 [some (.ref 71), some (.int x1), some (.int x2), some (.int x3), some (.int x4), some (.int x5), some (.int (m.1 77 ((x1 * (5 : Int32)) + x5).toNatClampNeg)), some (.int z_11)] [.int x5, .ref 76] _ i_27_134 rfl ?_
        refine wp_s 137 [some (.ref 71), some (.int x1), some (.int x2), some (.int x3), some (.int x4), some (.int x5), some (.int (m.1 77 ((x1 * (5 : Int32)) + x5).toNatClampNeg)), some (.int z_11)] [.int x5, .ref 76, .int x5, .ref 76] _ i_27_136 rfl ?_
        obtain ⟨k_18, hd⟩ := dk_if hd
        refine hm_iald 138 rfl i_27_137 (cb rfl) kk_76 k_18 ?_
        refine wp_s 140 [some (.ref 71), some (.int x1), some (.int x2), some (.int x3), some (.int x4), some (.int x5), some (.int (m.1 77 ((x1 * (5 : Int32)) + x5).toNatClampNeg)), some (.int z_11)] [.int (m.1 77 ((x1 * (5 : Int32)) + x5).toNatClampNeg), .int (mm_16.1 76 x5.toNatClampNeg), .int x5, .ref 76] _ i_27_138 rfl ?_
        refine wp_s 141 [some (.ref 71), some (.int x1), some (.int x2), some (.int x3), some (.int x4), some (.int x5), some (.int (m.1 77 ((x1 * (5 : Int32)) + x5).toNatClampNeg)), some (.int z_11)] [.int ((mm_16.1 76 x5.toNatClampNeg) + (m.1 77 ((x1 * (5 : Int32)) + x5).toNatClampNeg)), .int x5, .ref 76] _ i_27_140 rfl ?_
        obtain ⟨k_19, hd⟩ := dk_if hd
        obtain ⟨mm_20, q_21, hd⟩ := dk_bind hd
        refine hm_iast 142 rfl i_27_141 (cb rfl) kk_76 k_19 ?_
        rw [Option.some.inj q_21]
        refine wp_s 143 [some (.ref 71), some (.int x1), some (.int x2), some (.int x3), some (.int x4), some (.int x5), some (.int (m.1 77 ((x1 * (5 : Int32)) + x5).toNatClampNeg)), some (.int z_11)] [.ref 71] _ i_27_142 rfl ?_
        refine wp_s 144 [some (.ref 71), some (.int x1), some (.int x2), some (.int x3), some (.int x4), some (.int x5), some (.int (m.1 77 ((x1 * (5 : Int32)) + x5).toNatClampNeg)), some (.int z_11)] [.int x1, .ref 71] _ i_27_143 rfl ?_
        refine wp_s 145 [some (.ref 71), some (.int x1), some (.int x2), some (.int x3), some (.int x4), some (.int x5), some (.int (m.1 77 ((x1 * (5 : Int32)) + x5).toNatClampNeg)), some (.int z_11)] [.int (1 : Int32), .int x1, .ref 71] _ i_27_144 rfl ?_
        refine wp_s 146 [some (.ref 71), some (.int x1), some (.int x2), some (.int x3), some (.int x4), some (.int x5), some (.int (m.1 77 ((x1 * (5 : Int32)) + x5).toNatClampNeg)), some (.int z_11)] [.int (x1 + (1 : Int32)), .ref 71] _ i_27_145 rfl ?_
        refine wp_s 147 [some (.ref 71), some (.int x1), some (.int x2), some (.int x3), some (.int x4), some (.int x5), some (.int (m.1 77 ((x1 * (5 : Int32)) + x5).toNatClampNeg)), some (.int z_11)] [.int x2, .int (x1 + (1 : Int32)), .ref 71] _ i_27_146 rfl ?_
        refine wp_s 149 [some (.ref 71), some (.int x1), some (.int x2), some (.int x3), some (.int x4), some (.int x5), some (.int (m.1 77 ((x1 * (5 : Int32)) + x5).toNatClampNeg)), some (.int z_11)] [.int (m.1 77 ((x1 * (5 : Int32)) + x5).toNatClampNeg), .int x2, .int (x1 + (1 : Int32)), .ref 71] _ i_27_147 rfl ?_
        refine wp_s 150 [some (.ref 71), some (.int x1), some (.int x2), some (.int x3), some (.int x4), some (.int x5), some (.int (m.1 77 ((x1 * (5 : Int32)) + x5).toNatClampNeg)), some (.int z_11)] [.int (x2 + (m.1 77 ((x1 * (5 : Int32)) + x5).toNatClampNeg)), .int (x1 + (1 : Int32)), .ref 71] _ i_27_149 rfl ?_
        refine wp_s 151 [some (.ref 71), some (.int x1), some (.int x2), some (.int x3), some (.int x4), some (.int x5), some (.int (m.1 77 ((x1 * (5 : Int32)) + x5).toNatClampNeg)), some (.int z_11)] [.int x3, .int (x2 + (m.1 77 ((x1 * (5 : Int32)) + x5).toNatClampNeg)), .int (x1 + (1 : Int32)), .ref 71] _ i_27_150 rfl ?_
        refine wp_s 153 [some (.ref 71), some (.int x1), some (.int x2), some (.int x3), some (.int x4), some (.int x5), some (.int (m.1 77 ((x1 * (5 : Int32)) + x5).toNatClampNeg)), some (.int z_11)] [.int z_11, .int x3, .int (x2 + (m.1 77 ((x1 * (5 : Int32)) + x5).toNatClampNeg)), .int (x1 + (1 : Int32)), .ref 71] _ i_27_151 rfl ?_
        refine wp_s 154 [some (.ref 71), some (.int x1), some (.int x2), some (.int x3), some (.int x4), some (.int x5), some (.int (m.1 77 ((x1 * (5 : Int32)) + x5).toNatClampNeg)), some (.int z_11)] [.int (x3 - z_11), .int (x2 + (m.1 77 ((x1 * (5 : Int32)) + x5).toNatClampNeg)), .int (x1 + (1 : Int32)), .ref 71] _ i_27_153 rfl ?_
        refine wp_s 155 [some (.ref 71), some (.int x1), some (.int x2), some (.int x3), some (.int x4), some (.int x5), some (.int (m.1 77 ((x1 * (5 : Int32)) + x5).toNatClampNeg)), some (.int z_11)] [.ref 71, .int (x3 - z_11), .int (x2 + (m.1 77 ((x1 * (5 : Int32)) + x5).toNatClampNeg)), .int (x1 + (1 : Int32)), .ref 71] _ i_27_154 rfl ?_
        refine hm_get (w := .ref 32) 158 rfl i_27_155 (cb rfl) kk_71 rfl ?_
        refine wp_s 159 [some (.ref 71), some (.int x1), some (.int x2), some (.int x3), some (.int x4), some (.int x5), some (.int (m.1 77 ((x1 * (5 : Int32)) + x5).toNatClampNeg)), some (.int z_11)] [.ref 71, .ref 32, .int (x3 - z_11), .int (x2 + (m.1 77 ((x1 * (5 : Int32)) + x5).toNatClampNeg)), .int (x1 + (1 : Int32)), .ref 71] _ i_27_158 rfl ?_
        refine hm_get (w := .ref 76) 162 rfl i_27_159 (cb rfl) kk_71 rfl ?_
        refine wp_s 164 [some (.ref 71), some (.int x1), some (.int x2), some (.int x3), some (.int x4), some (.int x5), some (.int (m.1 77 ((x1 * (5 : Int32)) + x5).toNatClampNeg)), some (.int z_11)] [.int x5, .ref 76, .ref 32, .int (x3 - z_11), .int (x2 + (m.1 77 ((x1 * (5 : Int32)) + x5).toNatClampNeg)), .int (x1 + (1 : Int32)), .ref 71] _ i_27_162 rfl ?_
        obtain ⟨k_22, hd⟩ := dk_if hd
        refine hm_iald 165 rfl i_27_164 (cb rfl) kk_76 k_22 ?_
        obtain ⟨z_23, q_24, hd⟩ := dk_bind hd
        refine wp_callV 168 rfl i_27_165 (by decide) rfl (vs := [.int (mm_20.1 76 x5.toNatClampNeg)]) (rest := [.int (x3 - z_11), .int (x2 + (m.1 77 ((x1 * (5 : Int32)) + x5).toNatClampNeg)), .int (x1 + (1 : Int32)), .ref 71]) rfl rfl rfl (hm_isO (cb rfl) kk_32) (y := m_95) rfl (Nat.le_of_ble_eq_true rfl) (d_95_ok (S := S) (d := e) (by omega) q_24) ?_
        rintro v_25 h_26 ⟨rfl, rfl⟩
        refine wp_s 169 [some (.ref 71), some (.int x1), some (.int x2), some (.int x3), some (.int x4), some (.int x5), some (.int (m.1 77 ((x1 * (5 : Int32)) + x5).toNatClampNeg)), some (.int z_11)] [.int ((x3 - z_11) + z_23), .int (x2 + (m.1 77 ((x1 * (5 : Int32)) + x5).toNatClampNeg)), .int (x1 + (1 : Int32)), .ref 71] _ i_27_168 rfl ?_
        obtain ⟨z_27, q_28, hd⟩ := dk_bind hd
        refine wp_callV 172 rfl i_27_169 (by decide) rfl (vs := [.int (x1 + (1 : Int32)), .int (x2 + (m.1 77 ((x1 * (5 : Int32)) + x5).toNatClampNeg)), .int ((x3 - z_11) + z_23)]) (rest := []) rfl rfl rfl (hm_isO (cb rfl) kk_71) (y := m_27) rfl (Nat.le_of_ble_eq_true rfl) (hs27 _ _ _ _ _ q_28) ?_
        rintro v_29 h_30 ⟨rfl, rfl⟩
        refine wp_s 173 [some (.ref 71), some (.int x1), some (.int x2), some (.int x3), some (.int x4), some (.int x5), some (.int (m.1 77 ((x1 * (5 : Int32)) + x5).toNatClampNeg)), some (.int z_11)] [.ref 71] _ i_27_172 rfl ?_
        refine hm_get (w := .ref 76) 176 rfl i_27_173 (cb rfl) kk_71 rfl ?_
        refine wp_s 178 [some (.ref 71), some (.int x1), some (.int x2), some (.int x3), some (.int x4), some (.int x5), some (.int (m.1 77 ((x1 * (5 : Int32)) + x5).toNatClampNeg)), some (.int z_11)] [.int x5, .ref 76] _ i_27_176 rfl ?_
        refine wp_s 179 [some (.ref 71), some (.int x1), some (.int x2), some (.int x3), some (.int x4), some (.int x5), some (.int (m.1 77 ((x1 * (5 : Int32)) + x5).toNatClampNeg)), some (.int z_11)] [.int x5, .ref 76, .int x5, .ref 76] _ i_27_178 rfl ?_
        obtain ⟨k_31, hd⟩ := dk_if hd
        refine hm_iald 180 rfl i_27_179 (cb rfl) kk_76 k_31 ?_
        refine wp_s 182 [some (.ref 71), some (.int x1), some (.int x2), some (.int x3), some (.int x4), some (.int x5), some (.int (m.1 77 ((x1 * (5 : Int32)) + x5).toNatClampNeg)), some (.int z_11)] [.int (m.1 77 ((x1 * (5 : Int32)) + x5).toNatClampNeg), .int (z_27.1 76 x5.toNatClampNeg), .int x5, .ref 76] _ i_27_180 rfl ?_
        refine wp_s 183 [some (.ref 71), some (.int x1), some (.int x2), some (.int x3), some (.int x4), some (.int x5), some (.int (m.1 77 ((x1 * (5 : Int32)) + x5).toNatClampNeg)), some (.int z_11)] [.int ((z_27.1 76 x5.toNatClampNeg) - (m.1 77 ((x1 * (5 : Int32)) + x5).toNatClampNeg)), .int x5, .ref 76] _ i_27_182 rfl ?_
        obtain ⟨k_32, hd⟩ := dk_if hd
        obtain ⟨mm_33, q_34, hd⟩ := dk_bind hd
        refine hm_iast 184 rfl i_27_183 (cb rfl) kk_76 k_32 ?_
        rw [Option.some.inj q_34]
        refine wp_s 187 [some (.ref 71), some (.int x1), some (.int x2), some (.int x3), some (.int x4), some (.int (x5 + (1 : Int32))), some (.int (m.1 77 ((x1 * (5 : Int32)) + x5).toNatClampNeg)), some (.int z_11)] [] _ i_27_184 rfl ?_
        refine wp_s 86 [some (.ref 71), some (.int x1), some (.int x2), some (.int x3), some (.int x4), some (.int (x5 + (1 : Int32))), some (.int (m.1 77 ((x1 * (5 : Int32)) + x5).toNatClampNeg)), some (.int z_11)] [] _ i_27_187 rfl ?_
        exact aWp.forget (ih.2 _ _ _ _ _ _ _ hd) (lvS (lvS (lvS (lvS (lvS (lvS (lvN (lvN lvE))))))))
set_option maxHeartbeats 4000000 in
set_option maxRecDepth 100000 in
theorem t_27_ok {X : aX} {S : rS} {g : Nat} {sf27 : Int32 → Int32 → Int32 → cM → Option cM} {x1 : Int32} {x2 : Int32} {x3 : Int32} {m : cM} {zz : cM} {e : Nat} (hdp : 1 ≤ e) (hs27 : ∀ (x1 : Int32) (x2 : Int32) (x3 : Int32) (m zz : cM), sf27 x1 x2 x3 m = some zz → aWp X e 27 0 (aEntL [.ref 71, .int x1, .int x2, .int x3] 8) [] (hr m S) (fun w h' => w = none ∧ h' = hr zz S)) (hd : t_27 sf27 g x1 x2 x3 m = some zz) : aWp X (e + 1) 27 0 (aEntL [.ref 71, .int x1, .int x2, .int x3] 8) [] (hr m S) (fun w h' => w = none ∧ h' = hr zz S) := by
  unfold t_27 at hd
  refine wp_lv (l2 := [some (.ref 71), some (.int x1), some (.int x2), some (.int x3), none, none, none, none]) rfl ?_
  refine wp_s 1 [some (.ref 71), some (.int x1), some (.int x2), some (.int x3), none, none, none, none] [.ref 71] _ i_27_0 rfl ?_
  refine hm_get (w := .ref 72) 4 rfl i_27_1 (cb rfl) kk_71 rfl ?_
  refine hm_get (w := .int (m.1 72 0)) 7 rfl i_27_4 (cb rfl) kk_72 rfl ?_
  refine wp_if_eq 22 10 rfl rfl i_27_7 (fun c_1001 => ?_) (fun c_1001 => ?_)
  · rw [if_pos c_1001] at hd
    exact aWp.forget ((l_27_ok hdp hs27 g).1 _ _ _ _ _ _ _ hd) (lvS (lvS (lvS (lvS (lvN (lvN (lvN (lvN lvE))))))))
  · rw [if_neg c_1001] at hd
    refine wp_s 11 [some (.ref 71), some (.int x1), some (.int x2), some (.int x3), none, none, none, none] [.int x2] _ i_27_10 rfl ?_
    refine wp_s 12 [some (.ref 71), some (.int x1), some (.int x2), some (.int x3), none, none, none, none] [.ref 71, .int x2] _ i_27_11 rfl ?_
    refine hm_get (w := .ref 72) 15 rfl i_27_12 (cb rfl) kk_71 rfl ?_
    refine hm_get (w := .int (m.1 72 1)) 18 rfl i_27_15 (cb rfl) kk_72 rfl ?_
    refine wp_cmp_lt 22 21 rfl rfl i_27_18 (fun c_1002 => ?_) (fun c_1002 => ?_)
    · rw [if_pos c_1002] at hd
      exact aWp.forget ((l_27_ok hdp hs27 g).1 _ _ _ _ _ _ _ hd) (lvS (lvS (lvS (lvS (lvN (lvN (lvN (lvN lvE))))))))
    · rw [if_neg c_1002] at hd
      obtain rfl := Option.some.inj hd
      exact wp_ret i_27_21 rfl ⟨rfl, rfl⟩
theorem R_27_ok {X : aX} {S : rS} {g : Nat} : ∀ n, (∀ (x1 : Int32) (x2 : Int32) (x3 : Int32) (m zz : cM), R_27 g n 0 x1 x2 x3 m = some zz → aWp X (1 + n) 27 0 (aEntL [.ref 71, .int x1, .int x2, .int x3] 8) [] (hr m S) (fun w h' => w = none ∧ h' = hr zz S)) := by
  intro n
  induction n with
  | zero => exact fun _ _ _ _ _ hd => by simp [R_27] at hd
  | succ n ih =>
    intro x1 x2 x3 m zz hd
    unfold R_27 at hd
    rw [if_pos rfl] at hd
    exact t_27_ok (e := 1 + n) (by omega) ih hd
theorem d_27_ok {X : aX} {S : rS} {g : Nat} {x1 : Int32} {x2 : Int32} {x3 : Int32} {m zz : cM} {d : Nat} (hdp : 10 ≤ d) (hd : d_27 g x1 x2 x3 m = some zz) : aWp X d 27 0 (aEntL [.ref 71, .int x1, .int x2, .int x3] 8) [] (hr m S) (fun w h' => w = none ∧ h' = hr zz S) := ((R_27_ok 9) _ _ _ _ _ hd).deep hdp
