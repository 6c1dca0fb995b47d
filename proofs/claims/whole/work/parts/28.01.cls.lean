theorem i_12_0 : aIns 12 0 = some (.aload_n 0, 1, 0, 0, .null) := by decide +kernel
theorem i_12_1 : aIns 12 1 = some (.iconst 0, 1, 0, 0, .int (0)) := by decide +kernel
theorem i_12_2 : aIns 12 2 = some (.putfield 55, 3, 2, 11, .null) := by decide +kernel
theorem i_12_5 : aIns 12 5 = some (.iconst 0, 1, 0, 0, .int (0)) := by decide +kernel
theorem i_12_6 : aIns 12 6 = some (.istore_n 2, 1, 0, 0, .null) := by decide +kernel
theorem i_12_7 : aIns 12 7 = some (.iload_n 2, 1, 0, 0, .null) := by decide +kernel
theorem i_12_8 : aIns 12 8 = some (.aload_n 0, 1, 0, 0, .null) := by decide +kernel
theorem i_12_9 : aIns 12 9 = some (.getfield 47, 3, 2, 0, .null) := by decide +kernel
theorem i_12_12 : aIns 12 12 = some (.getfield 59, 3, 10, 0, .null) := by decide +kernel
theorem i_12_15 : aIns 12 15 = some (.getfield 65, 3, 5, 4, .null) := by decide +kernel
theorem i_12_18 : aIns 12 18 = some (.if_icmp .ge 52, 3, 0, 0, .null) := by decide +kernel
theorem i_12_21 : aIns 12 21 = some (.aload_n 0, 1, 0, 0, .null) := by decide +kernel
theorem i_12_22 : aIns 12 22 = some (.getfield 22, 3, 2, 4, .null) := by decide +kernel
theorem i_12_25 : aIns 12 25 = some (.iload_n 2, 1, 0, 0, .null) := by decide +kernel
theorem i_12_26 : aIns 12 26 = some (.aload_n 0, 1, 0, 0, .null) := by decide +kernel
theorem i_12_27 : aIns 12 27 = some (.getfield 51, 3, 2, 1, .null) := by decide +kernel
theorem i_12_30 : aIns 12 30 = some (.iload_n 2, 1, 0, 0, .null) := by decide +kernel
theorem i_12_31 : aIns 12 31 = some (.iload_n 1, 1, 0, 0, .null) := by decide +kernel
theorem i_12_32 : aIns 12 32 = some (.invokevirtual 70, 3, 90, 2, .int 9) := by decide +kernel
theorem i_12_35 : aIns 12 35 = some (.iastore, 1, 0, 0, .null) := by decide +kernel
theorem i_12_36 : aIns 12 36 = some (.aload_n 0, 1, 0, 0, .null) := by decide +kernel
theorem i_12_37 : aIns 12 37 = some (.dup, 1, 0, 0, .null) := by decide +kernel
theorem i_12_38 : aIns 12 38 = some (.getfield 55, 3, 2, 11, .null) := by decide +kernel
theorem i_12_41 : aIns 12 41 = some (.aload_n 0, 1, 0, 0, .null) := by decide +kernel
theorem i_12_42 : aIns 12 42 = some (.getfield 47, 3, 2, 0, .null) := by decide +kernel
theorem i_12_45 : aIns 12 45 = some (.getfield 76, 3, 10, 1, .null) := by decide +kernel
theorem i_12_48 : aIns 12 48 = some (.getfield 79, 3, 7, 0, .null) := by decide +kernel
theorem i_12_51 : aIns 12 51 = some (.iload_n 2, 1, 0, 0, .null) := by decide +kernel
theorem i_12_52 : aIns 12 52 = some (.iaload, 1, 0, 0, .null) := by decide +kernel
theorem i_12_53 : aIns 12 53 = some (.aload_n 0, 1, 0, 0, .null) := by decide +kernel
theorem i_12_54 : aIns 12 54 = some (.getfield 22, 3, 2, 4, .null) := by decide +kernel
theorem i_12_57 : aIns 12 57 = some (.iload_n 2, 1, 0, 0, .null) := by decide +kernel
theorem i_12_58 : aIns 12 58 = some (.iaload, 1, 0, 0, .null) := by decide +kernel
theorem i_12_59 : aIns 12 59 = some (.imul, 1, 0, 0, .null) := by decide +kernel
theorem i_12_60 : aIns 12 60 = some (.iadd, 1, 0, 0, .null) := by decide +kernel
theorem i_12_61 : aIns 12 61 = some (.putfield 55, 3, 2, 11, .null) := by decide +kernel
theorem i_12_64 : aIns 12 64 = some (.iinc 2 1, 3, 0, 0, .null) := by decide +kernel
theorem i_12_67 : aIns 12 67 = some (.goto (-60), 3, 0, 0, .null) := by decide +kernel
theorem i_12_70 : aIns 12 70 = some (.aload_n 0, 1, 0, 0, .null) := by decide +kernel
theorem i_12_71 : aIns 12 71 = some (.aload_n 0, 1, 0, 0, .null) := by decide +kernel
theorem i_12_72 : aIns 12 72 = some (.getfield 47, 3, 2, 0, .null) := by decide +kernel
theorem i_12_75 : aIns 12 75 = some (.getfield 76, 3, 10, 1, .null) := by decide +kernel
theorem i_12_78 : aIns 12 78 = some (.invokevirtual 82, 3, 73, 0, .int 7) := by decide +kernel
theorem i_12_81 : aIns 12 81 = some (.putfield 86, 3, 2, 12, .null) := by decide +kernel
theorem i_12_84 : aIns 12 84 = some (.return_, 1, 0, 0, .null) := by decide +kernel
theorem i_13_0 : aIns 13 0 = some (.aload_n 0, 1, 0, 0, .null) := by decide +kernel
theorem i_13_1 : aIns 13 1 = some (.getfield 12, 3, 2, 2, .null) := by decide +kernel
theorem i_13_4 : aIns 13 4 = some (.invokevirtual 89, 3, 1, 0, .int 0) := by decide +kernel
theorem i_13_7 : aIns 13 7 = some (.aload_n 0, 1, 0, 0, .null) := by decide +kernel
theorem i_13_8 : aIns 13 8 = some (.aload_n 0, 1, 0, 0, .null) := by decide +kernel
theorem i_13_9 : aIns 13 9 = some (.getfield 47, 3, 2, 0, .null) := by decide +kernel
theorem i_13_12 : aIns 13 12 = some (.getfield 76, 3, 10, 1, .null) := by decide +kernel
theorem i_13_15 : aIns 13 15 = some (.getfield 92, 3, 7, 13, .null) := by decide +kernel
theorem i_13_18 : aIns 13 18 = some (.invokevirtual 95, 3, 12, 1, .int 2) := by decide +kernel
theorem i_13_21 : aIns 13 21 = some (.aload_n 0, 1, 0, 0, .null) := by decide +kernel
theorem i_13_22 : aIns 13 22 = some (.iconst 0, 1, 0, 0, .int (0)) := by decide +kernel
theorem i_13_23 : aIns 13 23 = some (.invokevirtual 99, 3, 14, 1, .int 2) := by decide +kernel
theorem i_13_26 : aIns 13 26 = some (.return_, 1, 0, 0, .null) := by decide +kernel
theorem i_14_0 : aIns 14 0 = some (.aload_n 0, 1, 0, 0, .null) := by decide +kernel
theorem i_14_1 : aIns 14 1 = some (.getfield 12, 3, 2, 2, .null) := by decide +kernel
theorem i_14_4 : aIns 14 4 = some (.aload_n 0, 1, 0, 0, .null) := by decide +kernel
theorem i_14_5 : aIns 14 5 = some (.getfield 51, 3, 2, 1, .null) := by decide +kernel
theorem i_14_8 : aIns 14 8 = some (.aload_n 0, 1, 0, 0, .null) := by decide +kernel
theorem i_14_9 : aIns 14 9 = some (.getfield 86, 3, 2, 12, .null) := by decide +kernel
theorem i_14_12 : aIns 14 12 = some (.aload_n 0, 1, 0, 0, .null) := by decide +kernel
theorem i_14_13 : aIns 14 13 = some (.getfield 55, 3, 2, 11, .null) := by decide +kernel
theorem i_14_16 : aIns 14 16 = some (.aload_n 0, 1, 0, 0, .null) := by decide +kernel
theorem i_14_17 : aIns 14 17 = some (.getfield 18, 3, 2, 3, .null) := by decide +kernel
theorem i_14_20 : aIns 14 20 = some (.iload_n 1, 1, 0, 0, .null) := by decide +kernel
theorem i_14_21 : aIns 14 21 = some (.aload_n 0, 1, 0, 0, .null) := by decide +kernel
theorem i_14_22 : aIns 14 22 = some (.getfield 47, 3, 2, 0, .null) := by decide +kernel
theorem i_14_25 : aIns 14 25 = some (.getfield 59, 3, 10, 0, .null) := by decide +kernel
theorem i_14_28 : aIns 14 28 = some (.getfield 102, 3, 5, 2, .null) := by decide +kernel
theorem i_14_31 : aIns 14 31 = some (.invokevirtual 105, 3, 94, 5, .int 9) := by decide +kernel
theorem i_14_34 : aIns 14 34 = some (.aload_n 0, 1, 0, 0, .null) := by decide +kernel
theorem i_14_35 : aIns 14 35 = some (.getfield 18, 3, 2, 3, .null) := by decide +kernel
theorem i_14_38 : aIns 14 38 = some (.iload_n 1, 1, 0, 0, .null) := by decide +kernel
theorem i_14_39 : aIns 14 39 = some (.invokevirtual 109, 3, 2, 3, .int 0) := by decide +kernel
theorem i_14_42 : aIns 14 42 = some (.iload_n 1, 1, 0, 0, .null) := by decide +kernel
theorem i_14_43 : aIns 14 43 = some (.iconst 5, 1, 0, 0, .int (5)) := by decide +kernel
theorem i_14_44 : aIns 14 44 = some (.if_icmp .lt 4, 3, 0, 0, .null) := by decide +kernel
theorem i_14_47 : aIns 14 47 = some (.return_, 1, 0, 0, .null) := by decide +kernel
theorem i_14_48 : aIns 14 48 = some (.iconst 0, 1, 0, 0, .int (0)) := by decide +kernel
theorem i_14_49 : aIns 14 49 = some (.istore_n 2, 1, 0, 0, .null) := by decide +kernel
theorem i_14_50 : aIns 14 50 = some (.iload_n 2, 1, 0, 0, .null) := by decide +kernel
theorem i_14_51 : aIns 14 51 = some (.aload_n 0, 1, 0, 0, .null) := by decide +kernel
theorem i_14_52 : aIns 14 52 = some (.getfield 47, 3, 2, 0, .null) := by decide +kernel
theorem i_14_55 : aIns 14 55 = some (.getfield 59, 3, 10, 0, .null) := by decide +kernel
theorem i_14_58 : aIns 14 58 = some (.getfield 113, 3, 5, 15, .null) := by decide +kernel
theorem i_14_61 : aIns 14 61 = some (.if_icmp .ge 56, 3, 0, 0, .null) := by decide +kernel
theorem i_14_64 : aIns 14 64 = some (.aload_n 0, 1, 0, 0, .null) := by decide +kernel
theorem i_14_65 : aIns 14 65 = some (.getfield 47, 3, 2, 0, .null) := by decide +kernel
theorem i_14_68 : aIns 14 68 = some (.getfield 76, 3, 10, 1, .null) := by decide +kernel
theorem i_14_71 : aIns 14 71 = some (.iload_n 2, 1, 0, 0, .null) := by decide +kernel
theorem i_14_72 : aIns 14 72 = some (.invokevirtual 116, 3, 77, 1, .int 7) := by decide +kernel
theorem i_14_75 : aIns 14 75 = some (.ifCond .ne 36, 3, 0, 0, .null) := by decide +kernel
theorem i_14_78 : aIns 14 78 = some (.aload_n 0, 1, 0, 0, .null) := by decide +kernel
theorem i_14_79 : aIns 14 79 = some (.getfield 47, 3, 2, 0, .null) := by decide +kernel
theorem i_14_82 : aIns 14 82 = some (.getfield 59, 3, 10, 0, .null) := by decide +kernel
theorem i_14_85 : aIns 14 85 = some (.iload_n 2, 1, 0, 0, .null) := by decide +kernel
theorem i_14_86 : aIns 14 86 = some (.aload_n 0, 1, 0, 0, .null) := by decide +kernel
theorem i_14_87 : aIns 14 87 = some (.getfield 18, 3, 2, 3, .null) := by decide +kernel
theorem i_14_90 : aIns 14 90 = some (.iload_n 1, 1, 0, 0, .null) := by decide +kernel
theorem i_14_91 : aIns 14 91 = some (.invokevirtual 120, 3, 58, 3, .int 5) := by decide +kernel
theorem i_14_94 : aIns 14 94 = some (.ifCond .eq 17, 3, 0, 0, .null) := by decide +kernel
theorem i_14_97 : aIns 14 97 = some (.aload_n 0, 1, 0, 0, .null) := by decide +kernel
theorem i_14_98 : aIns 14 98 = some (.getfield 18, 3, 2, 3, .null) := by decide +kernel
theorem i_14_101 : aIns 14 101 = some (.iload_n 1, 1, 0, 0, .null) := by decide +kernel
theorem i_14_102 : aIns 14 102 = some (.iload_n 2, 1, 0, 0, .null) := by decide +kernel
theorem i_14_103 : aIns 14 103 = some (.iastore, 1, 0, 0, .null) := by decide +kernel
theorem i_14_104 : aIns 14 104 = some (.aload_n 0, 1, 0, 0, .null) := by decide +kernel
theorem i_14_105 : aIns 14 105 = some (.iload_n 1, 1, 0, 0, .null) := by decide +kernel
theorem i_14_106 : aIns 14 106 = some (.iconst 1, 1, 0, 0, .int (1)) := by decide +kernel
theorem i_14_107 : aIns 14 107 = some (.iadd, 1, 0, 0, .null) := by decide +kernel
theorem i_14_108 : aIns 14 108 = some (.invokevirtual 99, 3, 14, 1, .int 2) := by decide +kernel
theorem i_14_111 : aIns 14 111 = some (.iinc 2 1, 3, 0, 0, .null) := by decide +kernel
theorem i_14_114 : aIns 14 114 = some (.goto (-64), 3, 0, 0, .null) := by decide +kernel
theorem i_14_117 : aIns 14 117 = some (.return_, 1, 0, 0, .null) := by decide +kernel
theorem i_15_0 : aIns 15 0 = some (.aload_n 0, 1, 0, 0, .null) := by decide +kernel
theorem i_15_1 : aIns 15 1 = some (.getfield 12, 3, 2, 2, .null) := by decide +kernel
theorem i_15_4 : aIns 15 4 = some (.invokevirtual 89, 3, 1, 0, .int 0) := by decide +kernel
theorem i_15_7 : aIns 15 7 = some (.iconst 0, 1, 0, 0, .int (0)) := by decide +kernel
theorem i_15_8 : aIns 15 8 = some (.istore_n 2, 1, 0, 0, .null) := by decide +kernel
theorem i_15_9 : aIns 15 9 = some (.iload_n 2, 1, 0, 0, .null) := by decide +kernel
theorem i_15_10 : aIns 15 10 = some (.iconst 3, 1, 0, 0, .int (3)) := by decide +kernel
theorem i_15_11 : aIns 15 11 = some (.if_icmp .gt 77, 3, 0, 0, .null) := by decide +kernel
theorem i_15_14 : aIns 15 14 = some (.aload_n 0, 1, 0, 0, .null) := by decide +kernel
theorem i_15_15 : aIns 15 15 = some (.iload_n 2, 1, 0, 0, .null) := by decide +kernel
theorem i_15_16 : aIns 15 16 = some (.invokevirtual 124, 3, 16, 1, .int 2) := by decide +kernel
theorem i_15_19 : aIns 15 19 = some (.istore_n 3, 1, 0, 0, .null) := by decide +kernel
theorem i_15_20 : aIns 15 20 = some (.iconst 0, 1, 0, 0, .int (0)) := by decide +kernel
theorem i_15_21 : aIns 15 21 = some (.istore 4, 2, 0, 0, .null) := by decide +kernel
theorem i_15_23 : aIns 15 23 = some (.iload_n 3, 1, 0, 0, .null) := by decide +kernel
theorem i_15_24 : aIns 15 24 = some (.ifCond .eq 58, 3, 0, 0, .null) := by decide +kernel
theorem i_15_27 : aIns 15 27 = some (.iload 4, 2, 0, 0, .null) := by decide +kernel
theorem i_15_29 : aIns 15 29 = some (.ldc 127, 2, 0, 0, .int (1000000)) := by decide +kernel
theorem i_15_31 : aIns 15 31 = some (.if_icmp .ge 51, 3, 0, 0, .null) := by decide +kernel
theorem i_15_34 : aIns 15 34 = some (.aload_n 0, 1, 0, 0, .null) := by decide +kernel
theorem i_15_35 : aIns 15 35 = some (.iload_n 2, 1, 0, 0, .null) := by decide +kernel
theorem i_15_36 : aIns 15 36 = some (.invokevirtual 128, 3, 18, 1, .int 2) := by decide +kernel
theorem i_15_39 : aIns 15 39 = some (.ifCond .eq 31, 3, 0, 0, .null) := by decide +kernel
theorem i_15_42 : aIns 15 42 = some (.aload_n 0, 1, 0, 0, .null) := by decide +kernel
theorem i_15_43 : aIns 15 43 = some (.getfield 12, 3, 2, 2, .null) := by decide +kernel
theorem i_15_46 : aIns 15 46 = some (.aload_n 0, 1, 0, 0, .null) := by decide +kernel
theorem i_15_47 : aIns 15 47 = some (.iload_n 1, 1, 0, 0, .null) := by decide +kernel
theorem i_15_48 : aIns 15 48 = some (.iload_n 2, 1, 0, 0, .null) := by decide +kernel
theorem i_15_49 : aIns 15 49 = some (.invokevirtual 131, 3, 19, 2, .int 2) := by decide +kernel
theorem i_15_52 : aIns 15 52 = some (.aload_n 0, 1, 0, 0, .null) := by decide +kernel
theorem i_15_53 : aIns 15 53 = some (.aload_n 0, 1, 0, 0, .null) := by decide +kernel
theorem i_15_54 : aIns 15 54 = some (.getfield 18, 3, 2, 3, .null) := by decide +kernel
theorem i_15_57 : aIns 15 57 = some (.iload_n 2, 1, 0, 0, .null) := by decide +kernel
theorem i_15_58 : aIns 15 58 = some (.invokevirtual 134, 3, 21, 2, .int 2) := by decide +kernel
theorem i_15_61 : aIns 15 61 = some (.isub, 1, 0, 0, .null) := by decide +kernel
theorem i_15_62 : aIns 15 62 = some (.aload_n 0, 1, 0, 0, .null) := by decide +kernel
theorem i_15_63 : aIns 15 63 = some (.getfield 18, 3, 2, 3, .null) := by decide +kernel
theorem i_15_66 : aIns 15 66 = some (.iload_n 2, 1, 0, 0, .null) := by decide +kernel
theorem i_15_67 : aIns 15 67 = some (.invokevirtual 109, 3, 2, 3, .int 0) := by decide +kernel
theorem i_15_70 : aIns 15 70 = some (.aload_n 0, 1, 0, 0, .null) := by decide +kernel
theorem i_15_71 : aIns 15 71 = some (.iload_n 2, 1, 0, 0, .null) := by decide +kernel
theorem i_15_72 : aIns 15 72 = some (.invokevirtual 138, 3, 17, 1, .int 2) := by decide +kernel
theorem i_15_75 : aIns 15 75 = some (.istore_n 3, 1, 0, 0, .null) := by decide +kernel
theorem i_15_76 : aIns 15 76 = some (.iinc 4 1, 3, 0, 0, .null) := by decide +kernel
theorem i_15_79 : aIns 15 79 = some (.goto (-56), 3, 0, 0, .null) := by decide +kernel
theorem i_15_82 : aIns 15 82 = some (.iinc 2 1, 3, 0, 0, .null) := by decide +kernel
theorem i_15_85 : aIns 15 85 = some (.goto (-76), 3, 0, 0, .null) := by decide +kernel
theorem i_15_88 : aIns 15 88 = some (.return_, 1, 0, 0, .null) := by decide +kernel
theorem i_16_0 : aIns 16 0 = some (.aload_n 0, 1, 0, 0, .null) := by decide +kernel
theorem i_16_1 : aIns 16 1 = some (.getfield 18, 3, 2, 3, .null) := by decide +kernel
theorem i_16_4 : aIns 16 4 = some (.iconst 0, 1, 0, 0, .int (0)) := by decide +kernel
theorem i_16_5 : aIns 16 5 = some (.invokestatic 141, 3, 273, 2, .null) := by decide +kernel
theorem i_16_8 : aIns 16 8 = some (.iload_n 1, 1, 0, 0, .null) := by decide +kernel
theorem i_16_9 : aIns 16 9 = some (.ifCond .eq 16, 3, 0, 0, .null) := by decide +kernel
theorem i_16_12 : aIns 16 12 = some (.aload_n 0, 1, 0, 0, .null) := by decide +kernel
theorem i_16_13 : aIns 16 13 = some (.getfield 47, 3, 2, 0, .null) := by decide +kernel
theorem i_16_16 : aIns 16 16 = some (.getfield 59, 3, 10, 0, .null) := by decide +kernel
theorem i_16_19 : aIns 16 19 = some (.getfield 65, 3, 5, 4, .null) := by decide +kernel
theorem i_16_22 : aIns 16 22 = some (.ifCond .le 7, 3, 0, 0, .null) := by decide +kernel
theorem i_16_25 : aIns 16 25 = some (.iconst 1, 1, 0, 0, .int (1)) := by decide +kernel
theorem i_16_26 : aIns 16 26 = some (.goto 4, 3, 0, 0, .null) := by decide +kernel
theorem i_16_29 : aIns 16 29 = some (.iconst 0, 1, 0, 0, .int (0)) := by decide +kernel
theorem i_16_30 : aIns 16 30 = some (.ireturn, 1, 1, 0, .null) := by decide +kernel
theorem i_17_0 : aIns 17 0 = some (.iload_n 1, 1, 0, 0, .null) := by decide +kernel
theorem i_17_1 : aIns 17 1 = some (.iconst 1, 1, 0, 0, .int (1)) := by decide +kernel
theorem i_17_2 : aIns 17 2 = some (.isub, 1, 0, 0, .null) := by decide +kernel
theorem i_17_3 : aIns 17 3 = some (.istore_n 2, 1, 0, 0, .null) := by decide +kernel
theorem i_17_4 : aIns 17 4 = some (.iload_n 2, 1, 0, 0, .null) := by decide +kernel
theorem i_17_5 : aIns 17 5 = some (.ifCond .lt 57, 3, 0, 0, .null) := by decide +kernel
theorem i_17_8 : aIns 17 8 = some (.aload_n 0, 1, 0, 0, .null) := by decide +kernel
theorem i_17_9 : aIns 17 9 = some (.getfield 18, 3, 2, 3, .null) := by decide +kernel
theorem i_17_12 : aIns 17 12 = some (.iload_n 2, 1, 0, 0, .null) := by decide +kernel
theorem i_17_13 : aIns 17 13 = some (.iaload, 1, 0, 0, .null) := by decide +kernel
theorem i_17_14 : aIns 17 14 = some (.iconst 1, 1, 0, 0, .int (1)) := by decide +kernel
theorem i_17_15 : aIns 17 15 = some (.iadd, 1, 0, 0, .null) := by decide +kernel
theorem i_17_16 : aIns 17 16 = some (.istore_n 3, 1, 0, 0, .null) := by decide +kernel
theorem i_17_17 : aIns 17 17 = some (.iload_n 3, 1, 0, 0, .null) := by decide +kernel
theorem i_17_18 : aIns 17 18 = some (.aload_n 0, 1, 0, 0, .null) := by decide +kernel
theorem i_17_19 : aIns 17 19 = some (.getfield 47, 3, 2, 0, .null) := by decide +kernel
theorem i_17_22 : aIns 17 22 = some (.getfield 59, 3, 10, 0, .null) := by decide +kernel
theorem i_17_25 : aIns 17 25 = some (.getfield 65, 3, 5, 4, .null) := by decide +kernel
theorem i_17_28 : aIns 17 28 = some (.if_icmp .ge 28, 3, 0, 0, .null) := by decide +kernel
theorem i_17_31 : aIns 17 31 = some (.iload_n 2, 1, 0, 0, .null) := by decide +kernel
theorem i_17_32 : aIns 17 32 = some (.istore 4, 2, 0, 0, .null) := by decide +kernel
theorem i_17_34 : aIns 17 34 = some (.iload 4, 2, 0, 0, .null) := by decide +kernel
theorem i_17_36 : aIns 17 36 = some (.iload_n 1, 1, 0, 0, .null) := by decide +kernel
theorem i_17_37 : aIns 17 37 = some (.if_icmp .ge 17, 3, 0, 0, .null) := by decide +kernel
theorem i_17_40 : aIns 17 40 = some (.aload_n 0, 1, 0, 0, .null) := by decide +kernel
theorem i_17_41 : aIns 17 41 = some (.getfield 18, 3, 2, 3, .null) := by decide +kernel
theorem i_17_44 : aIns 17 44 = some (.iload 4, 2, 0, 0, .null) := by decide +kernel
theorem i_17_46 : aIns 17 46 = some (.iload_n 3, 1, 0, 0, .null) := by decide +kernel
theorem i_17_47 : aIns 17 47 = some (.iastore, 1, 0, 0, .null) := by decide +kernel
theorem i_17_48 : aIns 17 48 = some (.iinc 4 1, 3, 0, 0, .null) := by decide +kernel
theorem i_17_51 : aIns 17 51 = some (.goto (-17), 3, 0, 0, .null) := by decide +kernel
theorem i_17_54 : aIns 17 54 = some (.iconst 1, 1, 0, 0, .int (1)) := by decide +kernel
theorem i_17_55 : aIns 17 55 = some (.ireturn, 1, 1, 0, .null) := by decide +kernel
theorem i_17_56 : aIns 17 56 = some (.iinc 2 (-1), 3, 0, 0, .null) := by decide +kernel
theorem i_17_59 : aIns 17 59 = some (.goto (-55), 3, 0, 0, .null) := by decide +kernel
theorem i_17_62 : aIns 17 62 = some (.iconst 0, 1, 0, 0, .int (0)) := by decide +kernel
theorem i_17_63 : aIns 17 63 = some (.ireturn, 1, 1, 0, .null) := by decide +kernel
theorem i_18_0 : aIns 18 0 = some (.iconst 0, 1, 0, 0, .int (0)) := by decide +kernel
theorem i_18_1 : aIns 18 1 = some (.istore_n 2, 1, 0, 0, .null) := by decide +kernel
theorem i_18_2 : aIns 18 2 = some (.iconst 0, 1, 0, 0, .int (0)) := by decide +kernel
theorem i_18_3 : aIns 18 3 = some (.istore_n 3, 1, 0, 0, .null) := by decide +kernel
theorem i_18_4 : aIns 18 4 = some (.iload_n 3, 1, 0, 0, .null) := by decide +kernel
theorem i_18_5 : aIns 18 5 = some (.iload_n 1, 1, 0, 0, .null) := by decide +kernel
theorem i_18_6 : aIns 18 6 = some (.if_icmp .ge 75, 3, 0, 0, .null) := by decide +kernel
theorem i_18_9 : aIns 18 9 = some (.aload_n 0, 1, 0, 0, .null) := by decide +kernel
theorem i_18_10 : aIns 18 10 = some (.getfield 18, 3, 2, 3, .null) := by decide +kernel
theorem i_18_13 : aIns 18 13 = some (.iload_n 3, 1, 0, 0, .null) := by decide +kernel
theorem i_18_14 : aIns 18 14 = some (.iaload, 1, 0, 0, .null) := by decide +kernel
theorem i_18_15 : aIns 18 15 = some (.istore 4, 2, 0, 0, .null) := by decide +kernel
theorem i_18_17 : aIns 18 17 = some (.iload_n 3, 1, 0, 0, .null) := by decide +kernel
theorem i_18_18 : aIns 18 18 = some (.ifCond .le 22, 3, 0, 0, .null) := by decide +kernel
theorem i_18_21 : aIns 18 21 = some (.aload_n 0, 1, 0, 0, .null) := by decide +kernel
theorem i_18_22 : aIns 18 22 = some (.getfield 18, 3, 2, 3, .null) := by decide +kernel
theorem i_18_25 : aIns 18 25 = some (.iload_n 3, 1, 0, 0, .null) := by decide +kernel
theorem i_18_26 : aIns 18 26 = some (.iconst 1, 1, 0, 0, .int (1)) := by decide +kernel
theorem i_18_27 : aIns 18 27 = some (.isub, 1, 0, 0, .null) := by decide +kernel
theorem i_18_28 : aIns 18 28 = some (.iaload, 1, 0, 0, .null) := by decide +kernel
theorem i_18_29 : aIns 18 29 = some (.iload 4, 2, 0, 0, .null) := by decide +kernel
theorem i_18_31 : aIns 18 31 = some (.if_icmp .ne 9, 3, 0, 0, .null) := by decide +kernel
theorem i_18_34 : aIns 18 34 = some (.iload_n 2, 1, 0, 0, .null) := by decide +kernel
theorem i_18_35 : aIns 18 35 = some (.iconst 1, 1, 0, 0, .int (1)) := by decide +kernel
theorem i_18_36 : aIns 18 36 = some (.iadd, 1, 0, 0, .null) := by decide +kernel
theorem i_18_37 : aIns 18 37 = some (.goto 4, 3, 0, 0, .null) := by decide +kernel
theorem i_18_40 : aIns 18 40 = some (.iconst 1, 1, 0, 0, .int (1)) := by decide +kernel
theorem i_18_41 : aIns 18 41 = some (.istore_n 2, 1, 0, 0, .null) := by decide +kernel
theorem i_18_42 : aIns 18 42 = some (.aload_n 0, 1, 0, 0, .null) := by decide +kernel
theorem i_18_43 : aIns 18 43 = some (.getfield 47, 3, 2, 0, .null) := by decide +kernel
theorem i_18_46 : aIns 18 46 = some (.getfield 76, 3, 10, 1, .null) := by decide +kernel
theorem i_18_49 : aIns 18 49 = some (.getfield 79, 3, 7, 0, .null) := by decide +kernel
theorem i_18_52 : aIns 18 52 = some (.iload 4, 2, 0, 0, .null) := by decide +kernel
theorem i_18_54 : aIns 18 54 = some (.iaload, 1, 0, 0, .null) := by decide +kernel
theorem i_18_55 : aIns 18 55 = some (.iload_n 2, 1, 0, 0, .null) := by decide +kernel
theorem i_18_56 : aIns 18 56 = some (.iadd, 1, 0, 0, .null) := by decide +kernel
theorem i_18_57 : aIns 18 57 = some (.aload_n 0, 1, 0, 0, .null) := by decide +kernel
theorem i_18_58 : aIns 18 58 = some (.getfield 47, 3, 2, 0, .null) := by decide +kernel
theorem i_18_61 : aIns 18 61 = some (.getfield 76, 3, 10, 1, .null) := by decide +kernel
theorem i_18_64 : aIns 18 64 = some (.getfield 147, 3, 7, 1, .null) := by decide +kernel
theorem i_18_67 : aIns 18 67 = some (.iload 4, 2, 0, 0, .null) := by decide +kernel
theorem i_18_69 : aIns 18 69 = some (.iaload, 1, 0, 0, .null) := by decide +kernel
theorem i_18_70 : aIns 18 70 = some (.if_icmp .le 5, 3, 0, 0, .null) := by decide +kernel
theorem i_18_73 : aIns 18 73 = some (.iconst 0, 1, 0, 0, .int (0)) := by decide +kernel
theorem i_18_74 : aIns 18 74 = some (.ireturn, 1, 1, 0, .null) := by decide +kernel
theorem i_18_75 : aIns 18 75 = some (.iinc 3 1, 3, 0, 0, .null) := by decide +kernel
theorem i_18_78 : aIns 18 78 = some (.goto (-74), 3, 0, 0, .null) := by decide +kernel
theorem i_18_81 : aIns 18 81 = some (.aload_n 0, 1, 0, 0, .null) := by decide +kernel
theorem i_18_82 : aIns 18 82 = some (.getfield 86, 3, 2, 12, .null) := by decide +kernel
theorem i_18_85 : aIns 18 85 = some (.iload_n 1, 1, 0, 0, .null) := by decide +kernel
theorem i_18_86 : aIns 18 86 = some (.iadd, 1, 0, 0, .null) := by decide +kernel
theorem i_18_87 : aIns 18 87 = some (.bipush 12, 2, 0, 0, .int (12)) := by decide +kernel
theorem i_18_89 : aIns 18 89 = some (.if_icmp .gt 7, 3, 0, 0, .null) := by decide +kernel
theorem i_18_92 : aIns 18 92 = some (.iconst 1, 1, 0, 0, .int (1)) := by decide +kernel
theorem i_18_93 : aIns 18 93 = some (.goto 4, 3, 0, 0, .null) := by decide +kernel
theorem i_18_96 : aIns 18 96 = some (.iconst 0, 1, 0, 0, .int (0)) := by decide +kernel
theorem i_18_97 : aIns 18 97 = some (.ireturn, 1, 1, 0, .null) := by decide +kernel
theorem i_19_0 : aIns 19 0 = some (.aload_n 0, 1, 0, 0, .null) := by decide +kernel
theorem i_19_1 : aIns 19 1 = some (.getfield 51, 3, 2, 1, .null) := by decide +kernel
theorem i_19_4 : aIns 19 4 = some (.aload_n 0, 1, 0, 0, .null) := by decide +kernel
theorem i_19_5 : aIns 19 5 = some (.getfield 86, 3, 2, 12, .null) := by decide +kernel
theorem i_19_8 : aIns 19 8 = some (.iload_n 2, 1, 0, 0, .null) := by decide +kernel
theorem i_19_9 : aIns 19 9 = some (.iadd, 1, 0, 0, .null) := by decide +kernel
theorem i_19_10 : aIns 19 10 = some (.aload_n 0, 1, 0, 0, .null) := by decide +kernel
theorem i_19_11 : aIns 19 11 = some (.getfield 55, 3, 2, 11, .null) := by decide +kernel
theorem i_19_14 : aIns 19 14 = some (.aload_n 0, 1, 0, 0, .null) := by decide +kernel
theorem i_19_15 : aIns 19 15 = some (.iload_n 2, 1, 0, 0, .null) := by decide +kernel
theorem i_19_16 : aIns 19 16 = some (.invokevirtual 150, 3, 20, 1, .int 2) := by decide +kernel
theorem i_19_19 : aIns 19 19 = some (.iadd, 1, 0, 0, .null) := by decide +kernel
theorem i_19_20 : aIns 19 20 = some (.aload_n 0, 1, 0, 0, .null) := by decide +kernel
theorem i_19_21 : aIns 19 21 = some (.getfield 47, 3, 2, 0, .null) := by decide +kernel
theorem i_19_24 : aIns 19 24 = some (.getfield 76, 3, 10, 1, .null) := by decide +kernel
theorem i_19_27 : aIns 19 27 = some (.getfield 154, 3, 7, 6, .null) := by decide +kernel
theorem i_19_30 : aIns 19 30 = some (.aload_n 0, 1, 0, 0, .null) := by decide +kernel
theorem i_19_31 : aIns 19 31 = some (.getfield 47, 3, 2, 0, .null) := by decide +kernel
theorem i_19_34 : aIns 19 34 = some (.getfield 76, 3, 10, 1, .null) := by decide +kernel
theorem i_19_37 : aIns 19 37 = some (.getfield 157, 3, 7, 8, .null) := by decide +kernel
theorem i_19_40 : aIns 19 40 = some (.iload_n 1, 1, 0, 0, .null) := by decide +kernel
theorem i_19_41 : aIns 19 41 = some (.invokevirtual 105, 3, 94, 5, .int 9) := by decide +kernel
theorem i_19_44 : aIns 19 44 = some (.ireturn, 1, 0, 0, .null) := by decide +kernel
theorem i_20_0 : aIns 20 0 = some (.iconst 0, 1, 0, 0, .int (0)) := by decide +kernel
theorem i_20_1 : aIns 20 1 = some (.istore_n 2, 1, 0, 0, .null) := by decide +kernel
theorem i_20_2 : aIns 20 2 = some (.iconst 0, 1, 0, 0, .int (0)) := by decide +kernel
theorem i_20_3 : aIns 20 3 = some (.istore_n 3, 1, 0, 0, .null) := by decide +kernel
theorem i_20_4 : aIns 20 4 = some (.iload_n 3, 1, 0, 0, .null) := by decide +kernel
theorem i_20_5 : aIns 20 5 = some (.iload_n 1, 1, 0, 0, .null) := by decide +kernel
theorem i_20_6 : aIns 20 6 = some (.if_icmp .ge 23, 3, 0, 0, .null) := by decide +kernel
theorem i_20_9 : aIns 20 9 = some (.iload_n 2, 1, 0, 0, .null) := by decide +kernel
theorem i_20_10 : aIns 20 10 = some (.aload_n 0, 1, 0, 0, .null) := by decide +kernel
theorem i_20_11 : aIns 20 11 = some (.getfield 22, 3, 2, 4, .null) := by decide +kernel
theorem i_20_14 : aIns 20 14 = some (.aload_n 0, 1, 0, 0, .null) := by decide +kernel
theorem i_20_15 : aIns 20 15 = some (.getfield 18, 3, 2, 3, .null) := by decide +kernel
theorem i_20_18 : aIns 20 18 = some (.iload_n 3, 1, 0, 0, .null) := by decide +kernel
theorem i_20_19 : aIns 20 19 = some (.iaload, 1, 0, 0, .null) := by decide +kernel
theorem i_20_20 : aIns 20 20 = some (.iaload, 1, 0, 0, .null) := by decide +kernel
theorem i_20_21 : aIns 20 21 = some (.iadd, 1, 0, 0, .null) := by decide +kernel
theorem i_20_22 : aIns 20 22 = some (.istore_n 2, 1, 0, 0, .null) := by decide +kernel
theorem i_20_23 : aIns 20 23 = some (.iinc 3 1, 3, 0, 0, .null) := by decide +kernel
theorem i_20_26 : aIns 20 26 = some (.goto (-22), 3, 0, 0, .null) := by decide +kernel
theorem i_20_29 : aIns 20 29 = some (.iload_n 2, 1, 0, 0, .null) := by decide +kernel
theorem i_20_30 : aIns 20 30 = some (.ireturn, 1, 0, 0, .null) := by decide +kernel
theorem i_21_0 : aIns 21 0 = some (.iconst 0, 1, 0, 0, .int (0)) := by decide +kernel
theorem i_21_1 : aIns 21 1 = some (.istore_n 3, 1, 0, 0, .null) := by decide +kernel
theorem i_21_2 : aIns 21 2 = some (.iconst 0, 1, 0, 0, .int (0)) := by decide +kernel
theorem i_21_3 : aIns 21 3 = some (.istore 4, 2, 0, 0, .null) := by decide +kernel
theorem i_21_5 : aIns 21 5 = some (.iload 4, 2, 0, 0, .null) := by decide +kernel
theorem i_21_7 : aIns 21 7 = some (.iload_n 2, 1, 0, 0, .null) := by decide +kernel
theorem i_21_8 : aIns 21 8 = some (.if_icmp .ge 27, 3, 0, 0, .null) := by decide +kernel
theorem i_21_11 : aIns 21 11 = some (.iload_n 3, 1, 0, 0, .null) := by decide +kernel
theorem i_21_12 : aIns 21 12 = some (.aload_n 0, 1, 0, 0, .null) := by decide +kernel
theorem i_21_13 : aIns 21 13 = some (.getfield 47, 3, 2, 0, .null) := by decide +kernel
theorem i_21_16 : aIns 21 16 = some (.getfield 59, 3, 10, 0, .null) := by decide +kernel
theorem i_21_19 : aIns 21 19 = some (.getfield 160, 3, 5, 6, .null) := by decide +kernel
theorem i_21_22 : aIns 21 22 = some (.aload_n 1, 1, 0, 0, .null) := by decide +kernel
theorem i_21_23 : aIns 21 23 = some (.iload 4, 2, 0, 0, .null) := by decide +kernel
theorem i_21_25 : aIns 21 25 = some (.iaload, 1, 0, 0, .null) := by decide +kernel
theorem i_21_26 : aIns 21 26 = some (.iaload, 1, 0, 0, .null) := by decide +kernel
theorem i_21_27 : aIns 21 27 = some (.iadd, 1, 0, 0, .null) := by decide +kernel
theorem i_21_28 : aIns 21 28 = some (.istore_n 3, 1, 0, 0, .null) := by decide +kernel
theorem i_21_29 : aIns 21 29 = some (.iinc 4 1, 3, 0, 0, .null) := by decide +kernel
theorem i_21_32 : aIns 21 32 = some (.goto (-27), 3, 0, 0, .null) := by decide +kernel
theorem i_21_35 : aIns 21 35 = some (.iload_n 3, 1, 0, 0, .null) := by decide +kernel
theorem i_21_36 : aIns 21 36 = some (.ireturn, 1, 0, 0, .null) := by decide +kernel
theorem i_22_0 : aIns 22 0 = some (.aload_n 0, 1, 0, 0, .null) := by decide +kernel
theorem i_22_1 : aIns 22 1 = some (.aload_n 0, 1, 0, 0, .null) := by decide +kernel
theorem i_22_2 : aIns 22 2 = some (.getfield 47, 3, 2, 0, .null) := by decide +kernel
theorem i_22_5 : aIns 22 5 = some (.getfield 76, 3, 10, 1, .null) := by decide +kernel
theorem i_22_8 : aIns 22 8 = some (.getfield 92, 3, 7, 13, .null) := by decide +kernel
theorem i_22_11 : aIns 22 11 = some (.invokevirtual 95, 3, 12, 1, .int 2) := by decide +kernel
theorem i_22_14 : aIns 22 14 = some (.aload_n 0, 1, 0, 0, .null) := by decide +kernel
theorem i_22_15 : aIns 22 15 = some (.iconst (-1), 1, 0, 0, .int (-1)) := by decide +kernel
theorem i_22_16 : aIns 22 16 = some (.putfield 163, 3, 2, 13, .null) := by decide +kernel
theorem i_22_19 : aIns 22 19 = some (.iconst 0, 1, 0, 0, .int (0)) := by decide +kernel
theorem i_22_20 : aIns 22 20 = some (.istore_n 1, 1, 0, 0, .null) := by decide +kernel
theorem i_22_21 : aIns 22 21 = some (.iload_n 1, 1, 0, 0, .null) := by decide +kernel
theorem i_22_22 : aIns 22 22 = some (.sipush 9500, 3, 0, 0, .int (9500)) := by decide +kernel
theorem i_22_25 : aIns 22 25 = some (.if_icmp .gt 75, 3, 0, 0, .null) := by decide +kernel
theorem i_22_28 : aIns 22 28 = some (.aload_n 0, 1, 0, 0, .null) := by decide +kernel
theorem i_22_29 : aIns 22 29 = some (.iload_n 1, 1, 0, 0, .null) := by decide +kernel
theorem i_22_30 : aIns 22 30 = some (.invokevirtual 166, 3, 15, 1, .int 2) := by decide +kernel
theorem i_22_33 : aIns 22 33 = some (.aload_n 0, 1, 0, 0, .null) := by decide +kernel
theorem i_22_34 : aIns 22 34 = some (.aload_n 0, 1, 0, 0, .null) := by decide +kernel
theorem i_22_35 : aIns 22 35 = some (.getfield 12, 3, 2, 2, .null) := by decide +kernel
theorem i_22_38 : aIns 22 38 = some (.getfield 169, 3, 0, 3, .null) := by decide +kernel
theorem i_22_41 : aIns 22 41 = some (.aload_n 0, 1, 0, 0, .null) := by decide +kernel
theorem i_22_42 : aIns 22 42 = some (.getfield 12, 3, 2, 2, .null) := by decide +kernel
theorem i_22_45 : aIns 22 45 = some (.getfield 170, 3, 0, 2, .null) := by decide +kernel
theorem i_22_48 : aIns 22 48 = some (.invokevirtual 134, 3, 21, 2, .int 2) := by decide +kernel
theorem i_22_51 : aIns 22 51 = some (.istore_n 2, 1, 0, 0, .null) := by decide +kernel
theorem i_22_52 : aIns 22 52 = some (.aload_n 0, 1, 0, 0, .null) := by decide +kernel
theorem i_22_53 : aIns 22 53 = some (.getfield 12, 3, 2, 2, .null) := by decide +kernel
theorem i_22_56 : aIns 22 56 = some (.getfield 173, 3, 0, 1, .null) := by decide +kernel
theorem i_22_59 : aIns 22 59 = some (.iload_n 2, 1, 0, 0, .null) := by decide +kernel
theorem i_22_60 : aIns 22 60 = some (.iadd, 1, 0, 0, .null) := by decide +kernel
theorem i_22_61 : aIns 22 61 = some (.iload_n 2, 1, 0, 0, .null) := by decide +kernel
theorem i_22_62 : aIns 22 62 = some (.iconst 2, 1, 0, 0, .int (2)) := by decide +kernel
theorem i_22_63 : aIns 22 63 = some (.idiv, 1, 0, 0, .null) := by decide +kernel
theorem i_22_64 : aIns 22 64 = some (.isub, 1, 0, 0, .null) := by decide +kernel
theorem i_22_65 : aIns 22 65 = some (.istore_n 3, 1, 0, 0, .null) := by decide +kernel
theorem i_22_66 : aIns 22 66 = some (.aload_n 0, 1, 0, 0, .null) := by decide +kernel
theorem i_22_67 : aIns 22 67 = some (.getfield 163, 3, 2, 13, .null) := by decide +kernel
theorem i_22_70 : aIns 22 70 = some (.ifCond .lt 11, 3, 0, 0, .null) := by decide +kernel
theorem i_22_73 : aIns 22 73 = some (.iload_n 3, 1, 0, 0, .null) := by decide +kernel
theorem i_22_74 : aIns 22 74 = some (.aload_n 0, 1, 0, 0, .null) := by decide +kernel
theorem i_22_75 : aIns 22 75 = some (.getfield 176, 3, 2, 14, .null) := by decide +kernel
theorem i_22_78 : aIns 22 78 = some (.if_icmp .le 13, 3, 0, 0, .null) := by decide +kernel
theorem i_22_81 : aIns 22 81 = some (.aload_n 0, 1, 0, 0, .null) := by decide +kernel
theorem i_22_82 : aIns 22 82 = some (.iload_n 1, 1, 0, 0, .null) := by decide +kernel
theorem i_22_83 : aIns 22 83 = some (.putfield 163, 3, 2, 13, .null) := by decide +kernel
theorem i_22_86 : aIns 22 86 = some (.aload_n 0, 1, 0, 0, .null) := by decide +kernel
theorem i_22_87 : aIns 22 87 = some (.iload_n 3, 1, 0, 0, .null) := by decide +kernel
theorem i_22_88 : aIns 22 88 = some (.putfield 176, 3, 2, 14, .null) := by decide +kernel
theorem i_22_91 : aIns 22 91 = some (.iinc 1 500, 6, 0, 0, .null) := by decide +kernel
theorem i_22_97 : aIns 22 97 = some (.goto (-76), 3, 0, 0, .null) := by decide +kernel
theorem i_22_100 : aIns 22 100 = some (.return_, 1, 0, 0, .null) := by decide +kernel
theorem i_23_0 : aIns 23 0 = some (.aload_n 0, 1, 0, 0, .null) := by decide +kernel
theorem i_23_1 : aIns 23 1 = some (.getfield 12, 3, 2, 2, .null) := by decide +kernel
theorem i_23_4 : aIns 23 4 = some (.invokevirtual 89, 3, 1, 0, .int 0) := by decide +kernel
theorem i_23_7 : aIns 23 7 = some (.aload_n 0, 1, 0, 0, .null) := by decide +kernel
theorem i_23_8 : aIns 23 8 = some (.aload_n 0, 1, 0, 0, .null) := by decide +kernel
theorem i_23_9 : aIns 23 9 = some (.getfield 47, 3, 2, 0, .null) := by decide +kernel
theorem i_23_12 : aIns 23 12 = some (.getfield 76, 3, 10, 1, .null) := by decide +kernel
theorem i_23_15 : aIns 23 15 = some (.getfield 92, 3, 7, 13, .null) := by decide +kernel
theorem i_23_18 : aIns 23 18 = some (.invokevirtual 95, 3, 12, 1, .int 2) := by decide +kernel
theorem i_23_21 : aIns 23 21 = some (.aload_n 0, 1, 0, 0, .null) := by decide +kernel
theorem i_23_22 : aIns 23 22 = some (.getfield 25, 3, 2, 5, .null) := by decide +kernel
theorem i_23_25 : aIns 23 25 = some (.iconst 0, 1, 0, 0, .int (0)) := by decide +kernel
theorem i_23_26 : aIns 23 26 = some (.invokestatic 141, 3, 273, 2, .null) := by decide +kernel
theorem i_23_29 : aIns 23 29 = some (.aload_n 0, 1, 0, 0, .null) := by decide +kernel
theorem i_23_30 : aIns 23 30 = some (.iconst 0, 1, 0, 0, .int (0)) := by decide +kernel
theorem i_23_31 : aIns 23 31 = some (.iconst 0, 1, 0, 0, .int (0)) := by decide +kernel
theorem i_23_32 : aIns 23 32 = some (.invokevirtual 179, 3, 24, 2, .int 2) := by decide +kernel
theorem i_23_35 : aIns 23 35 = some (.return_, 1, 0, 0, .null) := by decide +kernel
theorem i_24_0 : aIns 24 0 = some (.iload_n 1, 1, 0, 0, .null) := by decide +kernel
theorem i_24_1 : aIns 24 1 = some (.aload_n 0, 1, 0, 0, .null) := by decide +kernel
theorem i_24_2 : aIns 24 2 = some (.getfield 47, 3, 2, 0, .null) := by decide +kernel
theorem i_24_5 : aIns 24 5 = some (.getfield 59, 3, 10, 0, .null) := by decide +kernel
theorem i_24_8 : aIns 24 8 = some (.getfield 183, 3, 5, 8, .null) := by decide +kernel
theorem i_24_11 : aIns 24 11 = some (.if_icmp .lt 21, 3, 0, 0, .null) := by decide +kernel
theorem i_24_14 : aIns 24 14 = some (.aload_n 0, 1, 0, 0, .null) := by decide +kernel
theorem i_24_15 : aIns 24 15 = some (.getfield 12, 3, 2, 2, .null) := by decide +kernel
theorem i_24_18 : aIns 24 18 = some (.aload_n 0, 1, 0, 0, .null) := by decide +kernel
theorem i_24_19 : aIns 24 19 = some (.iload_n 2, 1, 0, 0, .null) := by decide +kernel
theorem i_24_20 : aIns 24 20 = some (.invokevirtual 186, 3, 25, 1, .int 2) := by decide +kernel
theorem i_24_23 : aIns 24 23 = some (.aload_n 0, 1, 0, 0, .null) := by decide +kernel
theorem i_24_24 : aIns 24 24 = some (.getfield 18, 3, 2, 3, .null) := by decide +kernel
theorem i_24_27 : aIns 24 27 = some (.iload_n 1, 1, 0, 0, .null) := by decide +kernel
theorem i_24_28 : aIns 24 28 = some (.invokevirtual 109, 3, 2, 3, .int 0) := by decide +kernel
theorem i_24_31 : aIns 24 31 = some (.return_, 1, 0, 0, .null) := by decide +kernel
theorem i_24_32 : aIns 24 32 = some (.aload_n 0, 1, 0, 0, .null) := by decide +kernel
theorem i_24_33 : aIns 24 33 = some (.getfield 22, 3, 2, 4, .null) := by decide +kernel
theorem i_24_36 : aIns 24 36 = some (.aload_n 0, 1, 0, 0, .null) := by decide +kernel
theorem i_24_37 : aIns 24 37 = some (.getfield 47, 3, 2, 0, .null) := by decide +kernel
theorem i_24_40 : aIns 24 40 = some (.getfield 59, 3, 10, 0, .null) := by decide +kernel
theorem i_24_43 : aIns 24 43 = some (.getfield 189, 3, 5, 9, .null) := by decide +kernel
theorem i_24_46 : aIns 24 46 = some (.iload_n 1, 1, 0, 0, .null) := by decide +kernel
theorem i_24_47 : aIns 24 47 = some (.iaload, 1, 0, 0, .null) := by decide +kernel
theorem i_24_48 : aIns 24 48 = some (.iaload, 1, 0, 0, .null) := by decide +kernel
theorem i_24_49 : aIns 24 49 = some (.istore_n 3, 1, 0, 0, .null) := by decide +kernel
theorem i_24_50 : aIns 24 50 = some (.iconst 0, 1, 0, 0, .int (0)) := by decide +kernel
theorem i_24_51 : aIns 24 51 = some (.istore 4, 2, 0, 0, .null) := by decide +kernel
theorem i_24_53 : aIns 24 53 = some (.iload 4, 2, 0, 0, .null) := by decide +kernel
theorem i_24_55 : aIns 24 55 = some (.iload_n 2, 1, 0, 0, .null) := by decide +kernel
theorem i_24_56 : aIns 24 56 = some (.if_icmp .gt 61, 3, 0, 0, .null) := by decide +kernel
theorem i_24_59 : aIns 24 59 = some (.iload 4, 2, 0, 0, .null) := by decide +kernel
theorem i_24_61 : aIns 24 61 = some (.bipush 6, 2, 0, 0, .int (6)) := by decide +kernel
theorem i_24_63 : aIns 24 63 = some (.if_icmp .ge 54, 3, 0, 0, .null) := by decide +kernel
theorem i_24_66 : aIns 24 66 = some (.aload_n 0, 1, 0, 0, .null) := by decide +kernel
theorem i_24_67 : aIns 24 67 = some (.getfield 18, 3, 2, 3, .null) := by decide +kernel
theorem i_24_70 : aIns 24 70 = some (.iload_n 1, 1, 0, 0, .null) := by decide +kernel
theorem i_24_71 : aIns 24 71 = some (.iload 4, 2, 0, 0, .null) := by decide +kernel
theorem i_24_73 : aIns 24 73 = some (.iastore, 1, 0, 0, .null) := by decide +kernel
theorem i_24_74 : aIns 24 74 = some (.aload_n 0, 1, 0, 0, .null) := by decide +kernel
theorem i_24_75 : aIns 24 75 = some (.getfield 25, 3, 2, 5, .null) := by decide +kernel
theorem i_24_78 : aIns 24 78 = some (.iload 4, 2, 0, 0, .null) := by decide +kernel
theorem i_24_80 : aIns 24 80 = some (.dup2, 1, 0, 0, .null) := by decide +kernel
theorem i_24_81 : aIns 24 81 = some (.iaload, 1, 0, 0, .null) := by decide +kernel
theorem i_24_82 : aIns 24 82 = some (.iload_n 3, 1, 0, 0, .null) := by decide +kernel
theorem i_24_83 : aIns 24 83 = some (.iadd, 1, 0, 0, .null) := by decide +kernel
theorem i_24_84 : aIns 24 84 = some (.iastore, 1, 0, 0, .null) := by decide +kernel
theorem i_24_85 : aIns 24 85 = some (.aload_n 0, 1, 0, 0, .null) := by decide +kernel
theorem i_24_86 : aIns 24 86 = some (.iload_n 1, 1, 0, 0, .null) := by decide +kernel
theorem i_24_87 : aIns 24 87 = some (.iconst 1, 1, 0, 0, .int (1)) := by decide +kernel
theorem i_24_88 : aIns 24 88 = some (.iadd, 1, 0, 0, .null) := by decide +kernel
theorem i_24_89 : aIns 24 89 = some (.iload_n 2, 1, 0, 0, .null) := by decide +kernel
theorem i_24_90 : aIns 24 90 = some (.iload 4, 2, 0, 0, .null) := by decide +kernel
theorem i_24_92 : aIns 24 92 = some (.iconst 1, 1, 0, 0, .int (1)) := by decide +kernel
theorem i_24_93 : aIns 24 93 = some (.iadd, 1, 0, 0, .null) := by decide +kernel
theorem i_24_94 : aIns 24 94 = some (.invokestatic 192, 3, 1001, 0, .null) := by decide +kernel
theorem i_24_97 : aIns 24 97 = some (.invokevirtual 179, 3, 24, 2, .int 2) := by decide +kernel
theorem i_24_100 : aIns 24 100 = some (.aload_n 0, 1, 0, 0, .null) := by decide +kernel
theorem i_24_101 : aIns 24 101 = some (.getfield 25, 3, 2, 5, .null) := by decide +kernel
theorem i_24_104 : aIns 24 104 = some (.iload 4, 2, 0, 0, .null) := by decide +kernel
theorem i_24_106 : aIns 24 106 = some (.dup2, 1, 0, 0, .null) := by decide +kernel
theorem i_24_107 : aIns 24 107 = some (.iaload, 1, 0, 0, .null) := by decide +kernel
theorem i_24_108 : aIns 24 108 = some (.iload_n 3, 1, 0, 0, .null) := by decide +kernel
theorem i_24_109 : aIns 24 109 = some (.isub, 1, 0, 0, .null) := by decide +kernel
theorem i_24_110 : aIns 24 110 = some (.iastore, 1, 0, 0, .null) := by decide +kernel
theorem i_24_111 : aIns 24 111 = some (.iinc 4 1, 3, 0, 0, .null) := by decide +kernel
theorem i_24_114 : aIns 24 114 = some (.goto (-61), 3, 0, 0, .null) := by decide +kernel
theorem i_24_117 : aIns 24 117 = some (.return_, 1, 0, 0, .null) := by decide +kernel
theorem i_25_0 : aIns 25 0 = some (.iconst 0, 1, 0, 0, .int (0)) := by decide +kernel
theorem i_25_1 : aIns 25 1 = some (.istore_n 2, 1, 0, 0, .null) := by decide +kernel
theorem i_25_2 : aIns 25 2 = some (.iconst 0, 1, 0, 0, .int (0)) := by decide +kernel
theorem i_25_3 : aIns 25 3 = some (.istore_n 3, 1, 0, 0, .null) := by decide +kernel
theorem i_25_4 : aIns 25 4 = some (.iload_n 3, 1, 0, 0, .null) := by decide +kernel
theorem i_25_5 : aIns 25 5 = some (.iload_n 1, 1, 0, 0, .null) := by decide +kernel
theorem i_25_6 : aIns 25 6 = some (.if_icmp .ge 25, 3, 0, 0, .null) := by decide +kernel
theorem i_25_9 : aIns 25 9 = some (.iload_n 2, 1, 0, 0, .null) := by decide +kernel
theorem i_25_10 : aIns 25 10 = some (.aload_n 0, 1, 0, 0, .null) := by decide +kernel
theorem i_25_11 : aIns 25 11 = some (.getfield 51, 3, 2, 1, .null) := by decide +kernel
theorem i_25_14 : aIns 25 14 = some (.aload_n 0, 1, 0, 0, .null) := by decide +kernel
theorem i_25_15 : aIns 25 15 = some (.getfield 25, 3, 2, 5, .null) := by decide +kernel
theorem i_25_18 : aIns 25 18 = some (.iload_n 3, 1, 0, 0, .null) := by decide +kernel
theorem i_25_19 : aIns 25 19 = some (.iaload, 1, 0, 0, .null) := by decide +kernel
theorem i_25_20 : aIns 25 20 = some (.invokevirtual 197, 3, 95, 1, .int 9) := by decide +kernel
theorem i_25_23 : aIns 25 23 = some (.iadd, 1, 0, 0, .null) := by decide +kernel
theorem i_25_24 : aIns 25 24 = some (.istore_n 2, 1, 0, 0, .null) := by decide +kernel
theorem i_25_25 : aIns 25 25 = some (.iinc 3 1, 3, 0, 0, .null) := by decide +kernel
theorem i_25_28 : aIns 25 28 = some (.goto (-24), 3, 0, 0, .null) := by decide +kernel
theorem i_25_31 : aIns 25 31 = some (.iload_n 2, 1, 0, 0, .null) := by decide +kernel
theorem i_25_32 : aIns 25 32 = some (.ireturn, 1, 0, 0, .null) := by decide +kernel
theorem i_58_0 : aIns 58 0 = some (.iconst 0, 1, 0, 0, .int (0)) := by decide +kernel
theorem i_58_1 : aIns 58 1 = some (.istore 4, 2, 0, 0, .null) := by decide +kernel
theorem i_58_3 : aIns 58 3 = some (.iload 4, 2, 0, 0, .null) := by decide +kernel
theorem i_58_5 : aIns 58 5 = some (.iload_n 3, 1, 0, 0, .null) := by decide +kernel
theorem i_58_6 : aIns 58 6 = some (.if_icmp .ge 36, 3, 0, 0, .null) := by decide +kernel
theorem i_58_9 : aIns 58 9 = some (.aload_n 2, 1, 0, 0, .null) := by decide +kernel
theorem i_58_10 : aIns 58 10 = some (.iload 4, 2, 0, 0, .null) := by decide +kernel
theorem i_58_12 : aIns 58 12 = some (.iaload, 1, 0, 0, .null) := by decide +kernel
theorem i_58_13 : aIns 58 13 = some (.iload_n 1, 1, 0, 0, .null) := by decide +kernel
theorem i_58_14 : aIns 58 14 = some (.if_icmp .eq 20, 3, 0, 0, .null) := by decide +kernel
theorem i_58_17 : aIns 58 17 = some (.aload_n 0, 1, 0, 0, .null) := by decide +kernel
theorem i_58_18 : aIns 58 18 = some (.getfield 45, 3, 5, 19, .null) := by decide +kernel
theorem i_58_21 : aIns 58 21 = some (.iload_n 1, 1, 0, 0, .null) := by decide +kernel
theorem i_58_22 : aIns 58 22 = some (.iaload, 1, 0, 0, .null) := by decide +kernel
theorem i_58_23 : aIns 58 23 = some (.aload_n 2, 1, 0, 0, .null) := by decide +kernel
theorem i_58_24 : aIns 58 24 = some (.iload 4, 2, 0, 0, .null) := by decide +kernel
theorem i_58_26 : aIns 58 26 = some (.iaload, 1, 0, 0, .null) := by decide +kernel
theorem i_58_27 : aIns 58 27 = some (.ishr, 1, 0, 0, .null) := by decide +kernel
theorem i_58_28 : aIns 58 28 = some (.iconst 1, 1, 0, 0, .int (1)) := by decide +kernel
theorem i_58_29 : aIns 58 29 = some (.iand, 1, 0, 0, .null) := by decide +kernel
theorem i_58_30 : aIns 58 30 = some (.iconst 1, 1, 0, 0, .int (1)) := by decide +kernel
theorem i_58_31 : aIns 58 31 = some (.if_icmp .ne 5, 3, 0, 0, .null) := by decide +kernel
theorem i_58_34 : aIns 58 34 = some (.iconst 0, 1, 0, 0, .int (0)) := by decide +kernel
theorem i_58_35 : aIns 58 35 = some (.ireturn, 1, 1, 0, .null) := by decide +kernel
theorem i_58_36 : aIns 58 36 = some (.iinc 4 1, 3, 0, 0, .null) := by decide +kernel
theorem i_58_39 : aIns 58 39 = some (.goto (-36), 3, 0, 0, .null) := by decide +kernel
theorem i_58_42 : aIns 58 42 = some (.iconst 1, 1, 0, 0, .int (1)) := by decide +kernel
theorem i_58_43 : aIns 58 43 = some (.ireturn, 1, 1, 0, .null) := by decide +kernel
theorem i_77_0 : aIns 77 0 = some (.aload_n 0, 1, 0, 0, .null) := by decide +kernel
theorem i_77_1 : aIns 77 1 = some (.getfield 58, 3, 7, 10, .null) := by decide +kernel
theorem i_77_4 : aIns 77 4 = some (.iload_n 1, 1, 0, 0, .null) := by decide +kernel
theorem i_77_5 : aIns 77 5 = some (.ishr, 1, 0, 0, .null) := by decide +kernel
theorem i_77_6 : aIns 77 6 = some (.iconst 1, 1, 0, 0, .int (1)) := by decide +kernel
theorem i_77_7 : aIns 77 7 = some (.iand, 1, 0, 0, .null) := by decide +kernel
theorem i_77_8 : aIns 77 8 = some (.iconst 1, 1, 0, 0, .int (1)) := by decide +kernel
theorem i_77_9 : aIns 77 9 = some (.if_icmp .ne 7, 3, 0, 0, .null) := by decide +kernel
theorem i_77_12 : aIns 77 12 = some (.iconst 1, 1, 0, 0, .int (1)) := by decide +kernel
theorem i_77_13 : aIns 77 13 = some (.goto 4, 3, 0, 0, .null) := by decide +kernel
theorem i_77_16 : aIns 77 16 = some (.iconst 0, 1, 0, 0, .int (0)) := by decide +kernel
theorem i_77_17 : aIns 77 17 = some (.ireturn, 1, 1, 0, .null) := by decide +kernel
theorem i_90_0 : aIns 90 0 = some (.aload_n 0, 1, 0, 0, .null) := by decide +kernel
theorem i_90_1 : aIns 90 1 = some (.aload_n 0, 1, 0, 0, .null) := by decide +kernel
theorem i_90_2 : aIns 90 2 = some (.getfield 21, 3, 9, 0, .null) := by decide +kernel
theorem i_90_5 : aIns 90 5 = some (.getfield 67, 3, 10, 1, .null) := by decide +kernel
theorem i_90_8 : aIns 90 8 = some (.aload_n 0, 1, 0, 0, .null) := by decide +kernel
theorem i_90_9 : aIns 90 9 = some (.getfield 21, 3, 9, 0, .null) := by decide +kernel
theorem i_90_12 : aIns 90 12 = some (.getfield 71, 3, 10, 2, .null) := by decide +kernel
theorem i_90_15 : aIns 90 15 = some (.iload_n 1, 1, 0, 0, .null) := by decide +kernel
theorem i_90_16 : aIns 90 16 = some (.iload_n 2, 1, 0, 0, .null) := by decide +kernel
theorem i_90_17 : aIns 90 17 = some (.aload_n 0, 1, 0, 0, .null) := by decide +kernel
theorem i_90_18 : aIns 90 18 = some (.getfield 21, 3, 9, 0, .null) := by decide +kernel
theorem i_90_21 : aIns 90 21 = some (.getfield 67, 3, 10, 1, .null) := by decide +kernel
theorem i_90_24 : aIns 90 24 = some (.getfield 74, 3, 7, 3, .null) := by decide +kernel
theorem i_90_27 : aIns 90 27 = some (.iload_n 1, 1, 0, 0, .null) := by decide +kernel
theorem i_90_28 : aIns 90 28 = some (.iaload, 1, 0, 0, .null) := by decide +kernel
theorem i_90_29 : aIns 90 29 = some (.invokevirtual 77, 3, 89, 5, .int 9) := by decide +kernel
theorem i_90_32 : aIns 90 32 = some (.ireturn, 1, 0, 0, .null) := by decide +kernel
theorem i_94_0 : aIns 94 0 = some (.aload_n 0, 1, 0, 0, .null) := by decide +kernel
theorem i_94_1 : aIns 94 1 = some (.iconst 0, 1, 0, 0, .int (0)) := by decide +kernel
theorem i_94_2 : aIns 94 2 = some (.putfield 113, 3, 9, 4, .null) := by decide +kernel
theorem i_94_5 : aIns 94 5 = some (.iload_n 1, 1, 0, 0, .null) := by decide +kernel
theorem i_94_6 : aIns 94 6 = some (.iconst 1, 1, 0, 0, .int (1)) := by decide +kernel
theorem i_94_7 : aIns 94 7 = some (.if_icmp .ge 5, 3, 0, 0, .null) := by decide +kernel
theorem i_94_10 : aIns 94 10 = some (.iconst 0, 1, 0, 0, .int (0)) := by decide +kernel
theorem i_94_11 : aIns 94 11 = some (.ireturn, 1, 0, 0, .null) := by decide +kernel
theorem i_94_12 : aIns 94 12 = some (.aload_n 0, 1, 0, 0, .null) := by decide +kernel
theorem i_94_13 : aIns 94 13 = some (.getfield 21, 3, 9, 0, .null) := by decide +kernel
theorem i_94_16 : aIns 94 16 = some (.getfield 26, 3, 10, 0, .null) := by decide +kernel
theorem i_94_19 : aIns 94 19 = some (.astore 6, 2, 0, 0, .null) := by decide +kernel
theorem i_94_21 : aIns 94 21 = some (.iload_n 2, 1, 0, 0, .null) := by decide +kernel
theorem i_94_22 : aIns 94 22 = some (.istore 7, 2, 0, 0, .null) := by decide +kernel
theorem i_94_24 : aIns 94 24 = some (.iconst 0, 1, 0, 0, .int (0)) := by decide +kernel
theorem i_94_25 : aIns 94 25 = some (.istore 8, 2, 0, 0, .null) := by decide +kernel
theorem i_94_27 : aIns 94 27 = some (.iconst 0, 1, 0, 0, .int (0)) := by decide +kernel
theorem i_94_28 : aIns 94 28 = some (.istore 9, 2, 0, 0, .null) := by decide +kernel
theorem i_94_30 : aIns 94 30 = some (.iload 9, 2, 0, 0, .null) := by decide +kernel
theorem i_94_32 : aIns 94 32 = some (.iload 4, 2, 0, 0, .null) := by decide +kernel
theorem i_94_34 : aIns 94 34 = some (.if_icmp .ge 105, 3, 0, 0, .null) := by decide +kernel
theorem i_94_37 : aIns 94 37 = some (.aload_n 3, 1, 0, 0, .null) := by decide +kernel
theorem i_94_38 : aIns 94 38 = some (.iload 9, 2, 0, 0, .null) := by decide +kernel
theorem i_94_40 : aIns 94 40 = some (.iaload, 1, 0, 0, .null) := by decide +kernel
theorem i_94_41 : aIns 94 41 = some (.istore 10, 2, 0, 0, .null) := by decide +kernel
theorem i_94_43 : aIns 94 43 = some (.iload 7, 2, 0, 0, .null) := by decide +kernel
theorem i_94_45 : aIns 94 45 = some (.aload 6, 2, 0, 0, .null) := by decide +kernel
theorem i_94_47 : aIns 94 47 = some (.getfield 116, 3, 5, 18, .null) := by decide +kernel
theorem i_94_50 : aIns 94 50 = some (.iload 10, 2, 0, 0, .null) := by decide +kernel
theorem i_94_52 : aIns 94 52 = some (.iaload, 1, 0, 0, .null) := by decide +kernel
theorem i_94_53 : aIns 94 53 = some (.if_icmp .lt 80, 3, 0, 0, .null) := by decide +kernel
theorem i_94_56 : aIns 94 56 = some (.aload 6, 2, 0, 0, .null) := by decide +kernel
theorem i_94_58 : aIns 94 58 = some (.getfield 119, 3, 5, 17, .null) := by decide +kernel
theorem i_94_61 : aIns 94 61 = some (.iload 10, 2, 0, 0, .null) := by decide +kernel
theorem i_94_63 : aIns 94 63 = some (.iaload, 1, 0, 0, .null) := by decide +kernel
theorem i_94_64 : aIns 94 64 = some (.istore 11, 2, 0, 0, .null) := by decide +kernel
theorem i_94_66 : aIns 94 66 = some (.aload 6, 2, 0, 0, .null) := by decide +kernel
theorem i_94_68 : aIns 94 68 = some (.getfield 122, 3, 5, 16, .null) := by decide +kernel
theorem i_94_71 : aIns 94 71 = some (.iload 10, 2, 0, 0, .null) := by decide +kernel
theorem i_94_73 : aIns 94 73 = some (.iaload, 1, 0, 0, .null) := by decide +kernel
theorem i_94_74 : aIns 94 74 = some (.lookupswitch 56 #[(10, 26), (11, 42)], 26, 0, 0, .null) := by decide +kernel
theorem i_94_100 : aIns 94 100 = some (.iload 7, 2, 0, 0, .null) := by decide +kernel
theorem i_94_102 : aIns 94 102 = some (.iload 7, 2, 0, 0, .null) := by decide +kernel
theorem i_94_104 : aIns 94 104 = some (.iload 11, 2, 0, 0, .null) := by decide +kernel
theorem i_94_106 : aIns 94 106 = some (.imul, 1, 0, 0, .null) := by decide +kernel
theorem i_94_107 : aIns 94 107 = some (.bipush 100, 2, 0, 0, .int (100)) := by decide +kernel
theorem i_94_109 : aIns 94 109 = some (.idiv, 1, 0, 0, .null) := by decide +kernel
theorem i_94_110 : aIns 94 110 = some (.isub, 1, 0, 0, .null) := by decide +kernel
theorem i_94_111 : aIns 94 111 = some (.istore 7, 2, 0, 0, .null) := by decide +kernel
theorem i_94_113 : aIns 94 113 = some (.goto 20, 3, 0, 0, .null) := by decide +kernel
theorem i_94_116 : aIns 94 116 = some (.iconst 0, 1, 0, 0, .int (0)) := by decide +kernel
theorem i_94_117 : aIns 94 117 = some (.iload 7, 2, 0, 0, .null) := by decide +kernel
theorem i_94_119 : aIns 94 119 = some (.iload 11, 2, 0, 0, .null) := by decide +kernel
theorem i_94_121 : aIns 94 121 = some (.isub, 1, 0, 0, .null) := by decide +kernel
theorem i_94_122 : aIns 94 122 = some (.invokestatic 46, 3, 1001, 0, .null) := by decide +kernel
theorem i_94_125 : aIns 94 125 = some (.istore 7, 2, 0, 0, .null) := by decide +kernel
theorem i_94_127 : aIns 94 127 = some (.goto 6, 3, 0, 0, .null) := by decide +kernel
theorem i_94_130 : aIns 94 130 = some (.iconst 1, 1, 0, 0, .int (1)) := by decide +kernel
theorem i_94_131 : aIns 94 131 = some (.istore 8, 2, 0, 0, .null) := by decide +kernel
theorem i_94_133 : aIns 94 133 = some (.iinc 9 1, 3, 0, 0, .null) := by decide +kernel
theorem i_94_136 : aIns 94 136 = some (.goto (-106), 3, 0, 0, .null) := by decide +kernel
theorem i_94_139 : aIns 94 139 = some (.aload_n 0, 1, 0, 0, .null) := by decide +kernel
theorem i_94_140 : aIns 94 140 = some (.iload 7, 2, 0, 0, .null) := by decide +kernel
theorem i_94_142 : aIns 94 142 = some (.iload 5, 2, 0, 0, .null) := by decide +kernel
theorem i_94_144 : aIns 94 144 = some (.if_icmp .ge 16, 3, 0, 0, .null) := by decide +kernel
theorem i_94_147 : aIns 94 147 = some (.iload 8, 2, 0, 0, .null) := by decide +kernel
theorem i_94_149 : aIns 94 149 = some (.ifCond .ne 11, 3, 0, 0, .null) := by decide +kernel
theorem i_94_152 : aIns 94 152 = some (.aload 6, 2, 0, 0, .null) := by decide +kernel
theorem i_94_154 : aIns 94 154 = some (.getfield 125, 3, 5, 1, .null) := by decide +kernel
theorem i_94_157 : aIns 94 157 = some (.goto 4, 3, 0, 0, .null) := by decide +kernel
theorem i_94_160 : aIns 94 160 = some (.iconst 0, 1, 0, 0, .int (0)) := by decide +kernel
theorem i_94_161 : aIns 94 161 = some (.putfield 113, 3, 9, 4, .null) := by decide +kernel
theorem i_94_164 : aIns 94 164 = some (.iload 7, 2, 0, 0, .null) := by decide +kernel
theorem i_94_166 : aIns 94 166 = some (.aload_n 0, 1, 0, 0, .null) := by decide +kernel
theorem i_94_167 : aIns 94 167 = some (.getfield 113, 3, 9, 4, .null) := by decide +kernel
theorem i_94_170 : aIns 94 170 = some (.iadd, 1, 0, 0, .null) := by decide +kernel
theorem i_94_171 : aIns 94 171 = some (.ireturn, 1, 0, 0, .null) := by decide +kernel
theorem i_95_0 : aIns 95 0 = some (.iload_n 1, 1, 0, 0, .null) := by decide +kernel
theorem i_95_1 : aIns 95 1 = some (.ifCond .le 32, 3, 0, 0, .null) := by decide +kernel
theorem i_95_4 : aIns 95 4 = some (.iload_n 1, 1, 0, 0, .null) := by decide +kernel
theorem i_95_5 : aIns 95 5 = some (.aload_n 0, 1, 0, 0, .null) := by decide +kernel
theorem i_95_6 : aIns 95 6 = some (.getfield 21, 3, 9, 0, .null) := by decide +kernel
theorem i_95_9 : aIns 95 9 = some (.getfield 26, 3, 10, 0, .null) := by decide +kernel
theorem i_95_12 : aIns 95 12 = some (.getfield 106, 3, 5, 2, .null) := by decide +kernel
theorem i_95_15 : aIns 95 15 = some (.if_icmp .ge 18, 3, 0, 0, .null) := by decide +kernel
theorem i_95_18 : aIns 95 18 = some (.iload_n 1, 1, 0, 0, .null) := by decide +kernel
theorem i_95_19 : aIns 95 19 = some (.aload_n 0, 1, 0, 0, .null) := by decide +kernel
theorem i_95_20 : aIns 95 20 = some (.getfield 21, 3, 9, 0, .null) := by decide +kernel
theorem i_95_23 : aIns 95 23 = some (.getfield 26, 3, 10, 0, .null) := by decide +kernel
theorem i_95_26 : aIns 95 26 = some (.getfield 125, 3, 5, 1, .null) := by decide +kernel
theorem i_95_29 : aIns 95 29 = some (.iadd, 1, 0, 0, .null) := by decide +kernel
theorem i_95_30 : aIns 95 30 = some (.goto 4, 3, 0, 0, .null) := by decide +kernel
theorem i_95_33 : aIns 95 33 = some (.iload_n 1, 1, 0, 0, .null) := by decide +kernel
theorem i_95_34 : aIns 95 34 = some (.ireturn, 1, 0, 0, .null) := by decide +kernel
theorem i_273_0 : aIns 273 0 = some (.iconst 0, 1, 0, 0, .int (0)) := by decide +kernel
theorem i_273_1 : aIns 273 1 = some (.istore_n 2, 1, 0, 0, .null) := by decide +kernel
theorem i_273_2 : aIns 273 2 = some (.aload_n 0, 1, 0, 0, .null) := by decide +kernel
theorem i_273_3 : aIns 273 3 = some (.arraylength, 1, 0, 0, .null) := by decide +kernel
theorem i_273_4 : aIns 273 4 = some (.istore_n 3, 1, 0, 0, .null) := by decide +kernel
theorem i_273_5 : aIns 273 5 = some (.iload_n 2, 1, 0, 0, .null) := by decide +kernel
theorem i_273_6 : aIns 273 6 = some (.iload_n 3, 1, 0, 0, .null) := by decide +kernel
theorem i_273_7 : aIns 273 7 = some (.if_icmp .ge 13, 3, 0, 0, .null) := by decide +kernel
theorem i_273_10 : aIns 273 10 = some (.aload_n 0, 1, 0, 0, .null) := by decide +kernel
theorem i_273_11 : aIns 273 11 = some (.iload_n 2, 1, 0, 0, .null) := by decide +kernel
theorem i_273_12 : aIns 273 12 = some (.iload_n 1, 1, 0, 0, .null) := by decide +kernel
theorem i_273_13 : aIns 273 13 = some (.iastore, 1, 0, 0, .null) := by decide +kernel
theorem i_273_14 : aIns 273 14 = some (.iinc 2 1, 3, 0, 0, .null) := by decide +kernel
theorem i_273_17 : aIns 273 17 = some (.goto (-12), 3, 0, 0, .null) := by decide +kernel
theorem i_273_20 : aIns 273 20 = some (.return_, 1, 0, 0, .null) := by decide +kernel
def d_90 (g : Nat) (a0 : Nat) (x1 : Int32) (x2 : Int32) (h0 : aH) : Option (Int32 × aH) := ((gR h0 a0 9 0).bind (fun f_1 => ((gR h0 f_1 10 1).bind (fun f_3 => ((gR h0 a0 9 0).bind (fun f_5 => ((gI h0 f_5 10 2).bind (fun f_7 => ((gR h0 a0 9 0).bind (fun f_9 => ((gR h0 f_9 10 1).bind (fun f_11 => ((gR h0 f_11 7 3).bind (fun f_13 => ((gA h0 f_13 x1).bind (fun f_15 => (if isO h0 a0 9 = true then ((d_89 g a0 f_3 f_7 x1 x2 f_15 h0).bind (fun z_20 => some (z_20.1, z_20.2))) else none)))))))))))))))))
set_option maxHeartbeats 4000000 in
set_option maxRecDepth 100000 in
theorem d_90_ok {X : aX} {g : Nat} {a0 : Nat} {x1 : Int32} {x2 : Int32} {h0 : aH} {zz : Int32 × aH} {d : Nat} (hdp : 4 ≤ d) (hd : d_90 g a0 x1 x2 h0 = some zz) : aWp X d 90 0 (aEntL [.ref a0, .int x1, .int x2] 3) [] h0 (fun w h' => w = some (.int zz.1) ∧ h' = zz.2) := by
  unfold d_90 at hd
  refine wp_lv (l2 := [some (.ref a0), some (.int x1), some (.int x2)]) rfl ?_
  obtain ⟨e, rfl⟩ : ∃ e, d = e + 1 := ⟨d - 1, by omega⟩
  refine wp_s 1 [some (.ref a0), some (.int x1), some (.int x2)] [.ref a0] h0 i_90_0 rfl ?_
  refine wp_s 2 [some (.ref a0), some (.int x1), some (.int x2)] [.ref a0, .ref a0] h0 i_90_1 rfl ?_
  obtain ⟨f_1, q_2, hd⟩ := dk_bind hd
  refine hp_gR 5 rfl i_90_2 q_2 ?_
  obtain ⟨f_3, q_4, hd⟩ := dk_bind hd
  refine hp_gR 8 rfl i_90_5 q_4 ?_
  refine wp_s 9 [some (.ref a0), some (.int x1), some (.int x2)] [.ref a0, .ref f_3, .ref a0] h0 i_90_8 rfl ?_
  obtain ⟨f_5, q_6, hd⟩ := dk_bind hd
  refine hp_gR 12 rfl i_90_9 q_6 ?_
  obtain ⟨f_7, q_8, hd⟩ := dk_bind hd
  refine hp_gI 15 rfl i_90_12 q_8 ?_
  refine wp_s 16 [some (.ref a0), some (.int x1), some (.int x2)] [.int x1, .int f_7, .ref f_3, .ref a0] h0 i_90_15 rfl ?_
  refine wp_s 17 [some (.ref a0), some (.int x1), some (.int x2)] [.int x2, .int x1, .int f_7, .ref f_3, .ref a0] h0 i_90_16 rfl ?_
  refine wp_s 18 [some (.ref a0), some (.int x1), some (.int x2)] [.ref a0, .int x2, .int x1, .int f_7, .ref f_3, .ref a0] h0 i_90_17 rfl ?_
  obtain ⟨f_9, q_10, hd⟩ := dk_bind hd
  refine hp_gR 21 rfl i_90_18 q_10 ?_
  obtain ⟨f_11, q_12, hd⟩ := dk_bind hd
  refine hp_gR 24 rfl i_90_21 q_12 ?_
  obtain ⟨f_13, q_14, hd⟩ := dk_bind hd
  refine hp_gR 27 rfl i_90_24 q_14 ?_
  refine wp_s 28 [some (.ref a0), some (.int x1), some (.int x2)] [.int x1, .ref f_13, .int x2, .int x1, .int f_7, .ref f_3, .ref a0] h0 i_90_27 rfl ?_
  obtain ⟨f_15, q_16, hd⟩ := dk_bind hd
  refine hp_gA 29 rfl i_90_28 q_16 ?_
  obtain ⟨k_17, hd⟩ := dk_if hd
  obtain ⟨fs_18, o_19⟩ := isO_of k_17
  obtain ⟨z_20, q_21, hd⟩ := dk_bind hd
  refine wp_callV 32 rfl i_90_29 (by decide) rfl (vs := [.ref f_3, .int f_7, .int x1, .int x2, .int f_15]) (rest := []) rfl rfl rfl o_19 (y := m_89) rfl (Nat.le_of_ble_eq_true rfl) (d_89_ok (d := e) (by omega) q_21) ?_
  rintro v_22 h_23 ⟨rfl, rfl⟩
  obtain rfl := Option.some.inj hd
  exact wp_iret i_90_32 ⟨rfl, rfl⟩
def l_12 (g n tag : Nat) (a0 : Nat) (x1 : Int32) (x2 : Int32) (h0 : aH) : Option (aH) := match n with
  | 0 => none
  | n + 1 => if tag = 0 then ((gR h0 a0 2 0).bind (fun f_1 => ((gR h0 f_1 10 0).bind (fun f_3 => ((gI h0 f_3 5 4).bind (fun f_5 => (if f_5 ≤ x2 then ((gR h0 a0 2 0).bind (fun f_8 => ((gR h0 f_8 10 1).bind (fun f_10 => (if isO h0 f_10 7 = true then ((d_73 g f_10 h0).bind (fun z_15 => ((sF z_15.2 a0 2 12 (.int z_15.1)).bind (fun h_19 => some h_19)))) else none))))) else ((gR h0 a0 2 4).bind (fun f_21 => ((gR h0 a0 2 1).bind (fun f_23 => (if isO h0 f_23 9 = true then ((d_90 g f_23 x2 x1 h0).bind (fun z_28 => ((sA z_28.2 f_21 x2 z_28.1).bind (fun h_32 => ((gI h_32 a0 2 11).bind (fun f_34 => ((gR h_32 a0 2 0).bind (fun f_36 => ((gR h_32 f_36 10 1).bind (fun f_38 => ((gR h_32 f_38 7 0).bind (fun f_40 => ((gA h_32 f_40 x2).bind (fun f_42 => ((gR h_32 a0 2 4).bind (fun f_44 => ((gA h_32 f_44 x2).bind (fun f_46 => ((sF h_32 a0 2 11 (.int (f_34 + (f_42 * f_46)))).bind (fun h_48 => (l_12 g n 0 a0 x1 (x2 + (1 : Int32)) h_48))))))))))))))))))))) else none)))))))))))) else none
set_option maxHeartbeats 4000000 in
set_option maxRecDepth 100000 in
theorem l_12_ok {X : aX} {g : Nat} {d : Nat} (hdp : 5 ≤ d) : ∀ n, (∀ (a0 : Nat) (x1 : Int32) (x2 : Int32) (h0 : aH) (zz : aH), l_12 g n 0 a0 x1 x2 h0 = some zz → aWp X d 12 7 [some (.ref a0), some (.int x1), some (.int x2)] [] h0 (fun w h' => w = none ∧ h' = zz)) := by
  intro n
  induction n with
  | zero => exact fun _ _ _ _ _ hd => by simp [l_12] at hd
  | succ n ih =>
    intro a0 x1 x2 h0 zz hd
    unfold l_12 at hd
    rw [if_pos rfl] at hd
    obtain ⟨e, rfl⟩ : ∃ e, d = e + 1 := ⟨d - 1, by omega⟩
    refine wp_s 8 [some (.ref a0), some (.int x1), some (.int x2)] [.int x2] h0 i_12_7 rfl ?_
    refine wp_s 9 [some (.ref a0), some (.int x1), some (.int x2)] [.ref a0, .int x2] h0 i_12_8 rfl ?_
    obtain ⟨f_1, q_2, hd⟩ := dk_bind hd
    refine hp_gR 12 rfl i_12_9 q_2 ?_
    obtain ⟨f_3, q_4, hd⟩ := dk_bind hd
    refine hp_gR 15 rfl i_12_12 q_4 ?_
    obtain ⟨f_5, q_6, hd⟩ := dk_bind hd
    refine hp_gI 18 rfl i_12_15 q_6 ?_
    refine wp_cmp_ge 70 21 rfl rfl i_12_18 (fun c_7 => ?_) (fun c_7 => ?_)
    · rw [if_pos c_7] at hd
      refine wp_s 71 [some (.ref a0), some (.int x1), some (.int x2)] [.ref a0] h0 i_12_70 rfl ?_
      refine wp_s 72 [some (.ref a0), some (.int x1), some (.int x2)] [.ref a0, .ref a0] h0 i_12_71 rfl ?_
      obtain ⟨f_8, q_9, hd⟩ := dk_bind hd
      refine hp_gR 75 rfl i_12_72 q_9 ?_
      obtain ⟨f_10, q_11, hd⟩ := dk_bind hd
      refine hp_gR 78 rfl i_12_75 q_11 ?_
      obtain ⟨k_12, hd⟩ := dk_if hd
      obtain ⟨fs_13, o_14⟩ := isO_of k_12
      obtain ⟨z_15, q_16, hd⟩ := dk_bind hd
      refine wp_callV 81 rfl i_12_78 (by decide) rfl (vs := []) (rest := [.ref a0]) rfl rfl rfl o_14 (y := m_73) rfl (Nat.le_of_ble_eq_true rfl) (d_73_ok (d := e) (by omega) q_16) ?_
      rintro v_17 h_18 ⟨rfl, rfl⟩
      obtain ⟨h_19, q_20, hd⟩ := dk_bind hd
      refine hp_sF 84 rfl i_12_81 q_20 ?_
      obtain rfl := Option.some.inj hd
      exact wp_ret i_12_84 rfl ⟨rfl, rfl⟩
    · rw [if_neg c_7] at hd
      refine wp_s 22 [some (.ref a0), some (.int x1), some (.int x2)] [.ref a0] h0 i_12_21 rfl ?_
      obtain ⟨f_21, q_22, hd⟩ := dk_bind hd
      refine hp_gR 25 rfl i_12_22 q_22 ?_
      refine wp_s 26 [some (.ref a0), some (.int x1), some (.int x2)] [.int x2, .ref f_21] h0 i_12_25 rfl ?_
      refine wp_s 27 [some (.ref a0), some (.int x1), some (.int x2)] [.ref a0, .int x2, .ref f_21] h0 i_12_26 rfl ?_
      obtain ⟨f_23, q_24, hd⟩ := dk_bind hd
      refine hp_gR 30 rfl i_12_27 q_24 ?_
      refine wp_s 31 [some (.ref a0), some (.int x1), some (.int x2)] [.int x2, .ref f_23, .int x2, .ref f_21] h0 i_12_30 rfl ?_
      refine wp_s 32 [some (.ref a0), some (.int x1), some (.int x2)] [.int x1, .int x2, .ref f_23, .int x2, .ref f_21] h0 i_12_31 rfl ?_
      obtain ⟨k_25, hd⟩ := dk_if hd
      obtain ⟨fs_26, o_27⟩ := isO_of k_25
      obtain ⟨z_28, q_29, hd⟩ := dk_bind hd
      refine wp_callV 35 rfl i_12_32 (by decide) rfl (vs := [.int x2, .int x1]) (rest := [.int x2, .ref f_21]) rfl rfl rfl o_27 (y := m_90) rfl (Nat.le_of_ble_eq_true rfl) (d_90_ok (d := e) (by omega) q_29) ?_
      rintro v_30 h_31 ⟨rfl, rfl⟩
      obtain ⟨h_32, q_33, hd⟩ := dk_bind hd
      refine hp_sA 36 rfl i_12_35 q_33 ?_
      refine wp_s 37 [some (.ref a0), some (.int x1), some (.int x2)] [.ref a0] h_32 i_12_36 rfl ?_
      refine wp_s 38 [some (.ref a0), some (.int x1), some (.int x2)] [.ref a0, .ref a0] h_32 i_12_37 rfl ?_
      obtain ⟨f_34, q_35, hd⟩ := dk_bind hd
      refine hp_gI 41 rfl i_12_38 q_35 ?_
      refine wp_s 42 [some (.ref a0), some (.int x1), some (.int x2)] [.ref a0, .int f_34, .ref a0] h_32 i_12_41 rfl ?_
      obtain ⟨f_36, q_37, hd⟩ := dk_bind hd
      refine hp_gR 45 rfl i_12_42 q_37 ?_
      obtain ⟨f_38, q_39, hd⟩ := dk_bind hd
      refine hp_gR 48 rfl i_12_45 q_39 ?_
      obtain ⟨f_40, q_41, hd⟩ := dk_bind hd
      refine hp_gR 51 rfl i_12_48 q_41 ?_
      refine wp_s 52 [some (.ref a0), some (.int x1), some (.int x2)] [.int x2, .ref f_40, .int f_34, .ref a0] h_32 i_12_51 rfl ?_
      obtain ⟨f_42, q_43, hd⟩ := dk_bind hd
      refine hp_gA 53 rfl i_12_52 q_43 ?_
      refine wp_s 54 [some (.ref a0), some (.int x1), some (.int x2)] [.ref a0, .int f_42, .int f_34, .ref a0] h_32 i_12_53 rfl ?_
      obtain ⟨f_44, q_45, hd⟩ := dk_bind hd
      refine hp_gR 57 rfl i_12_54 q_45 ?_
      refine wp_s 58 [some (.ref a0), some (.int x1), some (.int x2)] [.int x2, .ref f_44, .int f_42, .int f_34, .ref a0] h_32 i_12_57 rfl ?_
      obtain ⟨f_46, q_47, hd⟩ := dk_bind hd
      refine hp_gA 59 rfl i_12_58 q_47 ?_
      refine wp_s 60 [some (.ref a0), some (.int x1), some (.int x2)] [.int (f_42 * f_46), .int f_34, .ref a0] h_32 i_12_59 rfl ?_
      refine wp_s 61 [some (.ref a0), some (.int x1), some (.int x2)] [.int (f_34 + (f_42 * f_46)), .ref a0] h_32 i_12_60 rfl ?_
      obtain ⟨h_48, q_49, hd⟩ := dk_bind hd
      refine hp_sF 64 rfl i_12_61 q_49 ?_
      refine wp_s 67 [some (.ref a0), some (.int x1), some (.int (x2 + (1 : Int32)))] [] h_48 i_12_64 rfl ?_
      refine wp_s 7 [some (.ref a0), some (.int x1), some (.int (x2 + (1 : Int32)))] [] h_48 i_12_67 rfl ?_
      exact aWp.forget (ih _ _ _ _ _ hd) (lvS (lvS (lvS lvE)))
def d_12 (g : Nat) (a0 : Nat) (x1 : Int32) (h0 : aH) : Option (aH) := ((sF h0 a0 2 11 (.int (0 : Int32))).bind (fun h_1001 => (l_12 g g 0 a0 x1 (0 : Int32) h_1001)))
set_option maxHeartbeats 4000000 in
set_option maxRecDepth 100000 in
theorem d_12_ok {X : aX} {g : Nat} {a0 : Nat} {x1 : Int32} {h0 : aH} {zz : aH} {d : Nat} (hdp : 5 ≤ d) (hd : d_12 g a0 x1 h0 = some zz) : aWp X d 12 0 (aEntL [.ref a0, .int x1] 3) [] h0 (fun w h' => w = none ∧ h' = zz) := by
  unfold d_12 at hd
  refine wp_lv (l2 := [some (.ref a0), some (.int x1), none]) rfl ?_
  obtain ⟨e, rfl⟩ : ∃ e, d = e + 1 := ⟨d - 1, by omega⟩
  refine wp_s 1 [some (.ref a0), some (.int x1), none] [.ref a0] h0 i_12_0 rfl ?_
  refine wp_s 2 [some (.ref a0), some (.int x1), none] [.int (0 : Int32), .ref a0] h0 i_12_1 rfl ?_
  obtain ⟨h_1001, q_1002, hd⟩ := dk_bind hd
  refine hp_sF 5 rfl i_12_2 q_1002 ?_
  refine wp_s 6 [some (.ref a0), some (.int x1), none] [.int (0 : Int32)] h_1001 i_12_5 rfl ?_
  refine wp_s 7 [some (.ref a0), some (.int x1), some (.int (0 : Int32))] [] h_1001 i_12_6 rfl ?_
  exact aWp.forget ((l_12_ok hdp g) _ _ _ _ _ hd) (lvS (lvS (lvS lvE)))
def l_58 (g n tag : Nat) (a0 : Nat) (x1 : Int32) (a2 : Nat) (x3 : Int32) (x4 : Int32) (h0 : aH) : Option (Int32 × aH) := match n with
  | 0 => none
  | n + 1 => if tag = 0 then (if x3 ≤ x4 then some ((1 : Int32), h0) else ((gA h0 a2 x4).bind (fun f_2 => (if f_2 = x1 then some ((0 : Int32), h0) else ((gR h0 a0 5 19).bind (fun f_5 => ((gA h0 f_5 x1).bind (fun f_7 => ((gA h0 a2 x4).bind (fun f_9 => (if ¬ ((f_7 >>> (f_9 &&& 31)) &&& (1 : Int32)) = (1 : Int32) then (l_58 g n 0 a0 x1 a2 x3 (x4 + (1 : Int32)) h0) else some ((0 : Int32), h0)))))))))))) else none
set_option maxHeartbeats 4000000 in
set_option maxRecDepth 100000 in
theorem l_58_ok {X : aX} {g : Nat} {d : Nat} (hdp : 0 ≤ d) : ∀ n, (∀ (a0 : Nat) (x1 : Int32) (a2 : Nat) (x3 : Int32) (x4 : Int32) (h0 : aH) (zz : Int32 × aH), l_58 g n 0 a0 x1 a2 x3 x4 h0 = some zz → aWp X d 58 3 [some (.ref a0), some (.int x1), some (.ref a2), some (.int x3), some (.int x4)] [] h0 (fun w h' => w = some (.int zz.1) ∧ h' = zz.2)) := by
  intro n
  induction n with
  | zero => exact fun _ _ _ _ _ _ _ hd => by simp [l_58] at hd
  | succ n ih =>
    intro a0 x1 a2 x3 x4 h0 zz hd
    unfold l_58 at hd
    rw [if_pos rfl] at hd
    refine wp_s 5 [some (.ref a0), some (.int x1), some (.ref a2), some (.int x3), some (.int x4)] [.int x4] h0 i_58_3 rfl ?_
    refine wp_s 6 [some (.ref a0), some (.int x1), some (.ref a2), some (.int x3), some (.int x4)] [.int x3, .int x4] h0 i_58_5 rfl ?_
    refine wp_cmp_ge 42 9 rfl rfl i_58_6 (fun c_1 => ?_) (fun c_1 => ?_)
    · rw [if_pos c_1] at hd
      refine wp_s 43 [some (.ref a0), some (.int x1), some (.ref a2), some (.int x3), some (.int x4)] [.int (1 : Int32)] h0 i_58_42 rfl ?_
      obtain rfl := Option.some.inj hd
      exact wp_iretZ (z := 0) i_58_43 (by decide) ⟨rfl, rfl⟩
    · rw [if_neg c_1] at hd
      refine wp_s 10 [some (.ref a0), some (.int x1), some (.ref a2), some (.int x3), some (.int x4)] [.ref a2] h0 i_58_9 rfl ?_
      refine wp_s 12 [some (.ref a0), some (.int x1), some (.ref a2), some (.int x3), some (.int x4)] [.int x4, .ref a2] h0 i_58_10 rfl ?_
      obtain ⟨f_2, q_3, hd⟩ := dk_bind hd
      refine hp_gA 13 rfl i_58_12 q_3 ?_
      refine wp_s 14 [some (.ref a0), some (.int x1), some (.ref a2), some (.int x3), some (.int x4)] [.int x1, .int f_2] h0 i_58_13 rfl ?_
      refine wp_cmp_eq 34 17 rfl rfl i_58_14 (fun c_4 => ?_) (fun c_4 => ?_)
      · rw [if_pos c_4] at hd
        refine wp_s 35 [some (.ref a0), some (.int x1), some (.ref a2), some (.int x3), some (.int x4)] [.int (0 : Int32)] h0 i_58_34 rfl ?_
        obtain rfl := Option.some.inj hd
        exact wp_iretZ (z := 0) i_58_35 (by decide) ⟨rfl, rfl⟩
      · rw [if_neg c_4] at hd
        refine wp_s 18 [some (.ref a0), some (.int x1), some (.ref a2), some (.int x3), some (.int x4)] [.ref a0] h0 i_58_17 rfl ?_
        obtain ⟨f_5, q_6, hd⟩ := dk_bind hd
        refine hp_gR 21 rfl i_58_18 q_6 ?_
        refine wp_s 22 [some (.ref a0), some (.int x1), some (.ref a2), some (.int x3), some (.int x4)] [.int x1, .ref f_5] h0 i_58_21 rfl ?_
        obtain ⟨f_7, q_8, hd⟩ := dk_bind hd
        refine hp_gA 23 rfl i_58_22 q_8 ?_
        refine wp_s 24 [some (.ref a0), some (.int x1), some (.ref a2), some (.int x3), some (.int x4)] [.ref a2, .int f_7] h0 i_58_23 rfl ?_
        refine wp_s 26 [some (.ref a0), some (.int x1), some (.ref a2), some (.int x3), some (.int x4)] [.int x4, .ref a2, .int f_7] h0 i_58_24 rfl ?_
        obtain ⟨f_9, q_10, hd⟩ := dk_bind hd
        refine hp_gA 27 rfl i_58_26 q_10 ?_
        refine wp_s 28 [some (.ref a0), some (.int x1), some (.ref a2), some (.int x3), some (.int x4)] [.int (f_7 >>> (f_9 &&& 31))] h0 i_58_27 rfl ?_
        refine wp_s 29 [some (.ref a0), some (.int x1), some (.ref a2), some (.int x3), some (.int x4)] [.int (1 : Int32), .int (f_7 >>> (f_9 &&& 31))] h0 i_58_28 rfl ?_
        refine wp_s 30 [some (.ref a0), some (.int x1), some (.ref a2), some (.int x3), some (.int x4)] [.int ((f_7 >>> (f_9 &&& 31)) &&& (1 : Int32))] h0 i_58_29 rfl ?_
        refine wp_s 31 [some (.ref a0), some (.int x1), some (.ref a2), some (.int x3), some (.int x4)] [.int (1 : Int32), .int ((f_7 >>> (f_9 &&& 31)) &&& (1 : Int32))] h0 i_58_30 rfl ?_
        refine wp_cmp_ne 36 34 rfl rfl i_58_31 (fun c_11 => ?_) (fun c_11 => ?_)
        · rw [if_pos c_11] at hd
          refine wp_s 39 [some (.ref a0), some (.int x1), some (.ref a2), some (.int x3), some (.int (x4 + (1 : Int32)))] [] h0 i_58_36 rfl ?_
          refine wp_s 3 [some (.ref a0), some (.int x1), some (.ref a2), some (.int x3), some (.int (x4 + (1 : Int32)))] [] h0 i_58_39 rfl ?_
          exact aWp.forget (ih _ _ _ _ _ _ _ hd) (lvS (lvS (lvS (lvS (lvS lvE)))))
        · rw [if_neg c_11] at hd
          refine wp_s 35 [some (.ref a0), some (.int x1), some (.ref a2), some (.int x3), some (.int x4)] [.int (0 : Int32)] h0 i_58_34 rfl ?_
          obtain rfl := Option.some.inj hd
          exact wp_iretZ (z := 0) i_58_35 (by decide) ⟨rfl, rfl⟩
def d_58 (g : Nat) (a0 : Nat) (x1 : Int32) (a2 : Nat) (x3 : Int32) (h0 : aH) : Option (Int32 × aH) := (l_58 g g 0 a0 x1 a2 x3 (0 : Int32) h0)
set_option maxHeartbeats 4000000 in
set_option maxRecDepth 100000 in
theorem d_58_ok {X : aX} {g : Nat} {a0 : Nat} {x1 : Int32} {a2 : Nat} {x3 : Int32} {h0 : aH} {zz : Int32 × aH} {d : Nat} (hdp : 0 ≤ d) (hd : d_58 g a0 x1 a2 x3 h0 = some zz) : aWp X d 58 0 (aEntL [.ref a0, .int x1, .ref a2, .int x3] 5) [] h0 (fun w h' => w = some (.int zz.1) ∧ h' = zz.2) := by
  unfold d_58 at hd
  refine wp_lv (l2 := [some (.ref a0), some (.int x1), some (.ref a2), some (.int x3), none]) rfl ?_
  refine wp_s 1 [some (.ref a0), some (.int x1), some (.ref a2), some (.int x3), none] [.int (0 : Int32)] h0 i_58_0 rfl ?_
  refine wp_s 3 [some (.ref a0), some (.int x1), some (.ref a2), some (.int x3), some (.int (0 : Int32))] [] h0 i_58_1 rfl ?_
  exact aWp.forget ((l_58_ok hdp g) _ _ _ _ _ _ _ hd) (lvS (lvS (lvS (lvS (lvS lvE)))))
def d_77 (g : Nat) (a0 : Nat) (x1 : Int32) (h0 : aH) : Option (Int32 × aH) := ((gI h0 a0 7 10).bind (fun f_1 => (if ¬ ((f_1 >>> (x1 &&& 31)) &&& (1 : Int32)) = (1 : Int32) then some ((0 : Int32), h0) else some ((1 : Int32), h0))))
set_option maxHeartbeats 4000000 in
set_option maxRecDepth 100000 in
theorem d_77_ok {X : aX} {g : Nat} {a0 : Nat} {x1 : Int32} {h0 : aH} {zz : Int32 × aH} {d : Nat} (hdp : 0 ≤ d) (hd : d_77 g a0 x1 h0 = some zz) : aWp X d 77 0 (aEntL [.ref a0, .int x1] 2) [] h0 (fun w h' => w = some (.int zz.1) ∧ h' = zz.2) := by
  unfold d_77 at hd
  refine wp_lv (l2 := [some (.ref a0), some (.int x1)]) rfl ?_
  refine wp_s 1 [some (.ref a0), some (.int x1)] [.ref a0] h0 i_77_0 rfl ?_
  obtain ⟨f_1, q_2, hd⟩ := dk_bind hd
  refine hp_gI 4 rfl i_77_1 q_2 ?_
  refine wp_s 5 [some (.ref a0), some (.int x1)] [.int x1, .int f_1] h0 i_77_4 rfl ?_
  refine wp_s 6 [some (.ref a0), some (.int x1)] [.int (f_1 >>> (x1 &&& 31))] h0 i_77_5 rfl ?_
  refine wp_s 7 [some (.ref a0), some (.int x1)] [.int (1 : Int32), .int (f_1 >>> (x1 &&& 31))] h0 i_77_6 rfl ?_
  refine wp_s 8 [some (.ref a0), some (.int x1)] [.int ((f_1 >>> (x1 &&& 31)) &&& (1 : Int32))] h0 i_77_7 rfl ?_
  refine wp_s 9 [some (.ref a0), some (.int x1)] [.int (1 : Int32), .int ((f_1 >>> (x1 &&& 31)) &&& (1 : Int32))] h0 i_77_8 rfl ?_
  refine wp_cmp_ne 16 12 rfl rfl i_77_9 (fun c_3 => ?_) (fun c_3 => ?_)
  · rw [if_pos c_3] at hd
    refine wp_s 17 [some (.ref a0), some (.int x1)] [.int (0 : Int32)] h0 i_77_16 rfl ?_
    obtain rfl := Option.some.inj hd
    exact wp_iretZ (z := 0) i_77_17 (by decide) ⟨rfl, rfl⟩
  · rw [if_neg c_3] at hd
    refine wp_s 13 [some (.ref a0), some (.int x1)] [.int (1 : Int32)] h0 i_77_12 rfl ?_
    refine wp_s 17 [some (.ref a0), some (.int x1)] [.int (1 : Int32)] h0 i_77_13 rfl ?_
    obtain rfl := Option.some.inj hd
    exact wp_iretZ (z := 0) i_77_17 (by decide) ⟨rfl, rfl⟩
def l_94 (g n tag : Nat) (a0 : Nat) (x1 : Int32) (x2 : Int32) (a3 : Nat) (x4 : Int32) (x5 : Int32) (a6 : Nat) (x7 : Int32) (x8 : Int32) (x9 : Int32) (x10 : Int32) (b0 : Nat) (s0 : Int32) (b1 : Nat) (h0 : aH) : Option (Int32 × aH) := match n with
  | 0 => none
  | n + 1 => if tag = 0 then (if x4 ≤ x9 then (if x5 ≤ x7 then (l_94 g n 2 a0 x1 x2 a3 x4 x5 a6 x7 x8 x9 0 a0 0 0 h0) else (if ¬ x8 = 0 then (l_94 g n 2 a0 x1 x2 a3 x4 x5 a6 x7 x8 x9 0 a0 0 0 h0) else ((gI h0 a6 5 1).bind (fun f_4 => (l_94 g n 3 a0 x1 x2 a3 x4 x5 a6 x7 x8 x9 0 0 f_4 a0 h0))))) else ((gA h0 a3 x9).bind (fun f_6 => ((gR h0 a6 5 18).bind (fun f_8 => ((gA h0 f_8 f_6).bind (fun f_10 => (if x7 < f_10 then (l_94 g n 1 a0 x1 x2 a3 x4 x5 a6 x7 x8 x9 f_6 0 0 0 h0) else ((gR h0 a6 5 17).bind (fun f_13 => ((gA h0 f_13 f_6).bind (fun f_15 => ((gR h0 a6 5 16).bind (fun f_17 => ((gA h0 f_17 f_6).bind (fun f_19 => (if f_19 = (10 : Int32) then (if ¬ (100 : Int32) = 0 then (l_94 g n 1 a0 x1 x2 a3 x4 x5 a6 (x7 - ((x7 * f_15) / (100 : Int32))) x8 x9 f_6 0 0 0 h0) else none) else (if f_19 = (11 : Int32) then (l_94 g n 1 a0 x1 x2 a3 x4 x5 a6 (if (0 : Int32) < (x7 - f_15) then (x7 - f_15) else (0 : Int32)) x8 x9 f_6 0 0 0 h0) else (l_94 g n 1 a0 x1 x2 a3 x4 x5 a6 x7 (1 : Int32) x9 f_6 0 0 0 h0))))))))))))))))))) else if tag = 1 then (l_94 g n 0 a0 x1 x2 a3 x4 x5 a6 x7 x8 (x9 + (1 : Int32)) 0 0 0 0 h0) else if tag = 2 then (l_94 g n 3 a0 x1 x2 a3 x4 x5 a6 x7 x8 x9 0 0 (0 : Int32) b0 h0) else if tag = 3 then ((sF h0 b1 9 4 (.int s0)).bind (fun h_24 => ((gI h_24 a0 9 4).bind (fun f_26 => some ((x7 + f_26), h_24))))) else none
set_option maxHeartbeats 4000000 in
set_option maxRecDepth 100000 in
theorem l_94_ok {X : aX} {g : Nat} {d : Nat} (hdp : 0 ≤ d) : ∀ n, (∀ (a0 : Nat) (x1 : Int32) (x2 : Int32) (a3 : Nat) (x4 : Int32) (x5 : Int32) (a6 : Nat) (x7 : Int32) (x8 : Int32) (x9 : Int32) (x10 : Int32) (b0 : Nat) (s0 : Int32) (b1 : Nat) (h0 : aH) (zz : Int32 × aH), l_94 g n 0 a0 x1 x2 a3 x4 x5 a6 x7 x8 x9 x10 b0 s0 b1 h0 = some zz → aWp X d 94 30 [some (.ref a0), some (.int x1), some (.int x2), some (.ref a3), some (.int x4), some (.int x5), some (.ref a6), some (.int x7), some (.int x8), some (.int x9), none, none] [] h0 (fun w h' => w = some (.int zz.1) ∧ h' = zz.2)) ∧ (∀ (a0 : Nat) (x1 : Int32) (x2 : Int32) (a3 : Nat) (x4 : Int32) (x5 : Int32) (a6 : Nat) (x7 : Int32) (x8 : Int32) (x9 : Int32) (x10 : Int32) (b0 : Nat) (s0 : Int32) (b1 : Nat) (h0 : aH) (zz : Int32 × aH), l_94 g n 1 a0 x1 x2 a3 x4 x5 a6 x7 x8 x9 x10 b0 s0 b1 h0 = some zz → aWp X d 94 133 [some (.ref a0), some (.int x1), some (.int x2), some (.ref a3), some (.int x4), some (.int x5), some (.ref a6), some (.int x7), some (.int x8), some (.int x9), some (.int x10), none] [] h0 (fun w h' => w = some (.int zz.1) ∧ h' = zz.2)) ∧ (∀ (a0 : Nat) (x1 : Int32) (x2 : Int32) (a3 : Nat) (x4 : Int32) (x5 : Int32) (a6 : Nat) (x7 : Int32) (x8 : Int32) (x9 : Int32) (x10 : Int32) (b0 : Nat) (s0 : Int32) (b1 : Nat) (h0 : aH) (zz : Int32 × aH), l_94 g n 2 a0 x1 x2 a3 x4 x5 a6 x7 x8 x9 x10 b0 s0 b1 h0 = some zz → aWp X d 94 160 [some (.ref a0), some (.int x1), some (.int x2), some (.ref a3), some (.int x4), some (.int x5), some (.ref a6), some (.int x7), some (.int x8), some (.int x9), none, none] [.ref b0] h0 (fun w h' => w = some (.int zz.1) ∧ h' = zz.2)) ∧ (∀ (a0 : Nat) (x1 : Int32) (x2 : Int32) (a3 : Nat) (x4 : Int32) (x5 : Int32) (a6 : Nat) (x7 : Int32) (x8 : Int32) (x9 : Int32) (x10 : Int32) (b0 : Nat) (s0 : Int32) (b1 : Nat) (h0 : aH) (zz : Int32 × aH), l_94 g n 3 a0 x1 x2 a3 x4 x5 a6 x7 x8 x9 x10 b0 s0 b1 h0 = some zz → aWp X d 94 161 [some (.ref a0), some (.int x1), some (.int x2), some (.ref a3), some (.int x4), some (.int x5), some (.ref a6), some (.int x7), some (.int x8), some (.int x9), none, none] [.int s0, .ref b1] h0 (fun w h' => w = some (.int zz.1) ∧ h' = zz.2)) := by
  intro n
  induction n with
  | zero => exact ⟨fun _ _ _ _ _ _ _ _ _ _ _ _ _ _ _ _ hd => by simp [l_94] at hd, fun _ _ _ _ _ _ _ _ _ _ _ _ _ _ _ _ hd => by simp [l_94] at hd, fun _ _ _ _ _ _ _ _ _ _ _ _ _ _ _ _ hd => by simp [l_94] at hd, fun _ _ _ _ _ _ _ _ _ _ _ _ _ _ _ _ hd => by simp [l_94] at hd⟩
  | succ n ih =>
    refine ⟨?_, ?_, ?_, ?_⟩
    · intro a0 x1 x2 a3 x4 x5 a6 x7 x8 x9 x10 b0 s0 b1 h0 zz hd
      unfold l_94 at hd
      rw [if_pos rfl] at hd
      refine wp_s 32 [some (.ref a0), some (.int x1), some (.int x2), some (.ref a3), some (.int x4), some (.int x5), some (.ref a6), some (.int x7), some (.int x8), some (.int x9), none, none] [.int x9] h0 i_94_30 rfl ?_
      refine wp_s 34 [some (.ref a0), some (.int x1), some (.int x2), some (.ref a3), some (.int x4), some (.int x5), some (.ref a6), some (.int x7), some (.int x8), some (.int x9), none, none] [.int x4, .int x9] h0 i_94_32 rfl ?_
      refine wp_cmp_ge 139 37 rfl rfl i_94_34 (fun c_1 => ?_) (fun c_1 => ?_)
      · rw [if_pos c_1] at hd
        refine wp_s 140 [some (.ref a0), some (.int x1), some (.int x2), some (.ref a3), some (.int x4), some (.int x5), some (.ref a6), some (.int x7), some (.int x8), some (.int x9), none, none] [.ref a0] h0 i_94_139 rfl ?_
        refine wp_s 142 [some (.ref a0), some (.int x1), some (.int x2), some (.ref a3), some (.int x4), some (.int x5), some (.ref a6), some (.int x7), some (.int x8), some (.int x9), none, none] [.int x7, .ref a0] h0 i_94_140 rfl ?_
        refine wp_s 144 [some (.ref a0), some (.int x1), some (.int x2), some (.ref a3), some (.int x4), some (.int x5), some (.ref a6), some (.int x7), some (.int x8), some (.int x9), none, none] [.int x5, .int x7, .ref a0] h0 i_94_142 rfl ?_
        refine wp_cmp_ge 160 147 rfl rfl i_94_144 (fun c_2 => ?_) (fun c_2 => ?_)
        · rw [if_pos c_2] at hd
          exact aWp.forget (ih.2.2.1 _ _ _ _ _ _ _ _ _ _ _ _ _ _ _ _ hd) (lvS (lvS (lvS (lvS (lvS (lvS (lvS (lvS (lvS (lvS (lvN (lvN lvE))))))))))))
        · rw [if_neg c_2] at hd
          refine wp_s 149 [some (.ref a0), some (.int x1), some (.int x2), some (.ref a3), some (.int x4), some (.int x5), some (.ref a6), some (.int x7), some (.int x8), some (.int x9), none, none] [.int x8, .ref a0] h0 i_94_147 rfl ?_
          refine wp_if_ne 160 152 rfl rfl i_94_149 (fun c_3 => ?_) (fun c_3 => ?_)
          · rw [if_pos c_3] at hd
            exact aWp.forget (ih.2.2.1 _ _ _ _ _ _ _ _ _ _ _ _ _ _ _ _ hd) (lvS (lvS (lvS (lvS (lvS (lvS (lvS (lvS (lvS (lvS (lvN (lvN lvE))))))))))))
          · rw [if_neg c_3] at hd
            refine wp_s 154 [some (.ref a0), some (.int x1), some (.int x2), some (.ref a3), some (.int x4), some (.int x5), some (.ref a6), some (.int x7), some (.int x8), some (.int x9), none, none] [.ref a6, .ref a0] h0 i_94_152 rfl ?_
            obtain ⟨f_4, q_5, hd⟩ := dk_bind hd
            refine hp_gI 157 rfl i_94_154 q_5 ?_
            refine wp_s 161 [some (.ref a0), some (.int x1), some (.int x2), some (.ref a3), some (.int x4), some (.int x5), some (.ref a6), some (.int x7), some (.int x8), some (.int x9), none, none] [.int f_4, .ref a0] h0 i_94_157 rfl ?_
            exact aWp.forget (ih.2.2.2 _ _ _ _ _ _ _ _ _ _ _ _ _ _ _ _ hd) (lvS (lvS (lvS (lvS (lvS (lvS (lvS (lvS (lvS (lvS (lvN (lvN lvE))))))))))))
      · rw [if_neg c_1] at hd
        refine wp_s 38 [some (.ref a0), some (.int x1), some (.int x2), some (.ref a3), some (.int x4), some (.int x5), some (.ref a6), some (.int x7), some (.int x8), some (.int x9), none, none] [.ref a3] h0 i_94_37 rfl ?_
        refine wp_s 40 [some (.ref a0), some (.int x1), some (.int x2), some (.ref a3), some (.int x4), some (.int x5), some (.ref a6), some (.int x7), some (.int x8), some (.int x9), none, none] [.int x9, .ref a3] h0 i_94_38 rfl ?_
        obtain ⟨f_6, q_7, hd⟩ := dk_bind hd
        refine hp_gA 41 rfl i_94_40 q_7 ?_
        refine wp_s 43 [some (.ref a0), some (.int x1), some (.int x2), some (.ref a3), some (.int x4), some (.int x5), some (.ref a6), some (.int x7), some (.int x8), some (.int x9), some (.int f_6), none] [] h0 i_94_41 rfl ?_
        refine wp_s 45 [some (.ref a0), some (.int x1), some (.int x2), some (.ref a3), some (.int x4), some (.int x5), some (.ref a6), some (.int x7), some (.int x8), some (.int x9), some (.int f_6), none] [.int x7] h0 i_94_43 rfl ?_
        refine wp_s 47 [some (.ref a0), some (.int x1), some (.int x2), some (.ref a3), some (.int x4), some (.int x5), some (.ref a6), some (.int x7), some (.int x8), some (.int x9), some (.int f_6), none] [.ref a6, .int x7] h0 i_94_45 rfl ?_
        obtain ⟨f_8, q_9, hd⟩ := dk_bind hd
        refine hp_gR 50 rfl i_94_47 q_9 ?_
        refine wp_s 52 [some (.ref a0), some (.int x1), some (.int x2), some (.ref a3), some (.int x4), some (.int x5), some (.ref a6), some (.int x7), some (.int x8), some (.int x9), some (.int f_6), none] [.int f_6, .ref f_8, .int x7] h0 i_94_50 rfl ?_
        obtain ⟨f_10, q_11, hd⟩ := dk_bind hd
        refine hp_gA 53 rfl i_94_52 q_11 ?_
        refine wp_cmp_lt 133 56 rfl rfl i_94_53 (fun c_12 => ?_) (fun c_12 => ?_)
        · rw [if_pos c_12] at hd
          exact aWp.forget (ih.2.1 _ _ _ _ _ _ _ _ _ _ _ _ _ _ _ _ hd) (lvS (lvS (lvS (lvS (lvS (lvS (lvS (lvS (lvS (lvS (lvS (lvN lvE))))))))))))
        · rw [if_neg c_12] at hd
          refine wp_s 58 [some (.ref a0), some (.int x1), some (.int x2), some (.ref a3), some (.int x4), some (.int x5), some (.ref a6), some (.int x7), some (.int x8), some (.int x9), some (.int f_6), none] [.ref a6] h0 i_94_56 rfl ?_
          obtain ⟨f_13, q_14, hd⟩ := dk_bind hd
          refine hp_gR 61 rfl i_94_58 q_14 ?_
          refine wp_s 63 [some (.ref a0), some (.int x1), some (.int x2), some (.ref a3), some (.int x4), some (.int x5), some (.ref a6), some (.int x7), some (.int x8), some (.int x9), some (.int f_6), none] [.int f_6, .ref f_13] h0 i_94_61 rfl ?_
          obtain ⟨f_15, q_16, hd⟩ := dk_bind hd
          refine hp_gA 64 rfl i_94_63 q_16 ?_
          refine wp_s 66 [some (.ref a0), some (.int x1), some (.int x2), some (.ref a3), some (.int x4), some (.int x5), some (.ref a6), some (.int x7), some (.int x8), some (.int x9), some (.int f_6), some (.int f_15)] [] h0 i_94_64 rfl ?_
          refine wp_s 68 [some (.ref a0), some (.int x1), some (.int x2), some (.ref a3), some (.int x4), some (.int x5), some (.ref a6), some (.int x7), some (.int x8), some (.int x9), some (.int f_6), some (.int f_15)] [.ref a6] h0 i_94_66 rfl ?_
          obtain ⟨f_17, q_18, hd⟩ := dk_bind hd
          refine hp_gR 71 rfl i_94_68 q_18 ?_
          refine wp_s 73 [some (.ref a0), some (.int x1), some (.int x2), some (.ref a3), some (.int x4), some (.int x5), some (.ref a6), some (.int x7), some (.int x8), some (.int x9), some (.int f_6), some (.int f_15)] [.int f_6, .ref f_17] h0 i_94_71 rfl ?_
          obtain ⟨f_19, q_20, hd⟩ := dk_bind hd
          refine hp_gA 74 rfl i_94_73 q_20 ?_
          by_cases c_21 : f_19 = (10 : Int32)
          · rw [if_pos c_21] at hd
            refine hp_lsw 100 i_94_74 (by rw [c_21]; decide) ?_
            refine wp_s 102 [some (.ref a0), some (.int x1), some (.int x2), some (.ref a3), some (.int x4), some (.int x5), some (.ref a6), some (.int x7), some (.int x8), some (.int x9), some (.int f_6), some (.int f_15)] [.int x7] h0 i_94_100 rfl ?_
            refine wp_s 104 [some (.ref a0), some (.int x1), some (.int x2), some (.ref a3), some (.int x4), some (.int x5), some (.ref a6), some (.int x7), some (.int x8), some (.int x9), some (.int f_6), some (.int f_15)] [.int x7, .int x7] h0 i_94_102 rfl ?_
            refine wp_s 106 [some (.ref a0), some (.int x1), some (.int x2), some (.ref a3), some (.int x4), some (.int x5), some (.ref a6), some (.int x7), some (.int x8), some (.int x9), some (.int f_6), some (.int f_15)] [.int f_15, .int x7, .int x7] h0 i_94_104 rfl ?_
            refine wp_s 107 [some (.ref a0), some (.int x1), some (.int x2), some (.ref a3), some (.int x4), some (.int x5), some (.ref a6), some (.int x7), some (.int x8), some (.int x9), some (.int f_6), some (.int f_15)] [.int (x7 * f_15), .int x7] h0 i_94_106 rfl ?_
            refine wp_s 109 [some (.ref a0), some (.int x1), some (.int x2), some (.ref a3), some (.int x4), some (.int x5), some (.ref a6), some (.int x7), some (.int x8), some (.int x9), some (.int f_6), some (.int f_15)] [.int (100 : Int32), .int (x7 * f_15), .int x7] h0 i_94_107 rfl ?_
            obtain ⟨k_22, hd⟩ := dk_if hd
            refine wp_idiv 110 rfl i_94_109 k_22 ?_
            refine wp_s 111 [some (.ref a0), some (.int x1), some (.int x2), some (.ref a3), some (.int x4), some (.int x5), some (.ref a6), some (.int x7), some (.int x8), some (.int x9), some (.int f_6), some (.int f_15)] [.int (x7 - ((x7 * f_15) / (100 : Int32)))] h0 i_94_110 rfl ?_
            refine wp_s 113 [some (.ref a0), some (.int x1), some (.int x2), some (.ref a3), some (.int x4), some (.int x5), some (.ref a6), some (.int (x7 - ((x7 * f_15) / (100 : Int32)))), some (.int x8), some (.int x9), some (.int f_6), some (.int f_15)] [] h0 i_94_111 rfl ?_
            refine wp_s 133 [some (.ref a0), some (.int x1), some (.int x2), some (.ref a3), some (.int x4), some (.int x5), some (.ref a6), some (.int (x7 - ((x7 * f_15) / (100 : Int32)))), some (.int x8), some (.int x9), some (.int f_6), some (.int f_15)] [] h0 i_94_113 rfl ?_
            exact aWp.forget (ih.2.1 _ _ _ _ _ _ _ _ _ _ _ _ _ _ _ _ hd) (lvS (lvS (lvS (lvS (lvS (lvS (lvS (lvS (lvS (lvS (lvS (lvN lvE))))))))))))
          rw [if_neg c_21] at hd
          by_cases c_23 : f_19 = (11 : Int32)
          · rw [if_pos c_23] at hd
            refine hp_lsw 116 i_94_74 (by rw [c_23]; decide) ?_
            refine wp_s 117 [some (.ref a0), some (.int x1), some (.int x2), some (.ref a3), some (.int x4), some (.int x5), some (.ref a6), some (.int x7), some (.int x8), some (.int x9), some (.int f_6), some (.int f_15)] [.int (0 : Int32)] h0 i_94_116 rfl ?_
            refine wp_s 119 [some (.ref a0), some (.int x1), some (.int x2), some (.ref a3), some (.int x4), some (.int x5), some (.ref a6), some (.int x7), some (.int x8), some (.int x9), some (.int f_6), some (.int f_15)] [.int x7, .int (0 : Int32)] h0 i_94_117 rfl ?_
            refine wp_s 121 [some (.ref a0), some (.int x1), some (.int x2), some (.ref a3), some (.int x4), some (.int x5), some (.ref a6), some (.int x7), some (.int x8), some (.int x9), some (.int f_6), some (.int f_15)] [.int f_15, .int x7, .int (0 : Int32)] h0 i_94_119 rfl ?_
            refine wp_s 122 [some (.ref a0), some (.int x1), some (.int x2), some (.ref a3), some (.int x4), some (.int x5), some (.ref a6), some (.int x7), some (.int x8), some (.int x9), some (.int f_6), some (.int f_15)] [.int (x7 - f_15), .int (0 : Int32)] h0 i_94_121 rfl ?_
            refine hp_max 125 rfl i_94_122 rfl ?_
            refine wp_s 127 [some (.ref a0), some (.int x1), some (.int x2), some (.ref a3), some (.int x4), some (.int x5), some (.ref a6), some (.int (if (0 : Int32) < (x7 - f_15) then (x7 - f_15) else (0 : Int32))), some (.int x8), some (.int x9), some (.int f_6), some (.int f_15)] [] h0 i_94_125 rfl ?_
            refine wp_s 133 [some (.ref a0), some (.int x1), some (.int x2), some (.ref a3), some (.int x4), some (.int x5), some (.ref a6), some (.int (if (0 : Int32) < (x7 - f_15) then (x7 - f_15) else (0 : Int32))), some (.int x8), some (.int x9), some (.int f_6), some (.int f_15)] [] h0 i_94_127 rfl ?_
            exact aWp.forget (ih.2.1 _ _ _ _ _ _ _ _ _ _ _ _ _ _ _ _ hd) (lvS (lvS (lvS (lvS (lvS (lvS (lvS (lvS (lvS (lvS (lvS (lvN lvE))))))))))))
          rw [if_neg c_23] at hd
          refine hp_lsw 130 i_94_74 (by rw [lv_osw c_21 (by decide), lv_osw c_23 (by decide)]; rfl) ?_
          refine wp_s 131 [some (.ref a0), some (.int x1), some (.int x2), some (.ref a3), some (.int x4), some (.int x5), some (.ref a6), some (.int x7), some (.int x8), some (.int x9), some (.int f_6), some (.int f_15)] [.int (1 : Int32)] h0 i_94_130 rfl ?_
          refine wp_s 133 [some (.ref a0), some (.int x1), some (.int x2), some (.ref a3), some (.int x4), some (.int x5), some (.ref a6), some (.int x7), some (.int (1 : Int32)), some (.int x9), some (.int f_6), some (.int f_15)] [] h0 i_94_131 rfl ?_
          exact aWp.forget (ih.2.1 _ _ _ _ _ _ _ _ _ _ _ _ _ _ _ _ hd) (lvS (lvS (lvS (lvS (lvS (lvS (lvS (lvS (lvS (lvS (lvS (lvN lvE))))))))))))
    · intro a0 x1 x2 a3 x4 x5 a6 x7 x8 x9 x10 b0 s0 b1 h0 zz hd
      unfold l_94 at hd
      rw [if_neg (by decide), if_pos rfl] at hd
      refine wp_s 136 [some (.ref a0), some (.int x1), some (.int x2), some (.ref a3), some (.int x4), some (.int x5), some (.ref a6), some (.int x7), some (.int x8), some (.int (x9 + (1 : Int32))), some (.int x10), none] [] h0 i_94_133 rfl ?_
      refine wp_s 30 [some (.ref a0), some (.int x1), some (.int x2), some (.ref a3), some (.int x4), some (.int x5), some (.ref a6), some (.int x7), some (.int x8), some (.int (x9 + (1 : Int32))), some (.int x10), none] [] h0 i_94_136 rfl ?_
      exact aWp.forget (ih.1 _ _ _ _ _ _ _ _ _ _ _ _ _ _ _ _ hd) (lvS (lvS (lvS (lvS (lvS (lvS (lvS (lvS (lvS (lvS (lvN (lvN lvE))))))))))))
    · intro a0 x1 x2 a3 x4 x5 a6 x7 x8 x9 x10 b0 s0 b1 h0 zz hd
      unfold l_94 at hd
      rw [if_neg (by decide), if_neg (by decide), if_pos rfl] at hd
      refine wp_s 161 [some (.ref a0), some (.int x1), some (.int x2), some (.ref a3), some (.int x4), some (.int x5), some (.ref a6), some (.int x7), some (.int x8), some (.int x9), none, none] [.int (0 : Int32), .ref b0] h0 i_94_160 rfl ?_
      exact aWp.forget (ih.2.2.2 _ _ _ _ _ _ _ _ _ _ _ _ _ _ _ _ hd) (lvS (lvS (lvS (lvS (lvS (lvS (lvS (lvS (lvS (lvS (lvN (lvN lvE))))))))))))
    · intro a0 x1 x2 a3 x4 x5 a6 x7 x8 x9 x10 b0 s0 b1 h0 zz hd
      unfold l_94 at hd
      rw [if_neg (by decide), if_neg (by decide), if_neg (by decide), if_pos rfl] at hd
      obtain ⟨h_24, q_25, hd⟩ := dk_bind hd
      refine hp_sF 164 rfl i_94_161 q_25 ?_
      refine wp_s 166 [some (.ref a0), some (.int x1), some (.int x2), some (.ref a3), some (.int x4), some (.int x5), some (.ref a6), some (.int x7), some (.int x8), some (.int x9), none, none] [.int x7] h_24 i_94_164 rfl ?_
      refine wp_s 167 [some (.ref a0), some (.int x1), some (.int x2), some (.ref a3), some (.int x4), some (.int x5), some (.ref a6), some (.int x7), some (.int x8), some (.int x9), none, none] [.ref a0, .int x7] h_24 i_94_166 rfl ?_
      obtain ⟨f_26, q_27, hd⟩ := dk_bind hd
      refine hp_gI 170 rfl i_94_167 q_27 ?_
      refine wp_s 171 [some (.ref a0), some (.int x1), some (.int x2), some (.ref a3), some (.int x4), some (.int x5), some (.ref a6), some (.int x7), some (.int x8), some (.int x9), none, none] [.int (x7 + f_26)] h_24 i_94_170 rfl ?_
      obtain rfl := Option.some.inj hd
      exact wp_iret i_94_171 ⟨rfl, rfl⟩
def d_94 (g : Nat) (a0 : Nat) (x1 : Int32) (x2 : Int32) (a3 : Nat) (x4 : Int32) (x5 : Int32) (h0 : aH) : Option (Int32 × aH) := ((sF h0 a0 9 4 (.int (0 : Int32))).bind (fun h_1001 => (if (1 : Int32) ≤ x1 then ((gR h_1001 a0 9 0).bind (fun f_1004 => ((gR h_1001 f_1004 10 0).bind (fun f_1006 => (l_94 g g 0 a0 x1 x2 a3 x4 x5 f_1006 x2 (0 : Int32) (0 : Int32) 0 0 0 0 h_1001))))) else some ((0 : Int32), h_1001))))
set_option maxHeartbeats 4000000 in
set_option maxRecDepth 100000 in
theorem d_94_ok {X : aX} {g : Nat} {a0 : Nat} {x1 : Int32} {x2 : Int32} {a3 : Nat} {x4 : Int32} {x5 : Int32} {h0 : aH} {zz : Int32 × aH} {d : Nat} (hdp : 0 ≤ d) (hd : d_94 g a0 x1 x2 a3 x4 x5 h0 = some zz) : aWp X d 94 0 (aEntL [.ref a0, .int x1, .int x2, .ref a3, .int x4, .int x5] 12) [] h0 (fun w h' => w = some (.int zz.1) ∧ h' = zz.2) := by
  unfold d_94 at hd
  refine wp_lv (l2 := [some (.ref a0), some (.int x1), some (.int x2), some (.ref a3), some (.int x4), some (.int x5), none, none, none, none, none, none]) rfl ?_
  refine wp_s 1 [some (.ref a0), some (.int x1), some (.int x2), some (.ref a3), some (.int x4), some (.int x5), none, none, none, none, none, none] [.ref a0] h0 i_94_0 rfl ?_
  refine wp_s 2 [some (.ref a0), some (.int x1), some (.int x2), some (.ref a3), some (.int x4), some (.int x5), none, none, none, none, none, none] [.int (0 : Int32), .ref a0] h0 i_94_1 rfl ?_
  obtain ⟨h_1001, q_1002, hd⟩ := dk_bind hd
  refine hp_sF 5 rfl i_94_2 q_1002 ?_
  refine wp_s 6 [some (.ref a0), some (.int x1), some (.int x2), some (.ref a3), some (.int x4), some (.int x5), none, none, none, none, none, none] [.int x1] h_1001 i_94_5 rfl ?_
  refine wp_s 7 [some (.ref a0), some (.int x1), some (.int x2), some (.ref a3), some (.int x4), some (.int x5), none, none, none, none, none, none] [.int (1 : Int32), .int x1] h_1001 i_94_6 rfl ?_
  refine wp_cmp_ge 12 10 rfl rfl i_94_7 (fun c_1003 => ?_) (fun c_1003 => ?_)
  · rw [if_pos c_1003] at hd
    refine wp_s 13 [some (.ref a0), some (.int x1), some (.int x2), some (.ref a3), some (.int x4), some (.int x5), none, none, none, none, none, none] [.ref a0] h_1001 i_94_12 rfl ?_
    obtain ⟨f_1004, q_1005, hd⟩ := dk_bind hd
    refine hp_gR 16 rfl i_94_13 q_1005 ?_
    obtain ⟨f_1006, q_1007, hd⟩ := dk_bind hd
    refine hp_gR 19 rfl i_94_16 q_1007 ?_
    refine wp_s 21 [some (.ref a0), some (.int x1), some (.int x2), some (.ref a3), some (.int x4), some (.int x5), some (.ref f_1006), none, none, none, none, none] [] h_1001 i_94_19 rfl ?_
    refine wp_s 22 [some (.ref a0), some (.int x1), some (.int x2), some (.ref a3), some (.int x4), some (.int x5), some (.ref f_1006), none, none, none, none, none] [.int x2] h_1001 i_94_21 rfl ?_
    refine wp_s 24 [some (.ref a0), some (.int x1), some (.int x2), some (.ref a3), some (.int x4), some (.int x5), some (.ref f_1006), some (.int x2), none, none, none, none] [] h_1001 i_94_22 rfl ?_
    refine wp_s 25 [some (.ref a0), some (.int x1), some (.int x2), some (.ref a3), some (.int x4), some (.int x5), some (.ref f_1006), some (.int x2), none, none, none, none] [.int (0 : Int32)] h_1001 i_94_24 rfl ?_
    refine wp_s 27 [some (.ref a0), some (.int x1), some (.int x2), some (.ref a3), some (.int x4), some (.int x5), some (.ref f_1006), some (.int x2), some (.int (0 : Int32)), none, none, none] [] h_1001 i_94_25 rfl ?_
    refine wp_s 28 [some (.ref a0), some (.int x1), some (.int x2), some (.ref a3), some (.int x4), some (.int x5), some (.ref f_1006), some (.int x2), some (.int (0 : Int32)), none, none, none] [.int (0 : Int32)] h_1001 i_94_27 rfl ?_
    refine wp_s 30 [some (.ref a0), some (.int x1), some (.int x2), some (.ref a3), some (.int x4), some (.int x5), some (.ref f_1006), some (.int x2), some (.int (0 : Int32)), some (.int (0 : Int32)), none, none] [] h_1001 i_94_28 rfl ?_
    exact aWp.forget ((l_94_ok hdp g).1 _ _ _ _ _ _ _ _ _ _ _ _ _ _ _ _ hd) (lvS (lvS (lvS (lvS (lvS (lvS (lvS (lvS (lvS (lvS (lvN (lvN lvE))))))))))))
  · rw [if_neg c_1003] at hd
    refine wp_s 11 [some (.ref a0), some (.int x1), some (.int x2), some (.ref a3), some (.int x4), some (.int x5), none, none, none, none, none, none] [.int (0 : Int32)] h_1001 i_94_10 rfl ?_
    obtain rfl := Option.some.inj hd
    exact wp_iret i_94_11 ⟨rfl, rfl⟩
def l_14 (sf14 : Nat → Int32 → aH → Option aH) (g n tag : Nat) (a0 : Nat) (x1 : Int32) (x2 : Int32) (h0 : aH) : Option (aH) := match n with
  | 0 => none
  | n + 1 => if tag = 0 then ((gR h0 a0 2 0).bind (fun f_1 => ((gR h0 f_1 10 0).bind (fun f_3 => ((gI h0 f_3 5 15).bind (fun f_5 => (if f_5 ≤ x2 then some h0 else ((gR h0 a0 2 0).bind (fun f_8 => ((gR h0 f_8 10 1).bind (fun f_10 => (if isO h0 f_10 7 = true then ((d_77 g f_10 x2 h0).bind (fun z_15 => (if ¬ z_15.1 = 0 then (l_14 sf14 g n 1 a0 x1 x2 z_15.2) else ((gR z_15.2 a0 2 0).bind (fun f_20 => ((gR z_15.2 f_20 10 0).bind (fun f_22 => ((gR z_15.2 a0 2 3).bind (fun f_24 => (if isO z_15.2 f_22 5 = true then ((d_58 g f_22 x2 f_24 x1 z_15.2).bind (fun z_29 => (if z_29.1 = 0 then (l_14 sf14 g n 1 a0 x1 x2 z_29.2) else ((gR z_29.2 a0 2 3).bind (fun f_34 => ((sA z_29.2 f_34 x1 x2).bind (fun h_36 => (if isO h_36 a0 2 = true then ((sf14 a0 (x1 + (1 : Int32)) h_36).bind (fun z_41 => (l_14 sf14 g n 1 a0 x1 x2 z_41))) else none)))))))) else none)))))))))) else none)))))))))))) else if tag = 1 then (l_14 sf14 g n 0 a0 x1 (x2 + (1 : Int32)) h0) else none
set_option maxHeartbeats 4000000 in
set_option maxRecDepth 100000 in
theorem l_14_ok {X : aX} {g : Nat} {sf14 : Nat → Int32 → aH → Option aH} {e : Nat} (hdp : 1 ≤ e) (hs14 : ∀ (a0 : Nat) (x1 : Int32) (h0 zz : aH), sf14 a0 x1 h0 = some zz → aWp X e 14 0 (aEntL [.ref a0, .int x1] 3) [] h0 (fun w h' => w = none ∧ h' = zz)) : ∀ n, (∀ (a0 : Nat) (x1 : Int32) (x2 : Int32) (h0 : aH) (zz : aH), l_14 sf14 g n 0 a0 x1 x2 h0 = some zz → aWp X (e + 1) 14 50 [some (.ref a0), some (.int x1), some (.int x2)] [] h0 (fun w h' => w = none ∧ h' = zz)) ∧ (∀ (a0 : Nat) (x1 : Int32) (x2 : Int32) (h0 : aH) (zz : aH), l_14 sf14 g n 1 a0 x1 x2 h0 = some zz → aWp X (e + 1) 14 111 [some (.ref a0), some (.int x1), some (.int x2)] [] h0 (fun w h' => w = none ∧ h' = zz)) := by
  intro n
  induction n with
  | zero => exact ⟨fun _ _ _ _ _ hd => by simp [l_14] at hd, fun _ _ _ _ _ hd => by simp [l_14] at hd⟩
  | succ n ih =>
    refine ⟨?_, ?_⟩
    · intro a0 x1 x2 h0 zz hd
      unfold l_14 at hd
      rw [if_pos rfl] at hd
      refine wp_s 51 [some (.ref a0), some (.int x1), some (.int x2)] [.int x2] h0 i_14_50 rfl ?_
      refine wp_s 52 [some (.ref a0), some (.int x1), some (.int x2)] [.ref a0, .int x2] h0 i_14_51 rfl ?_
      obtain ⟨f_1, q_2, hd⟩ := dk_bind hd
      refine hp_gR 55 rfl i_14_52 q_2 ?_
      obtain ⟨f_3, q_4, hd⟩ := dk_bind hd
      refine hp_gR 58 rfl i_14_55 q_4 ?_
      obtain ⟨f_5, q_6, hd⟩ := dk_bind hd
      refine hp_gI 61 rfl i_14_58 q_6 ?_
      refine wp_cmp_ge 117 64 rfl rfl i_14_61 (fun c_7 => ?_) (fun c_7 => ?_)
      · rw [if_pos c_7] at hd
        obtain rfl := Option.some.inj hd
        exact wp_ret i_14_117 rfl ⟨rfl, rfl⟩
      · rw [if_neg c_7] at hd
        refine wp_s 65 [some (.ref a0), some (.int x1), some (.int x2)] [.ref a0] h0 i_14_64 rfl ?_
        obtain ⟨f_8, q_9, hd⟩ := dk_bind hd
        refine hp_gR 68 rfl i_14_65 q_9 ?_
        obtain ⟨f_10, q_11, hd⟩ := dk_bind hd
        refine hp_gR 71 rfl i_14_68 q_11 ?_
        refine wp_s 72 [some (.ref a0), some (.int x1), some (.int x2)] [.int x2, .ref f_10] h0 i_14_71 rfl ?_
        obtain ⟨k_12, hd⟩ := dk_if hd
        obtain ⟨fs_13, o_14⟩ := isO_of k_12
        obtain ⟨z_15, q_16, hd⟩ := dk_bind hd
        refine wp_callV 75 rfl i_14_72 (by decide) rfl (vs := [.int x2]) (rest := []) rfl rfl rfl o_14 (y := m_77) rfl (Nat.le_of_ble_eq_true rfl) (d_77_ok (d := e) (by omega) q_16) ?_
        rintro v_17 h_18 ⟨rfl, rfl⟩
        refine wp_if_ne 111 78 rfl rfl i_14_75 (fun c_19 => ?_) (fun c_19 => ?_)
        · rw [if_pos c_19] at hd
          exact aWp.forget (ih.2 _ _ _ _ _ hd) (lvS (lvS (lvS lvE)))
        · rw [if_neg c_19] at hd
          refine wp_s 79 [some (.ref a0), some (.int x1), some (.int x2)] [.ref a0] z_15.2 i_14_78 rfl ?_
          obtain ⟨f_20, q_21, hd⟩ := dk_bind hd
          refine hp_gR 82 rfl i_14_79 q_21 ?_
          obtain ⟨f_22, q_23, hd⟩ := dk_bind hd
          refine hp_gR 85 rfl i_14_82 q_23 ?_
          refine wp_s 86 [some (.ref a0), some (.int x1), some (.int x2)] [.int x2, .ref f_22] z_15.2 i_14_85 rfl ?_
          refine wp_s 87 [some (.ref a0), some (.int x1), some (.int x2)] [.ref a0, .int x2, .ref f_22] z_15.2 i_14_86 rfl ?_
          obtain ⟨f_24, q_25, hd⟩ := dk_bind hd
          refine hp_gR 90 rfl i_14_87 q_25 ?_
          refine wp_s 91 [some (.ref a0), some (.int x1), some (.int x2)] [.int x1, .ref f_24, .int x2, .ref f_22] z_15.2 i_14_90 rfl ?_
          obtain ⟨k_26, hd⟩ := dk_if hd
          obtain ⟨fs_27, o_28⟩ := isO_of k_26
          obtain ⟨z_29, q_30, hd⟩ := dk_bind hd
          refine wp_callV 94 rfl i_14_91 (by decide) rfl (vs := [.int x2, .ref f_24, .int x1]) (rest := []) rfl rfl rfl o_28 (y := m_58) rfl (Nat.le_of_ble_eq_true rfl) (d_58_ok (d := e) (by omega) q_30) ?_
          rintro v_31 h_32 ⟨rfl, rfl⟩
          refine wp_if_eq 111 97 rfl rfl i_14_94 (fun c_33 => ?_) (fun c_33 => ?_)
          · rw [if_pos c_33] at hd
            exact aWp.forget (ih.2 _ _ _ _ _ hd) (lvS (lvS (lvS lvE)))
          · rw [if_neg c_33] at hd
            refine wp_s 98 [some (.ref a0), some (.int x1), some (.int x2)] [.ref a0] z_29.2 i_14_97 rfl ?_
            obtain ⟨f_34, q_35, hd⟩ := dk_bind hd
            refine hp_gR 101 rfl i_14_98 q_35 ?_
            refine wp_s 102 [some (.ref a0), some (.int x1), some (.int x2)] [.int x1, .ref f_34] z_29.2 i_14_101 rfl ?_
            refine wp_s 103 [some (.ref a0), some (.int x1), some (.int x2)] [.int x2, .int x1, .ref f_34] z_29.2 i_14_102 rfl ?_
            obtain ⟨h_36, q_37, hd⟩ := dk_bind hd
            refine hp_sA 104 rfl i_14_103 q_37 ?_
            refine wp_s 105 [some (.ref a0), some (.int x1), some (.int x2)] [.ref a0] h_36 i_14_104 rfl ?_
            refine wp_s 106 [some (.ref a0), some (.int x1), some (.int x2)] [.int x1, .ref a0] h_36 i_14_105 rfl ?_
            refine wp_s 107 [some (.ref a0), some (.int x1), some (.int x2)] [.int (1 : Int32), .int x1, .ref a0] h_36 i_14_106 rfl ?_
            refine wp_s 108 [some (.ref a0), some (.int x1), some (.int x2)] [.int (x1 + (1 : Int32)), .ref a0] h_36 i_14_107 rfl ?_
            obtain ⟨k_38, hd⟩ := dk_if hd
            obtain ⟨fs_39, o_40⟩ := isO_of k_38
            obtain ⟨z_41, q_42, hd⟩ := dk_bind hd
            refine wp_callV 111 rfl i_14_108 (by decide) rfl (vs := [.int (x1 + (1 : Int32))]) (rest := []) rfl rfl rfl o_40 (y := m_14) rfl (Nat.le_of_ble_eq_true rfl) (hs14 _ _ _ _ q_42) ?_
            rintro v_43 h_44 ⟨rfl, hz⟩
            have hz := hz.symm
            subst hz
            exact aWp.forget (ih.2 _ _ _ _ _ hd) (lvS (lvS (lvS lvE)))
    · intro a0 x1 x2 h0 zz hd
      unfold l_14 at hd
      rw [if_neg (by decide), if_pos rfl] at hd
      refine wp_s 114 [some (.ref a0), some (.int x1), some (.int (x2 + (1 : Int32)))] [] h0 i_14_111 rfl ?_
      refine wp_s 50 [some (.ref a0), some (.int x1), some (.int (x2 + (1 : Int32)))] [] h0 i_14_114 rfl ?_
      exact aWp.forget (ih.1 _ _ _ _ _ hd) (lvS (lvS (lvS lvE)))
def t_14 (sf14 : Nat → Int32 → aH → Option aH) (g : Nat) (a0 : Nat) (x1 : Int32) (h0 : aH) : Option (aH) := ((gR h0 a0 2 2).bind (fun f_1001 => ((gR h0 a0 2 1).bind (fun f_1003 => ((gI h0 a0 2 12).bind (fun f_1005 => ((gI h0 a0 2 11).bind (fun f_1007 => ((gR h0 a0 2 3).bind (fun f_1009 => ((gR h0 a0 2 0).bind (fun f_1011 => ((gR h0 f_1011 10 0).bind (fun f_1013 => ((gI h0 f_1013 5 2).bind (fun f_1015 => (if isO h0 f_1003 9 = true then ((d_94 g f_1003 f_1005 f_1007 f_1009 x1 f_1015 h0).bind (fun z_1020 => ((gR z_1020.2 a0 2 3).bind (fun f_1024 => (if isO z_1020.2 f_1001 0 = true then ((d_2 g f_1001 z_1020.1 f_1024 x1 z_1020.2).bind (fun z_1029 => (if x1 < (5 : Int32) then (l_14 sf14 g g 0 a0 x1 (0 : Int32) z_1029) else some z_1029))) else none))))) else none)))))))))))))))))
set_option maxHeartbeats 4000000 in
set_option maxRecDepth 100000 in
theorem t_14_ok {X : aX} {g : Nat} {sf14 : Nat → Int32 → aH → Option aH} {a0 : Nat} {x1 : Int32} {h0 : aH} {zz : aH} {e : Nat} (hdp : 1 ≤ e) (hs14 : ∀ (a0 : Nat) (x1 : Int32) (h0 zz : aH), sf14 a0 x1 h0 = some zz → aWp X e 14 0 (aEntL [.ref a0, .int x1] 3) [] h0 (fun w h' => w = none ∧ h' = zz)) (hd : t_14 sf14 g a0 x1 h0 = some zz) : aWp X (e + 1) 14 0 (aEntL [.ref a0, .int x1] 3) [] h0 (fun w h' => w = none ∧ h' = zz) := by
  unfold t_14 at hd
  refine wp_lv (l2 := [some (.ref a0), some (.int x1), none]) rfl ?_
  refine wp_s 1 [some (.ref a0), some (.int x1), none] [.ref a0] h0 i_14_0 rfl ?_
  obtain ⟨f_1001, q_1002, hd⟩ := dk_bind hd
  refine hp_gR 4 rfl i_14_1 q_1002 ?_
  refine wp_s 5 [some (.ref a0), some (.int x1), none] [.ref a0, .ref f_1001] h0 i_14_4 rfl ?_
  obtain ⟨f_1003, q_1004, hd⟩ := dk_bind hd
  refine hp_gR 8 rfl i_14_5 q_1004 ?_
  refine wp_s 9 [some (.ref a0), some (.int x1), none] [.ref a0, .ref f_1003, .ref f_1001] h0 i_14_8 rfl ?_
  obtain ⟨f_1005, q_1006, hd⟩ := dk_bind hd
  refine hp_gI 12 rfl i_14_9 q_1006 ?_
  refine wp_s 13 [some (.ref a0), some (.int x1), none] [.ref a0, .int f_1005, .ref f_1003, .ref f_1001] h0 i_14_12 rfl ?_
  obtain ⟨f_1007, q_1008, hd⟩ := dk_bind hd
  refine hp_gI 16 rfl i_14_13 q_1008 ?_
  refine wp_s 17 [some (.ref a0), some (.int x1), none] [.ref a0, .int f_1007, .int f_1005, .ref f_1003, .ref f_1001] h0 i_14_16 rfl ?_
  obtain ⟨f_1009, q_1010, hd⟩ := dk_bind hd
  refine hp_gR 20 rfl i_14_17 q_1010 ?_
  refine wp_s 21 [some (.ref a0), some (.int x1), none] [.int x1, .ref f_1009, .int f_1007, .int f_1005, .ref f_1003, .ref f_1001] h0 i_14_20 rfl ?_
  refine wp_s 22 [some (.ref a0), some (.int x1), none] [.ref a0, .int x1, .ref f_1009, .int f_1007, .int f_1005, .ref f_1003, .ref f_1001] h0 i_14_21 rfl ?_
  obtain ⟨f_1011, q_1012, hd⟩ := dk_bind hd
  refine hp_gR 25 rfl i_14_22 q_1012 ?_
  obtain ⟨f_1013, q_1014, hd⟩ := dk_bind hd
  refine hp_gR 28 rfl i_14_25 q_1014 ?_
  obtain ⟨f_1015, q_1016, hd⟩ := dk_bind hd
  refine hp_gI 31 rfl i_14_28 q_1016 ?_
  obtain ⟨k_1017, hd⟩ := dk_if hd
  obtain ⟨fs_1018, o_1019⟩ := isO_of k_1017
  obtain ⟨z_1020, q_1021, hd⟩ := dk_bind hd
  refine wp_callV 34 rfl i_14_31 (by decide) rfl (vs := [.int f_1005, .int f_1007, .ref f_1009, .int x1, .int f_1015]) (rest := [.ref f_1001]) rfl rfl rfl o_1019 (y := m_94) rfl (Nat.le_of_ble_eq_true rfl) (d_94_ok (d := e) (by omega) q_1021) ?_
  rintro v_1022 h_1023 ⟨rfl, rfl⟩
  refine wp_s 35 [some (.ref a0), some (.int x1), none] [.ref a0, .int z_1020.1, .ref f_1001] z_1020.2 i_14_34 rfl ?_
  obtain ⟨f_1024, q_1025, hd⟩ := dk_bind hd
  refine hp_gR 38 rfl i_14_35 q_1025 ?_
  refine wp_s 39 [some (.ref a0), some (.int x1), none] [.int x1, .ref f_1024, .int z_1020.1, .ref f_1001] z_1020.2 i_14_38 rfl ?_
  obtain ⟨k_1026, hd⟩ := dk_if hd
  obtain ⟨fs_1027, o_1028⟩ := isO_of k_1026
  obtain ⟨z_1029, q_1030, hd⟩ := dk_bind hd
  refine wp_callV 42 rfl i_14_39 (by decide) rfl (vs := [.int z_1020.1, .ref f_1024, .int x1]) (rest := []) rfl rfl rfl o_1028 (y := m_2) rfl (Nat.le_of_ble_eq_true rfl) (d_2_ok (d := e) (by omega) q_1030) ?_
  rintro v_1031 h_1032 ⟨rfl, hz⟩
  have hz := hz.symm
  subst hz
  refine wp_s 43 [some (.ref a0), some (.int x1), none] [.int x1] z_1029 i_14_42 rfl ?_
  refine wp_s 44 [some (.ref a0), some (.int x1), none] [.int (5 : Int32), .int x1] z_1029 i_14_43 rfl ?_
  refine wp_cmp_lt 48 47 rfl rfl i_14_44 (fun c_1033 => ?_) (fun c_1033 => ?_)
  · rw [if_pos c_1033] at hd
    refine wp_s 49 [some (.ref a0), some (.int x1), none] [.int (0 : Int32)] z_1029 i_14_48 rfl ?_
    refine wp_s 50 [some (.ref a0), some (.int x1), some (.int (0 : Int32))] [] z_1029 i_14_49 rfl ?_
    exact aWp.forget ((l_14_ok hdp hs14 g).1 _ _ _ _ _ hd) (lvS (lvS (lvS lvE)))
  · rw [if_neg c_1033] at hd
    obtain rfl := Option.some.inj hd
    exact wp_ret i_14_47 rfl ⟨rfl, rfl⟩
def R_14 (g n tag : Nat) (a0 : Nat) (x1 : Int32) (h0 : aH) : Option aH := match n with
  | 0 => none
  | n + 1 => if tag = 0 then t_14 (fun a0 x1 h => R_14 g n 0 a0 x1 h) g a0 x1 h0 else none
theorem R_14_ok {X : aX} {g : Nat} : ∀ n, (∀ (a0 : Nat) (x1 : Int32) (h0 zz : aH), R_14 g n 0 a0 x1 h0 = some zz → aWp X (1 + n) 14 0 (aEntL [.ref a0, .int x1] 3) [] h0 (fun w h' => w = none ∧ h' = zz)) := by
  intro n
  induction n with
  | zero => exact fun _ _ _ _ hd => by simp [R_14] at hd
  | succ n ih =>
    intro a0 x1 h0 zz hd
    unfold R_14 at hd
    rw [if_pos rfl] at hd
    exact t_14_ok (e := 1 + n) (by omega) ih hd
def d_14 (g : Nat) (a0 : Nat) (x1 : Int32) (h0 : aH) : Option aH := R_14 g 8 0 a0 x1 h0
theorem d_14_ok {X : aX} {g : Nat} {a0 : Nat} {x1 : Int32} {h0 zz : aH} {d : Nat} (hdp : 9 ≤ d) (hd : d_14 g a0 x1 h0 = some zz) : aWp X d 14 0 (aEntL [.ref a0, .int x1] 3) [] h0 (fun w h' => w = none ∧ h' = zz) := ((R_14_ok 8) _ _ _ _ hd).deep hdp
def d_13 (g : Nat) (a0 : Nat) (h0 : aH) : Option (aH) := ((gR h0 a0 2 2).bind (fun f_1 => (if isO h0 f_1 0 = true then ((d_1 g f_1 h0).bind (fun z_6 => ((gR z_6 a0 2 0).bind (fun f_10 => ((gR z_6 f_10 10 1).bind (fun f_12 => ((gI z_6 f_12 7 13).bind (fun f_14 => (if isO z_6 a0 2 = true then ((d_12 g a0 f_14 z_6).bind (fun z_19 => (if isO z_19 a0 2 = true then ((d_14 g a0 (0 : Int32) z_19).bind (fun z_26 => some z_26)) else none))) else none))))))))) else none)))
set_option maxHeartbeats 4000000 in
set_option maxRecDepth 100000 in
theorem d_13_ok {X : aX} {g : Nat} {a0 : Nat} {h0 : aH} {zz : aH} {d : Nat} (hdp : 10 ≤ d) (hd : d_13 g a0 h0 = some zz) : aWp X d 13 0 (aEntL [.ref a0] 1) [] h0 (fun w h' => w = none ∧ h' = zz) := by
  unfold d_13 at hd
  refine wp_lv (l2 := [some (.ref a0)]) rfl ?_
  obtain ⟨e, rfl⟩ : ∃ e, d = e + 1 := ⟨d - 1, by omega⟩
  refine wp_s 1 [some (.ref a0)] [.ref a0] h0 i_13_0 rfl ?_
  obtain ⟨f_1, q_2, hd⟩ := dk_bind hd
  refine hp_gR 4 rfl i_13_1 q_2 ?_
  obtain ⟨k_3, hd⟩ := dk_if hd
  obtain ⟨fs_4, o_5⟩ := isO_of k_3
  obtain ⟨z_6, q_7, hd⟩ := dk_bind hd
  refine wp_callV 7 rfl i_13_4 (by decide) rfl (vs := []) (rest := []) rfl rfl rfl o_5 (y := m_1) rfl (Nat.le_of_ble_eq_true rfl) (d_1_ok (d := e) (by omega) q_7) ?_
  rintro v_8 h_9 ⟨rfl, hz⟩
  have hz := hz.symm
  subst hz
  refine wp_s 8 [some (.ref a0)] [.ref a0] z_6 i_13_7 rfl ?_
  refine wp_s 9 [some (.ref a0)] [.ref a0, .ref a0] z_6 i_13_8 rfl ?_
  obtain ⟨f_10, q_11, hd⟩ := dk_bind hd
  refine hp_gR 12 rfl i_13_9 q_11 ?_
  obtain ⟨f_12, q_13, hd⟩ := dk_bind hd
  refine hp_gR 15 rfl i_13_12 q_13 ?_
  obtain ⟨f_14, q_15, hd⟩ := dk_bind hd
  refine hp_gI 18 rfl i_13_15 q_15 ?_
  obtain ⟨k_16, hd⟩ := dk_if hd
  obtain ⟨fs_17, o_18⟩ := isO_of k_16
  obtain ⟨z_19, q_20, hd⟩ := dk_bind hd
  refine wp_callV 21 rfl i_13_18 (by decide) rfl (vs := [.int f_14]) (rest := []) rfl rfl rfl o_18 (y := m_12) rfl (Nat.le_of_ble_eq_true rfl) (d_12_ok (d := e) (by omega) q_20) ?_
  rintro v_21 h_22 ⟨rfl, hz⟩
  have hz := hz.symm
  subst hz
  refine wp_s 22 [some (.ref a0)] [.ref a0] z_19 i_13_21 rfl ?_
  refine wp_s 23 [some (.ref a0)] [.int (0 : Int32), .ref a0] z_19 i_13_22 rfl ?_
  obtain ⟨k_23, hd⟩ := dk_if hd
  obtain ⟨fs_24, o_25⟩ := isO_of k_23
  obtain ⟨z_26, q_27, hd⟩ := dk_bind hd
  refine wp_callV 26 rfl i_13_23 (by decide) rfl (vs := [.int (0 : Int32)]) (rest := []) rfl rfl rfl o_25 (y := m_14) rfl (Nat.le_of_ble_eq_true rfl) (d_14_ok (d := e) (by omega) q_27) ?_
  rintro v_28 h_29 ⟨rfl, hz⟩
  have hz := hz.symm
  subst hz
  obtain rfl := Option.some.inj hd
  exact wp_ret i_13_26 rfl ⟨rfl, rfl⟩
def l_273 (g n tag : Nat) (a0 : Nat) (x1 : Int32) (x2 : Int32) (x3 : Int32) (h0 : aH) : Option (aH) := match n with
  | 0 => none
  | n + 1 => if tag = 0 then (if x3 ≤ x2 then some h0 else ((sA h0 a0 x2 x1).bind (fun h_2 => (l_273 g n 0 a0 x1 (x2 + (1 : Int32)) x3 h_2)))) else none
set_option maxHeartbeats 4000000 in
set_option maxRecDepth 100000 in
theorem l_273_ok {X : aX} {g : Nat} {d : Nat} (hdp : 0 ≤ d) : ∀ n, (∀ (a0 : Nat) (x1 : Int32) (x2 : Int32) (x3 : Int32) (h0 : aH) (zz : aH), l_273 g n 0 a0 x1 x2 x3 h0 = some zz → aWp X d 273 5 [some (.ref a0), some (.int x1), some (.int x2), some (.int x3)] [] h0 (fun w h' => w = none ∧ h' = zz)) := by
  intro n
  induction n with
  | zero => exact fun _ _ _ _ _ _ hd => by simp [l_273] at hd
  | succ n ih =>
    intro a0 x1 x2 x3 h0 zz hd
    unfold l_273 at hd
    rw [if_pos rfl] at hd
    refine wp_s 6 [some (.ref a0), some (.int x1), some (.int x2), some (.int x3)] [.int x2] h0 i_273_5 rfl ?_
    refine wp_s 7 [some (.ref a0), some (.int x1), some (.int x2), some (.int x3)] [.int x3, .int x2] h0 i_273_6 rfl ?_
    refine wp_cmp_ge 20 10 rfl rfl i_273_7 (fun c_1 => ?_) (fun c_1 => ?_)
    · rw [if_pos c_1] at hd
      obtain rfl := Option.some.inj hd
      exact wp_ret i_273_20 rfl ⟨rfl, rfl⟩
    · rw [if_neg c_1] at hd
      refine wp_s 11 [some (.ref a0), some (.int x1), some (.int x2), some (.int x3)] [.ref a0] h0 i_273_10 rfl ?_
      refine wp_s 12 [some (.ref a0), some (.int x1), some (.int x2), some (.int x3)] [.int x2, .ref a0] h0 i_273_11 rfl ?_
      refine wp_s 13 [some (.ref a0), some (.int x1), some (.int x2), some (.int x3)] [.int x1, .int x2, .ref a0] h0 i_273_12 rfl ?_
      obtain ⟨h_2, q_3, hd⟩ := dk_bind hd
      refine hp_sA 14 rfl i_273_13 q_3 ?_
      refine wp_s 17 [some (.ref a0), some (.int x1), some (.int (x2 + (1 : Int32))), some (.int x3)] [] h_2 i_273_14 rfl ?_
      refine wp_s 5 [some (.ref a0), some (.int x1), some (.int (x2 + (1 : Int32))), some (.int x3)] [] h_2 i_273_17 rfl ?_
      exact aWp.forget (ih _ _ _ _ _ _ hd) (lvS (lvS (lvS (lvS lvE))))
def d_273 (g : Nat) (a0 : Nat) (x1 : Int32) (h0 : aH) : Option (aH) := ((gN h0 a0).bind (fun f_1001 => (l_273 g g 0 a0 x1 (0 : Int32) f_1001 h0)))
set_option maxHeartbeats 4000000 in
set_option maxRecDepth 100000 in
theorem d_273_ok {X : aX} {g : Nat} {a0 : Nat} {x1 : Int32} {h0 : aH} {zz : aH} {d : Nat} (hdp : 0 ≤ d) (hd : d_273 g a0 x1 h0 = some zz) : aWp X d 273 0 (aEntL [.ref a0, .int x1] 4) [] h0 (fun w h' => w = none ∧ h' = zz) := by
  unfold d_273 at hd
  refine wp_lv (l2 := [some (.ref a0), some (.int x1), none, none]) rfl ?_
  refine wp_s 1 [some (.ref a0), some (.int x1), none, none] [.int (0 : Int32)] h0 i_273_0 rfl ?_
  refine wp_s 2 [some (.ref a0), some (.int x1), some (.int (0 : Int32)), none] [] h0 i_273_1 rfl ?_
  refine wp_s 3 [some (.ref a0), some (.int x1), some (.int (0 : Int32)), none] [.ref a0] h0 i_273_2 rfl ?_
  obtain ⟨f_1001, q_1002, hd⟩ := dk_bind hd
  refine hp_gN 4 rfl i_273_3 q_1002 ?_
  refine wp_s 5 [some (.ref a0), some (.int x1), some (.int (0 : Int32)), some (.int f_1001)] [] h0 i_273_4 rfl ?_
  exact aWp.forget ((l_273_ok hdp g) _ _ _ _ _ _ hd) (lvS (lvS (lvS (lvS lvE))))
def j_16_25 (g : Nat) (a0 : Nat) (x1 : Int32) (h0 : aH) : Option (Int32 × aH) := some ((1 : Int32), h0)
set_option maxHeartbeats 4000000 in
set_option maxRecDepth 100000 in
theorem j_16_25_ok {X : aX} {g : Nat} {a0 : Nat} {x1 : Int32} {h0 : aH} {zz : Int32 × aH} {d : Nat} (hdp : 1 ≤ d) (hd : j_16_25 g a0 x1 h0 = some zz) : aWp X d 16 25 [some (.ref a0), some (.int x1)] [] h0 (fun w h' => w = some (.int zz.1) ∧ h' = zz.2) := by
  unfold j_16_25 at hd
  obtain ⟨e, rfl⟩ : ∃ e, d = e + 1 := ⟨d - 1, by omega⟩
  refine wp_s 26 [some (.ref a0), some (.int x1)] [.int (1 : Int32)] h0 i_16_25 rfl ?_
  refine wp_s 30 [some (.ref a0), some (.int x1)] [.int (1 : Int32)] h0 i_16_26 rfl ?_
  obtain rfl := Option.some.inj hd
  exact wp_iretZ (z := 0) i_16_30 (by decide) ⟨rfl, rfl⟩
def d_16 (g : Nat) (a0 : Nat) (x1 : Int32) (h0 : aH) : Option (Int32 × aH) := ((gR h0 a0 2 3).bind (fun f_1 => ((d_273 g f_1 (0 : Int32) h0).bind (fun z_3 => (if x1 = 0 then (j_16_25 g a0 x1 z_3) else ((gR z_3 a0 2 0).bind (fun f_8 => ((gR z_3 f_8 10 0).bind (fun f_10 => ((gI z_3 f_10 5 4).bind (fun f_12 => (if f_12 ≤ 0 then some ((0 : Int32), z_3) else (j_16_25 g a0 x1 z_3)))))))))))))
set_option maxHeartbeats 4000000 in
set_option maxRecDepth 100000 in
theorem d_16_ok {X : aX} {g : Nat} {a0 : Nat} {x1 : Int32} {h0 : aH} {zz : Int32 × aH} {d : Nat} (hdp : 1 ≤ d) (hd : d_16 g a0 x1 h0 = some zz) : aWp X d 16 0 (aEntL [.ref a0, .int x1] 2) [] h0 (fun w h' => w = some (.int zz.1) ∧ h' = zz.2) := by
  unfold d_16 at hd
  refine wp_lv (l2 := [some (.ref a0), some (.int x1)]) rfl ?_
  obtain ⟨e, rfl⟩ : ∃ e, d = e + 1 := ⟨d - 1, by omega⟩
  refine wp_s 1 [some (.ref a0), some (.int x1)] [.ref a0] h0 i_16_0 rfl ?_
  obtain ⟨f_1, q_2, hd⟩ := dk_bind hd
  refine hp_gR 4 rfl i_16_1 q_2 ?_
  refine wp_s 5 [some (.ref a0), some (.int x1)] [.int (0 : Int32), .ref f_1] h0 i_16_4 rfl ?_
  obtain ⟨z_3, q_4, hd⟩ := dk_bind hd
  refine wp_callS 8 rfl i_16_5 (by decide) (vs := [.ref f_1, .int (0 : Int32)]) (rest := []) rfl rfl rfl (y := m_273) rfl (Nat.le_of_ble_eq_true rfl) (d_273_ok (d := e) (by omega) q_4) ?_
  rintro v_5 h_6 ⟨rfl, hz⟩
  have hz := hz.symm
  subst hz
  refine wp_s 9 [some (.ref a0), some (.int x1)] [.int x1] z_3 i_16_8 rfl ?_
  refine wp_if_eq 25 12 rfl rfl i_16_9 (fun c_7 => ?_) (fun c_7 => ?_)
  · rw [if_pos c_7] at hd
    exact aWp.forget (j_16_25_ok hdp hd) (lvS (lvS lvE))
  · rw [if_neg c_7] at hd
    refine wp_s 13 [some (.ref a0), some (.int x1)] [.ref a0] z_3 i_16_12 rfl ?_
    obtain ⟨f_8, q_9, hd⟩ := dk_bind hd
    refine hp_gR 16 rfl i_16_13 q_9 ?_
    obtain ⟨f_10, q_11, hd⟩ := dk_bind hd
    refine hp_gR 19 rfl i_16_16 q_11 ?_
    obtain ⟨f_12, q_13, hd⟩ := dk_bind hd
    refine hp_gI 22 rfl i_16_19 q_13 ?_
    refine wp_if_le 29 25 rfl rfl i_16_22 (fun c_14 => ?_) (fun c_14 => ?_)
    · rw [if_pos c_14] at hd
      refine wp_s 30 [some (.ref a0), some (.int x1)] [.int (0 : Int32)] z_3 i_16_29 rfl ?_
      obtain rfl := Option.some.inj hd
      exact wp_iretZ (z := 0) i_16_30 (by decide) ⟨rfl, rfl⟩
    · rw [if_neg c_14] at hd
      exact aWp.forget (j_16_25_ok hdp hd) (lvS (lvS lvE))
def l_17 (g n tag : Nat) (a0 : Nat) (x1 : Int32) (x2 : Int32) (x3 : Int32) (x4 : Int32) (h0 : aH) : Option (Int32 × aH) := match n with
  | 0 => none
  | n + 1 => if tag = 0 then (if x2 < 0 then some ((0 : Int32), h0) else ((gR h0 a0 2 3).bind (fun f_2 => ((gA h0 f_2 x2).bind (fun f_4 => ((gR h0 a0 2 0).bind (fun f_6 => ((gR h0 f_6 10 0).bind (fun f_8 => ((gI h0 f_8 5 4).bind (fun f_10 => (if f_10 ≤ (f_4 + (1 : Int32)) then (l_17 g n 0 a0 x1 (x2 + (-1 : Int32)) 0 0 h0) else (l_17 g n 1 a0 x1 x2 (f_4 + (1 : Int32)) x2 h0))))))))))))) else if tag = 1 then (if x1 ≤ x4 then some ((1 : Int32), h0) else ((gR h0 a0 2 3).bind (fun f_14 => ((sA h0 f_14 x4 x3).bind (fun h_16 => (l_17 g n 1 a0 x1 x2 x3 (x4 + (1 : Int32)) h_16)))))) else none
set_option maxHeartbeats 4000000 in
set_option maxRecDepth 100000 in
theorem l_17_ok {X : aX} {g : Nat} {d : Nat} (hdp : 0 ≤ d) : ∀ n, (∀ (a0 : Nat) (x1 : Int32) (x2 : Int32) (x3 : Int32) (x4 : Int32) (h0 : aH) (zz : Int32 × aH), l_17 g n 0 a0 x1 x2 x3 x4 h0 = some zz → aWp X d 17 4 [some (.ref a0), some (.int x1), some (.int x2), none, none] [] h0 (fun w h' => w = some (.int zz.1) ∧ h' = zz.2)) ∧ (∀ (a0 : Nat) (x1 : Int32) (x2 : Int32) (x3 : Int32) (x4 : Int32) (h0 : aH) (zz : Int32 × aH), l_17 g n 1 a0 x1 x2 x3 x4 h0 = some zz → aWp X d 17 34 [some (.ref a0), some (.int x1), some (.int x2), some (.int x3), some (.int x4)] [] h0 (fun w h' => w = some (.int zz.1) ∧ h' = zz.2)) := by
  intro n
  induction n with
  | zero => exact ⟨fun _ _ _ _ _ _ _ hd => by simp [l_17] at hd, fun _ _ _ _ _ _ _ hd => by simp [l_17] at hd⟩
  | succ n ih =>
    refine ⟨?_, ?_⟩
    · intro a0 x1 x2 x3 x4 h0 zz hd
      unfold l_17 at hd
      rw [if_pos rfl] at hd
      refine wp_s 5 [some (.ref a0), some (.int x1), some (.int x2), none, none] [.int x2] h0 i_17_4 rfl ?_
      refine wp_if_lt 62 8 rfl rfl i_17_5 (fun c_1 => ?_) (fun c_1 => ?_)
      · rw [if_pos c_1] at hd
        refine wp_s 63 [some (.ref a0), some (.int x1), some (.int x2), none, none] [.int (0 : Int32)] h0 i_17_62 rfl ?_
        obtain rfl := Option.some.inj hd
        exact wp_iretZ (z := 0) i_17_63 (by decide) ⟨rfl, rfl⟩
      · rw [if_neg c_1] at hd
        refine wp_s 9 [some (.ref a0), some (.int x1), some (.int x2), none, none] [.ref a0] h0 i_17_8 rfl ?_
        obtain ⟨f_2, q_3, hd⟩ := dk_bind hd
        refine hp_gR 12 rfl i_17_9 q_3 ?_
        refine wp_s 13 [some (.ref a0), some (.int x1), some (.int x2), none, none] [.int x2, .ref f_2] h0 i_17_12 rfl ?_
        obtain ⟨f_4, q_5, hd⟩ := dk_bind hd
        refine hp_gA 14 rfl i_17_13 q_5 ?_
        refine wp_s 15 [some (.ref a0), some (.int x1), some (.int x2), none, none] [.int (1 : Int32), .int f_4] h0 i_17_14 rfl ?_
        refine wp_s 16 [some (.ref a0), some (.int x1), some (.int x2), none, none] [.int (f_4 + (1 : Int32))] h0 i_17_15 rfl ?_
        refine wp_s 17 [some (.ref a0), some (.int x1), some (.int x2), some (.int (f_4 + (1 : Int32))), none] [] h0 i_17_16 rfl ?_
        refine wp_s 18 [some (.ref a0), some (.int x1), some (.int x2), some (.int (f_4 + (1 : Int32))), none] [.int (f_4 + (1 : Int32))] h0 i_17_17 rfl ?_
        refine wp_s 19 [some (.ref a0), some (.int x1), some (.int x2), some (.int (f_4 + (1 : Int32))), none] [.ref a0, .int (f_4 + (1 : Int32))] h0 i_17_18 rfl ?_
        obtain ⟨f_6, q_7, hd⟩ := dk_bind hd
        refine hp_gR 22 rfl i_17_19 q_7 ?_
        obtain ⟨f_8, q_9, hd⟩ := dk_bind hd
        refine hp_gR 25 rfl i_17_22 q_9 ?_
        obtain ⟨f_10, q_11, hd⟩ := dk_bind hd
        refine hp_gI 28 rfl i_17_25 q_11 ?_
        refine wp_cmp_ge 56 31 rfl rfl i_17_28 (fun c_12 => ?_) (fun c_12 => ?_)
        · rw [if_pos c_12] at hd
          refine wp_s 59 [some (.ref a0), some (.int x1), some (.int (x2 + (-1 : Int32))), some (.int (f_4 + (1 : Int32))), none] [] h0 i_17_56 rfl ?_
          refine wp_s 4 [some (.ref a0), some (.int x1), some (.int (x2 + (-1 : Int32))), some (.int (f_4 + (1 : Int32))), none] [] h0 i_17_59 rfl ?_
          exact aWp.forget (ih.1 _ _ _ _ _ _ _ hd) (lvS (lvS (lvS (lvN (lvN lvE)))))
        · rw [if_neg c_12] at hd
          refine wp_s 32 [some (.ref a0), some (.int x1), some (.int x2), some (.int (f_4 + (1 : Int32))), none] [.int x2] h0 i_17_31 rfl ?_
          refine wp_s 34 [some (.ref a0), some (.int x1), some (.int x2), some (.int (f_4 + (1 : Int32))), some (.int x2)] [] h0 i_17_32 rfl ?_
          exact aWp.forget (ih.2 _ _ _ _ _ _ _ hd) (lvS (lvS (lvS (lvS (lvS lvE)))))
    · intro a0 x1 x2 x3 x4 h0 zz hd
      unfold l_17 at hd
      rw [if_neg (by decide), if_pos rfl] at hd
      refine wp_s 36 [some (.ref a0), some (.int x1), some (.int x2), some (.int x3), some (.int x4)] [.int x4] h0 i_17_34 rfl ?_
      refine wp_s 37 [some (.ref a0), some (.int x1), some (.int x2), some (.int x3), some (.int x4)] [.int x1, .int x4] h0 i_17_36 rfl ?_
      refine wp_cmp_ge 54 40 rfl rfl i_17_37 (fun c_13 => ?_) (fun c_13 => ?_)
      · rw [if_pos c_13] at hd
        refine wp_s 55 [some (.ref a0), some (.int x1), some (.int x2), some (.int x3), some (.int x4)] [.int (1 : Int32)] h0 i_17_54 rfl ?_
        obtain rfl := Option.some.inj hd
        exact wp_iretZ (z := 0) i_17_55 (by decide) ⟨rfl, rfl⟩
      · rw [if_neg c_13] at hd
        refine wp_s 41 [some (.ref a0), some (.int x1), some (.int x2), some (.int x3), some (.int x4)] [.ref a0] h0 i_17_40 rfl ?_
        obtain ⟨f_14, q_15, hd⟩ := dk_bind hd
        refine hp_gR 44 rfl i_17_41 q_15 ?_
        refine wp_s 46 [some (.ref a0), some (.int x1), some (.int x2), some (.int x3), some (.int x4)] [.int x4, .ref f_14] h0 i_17_44 rfl ?_
        refine wp_s 47 [some (.ref a0), some (.int x1), some (.int x2), some (.int x3), some (.int x4)] [.int x3, .int x4, .ref f_14] h0 i_17_46 rfl ?_
        obtain ⟨h_16, q_17, hd⟩ := dk_bind hd
        refine hp_sA 48 rfl i_17_47 q_17 ?_
        refine wp_s 51 [some (.ref a0), some (.int x1), some (.int x2), some (.int x3), some (.int (x4 + (1 : Int32)))] [] h_16 i_17_48 rfl ?_
        refine wp_s 34 [some (.ref a0), some (.int x1), some (.int x2), some (.int x3), some (.int (x4 + (1 : Int32)))] [] h_16 i_17_51 rfl ?_
        exact aWp.forget (ih.2 _ _ _ _ _ _ _ hd) (lvS (lvS (lvS (lvS (lvS lvE)))))
def d_17 (g : Nat) (a0 : Nat) (x1 : Int32) (h0 : aH) : Option (Int32 × aH) := (l_17 g g 0 a0 x1 (x1 - (1 : Int32)) 0 0 h0)
set_option maxHeartbeats 4000000 in
set_option maxRecDepth 100000 in
theorem d_17_ok {X : aX} {g : Nat} {a0 : Nat} {x1 : Int32} {h0 : aH} {zz : Int32 × aH} {d : Nat} (hdp : 0 ≤ d) (hd : d_17 g a0 x1 h0 = some zz) : aWp X d 17 0 (aEntL [.ref a0, .int x1] 5) [] h0 (fun w h' => w = some (.int zz.1) ∧ h' = zz.2) := by
  unfold d_17 at hd
  refine wp_lv (l2 := [some (.ref a0), some (.int x1), none, none, none]) rfl ?_
  refine wp_s 1 [some (.ref a0), some (.int x1), none, none, none] [.int x1] h0 i_17_0 rfl ?_
  refine wp_s 2 [some (.ref a0), some (.int x1), none, none, none] [.int (1 : Int32), .int x1] h0 i_17_1 rfl ?_
  refine wp_s 3 [some (.ref a0), some (.int x1), none, none, none] [.int (x1 - (1 : Int32))] h0 i_17_2 rfl ?_
  refine wp_s 4 [some (.ref a0), some (.int x1), some (.int (x1 - (1 : Int32))), none, none] [] h0 i_17_3 rfl ?_
  exact aWp.forget ((l_17_ok hdp g).1 _ _ _ _ _ _ _ hd) (lvS (lvS (lvS (lvN (lvN lvE)))))
def l_18 (g n tag : Nat) (a0 : Nat) (x1 : Int32) (x2 : Int32) (x3 : Int32) (x4 : Int32) (s0 : Int32) (h0 : aH) : Option (Int32 × aH) := match n with
  | 0 => none
  | n + 1 => if tag = 0 then (if x1 ≤ x3 then ((gI h0 a0 2 12).bind (fun f_2 => (if (12 : Int32) < (f_2 + x1) then some ((0 : Int32), h0) else some ((1 : Int32), h0)))) else ((gR h0 a0 2 3).bind (fun f_5 => ((gA h0 f_5 x3).bind (fun f_7 => (if x3 ≤ 0 then (l_18 g n 1 a0 x1 x2 x3 f_7 0 h0) else ((gR h0 a0 2 3).bind (fun f_10 => ((gA h0 f_10 (x3 - (1 : Int32))).bind (fun f_12 => (if ¬ f_12 = f_7 then (l_18 g n 1 a0 x1 x2 x3 f_7 0 h0) else (l_18 g n 2 a0 x1 x2 x3 f_7 (x2 + (1 : Int32)) h0)))))))))))) else if tag = 1 then (l_18 g n 2 a0 x1 x2 x3 x4 (1 : Int32) h0) else if tag = 2 then ((gR h0 a0 2 0).bind (fun f_15 => ((gR h0 f_15 10 1).bind (fun f_17 => ((gR h0 f_17 7 0).bind (fun f_19 => ((gA h0 f_19 x4).bind (fun f_21 => ((gR h0 a0 2 0).bind (fun f_23 => ((gR h0 f_23 10 1).bind (fun f_25 => ((gR h0 f_25 7 1).bind (fun f_27 => ((gA h0 f_27 x4).bind (fun f_29 => (if (f_21 + s0) ≤ f_29 then (l_18 g n 0 a0 x1 s0 (x3 + (1 : Int32)) 0 0 h0) else some ((0 : Int32), h0)))))))))))))))))) else none
set_option maxHeartbeats 4000000 in
set_option maxRecDepth 100000 in
theorem l_18_ok {X : aX} {g : Nat} {d : Nat} (hdp : 0 ≤ d) : ∀ n, (∀ (a0 : Nat) (x1 : Int32) (x2 : Int32) (x3 : Int32) (x4 : Int32) (s0 : Int32) (h0 : aH) (zz : Int32 × aH), l_18 g n 0 a0 x1 x2 x3 x4 s0 h0 = some zz → aWp X d 18 4 [some (.ref a0), some (.int x1), some (.int x2), some (.int x3), none] [] h0 (fun w h' => w = some (.int zz.1) ∧ h' = zz.2)) ∧ (∀ (a0 : Nat) (x1 : Int32) (x2 : Int32) (x3 : Int32) (x4 : Int32) (s0 : Int32) (h0 : aH) (zz : Int32 × aH), l_18 g n 1 a0 x1 x2 x3 x4 s0 h0 = some zz → aWp X d 18 40 [some (.ref a0), some (.int x1), some (.int x2), some (.int x3), some (.int x4)] [] h0 (fun w h' => w = some (.int zz.1) ∧ h' = zz.2)) ∧ (∀ (a0 : Nat) (x1 : Int32) (x2 : Int32) (x3 : Int32) (x4 : Int32) (s0 : Int32) (h0 : aH) (zz : Int32 × aH), l_18 g n 2 a0 x1 x2 x3 x4 s0 h0 = some zz → aWp X d 18 41 [some (.ref a0), some (.int x1), some (.int x2), some (.int x3), some (.int x4)] [.int s0] h0 (fun w h' => w = some (.int zz.1) ∧ h' = zz.2)) := by
  intro n
  induction n with
  | zero => exact ⟨fun _ _ _ _ _ _ _ _ hd => by simp [l_18] at hd, fun _ _ _ _ _ _ _ _ hd => by simp [l_18] at hd, fun _ _ _ _ _ _ _ _ hd => by simp [l_18] at hd⟩
  | succ n ih =>
    refine ⟨?_, ?_, ?_⟩
    · intro a0 x1 x2 x3 x4 s0 h0 zz hd
      unfold l_18 at hd
      rw [if_pos rfl] at hd
      refine wp_s 5 [some (.ref a0), some (.int x1), some (.int x2), some (.int x3), none] [.int x3] h0 i_18_4 rfl ?_
      refine wp_s 6 [some (.ref a0), some (.int x1), some (.int x2), some (.int x3), none] [.int x1, .int x3] h0 i_18_5 rfl ?_
      refine wp_cmp_ge 81 9 rfl rfl i_18_6 (fun c_1 => ?_) (fun c_1 => ?_)
      · rw [if_pos c_1] at hd
        refine wp_s 82 [some (.ref a0), some (.int x1), some (.int x2), some (.int x3), none] [.ref a0] h0 i_18_81 rfl ?_
        obtain ⟨f_2, q_3, hd⟩ := dk_bind hd
        refine hp_gI 85 rfl i_18_82 q_3 ?_
        refine wp_s 86 [some (.ref a0), some (.int x1), some (.int x2), some (.int x3), none] [.int x1, .int f_2] h0 i_18_85 rfl ?_
        refine wp_s 87 [some (.ref a0), some (.int x1), some (.int x2), some (.int x3), none] [.int (f_2 + x1)] h0 i_18_86 rfl ?_
        refine wp_s 89 [some (.ref a0), some (.int x1), some (.int x2), some (.int x3), none] [.int (12 : Int32), .int (f_2 + x1)] h0 i_18_87 rfl ?_
        refine wp_cmp_gt 96 92 rfl rfl i_18_89 (fun c_4 => ?_) (fun c_4 => ?_)
        · rw [if_pos c_4] at hd
          refine wp_s 97 [some (.ref a0), some (.int x1), some (.int x2), some (.int x3), none] [.int (0 : Int32)] h0 i_18_96 rfl ?_
          obtain rfl := Option.some.inj hd
          exact wp_iretZ (z := 0) i_18_97 (by decide) ⟨rfl, rfl⟩
        · rw [if_neg c_4] at hd
          refine wp_s 93 [some (.ref a0), some (.int x1), some (.int x2), some (.int x3), none] [.int (1 : Int32)] h0 i_18_92 rfl ?_
          refine wp_s 97 [some (.ref a0), some (.int x1), some (.int x2), some (.int x3), none] [.int (1 : Int32)] h0 i_18_93 rfl ?_
          obtain rfl := Option.some.inj hd
          exact wp_iretZ (z := 0) i_18_97 (by decide) ⟨rfl, rfl⟩
      · rw [if_neg c_1] at hd
        refine wp_s 10 [some (.ref a0), some (.int x1), some (.int x2), some (.int x3), none] [.ref a0] h0 i_18_9 rfl ?_
        obtain ⟨f_5, q_6, hd⟩ := dk_bind hd
        refine hp_gR 13 rfl i_18_10 q_6 ?_
        refine wp_s 14 [some (.ref a0), some (.int x1), some (.int x2), some (.int x3), none] [.int x3, .ref f_5] h0 i_18_13 rfl ?_
        obtain ⟨f_7, q_8, hd⟩ := dk_bind hd
        refine hp_gA 15 rfl i_18_14 q_8 ?_
        refine wp_s 17 [some (.ref a0), some (.int x1), some (.int x2), some (.int x3), some (.int f_7)] [] h0 i_18_15 rfl ?_
        refine wp_s 18 [some (.ref a0), some (.int x1), some (.int x2), some (.int x3), some (.int f_7)] [.int x3] h0 i_18_17 rfl ?_
        refine wp_if_le 40 21 rfl rfl i_18_18 (fun c_9 => ?_) (fun c_9 => ?_)
        · rw [if_pos c_9] at hd
          exact aWp.forget (ih.2.1 _ _ _ _ _ _ _ _ hd) (lvS (lvS (lvS (lvS (lvS lvE)))))
        · rw [if_neg c_9] at hd
          refine wp_s 22 [some (.ref a0), some (.int x1), some (.int x2), some (.int x3), some (.int f_7)] [.ref a0] h0 i_18_21 rfl ?_
          obtain ⟨f_10, q_11, hd⟩ := dk_bind hd
          refine hp_gR 25 rfl i_18_22 q_11 ?_
          refine wp_s 26 [some (.ref a0), some (.int x1), some (.int x2), some (.int x3), some (.int f_7)] [.int x3, .ref f_10] h0 i_18_25 rfl ?_
          refine wp_s 27 [some (.ref a0), some (.int x1), some (.int x2), some (.int x3), some (.int f_7)] [.int (1 : Int32), .int x3, .ref f_10] h0 i_18_26 rfl ?_
          refine wp_s 28 [some (.ref a0), some (.int x1), some (.int x2), some (.int x3), some (.int f_7)] [.int (x3 - (1 : Int32)), .ref f_10] h0 i_18_27 rfl ?_
          obtain ⟨f_12, q_13, hd⟩ := dk_bind hd
          refine hp_gA 29 rfl i_18_28 q_13 ?_
          refine wp_s 31 [some (.ref a0), some (.int x1), some (.int x2), some (.int x3), some (.int f_7)] [.int f_7, .int f_12] h0 i_18_29 rfl ?_
          refine wp_cmp_ne 40 34 rfl rfl i_18_31 (fun c_14 => ?_) (fun c_14 => ?_)
          · rw [if_pos c_14] at hd
            exact aWp.forget (ih.2.1 _ _ _ _ _ _ _ _ hd) (lvS (lvS (lvS (lvS (lvS lvE)))))
          · rw [if_neg c_14] at hd
            refine wp_s 35 [some (.ref a0), some (.int x1), some (.int x2), some (.int x3), some (.int f_7)] [.int x2] h0 i_18_34 rfl ?_
            refine wp_s 36 [some (.ref a0), some (.int x1), some (.int x2), some (.int x3), some (.int f_7)] [.int (1 : Int32), .int x2] h0 i_18_35 rfl ?_
            refine wp_s 37 [some (.ref a0), some (.int x1), some (.int x2), some (.int x3), some (.int f_7)] [.int (x2 + (1 : Int32))] h0 i_18_36 rfl ?_
            refine wp_s 41 [some (.ref a0), some (.int x1), some (.int x2), some (.int x3), some (.int f_7)] [.int (x2 + (1 : Int32))] h0 i_18_37 rfl ?_
            exact aWp.forget (ih.2.2 _ _ _ _ _ _ _ _ hd) (lvS (lvS (lvS (lvS (lvS lvE)))))
    · intro a0 x1 x2 x3 x4 s0 h0 zz hd
      unfold l_18 at hd
      rw [if_neg (by decide), if_pos rfl] at hd
      refine wp_s 41 [some (.ref a0), some (.int x1), some (.int x2), some (.int x3), some (.int x4)] [.int (1 : Int32)] h0 i_18_40 rfl ?_
      exact aWp.forget (ih.2.2 _ _ _ _ _ _ _ _ hd) (lvS (lvS (lvS (lvS (lvS lvE)))))
    · intro a0 x1 x2 x3 x4 s0 h0 zz hd
      unfold l_18 at hd
      rw [if_neg (by decide), if_neg (by decide), if_pos rfl] at hd
      refine wp_s 42 [some (.ref a0), some (.int x1), some (.int s0), some (.int x3), some (.int x4)] [] h0 i_18_41 rfl ?_
      refine wp_s 43 [some (.ref a0), some (.int x1), some (.int s0), some (.int x3), some (.int x4)] [.ref a0] h0 i_18_42 rfl ?_
      obtain ⟨f_15, q_16, hd⟩ := dk_bind hd
      refine hp_gR 46 rfl i_18_43 q_16 ?_
      obtain ⟨f_17, q_18, hd⟩ := dk_bind hd
      refine hp_gR 49 rfl i_18_46 q_18 ?_
      obtain ⟨f_19, q_20, hd⟩ := dk_bind hd
      refine hp_gR 52 rfl i_18_49 q_20 ?_
      refine wp_s 54 [some (.ref a0), some (.int x1), some (.int s0), some (.int x3), some (.int x4)] [.int x4, .ref f_19] h0 i_18_52 rfl ?_
      obtain ⟨f_21, q_22, hd⟩ := dk_bind hd
      refine hp_gA 55 rfl i_18_54 q_22 ?_
      refine wp_s 56 [some (.ref a0), some (.int x1), some (.int s0), some (.int x3), some (.int x4)] [.int s0, .int f_21] h0 i_18_55 rfl ?_
      refine wp_s 57 [some (.ref a0), some (.int x1), some (.int s0), some (.int x3), some (.int x4)] [.int (f_21 + s0)] h0 i_18_56 rfl ?_
      refine wp_s 58 [some (.ref a0), some (.int x1), some (.int s0), some (.int x3), some (.int x4)] [.ref a0, .int (f_21 + s0)] h0 i_18_57 rfl ?_
      obtain ⟨f_23, q_24, hd⟩ := dk_bind hd
      refine hp_gR 61 rfl i_18_58 q_24 ?_
      obtain ⟨f_25, q_26, hd⟩ := dk_bind hd
      refine hp_gR 64 rfl i_18_61 q_26 ?_
      obtain ⟨f_27, q_28, hd⟩ := dk_bind hd
      refine hp_gR 67 rfl i_18_64 q_28 ?_
      refine wp_s 69 [some (.ref a0), some (.int x1), some (.int s0), some (.int x3), some (.int x4)] [.int x4, .ref f_27, .int (f_21 + s0)] h0 i_18_67 rfl ?_
      obtain ⟨f_29, q_30, hd⟩ := dk_bind hd
      refine hp_gA 70 rfl i_18_69 q_30 ?_
      refine wp_cmp_le 75 73 rfl rfl i_18_70 (fun c_31 => ?_) (fun c_31 => ?_)
      · rw [if_pos c_31] at hd
        refine wp_s 78 [some (.ref a0), some (.int x1), some (.int s0), some (.int (x3 + (1 : Int32))), some (.int x4)] [] h0 i_18_75 rfl ?_
        refine wp_s 4 [some (.ref a0), some (.int x1), some (.int s0), some (.int (x3 + (1 : Int32))), some (.int x4)] [] h0 i_18_78 rfl ?_
        exact aWp.forget (ih.1 _ _ _ _ _ _ _ _ hd) (lvS (lvS (lvS (lvS (lvN lvE)))))
      · rw [if_neg c_31] at hd
        refine wp_s 74 [some (.ref a0), some (.int x1), some (.int s0), some (.int x3), some (.int x4)] [.int (0 : Int32)] h0 i_18_73 rfl ?_
        obtain rfl := Option.some.inj hd
        exact wp_iretZ (z := 0) i_18_74 (by decide) ⟨rfl, rfl⟩
def d_18 (g : Nat) (a0 : Nat) (x1 : Int32) (h0 : aH) : Option (Int32 × aH) := (l_18 g g 0 a0 x1 (0 : Int32) (0 : Int32) 0 0 h0)
set_option maxHeartbeats 4000000 in
set_option maxRecDepth 100000 in
theorem d_18_ok {X : aX} {g : Nat} {a0 : Nat} {x1 : Int32} {h0 : aH} {zz : Int32 × aH} {d : Nat} (hdp : 0 ≤ d) (hd : d_18 g a0 x1 h0 = some zz) : aWp X d 18 0 (aEntL [.ref a0, .int x1] 5) [] h0 (fun w h' => w = some (.int zz.1) ∧ h' = zz.2) := by
  unfold d_18 at hd
  refine wp_lv (l2 := [some (.ref a0), some (.int x1), none, none, none]) rfl ?_
  refine wp_s 1 [some (.ref a0), some (.int x1), none, none, none] [.int (0 : Int32)] h0 i_18_0 rfl ?_
  refine wp_s 2 [some (.ref a0), some (.int x1), some (.int (0 : Int32)), none, none] [] h0 i_18_1 rfl ?_
  refine wp_s 3 [some (.ref a0), some (.int x1), some (.int (0 : Int32)), none, none] [.int (0 : Int32)] h0 i_18_2 rfl ?_
  refine wp_s 4 [some (.ref a0), some (.int x1), some (.int (0 : Int32)), some (.int (0 : Int32)), none] [] h0 i_18_3 rfl ?_
  exact aWp.forget ((l_18_ok hdp g).1 _ _ _ _ _ _ _ _ hd) (lvS (lvS (lvS (lvS (lvN lvE)))))
def l_20 (g n tag : Nat) (a0 : Nat) (x1 : Int32) (x2 : Int32) (x3 : Int32) (h0 : aH) : Option (Int32 × aH) := match n with
  | 0 => none
  | n + 1 => if tag = 0 then (if x1 ≤ x3 then some (x2, h0) else ((gR h0 a0 2 4).bind (fun f_2 => ((gR h0 a0 2 3).bind (fun f_4 => ((gA h0 f_4 x3).bind (fun f_6 => ((gA h0 f_2 f_6).bind (fun f_8 => (l_20 g n 0 a0 x1 (x2 + f_8) (x3 + (1 : Int32)) h0)))))))))) else none
set_option maxHeartbeats 4000000 in
set_option maxRecDepth 100000 in
theorem l_20_ok {X : aX} {g : Nat} {d : Nat} (hdp : 0 ≤ d) : ∀ n, (∀ (a0 : Nat) (x1 : Int32) (x2 : Int32) (x3 : Int32) (h0 : aH) (zz : Int32 × aH), l_20 g n 0 a0 x1 x2 x3 h0 = some zz → aWp X d 20 4 [some (.ref a0), some (.int x1), some (.int x2), some (.int x3)] [] h0 (fun w h' => w = some (.int zz.1) ∧ h' = zz.2)) := by
  intro n
  induction n with
  | zero => exact fun _ _ _ _ _ _ hd => by simp [l_20] at hd
  | succ n ih =>
    intro a0 x1 x2 x3 h0 zz hd
    unfold l_20 at hd
    rw [if_pos rfl] at hd
    refine wp_s 5 [some (.ref a0), some (.int x1), some (.int x2), some (.int x3)] [.int x3] h0 i_20_4 rfl ?_
    refine wp_s 6 [some (.ref a0), some (.int x1), some (.int x2), some (.int x3)] [.int x1, .int x3] h0 i_20_5 rfl ?_
    refine wp_cmp_ge 29 9 rfl rfl i_20_6 (fun c_1 => ?_) (fun c_1 => ?_)
    · rw [if_pos c_1] at hd
      refine wp_s 30 [some (.ref a0), some (.int x1), some (.int x2), some (.int x3)] [.int x2] h0 i_20_29 rfl ?_
      obtain rfl := Option.some.inj hd
      exact wp_iret i_20_30 ⟨rfl, rfl⟩
    · rw [if_neg c_1] at hd
      refine wp_s 10 [some (.ref a0), some (.int x1), some (.int x2), some (.int x3)] [.int x2] h0 i_20_9 rfl ?_
      refine wp_s 11 [some (.ref a0), some (.int x1), some (.int x2), some (.int x3)] [.ref a0, .int x2] h0 i_20_10 rfl ?_
      obtain ⟨f_2, q_3, hd⟩ := dk_bind hd
      refine hp_gR 14 rfl i_20_11 q_3 ?_
      refine wp_s 15 [some (.ref a0), some (.int x1), some (.int x2), some (.int x3)] [.ref a0, .ref f_2, .int x2] h0 i_20_14 rfl ?_
      obtain ⟨f_4, q_5, hd⟩ := dk_bind hd
      refine hp_gR 18 rfl i_20_15 q_5 ?_
      refine wp_s 19 [some (.ref a0), some (.int x1), some (.int x2), some (.int x3)] [.int x3, .ref f_4, .ref f_2, .int x2] h0 i_20_18 rfl ?_
      obtain ⟨f_6, q_7, hd⟩ := dk_bind hd
      refine hp_gA 20 rfl i_20_19 q_7 ?_
      obtain ⟨f_8, q_9, hd⟩ := dk_bind hd
      refine hp_gA 21 rfl i_20_20 q_9 ?_
      refine wp_s 22 [some (.ref a0), some (.int x1), some (.int x2), some (.int x3)] [.int (x2 + f_8)] h0 i_20_21 rfl ?_
      refine wp_s 23 [some (.ref a0), some (.int x1), some (.int (x2 + f_8)), some (.int x3)] [] h0 i_20_22 rfl ?_
      refine wp_s 26 [some (.ref a0), some (.int x1), some (.int (x2 + f_8)), some (.int (x3 + (1 : Int32)))] [] h0 i_20_23 rfl ?_
      refine wp_s 4 [some (.ref a0), some (.int x1), some (.int (x2 + f_8)), some (.int (x3 + (1 : Int32)))] [] h0 i_20_26 rfl ?_
      exact aWp.forget (ih _ _ _ _ _ _ hd) (lvS (lvS (lvS (lvS lvE))))
def d_20 (g : Nat) (a0 : Nat) (x1 : Int32) (h0 : aH) : Option (Int32 × aH) := (l_20 g g 0 a0 x1 (0 : Int32) (0 : Int32) h0)
set_option maxHeartbeats 4000000 in
set_option maxRecDepth 100000 in
theorem d_20_ok {X : aX} {g : Nat} {a0 : Nat} {x1 : Int32} {h0 : aH} {zz : Int32 × aH} {d : Nat} (hdp : 0 ≤ d) (hd : d_20 g a0 x1 h0 = some zz) : aWp X d 20 0 (aEntL [.ref a0, .int x1] 4) [] h0 (fun w h' => w = some (.int zz.1) ∧ h' = zz.2) := by
  unfold d_20 at hd
  refine wp_lv (l2 := [some (.ref a0), some (.int x1), none, none]) rfl ?_
  refine wp_s 1 [some (.ref a0), some (.int x1), none, none] [.int (0 : Int32)] h0 i_20_0 rfl ?_
  refine wp_s 2 [some (.ref a0), some (.int x1), some (.int (0 : Int32)), none] [] h0 i_20_1 rfl ?_
  refine wp_s 3 [some (.ref a0), some (.int x1), some (.int (0 : Int32)), none] [.int (0 : Int32)] h0 i_20_2 rfl ?_
  refine wp_s 4 [some (.ref a0), some (.int x1), some (.int (0 : Int32)), some (.int (0 : Int32))] [] h0 i_20_3 rfl ?_
  exact aWp.forget ((l_20_ok hdp g) _ _ _ _ _ _ hd) (lvS (lvS (lvS (lvS lvE))))
def d_19 (g : Nat) (a0 : Nat) (x1 : Int32) (x2 : Int32) (h0 : aH) : Option (Int32 × aH) := ((gR h0 a0 2 1).bind (fun f_1 => ((gI h0 a0 2 12).bind (fun f_3 => ((gI h0 a0 2 11).bind (fun f_5 => (if isO h0 a0 2 = true then ((d_20 g a0 x2 h0).bind (fun z_10 => ((gR z_10.2 a0 2 0).bind (fun f_14 => ((gR z_10.2 f_14 10 1).bind (fun f_16 => ((gR z_10.2 f_16 7 6).bind (fun f_18 => ((gR z_10.2 a0 2 0).bind (fun f_20 => ((gR z_10.2 f_20 10 1).bind (fun f_22 => ((gI z_10.2 f_22 7 8).bind (fun f_24 => (if isO z_10.2 f_1 9 = true then ((d_94 g f_1 (f_3 + x2) (f_5 + z_10.1) f_18 f_24 x1 z_10.2).bind (fun z_29 => some (z_29.1, z_29.2))) else none))))))))))))))) else none)))))))
set_option maxHeartbeats 4000000 in
set_option maxRecDepth 100000 in
theorem d_19_ok {X : aX} {g : Nat} {a0 : Nat} {x1 : Int32} {x2 : Int32} {h0 : aH} {zz : Int32 × aH} {d : Nat} (hdp : 1 ≤ d) (hd : d_19 g a0 x1 x2 h0 = some zz) : aWp X d 19 0 (aEntL [.ref a0, .int x1, .int x2] 3) [] h0 (fun w h' => w = some (.int zz.1) ∧ h' = zz.2) := by
  unfold d_19 at hd
  refine wp_lv (l2 := [some (.ref a0), some (.int x1), some (.int x2)]) rfl ?_
  obtain ⟨e, rfl⟩ : ∃ e, d = e + 1 := ⟨d - 1, by omega⟩
  refine wp_s 1 [some (.ref a0), some (.int x1), some (.int x2)] [.ref a0] h0 i_19_0 rfl ?_
  obtain ⟨f_1, q_2, hd⟩ := dk_bind hd
  refine hp_gR 4 rfl i_19_1 q_2 ?_
  refine wp_s 5 [some (.ref a0), some (.int x1), some (.int x2)] [.ref a0, .ref f_1] h0 i_19_4 rfl ?_
  obtain ⟨f_3, q_4, hd⟩ := dk_bind hd
  refine hp_gI 8 rfl i_19_5 q_4 ?_
  refine wp_s 9 [some (.ref a0), some (.int x1), some (.int x2)] [.int x2, .int f_3, .ref f_1] h0 i_19_8 rfl ?_
  refine wp_s 10 [some (.ref a0), some (.int x1), some (.int x2)] [.int (f_3 + x2), .ref f_1] h0 i_19_9 rfl ?_
  refine wp_s 11 [some (.ref a0), some (.int x1), some (.int x2)] [.ref a0, .int (f_3 + x2), .ref f_1] h0 i_19_10 rfl ?_
  obtain ⟨f_5, q_6, hd⟩ := dk_bind hd
  refine hp_gI 14 rfl i_19_11 q_6 ?_
  refine wp_s 15 [some (.ref a0), some (.int x1), some (.int x2)] [.ref a0, .int f_5, .int (f_3 + x2), .ref f_1] h0 i_19_14 rfl ?_
  refine wp_s 16 [some (.ref a0), some (.int x1), some (.int x2)] [.int x2, .ref a0, .int f_5, .int (f_3 + x2), .ref f_1] h0 i_19_15 rfl ?_
  obtain ⟨k_7, hd⟩ := dk_if hd
  obtain ⟨fs_8, o_9⟩ := isO_of k_7
  obtain ⟨z_10, q_11, hd⟩ := dk_bind hd
  refine wp_callV 19 rfl i_19_16 (by decide) rfl (vs := [.int x2]) (rest := [.int f_5, .int (f_3 + x2), .ref f_1]) rfl rfl rfl o_9 (y := m_20) rfl (Nat.le_of_ble_eq_true rfl) (d_20_ok (d := e) (by omega) q_11) ?_
  rintro v_12 h_13 ⟨rfl, rfl⟩
  refine wp_s 20 [some (.ref a0), some (.int x1), some (.int x2)] [.int (f_5 + z_10.1), .int (f_3 + x2), .ref f_1] z_10.2 i_19_19 rfl ?_
  refine wp_s 21 [some (.ref a0), some (.int x1), some (.int x2)] [.ref a0, .int (f_5 + z_10.1), .int (f_3 + x2), .ref f_1] z_10.2 i_19_20 rfl ?_
  obtain ⟨f_14, q_15, hd⟩ := dk_bind hd
  refine hp_gR 24 rfl i_19_21 q_15 ?_
  obtain ⟨f_16, q_17, hd⟩ := dk_bind hd
  refine hp_gR 27 rfl i_19_24 q_17 ?_
  obtain ⟨f_18, q_19, hd⟩ := dk_bind hd
  refine hp_gR 30 rfl i_19_27 q_19 ?_
  refine wp_s 31 [some (.ref a0), some (.int x1), some (.int x2)] [.ref a0, .ref f_18, .int (f_5 + z_10.1), .int (f_3 + x2), .ref f_1] z_10.2 i_19_30 rfl ?_
  obtain ⟨f_20, q_21, hd⟩ := dk_bind hd
  refine hp_gR 34 rfl i_19_31 q_21 ?_
  obtain ⟨f_22, q_23, hd⟩ := dk_bind hd
  refine hp_gR 37 rfl i_19_34 q_23 ?_
  obtain ⟨f_24, q_25, hd⟩ := dk_bind hd
  refine hp_gI 40 rfl i_19_37 q_25 ?_
  refine wp_s 41 [some (.ref a0), some (.int x1), some (.int x2)] [.int x1, .int f_24, .ref f_18, .int (f_5 + z_10.1), .int (f_3 + x2), .ref f_1] z_10.2 i_19_40 rfl ?_
  obtain ⟨k_26, hd⟩ := dk_if hd
  obtain ⟨fs_27, o_28⟩ := isO_of k_26
  obtain ⟨z_29, q_30, hd⟩ := dk_bind hd
  refine wp_callV 44 rfl i_19_41 (by decide) rfl (vs := [.int (f_3 + x2), .int (f_5 + z_10.1), .ref f_18, .int f_24, .int x1]) (rest := []) rfl rfl rfl o_28 (y := m_94) rfl (Nat.le_of_ble_eq_true rfl) (d_94_ok (d := e) (by omega) q_30) ?_
  rintro v_31 h_32 ⟨rfl, rfl⟩
  obtain rfl := Option.some.inj hd
  exact wp_iret i_19_44 ⟨rfl, rfl⟩
def l_21 (g n tag : Nat) (a0 : Nat) (a1 : Nat) (x2 : Int32) (x3 : Int32) (x4 : Int32) (h0 : aH) : Option (Int32 × aH) := match n with
  | 0 => none
  | n + 1 => if tag = 0 then (if x2 ≤ x4 then some (x3, h0) else ((gR h0 a0 2 0).bind (fun f_2 => ((gR h0 f_2 10 0).bind (fun f_4 => ((gR h0 f_4 5 6).bind (fun f_6 => ((gA h0 a1 x4).bind (fun f_8 => ((gA h0 f_6 f_8).bind (fun f_10 => (l_21 g n 0 a0 a1 x2 (x3 + f_10) (x4 + (1 : Int32)) h0)))))))))))) else none
set_option maxHeartbeats 4000000 in
set_option maxRecDepth 100000 in
theorem l_21_ok {X : aX} {g : Nat} {d : Nat} (hdp : 0 ≤ d) : ∀ n, (∀ (a0 : Nat) (a1 : Nat) (x2 : Int32) (x3 : Int32) (x4 : Int32) (h0 : aH) (zz : Int32 × aH), l_21 g n 0 a0 a1 x2 x3 x4 h0 = some zz → aWp X d 21 5 [some (.ref a0), some (.ref a1), some (.int x2), some (.int x3), some (.int x4)] [] h0 (fun w h' => w = some (.int zz.1) ∧ h' = zz.2)) := by
  intro n
  induction n with
  | zero => exact fun _ _ _ _ _ _ _ hd => by simp [l_21] at hd
  | succ n ih =>
    intro a0 a1 x2 x3 x4 h0 zz hd
    unfold l_21 at hd
    rw [if_pos rfl] at hd
    refine wp_s 7 [some (.ref a0), some (.ref a1), some (.int x2), some (.int x3), some (.int x4)] [.int x4] h0 i_21_5 rfl ?_
    refine wp_s 8 [some (.ref a0), some (.ref a1), some (.int x2), some (.int x3), some (.int x4)] [.int x2, .int x4] h0 i_21_7 rfl ?_
    refine wp_cmp_ge 35 11 rfl rfl i_21_8 (fun c_1 => ?_) (fun c_1 => ?_)
    · rw [if_pos c_1] at hd
      refine wp_s 36 [some (.ref a0), some (.ref a1), some (.int x2), some (.int x3), some (.int x4)] [.int x3] h0 i_21_35 rfl ?_
      obtain rfl := Option.some.inj hd
      exact wp_iret i_21_36 ⟨rfl, rfl⟩
    · rw [if_neg c_1] at hd
      refine wp_s 12 [some (.ref a0), some (.ref a1), some (.int x2), some (.int x3), some (.int x4)] [.int x3] h0 i_21_11 rfl ?_
      refine wp_s 13 [some (.ref a0), some (.ref a1), some (.int x2), some (.int x3), some (.int x4)] [.ref a0, .int x3] h0 i_21_12 rfl ?_
      obtain ⟨f_2, q_3, hd⟩ := dk_bind hd
      refine hp_gR 16 rfl i_21_13 q_3 ?_
      obtain ⟨f_4, q_5, hd⟩ := dk_bind hd
      refine hp_gR 19 rfl i_21_16 q_5 ?_
      obtain ⟨f_6, q_7, hd⟩ := dk_bind hd
      refine hp_gR 22 rfl i_21_19 q_7 ?_
      refine wp_s 23 [some (.ref a0), some (.ref a1), some (.int x2), some (.int x3), some (.int x4)] [.ref a1, .ref f_6, .int x3] h0 i_21_22 rfl ?_
      refine wp_s 25 [some (.ref a0), some (.ref a1), some (.int x2), some (.int x3), some (.int x4)] [.int x4, .ref a1, .ref f_6, .int x3] h0 i_21_23 rfl ?_
      obtain ⟨f_8, q_9, hd⟩ := dk_bind hd
      refine hp_gA 26 rfl i_21_25 q_9 ?_
      obtain ⟨f_10, q_11, hd⟩ := dk_bind hd
      refine hp_gA 27 rfl i_21_26 q_11 ?_
      refine wp_s 28 [some (.ref a0), some (.ref a1), some (.int x2), some (.int x3), some (.int x4)] [.int (x3 + f_10)] h0 i_21_27 rfl ?_
      refine wp_s 29 [some (.ref a0), some (.ref a1), some (.int x2), some (.int (x3 + f_10)), some (.int x4)] [] h0 i_21_28 rfl ?_
      refine wp_s 32 [some (.ref a0), some (.ref a1), some (.int x2), some (.int (x3 + f_10)), some (.int (x4 + (1 : Int32)))] [] h0 i_21_29 rfl ?_
      refine wp_s 5 [some (.ref a0), some (.ref a1), some (.int x2), some (.int (x3 + f_10)), some (.int (x4 + (1 : Int32)))] [] h0 i_21_32 rfl ?_
      exact aWp.forget (ih _ _ _ _ _ _ _ hd) (lvS (lvS (lvS (lvS (lvS lvE)))))
def d_21 (g : Nat) (a0 : Nat) (a1 : Nat) (x2 : Int32) (h0 : aH) : Option (Int32 × aH) := (l_21 g g 0 a0 a1 x2 (0 : Int32) (0 : Int32) h0)
set_option maxHeartbeats 4000000 in
set_option maxRecDepth 100000 in
theorem d_21_ok {X : aX} {g : Nat} {a0 : Nat} {a1 : Nat} {x2 : Int32} {h0 : aH} {zz : Int32 × aH} {d : Nat} (hdp : 0 ≤ d) (hd : d_21 g a0 a1 x2 h0 = some zz) : aWp X d 21 0 (aEntL [.ref a0, .ref a1, .int x2] 5) [] h0 (fun w h' => w = some (.int zz.1) ∧ h' = zz.2) := by
  unfold d_21 at hd
  refine wp_lv (l2 := [some (.ref a0), some (.ref a1), some (.int x2), none, none]) rfl ?_
  refine wp_s 1 [some (.ref a0), some (.ref a1), some (.int x2), none, none] [.int (0 : Int32)] h0 i_21_0 rfl ?_
  refine wp_s 2 [some (.ref a0), some (.ref a1), some (.int x2), some (.int (0 : Int32)), none] [] h0 i_21_1 rfl ?_
  refine wp_s 3 [some (.ref a0), some (.ref a1), some (.int x2), some (.int (0 : Int32)), none] [.int (0 : Int32)] h0 i_21_2 rfl ?_
  refine wp_s 5 [some (.ref a0), some (.ref a1), some (.int x2), some (.int (0 : Int32)), some (.int (0 : Int32))] [] h0 i_21_3 rfl ?_
  exact aWp.forget ((l_21_ok hdp g) _ _ _ _ _ _ _ hd) (lvS (lvS (lvS (lvS (lvS lvE)))))
def l_15 (g n tag : Nat) (a0 : Nat) (x1 : Int32) (x2 : Int32) (x3 : Int32) (x4 : Int32) (h0 : aH) : Option (aH) := match n with
  | 0 => none
  | n + 1 => if tag = 0 then (if (3 : Int32) < x2 then some h0 else (if isO h0 a0 2 = true then ((d_16 g a0 x2 h0).bind (fun z_5 => (l_15 g n 1 a0 x1 x2 z_5.1 (0 : Int32) z_5.2))) else none)) else if tag = 1 then (if x3 = 0 then (l_15 g n 3 a0 x1 x2 x3 x4 h0) else (if (1000000 : Int32) ≤ x4 then (l_15 g n 3 a0 x1 x2 x3 x4 h0) else (if isO h0 a0 2 = true then ((d_18 g a0 x2 h0).bind (fun z_14 => (if z_14.1 = 0 then (l_15 g n 2 a0 x1 x2 x3 x4 z_14.2) else ((gR z_14.2 a0 2 2).bind (fun f_19 => (if isO z_14.2 a0 2 = true then ((d_19 g a0 x1 x2 z_14.2).bind (fun z_24 => ((gR z_24.2 a0 2 3).bind (fun f_28 => (if isO z_24.2 a0 2 = true then ((d_21 g a0 f_28 x2 z_24.2).bind (fun z_33 => ((gR z_33.2 a0 2 3).bind (fun f_37 => (if isO z_33.2 f_19 0 = true then ((d_2 g f_19 (z_24.1 - z_33.1) f_37 x2 z_33.2).bind (fun z_42 => (l_15 g n 2 a0 x1 x2 x3 x4 z_42))) else none))))) else none))))) else none)))))) else none))) else if tag = 2 then (if isO h0 a0 2 = true then ((d_17 g a0 x2 h0).bind (fun z_49 => (l_15 g n 1 a0 x1 x2 z_49.1 (x4 + (1 : Int32)) z_49.2))) else none) else if tag = 3 then (l_15 g n 0 a0 x1 (x2 + (1 : Int32)) 0 0 h0) else none
set_option maxHeartbeats 4000000 in
set_option maxRecDepth 100000 in
theorem l_15_ok {X : aX} {g : Nat} {d : Nat} (hdp : 2 ≤ d) : ∀ n, (∀ (a0 : Nat) (x1 : Int32) (x2 : Int32) (x3 : Int32) (x4 : Int32) (h0 : aH) (zz : aH), l_15 g n 0 a0 x1 x2 x3 x4 h0 = some zz → aWp X d 15 9 [some (.ref a0), some (.int x1), some (.int x2), none, none] [] h0 (fun w h' => w = none ∧ h' = zz)) ∧ (∀ (a0 : Nat) (x1 : Int32) (x2 : Int32) (x3 : Int32) (x4 : Int32) (h0 : aH) (zz : aH), l_15 g n 1 a0 x1 x2 x3 x4 h0 = some zz → aWp X d 15 23 [some (.ref a0), some (.int x1), some (.int x2), some (.int x3), some (.int x4)] [] h0 (fun w h' => w = none ∧ h' = zz)) ∧ (∀ (a0 : Nat) (x1 : Int32) (x2 : Int32) (x3 : Int32) (x4 : Int32) (h0 : aH) (zz : aH), l_15 g n 2 a0 x1 x2 x3 x4 h0 = some zz → aWp X d 15 70 [some (.ref a0), some (.int x1), some (.int x2), some (.int x3), some (.int x4)] [] h0 (fun w h' => w = none ∧ h' = zz)) ∧ (∀ (a0 : Nat) (x1 : Int32) (x2 : Int32) (x3 : Int32) (x4 : Int32) (h0 : aH) (zz : aH), l_15 g n 3 a0 x1 x2 x3 x4 h0 = some zz → aWp X d 15 82 [some (.ref a0), some (.int x1), some (.int x2), some (.int x3), some (.int x4)] [] h0 (fun w h' => w = none ∧ h' = zz)) := by
  intro n
  induction n with
  | zero => exact ⟨fun _ _ _ _ _ _ _ hd => by simp [l_15] at hd, fun _ _ _ _ _ _ _ hd => by simp [l_15] at hd, fun _ _ _ _ _ _ _ hd => by simp [l_15] at hd, fun _ _ _ _ _ _ _ hd => by simp [l_15] at hd⟩
  | succ n ih =>
    refine ⟨?_, ?_, ?_, ?_⟩
    · intro a0 x1 x2 x3 x4 h0 zz hd
      unfold l_15 at hd
      rw [if_pos rfl] at hd
      obtain ⟨e, rfl⟩ : ∃ e, d = e + 1 := ⟨d - 1, by omega⟩
      refine wp_s 10 [some (.ref a0), some (.int x1), some (.int x2), none, none] [.int x2] h0 i_15_9 rfl ?_
      refine wp_s 11 [some (.ref a0), some (.int x1), some (.int x2), none, none] [.int (3 : Int32), .int x2] h0 i_15_10 rfl ?_
      refine wp_cmp_gt 88 14 rfl rfl i_15_11 (fun c_1 => ?_) (fun c_1 => ?_)
      · rw [if_pos c_1] at hd
        obtain rfl := Option.some.inj hd
        exact wp_ret i_15_88 rfl ⟨rfl, rfl⟩
      · rw [if_neg c_1] at hd
        refine wp_s 15 [some (.ref a0), some (.int x1), some (.int x2), none, none] [.ref a0] h0 i_15_14 rfl ?_
        refine wp_s 16 [some (.ref a0), some (.int x1), some (.int x2), none, none] [.int x2, .ref a0] h0 i_15_15 rfl ?_
        obtain ⟨k_2, hd⟩ := dk_if hd
        obtain ⟨fs_3, o_4⟩ := isO_of k_2
        obtain ⟨z_5, q_6, hd⟩ := dk_bind hd
        refine wp_callV 19 rfl i_15_16 (by decide) rfl (vs := [.int x2]) (rest := []) rfl rfl rfl o_4 (y := m_16) rfl (Nat.le_of_ble_eq_true rfl) (d_16_ok (d := e) (by omega) q_6) ?_
        rintro v_7 h_8 ⟨rfl, rfl⟩
        refine wp_s 20 [some (.ref a0), some (.int x1), some (.int x2), some (.int z_5.1), none] [] z_5.2 i_15_19 rfl ?_
        refine wp_s 21 [some (.ref a0), some (.int x1), some (.int x2), some (.int z_5.1), none] [.int (0 : Int32)] z_5.2 i_15_20 rfl ?_
        refine wp_s 23 [some (.ref a0), some (.int x1), some (.int x2), some (.int z_5.1), some (.int (0 : Int32))] [] z_5.2 i_15_21 rfl ?_
        exact aWp.forget (ih.2.1 _ _ _ _ _ _ _ hd) (lvS (lvS (lvS (lvS (lvS lvE)))))
    · intro a0 x1 x2 x3 x4 h0 zz hd
      unfold l_15 at hd
      rw [if_neg (by decide), if_pos rfl] at hd
      obtain ⟨e, rfl⟩ : ∃ e, d = e + 1 := ⟨d - 1, by omega⟩
      refine wp_s 24 [some (.ref a0), some (.int x1), some (.int x2), some (.int x3), some (.int x4)] [.int x3] h0 i_15_23 rfl ?_
      refine wp_if_eq 82 27 rfl rfl i_15_24 (fun c_9 => ?_) (fun c_9 => ?_)
      · rw [if_pos c_9] at hd
        exact aWp.forget (ih.2.2.2 _ _ _ _ _ _ _ hd) (lvS (lvS (lvS (lvS (lvS lvE)))))
      · rw [if_neg c_9] at hd
        refine wp_s 29 [some (.ref a0), some (.int x1), some (.int x2), some (.int x3), some (.int x4)] [.int x4] h0 i_15_27 rfl ?_
        refine wp_s 31 [some (.ref a0), some (.int x1), some (.int x2), some (.int x3), some (.int x4)] [.int (1000000 : Int32), .int x4] h0 i_15_29 rfl ?_
        refine wp_cmp_ge 82 34 rfl rfl i_15_31 (fun c_10 => ?_) (fun c_10 => ?_)
        · rw [if_pos c_10] at hd
          exact aWp.forget (ih.2.2.2 _ _ _ _ _ _ _ hd) (lvS (lvS (lvS (lvS (lvS lvE)))))
        · rw [if_neg c_10] at hd
          refine wp_s 35 [some (.ref a0), some (.int x1), some (.int x2), some (.int x3), some (.int x4)] [.ref a0] h0 i_15_34 rfl ?_
          refine wp_s 36 [some (.ref a0), some (.int x1), some (.int x2), some (.int x3), some (.int x4)] [.int x2, .ref a0] h0 i_15_35 rfl ?_
          obtain ⟨k_11, hd⟩ := dk_if hd
          obtain ⟨fs_12, o_13⟩ := isO_of k_11
          obtain ⟨z_14, q_15, hd⟩ := dk_bind hd
          refine wp_callV 39 rfl i_15_36 (by decide) rfl (vs := [.int x2]) (rest := []) rfl rfl rfl o_13 (y := m_18) rfl (Nat.le_of_ble_eq_true rfl) (d_18_ok (d := e) (by omega) q_15) ?_
          rintro v_16 h_17 ⟨rfl, rfl⟩
          refine wp_if_eq 70 42 rfl rfl i_15_39 (fun c_18 => ?_) (fun c_18 => ?_)
          · rw [if_pos c_18] at hd
            exact aWp.forget (ih.2.2.1 _ _ _ _ _ _ _ hd) (lvS (lvS (lvS (lvS (lvS lvE)))))
          · rw [if_neg c_18] at hd
            refine wp_s 43 [some (.ref a0), some (.int x1), some (.int x2), some (.int x3), some (.int x4)] [.ref a0] z_14.2 i_15_42 rfl ?_
            obtain ⟨f_19, q_20, hd⟩ := dk_bind hd
            refine hp_gR 46 rfl i_15_43 q_20 ?_
            refine wp_s 47 [some (.ref a0), some (.int x1), some (.int x2), some (.int x3), some (.int x4)] [.ref a0, .ref f_19] z_14.2 i_15_46 rfl ?_
            refine wp_s 48 [some (.ref a0), some (.int x1), some (.int x2), some (.int x3), some (.int x4)] [.int x1, .ref a0, .ref f_19] z_14.2 i_15_47 rfl ?_
            refine wp_s 49 [some (.ref a0), some (.int x1), some (.int x2), some (.int x3), some (.int x4)] [.int x2, .int x1, .ref a0, .ref f_19] z_14.2 i_15_48 rfl ?_
            obtain ⟨k_21, hd⟩ := dk_if hd
            obtain ⟨fs_22, o_23⟩ := isO_of k_21
            obtain ⟨z_24, q_25, hd⟩ := dk_bind hd
            refine wp_callV 52 rfl i_15_49 (by decide) rfl (vs := [.int x1, .int x2]) (rest := [.ref f_19]) rfl rfl rfl o_23 (y := m_19) rfl (Nat.le_of_ble_eq_true rfl) (d_19_ok (d := e) (by omega) q_25) ?_
            rintro v_26 h_27 ⟨rfl, rfl⟩
            refine wp_s 53 [some (.ref a0), some (.int x1), some (.int x2), some (.int x3), some (.int x4)] [.ref a0, .int z_24.1, .ref f_19] z_24.2 i_15_52 rfl ?_
            refine wp_s 54 [some (.ref a0), some (.int x1), some (.int x2), some (.int x3), some (.int x4)] [.ref a0, .ref a0, .int z_24.1, .ref f_19] z_24.2 i_15_53 rfl ?_
            obtain ⟨f_28, q_29, hd⟩ := dk_bind hd
            refine hp_gR 57 rfl i_15_54 q_29 ?_
            refine wp_s 58 [some (.ref a0), some (.int x1), some (.int x2), some (.int x3), some (.int x4)] [.int x2, .ref f_28, .ref a0, .int z_24.1, .ref f_19] z_24.2 i_15_57 rfl ?_
            obtain ⟨k_30, hd⟩ := dk_if hd
            obtain ⟨fs_31, o_32⟩ := isO_of k_30
            obtain ⟨z_33, q_34, hd⟩ := dk_bind hd
            refine wp_callV 61 rfl i_15_58 (by decide) rfl (vs := [.ref f_28, .int x2]) (rest := [.int z_24.1, .ref f_19]) rfl rfl rfl o_32 (y := m_21) rfl (Nat.le_of_ble_eq_true rfl) (d_21_ok (d := e) (by omega) q_34) ?_
            rintro v_35 h_36 ⟨rfl, rfl⟩
            refine wp_s 62 [some (.ref a0), some (.int x1), some (.int x2), some (.int x3), some (.int x4)] [.int (z_24.1 - z_33.1), .ref f_19] z_33.2 i_15_61 rfl ?_
            refine wp_s 63 [some (.ref a0), some (.int x1), some (.int x2), some (.int x3), some (.int x4)] [.ref a0, .int (z_24.1 - z_33.1), .ref f_19] z_33.2 i_15_62 rfl ?_
            obtain ⟨f_37, q_38, hd⟩ := dk_bind hd
            refine hp_gR 66 rfl i_15_63 q_38 ?_
            refine wp_s 67 [some (.ref a0), some (.int x1), some (.int x2), some (.int x3), some (.int x4)] [.int x2, .ref f_37, .int (z_24.1 - z_33.1), .ref f_19] z_33.2 i_15_66 rfl ?_
            obtain ⟨k_39, hd⟩ := dk_if hd
            obtain ⟨fs_40, o_41⟩ := isO_of k_39
            obtain ⟨z_42, q_43, hd⟩ := dk_bind hd
            refine wp_callV 70 rfl i_15_67 (by decide) rfl (vs := [.int (z_24.1 - z_33.1), .ref f_37, .int x2]) (rest := []) rfl rfl rfl o_41 (y := m_2) rfl (Nat.le_of_ble_eq_true rfl) (d_2_ok (d := e) (by omega) q_43) ?_
            rintro v_44 h_45 ⟨rfl, hz⟩
            have hz := hz.symm
            subst hz
            exact aWp.forget (ih.2.2.1 _ _ _ _ _ _ _ hd) (lvS (lvS (lvS (lvS (lvS lvE)))))
    · intro a0 x1 x2 x3 x4 h0 zz hd
      unfold l_15 at hd
      rw [if_neg (by decide), if_neg (by decide), if_pos rfl] at hd
      obtain ⟨e, rfl⟩ : ∃ e, d = e + 1 := ⟨d - 1, by omega⟩
      refine wp_s 71 [some (.ref a0), some (.int x1), some (.int x2), some (.int x3), some (.int x4)] [.ref a0] h0 i_15_70 rfl ?_
      refine wp_s 72 [some (.ref a0), some (.int x1), some (.int x2), some (.int x3), some (.int x4)] [.int x2, .ref a0] h0 i_15_71 rfl ?_
      obtain ⟨k_46, hd⟩ := dk_if hd
      obtain ⟨fs_47, o_48⟩ := isO_of k_46
      obtain ⟨z_49, q_50, hd⟩ := dk_bind hd
      refine wp_callV 75 rfl i_15_72 (by decide) rfl (vs := [.int x2]) (rest := []) rfl rfl rfl o_48 (y := m_17) rfl (Nat.le_of_ble_eq_true rfl) (d_17_ok (d := e) (by omega) q_50) ?_
      rintro v_51 h_52 ⟨rfl, rfl⟩
      refine wp_s 76 [some (.ref a0), some (.int x1), some (.int x2), some (.int z_49.1), some (.int x4)] [] z_49.2 i_15_75 rfl ?_
      refine wp_s 79 [some (.ref a0), some (.int x1), some (.int x2), some (.int z_49.1), some (.int (x4 + (1 : Int32)))] [] z_49.2 i_15_76 rfl ?_
      refine wp_s 23 [some (.ref a0), some (.int x1), some (.int x2), some (.int z_49.1), some (.int (x4 + (1 : Int32)))] [] z_49.2 i_15_79 rfl ?_
      exact aWp.forget (ih.2.1 _ _ _ _ _ _ _ hd) (lvS (lvS (lvS (lvS (lvS lvE)))))
    · intro a0 x1 x2 x3 x4 h0 zz hd
      unfold l_15 at hd
      rw [if_neg (by decide), if_neg (by decide), if_neg (by decide), if_pos rfl] at hd
      obtain ⟨e, rfl⟩ : ∃ e, d = e + 1 := ⟨d - 1, by omega⟩
      refine wp_s 85 [some (.ref a0), some (.int x1), some (.int (x2 + (1 : Int32))), some (.int x3), some (.int x4)] [] h0 i_15_82 rfl ?_
      refine wp_s 9 [some (.ref a0), some (.int x1), some (.int (x2 + (1 : Int32))), some (.int x3), some (.int x4)] [] h0 i_15_85 rfl ?_
      exact aWp.forget (ih.1 _ _ _ _ _ _ _ hd) (lvS (lvS (lvS (lvN (lvN lvE)))))
def d_15 (g : Nat) (a0 : Nat) (x1 : Int32) (h0 : aH) : Option (aH) := ((gR h0 a0 2 2).bind (fun f_1001 => (if isO h0 f_1001 0 = true then ((d_1 g f_1001 h0).bind (fun z_1006 => (l_15 g g 0 a0 x1 (0 : Int32) 0 0 z_1006))) else none)))
set_option maxHeartbeats 4000000 in
set_option maxRecDepth 100000 in
theorem d_15_ok {X : aX} {g : Nat} {a0 : Nat} {x1 : Int32} {h0 : aH} {zz : aH} {d : Nat} (hdp : 2 ≤ d) (hd : d_15 g a0 x1 h0 = some zz) : aWp X d 15 0 (aEntL [.ref a0, .int x1] 5) [] h0 (fun w h' => w = none ∧ h' = zz) := by
  unfold d_15 at hd
  refine wp_lv (l2 := [some (.ref a0), some (.int x1), none, none, none]) rfl ?_
  obtain ⟨e, rfl⟩ : ∃ e, d = e + 1 := ⟨d - 1, by omega⟩
  refine wp_s 1 [some (.ref a0), some (.int x1), none, none, none] [.ref a0] h0 i_15_0 rfl ?_
  obtain ⟨f_1001, q_1002, hd⟩ := dk_bind hd
  refine hp_gR 4 rfl i_15_1 q_1002 ?_
  obtain ⟨k_1003, hd⟩ := dk_if hd
  obtain ⟨fs_1004, o_1005⟩ := isO_of k_1003
  obtain ⟨z_1006, q_1007, hd⟩ := dk_bind hd
  refine wp_callV 7 rfl i_15_4 (by decide) rfl (vs := []) (rest := []) rfl rfl rfl o_1005 (y := m_1) rfl (Nat.le_of_ble_eq_true rfl) (d_1_ok (d := e) (by omega) q_1007) ?_
  rintro v_1008 h_1009 ⟨rfl, hz⟩
  have hz := hz.symm
  subst hz
  refine wp_s 8 [some (.ref a0), some (.int x1), none, none, none] [.int (0 : Int32)] z_1006 i_15_7 rfl ?_
  refine wp_s 9 [some (.ref a0), some (.int x1), some (.int (0 : Int32)), none, none] [] z_1006 i_15_8 rfl ?_
  exact aWp.forget ((l_15_ok hdp g).1 _ _ _ _ _ _ _ hd) (lvS (lvS (lvS (lvN (lvN lvE)))))
def l_22 (g n tag : Nat) (a0 : Nat) (x1 : Int32) (x2 : Int32) (x3 : Int32) (h0 : aH) : Option (aH) := match n with
  | 0 => none
  | n + 1 => if tag = 0 then (if (9500 : Int32) < x1 then some h0 else (if isO h0 a0 2 = true then ((d_15 g a0 x1 h0).bind (fun z_5 => ((gR z_5 a0 2 2).bind (fun f_9 => ((gR z_5 f_9 0 3).bind (fun f_11 => ((gR z_5 a0 2 2).bind (fun f_13 => ((gI z_5 f_13 0 2).bind (fun f_15 => (if isO z_5 a0 2 = true then ((d_21 g a0 f_11 f_15 z_5).bind (fun z_20 => ((gR z_20.2 a0 2 2).bind (fun f_24 => ((gI z_20.2 f_24 0 1).bind (fun f_26 => (if ¬ (2 : Int32) = 0 then ((gI z_20.2 a0 2 13).bind (fun f_29 => (if f_29 < 0 then (l_22 g n 1 a0 x1 z_20.1 ((f_26 + z_20.1) - (z_20.1 / (2 : Int32))) z_20.2) else ((gI z_20.2 a0 2 14).bind (fun f_32 => (if ((f_26 + z_20.1) - (z_20.1 / (2 : Int32))) ≤ f_32 then (l_22 g n 2 a0 x1 z_20.1 ((f_26 + z_20.1) - (z_20.1 / (2 : Int32))) z_20.2) else (l_22 g n 1 a0 x1 z_20.1 ((f_26 + z_20.1) - (z_20.1 / (2 : Int32))) z_20.2))))))) else none))))))) else none))))))))))) else none)) else if tag = 1 then ((sF h0 a0 2 13 (.int x1)).bind (fun h_35 => ((sF h_35 a0 2 14 (.int x3)).bind (fun h_37 => (l_22 g n 2 a0 x1 x2 x3 h_37))))) else if tag = 2 then (l_22 g n 0 a0 (x1 + (500 : Int32)) 0 0 h0) else none
set_option maxHeartbeats 4000000 in
set_option maxRecDepth 100000 in
theorem l_22_ok {X : aX} {g : Nat} {d : Nat} (hdp : 6 ≤ d) : ∀ n, (∀ (a0 : Nat) (x1 : Int32) (x2 : Int32) (x3 : Int32) (h0 : aH) (zz : aH), l_22 g n 0 a0 x1 x2 x3 h0 = some zz → aWp X d 22 21 [some (.ref a0), some (.int x1), none, none] [] h0 (fun w h' => w = none ∧ h' = zz)) ∧ (∀ (a0 : Nat) (x1 : Int32) (x2 : Int32) (x3 : Int32) (h0 : aH) (zz : aH), l_22 g n 1 a0 x1 x2 x3 h0 = some zz → aWp X d 22 81 [some (.ref a0), some (.int x1), some (.int x2), some (.int x3)] [] h0 (fun w h' => w = none ∧ h' = zz)) ∧ (∀ (a0 : Nat) (x1 : Int32) (x2 : Int32) (x3 : Int32) (h0 : aH) (zz : aH), l_22 g n 2 a0 x1 x2 x3 h0 = some zz → aWp X d 22 91 [some (.ref a0), some (.int x1), some (.int x2), some (.int x3)] [] h0 (fun w h' => w = none ∧ h' = zz)) := by
  intro n
  induction n with
  | zero => exact ⟨fun _ _ _ _ _ _ hd => by simp [l_22] at hd, fun _ _ _ _ _ _ hd => by simp [l_22] at hd, fun _ _ _ _ _ _ hd => by simp [l_22] at hd⟩
  | succ n ih =>
    refine ⟨?_, ?_, ?_⟩
    · intro a0 x1 x2 x3 h0 zz hd
      unfold l_22 at hd
      rw [if_pos rfl] at hd
      obtain ⟨e, rfl⟩ : ∃ e, d = e + 1 := ⟨d - 1, by omega⟩
      refine wp_s 22 [some (.ref a0), some (.int x1), none, none] [.int x1] h0 i_22_21 rfl ?_
      refine wp_s 25 [some (.ref a0), some (.int x1), none, none] [.int (9500 : Int32), .int x1] h0 i_22_22 rfl ?_
      refine wp_cmp_gt 100 28 rfl rfl i_22_25 (fun c_1 => ?_) (fun c_1 => ?_)
      · rw [if_pos c_1] at hd
        obtain rfl := Option.some.inj hd
        exact wp_ret i_22_100 rfl ⟨rfl, rfl⟩
      · rw [if_neg c_1] at hd
        refine wp_s 29 [some (.ref a0), some (.int x1), none, none] [.ref a0] h0 i_22_28 rfl ?_
        refine wp_s 30 [some (.ref a0), some (.int x1), none, none] [.int x1, .ref a0] h0 i_22_29 rfl ?_
        obtain ⟨k_2, hd⟩ := dk_if hd
        obtain ⟨fs_3, o_4⟩ := isO_of k_2
        obtain ⟨z_5, q_6, hd⟩ := dk_bind hd
        refine wp_callV 33 rfl i_22_30 (by decide) rfl (vs := [.int x1]) (rest := []) rfl rfl rfl o_4 (y := m_15) rfl (Nat.le_of_ble_eq_true rfl) (d_15_ok (d := e) (by omega) q_6) ?_
        rintro v_7 h_8 ⟨rfl, hz⟩
        have hz := hz.symm
        subst hz
        refine wp_s 34 [some (.ref a0), some (.int x1), none, none] [.ref a0] z_5 i_22_33 rfl ?_
        refine wp_s 35 [some (.ref a0), some (.int x1), none, none] [.ref a0, .ref a0] z_5 i_22_34 rfl ?_
        obtain ⟨f_9, q_10, hd⟩ := dk_bind hd
        refine hp_gR 38 rfl i_22_35 q_10 ?_
        obtain ⟨f_11, q_12, hd⟩ := dk_bind hd
        refine hp_gR 41 rfl i_22_38 q_12 ?_
        refine wp_s 42 [some (.ref a0), some (.int x1), none, none] [.ref a0, .ref f_11, .ref a0] z_5 i_22_41 rfl ?_
        obtain ⟨f_13, q_14, hd⟩ := dk_bind hd
        refine hp_gR 45 rfl i_22_42 q_14 ?_
        obtain ⟨f_15, q_16, hd⟩ := dk_bind hd
        refine hp_gI 48 rfl i_22_45 q_16 ?_
        obtain ⟨k_17, hd⟩ := dk_if hd
        obtain ⟨fs_18, o_19⟩ := isO_of k_17
        obtain ⟨z_20, q_21, hd⟩ := dk_bind hd
        refine wp_callV 51 rfl i_22_48 (by decide) rfl (vs := [.ref f_11, .int f_15]) (rest := []) rfl rfl rfl o_19 (y := m_21) rfl (Nat.le_of_ble_eq_true rfl) (d_21_ok (d := e) (by omega) q_21) ?_
        rintro v_22 h_23 ⟨rfl, rfl⟩
        refine wp_s 52 [some (.ref a0), some (.int x1), some (.int z_20.1), none] [] z_20.2 i_22_51 rfl ?_
        refine wp_s 53 [some (.ref a0), some (.int x1), some (.int z_20.1), none] [.ref a0] z_20.2 i_22_52 rfl ?_
        obtain ⟨f_24, q_25, hd⟩ := dk_bind hd
        refine hp_gR 56 rfl i_22_53 q_25 ?_
        obtain ⟨f_26, q_27, hd⟩ := dk_bind hd
        refine hp_gI 59 rfl i_22_56 q_27 ?_
        refine wp_s 60 [some (.ref a0), some (.int x1), some (.int z_20.1), none] [.int z_20.1, .int f_26] z_20.2 i_22_59 rfl ?_
        refine wp_s 61 [some (.ref a0), some (.int x1), some (.int z_20.1), none] [.int (f_26 + z_20.1)] z_20.2 i_22_60 rfl ?_
        refine wp_s 62 [some (.ref a0), some (.int x1), some (.int z_20.1), none] [.int z_20.1, .int (f_26 + z_20.1)] z_20.2 i_22_61 rfl ?_
        refine wp_s 63 [some (.ref a0), some (.int x1), some (.int z_20.1), none] [.int (2 : Int32), .int z_20.1, .int (f_26 + z_20.1)] z_20.2 i_22_62 rfl ?_
        obtain ⟨k_28, hd⟩ := dk_if hd
        refine wp_idiv 64 rfl i_22_63 k_28 ?_
        refine wp_s 65 [some (.ref a0), some (.int x1), some (.int z_20.1), none] [.int ((f_26 + z_20.1) - (z_20.1 / (2 : Int32)))] z_20.2 i_22_64 rfl ?_
        refine wp_s 66 [some (.ref a0), some (.int x1), some (.int z_20.1), some (.int ((f_26 + z_20.1) - (z_20.1 / (2 : Int32))))] [] z_20.2 i_22_65 rfl ?_
        refine wp_s 67 [some (.ref a0), some (.int x1), some (.int z_20.1), some (.int ((f_26 + z_20.1) - (z_20.1 / (2 : Int32))))] [.ref a0] z_20.2 i_22_66 rfl ?_
        obtain ⟨f_29, q_30, hd⟩ := dk_bind hd
        refine hp_gI 70 rfl i_22_67 q_30 ?_
        refine wp_if_lt 81 73 rfl rfl i_22_70 (fun c_31 => ?_) (fun c_31 => ?_)
        · rw [if_pos c_31] at hd
          exact aWp.forget (ih.2.1 _ _ _ _ _ _ hd) (lvS (lvS (lvS (lvS lvE))))
        · rw [if_neg c_31] at hd
          refine wp_s 74 [some (.ref a0), some (.int x1), some (.int z_20.1), some (.int ((f_26 + z_20.1) - (z_20.1 / (2 : Int32))))] [.int ((f_26 + z_20.1) - (z_20.1 / (2 : Int32)))] z_20.2 i_22_73 rfl ?_
          refine wp_s 75 [some (.ref a0), some (.int x1), some (.int z_20.1), some (.int ((f_26 + z_20.1) - (z_20.1 / (2 : Int32))))] [.ref a0, .int ((f_26 + z_20.1) - (z_20.1 / (2 : Int32)))] z_20.2 i_22_74 rfl ?_
          obtain ⟨f_32, q_33, hd⟩ := dk_bind hd
          refine hp_gI 78 rfl i_22_75 q_33 ?_
          refine wp_cmp_le 91 81 rfl rfl i_22_78 (fun c_34 => ?_) (fun c_34 => ?_)
          · rw [if_pos c_34] at hd
            exact aWp.forget (ih.2.2 _ _ _ _ _ _ hd) (lvS (lvS (lvS (lvS lvE))))
          · rw [if_neg c_34] at hd
            exact aWp.forget (ih.2.1 _ _ _ _ _ _ hd) (lvS (lvS (lvS (lvS lvE))))
    · intro a0 x1 x2 x3 h0 zz hd
      unfold l_22 at hd
      rw [if_neg (by decide), if_pos rfl] at hd
      obtain ⟨e, rfl⟩ : ∃ e, d = e + 1 := ⟨d - 1, by omega⟩
      refine wp_s 82 [some (.ref a0), some (.int x1), some (.int x2), some (.int x3)] [.ref a0] h0 i_22_81 rfl ?_
      refine wp_s 83 [some (.ref a0), some (.int x1), some (.int x2), some (.int x3)] [.int x1, .ref a0] h0 i_22_82 rfl ?_
      obtain ⟨h_35, q_36, hd⟩ := dk_bind hd
      refine hp_sF 86 rfl i_22_83 q_36 ?_
      refine wp_s 87 [some (.ref a0), some (.int x1), some (.int x2), some (.int x3)] [.ref a0] h_35 i_22_86 rfl ?_
      refine wp_s 88 [some (.ref a0), some (.int x1), some (.int x2), some (.int x3)] [.int x3, .ref a0] h_35 i_22_87 rfl ?_
      obtain ⟨h_37, q_38, hd⟩ := dk_bind hd
      refine hp_sF 91 rfl i_22_88 q_38 ?_
      exact aWp.forget (ih.2.2 _ _ _ _ _ _ hd) (lvS (lvS (lvS (lvS lvE))))
    · intro a0 x1 x2 x3 h0 zz hd
      unfold l_22 at hd
      rw [if_neg (by decide), if_neg (by decide), if_pos rfl] at hd
      obtain ⟨e, rfl⟩ : ∃ e, d = e + 1 := ⟨d - 1, by omega⟩
      refine wp_s 97 [some (.ref a0), some (.int (x1 + (500 : Int32))), some (.int x2), some (.int x3)] [] h0 i_22_91 rfl ?_
      refine wp_s 21 [some (.ref a0), some (.int (x1 + (500 : Int32))), some (.int x2), some (.int x3)] [] h0 i_22_97 rfl ?_
      exact aWp.forget (ih.1 _ _ _ _ _ _ hd) (lvS (lvS (lvN (lvN lvE))))
def d_22 (g : Nat) (a0 : Nat) (h0 : aH) : Option (aH) := ((gR h0 a0 2 0).bind (fun f_1001 => ((gR h0 f_1001 10 1).bind (fun f_1003 => ((gI h0 f_1003 7 13).bind (fun f_1005 => (if isO h0 a0 2 = true then ((d_12 g a0 f_1005 h0).bind (fun z_1010 => ((sF z_1010 a0 2 13 (.int (-1 : Int32))).bind (fun h_1014 => (l_22 g g 0 a0 (0 : Int32) 0 0 h_1014))))) else none)))))))
set_option maxHeartbeats 4000000 in
set_option maxRecDepth 100000 in
theorem d_22_ok {X : aX} {g : Nat} {a0 : Nat} {h0 : aH} {zz : aH} {d : Nat} (hdp : 6 ≤ d) (hd : d_22 g a0 h0 = some zz) : aWp X d 22 0 (aEntL [.ref a0] 4) [] h0 (fun w h' => w = none ∧ h' = zz) := by
  unfold d_22 at hd
  refine wp_lv (l2 := [some (.ref a0), none, none, none]) rfl ?_
  obtain ⟨e, rfl⟩ : ∃ e, d = e + 1 := ⟨d - 1, by omega⟩
  refine wp_s 1 [some (.ref a0), none, none, none] [.ref a0] h0 i_22_0 rfl ?_
  refine wp_s 2 [some (.ref a0), none, none, none] [.ref a0, .ref a0] h0 i_22_1 rfl ?_
  obtain ⟨f_1001, q_1002, hd⟩ := dk_bind hd
  refine hp_gR 5 rfl i_22_2 q_1002 ?_
  obtain ⟨f_1003, q_1004, hd⟩ := dk_bind hd
  refine hp_gR 8 rfl i_22_5 q_1004 ?_
  obtain ⟨f_1005, q_1006, hd⟩ := dk_bind hd
  refine hp_gI 11 rfl i_22_8 q_1006 ?_
  obtain ⟨k_1007, hd⟩ := dk_if hd
  obtain ⟨fs_1008, o_1009⟩ := isO_of k_1007
  obtain ⟨z_1010, q_1011, hd⟩ := dk_bind hd
  refine wp_callV 14 rfl i_22_11 (by decide) rfl (vs := [.int f_1005]) (rest := []) rfl rfl rfl o_1009 (y := m_12) rfl (Nat.le_of_ble_eq_true rfl) (d_12_ok (d := e) (by omega) q_1011) ?_
  rintro v_1012 h_1013 ⟨rfl, hz⟩
  have hz := hz.symm
  subst hz
  refine wp_s 15 [some (.ref a0), none, none, none] [.ref a0] z_1010 i_22_14 rfl ?_
  refine wp_s 16 [some (.ref a0), none, none, none] [.int (-1 : Int32), .ref a0] z_1010 i_22_15 rfl ?_
  obtain ⟨h_1014, q_1015, hd⟩ := dk_bind hd
  refine hp_sF 19 rfl i_22_16 q_1015 ?_
  refine wp_s 20 [some (.ref a0), none, none, none] [.int (0 : Int32)] h_1014 i_22_19 rfl ?_
  refine wp_s 21 [some (.ref a0), some (.int (0 : Int32)), none, none] [] h_1014 i_22_20 rfl ?_
  exact aWp.forget ((l_22_ok hdp g).1 _ _ _ _ _ _ hd) (lvS (lvS (lvN (lvN lvE))))
def d_95 (g : Nat) (a0 : Nat) (x1 : Int32) (h0 : aH) : Option (Int32 × aH) := (if x1 ≤ 0 then some (x1, h0) else ((gR h0 a0 9 0).bind (fun f_2 => ((gR h0 f_2 10 0).bind (fun f_4 => ((gI h0 f_4 5 2).bind (fun f_6 => (if f_6 ≤ x1 then some (x1, h0) else ((gR h0 a0 9 0).bind (fun f_9 => ((gR h0 f_9 10 0).bind (fun f_11 => ((gI h0 f_11 5 1).bind (fun f_13 => some ((x1 + f_13), h0)))))))))))))))
set_option maxHeartbeats 4000000 in
set_option maxRecDepth 100000 in
theorem d_95_ok {X : aX} {g : Nat} {a0 : Nat} {x1 : Int32} {h0 : aH} {zz : Int32 × aH} {d : Nat} (hdp : 0 ≤ d) (hd : d_95 g a0 x1 h0 = some zz) : aWp X d 95 0 (aEntL [.ref a0, .int x1] 2) [] h0 (fun w h' => w = some (.int zz.1) ∧ h' = zz.2) := by
  unfold d_95 at hd
  refine wp_lv (l2 := [some (.ref a0), some (.int x1)]) rfl ?_
  refine wp_s 1 [some (.ref a0), some (.int x1)] [.int x1] h0 i_95_0 rfl ?_
  refine wp_if_le 33 4 rfl rfl i_95_1 (fun c_1 => ?_) (fun c_1 => ?_)
  · rw [if_pos c_1] at hd
    refine wp_s 34 [some (.ref a0), some (.int x1)] [.int x1] h0 i_95_33 rfl ?_
    obtain rfl := Option.some.inj hd
    exact wp_iret i_95_34 ⟨rfl, rfl⟩
  · rw [if_neg c_1] at hd
    refine wp_s 5 [some (.ref a0), some (.int x1)] [.int x1] h0 i_95_4 rfl ?_
    refine wp_s 6 [some (.ref a0), some (.int x1)] [.ref a0, .int x1] h0 i_95_5 rfl ?_
    obtain ⟨f_2, q_3, hd⟩ := dk_bind hd
    refine hp_gR 9 rfl i_95_6 q_3 ?_
    obtain ⟨f_4, q_5, hd⟩ := dk_bind hd
    refine hp_gR 12 rfl i_95_9 q_5 ?_
    obtain ⟨f_6, q_7, hd⟩ := dk_bind hd
    refine hp_gI 15 rfl i_95_12 q_7 ?_
    refine wp_cmp_ge 33 18 rfl rfl i_95_15 (fun c_8 => ?_) (fun c_8 => ?_)
    · rw [if_pos c_8] at hd
      refine wp_s 34 [some (.ref a0), some (.int x1)] [.int x1] h0 i_95_33 rfl ?_
      obtain rfl := Option.some.inj hd
      exact wp_iret i_95_34 ⟨rfl, rfl⟩
    · rw [if_neg c_8] at hd
      refine wp_s 19 [some (.ref a0), some (.int x1)] [.int x1] h0 i_95_18 rfl ?_
      refine wp_s 20 [some (.ref a0), some (.int x1)] [.ref a0, .int x1] h0 i_95_19 rfl ?_
      obtain ⟨f_9, q_10, hd⟩ := dk_bind hd
      refine hp_gR 23 rfl i_95_20 q_10 ?_
      obtain ⟨f_11, q_12, hd⟩ := dk_bind hd
      refine hp_gR 26 rfl i_95_23 q_12 ?_
      obtain ⟨f_13, q_14, hd⟩ := dk_bind hd
      refine hp_gI 29 rfl i_95_26 q_14 ?_
      refine wp_s 30 [some (.ref a0), some (.int x1)] [.int (x1 + f_13)] h0 i_95_29 rfl ?_
      refine wp_s 34 [some (.ref a0), some (.int x1)] [.int (x1 + f_13)] h0 i_95_30 rfl ?_
      obtain rfl := Option.some.inj hd
      exact wp_iret i_95_34 ⟨rfl, rfl⟩
def l_25 (g n tag : Nat) (a0 : Nat) (x1 : Int32) (x2 : Int32) (x3 : Int32) (h0 : aH) : Option (Int32 × aH) := match n with
  | 0 => none
  | n + 1 => if tag = 0 then (if x1 ≤ x3 then some (x2, h0) else ((gR h0 a0 2 1).bind (fun f_2 => ((gR h0 a0 2 5).bind (fun f_4 => ((gA h0 f_4 x3).bind (fun f_6 => (if isO h0 f_2 9 = true then ((d_95 g f_2 f_6 h0).bind (fun z_11 => (l_25 g n 0 a0 x1 (x2 + z_11.1) (x3 + (1 : Int32)) z_11.2))) else none)))))))) else none
set_option maxHeartbeats 4000000 in
set_option maxRecDepth 100000 in
theorem l_25_ok {X : aX} {g : Nat} {d : Nat} (hdp : 1 ≤ d) : ∀ n, (∀ (a0 : Nat) (x1 : Int32) (x2 : Int32) (x3 : Int32) (h0 : aH) (zz : Int32 × aH), l_25 g n 0 a0 x1 x2 x3 h0 = some zz → aWp X d 25 4 [some (.ref a0), some (.int x1), some (.int x2), some (.int x3)] [] h0 (fun w h' => w = some (.int zz.1) ∧ h' = zz.2)) := by
  intro n
  induction n with
  | zero => exact fun _ _ _ _ _ _ hd => by simp [l_25] at hd
  | succ n ih =>
    intro a0 x1 x2 x3 h0 zz hd
    unfold l_25 at hd
    rw [if_pos rfl] at hd
    obtain ⟨e, rfl⟩ : ∃ e, d = e + 1 := ⟨d - 1, by omega⟩
    refine wp_s 5 [some (.ref a0), some (.int x1), some (.int x2), some (.int x3)] [.int x3] h0 i_25_4 rfl ?_
    refine wp_s 6 [some (.ref a0), some (.int x1), some (.int x2), some (.int x3)] [.int x1, .int x3] h0 i_25_5 rfl ?_
    refine wp_cmp_ge 31 9 rfl rfl i_25_6 (fun c_1 => ?_) (fun c_1 => ?_)
    · rw [if_pos c_1] at hd
      refine wp_s 32 [some (.ref a0), some (.int x1), some (.int x2), some (.int x3)] [.int x2] h0 i_25_31 rfl ?_
      obtain rfl := Option.some.inj hd
      exact wp_iret i_25_32 ⟨rfl, rfl⟩
    · rw [if_neg c_1] at hd
      refine wp_s 10 [some (.ref a0), some (.int x1), some (.int x2), some (.int x3)] [.int x2] h0 i_25_9 rfl ?_
      refine wp_s 11 [some (.ref a0), some (.int x1), some (.int x2), some (.int x3)] [.ref a0, .int x2] h0 i_25_10 rfl ?_
      obtain ⟨f_2, q_3, hd⟩ := dk_bind hd
      refine hp_gR 14 rfl i_25_11 q_3 ?_
      refine wp_s 15 [some (.ref a0), some (.int x1), some (.int x2), some (.int x3)] [.ref a0, .ref f_2, .int x2] h0 i_25_14 rfl ?_
      obtain ⟨f_4, q_5, hd⟩ := dk_bind hd
      refine hp_gR 18 rfl i_25_15 q_5 ?_
      refine wp_s 19 [some (.ref a0), some (.int x1), some (.int x2), some (.int x3)] [.int x3, .ref f_4, .ref f_2, .int x2] h0 i_25_18 rfl ?_
      obtain ⟨f_6, q_7, hd⟩ := dk_bind hd
      refine hp_gA 20 rfl i_25_19 q_7 ?_
      obtain ⟨k_8, hd⟩ := dk_if hd
      obtain ⟨fs_9, o_10⟩ := isO_of k_8
      obtain ⟨z_11, q_12, hd⟩ := dk_bind hd
      refine wp_callV 23 rfl i_25_20 (by decide) rfl (vs := [.int f_6]) (rest := [.int x2]) rfl rfl rfl o_10 (y := m_95) rfl (Nat.le_of_ble_eq_true rfl) (d_95_ok (d := e) (by omega) q_12) ?_
      rintro v_13 h_14 ⟨rfl, rfl⟩
      refine wp_s 24 [some (.ref a0), some (.int x1), some (.int x2), some (.int x3)] [.int (x2 + z_11.1)] z_11.2 i_25_23 rfl ?_
      refine wp_s 25 [some (.ref a0), some (.int x1), some (.int (x2 + z_11.1)), some (.int x3)] [] z_11.2 i_25_24 rfl ?_
      refine wp_s 28 [some (.ref a0), some (.int x1), some (.int (x2 + z_11.1)), some (.int (x3 + (1 : Int32)))] [] z_11.2 i_25_25 rfl ?_
      refine wp_s 4 [some (.ref a0), some (.int x1), some (.int (x2 + z_11.1)), some (.int (x3 + (1 : Int32)))] [] z_11.2 i_25_28 rfl ?_
      exact aWp.forget (ih _ _ _ _ _ _ hd) (lvS (lvS (lvS (lvS lvE))))
def d_25 (g : Nat) (a0 : Nat) (x1 : Int32) (h0 : aH) : Option (Int32 × aH) := (l_25 g g 0 a0 x1 (0 : Int32) (0 : Int32) h0)
set_option maxHeartbeats 4000000 in
set_option maxRecDepth 100000 in
theorem d_25_ok {X : aX} {g : Nat} {a0 : Nat} {x1 : Int32} {h0 : aH} {zz : Int32 × aH} {d : Nat} (hdp : 1 ≤ d) (hd : d_25 g a0 x1 h0 = some zz) : aWp X d 25 0 (aEntL [.ref a0, .int x1] 4) [] h0 (fun w h' => w = some (.int zz.1) ∧ h' = zz.2) := by
  unfold d_25 at hd
  refine wp_lv (l2 := [some (.ref a0), some (.int x1), none, none]) rfl ?_
  obtain ⟨e, rfl⟩ : ∃ e, d = e + 1 := ⟨d - 1, by omega⟩
  refine wp_s 1 [some (.ref a0), some (.int x1), none, none] [.int (0 : Int32)] h0 i_25_0 rfl ?_
  refine wp_s 2 [some (.ref a0), some (.int x1), some (.int (0 : Int32)), none] [] h0 i_25_1 rfl ?_
  refine wp_s 3 [some (.ref a0), some (.int x1), some (.int (0 : Int32)), none] [.int (0 : Int32)] h0 i_25_2 rfl ?_
  refine wp_s 4 [some (.ref a0), some (.int x1), some (.int (0 : Int32)), some (.int (0 : Int32))] [] h0 i_25_3 rfl ?_
  exact aWp.forget ((l_25_ok hdp g) _ _ _ _ _ _ hd) (lvS (lvS (lvS (lvS lvE))))
def l_24 (sf24 : Nat → Int32 → Int32 → aH → Option aH) (g n tag : Nat) (a0 : Nat) (x1 : Int32) (x2 : Int32) (x3 : Int32) (x4 : Int32) (h0 : aH) : Option (aH) := match n with
  | 0 => none
  | n + 1 => if tag = 0 then (if x2 < x4 then some h0 else (if (6 : Int32) ≤ x4 then some h0 else ((gR h0 a0 2 3).bind (fun f_3 => ((sA h0 f_3 x1 x4).bind (fun h_5 => ((gR h_5 a0 2 5).bind (fun f_7 => ((gA h_5 f_7 x4).bind (fun f_9 => ((sA h_5 f_7 x4 (f_9 + x3)).bind (fun h_11 => (if isO h_11 a0 2 = true then ((sf24 a0 (x1 + (1 : Int32)) (if x2 < (x4 + (1 : Int32)) then (x4 + (1 : Int32)) else x2) h_11).bind (fun z_16 => ((gR z_16 a0 2 5).bind (fun f_20 => ((gA z_16 f_20 x4).bind (fun f_22 => ((sA z_16 f_20 x4 (f_22 - x3)).bind (fun h_24 => (l_24 sf24 g n 0 a0 x1 x2 x3 (x4 + (1 : Int32)) h_24))))))))) else none))))))))))))) else none
set_option maxHeartbeats 4000000 in
set_option maxRecDepth 100000 in
theorem l_24_ok {X : aX} {g : Nat} {sf24 : Nat → Int32 → Int32 → aH → Option aH} {e : Nat} (hdp : 1 ≤ e) (hs24 : ∀ (a0 : Nat) (x1 : Int32) (x2 : Int32) (h0 zz : aH), sf24 a0 x1 x2 h0 = some zz → aWp X e 24 0 (aEntL [.ref a0, .int x1, .int x2] 5) [] h0 (fun w h' => w = none ∧ h' = zz)) : ∀ n, (∀ (a0 : Nat) (x1 : Int32) (x2 : Int32) (x3 : Int32) (x4 : Int32) (h0 : aH) (zz : aH), l_24 sf24 g n 0 a0 x1 x2 x3 x4 h0 = some zz → aWp X (e + 1) 24 53 [some (.ref a0), some (.int x1), some (.int x2), some (.int x3), some (.int x4)] [] h0 (fun w h' => w = none ∧ h' = zz)) := by
  intro n
  induction n with
  | zero => exact fun _ _ _ _ _ _ _ hd => by simp [l_24] at hd
  | succ n ih =>
    intro a0 x1 x2 x3 x4 h0 zz hd
    unfold l_24 at hd
    rw [if_pos rfl] at hd
    refine wp_s 55 [some (.ref a0), some (.int x1), some (.int x2), some (.int x3), some (.int x4)] [.int x4] h0 i_24_53 rfl ?_
    refine wp_s 56 [some (.ref a0), some (.int x1), some (.int x2), some (.int x3), some (.int x4)] [.int x2, .int x4] h0 i_24_55 rfl ?_
    refine wp_cmp_gt 117 59 rfl rfl i_24_56 (fun c_1 => ?_) (fun c_1 => ?_)
    · rw [if_pos c_1] at hd
      obtain rfl := Option.some.inj hd
      exact wp_ret i_24_117 rfl ⟨rfl, rfl⟩
    · rw [if_neg c_1] at hd
      refine wp_s 61 [some (.ref a0), some (.int x1), some (.int x2), some (.int x3), some (.int x4)] [.int x4] h0 i_24_59 rfl ?_
      refine wp_s 63 [some (.ref a0), some (.int x1), some (.int x2), some (.int x3), some (.int x4)] [.int (6 : Int32), .int x4] h0 i_24_61 rfl ?_
      refine wp_cmp_ge 117 66 rfl rfl i_24_63 (fun c_2 => ?_) (fun c_2 => ?_)
      · rw [if_pos c_2] at hd
        obtain rfl := Option.some.inj hd
        exact wp_ret i_24_117 rfl ⟨rfl, rfl⟩
      · rw [if_neg c_2] at hd
        refine wp_s 67 [some (.ref a0), some (.int x1), some (.int x2), some (.int x3), some (.int x4)] [.ref a0] h0 i_24_66 rfl ?_
        obtain ⟨f_3, q_4, hd⟩ := dk_bind hd
        refine hp_gR 70 rfl i_24_67 q_4 ?_
        refine wp_s 71 [some (.ref a0), some (.int x1), some (.int x2), some (.int x3), some (.int x4)] [.int x1, .ref f_3] h0 i_24_70 rfl ?_
        refine wp_s 73 [some (.ref a0), some (.int x1), some (.int x2), some (.int x3), some (.int x4)] [.int x4, .int x1, .ref f_3] h0 i_24_71 rfl ?_
        obtain ⟨h_5, q_6, hd⟩ := dk_bind hd
        refine hp_sA 74 rfl i_24_73 q_6 ?_
        refine wp_s 75 [some (.ref a0), some (.int x1), some (.int x2), some (.int x3), some (.int x4)] [.ref a0] h_5 i_24_74 rfl ?_
        obtain ⟨f_7, q_8, hd⟩ := dk_bind hd
        refine hp_gR 78 rfl i_24_75 q_8 ?_
        refine wp_s 80 [some (.ref a0), some (.int x1), some (.int x2), some (.int x3), some (.int x4)] [.int x4, .ref f_7] h_5 i_24_78 rfl ?_
        refine wp_s 81 [some (.ref a0), some (.int x1), some (.int x2), some (.int x3), some (.int x4)] [.int x4, .ref f_7, .int x4, .ref f_7] h_5 i_24_80 rfl ?_
        obtain ⟨f_9, q_10, hd⟩ := dk_bind hd
        refine hp_gA 82 rfl i_24_81 q_10 ?_
        refine wp_s 83 [some (.ref a0), some (.int x1), some (.int x2), some (.int x3), some (.int x4)] [.int x3, .int f_9, .int x4, .ref f_7] h_5 i_24_82 rfl ?_
        refine wp_s 84 [some (.ref a0), some (.int x1), some (.int x2), some (.int x3), some (.int x4)] [.int (f_9 + x3), .int x4, .ref f_7] h_5 i_24_83 rfl ?_
        obtain ⟨h_11, q_12, hd⟩ := dk_bind hd
        refine hp_sA 85 rfl i_24_84 q_12 ?_
        refine wp_s 86 [some (.ref a0), some (.int x1), some (.int x2), some (.int x3), some (.int x4)] [.ref a0] h_11 i_24_85 rfl ?_
        refine wp_s 87 [some (.ref a0), some (.int x1), some (.int x2), some (.int x3), some (.int x4)] [.int x1, .ref a0] h_11 i_24_86 rfl ?_
        refine wp_s 88 [some (.ref a0), some (.int x1), some (.int x2), some (.int x3), some (.int x4)] [.int (1 : Int32), .int x1, .ref a0] h_11 i_24_87 rfl ?_
        refine wp_s 89 [some (.ref a0), some (.int x1), some (.int x2), some (.int x3), some (.int x4)] [.int (x1 + (1 : Int32)), .ref a0] h_11 i_24_88 rfl ?_
        refine wp_s 90 [some (.ref a0), some (.int x1), some (.int x2), some (.int x3), some (.int x4)] [.int x2, .int (x1 + (1 : Int32)), .ref a0] h_11 i_24_89 rfl ?_
        refine wp_s 92 [some (.ref a0), some (.int x1), some (.int x2), some (.int x3), some (.int x4)] [.int x4, .int x2, .int (x1 + (1 : Int32)), .ref a0] h_11 i_24_90 rfl ?_
        refine wp_s 93 [some (.ref a0), some (.int x1), some (.int x2), some (.int x3), some (.int x4)] [.int (1 : Int32), .int x4, .int x2, .int (x1 + (1 : Int32)), .ref a0] h_11 i_24_92 rfl ?_
        refine wp_s 94 [some (.ref a0), some (.int x1), some (.int x2), some (.int x3), some (.int x4)] [.int (x4 + (1 : Int32)), .int x2, .int (x1 + (1 : Int32)), .ref a0] h_11 i_24_93 rfl ?_
        refine hp_max 97 rfl i_24_94 rfl ?_
        obtain ⟨k_13, hd⟩ := dk_if hd
        obtain ⟨fs_14, o_15⟩ := isO_of k_13
        obtain ⟨z_16, q_17, hd⟩ := dk_bind hd
        refine wp_callV 100 rfl i_24_97 (by decide) rfl (vs := [.int (x1 + (1 : Int32)), .int (if x2 < (x4 + (1 : Int32)) then (x4 + (1 : Int32)) else x2)]) (rest := []) rfl rfl rfl o_15 (y := m_24) rfl (Nat.le_of_ble_eq_true rfl) (hs24 _ _ _ _ _ q_17) ?_
        rintro v_18 h_19 ⟨rfl, hz⟩
        have hz := hz.symm
        subst hz
        refine wp_s 101 [some (.ref a0), some (.int x1), some (.int x2), some (.int x3), some (.int x4)] [.ref a0] z_16 i_24_100 rfl ?_
        obtain ⟨f_20, q_21, hd⟩ := dk_bind hd
        refine hp_gR 104 rfl i_24_101 q_21 ?_
        refine wp_s 106 [some (.ref a0), some (.int x1), some (.int x2), some (.int x3), some (.int x4)] [.int x4, .ref f_20] z_16 i_24_104 rfl ?_
        refine wp_s 107 [some (.ref a0), some (.int x1), some (.int x2), some (.int x3), some (.int x4)] [.int x4, .ref f_20, .int x4, .ref f_20] z_16 i_24_106 rfl ?_
        obtain ⟨f_22, q_23, hd⟩ := dk_bind hd
        refine hp_gA 108 rfl i_24_107 q_23 ?_
        refine wp_s 109 [some (.ref a0), some (.int x1), some (.int x2), some (.int x3), some (.int x4)] [.int x3, .int f_22, .int x4, .ref f_20] z_16 i_24_108 rfl ?_
        refine wp_s 110 [some (.ref a0), some (.int x1), some (.int x2), some (.int x3), some (.int x4)] [.int (f_22 - x3), .int x4, .ref f_20] z_16 i_24_109 rfl ?_
        obtain ⟨h_24, q_25, hd⟩ := dk_bind hd
        refine hp_sA 111 rfl i_24_110 q_25 ?_
        refine wp_s 114 [some (.ref a0), some (.int x1), some (.int x2), some (.int x3), some (.int (x4 + (1 : Int32)))] [] h_24 i_24_111 rfl ?_
        refine wp_s 53 [some (.ref a0), some (.int x1), some (.int x2), some (.int x3), some (.int (x4 + (1 : Int32)))] [] h_24 i_24_114 rfl ?_
        exact aWp.forget (ih _ _ _ _ _ _ _ hd) (lvS (lvS (lvS (lvS (lvS lvE)))))
def t_24 (sf24 : Nat → Int32 → Int32 → aH → Option aH) (g : Nat) (a0 : Nat) (x1 : Int32) (x2 : Int32) (h0 : aH) : Option (aH) := ((gR h0 a0 2 0).bind (fun f_1001 => ((gR h0 f_1001 10 0).bind (fun f_1003 => ((gI h0 f_1003 5 8).bind (fun f_1005 => (if x1 < f_1005 then ((gR h0 a0 2 4).bind (fun f_1008 => ((gR h0 a0 2 0).bind (fun f_1010 => ((gR h0 f_1010 10 0).bind (fun f_1012 => ((gR h0 f_1012 5 9).bind (fun f_1014 => ((gA h0 f_1014 x1).bind (fun f_1016 => ((gA h0 f_1008 f_1016).bind (fun f_1018 => (l_24 sf24 g g 0 a0 x1 x2 f_1018 (0 : Int32) h0))))))))))))) else ((gR h0 a0 2 2).bind (fun f_1020 => (if isO h0 a0 2 = true then ((d_25 g a0 x2 h0).bind (fun z_1025 => ((gR z_1025.2 a0 2 3).bind (fun f_1029 => (if isO z_1025.2 f_1020 0 = true then ((d_2 g f_1020 z_1025.1 f_1029 x1 z_1025.2).bind (fun z_1034 => some z_1034)) else none))))) else none))))))))))
set_option maxHeartbeats 4000000 in
set_option maxRecDepth 100000 in
theorem t_24_ok {X : aX} {g : Nat} {sf24 : Nat → Int32 → Int32 → aH → Option aH} {a0 : Nat} {x1 : Int32} {x2 : Int32} {h0 : aH} {zz : aH} {e : Nat} (hdp : 1 ≤ e) (hs24 : ∀ (a0 : Nat) (x1 : Int32) (x2 : Int32) (h0 zz : aH), sf24 a0 x1 x2 h0 = some zz → aWp X e 24 0 (aEntL [.ref a0, .int x1, .int x2] 5) [] h0 (fun w h' => w = none ∧ h' = zz)) (hd : t_24 sf24 g a0 x1 x2 h0 = some zz) : aWp X (e + 1) 24 0 (aEntL [.ref a0, .int x1, .int x2] 5) [] h0 (fun w h' => w = none ∧ h' = zz) := by
  unfold t_24 at hd
  refine wp_lv (l2 := [some (.ref a0), some (.int x1), some (.int x2), none, none]) rfl ?_
  refine wp_s 1 [some (.ref a0), some (.int x1), some (.int x2), none, none] [.int x1] h0 i_24_0 rfl ?_
  refine wp_s 2 [some (.ref a0), some (.int x1), some (.int x2), none, none] [.ref a0, .int x1] h0 i_24_1 rfl ?_
  obtain ⟨f_1001, q_1002, hd⟩ := dk_bind hd
  refine hp_gR 5 rfl i_24_2 q_1002 ?_
  obtain ⟨f_1003, q_1004, hd⟩ := dk_bind hd
  refine hp_gR 8 rfl i_24_5 q_1004 ?_
  obtain ⟨f_1005, q_1006, hd⟩ := dk_bind hd
  refine hp_gI 11 rfl i_24_8 q_1006 ?_
  refine wp_cmp_lt 32 14 rfl rfl i_24_11 (fun c_1007 => ?_) (fun c_1007 => ?_)
  · rw [if_pos c_1007] at hd
    refine wp_s 33 [some (.ref a0), some (.int x1), some (.int x2), none, none] [.ref a0] h0 i_24_32 rfl ?_
    obtain ⟨f_1008, q_1009, hd⟩ := dk_bind hd
    refine hp_gR 36 rfl i_24_33 q_1009 ?_
    refine wp_s 37 [some (.ref a0), some (.int x1), some (.int x2), none, none] [.ref a0, .ref f_1008] h0 i_24_36 rfl ?_
    obtain ⟨f_1010, q_1011, hd⟩ := dk_bind hd
    refine hp_gR 40 rfl i_24_37 q_1011 ?_
    obtain ⟨f_1012, q_1013, hd⟩ := dk_bind hd
    refine hp_gR 43 rfl i_24_40 q_1013 ?_
    obtain ⟨f_1014, q_1015, hd⟩ := dk_bind hd
    refine hp_gR 46 rfl i_24_43 q_1015 ?_
    refine wp_s 47 [some (.ref a0), some (.int x1), some (.int x2), none, none] [.int x1, .ref f_1014, .ref f_1008] h0 i_24_46 rfl ?_
    obtain ⟨f_1016, q_1017, hd⟩ := dk_bind hd
    refine hp_gA 48 rfl i_24_47 q_1017 ?_
    obtain ⟨f_1018, q_1019, hd⟩ := dk_bind hd
    refine hp_gA 49 rfl i_24_48 q_1019 ?_
    refine wp_s 50 [some (.ref a0), some (.int x1), some (.int x2), some (.int f_1018), none] [] h0 i_24_49 rfl ?_
    refine wp_s 51 [some (.ref a0), some (.int x1), some (.int x2), some (.int f_1018), none] [.int (0 : Int32)] h0 i_24_50 rfl ?_
    refine wp_s 53 [some (.ref a0), some (.int x1), some (.int x2), some (.int f_1018), some (.int (0 : Int32))] [] h0 i_24_51 rfl ?_
    exact aWp.forget ((l_24_ok hdp hs24 g) _ _ _ _ _ _ _ hd) (lvS (lvS (lvS (lvS (lvS lvE)))))
  · rw [if_neg c_1007] at hd
    refine wp_s 15 [some (.ref a0), some (.int x1), some (.int x2), none, none] [.ref a0] h0 i_24_14 rfl ?_
    obtain ⟨f_1020, q_1021, hd⟩ := dk_bind hd
    refine hp_gR 18 rfl i_24_15 q_1021 ?_
    refine wp_s 19 [some (.ref a0), some (.int x1), some (.int x2), none, none] [.ref a0, .ref f_1020] h0 i_24_18 rfl ?_
    refine wp_s 20 [some (.ref a0), some (.int x1), some (.int x2), none, none] [.int x2, .ref a0, .ref f_1020] h0 i_24_19 rfl ?_
    obtain ⟨k_1022, hd⟩ := dk_if hd
    obtain ⟨fs_1023, o_1024⟩ := isO_of k_1022
    obtain ⟨z_1025, q_1026, hd⟩ := dk_bind hd
    refine wp_callV 23 rfl i_24_20 (by decide) rfl (vs := [.int x2]) (rest := [.ref f_1020]) rfl rfl rfl o_1024 (y := m_25) rfl (Nat.le_of_ble_eq_true rfl) (d_25_ok (d := e) (by omega) q_1026) ?_
    rintro v_1027 h_1028 ⟨rfl, rfl⟩
    refine wp_s 24 [some (.ref a0), some (.int x1), some (.int x2), none, none] [.ref a0, .int z_1025.1, .ref f_1020] z_1025.2 i_24_23 rfl ?_
    obtain ⟨f_1029, q_1030, hd⟩ := dk_bind hd
    refine hp_gR 27 rfl i_24_24 q_1030 ?_
    refine wp_s 28 [some (.ref a0), some (.int x1), some (.int x2), none, none] [.int x1, .ref f_1029, .int z_1025.1, .ref f_1020] z_1025.2 i_24_27 rfl ?_
    obtain ⟨k_1031, hd⟩ := dk_if hd
    obtain ⟨fs_1032, o_1033⟩ := isO_of k_1031
    obtain ⟨z_1034, q_1035, hd⟩ := dk_bind hd
    refine wp_callV 31 rfl i_24_28 (by decide) rfl (vs := [.int z_1025.1, .ref f_1029, .int x1]) (rest := []) rfl rfl rfl o_1033 (y := m_2) rfl (Nat.le_of_ble_eq_true rfl) (d_2_ok (d := e) (by omega) q_1035) ?_
    rintro v_1036 h_1037 ⟨rfl, hz⟩
    have hz := hz.symm
    subst hz
    obtain rfl := Option.some.inj hd
    exact wp_ret i_24_31 rfl ⟨rfl, rfl⟩
def R_24 (g n tag : Nat) (a0 : Nat) (x1 : Int32) (x2 : Int32) (h0 : aH) : Option aH := match n with
  | 0 => none
  | n + 1 => if tag = 0 then t_24 (fun a0 x1 x2 h => R_24 g n 0 a0 x1 x2 h) g a0 x1 x2 h0 else none
theorem R_24_ok {X : aX} {g : Nat} : ∀ n, (∀ (a0 : Nat) (x1 : Int32) (x2 : Int32) (h0 zz : aH), R_24 g n 0 a0 x1 x2 h0 = some zz → aWp X (1 + n) 24 0 (aEntL [.ref a0, .int x1, .int x2] 5) [] h0 (fun w h' => w = none ∧ h' = zz)) := by
  intro n
  induction n with
  | zero => exact fun _ _ _ _ _ hd => by simp [R_24] at hd
  | succ n ih =>
    intro a0 x1 x2 h0 zz hd
    unfold R_24 at hd
    rw [if_pos rfl] at hd
    exact t_24_ok (e := 1 + n) (by omega) ih hd
def d_24 (g : Nat) (a0 : Nat) (x1 : Int32) (x2 : Int32) (h0 : aH) : Option aH := R_24 g 9 0 a0 x1 x2 h0
theorem d_24_ok {X : aX} {g : Nat} {a0 : Nat} {x1 : Int32} {x2 : Int32} {h0 zz : aH} {d : Nat} (hdp : 10 ≤ d) (hd : d_24 g a0 x1 x2 h0 = some zz) : aWp X d 24 0 (aEntL [.ref a0, .int x1, .int x2] 5) [] h0 (fun w h' => w = none ∧ h' = zz) := ((R_24_ok 9) _ _ _ _ _ hd).deep hdp
def d_23 (g : Nat) (a0 : Nat) (h0 : aH) : Option (aH) := ((gR h0 a0 2 2).bind (fun f_1 => (if isO h0 f_1 0 = true then ((d_1 g f_1 h0).bind (fun z_6 => ((gR z_6 a0 2 0).bind (fun f_10 => ((gR z_6 f_10 10 1).bind (fun f_12 => ((gI z_6 f_12 7 13).bind (fun f_14 => (if isO z_6 a0 2 = true then ((d_12 g a0 f_14 z_6).bind (fun z_19 => ((gR z_19 a0 2 5).bind (fun f_23 => ((d_273 g f_23 (0 : Int32) z_19).bind (fun z_25 => (if isO z_25 a0 2 = true then ((d_24 g a0 (0 : Int32) (0 : Int32) z_25).bind (fun z_32 => some z_32)) else none))))))) else none))))))))) else none)))
set_option maxHeartbeats 4000000 in
set_option maxRecDepth 100000 in
theorem d_23_ok {X : aX} {g : Nat} {a0 : Nat} {h0 : aH} {zz : aH} {d : Nat} (hdp : 11 ≤ d) (hd : d_23 g a0 h0 = some zz) : aWp X d 23 0 (aEntL [.ref a0] 1) [] h0 (fun w h' => w = none ∧ h' = zz) := by
  unfold d_23 at hd
  refine wp_lv (l2 := [some (.ref a0)]) rfl ?_
  obtain ⟨e, rfl⟩ : ∃ e, d = e + 1 := ⟨d - 1, by omega⟩
  refine wp_s 1 [some (.ref a0)] [.ref a0] h0 i_23_0 rfl ?_
  obtain ⟨f_1, q_2, hd⟩ := dk_bind hd
  refine hp_gR 4 rfl i_23_1 q_2 ?_
  obtain ⟨k_3, hd⟩ := dk_if hd
  obtain ⟨fs_4, o_5⟩ := isO_of k_3
  obtain ⟨z_6, q_7, hd⟩ := dk_bind hd
  refine wp_callV 7 rfl i_23_4 (by decide) rfl (vs := []) (rest := []) rfl rfl rfl o_5 (y := m_1) rfl (Nat.le_of_ble_eq_true rfl) (d_1_ok (d := e) (by omega) q_7) ?_
  rintro v_8 h_9 ⟨rfl, hz⟩
  have hz := hz.symm
  subst hz
  refine wp_s 8 [some (.ref a0)] [.ref a0] z_6 i_23_7 rfl ?_
  refine wp_s 9 [some (.ref a0)] [.ref a0, .ref a0] z_6 i_23_8 rfl ?_
  obtain ⟨f_10, q_11, hd⟩ := dk_bind hd
  refine hp_gR 12 rfl i_23_9 q_11 ?_
  obtain ⟨f_12, q_13, hd⟩ := dk_bind hd
  refine hp_gR 15 rfl i_23_12 q_13 ?_
  obtain ⟨f_14, q_15, hd⟩ := dk_bind hd
  refine hp_gI 18 rfl i_23_15 q_15 ?_
  obtain ⟨k_16, hd⟩ := dk_if hd
  obtain ⟨fs_17, o_18⟩ := isO_of k_16
  obtain ⟨z_19, q_20, hd⟩ := dk_bind hd
  refine wp_callV 21 rfl i_23_18 (by decide) rfl (vs := [.int f_14]) (rest := []) rfl rfl rfl o_18 (y := m_12) rfl (Nat.le_of_ble_eq_true rfl) (d_12_ok (d := e) (by omega) q_20) ?_
  rintro v_21 h_22 ⟨rfl, hz⟩
  have hz := hz.symm
  subst hz
  refine wp_s 22 [some (.ref a0)] [.ref a0] z_19 i_23_21 rfl ?_
  obtain ⟨f_23, q_24, hd⟩ := dk_bind hd
  refine hp_gR 25 rfl i_23_22 q_24 ?_
  refine wp_s 26 [some (.ref a0)] [.int (0 : Int32), .ref f_23] z_19 i_23_25 rfl ?_
  obtain ⟨z_25, q_26, hd⟩ := dk_bind hd
  refine wp_callS 29 rfl i_23_26 (by decide) (vs := [.ref f_23, .int (0 : Int32)]) (rest := []) rfl rfl rfl (y := m_273) rfl (Nat.le_of_ble_eq_true rfl) (d_273_ok (d := e) (by omega) q_26) ?_
  rintro v_27 h_28 ⟨rfl, hz⟩
  have hz := hz.symm
  subst hz
  refine wp_s 30 [some (.ref a0)] [.ref a0] z_25 i_23_29 rfl ?_
  refine wp_s 31 [some (.ref a0)] [.int (0 : Int32), .ref a0] z_25 i_23_30 rfl ?_
  refine wp_s 32 [some (.ref a0)] [.int (0 : Int32), .int (0 : Int32), .ref a0] z_25 i_23_31 rfl ?_
  obtain ⟨k_29, hd⟩ := dk_if hd
  obtain ⟨fs_30, o_31⟩ := isO_of k_29
  obtain ⟨z_32, q_33, hd⟩ := dk_bind hd
  refine wp_callV 35 rfl i_23_32 (by decide) rfl (vs := [.int (0 : Int32), .int (0 : Int32)]) (rest := []) rfl rfl rfl o_31 (y := m_24) rfl (Nat.le_of_ble_eq_true rfl) (d_24_ok (d := e) (by omega) q_33) ?_
  rintro v_34 h_35 ⟨rfl, hz⟩
  have hz := hz.symm
  subst hz
  obtain rfl := Option.some.inj hd
  exact wp_ret i_23_35 rfl ⟨rfl, rfl⟩
