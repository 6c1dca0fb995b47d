theorem i_45_0 : aIns 45 0 = some (.aload_n 0, 1, 0, 0, .null) := by decide +kernel
theorem i_45_1 : aIns 45 1 = some (.aload_n 1, 1, 0, 0, .null) := by decide +kernel
theorem i_45_2 : aIns 45 2 = some (.putfield 15, 3, 4, 1, .null) := by decide +kernel
theorem i_45_5 : aIns 45 5 = some (.aload_n 0, 1, 0, 0, .null) := by decide +kernel
theorem i_45_6 : aIns 45 6 = some (.getfield 15, 3, 4, 1, .null) := by decide +kernel
theorem i_45_9 : aIns 45 9 = some (.iconst 0, 1, 0, 0, .int (0)) := by decide +kernel
theorem i_45_10 : aIns 45 10 = some (.putfield 19, 3, 3, 5, .null) := by decide +kernel
theorem i_45_13 : aIns 45 13 = some (.aload_n 0, 1, 0, 0, .null) := by decide +kernel
theorem i_45_14 : aIns 45 14 = some (.getfield 15, 3, 4, 1, .null) := by decide +kernel
theorem i_45_17 : aIns 45 17 = some (.iconst 0, 1, 0, 0, .int (0)) := by decide +kernel
theorem i_45_18 : aIns 45 18 = some (.putfield 25, 3, 3, 6, .null) := by decide +kernel
theorem i_45_21 : aIns 45 21 = some (.aload_n 0, 1, 0, 0, .null) := by decide +kernel
theorem i_45_22 : aIns 45 22 = some (.iconst 0, 1, 0, 0, .int (0)) := by decide +kernel
theorem i_45_23 : aIns 45 23 = some (.putfield 28, 3, 4, 2, .null) := by decide +kernel
theorem i_45_26 : aIns 45 26 = some (.aload_n 0, 1, 0, 0, .null) := by decide +kernel
theorem i_45_27 : aIns 45 27 = some (.getfield 9, 3, 4, 0, .null) := by decide +kernel
theorem i_45_30 : aIns 45 30 = some (.invokevirtual 31, 3, 82, 0, .int 8) := by decide +kernel
theorem i_45_33 : aIns 45 33 = some (.aload_n 0, 1, 0, 0, .null) := by decide +kernel
theorem i_45_34 : aIns 45 34 = some (.invokevirtual 36, 3, 46, 0, .int 4) := by decide +kernel
theorem i_45_37 : aIns 45 37 = some (.iconst 0, 1, 0, 0, .int (0)) := by decide +kernel
theorem i_45_38 : aIns 45 38 = some (.istore_n 2, 1, 0, 0, .null) := by decide +kernel
theorem i_45_39 : aIns 45 39 = some (.iload_n 2, 1, 0, 0, .null) := by decide +kernel
theorem i_45_40 : aIns 45 40 = some (.sipush 400, 3, 0, 0, .int (400)) := by decide +kernel
theorem i_45_43 : aIns 45 43 = some (.if_icmp .ge 32, 3, 0, 0, .null) := by decide +kernel
theorem i_45_46 : aIns 45 46 = some (.aload_n 0, 1, 0, 0, .null) := by decide +kernel
theorem i_45_47 : aIns 45 47 = some (.getfield 9, 3, 4, 0, .null) := by decide +kernel
theorem i_45_50 : aIns 45 50 = some (.getfield 39, 3, 8, 3, .null) := by decide +kernel
theorem i_45_53 : aIns 45 53 = some (.bipush 23, 2, 0, 0, .int (23)) := by decide +kernel
theorem i_45_55 : aIns 45 55 = some (.if_icmp .ne 20, 3, 0, 0, .null) := by decide +kernel
theorem i_45_58 : aIns 45 58 = some (.aload_n 0, 1, 0, 0, .null) := by decide +kernel
theorem i_45_59 : aIns 45 59 = some (.getfield 9, 3, 4, 0, .null) := by decide +kernel
theorem i_45_62 : aIns 45 62 = some (.invokevirtual 42, 3, 84, 0, .int 8) := by decide +kernel
theorem i_45_65 : aIns 45 65 = some (.aload_n 0, 1, 0, 0, .null) := by decide +kernel
theorem i_45_66 : aIns 45 66 = some (.invokevirtual 36, 3, 46, 0, .int 4) := by decide +kernel
theorem i_45_69 : aIns 45 69 = some (.iinc 2 1, 3, 0, 0, .null) := by decide +kernel
theorem i_45_72 : aIns 45 72 = some (.goto (-33), 3, 0, 0, .null) := by decide +kernel
theorem i_45_75 : aIns 45 75 = some (.aload_n 0, 1, 0, 0, .null) := by decide +kernel
theorem i_45_76 : aIns 45 76 = some (.getfield 9, 3, 4, 0, .null) := by decide +kernel
theorem i_45_79 : aIns 45 79 = some (.getfield 39, 3, 8, 3, .null) := by decide +kernel
theorem i_45_82 : aIns 45 82 = some (.bipush 21, 2, 0, 0, .int (21)) := by decide +kernel
theorem i_45_84 : aIns 45 84 = some (.if_icmp .eq 11, 3, 0, 0, .null) := by decide +kernel
theorem i_45_87 : aIns 45 87 = some (.aload_n 0, 1, 0, 0, .null) := by decide +kernel
theorem i_45_88 : aIns 45 88 = some (.getfield 9, 3, 4, 0, .null) := by decide +kernel
theorem i_45_91 : aIns 45 91 = some (.iconst 0, 1, 0, 0, .int (0)) := by decide +kernel
theorem i_45_92 : aIns 45 92 = some (.invokevirtual 45, 3, 83, 1, .int 8) := by decide +kernel
theorem i_45_95 : aIns 45 95 = some (.aload_n 0, 1, 0, 0, .null) := by decide +kernel
theorem i_45_96 : aIns 45 96 = some (.getfield 9, 3, 4, 0, .null) := by decide +kernel
theorem i_45_99 : aIns 45 99 = some (.getfield 49, 3, 8, 6, .null) := by decide +kernel
theorem i_45_102 : aIns 45 102 = some (.ireturn, 1, 0, 0, .null) := by decide +kernel
theorem i_46_0 : aIns 46 0 = some (.aload_n 0, 1, 0, 0, .null) := by decide +kernel
theorem i_46_1 : aIns 46 1 = some (.getfield 9, 3, 4, 0, .null) := by decide +kernel
theorem i_46_4 : aIns 46 4 = some (.getfield 39, 3, 8, 3, .null) := by decide +kernel
theorem i_46_7 : aIns 46 7 = some (.bipush 15, 2, 0, 0, .int (15)) := by decide +kernel
theorem i_46_9 : aIns 46 9 = some (.if_icmp .eq 12, 3, 0, 0, .null) := by decide +kernel
theorem i_46_12 : aIns 46 12 = some (.aload_n 0, 1, 0, 0, .null) := by decide +kernel
theorem i_46_13 : aIns 46 13 = some (.getfield 9, 3, 4, 0, .null) := by decide +kernel
theorem i_46_16 : aIns 46 16 = some (.iconst 0, 1, 0, 0, .int (0)) := by decide +kernel
theorem i_46_17 : aIns 46 17 = some (.invokevirtual 45, 3, 83, 1, .int 8) := by decide +kernel
theorem i_46_20 : aIns 46 20 = some (.return_, 1, 0, 0, .null) := by decide +kernel
theorem i_46_21 : aIns 46 21 = some (.aload_n 0, 1, 0, 0, .null) := by decide +kernel
theorem i_46_22 : aIns 46 22 = some (.getfield 15, 3, 4, 1, .null) := by decide +kernel
theorem i_46_25 : aIns 46 25 = some (.getfield 25, 3, 3, 6, .null) := by decide +kernel
theorem i_46_28 : aIns 46 28 = some (.istore_n 1, 1, 0, 0, .null) := by decide +kernel
theorem i_46_29 : aIns 46 29 = some (.iload_n 1, 1, 0, 0, .null) := by decide +kernel
theorem i_46_30 : aIns 46 30 = some (.bipush 12, 2, 0, 0, .int (12)) := by decide +kernel
theorem i_46_32 : aIns 46 32 = some (.if_icmp .lt 12, 3, 0, 0, .null) := by decide +kernel
theorem i_46_35 : aIns 46 35 = some (.aload_n 0, 1, 0, 0, .null) := by decide +kernel
theorem i_46_36 : aIns 46 36 = some (.getfield 9, 3, 4, 0, .null) := by decide +kernel
theorem i_46_39 : aIns 46 39 = some (.iconst 4, 1, 0, 0, .int (4)) := by decide +kernel
theorem i_46_40 : aIns 46 40 = some (.invokevirtual 45, 3, 83, 1, .int 8) := by decide +kernel
theorem i_46_43 : aIns 46 43 = some (.return_, 1, 0, 0, .null) := by decide +kernel
theorem i_46_44 : aIns 46 44 = some (.aload_n 0, 1, 0, 0, .null) := by decide +kernel
theorem i_46_45 : aIns 46 45 = some (.getfield 15, 3, 4, 1, .null) := by decide +kernel
theorem i_46_48 : aIns 46 48 = some (.dup, 1, 0, 0, .null) := by decide +kernel
theorem i_46_49 : aIns 46 49 = some (.getfield 25, 3, 3, 6, .null) := by decide +kernel
theorem i_46_52 : aIns 46 52 = some (.iconst 1, 1, 0, 0, .int (1)) := by decide +kernel
theorem i_46_53 : aIns 46 53 = some (.iadd, 1, 0, 0, .null) := by decide +kernel
theorem i_46_54 : aIns 46 54 = some (.putfield 25, 3, 3, 6, .null) := by decide +kernel
theorem i_46_57 : aIns 46 57 = some (.aload_n 0, 1, 0, 0, .null) := by decide +kernel
theorem i_46_58 : aIns 46 58 = some (.getfield 9, 3, 4, 0, .null) := by decide +kernel
theorem i_46_61 : aIns 46 61 = some (.invokevirtual 42, 3, 84, 0, .int 8) := by decide +kernel
theorem i_46_64 : aIns 46 64 = some (.aload_n 0, 1, 0, 0, .null) := by decide +kernel
theorem i_46_65 : aIns 46 65 = some (.getfield 15, 3, 4, 1, .null) := by decide +kernel
theorem i_46_68 : aIns 46 68 = some (.getfield 52, 3, 3, 1, .null) := by decide +kernel
theorem i_46_71 : aIns 46 71 = some (.iload_n 1, 1, 0, 0, .null) := by decide +kernel
theorem i_46_72 : aIns 46 72 = some (.aload_n 0, 1, 0, 0, .null) := by decide +kernel
theorem i_46_73 : aIns 46 73 = some (.getfield 15, 3, 4, 1, .null) := by decide +kernel
theorem i_46_76 : aIns 46 76 = some (.getfield 19, 3, 3, 5, .null) := by decide +kernel
theorem i_46_79 : aIns 46 79 = some (.iastore, 1, 0, 0, .null) := by decide +kernel
theorem i_46_80 : aIns 46 80 = some (.aload_n 0, 1, 0, 0, .null) := by decide +kernel
theorem i_46_81 : aIns 46 81 = some (.iconst 0, 1, 0, 0, .int (0)) := by decide +kernel
theorem i_46_82 : aIns 46 82 = some (.invokevirtual 56, 3, 50, 1, .int 4) := by decide +kernel
theorem i_46_85 : aIns 46 85 = some (.aload_n 0, 1, 0, 0, .null) := by decide +kernel
theorem i_46_86 : aIns 46 86 = some (.getfield 15, 3, 4, 1, .null) := by decide +kernel
theorem i_46_89 : aIns 46 89 = some (.getfield 59, 3, 3, 2, .null) := by decide +kernel
theorem i_46_92 : aIns 46 92 = some (.iload_n 1, 1, 0, 0, .null) := by decide +kernel
theorem i_46_93 : aIns 46 93 = some (.aload_n 0, 1, 0, 0, .null) := by decide +kernel
theorem i_46_94 : aIns 46 94 = some (.getfield 15, 3, 4, 1, .null) := by decide +kernel
theorem i_46_97 : aIns 46 97 = some (.getfield 19, 3, 3, 5, .null) := by decide +kernel
theorem i_46_100 : aIns 46 100 = some (.iastore, 1, 0, 0, .null) := by decide +kernel
theorem i_46_101 : aIns 46 101 = some (.aload_n 0, 1, 0, 0, .null) := by decide +kernel
theorem i_46_102 : aIns 46 102 = some (.getfield 9, 3, 4, 0, .null) := by decide +kernel
theorem i_46_105 : aIns 46 105 = some (.getfield 39, 3, 8, 3, .null) := by decide +kernel
theorem i_46_108 : aIns 46 108 = some (.bipush 16, 2, 0, 0, .int (16)) := by decide +kernel
theorem i_46_110 : aIns 46 110 = some (.if_icmp .ne 16, 3, 0, 0, .null) := by decide +kernel
theorem i_46_113 : aIns 46 113 = some (.aload_n 0, 1, 0, 0, .null) := by decide +kernel
theorem i_46_114 : aIns 46 114 = some (.getfield 9, 3, 4, 0, .null) := by decide +kernel
theorem i_46_117 : aIns 46 117 = some (.invokevirtual 42, 3, 84, 0, .int 8) := by decide +kernel
theorem i_46_120 : aIns 46 120 = some (.aload_n 0, 1, 0, 0, .null) := by decide +kernel
theorem i_46_121 : aIns 46 121 = some (.iconst 0, 1, 0, 0, .int (0)) := by decide +kernel
theorem i_46_122 : aIns 46 122 = some (.iconst 0, 1, 0, 0, .int (0)) := by decide +kernel
theorem i_46_123 : aIns 46 123 = some (.invokevirtual 62, 3, 47, 2, .int 4) := by decide +kernel
theorem i_46_126 : aIns 46 126 = some (.aload_n 0, 1, 0, 0, .null) := by decide +kernel
theorem i_46_127 : aIns 46 127 = some (.getfield 15, 3, 4, 1, .null) := by decide +kernel
theorem i_46_130 : aIns 46 130 = some (.getfield 66, 3, 3, 3, .null) := by decide +kernel
theorem i_46_133 : aIns 46 133 = some (.iload_n 1, 1, 0, 0, .null) := by decide +kernel
theorem i_46_134 : aIns 46 134 = some (.aload_n 0, 1, 0, 0, .null) := by decide +kernel
theorem i_46_135 : aIns 46 135 = some (.getfield 15, 3, 4, 1, .null) := by decide +kernel
theorem i_46_138 : aIns 46 138 = some (.getfield 19, 3, 3, 5, .null) := by decide +kernel
theorem i_46_141 : aIns 46 141 = some (.iastore, 1, 0, 0, .null) := by decide +kernel
theorem i_46_142 : aIns 46 142 = some (.return_, 1, 0, 0, .null) := by decide +kernel
theorem i_55_0 : aIns 55 0 = some (.iload_n 1, 1, 0, 0, .null) := by decide +kernel
theorem i_55_1 : aIns 55 1 = some (.ifCond .lt 15, 3, 0, 0, .null) := by decide +kernel
theorem i_55_4 : aIns 55 4 = some (.iload_n 1, 1, 0, 0, .null) := by decide +kernel
theorem i_55_5 : aIns 55 5 = some (.aload_n 0, 1, 0, 0, .null) := by decide +kernel
theorem i_55_6 : aIns 55 6 = some (.getfield 48, 3, 5, 4, .null) := by decide +kernel
theorem i_55_9 : aIns 55 9 = some (.if_icmp .ge 7, 3, 0, 0, .null) := by decide +kernel
theorem i_55_12 : aIns 55 12 = some (.iconst 1, 1, 0, 0, .int (1)) := by decide +kernel
theorem i_55_13 : aIns 55 13 = some (.goto 4, 3, 0, 0, .null) := by decide +kernel
theorem i_55_16 : aIns 55 16 = some (.iconst 0, 1, 0, 0, .int (0)) := by decide +kernel
theorem i_55_17 : aIns 55 17 = some (.ireturn, 1, 1, 0, .null) := by decide +kernel
theorem i_56_0 : aIns 56 0 = some (.iload_n 1, 1, 0, 0, .null) := by decide +kernel
theorem i_56_1 : aIns 56 1 = some (.ifCond .lt 15, 3, 0, 0, .null) := by decide +kernel
theorem i_56_4 : aIns 56 4 = some (.iload_n 1, 1, 0, 0, .null) := by decide +kernel
theorem i_56_5 : aIns 56 5 = some (.aload_n 0, 1, 0, 0, .null) := by decide +kernel
theorem i_56_6 : aIns 56 6 = some (.getfield 52, 3, 5, 15, .null) := by decide +kernel
theorem i_56_9 : aIns 56 9 = some (.if_icmp .ge 7, 3, 0, 0, .null) := by decide +kernel
theorem i_56_12 : aIns 56 12 = some (.iconst 1, 1, 0, 0, .int (1)) := by decide +kernel
theorem i_56_13 : aIns 56 13 = some (.goto 4, 3, 0, 0, .null) := by decide +kernel
theorem i_56_16 : aIns 56 16 = some (.iconst 0, 1, 0, 0, .int (0)) := by decide +kernel
theorem i_56_17 : aIns 56 17 = some (.ireturn, 1, 1, 0, .null) := by decide +kernel
theorem i_60_0 : aIns 60 0 = some (.aload_n 0, 1, 0, 0, .null) := by decide +kernel
theorem i_60_1 : aIns 60 1 = some (.aload_n 1, 1, 0, 0, .null) := by decide +kernel
theorem i_60_2 : aIns 60 2 = some (.putfield 15, 3, 6, 1, .null) := by decide +kernel
theorem i_60_5 : aIns 60 5 = some (.aload_n 0, 1, 0, 0, .null) := by decide +kernel
theorem i_60_6 : aIns 60 6 = some (.iconst 0, 1, 0, 0, .int (0)) := by decide +kernel
theorem i_60_7 : aIns 60 7 = some (.putfield 19, 3, 6, 2, .null) := by decide +kernel
theorem i_60_10 : aIns 60 10 = some (.aload_n 0, 1, 0, 0, .null) := by decide +kernel
theorem i_60_11 : aIns 60 11 = some (.getfield 9, 3, 6, 0, .null) := by decide +kernel
theorem i_60_14 : aIns 60 14 = some (.invokevirtual 23, 3, 82, 0, .int 8) := by decide +kernel
theorem i_60_17 : aIns 60 17 = some (.aload_n 0, 1, 0, 0, .null) := by decide +kernel
theorem i_60_18 : aIns 60 18 = some (.invokevirtual 28, 3, 61, 0, .int 6) := by decide +kernel
theorem i_60_21 : aIns 60 21 = some (.iconst 0, 1, 0, 0, .int (0)) := by decide +kernel
theorem i_60_22 : aIns 60 22 = some (.istore_n 2, 1, 0, 0, .null) := by decide +kernel
theorem i_60_23 : aIns 60 23 = some (.iload_n 2, 1, 0, 0, .null) := by decide +kernel
theorem i_60_24 : aIns 60 24 = some (.sipush 400, 3, 0, 0, .int (400)) := by decide +kernel
theorem i_60_27 : aIns 60 27 = some (.if_icmp .ge 32, 3, 0, 0, .null) := by decide +kernel
theorem i_60_30 : aIns 60 30 = some (.aload_n 0, 1, 0, 0, .null) := by decide +kernel
theorem i_60_31 : aIns 60 31 = some (.getfield 9, 3, 6, 0, .null) := by decide +kernel
theorem i_60_34 : aIns 60 34 = some (.getfield 31, 3, 8, 3, .null) := by decide +kernel
theorem i_60_37 : aIns 60 37 = some (.bipush 23, 2, 0, 0, .int (23)) := by decide +kernel
theorem i_60_39 : aIns 60 39 = some (.if_icmp .ne 20, 3, 0, 0, .null) := by decide +kernel
theorem i_60_42 : aIns 60 42 = some (.aload_n 0, 1, 0, 0, .null) := by decide +kernel
theorem i_60_43 : aIns 60 43 = some (.getfield 9, 3, 6, 0, .null) := by decide +kernel
theorem i_60_46 : aIns 60 46 = some (.invokevirtual 34, 3, 84, 0, .int 8) := by decide +kernel
theorem i_60_49 : aIns 60 49 = some (.aload_n 0, 1, 0, 0, .null) := by decide +kernel
theorem i_60_50 : aIns 60 50 = some (.invokevirtual 28, 3, 61, 0, .int 6) := by decide +kernel
theorem i_60_53 : aIns 60 53 = some (.iinc 2 1, 3, 0, 0, .null) := by decide +kernel
theorem i_60_56 : aIns 60 56 = some (.goto (-33), 3, 0, 0, .null) := by decide +kernel
theorem i_60_59 : aIns 60 59 = some (.aload_n 0, 1, 0, 0, .null) := by decide +kernel
theorem i_60_60 : aIns 60 60 = some (.getfield 9, 3, 6, 0, .null) := by decide +kernel
theorem i_60_63 : aIns 60 63 = some (.getfield 31, 3, 8, 3, .null) := by decide +kernel
theorem i_60_66 : aIns 60 66 = some (.bipush 21, 2, 0, 0, .int (21)) := by decide +kernel
theorem i_60_68 : aIns 60 68 = some (.if_icmp .eq 11, 3, 0, 0, .null) := by decide +kernel
theorem i_60_71 : aIns 60 71 = some (.aload_n 0, 1, 0, 0, .null) := by decide +kernel
theorem i_60_72 : aIns 60 72 = some (.getfield 9, 3, 6, 0, .null) := by decide +kernel
theorem i_60_75 : aIns 60 75 = some (.iconst 0, 1, 0, 0, .int (0)) := by decide +kernel
theorem i_60_76 : aIns 60 76 = some (.invokevirtual 37, 3, 83, 1, .int 8) := by decide +kernel
theorem i_60_79 : aIns 60 79 = some (.aload_n 0, 1, 0, 0, .null) := by decide +kernel
theorem i_60_80 : aIns 60 80 = some (.getfield 15, 3, 6, 1, .null) := by decide +kernel
theorem i_60_83 : aIns 60 83 = some (.iconst 1, 1, 0, 0, .int (1)) := by decide +kernel
theorem i_60_84 : aIns 60 84 = some (.putfield 41, 3, 5, 0, .null) := by decide +kernel
theorem i_60_87 : aIns 60 87 = some (.aload_n 0, 1, 0, 0, .null) := by decide +kernel
theorem i_60_88 : aIns 60 88 = some (.getfield 9, 3, 6, 0, .null) := by decide +kernel
theorem i_60_91 : aIns 60 91 = some (.getfield 47, 3, 8, 6, .null) := by decide +kernel
theorem i_60_94 : aIns 60 94 = some (.ireturn, 1, 0, 0, .null) := by decide +kernel
theorem i_61_0 : aIns 61 0 = some (.aload_n 0, 1, 0, 0, .null) := by decide +kernel
theorem i_61_1 : aIns 61 1 = some (.getfield 9, 3, 6, 0, .null) := by decide +kernel
theorem i_61_4 : aIns 61 4 = some (.getfield 31, 3, 8, 3, .null) := by decide +kernel
theorem i_61_7 : aIns 61 7 = some (.istore_n 1, 1, 0, 0, .null) := by decide +kernel
theorem i_61_8 : aIns 61 8 = some (.iload_n 1, 1, 0, 0, .null) := by decide +kernel
theorem i_61_9 : aIns 61 9 = some (.ifCond .eq 28, 3, 0, 0, .null) := by decide +kernel
theorem i_61_12 : aIns 61 12 = some (.iload_n 1, 1, 0, 0, .null) := by decide +kernel
theorem i_61_13 : aIns 61 13 = some (.iconst 2, 1, 0, 0, .int (2)) := by decide +kernel
theorem i_61_14 : aIns 61 14 = some (.if_icmp .eq 23, 3, 0, 0, .null) := by decide +kernel
theorem i_61_17 : aIns 61 17 = some (.iload_n 1, 1, 0, 0, .null) := by decide +kernel
theorem i_61_18 : aIns 61 18 = some (.bipush 8, 2, 0, 0, .int (8)) := by decide +kernel
theorem i_61_20 : aIns 61 20 = some (.bipush 14, 2, 0, 0, .int (14)) := by decide +kernel
theorem i_61_22 : aIns 61 22 = some (.invokestatic 50, 3, 138, 3, .null) := by decide +kernel
theorem i_61_25 : aIns 61 25 = some (.ifCond .ne 12, 3, 0, 0, .null) := by decide +kernel
theorem i_61_28 : aIns 61 28 = some (.aload_n 0, 1, 0, 0, .null) := by decide +kernel
theorem i_61_29 : aIns 61 29 = some (.getfield 9, 3, 6, 0, .null) := by decide +kernel
theorem i_61_32 : aIns 61 32 = some (.iconst 0, 1, 0, 0, .int (0)) := by decide +kernel
theorem i_61_33 : aIns 61 33 = some (.invokevirtual 37, 3, 83, 1, .int 8) := by decide +kernel
theorem i_61_36 : aIns 61 36 = some (.return_, 1, 0, 0, .null) := by decide +kernel
theorem i_61_37 : aIns 61 37 = some (.aload_n 0, 1, 0, 0, .null) := by decide +kernel
theorem i_61_38 : aIns 61 38 = some (.iload_n 1, 1, 0, 0, .null) := by decide +kernel
theorem i_61_39 : aIns 61 39 = some (.invokevirtual 54, 3, 62, 1, .int 6) := by decide +kernel
theorem i_61_42 : aIns 61 42 = some (.ifCond .eq 12, 3, 0, 0, .null) := by decide +kernel
theorem i_61_45 : aIns 61 45 = some (.aload_n 0, 1, 0, 0, .null) := by decide +kernel
theorem i_61_46 : aIns 61 46 = some (.getfield 9, 3, 6, 0, .null) := by decide +kernel
theorem i_61_49 : aIns 61 49 = some (.iconst 4, 1, 0, 0, .int (4)) := by decide +kernel
theorem i_61_50 : aIns 61 50 = some (.invokevirtual 37, 3, 83, 1, .int 8) := by decide +kernel
theorem i_61_53 : aIns 61 53 = some (.return_, 1, 0, 0, .null) := by decide +kernel
theorem i_61_54 : aIns 61 54 = some (.aload_n 0, 1, 0, 0, .null) := by decide +kernel
theorem i_61_55 : aIns 61 55 = some (.dup, 1, 0, 0, .null) := by decide +kernel
theorem i_61_56 : aIns 61 56 = some (.getfield 19, 3, 6, 2, .null) := by decide +kernel
theorem i_61_59 : aIns 61 59 = some (.iconst 1, 1, 0, 0, .int (1)) := by decide +kernel
theorem i_61_60 : aIns 61 60 = some (.iadd, 1, 0, 0, .null) := by decide +kernel
theorem i_61_61 : aIns 61 61 = some (.putfield 19, 3, 6, 2, .null) := by decide +kernel
theorem i_61_64 : aIns 61 64 = some (.aload_n 0, 1, 0, 0, .null) := by decide +kernel
theorem i_61_65 : aIns 61 65 = some (.getfield 9, 3, 6, 0, .null) := by decide +kernel
theorem i_61_68 : aIns 61 68 = some (.invokevirtual 34, 3, 84, 0, .int 8) := by decide +kernel
theorem i_61_71 : aIns 61 71 = some (.iload_n 1, 1, 0, 0, .null) := by decide +kernel
theorem i_61_72 : aIns 61 72 = some (.tableswitch 122 0 14 #[83, 122, 97, 122, 122, 122, 122, 122, 76, 90, 122, 122, 122, 104, 111], 76, 0, 0, .null) := by decide +kernel
theorem i_61_148 : aIns 61 148 = some (.aload_n 0, 1, 0, 0, .null) := by decide +kernel
theorem i_61_149 : aIns 61 149 = some (.invokevirtual 58, 3, 63, 0, .int 6) := by decide +kernel
theorem i_61_152 : aIns 61 152 = some (.goto 47, 3, 0, 0, .null) := by decide +kernel
theorem i_61_155 : aIns 61 155 = some (.aload_n 0, 1, 0, 0, .null) := by decide +kernel
theorem i_61_156 : aIns 61 156 = some (.invokevirtual 61, 3, 64, 0, .int 6) := by decide +kernel
theorem i_61_159 : aIns 61 159 = some (.goto 40, 3, 0, 0, .null) := by decide +kernel
theorem i_61_162 : aIns 61 162 = some (.aload_n 0, 1, 0, 0, .null) := by decide +kernel
theorem i_61_163 : aIns 61 163 = some (.invokevirtual 64, 3, 65, 0, .int 6) := by decide +kernel
theorem i_61_166 : aIns 61 166 = some (.goto 33, 3, 0, 0, .null) := by decide +kernel
theorem i_61_169 : aIns 61 169 = some (.aload_n 0, 1, 0, 0, .null) := by decide +kernel
theorem i_61_170 : aIns 61 170 = some (.invokevirtual 67, 3, 66, 0, .int 6) := by decide +kernel
theorem i_61_173 : aIns 61 173 = some (.goto 26, 3, 0, 0, .null) := by decide +kernel
theorem i_61_176 : aIns 61 176 = some (.aload_n 0, 1, 0, 0, .null) := by decide +kernel
theorem i_61_177 : aIns 61 177 = some (.invokevirtual 70, 3, 68, 0, .int 6) := by decide +kernel
theorem i_61_180 : aIns 61 180 = some (.goto 19, 3, 0, 0, .null) := by decide +kernel
theorem i_61_183 : aIns 61 183 = some (.aload_n 0, 1, 0, 0, .null) := by decide +kernel
theorem i_61_184 : aIns 61 184 = some (.getfield 15, 3, 6, 1, .null) := by decide +kernel
theorem i_61_187 : aIns 61 187 = some (.iconst 1, 1, 0, 0, .int (1)) := by decide +kernel
theorem i_61_188 : aIns 61 188 = some (.putfield 73, 3, 5, 3, .null) := by decide +kernel
theorem i_61_191 : aIns 61 191 = some (.goto 8, 3, 0, 0, .null) := by decide +kernel
theorem i_61_194 : aIns 61 194 = some (.aload_n 0, 1, 0, 0, .null) := by decide +kernel
theorem i_61_195 : aIns 61 195 = some (.iload_n 1, 1, 0, 0, .null) := by decide +kernel
theorem i_61_196 : aIns 61 196 = some (.invokevirtual 76, 3, 67, 1, .int 6) := by decide +kernel
theorem i_61_199 : aIns 61 199 = some (.return_, 1, 0, 0, .null) := by decide +kernel
theorem i_62_0 : aIns 62 0 = some (.aload_n 0, 1, 0, 0, .null) := by decide +kernel
theorem i_62_1 : aIns 62 1 = some (.getfield 19, 3, 6, 2, .null) := by decide +kernel
theorem i_62_4 : aIns 62 4 = some (.bipush 40, 2, 0, 0, .int (40)) := by decide +kernel
theorem i_62_6 : aIns 62 6 = some (.if_icmp .ge 29, 3, 0, 0, .null) := by decide +kernel
theorem i_62_9 : aIns 62 9 = some (.iload_n 1, 1, 0, 0, .null) := by decide +kernel
theorem i_62_10 : aIns 62 10 = some (.bipush 8, 2, 0, 0, .int (8)) := by decide +kernel
theorem i_62_12 : aIns 62 12 = some (.if_icmp .ne 7, 3, 0, 0, .null) := by decide +kernel
theorem i_62_15 : aIns 62 15 = some (.iconst 1, 1, 0, 0, .int (1)) := by decide +kernel
theorem i_62_16 : aIns 62 16 = some (.goto 4, 3, 0, 0, .null) := by decide +kernel
theorem i_62_19 : aIns 62 19 = some (.iconst 0, 1, 0, 0, .int (0)) := by decide +kernel
theorem i_62_20 : aIns 62 20 = some (.aload_n 0, 1, 0, 0, .null) := by decide +kernel
theorem i_62_21 : aIns 62 21 = some (.getfield 19, 3, 6, 2, .null) := by decide +kernel
theorem i_62_24 : aIns 62 24 = some (.ifCond .ne 7, 3, 0, 0, .null) := by decide +kernel
theorem i_62_27 : aIns 62 27 = some (.iconst 1, 1, 0, 0, .int (1)) := by decide +kernel
theorem i_62_28 : aIns 62 28 = some (.goto 4, 3, 0, 0, .null) := by decide +kernel
theorem i_62_31 : aIns 62 31 = some (.iconst 0, 1, 0, 0, .int (0)) := by decide +kernel
theorem i_62_32 : aIns 62 32 = some (.if_icmp .eq 5, 3, 0, 0, .null) := by decide +kernel
theorem i_62_35 : aIns 62 35 = some (.iconst 1, 1, 0, 0, .int (1)) := by decide +kernel
theorem i_62_36 : aIns 62 36 = some (.ireturn, 1, 1, 0, .null) := by decide +kernel
theorem i_62_37 : aIns 62 37 = some (.iload_n 1, 1, 0, 0, .null) := by decide +kernel
theorem i_62_38 : aIns 62 38 = some (.tableswitch 186 0 14 #[74, 186, 110, 186, 186, 186, 186, 186, 186, 92, 127, 144, 161, 186, 178], 74, 0, 0, .null) := by decide +kernel
theorem i_62_112 : aIns 62 112 = some (.aload_n 0, 1, 0, 0, .null) := by decide +kernel
theorem i_62_113 : aIns 62 113 = some (.getfield 15, 3, 6, 1, .null) := by decide +kernel
theorem i_62_116 : aIns 62 116 = some (.getfield 79, 3, 5, 4, .null) := by decide +kernel
theorem i_62_119 : aIns 62 119 = some (.bipush 8, 2, 0, 0, .int (8)) := by decide +kernel
theorem i_62_121 : aIns 62 121 = some (.if_icmp .lt 7, 3, 0, 0, .null) := by decide +kernel
theorem i_62_124 : aIns 62 124 = some (.iconst 1, 1, 0, 0, .int (1)) := by decide +kernel
theorem i_62_125 : aIns 62 125 = some (.goto 4, 3, 0, 0, .null) := by decide +kernel
theorem i_62_128 : aIns 62 128 = some (.iconst 0, 1, 0, 0, .int (0)) := by decide +kernel
theorem i_62_129 : aIns 62 129 = some (.ireturn, 1, 1, 0, .null) := by decide +kernel
theorem i_62_130 : aIns 62 130 = some (.aload_n 0, 1, 0, 0, .null) := by decide +kernel
theorem i_62_131 : aIns 62 131 = some (.getfield 15, 3, 6, 1, .null) := by decide +kernel
theorem i_62_134 : aIns 62 134 = some (.getfield 82, 3, 5, 8, .null) := by decide +kernel
theorem i_62_137 : aIns 62 137 = some (.bipush 6, 2, 0, 0, .int (6)) := by decide +kernel
theorem i_62_139 : aIns 62 139 = some (.if_icmp .lt 7, 3, 0, 0, .null) := by decide +kernel
theorem i_62_142 : aIns 62 142 = some (.iconst 1, 1, 0, 0, .int (1)) := by decide +kernel
theorem i_62_143 : aIns 62 143 = some (.goto 4, 3, 0, 0, .null) := by decide +kernel
theorem i_62_146 : aIns 62 146 = some (.iconst 0, 1, 0, 0, .int (0)) := by decide +kernel
theorem i_62_147 : aIns 62 147 = some (.ireturn, 1, 1, 0, .null) := by decide +kernel
theorem i_62_148 : aIns 62 148 = some (.aload_n 0, 1, 0, 0, .null) := by decide +kernel
theorem i_62_149 : aIns 62 149 = some (.getfield 15, 3, 6, 1, .null) := by decide +kernel
theorem i_62_152 : aIns 62 152 = some (.getfield 85, 3, 5, 11, .null) := by decide +kernel
theorem i_62_155 : aIns 62 155 = some (.iconst 4, 1, 0, 0, .int (4)) := by decide +kernel
theorem i_62_156 : aIns 62 156 = some (.if_icmp .lt 7, 3, 0, 0, .null) := by decide +kernel
theorem i_62_159 : aIns 62 159 = some (.iconst 1, 1, 0, 0, .int (1)) := by decide +kernel
theorem i_62_160 : aIns 62 160 = some (.goto 4, 3, 0, 0, .null) := by decide +kernel
theorem i_62_163 : aIns 62 163 = some (.iconst 0, 1, 0, 0, .int (0)) := by decide +kernel
theorem i_62_164 : aIns 62 164 = some (.ireturn, 1, 1, 0, .null) := by decide +kernel
theorem i_62_165 : aIns 62 165 = some (.aload_n 0, 1, 0, 0, .null) := by decide +kernel
theorem i_62_166 : aIns 62 166 = some (.getfield 15, 3, 6, 1, .null) := by decide +kernel
theorem i_62_169 : aIns 62 169 = some (.getfield 88, 3, 5, 15, .null) := by decide +kernel
theorem i_62_172 : aIns 62 172 = some (.iconst 5, 1, 0, 0, .int (5)) := by decide +kernel
theorem i_62_173 : aIns 62 173 = some (.if_icmp .lt 7, 3, 0, 0, .null) := by decide +kernel
theorem i_62_176 : aIns 62 176 = some (.iconst 1, 1, 0, 0, .int (1)) := by decide +kernel
theorem i_62_177 : aIns 62 177 = some (.goto 4, 3, 0, 0, .null) := by decide +kernel
theorem i_62_180 : aIns 62 180 = some (.iconst 0, 1, 0, 0, .int (0)) := by decide +kernel
theorem i_62_181 : aIns 62 181 = some (.ireturn, 1, 1, 0, .null) := by decide +kernel
theorem i_62_182 : aIns 62 182 = some (.aload_n 0, 1, 0, 0, .null) := by decide +kernel
theorem i_62_183 : aIns 62 183 = some (.getfield 15, 3, 6, 1, .null) := by decide +kernel
theorem i_62_186 : aIns 62 186 = some (.getfield 88, 3, 5, 15, .null) := by decide +kernel
theorem i_62_189 : aIns 62 189 = some (.iconst 5, 1, 0, 0, .int (5)) := by decide +kernel
theorem i_62_190 : aIns 62 190 = some (.if_icmp .lt 7, 3, 0, 0, .null) := by decide +kernel
theorem i_62_193 : aIns 62 193 = some (.iconst 1, 1, 0, 0, .int (1)) := by decide +kernel
theorem i_62_194 : aIns 62 194 = some (.goto 4, 3, 0, 0, .null) := by decide +kernel
theorem i_62_197 : aIns 62 197 = some (.iconst 0, 1, 0, 0, .int (0)) := by decide +kernel
theorem i_62_198 : aIns 62 198 = some (.ireturn, 1, 1, 0, .null) := by decide +kernel
theorem i_62_199 : aIns 62 199 = some (.aload_n 0, 1, 0, 0, .null) := by decide +kernel
theorem i_62_200 : aIns 62 200 = some (.getfield 15, 3, 6, 1, .null) := by decide +kernel
theorem i_62_203 : aIns 62 203 = some (.getfield 88, 3, 5, 15, .null) := by decide +kernel
theorem i_62_206 : aIns 62 206 = some (.iconst 5, 1, 0, 0, .int (5)) := by decide +kernel
theorem i_62_207 : aIns 62 207 = some (.if_icmp .lt 7, 3, 0, 0, .null) := by decide +kernel
theorem i_62_210 : aIns 62 210 = some (.iconst 1, 1, 0, 0, .int (1)) := by decide +kernel
theorem i_62_211 : aIns 62 211 = some (.goto 4, 3, 0, 0, .null) := by decide +kernel
theorem i_62_214 : aIns 62 214 = some (.iconst 0, 1, 0, 0, .int (0)) := by decide +kernel
theorem i_62_215 : aIns 62 215 = some (.ireturn, 1, 1, 0, .null) := by decide +kernel
theorem i_62_216 : aIns 62 216 = some (.aload_n 0, 1, 0, 0, .null) := by decide +kernel
theorem i_62_217 : aIns 62 217 = some (.getfield 15, 3, 6, 1, .null) := by decide +kernel
theorem i_62_220 : aIns 62 220 = some (.getfield 73, 3, 5, 3, .null) := by decide +kernel
theorem i_62_223 : aIns 62 223 = some (.ireturn, 1, 1, 0, .null) := by decide +kernel
theorem i_62_224 : aIns 62 224 = some (.iconst 0, 1, 0, 0, .int (0)) := by decide +kernel
theorem i_62_225 : aIns 62 225 = some (.ireturn, 1, 1, 0, .null) := by decide +kernel
theorem i_63_0 : aIns 63 0 = some (.aload_n 0, 1, 0, 0, .null) := by decide +kernel
theorem i_63_1 : aIns 63 1 = some (.getfield 15, 3, 6, 1, .null) := by decide +kernel
theorem i_63_4 : aIns 63 4 = some (.aload_n 0, 1, 0, 0, .null) := by decide +kernel
theorem i_63_5 : aIns 63 5 = some (.iconst 0, 1, 0, 0, .int (0)) := by decide +kernel
theorem i_63_6 : aIns 63 6 = some (.sipush 999, 3, 0, 0, .int (999)) := by decide +kernel
theorem i_63_9 : aIns 63 9 = some (.invokevirtual 91, 3, 69, 2, .int 6) := by decide +kernel
theorem i_63_12 : aIns 63 12 = some (.putfield 95, 3, 5, 1, .null) := by decide +kernel
theorem i_63_15 : aIns 63 15 = some (.aload_n 0, 1, 0, 0, .null) := by decide +kernel
theorem i_63_16 : aIns 63 16 = some (.getfield 15, 3, 6, 1, .null) := by decide +kernel
theorem i_63_19 : aIns 63 19 = some (.aload_n 0, 1, 0, 0, .null) := by decide +kernel
theorem i_63_20 : aIns 63 20 = some (.iconst 0, 1, 0, 0, .int (0)) := by decide +kernel
theorem i_63_21 : aIns 63 21 = some (.sipush 9999, 3, 0, 0, .int (9999)) := by decide +kernel
theorem i_63_24 : aIns 63 24 = some (.invokevirtual 91, 3, 69, 2, .int 6) := by decide +kernel
theorem i_63_27 : aIns 63 27 = some (.putfield 98, 3, 5, 2, .null) := by decide +kernel
theorem i_63_30 : aIns 63 30 = some (.return_, 1, 0, 0, .null) := by decide +kernel
theorem i_64_0 : aIns 64 0 = some (.aload_n 0, 1, 0, 0, .null) := by decide +kernel
theorem i_64_1 : aIns 64 1 = some (.getfield 15, 3, 6, 1, .null) := by decide +kernel
theorem i_64_4 : aIns 64 4 = some (.getfield 79, 3, 5, 4, .null) := by decide +kernel
theorem i_64_7 : aIns 64 7 = some (.istore_n 1, 1, 0, 0, .null) := by decide +kernel
theorem i_64_8 : aIns 64 8 = some (.aload_n 0, 1, 0, 0, .null) := by decide +kernel
theorem i_64_9 : aIns 64 9 = some (.getfield 15, 3, 6, 1, .null) := by decide +kernel
theorem i_64_12 : aIns 64 12 = some (.getfield 101, 3, 5, 5, .null) := by decide +kernel
theorem i_64_15 : aIns 64 15 = some (.iload_n 1, 1, 0, 0, .null) := by decide +kernel
theorem i_64_16 : aIns 64 16 = some (.aload_n 0, 1, 0, 0, .null) := by decide +kernel
theorem i_64_17 : aIns 64 17 = some (.iconst 1, 1, 0, 0, .int (1)) := by decide +kernel
theorem i_64_18 : aIns 64 18 = some (.sipush 5000, 3, 0, 0, .int (5000)) := by decide +kernel
theorem i_64_21 : aIns 64 21 = some (.invokevirtual 91, 3, 69, 2, .int 6) := by decide +kernel
theorem i_64_24 : aIns 64 24 = some (.iastore, 1, 0, 0, .null) := by decide +kernel
theorem i_64_25 : aIns 64 25 = some (.aload_n 0, 1, 0, 0, .null) := by decide +kernel
theorem i_64_26 : aIns 64 26 = some (.getfield 15, 3, 6, 1, .null) := by decide +kernel
theorem i_64_29 : aIns 64 29 = some (.getfield 105, 3, 5, 6, .null) := by decide +kernel
theorem i_64_32 : aIns 64 32 = some (.iload_n 1, 1, 0, 0, .null) := by decide +kernel
theorem i_64_33 : aIns 64 33 = some (.aload_n 0, 1, 0, 0, .null) := by decide +kernel
theorem i_64_34 : aIns 64 34 = some (.iconst 0, 1, 0, 0, .int (0)) := by decide +kernel
theorem i_64_35 : aIns 64 35 = some (.sipush 5000, 3, 0, 0, .int (5000)) := by decide +kernel
theorem i_64_38 : aIns 64 38 = some (.invokevirtual 91, 3, 69, 2, .int 6) := by decide +kernel
theorem i_64_41 : aIns 64 41 = some (.iastore, 1, 0, 0, .null) := by decide +kernel
theorem i_64_42 : aIns 64 42 = some (.aload_n 0, 1, 0, 0, .null) := by decide +kernel
theorem i_64_43 : aIns 64 43 = some (.getfield 15, 3, 6, 1, .null) := by decide +kernel
theorem i_64_46 : aIns 64 46 = some (.getfield 108, 3, 5, 7, .null) := by decide +kernel
theorem i_64_49 : aIns 64 49 = some (.iload_n 1, 1, 0, 0, .null) := by decide +kernel
theorem i_64_50 : aIns 64 50 = some (.aload_n 0, 1, 0, 0, .null) := by decide +kernel
theorem i_64_51 : aIns 64 51 = some (.iconst 0, 1, 0, 0, .int (0)) := by decide +kernel
theorem i_64_52 : aIns 64 52 = some (.bipush 9, 2, 0, 0, .int (9)) := by decide +kernel
theorem i_64_54 : aIns 64 54 = some (.invokevirtual 91, 3, 69, 2, .int 6) := by decide +kernel
theorem i_64_57 : aIns 64 57 = some (.iastore, 1, 0, 0, .null) := by decide +kernel
theorem i_64_58 : aIns 64 58 = some (.aload_n 0, 1, 0, 0, .null) := by decide +kernel
theorem i_64_59 : aIns 64 59 = some (.getfield 15, 3, 6, 1, .null) := by decide +kernel
theorem i_64_62 : aIns 64 62 = some (.dup, 1, 0, 0, .null) := by decide +kernel
theorem i_64_63 : aIns 64 63 = some (.getfield 79, 3, 5, 4, .null) := by decide +kernel
theorem i_64_66 : aIns 64 66 = some (.iconst 1, 1, 0, 0, .int (1)) := by decide +kernel
theorem i_64_67 : aIns 64 67 = some (.iadd, 1, 0, 0, .null) := by decide +kernel
theorem i_64_68 : aIns 64 68 = some (.putfield 79, 3, 5, 4, .null) := by decide +kernel
theorem i_64_71 : aIns 64 71 = some (.return_, 1, 0, 0, .null) := by decide +kernel
theorem i_65_0 : aIns 65 0 = some (.aload_n 0, 1, 0, 0, .null) := by decide +kernel
theorem i_65_1 : aIns 65 1 = some (.getfield 15, 3, 6, 1, .null) := by decide +kernel
theorem i_65_4 : aIns 65 4 = some (.getfield 82, 3, 5, 8, .null) := by decide +kernel
theorem i_65_7 : aIns 65 7 = some (.istore_n 1, 1, 0, 0, .null) := by decide +kernel
theorem i_65_8 : aIns 65 8 = some (.aload_n 0, 1, 0, 0, .null) := by decide +kernel
theorem i_65_9 : aIns 65 9 = some (.getfield 15, 3, 6, 1, .null) := by decide +kernel
theorem i_65_12 : aIns 65 12 = some (.getfield 111, 3, 5, 9, .null) := by decide +kernel
theorem i_65_15 : aIns 65 15 = some (.iload_n 1, 1, 0, 0, .null) := by decide +kernel
theorem i_65_16 : aIns 65 16 = some (.aload_n 0, 1, 0, 0, .null) := by decide +kernel
theorem i_65_17 : aIns 65 17 = some (.iconst 0, 1, 0, 0, .int (0)) := by decide +kernel
theorem i_65_18 : aIns 65 18 = some (.aload_n 0, 1, 0, 0, .null) := by decide +kernel
theorem i_65_19 : aIns 65 19 = some (.getfield 15, 3, 6, 1, .null) := by decide +kernel
theorem i_65_22 : aIns 65 22 = some (.getfield 79, 3, 5, 4, .null) := by decide +kernel
theorem i_65_25 : aIns 65 25 = some (.iconst 1, 1, 0, 0, .int (1)) := by decide +kernel
theorem i_65_26 : aIns 65 26 = some (.isub, 1, 0, 0, .null) := by decide +kernel
theorem i_65_27 : aIns 65 27 = some (.invokevirtual 91, 3, 69, 2, .int 6) := by decide +kernel
theorem i_65_30 : aIns 65 30 = some (.iastore, 1, 0, 0, .null) := by decide +kernel
theorem i_65_31 : aIns 65 31 = some (.aload_n 0, 1, 0, 0, .null) := by decide +kernel
theorem i_65_32 : aIns 65 32 = some (.getfield 15, 3, 6, 1, .null) := by decide +kernel
theorem i_65_35 : aIns 65 35 = some (.getfield 114, 3, 5, 10, .null) := by decide +kernel
theorem i_65_38 : aIns 65 38 = some (.iload_n 1, 1, 0, 0, .null) := by decide +kernel
theorem i_65_39 : aIns 65 39 = some (.aload_n 0, 1, 0, 0, .null) := by decide +kernel
theorem i_65_40 : aIns 65 40 = some (.iconst 0, 1, 0, 0, .int (0)) := by decide +kernel
theorem i_65_41 : aIns 65 41 = some (.bipush 30, 2, 0, 0, .int (30)) := by decide +kernel
theorem i_65_43 : aIns 65 43 = some (.invokevirtual 91, 3, 69, 2, .int 6) := by decide +kernel
theorem i_65_46 : aIns 65 46 = some (.iastore, 1, 0, 0, .null) := by decide +kernel
theorem i_65_47 : aIns 65 47 = some (.aload_n 0, 1, 0, 0, .null) := by decide +kernel
theorem i_65_48 : aIns 65 48 = some (.getfield 15, 3, 6, 1, .null) := by decide +kernel
theorem i_65_51 : aIns 65 51 = some (.dup, 1, 0, 0, .null) := by decide +kernel
theorem i_65_52 : aIns 65 52 = some (.getfield 82, 3, 5, 8, .null) := by decide +kernel
theorem i_65_55 : aIns 65 55 = some (.iconst 1, 1, 0, 0, .int (1)) := by decide +kernel
theorem i_65_56 : aIns 65 56 = some (.iadd, 1, 0, 0, .null) := by decide +kernel
theorem i_65_57 : aIns 65 57 = some (.putfield 82, 3, 5, 8, .null) := by decide +kernel
theorem i_65_60 : aIns 65 60 = some (.return_, 1, 0, 0, .null) := by decide +kernel
theorem i_66_0 : aIns 66 0 = some (.aload_n 0, 1, 0, 0, .null) := by decide +kernel
theorem i_66_1 : aIns 66 1 = some (.getfield 15, 3, 6, 1, .null) := by decide +kernel
theorem i_66_4 : aIns 66 4 = some (.getfield 85, 3, 5, 11, .null) := by decide +kernel
theorem i_66_7 : aIns 66 7 = some (.istore_n 1, 1, 0, 0, .null) := by decide +kernel
theorem i_66_8 : aIns 66 8 = some (.aload_n 0, 1, 0, 0, .null) := by decide +kernel
theorem i_66_9 : aIns 66 9 = some (.getfield 15, 3, 6, 1, .null) := by decide +kernel
theorem i_66_12 : aIns 66 12 = some (.getfield 117, 3, 5, 12, .null) := by decide +kernel
theorem i_66_15 : aIns 66 15 = some (.iload_n 1, 1, 0, 0, .null) := by decide +kernel
theorem i_66_16 : aIns 66 16 = some (.aload_n 0, 1, 0, 0, .null) := by decide +kernel
theorem i_66_17 : aIns 66 17 = some (.iconst 0, 1, 0, 0, .int (0)) := by decide +kernel
theorem i_66_18 : aIns 66 18 = some (.bipush 99, 2, 0, 0, .int (99)) := by decide +kernel
theorem i_66_20 : aIns 66 20 = some (.invokevirtual 91, 3, 69, 2, .int 6) := by decide +kernel
theorem i_66_23 : aIns 66 23 = some (.iastore, 1, 0, 0, .null) := by decide +kernel
theorem i_66_24 : aIns 66 24 = some (.aload_n 0, 1, 0, 0, .null) := by decide +kernel
theorem i_66_25 : aIns 66 25 = some (.getfield 15, 3, 6, 1, .null) := by decide +kernel
theorem i_66_28 : aIns 66 28 = some (.getfield 120, 3, 5, 13, .null) := by decide +kernel
theorem i_66_31 : aIns 66 31 = some (.iload_n 1, 1, 0, 0, .null) := by decide +kernel
theorem i_66_32 : aIns 66 32 = some (.aload_n 0, 1, 0, 0, .null) := by decide +kernel
theorem i_66_33 : aIns 66 33 = some (.aload_n 0, 1, 0, 0, .null) := by decide +kernel
theorem i_66_34 : aIns 66 34 = some (.getfield 15, 3, 6, 1, .null) := by decide +kernel
theorem i_66_37 : aIns 66 37 = some (.getfield 117, 3, 5, 12, .null) := by decide +kernel
theorem i_66_40 : aIns 66 40 = some (.iload_n 1, 1, 0, 0, .null) := by decide +kernel
theorem i_66_41 : aIns 66 41 = some (.iaload, 1, 0, 0, .null) := by decide +kernel
theorem i_66_42 : aIns 66 42 = some (.bipush 99, 2, 0, 0, .int (99)) := by decide +kernel
theorem i_66_44 : aIns 66 44 = some (.invokevirtual 91, 3, 69, 2, .int 6) := by decide +kernel
theorem i_66_47 : aIns 66 47 = some (.iastore, 1, 0, 0, .null) := by decide +kernel
theorem i_66_48 : aIns 66 48 = some (.aload_n 0, 1, 0, 0, .null) := by decide +kernel
theorem i_66_49 : aIns 66 49 = some (.getfield 15, 3, 6, 1, .null) := by decide +kernel
theorem i_66_52 : aIns 66 52 = some (.getfield 123, 3, 5, 14, .null) := by decide +kernel
theorem i_66_55 : aIns 66 55 = some (.iload_n 1, 1, 0, 0, .null) := by decide +kernel
theorem i_66_56 : aIns 66 56 = some (.aload_n 0, 1, 0, 0, .null) := by decide +kernel
theorem i_66_57 : aIns 66 57 = some (.iconst 1, 1, 0, 0, .int (1)) := by decide +kernel
theorem i_66_58 : aIns 66 58 = some (.bipush 90, 2, 0, 0, .int (90)) := by decide +kernel
theorem i_66_60 : aIns 66 60 = some (.invokevirtual 91, 3, 69, 2, .int 6) := by decide +kernel
theorem i_66_63 : aIns 66 63 = some (.iastore, 1, 0, 0, .null) := by decide +kernel
theorem i_66_64 : aIns 66 64 = some (.aload_n 0, 1, 0, 0, .null) := by decide +kernel
theorem i_66_65 : aIns 66 65 = some (.getfield 15, 3, 6, 1, .null) := by decide +kernel
theorem i_66_68 : aIns 66 68 = some (.dup, 1, 0, 0, .null) := by decide +kernel
theorem i_66_69 : aIns 66 69 = some (.getfield 85, 3, 5, 11, .null) := by decide +kernel
theorem i_66_72 : aIns 66 72 = some (.iconst 1, 1, 0, 0, .int (1)) := by decide +kernel
theorem i_66_73 : aIns 66 73 = some (.iadd, 1, 0, 0, .null) := by decide +kernel
theorem i_66_74 : aIns 66 74 = some (.putfield 85, 3, 5, 11, .null) := by decide +kernel
theorem i_66_77 : aIns 66 77 = some (.return_, 1, 0, 0, .null) := by decide +kernel
theorem i_67_0 : aIns 67 0 = some (.aload_n 0, 1, 0, 0, .null) := by decide +kernel
theorem i_67_1 : aIns 67 1 = some (.getfield 15, 3, 6, 1, .null) := by decide +kernel
theorem i_67_4 : aIns 67 4 = some (.getfield 88, 3, 5, 15, .null) := by decide +kernel
theorem i_67_7 : aIns 67 7 = some (.istore_n 2, 1, 0, 0, .null) := by decide +kernel
theorem i_67_8 : aIns 67 8 = some (.aload_n 0, 1, 0, 0, .null) := by decide +kernel
theorem i_67_9 : aIns 67 9 = some (.getfield 15, 3, 6, 1, .null) := by decide +kernel
theorem i_67_12 : aIns 67 12 = some (.getfield 126, 3, 5, 16, .null) := by decide +kernel
theorem i_67_15 : aIns 67 15 = some (.iload_n 2, 1, 0, 0, .null) := by decide +kernel
theorem i_67_16 : aIns 67 16 = some (.iload_n 1, 1, 0, 0, .null) := by decide +kernel
theorem i_67_17 : aIns 67 17 = some (.iastore, 1, 0, 0, .null) := by decide +kernel
theorem i_67_18 : aIns 67 18 = some (.iload_n 1, 1, 0, 0, .null) := by decide +kernel
theorem i_67_19 : aIns 67 19 = some (.bipush 10, 2, 0, 0, .int (10)) := by decide +kernel
theorem i_67_21 : aIns 67 21 = some (.if_icmp .ne 22, 3, 0, 0, .null) := by decide +kernel
theorem i_67_24 : aIns 67 24 = some (.aload_n 0, 1, 0, 0, .null) := by decide +kernel
theorem i_67_25 : aIns 67 25 = some (.getfield 15, 3, 6, 1, .null) := by decide +kernel
theorem i_67_28 : aIns 67 28 = some (.getfield 129, 3, 5, 17, .null) := by decide +kernel
theorem i_67_31 : aIns 67 31 = some (.iload_n 2, 1, 0, 0, .null) := by decide +kernel
theorem i_67_32 : aIns 67 32 = some (.aload_n 0, 1, 0, 0, .null) := by decide +kernel
theorem i_67_33 : aIns 67 33 = some (.iconst 1, 1, 0, 0, .int (1)) := by decide +kernel
theorem i_67_34 : aIns 67 34 = some (.bipush 90, 2, 0, 0, .int (90)) := by decide +kernel
theorem i_67_36 : aIns 67 36 = some (.invokevirtual 91, 3, 69, 2, .int 6) := by decide +kernel
theorem i_67_39 : aIns 67 39 = some (.iastore, 1, 0, 0, .null) := by decide +kernel
theorem i_67_40 : aIns 67 40 = some (.goto 26, 3, 0, 0, .null) := by decide +kernel
theorem i_67_43 : aIns 67 43 = some (.iload_n 1, 1, 0, 0, .null) := by decide +kernel
theorem i_67_44 : aIns 67 44 = some (.bipush 11, 2, 0, 0, .int (11)) := by decide +kernel
theorem i_67_46 : aIns 67 46 = some (.if_icmp .ne 20, 3, 0, 0, .null) := by decide +kernel
theorem i_67_49 : aIns 67 49 = some (.aload_n 0, 1, 0, 0, .null) := by decide +kernel
theorem i_67_50 : aIns 67 50 = some (.getfield 15, 3, 6, 1, .null) := by decide +kernel
theorem i_67_53 : aIns 67 53 = some (.getfield 129, 3, 5, 17, .null) := by decide +kernel
theorem i_67_56 : aIns 67 56 = some (.iload_n 2, 1, 0, 0, .null) := by decide +kernel
theorem i_67_57 : aIns 67 57 = some (.aload_n 0, 1, 0, 0, .null) := by decide +kernel
theorem i_67_58 : aIns 67 58 = some (.iconst 1, 1, 0, 0, .int (1)) := by decide +kernel
theorem i_67_59 : aIns 67 59 = some (.sipush 2000, 3, 0, 0, .int (2000)) := by decide +kernel
theorem i_67_62 : aIns 67 62 = some (.invokevirtual 91, 3, 69, 2, .int 6) := by decide +kernel
theorem i_67_65 : aIns 67 65 = some (.iastore, 1, 0, 0, .null) := by decide +kernel
theorem i_67_66 : aIns 67 66 = some (.aload_n 0, 1, 0, 0, .null) := by decide +kernel
theorem i_67_67 : aIns 67 67 = some (.getfield 15, 3, 6, 1, .null) := by decide +kernel
theorem i_67_70 : aIns 67 70 = some (.getfield 132, 3, 5, 18, .null) := by decide +kernel
theorem i_67_73 : aIns 67 73 = some (.iload_n 2, 1, 0, 0, .null) := by decide +kernel
theorem i_67_74 : aIns 67 74 = some (.aload_n 0, 1, 0, 0, .null) := by decide +kernel
theorem i_67_75 : aIns 67 75 = some (.iconst 0, 1, 0, 0, .int (0)) := by decide +kernel
theorem i_67_76 : aIns 67 76 = some (.sipush 9999, 3, 0, 0, .int (9999)) := by decide +kernel
theorem i_67_79 : aIns 67 79 = some (.invokevirtual 91, 3, 69, 2, .int 6) := by decide +kernel
theorem i_67_82 : aIns 67 82 = some (.iastore, 1, 0, 0, .null) := by decide +kernel
theorem i_67_83 : aIns 67 83 = some (.aload_n 0, 1, 0, 0, .null) := by decide +kernel
theorem i_67_84 : aIns 67 84 = some (.getfield 15, 3, 6, 1, .null) := by decide +kernel
theorem i_67_87 : aIns 67 87 = some (.dup, 1, 0, 0, .null) := by decide +kernel
theorem i_67_88 : aIns 67 88 = some (.getfield 88, 3, 5, 15, .null) := by decide +kernel
theorem i_67_91 : aIns 67 91 = some (.iconst 1, 1, 0, 0, .int (1)) := by decide +kernel
theorem i_67_92 : aIns 67 92 = some (.iadd, 1, 0, 0, .null) := by decide +kernel
theorem i_67_93 : aIns 67 93 = some (.putfield 88, 3, 5, 15, .null) := by decide +kernel
theorem i_67_96 : aIns 67 96 = some (.return_, 1, 0, 0, .null) := by decide +kernel
theorem i_68_0 : aIns 68 0 = some (.aload_n 0, 1, 0, 0, .null) := by decide +kernel
theorem i_68_1 : aIns 68 1 = some (.iconst 0, 1, 0, 0, .int (0)) := by decide +kernel
theorem i_68_2 : aIns 68 2 = some (.aload_n 0, 1, 0, 0, .null) := by decide +kernel
theorem i_68_3 : aIns 68 3 = some (.getfield 15, 3, 6, 1, .null) := by decide +kernel
theorem i_68_6 : aIns 68 6 = some (.getfield 88, 3, 5, 15, .null) := by decide +kernel
theorem i_68_9 : aIns 68 9 = some (.iconst 1, 1, 0, 0, .int (1)) := by decide +kernel
theorem i_68_10 : aIns 68 10 = some (.isub, 1, 0, 0, .null) := by decide +kernel
theorem i_68_11 : aIns 68 11 = some (.invokevirtual 91, 3, 69, 2, .int 6) := by decide +kernel
theorem i_68_14 : aIns 68 14 = some (.istore_n 1, 1, 0, 0, .null) := by decide +kernel
theorem i_68_15 : aIns 68 15 = some (.aload_n 0, 1, 0, 0, .null) := by decide +kernel
theorem i_68_16 : aIns 68 16 = some (.getfield 9, 3, 6, 0, .null) := by decide +kernel
theorem i_68_19 : aIns 68 19 = some (.getfield 31, 3, 8, 3, .null) := by decide +kernel
theorem i_68_22 : aIns 68 22 = some (.bipush 20, 2, 0, 0, .int (20)) := by decide +kernel
theorem i_68_24 : aIns 68 24 = some (.if_icmp .ne 22, 3, 0, 0, .null) := by decide +kernel
theorem i_68_27 : aIns 68 27 = some (.aload_n 0, 1, 0, 0, .null) := by decide +kernel
theorem i_68_28 : aIns 68 28 = some (.getfield 9, 3, 6, 0, .null) := by decide +kernel
theorem i_68_31 : aIns 68 31 = some (.getfield 135, 3, 8, 5, .null) := by decide +kernel
theorem i_68_34 : aIns 68 34 = some (.iload_n 1, 1, 0, 0, .null) := by decide +kernel
theorem i_68_35 : aIns 68 35 = some (.if_icmp .ne 11, 3, 0, 0, .null) := by decide +kernel
theorem i_68_38 : aIns 68 38 = some (.aload_n 0, 1, 0, 0, .null) := by decide +kernel
theorem i_68_39 : aIns 68 39 = some (.getfield 9, 3, 6, 0, .null) := by decide +kernel
theorem i_68_42 : aIns 68 42 = some (.iconst 1, 1, 0, 0, .int (1)) := by decide +kernel
theorem i_68_43 : aIns 68 43 = some (.invokevirtual 37, 3, 83, 1, .int 8) := by decide +kernel
theorem i_68_46 : aIns 68 46 = some (.aload_n 0, 1, 0, 0, .null) := by decide +kernel
theorem i_68_47 : aIns 68 47 = some (.iconst 0, 1, 0, 0, .int (0)) := by decide +kernel
theorem i_68_48 : aIns 68 48 = some (.aload_n 0, 1, 0, 0, .null) := by decide +kernel
theorem i_68_49 : aIns 68 49 = some (.getfield 15, 3, 6, 1, .null) := by decide +kernel
theorem i_68_52 : aIns 68 52 = some (.getfield 88, 3, 5, 15, .null) := by decide +kernel
theorem i_68_55 : aIns 68 55 = some (.iconst 1, 1, 0, 0, .int (1)) := by decide +kernel
theorem i_68_56 : aIns 68 56 = some (.isub, 1, 0, 0, .null) := by decide +kernel
theorem i_68_57 : aIns 68 57 = some (.invokevirtual 91, 3, 69, 2, .int 6) := by decide +kernel
theorem i_68_60 : aIns 68 60 = some (.istore_n 2, 1, 0, 0, .null) := by decide +kernel
theorem i_68_61 : aIns 68 61 = some (.aload_n 0, 1, 0, 0, .null) := by decide +kernel
theorem i_68_62 : aIns 68 62 = some (.getfield 9, 3, 6, 0, .null) := by decide +kernel
theorem i_68_65 : aIns 68 65 = some (.getfield 47, 3, 8, 6, .null) := by decide +kernel
theorem i_68_68 : aIns 68 68 = some (.ifCond .ne 33, 3, 0, 0, .null) := by decide +kernel
theorem i_68_71 : aIns 68 71 = some (.aload_n 0, 1, 0, 0, .null) := by decide +kernel
theorem i_68_72 : aIns 68 72 = some (.getfield 15, 3, 6, 1, .null) := by decide +kernel
theorem i_68_75 : aIns 68 75 = some (.getfield 137, 3, 5, 19, .null) := by decide +kernel
theorem i_68_78 : aIns 68 78 = some (.iload_n 1, 1, 0, 0, .null) := by decide +kernel
theorem i_68_79 : aIns 68 79 = some (.dup2, 1, 0, 0, .null) := by decide +kernel
theorem i_68_80 : aIns 68 80 = some (.iaload, 1, 0, 0, .null) := by decide +kernel
theorem i_68_81 : aIns 68 81 = some (.iconst 1, 1, 0, 0, .int (1)) := by decide +kernel
theorem i_68_82 : aIns 68 82 = some (.iload_n 2, 1, 0, 0, .null) := by decide +kernel
theorem i_68_83 : aIns 68 83 = some (.ishl, 1, 0, 0, .null) := by decide +kernel
theorem i_68_84 : aIns 68 84 = some (.ior, 1, 0, 0, .null) := by decide +kernel
theorem i_68_85 : aIns 68 85 = some (.iastore, 1, 0, 0, .null) := by decide +kernel
theorem i_68_86 : aIns 68 86 = some (.aload_n 0, 1, 0, 0, .null) := by decide +kernel
theorem i_68_87 : aIns 68 87 = some (.getfield 15, 3, 6, 1, .null) := by decide +kernel
theorem i_68_90 : aIns 68 90 = some (.getfield 137, 3, 5, 19, .null) := by decide +kernel
theorem i_68_93 : aIns 68 93 = some (.iload_n 2, 1, 0, 0, .null) := by decide +kernel
theorem i_68_94 : aIns 68 94 = some (.dup2, 1, 0, 0, .null) := by decide +kernel
theorem i_68_95 : aIns 68 95 = some (.iaload, 1, 0, 0, .null) := by decide +kernel
theorem i_68_96 : aIns 68 96 = some (.iconst 1, 1, 0, 0, .int (1)) := by decide +kernel
theorem i_68_97 : aIns 68 97 = some (.iload_n 1, 1, 0, 0, .null) := by decide +kernel
theorem i_68_98 : aIns 68 98 = some (.ishl, 1, 0, 0, .null) := by decide +kernel
theorem i_68_99 : aIns 68 99 = some (.ior, 1, 0, 0, .null) := by decide +kernel
theorem i_68_100 : aIns 68 100 = some (.iastore, 1, 0, 0, .null) := by decide +kernel
theorem i_68_101 : aIns 68 101 = some (.return_, 1, 0, 0, .null) := by decide +kernel
theorem i_69_0 : aIns 69 0 = some (.aload_n 0, 1, 0, 0, .null) := by decide +kernel
theorem i_69_1 : aIns 69 1 = some (.getfield 9, 3, 6, 0, .null) := by decide +kernel
theorem i_69_4 : aIns 69 4 = some (.getfield 31, 3, 8, 3, .null) := by decide +kernel
theorem i_69_7 : aIns 69 7 = some (.bipush 20, 2, 0, 0, .int (20)) := by decide +kernel
theorem i_69_9 : aIns 69 9 = some (.if_icmp .eq 13, 3, 0, 0, .null) := by decide +kernel
theorem i_69_12 : aIns 69 12 = some (.aload_n 0, 1, 0, 0, .null) := by decide +kernel
theorem i_69_13 : aIns 69 13 = some (.getfield 9, 3, 6, 0, .null) := by decide +kernel
theorem i_69_16 : aIns 69 16 = some (.iconst 0, 1, 0, 0, .int (0)) := by decide +kernel
theorem i_69_17 : aIns 69 17 = some (.invokevirtual 37, 3, 83, 1, .int 8) := by decide +kernel
theorem i_69_20 : aIns 69 20 = some (.iconst 0, 1, 0, 0, .int (0)) := by decide +kernel
theorem i_69_21 : aIns 69 21 = some (.ireturn, 1, 0, 0, .null) := by decide +kernel
theorem i_69_22 : aIns 69 22 = some (.aload_n 0, 1, 0, 0, .null) := by decide +kernel
theorem i_69_23 : aIns 69 23 = some (.getfield 9, 3, 6, 0, .null) := by decide +kernel
theorem i_69_26 : aIns 69 26 = some (.getfield 135, 3, 8, 5, .null) := by decide +kernel
theorem i_69_29 : aIns 69 29 = some (.istore_n 3, 1, 0, 0, .null) := by decide +kernel
theorem i_69_30 : aIns 69 30 = some (.iload_n 3, 1, 0, 0, .null) := by decide +kernel
theorem i_69_31 : aIns 69 31 = some (.iload_n 1, 1, 0, 0, .null) := by decide +kernel
theorem i_69_32 : aIns 69 32 = some (.iload_n 2, 1, 0, 0, .null) := by decide +kernel
theorem i_69_33 : aIns 69 33 = some (.invokestatic 50, 3, 138, 3, .null) := by decide +kernel
theorem i_69_36 : aIns 69 36 = some (.ifCond .ne 13, 3, 0, 0, .null) := by decide +kernel
theorem i_69_39 : aIns 69 39 = some (.aload_n 0, 1, 0, 0, .null) := by decide +kernel
theorem i_69_40 : aIns 69 40 = some (.getfield 9, 3, 6, 0, .null) := by decide +kernel
theorem i_69_43 : aIns 69 43 = some (.iconst 1, 1, 0, 0, .int (1)) := by decide +kernel
theorem i_69_44 : aIns 69 44 = some (.invokevirtual 37, 3, 83, 1, .int 8) := by decide +kernel
theorem i_69_47 : aIns 69 47 = some (.iconst 0, 1, 0, 0, .int (0)) := by decide +kernel
theorem i_69_48 : aIns 69 48 = some (.ireturn, 1, 0, 0, .null) := by decide +kernel
theorem i_69_49 : aIns 69 49 = some (.aload_n 0, 1, 0, 0, .null) := by decide +kernel
theorem i_69_50 : aIns 69 50 = some (.getfield 9, 3, 6, 0, .null) := by decide +kernel
theorem i_69_53 : aIns 69 53 = some (.invokevirtual 34, 3, 84, 0, .int 8) := by decide +kernel
theorem i_69_56 : aIns 69 56 = some (.iload_n 3, 1, 0, 0, .null) := by decide +kernel
theorem i_69_57 : aIns 69 57 = some (.ireturn, 1, 0, 0, .null) := by decide +kernel
theorem i_71_0 : aIns 71 0 = some (.aload_n 0, 1, 0, 0, .null) := by decide +kernel
theorem i_71_1 : aIns 71 1 = some (.getfield 9, 3, 7, 0, .null) := by decide +kernel
theorem i_71_4 : aIns 71 4 = some (.iconst 0, 1, 0, 0, .int (0)) := by decide +kernel
theorem i_71_5 : aIns 71 5 = some (.invokestatic 36, 3, 273, 2, .null) := by decide +kernel
theorem i_71_8 : aIns 71 8 = some (.aload_n 1, 1, 0, 0, .null) := by decide +kernel
theorem i_71_9 : aIns 71 9 = some (.getfield 42, 3, 5, 7, .null) := by decide +kernel
theorem i_71_12 : aIns 71 12 = some (.iconst 0, 1, 0, 0, .int (0)) := by decide +kernel
theorem i_71_13 : aIns 71 13 = some (.aload_n 0, 1, 0, 0, .null) := by decide +kernel
theorem i_71_14 : aIns 71 14 = some (.getfield 15, 3, 7, 1, .null) := by decide +kernel
theorem i_71_17 : aIns 71 17 = some (.iconst 0, 1, 0, 0, .int (0)) := by decide +kernel
theorem i_71_18 : aIns 71 18 = some (.bipush 8, 2, 0, 0, .int (8)) := by decide +kernel
theorem i_71_20 : aIns 71 20 = some (.invokestatic 45, 3, 1000, 0, .null) := by decide +kernel
theorem i_71_23 : aIns 71 23 = some (.aload_n 0, 1, 0, 0, .null) := by decide +kernel
theorem i_71_24 : aIns 71 24 = some (.getfield 18, 3, 7, 2, .null) := by decide +kernel
theorem i_71_27 : aIns 71 27 = some (.iconst 0, 1, 0, 0, .int (0)) := by decide +kernel
theorem i_71_28 : aIns 71 28 = some (.invokestatic 36, 3, 273, 2, .null) := by decide +kernel
theorem i_71_31 : aIns 71 31 = some (.aload_n 0, 1, 0, 0, .null) := by decide +kernel
theorem i_71_32 : aIns 71 32 = some (.getfield 21, 3, 7, 3, .null) := by decide +kernel
theorem i_71_35 : aIns 71 35 = some (.iconst 0, 1, 0, 0, .int (0)) := by decide +kernel
theorem i_71_36 : aIns 71 36 = some (.invokestatic 36, 3, 273, 2, .null) := by decide +kernel
theorem i_71_39 : aIns 71 39 = some (.aload_n 0, 1, 0, 0, .null) := by decide +kernel
theorem i_71_40 : aIns 71 40 = some (.getfield 24, 3, 7, 4, .null) := by decide +kernel
theorem i_71_43 : aIns 71 43 = some (.iconst 0, 1, 0, 0, .int (0)) := by decide +kernel
theorem i_71_44 : aIns 71 44 = some (.invokestatic 36, 3, 273, 2, .null) := by decide +kernel
theorem i_71_47 : aIns 71 47 = some (.aload_n 0, 1, 0, 0, .null) := by decide +kernel
theorem i_71_48 : aIns 71 48 = some (.getfield 27, 3, 7, 5, .null) := by decide +kernel
theorem i_71_51 : aIns 71 51 = some (.iconst 0, 1, 0, 0, .int (0)) := by decide +kernel
theorem i_71_52 : aIns 71 52 = some (.invokestatic 36, 3, 273, 2, .null) := by decide +kernel
theorem i_71_55 : aIns 71 55 = some (.aload_n 0, 1, 0, 0, .null) := by decide +kernel
theorem i_71_56 : aIns 71 56 = some (.iconst 0, 1, 0, 0, .int (0)) := by decide +kernel
theorem i_71_57 : aIns 71 57 = some (.putfield 51, 3, 7, 8, .null) := by decide +kernel
theorem i_71_60 : aIns 71 60 = some (.aload_n 0, 1, 0, 0, .null) := by decide +kernel
theorem i_71_61 : aIns 71 61 = some (.iconst 0, 1, 0, 0, .int (0)) := by decide +kernel
theorem i_71_62 : aIns 71 62 = some (.putfield 55, 3, 7, 9, .null) := by decide +kernel
theorem i_71_65 : aIns 71 65 = some (.aload_n 0, 1, 0, 0, .null) := by decide +kernel
theorem i_71_66 : aIns 71 66 = some (.iconst 0, 1, 0, 0, .int (0)) := by decide +kernel
theorem i_71_67 : aIns 71 67 = some (.putfield 58, 3, 7, 10, .null) := by decide +kernel
theorem i_71_70 : aIns 71 70 = some (.aload_n 0, 1, 0, 0, .null) := by decide +kernel
theorem i_71_71 : aIns 71 71 = some (.iconst 0, 1, 0, 0, .int (0)) := by decide +kernel
theorem i_71_72 : aIns 71 72 = some (.putfield 61, 3, 7, 11, .null) := by decide +kernel
theorem i_71_75 : aIns 71 75 = some (.aload_n 0, 1, 0, 0, .null) := by decide +kernel
theorem i_71_76 : aIns 71 76 = some (.iconst 0, 1, 0, 0, .int (0)) := by decide +kernel
theorem i_71_77 : aIns 71 77 = some (.putfield 64, 3, 7, 12, .null) := by decide +kernel
theorem i_71_80 : aIns 71 80 = some (.aload_n 0, 1, 0, 0, .null) := by decide +kernel
theorem i_71_81 : aIns 71 81 = some (.iconst 0, 1, 0, 0, .int (0)) := by decide +kernel
theorem i_71_82 : aIns 71 82 = some (.putfield 67, 3, 7, 13, .null) := by decide +kernel
theorem i_71_85 : aIns 71 85 = some (.return_, 1, 0, 0, .null) := by decide +kernel
theorem i_82_0 : aIns 82 0 = some (.aload_n 0, 1, 0, 0, .null) := by decide +kernel
theorem i_82_1 : aIns 82 1 = some (.iconst 0, 1, 0, 0, .int (0)) := by decide +kernel
theorem i_82_2 : aIns 82 2 = some (.putfield 19, 3, 8, 2, .null) := by decide +kernel
theorem i_82_5 : aIns 82 5 = some (.aload_n 0, 1, 0, 0, .null) := by decide +kernel
theorem i_82_6 : aIns 82 6 = some (.iconst 0, 1, 0, 0, .int (0)) := by decide +kernel
theorem i_82_7 : aIns 82 7 = some (.putfield 22, 3, 8, 6, .null) := by decide +kernel
theorem i_82_10 : aIns 82 10 = some (.aload_n 0, 1, 0, 0, .null) := by decide +kernel
theorem i_82_11 : aIns 82 11 = some (.invokevirtual 25, 3, 84, 0, .int 8) := by decide +kernel
theorem i_82_14 : aIns 82 14 = some (.return_, 1, 0, 0, .null) := by decide +kernel
set_option maxHeartbeats 4000000 in
set_option maxRecDepth 100000 in
theorem j_46_126_ok {X : aX} {S : rS} {g : Nat} {x1 : Int32} {m : cM} {zz : cM} {d : Nat} (hdp : 78 ≤ d) (hd : j_46_126 g x1 m = some zz) : aWp X d 46 126 [some (.ref 4), some (.int x1)] [] (hr m S) (fun w h' => w = none ∧ h' = hr zz S) := by
  unfold j_46_126 at hd
  obtain ⟨e, rfl⟩ : ∃ e, d = e + 1 := ⟨d - 1, by omega⟩
  refine wp_s 127 [some (.ref 4), some (.int x1)] [.ref 4] _ i_46_126 rfl ?_
  obtain ⟨k_1, hd⟩ := dk_if hd
  refine hm_dyn 130 rfl i_46_127 (cb rfl) kk_4 (fun _ _ => rfl) (kd_ne0 (cU_kd k_1) (by decide)) ?_
  refine hm_get (w := .ref ((m.2.2.1 4) + 4)) 133 rfl i_46_130 (cU_lt k_1) (cU_kd k_1) rfl ?_
  refine wp_s 134 [some (.ref 4), some (.int x1)] [.int x1, .ref ((m.2.2.1 4) + 4)] _ i_46_133 rfl ?_
  refine wp_s 135 [some (.ref 4), some (.int x1)] [.ref 4, .int x1, .ref ((m.2.2.1 4) + 4)] _ i_46_134 rfl ?_
  refine hm_dyn 138 rfl i_46_135 (cb rfl) kk_4 (fun _ _ => rfl) (kd_ne0 (cU_kd k_1) (by decide)) ?_
  refine hm_get (w := .int (m.1 (m.2.2.1 4) 5)) 141 rfl i_46_138 (cU_lt k_1) (cU_kd k_1) rfl ?_
  obtain ⟨k_2, hd⟩ := dk_if hd
  obtain ⟨mm_3, q_4, hd⟩ := dk_bind hd
  refine hm_iast 142 rfl i_46_141 (kb_3_4 (cU_lt k_1) (cU_kd k_1)) (kr_3_4 (cU_kd k_1)) k_2 ?_
  rw [Option.some.inj q_4]
  obtain rfl := Option.some.inj hd
  exact wp_ret i_46_142 rfl ⟨rfl, rfl⟩
set_option maxHeartbeats 4000000 in
set_option maxRecDepth 100000 in
theorem d_46_ok {X : aX} {S : rS} {g : Nat}  {m : cM} {zz : cM} {d : Nat} (hdp : 78 ≤ d) (hd : d_46 g  m = some zz) : aWp X d 46 0 (aEntL [.ref 4] 2) [] (hr m S) (fun w h' => w = none ∧ h' = hr zz S) := by
  unfold d_46 at hd
  refine wp_lv (l2 := [some (.ref 4), none]) rfl ?_
  obtain ⟨e, rfl⟩ : ∃ e, d = e + 1 := ⟨d - 1, by omega⟩
  refine wp_s 1 [some (.ref 4), none] [.ref 4] _ i_46_0 rfl ?_
  refine hm_get (w := .ref 1) 4 rfl i_46_1 (cb rfl) kk_4 rfl ?_
  refine hm_get (w := .int (m.1 1 3)) 7 rfl i_46_4 (cb rfl) kk_1 rfl ?_
  refine wp_s 9 [some (.ref 4), none] [.int (15 : Int32), .int (m.1 1 3)] _ i_46_7 rfl ?_
  refine wp_cmp_eq 21 12 rfl rfl i_46_9 (fun c_1 => ?_) (fun c_1 => ?_)
  · rw [if_pos c_1] at hd
    refine wp_s 22 [some (.ref 4), none] [.ref 4] _ i_46_21 rfl ?_
    obtain ⟨k_2, hd⟩ := dk_if hd
    refine hm_dyn 25 rfl i_46_22 (cb rfl) kk_4 (fun _ _ => rfl) (kd_ne0 (cU_kd k_2) (by decide)) ?_
    refine hm_get (w := .int (m.1 (m.2.2.1 4) 6)) 28 rfl i_46_25 (cU_lt k_2) (cU_kd k_2) rfl ?_
    refine wp_s 29 [some (.ref 4), some (.int (m.1 (m.2.2.1 4) 6))] [] _ i_46_28 rfl ?_
    refine wp_s 30 [some (.ref 4), some (.int (m.1 (m.2.2.1 4) 6))] [.int (m.1 (m.2.2.1 4) 6)] _ i_46_29 rfl ?_
    refine wp_s 32 [some (.ref 4), some (.int (m.1 (m.2.2.1 4) 6))] [.int (12 : Int32), .int (m.1 (m.2.2.1 4) 6)] _ i_46_30 rfl ?_
    refine wp_cmp_lt 44 35 rfl rfl i_46_32 (fun c_3 => ?_) (fun c_3 => ?_)
    · rw [if_pos c_3] at hd
      refine wp_s 45 [some (.ref 4), some (.int (m.1 (m.2.2.1 4) 6))] [.ref 4] _ i_46_44 rfl ?_
      refine hm_dyn 48 rfl i_46_45 (cb rfl) kk_4 (fun _ _ => rfl) (kd_ne0 (cU_kd k_2) (by decide)) ?_
      refine wp_s 49 [some (.ref 4), some (.int (m.1 (m.2.2.1 4) 6))] [.ref (m.2.2.1 4), .ref (m.2.2.1 4)] _ i_46_48 rfl ?_
      refine hm_get (w := .int (m.1 (m.2.2.1 4) 6)) 52 rfl i_46_49 (cU_lt k_2) (cU_kd k_2) rfl ?_
      refine wp_s 53 [some (.ref 4), some (.int (m.1 (m.2.2.1 4) 6))] [.int (1 : Int32), .int (m.1 (m.2.2.1 4) 6), .ref (m.2.2.1 4)] _ i_46_52 rfl ?_
      refine wp_s 54 [some (.ref 4), some (.int (m.1 (m.2.2.1 4) 6))] [.int ((m.1 (m.2.2.1 4) 6) + (1 : Int32)), .ref (m.2.2.1 4)] _ i_46_53 rfl ?_
      obtain ⟨mm_4, q_5, hd⟩ := dk_bind hd
      refine hm_put 57 rfl i_46_54 (cU_lt k_2) (cU_kd k_2) (fun _ _ => rfl) (fun _ _ => Nat.le_of_ble_eq_true rfl) rfl ?_
      rw [Option.some.inj q_5]
      refine wp_s 58 [some (.ref 4), some (.int (m.1 (m.2.2.1 4) 6))] [.ref 4] _ i_46_57 rfl ?_
      refine hm_get (w := .ref 1) 61 rfl i_46_58 (cb rfl) kk_4 rfl ?_
      obtain ⟨z_6, q_7, hd⟩ := dk_bind hd
      refine wp_callV 64 rfl i_46_61 (by decide) rfl (vs := []) (rest := []) rfl rfl rfl (hm_isO (cb rfl) kk_1) (y := m_84) rfl (Nat.le_of_ble_eq_true rfl) (d_84_ok (S := S) (d := e) (by omega) q_7) ?_
      rintro v_8 h_9 ⟨rfl, rfl⟩
      refine wp_s 65 [some (.ref 4), some (.int (m.1 (m.2.2.1 4) 6))] [.ref 4] _ i_46_64 rfl ?_
      obtain ⟨k_10, hd⟩ := dk_if hd
      refine hm_dyn 68 rfl i_46_65 (cb rfl) kk_4 (fun _ _ => rfl) (kd_ne0 (cU_kd k_10) (by decide)) ?_
      refine hm_get (w := .ref ((z_6.2.2.1 4) + 2)) 71 rfl i_46_68 (cU_lt k_10) (cU_kd k_10) rfl ?_
      refine wp_s 72 [some (.ref 4), some (.int (m.1 (m.2.2.1 4) 6))] [.int (m.1 (m.2.2.1 4) 6), .ref ((z_6.2.2.1 4) + 2)] _ i_46_71 rfl ?_
      refine wp_s 73 [some (.ref 4), some (.int (m.1 (m.2.2.1 4) 6))] [.ref 4, .int (m.1 (m.2.2.1 4) 6), .ref ((z_6.2.2.1 4) + 2)] _ i_46_72 rfl ?_
      refine hm_dyn 76 rfl i_46_73 (cb rfl) kk_4 (fun _ _ => rfl) (kd_ne0 (cU_kd k_10) (by decide)) ?_
      refine hm_get (w := .int (z_6.1 (z_6.2.2.1 4) 5)) 79 rfl i_46_76 (cU_lt k_10) (cU_kd k_10) rfl ?_
      obtain ⟨k_11, hd⟩ := dk_if hd
      obtain ⟨mm_12, q_13, hd⟩ := dk_bind hd
      refine hm_iast 80 rfl i_46_79 (kb_3_2 (cU_lt k_10) (cU_kd k_10)) (kr_3_2 (cU_kd k_10)) k_11 ?_
      rw [Option.some.inj q_13]
      refine wp_s 81 [some (.ref 4), some (.int (m.1 (m.2.2.1 4) 6))] [.ref 4] _ i_46_80 rfl ?_
      refine wp_s 82 [some (.ref 4), some (.int (m.1 (m.2.2.1 4) 6))] [.int (0 : Int32), .ref 4] _ i_46_81 rfl ?_
      obtain ⟨z_14, q_15, hd⟩ := dk_bind hd
      refine wp_callV 85 rfl i_46_82 (by decide) rfl (vs := [.int (0 : Int32)]) (rest := []) rfl rfl rfl (hm_isO (cb rfl) kk_4) (y := m_50) rfl (Nat.le_of_ble_eq_true rfl) (d_50_ok (S := S) (d := e) (by omega) q_15) ?_
      rintro v_16 h_17 ⟨rfl, rfl⟩
      refine wp_s 86 [some (.ref 4), some (.int (m.1 (m.2.2.1 4) 6))] [.ref 4] _ i_46_85 rfl ?_
      obtain ⟨k_18, hd⟩ := dk_if hd
      refine hm_dyn 89 rfl i_46_86 (cb rfl) kk_4 (fun _ _ => rfl) (kd_ne0 (cU_kd k_18) (by decide)) ?_
      refine hm_get (w := .ref ((z_14.2.2.1 4) + 3)) 92 rfl i_46_89 (cU_lt k_18) (cU_kd k_18) rfl ?_
      refine wp_s 93 [some (.ref 4), some (.int (m.1 (m.2.2.1 4) 6))] [.int (m.1 (m.2.2.1 4) 6), .ref ((z_14.2.2.1 4) + 3)] _ i_46_92 rfl ?_
      refine wp_s 94 [some (.ref 4), some (.int (m.1 (m.2.2.1 4) 6))] [.ref 4, .int (m.1 (m.2.2.1 4) 6), .ref ((z_14.2.2.1 4) + 3)] _ i_46_93 rfl ?_
      refine hm_dyn 97 rfl i_46_94 (cb rfl) kk_4 (fun _ _ => rfl) (kd_ne0 (cU_kd k_18) (by decide)) ?_
      refine hm_get (w := .int (z_14.1 (z_14.2.2.1 4) 5)) 100 rfl i_46_97 (cU_lt k_18) (cU_kd k_18) rfl ?_
      obtain ⟨k_19, hd⟩ := dk_if hd
      obtain ⟨mm_20, q_21, hd⟩ := dk_bind hd
      refine hm_iast 101 rfl i_46_100 (kb_3_3 (cU_lt k_18) (cU_kd k_18)) (kr_3_3 (cU_kd k_18)) k_19 ?_
      rw [Option.some.inj q_21]
      refine wp_s 102 [some (.ref 4), some (.int (m.1 (m.2.2.1 4) 6))] [.ref 4] _ i_46_101 rfl ?_
      refine hm_get (w := .ref 1) 105 rfl i_46_102 (cb rfl) kk_4 rfl ?_
      refine hm_get (w := .int (mm_20.1 1 3)) 108 rfl i_46_105 (cb rfl) kk_1 rfl ?_
      refine wp_s 110 [some (.ref 4), some (.int (m.1 (m.2.2.1 4) 6))] [.int (16 : Int32), .int (mm_20.1 1 3)] _ i_46_108 rfl ?_
      refine wp_cmp_ne 126 113 rfl rfl i_46_110 (fun c_22 => ?_) (fun c_22 => ?_)
      · rw [if_pos c_22] at hd
        exact aWp.forget (j_46_126_ok hdp hd) (lvS (lvS lvE))
      · rw [if_neg c_22] at hd
        refine wp_s 114 [some (.ref 4), some (.int (m.1 (m.2.2.1 4) 6))] [.ref 4] _ i_46_113 rfl ?_
        refine hm_get (w := .ref 1) 117 rfl i_46_114 (cb rfl) kk_4 rfl ?_
        obtain ⟨z_23, q_24, hd⟩ := dk_bind hd
        refine wp_callV 120 rfl i_46_117 (by decide) rfl (vs := []) (rest := []) rfl rfl rfl (hm_isO (cb rfl) kk_1) (y := m_84) rfl (Nat.le_of_ble_eq_true rfl) (d_84_ok (S := S) (d := e) (by omega) q_24) ?_
        rintro v_25 h_26 ⟨rfl, rfl⟩
        refine wp_s 121 [some (.ref 4), some (.int (m.1 (m.2.2.1 4) 6))] [.ref 4] _ i_46_120 rfl ?_
        refine wp_s 122 [some (.ref 4), some (.int (m.1 (m.2.2.1 4) 6))] [.int (0 : Int32), .ref 4] _ i_46_121 rfl ?_
        refine wp_s 123 [some (.ref 4), some (.int (m.1 (m.2.2.1 4) 6))] [.int (0 : Int32), .int (0 : Int32), .ref 4] _ i_46_122 rfl ?_
        obtain ⟨z_27, q_28, hd⟩ := dk_bind hd
        refine wp_callV 126 rfl i_46_123 (by decide) rfl (vs := [.int (0 : Int32), .int (0 : Int32)]) (rest := []) rfl rfl rfl (hm_isO (cb rfl) kk_4) (y := m_47) rfl (Nat.le_of_ble_eq_true rfl) (d_47_ok (S := S) (d := e) (by omega) q_28) ?_
        rintro v_29 h_30 ⟨rfl, rfl⟩
        exact aWp.forget (j_46_126_ok hdp hd) (lvS (lvS lvE))
    · rw [if_neg c_3] at hd
      refine wp_s 36 [some (.ref 4), some (.int (m.1 (m.2.2.1 4) 6))] [.ref 4] _ i_46_35 rfl ?_
      refine hm_get (w := .ref 1) 39 rfl i_46_36 (cb rfl) kk_4 rfl ?_
      refine wp_s 40 [some (.ref 4), some (.int (m.1 (m.2.2.1 4) 6))] [.int (4 : Int32), .ref 1] _ i_46_39 rfl ?_
      obtain ⟨z_31, q_32, hd⟩ := dk_bind hd
      refine wp_callV 43 rfl i_46_40 (by decide) rfl (vs := [.int (4 : Int32)]) (rest := []) rfl rfl rfl (hm_isO (cb rfl) kk_1) (y := m_83) rfl (Nat.le_of_ble_eq_true rfl) (d_83_ok (S := S) (d := e) (by omega) q_32) ?_
      rintro v_33 h_34 ⟨rfl, rfl⟩
      obtain rfl := Option.some.inj hd
      exact wp_ret i_46_43 rfl ⟨rfl, rfl⟩
  · rw [if_neg c_1] at hd
    refine wp_s 13 [some (.ref 4), none] [.ref 4] _ i_46_12 rfl ?_
    refine hm_get (w := .ref 1) 16 rfl i_46_13 (cb rfl) kk_4 rfl ?_
    refine wp_s 17 [some (.ref 4), none] [.int (0 : Int32), .ref 1] _ i_46_16 rfl ?_
    obtain ⟨z_35, q_36, hd⟩ := dk_bind hd
    refine wp_callV 20 rfl i_46_17 (by decide) rfl (vs := [.int (0 : Int32)]) (rest := []) rfl rfl rfl (hm_isO (cb rfl) kk_1) (y := m_83) rfl (Nat.le_of_ble_eq_true rfl) (d_83_ok (S := S) (d := e) (by omega) q_36) ?_
    rintro v_37 h_38 ⟨rfl, rfl⟩
    obtain rfl := Option.some.inj hd
    exact wp_ret i_46_20 rfl ⟨rfl, rfl⟩
set_option maxHeartbeats 4000000 in
set_option maxRecDepth 100000 in
theorem d_82_ok {X : aX} {S : rS} {g : Nat}  {m : cM} {zz : cM} {d : Nat} (hdp : 2 ≤ d) (hd : d_82 g  m = some zz) : aWp X d 82 0 (aEntL [.ref 1] 1) [] (hr m S) (fun w h' => w = none ∧ h' = hr zz S) := by
  unfold d_82 at hd
  refine wp_lv (l2 := [some (.ref 1)]) rfl ?_
  obtain ⟨e, rfl⟩ : ∃ e, d = e + 1 := ⟨d - 1, by omega⟩
  refine wp_s 1 [some (.ref 1)] [.ref 1] _ i_82_0 rfl ?_
  refine wp_s 2 [some (.ref 1)] [.int (0 : Int32), .ref 1] _ i_82_1 rfl ?_
  obtain ⟨mm_1, q_2, hd⟩ := dk_bind hd
  refine hm_put 5 rfl i_82_2 (cb rfl) kk_1 (fun _ _ => rfl) (fun _ _ => Nat.le_of_ble_eq_true rfl) rfl ?_
  rw [Option.some.inj q_2]
  refine wp_s 6 [some (.ref 1)] [.ref 1] _ i_82_5 rfl ?_
  refine wp_s 7 [some (.ref 1)] [.int (0 : Int32), .ref 1] _ i_82_6 rfl ?_
  obtain ⟨mm_3, q_4, hd⟩ := dk_bind hd
  refine hm_put 10 rfl i_82_7 (cb rfl) kk_1 (fun _ _ => rfl) (fun _ _ => Nat.le_of_ble_eq_true rfl) rfl ?_
  rw [Option.some.inj q_4]
  refine wp_s 11 [some (.ref 1)] [.ref 1] _ i_82_10 rfl ?_
  obtain ⟨z_5, q_6, hd⟩ := dk_bind hd
  refine wp_callV 14 rfl i_82_11 (by decide) rfl (vs := []) (rest := []) rfl rfl rfl (hm_isO (cb rfl) kk_1) (y := m_84) rfl (Nat.le_of_ble_eq_true rfl) (d_84_ok (S := S) (d := e) (by omega) q_6) ?_
  rintro v_7 h_8 ⟨rfl, rfl⟩
  obtain rfl := Option.some.inj hd
  exact wp_ret i_82_14 rfl ⟨rfl, rfl⟩
set_option maxHeartbeats 4000000 in
set_option maxRecDepth 100000 in
theorem l_45_ok {X : aX} {S : rS} {g : Nat} {d : Nat} (hdp : 79 ≤ d) : ∀ n, (∀ (a1 : Nat) (x2 : Int32) (m : cM) (zz : Int32 × cM), l_45 g n 0 a1 x2 m = some zz → aWp X d 45 39 [some (.ref 4), some (.ref a1), some (.int x2)] [] (hr m S) (fun w h' => w = some (.int zz.1) ∧ h' = hr zz.2 S)) ∧ (∀ (a1 : Nat) (x2 : Int32) (m : cM) (zz : Int32 × cM), l_45 g n 1 a1 x2 m = some zz → aWp X d 45 75 [some (.ref 4), some (.ref a1), some (.int x2)] [] (hr m S) (fun w h' => w = some (.int zz.1) ∧ h' = hr zz.2 S)) := by
  intro n
  induction n with
  | zero => exact ⟨fun _ _ _ _ hd => by simp [l_45] at hd, fun _ _ _ _ hd => by simp [l_45] at hd⟩
  | succ n ih =>
    refine ⟨?_, ?_⟩
    · intro a1 x2 m zz hd
      unfold l_45 at hd
      rw [if_pos rfl] at hd
      obtain ⟨e, rfl⟩ : ∃ e, d = e + 1 := ⟨d - 1, by omega⟩
      refine wp_s 40 [some (.ref 4), some (.ref a1), some (.int x2)] [.int x2] _ i_45_39 rfl ?_
      refine wp_s 43 [some (.ref 4), some (.ref a1), some (.int x2)] [.int (400 : Int32), .int x2] _ i_45_40 rfl ?_
      refine wp_cmp_ge 75 46 rfl rfl i_45_43 (fun c_1 => ?_) (fun c_1 => ?_)
      · rw [if_pos c_1] at hd
        exact aWp.forget (ih.2 _ _ _ _ hd) (lvS (lvS (lvS lvE)))
      · rw [if_neg c_1] at hd
        refine wp_s 47 [some (.ref 4), some (.ref a1), some (.int x2)] [.ref 4] _ i_45_46 rfl ?_
        refine hm_get (w := .ref 1) 50 rfl i_45_47 (cb rfl) kk_4 rfl ?_
        refine hm_get (w := .int (m.1 1 3)) 53 rfl i_45_50 (cb rfl) kk_1 rfl ?_
        refine wp_s 55 [some (.ref 4), some (.ref a1), some (.int x2)] [.int (23 : Int32), .int (m.1 1 3)] _ i_45_53 rfl ?_
        refine wp_cmp_ne 75 58 rfl rfl i_45_55 (fun c_2 => ?_) (fun c_2 => ?_)
        · rw [if_pos c_2] at hd
          exact aWp.forget (ih.2 _ _ _ _ hd) (lvS (lvS (lvS lvE)))
        · rw [if_neg c_2] at hd
          refine wp_s 59 [some (.ref 4), some (.ref a1), some (.int x2)] [.ref 4] _ i_45_58 rfl ?_
          refine hm_get (w := .ref 1) 62 rfl i_45_59 (cb rfl) kk_4 rfl ?_
          obtain ⟨z_3, q_4, hd⟩ := dk_bind hd
          refine wp_callV 65 rfl i_45_62 (by decide) rfl (vs := []) (rest := []) rfl rfl rfl (hm_isO (cb rfl) kk_1) (y := m_84) rfl (Nat.le_of_ble_eq_true rfl) (d_84_ok (S := S) (d := e) (by omega) q_4) ?_
          rintro v_5 h_6 ⟨rfl, rfl⟩
          refine wp_s 66 [some (.ref 4), some (.ref a1), some (.int x2)] [.ref 4] _ i_45_65 rfl ?_
          obtain ⟨z_7, q_8, hd⟩ := dk_bind hd
          refine wp_callV 69 rfl i_45_66 (by decide) rfl (vs := []) (rest := []) rfl rfl rfl (hm_isO (cb rfl) kk_4) (y := m_46) rfl (Nat.le_of_ble_eq_true rfl) (d_46_ok (S := S) (d := e) (by omega) q_8) ?_
          rintro v_9 h_10 ⟨rfl, rfl⟩
          refine wp_s 72 [some (.ref 4), some (.ref a1), some (.int (x2 + (1 : Int32)))] [] _ i_45_69 rfl ?_
          refine wp_s 39 [some (.ref 4), some (.ref a1), some (.int (x2 + (1 : Int32)))] [] _ i_45_72 rfl ?_
          exact aWp.forget (ih.1 _ _ _ _ hd) (lvS (lvS (lvS lvE)))
    · intro a1 x2 m zz hd
      unfold l_45 at hd
      rw [if_neg (by decide), if_pos rfl] at hd
      obtain ⟨e, rfl⟩ : ∃ e, d = e + 1 := ⟨d - 1, by omega⟩
      refine wp_s 76 [some (.ref 4), some (.ref a1), some (.int x2)] [.ref 4] _ i_45_75 rfl ?_
      refine hm_get (w := .ref 1) 79 rfl i_45_76 (cb rfl) kk_4 rfl ?_
      refine hm_get (w := .int (m.1 1 3)) 82 rfl i_45_79 (cb rfl) kk_1 rfl ?_
      refine wp_s 84 [some (.ref 4), some (.ref a1), some (.int x2)] [.int (21 : Int32), .int (m.1 1 3)] _ i_45_82 rfl ?_
      refine wp_cmp_eq 95 87 rfl rfl i_45_84 (fun c_11 => ?_) (fun c_11 => ?_)
      · rw [if_pos c_11] at hd
        refine wp_s 96 [some (.ref 4), some (.ref a1), some (.int x2)] [.ref 4] _ i_45_95 rfl ?_
        refine hm_get (w := .ref 1) 99 rfl i_45_96 (cb rfl) kk_4 rfl ?_
        refine hm_get (w := .int (m.1 1 6)) 102 rfl i_45_99 (cb rfl) kk_1 rfl ?_
        obtain rfl := Option.some.inj hd
        exact wp_iret i_45_102 ⟨rfl, rfl⟩
      · rw [if_neg c_11] at hd
        refine wp_s 88 [some (.ref 4), some (.ref a1), some (.int x2)] [.ref 4] _ i_45_87 rfl ?_
        refine hm_get (w := .ref 1) 91 rfl i_45_88 (cb rfl) kk_4 rfl ?_
        refine wp_s 92 [some (.ref 4), some (.ref a1), some (.int x2)] [.int (0 : Int32), .ref 1] _ i_45_91 rfl ?_
        obtain ⟨z_12, q_13, hd⟩ := dk_bind hd
        refine wp_callV 95 rfl i_45_92 (by decide) rfl (vs := [.int (0 : Int32)]) (rest := []) rfl rfl rfl (hm_isO (cb rfl) kk_1) (y := m_83) rfl (Nat.le_of_ble_eq_true rfl) (d_83_ok (S := S) (d := e) (by omega) q_13) ?_
        rintro v_14 h_15 ⟨rfl, rfl⟩
        refine wp_s 96 [some (.ref 4), some (.ref a1), some (.int x2)] [.ref 4] _ i_45_95 rfl ?_
        refine hm_get (w := .ref 1) 99 rfl i_45_96 (cb rfl) kk_4 rfl ?_
        refine hm_get (w := .int (z_12.1 1 6)) 102 rfl i_45_99 (cb rfl) kk_1 rfl ?_
        obtain rfl := Option.some.inj hd
        exact wp_iret i_45_102 ⟨rfl, rfl⟩
set_option maxHeartbeats 4000000 in
set_option maxRecDepth 100000 in
theorem d_45_ok {X : aX} {S : rS} {g : Nat} {a1 : Nat} {m : cM} {zz : Int32 × cM} {d : Nat} (hdp : 79 ≤ d) (hd : d_45 g a1 m = some zz) : aWp X d 45 0 (aEntL [.ref 4, .ref a1] 3) [] (hr m S) (fun w h' => w = some (.int zz.1) ∧ h' = hr zz.2 S) := by
  unfold d_45 at hd
  refine wp_lv (l2 := [some (.ref 4), some (.ref a1), none]) rfl ?_
  obtain ⟨e, rfl⟩ : ∃ e, d = e + 1 := ⟨d - 1, by omega⟩
  refine wp_s 1 [some (.ref 4), some (.ref a1), none] [.ref 4] _ i_45_0 rfl ?_
  refine wp_s 2 [some (.ref 4), some (.ref a1), none] [.ref a1, .ref 4] _ i_45_1 rfl ?_
  obtain ⟨k_1003, hd⟩ := dk_if hd
  obtain ⟨mm_1001, q_1002, hd⟩ := dk_bind hd
  refine hm_putR 5 rfl i_45_2 (cb rfl) kk_4 (fun _ _ => rfl) (fun _ _ => Nat.le_of_ble_eq_true rfl) rfl (kd_ne0 (cU_kd k_1003) (by decide)) ?_
  rw [Option.some.inj q_1002]
  refine wp_s 6 [some (.ref 4), some (.ref a1), none] [.ref 4] _ i_45_5 rfl ?_
  obtain ⟨k_1004, hd⟩ := dk_if hd
  refine hm_dyn 9 rfl i_45_6 (cb rfl) kk_4 (fun _ _ => rfl) (kd_ne0 (cU_kd k_1004) (by decide)) ?_
  refine wp_s 10 [some (.ref 4), some (.ref a1), none] [.int (0 : Int32), .ref (mm_1001.2.2.1 4)] _ i_45_9 rfl ?_
  obtain ⟨mm_1005, q_1006, hd⟩ := dk_bind hd
  refine hm_put 13 rfl i_45_10 (cU_lt k_1004) (cU_kd k_1004) (fun _ _ => rfl) (fun _ _ => Nat.le_of_ble_eq_true rfl) rfl ?_
  rw [Option.some.inj q_1006]
  refine wp_s 14 [some (.ref 4), some (.ref a1), none] [.ref 4] _ i_45_13 rfl ?_
  obtain ⟨k_1007, hd⟩ := dk_if hd
  refine hm_dyn 17 rfl i_45_14 (cb rfl) kk_4 (fun _ _ => rfl) (kd_ne0 (cU_kd k_1007) (by decide)) ?_
  refine wp_s 18 [some (.ref 4), some (.ref a1), none] [.int (0 : Int32), .ref (mm_1005.2.2.1 4)] _ i_45_17 rfl ?_
  obtain ⟨mm_1008, q_1009, hd⟩ := dk_bind hd
  refine hm_put 21 rfl i_45_18 (cU_lt k_1007) (cU_kd k_1007) (fun _ _ => rfl) (fun _ _ => Nat.le_of_ble_eq_true rfl) rfl ?_
  rw [Option.some.inj q_1009]
  refine wp_s 22 [some (.ref 4), some (.ref a1), none] [.ref 4] _ i_45_21 rfl ?_
  refine wp_s 23 [some (.ref 4), some (.ref a1), none] [.int (0 : Int32), .ref 4] _ i_45_22 rfl ?_
  obtain ⟨mm_1010, q_1011, hd⟩ := dk_bind hd
  refine hm_put 26 rfl i_45_23 (cb rfl) kk_4 (fun _ _ => rfl) (fun _ _ => Nat.le_of_ble_eq_true rfl) rfl ?_
  rw [Option.some.inj q_1011]
  refine wp_s 27 [some (.ref 4), some (.ref a1), none] [.ref 4] _ i_45_26 rfl ?_
  refine hm_get (w := .ref 1) 30 rfl i_45_27 (cb rfl) kk_4 rfl ?_
  obtain ⟨z_1012, q_1013, hd⟩ := dk_bind hd
  refine wp_callV 33 rfl i_45_30 (by decide) rfl (vs := []) (rest := []) rfl rfl rfl (hm_isO (cb rfl) kk_1) (y := m_82) rfl (Nat.le_of_ble_eq_true rfl) (d_82_ok (S := S) (d := e) (by omega) q_1013) ?_
  rintro v_1014 h_1015 ⟨rfl, rfl⟩
  refine wp_s 34 [some (.ref 4), some (.ref a1), none] [.ref 4] _ i_45_33 rfl ?_
  obtain ⟨z_1016, q_1017, hd⟩ := dk_bind hd
  refine wp_callV 37 rfl i_45_34 (by decide) rfl (vs := []) (rest := []) rfl rfl rfl (hm_isO (cb rfl) kk_4) (y := m_46) rfl (Nat.le_of_ble_eq_true rfl) (d_46_ok (S := S) (d := e) (by omega) q_1017) ?_
  rintro v_1018 h_1019 ⟨rfl, rfl⟩
  refine wp_s 38 [some (.ref 4), some (.ref a1), none] [.int (0 : Int32)] _ i_45_37 rfl ?_
  refine wp_s 39 [some (.ref 4), some (.ref a1), some (.int (0 : Int32))] [] _ i_45_38 rfl ?_
  exact aWp.forget ((l_45_ok hdp g).1 _ _ _ _ hd) (lvS (lvS (lvS lvE)))
set_option maxHeartbeats 4000000 in
set_option maxRecDepth 100000 in
theorem d_55_ok {X : aX} {S : rS} {g : Nat} {a0 : Nat} {x1 : Int32} {m : cM} {zz : Int32} {d : Nat} (hdp : 0 ≤ d) (hd : d_55 g a0 x1 m = some zz) : aWp X d 55 0 (aEntL [.ref a0, .int x1] 2) [] (hr m S) (fun w h' => w = some (.int zz) ∧ h' = hr m S) := by
  unfold d_55 at hd
  refine wp_lv (l2 := [some (.ref a0), some (.int x1)]) rfl ?_
  refine wp_s 1 [some (.ref a0), some (.int x1)] [.int x1] _ i_55_0 rfl ?_
  refine wp_if_lt 16 4 rfl rfl i_55_1 (fun c_1 => ?_) (fun c_1 => ?_)
  · rw [if_pos c_1] at hd
    refine wp_s 17 [some (.ref a0), some (.int x1)] [.int (0 : Int32)] _ i_55_16 rfl ?_
    obtain rfl := Option.some.inj hd
    exact wp_iretZ (z := 0) i_55_17 (by decide) ⟨rfl, rfl⟩
  · rw [if_neg c_1] at hd
    refine wp_s 5 [some (.ref a0), some (.int x1)] [.int x1] _ i_55_4 rfl ?_
    refine wp_s 6 [some (.ref a0), some (.int x1)] [.ref a0, .int x1] _ i_55_5 rfl ?_
    obtain ⟨k_2, hd⟩ := dk_if hd
    refine hm_get (w := .int (m.1 a0 4)) 9 rfl i_55_6 (cO_iff k_2).1 (cO_iff k_2).2 rfl ?_
    refine wp_cmp_ge 16 12 rfl rfl i_55_9 (fun c_3 => ?_) (fun c_3 => ?_)
    · rw [if_pos c_3] at hd
      refine wp_s 17 [some (.ref a0), some (.int x1)] [.int (0 : Int32)] _ i_55_16 rfl ?_
      obtain rfl := Option.some.inj hd
      exact wp_iretZ (z := 0) i_55_17 (by decide) ⟨rfl, rfl⟩
    · rw [if_neg c_3] at hd
      refine wp_s 13 [some (.ref a0), some (.int x1)] [.int (1 : Int32)] _ i_55_12 rfl ?_
      refine wp_s 17 [some (.ref a0), some (.int x1)] [.int (1 : Int32)] _ i_55_13 rfl ?_
      obtain rfl := Option.some.inj hd
      exact wp_iretZ (z := 0) i_55_17 (by decide) ⟨rfl, rfl⟩
set_option maxHeartbeats 4000000 in
set_option maxRecDepth 100000 in
theorem d_56_ok {X : aX} {S : rS} {g : Nat} {a0 : Nat} {x1 : Int32} {m : cM} {zz : Int32} {d : Nat} (hdp : 0 ≤ d) (hd : d_56 g a0 x1 m = some zz) : aWp X d 56 0 (aEntL [.ref a0, .int x1] 2) [] (hr m S) (fun w h' => w = some (.int zz) ∧ h' = hr m S) := by
  unfold d_56 at hd
  refine wp_lv (l2 := [some (.ref a0), some (.int x1)]) rfl ?_
  refine wp_s 1 [some (.ref a0), some (.int x1)] [.int x1] _ i_56_0 rfl ?_
  refine wp_if_lt 16 4 rfl rfl i_56_1 (fun c_1 => ?_) (fun c_1 => ?_)
  · rw [if_pos c_1] at hd
    refine wp_s 17 [some (.ref a0), some (.int x1)] [.int (0 : Int32)] _ i_56_16 rfl ?_
    obtain rfl := Option.some.inj hd
    exact wp_iretZ (z := 0) i_56_17 (by decide) ⟨rfl, rfl⟩
  · rw [if_neg c_1] at hd
    refine wp_s 5 [some (.ref a0), some (.int x1)] [.int x1] _ i_56_4 rfl ?_
    refine wp_s 6 [some (.ref a0), some (.int x1)] [.ref a0, .int x1] _ i_56_5 rfl ?_
    obtain ⟨k_2, hd⟩ := dk_if hd
    refine hm_get (w := .int (m.1 a0 15)) 9 rfl i_56_6 (cO_iff k_2).1 (cO_iff k_2).2 rfl ?_
    refine wp_cmp_ge 16 12 rfl rfl i_56_9 (fun c_3 => ?_) (fun c_3 => ?_)
    · rw [if_pos c_3] at hd
      refine wp_s 17 [some (.ref a0), some (.int x1)] [.int (0 : Int32)] _ i_56_16 rfl ?_
      obtain rfl := Option.some.inj hd
      exact wp_iretZ (z := 0) i_56_17 (by decide) ⟨rfl, rfl⟩
    · rw [if_neg c_3] at hd
      refine wp_s 13 [some (.ref a0), some (.int x1)] [.int (1 : Int32)] _ i_56_12 rfl ?_
      refine wp_s 17 [some (.ref a0), some (.int x1)] [.int (1 : Int32)] _ i_56_13 rfl ?_
      obtain rfl := Option.some.inj hd
      exact wp_iretZ (z := 0) i_56_17 (by decide) ⟨rfl, rfl⟩
set_option maxHeartbeats 4000000 in
set_option maxRecDepth 100000 in
theorem j_62_32_ok {X : aX} {S : rS} {g : Nat} {x1 : Int32} {s0 : Int32} {s1 : Int32} {m : cM} {zz : Int32} {d : Nat} (hdp : 0 ≤ d) (hd : j_62_32 g x1 s0 s1 m = some zz) : aWp X d 62 32 [some (.ref 3), some (.int x1)] [.int s0, .int s1] (hr m S) (fun w h' => w = some (.int zz) ∧ h' = hr m S) := by
  unfold j_62_32 at hd
  refine wp_cmp_eq 37 35 rfl rfl i_62_32 (fun c_1 => ?_) (fun c_1 => ?_)
  · rw [if_pos c_1] at hd
    refine wp_s 38 [some (.ref 3), some (.int x1)] [.int x1] _ i_62_37 rfl ?_
    by_cases c_2 : x1 = (0 : Int32)
    · rw [if_pos c_2] at hd
      refine wp_tswC (j := 0) 112 i_62_38 (by rw [c_2]; decide) (by decide) rfl rfl ?_
      refine wp_s 113 [some (.ref 3), some (.int x1)] [.ref 3] _ i_62_112 rfl ?_
      obtain ⟨k_3, hd⟩ := dk_if hd
      refine hm_dyn 116 rfl i_62_113 (cb rfl) kk_3 (fun _ _ => rfl) (kd_ne0 (cO_iff k_3).2 (by decide)) ?_
      refine hm_get (w := .int (m.1 (m.2.2.1 3) 4)) 119 rfl i_62_116 (cO_iff k_3).1 (cO_iff k_3).2 rfl ?_
      refine wp_s 121 [some (.ref 3), some (.int x1)] [.int (8 : Int32), .int (m.1 (m.2.2.1 3) 4)] _ i_62_119 rfl ?_
      refine wp_cmp_lt 128 124 rfl rfl i_62_121 (fun c_4 => ?_) (fun c_4 => ?_)
      · rw [if_pos c_4] at hd
        refine wp_s 129 [some (.ref 3), some (.int x1)] [.int (0 : Int32)] _ i_62_128 rfl ?_
        obtain rfl := Option.some.inj hd
        exact wp_iretZ (z := 0) i_62_129 (by decide) ⟨rfl, rfl⟩
      · rw [if_neg c_4] at hd
        refine wp_s 125 [some (.ref 3), some (.int x1)] [.int (1 : Int32)] _ i_62_124 rfl ?_
        refine wp_s 129 [some (.ref 3), some (.int x1)] [.int (1 : Int32)] _ i_62_125 rfl ?_
        obtain rfl := Option.some.inj hd
        exact wp_iretZ (z := 0) i_62_129 (by decide) ⟨rfl, rfl⟩
    rw [if_neg c_2] at hd
    by_cases c_5 : x1 = (1 : Int32)
    · rw [if_pos c_5] at hd
      refine wp_tswC (j := 1) 224 i_62_38 (by rw [c_5]; decide) (by decide) rfl rfl ?_
      refine wp_s 225 [some (.ref 3), some (.int x1)] [.int (0 : Int32)] _ i_62_224 rfl ?_
      obtain rfl := Option.some.inj hd
      exact wp_iretZ (z := 0) i_62_225 (by decide) ⟨rfl, rfl⟩
    rw [if_neg c_5] at hd
    by_cases c_6 : x1 = (2 : Int32)
    · rw [if_pos c_6] at hd
      refine wp_tswC (j := 2) 148 i_62_38 (by rw [c_6]; decide) (by decide) rfl rfl ?_
      refine wp_s 149 [some (.ref 3), some (.int x1)] [.ref 3] _ i_62_148 rfl ?_
      obtain ⟨k_7, hd⟩ := dk_if hd
      refine hm_dyn 152 rfl i_62_149 (cb rfl) kk_3 (fun _ _ => rfl) (kd_ne0 (cO_iff k_7).2 (by decide)) ?_
      refine hm_get (w := .int (m.1 (m.2.2.1 3) 11)) 155 rfl i_62_152 (cO_iff k_7).1 (cO_iff k_7).2 rfl ?_
      refine wp_s 156 [some (.ref 3), some (.int x1)] [.int (4 : Int32), .int (m.1 (m.2.2.1 3) 11)] _ i_62_155 rfl ?_
      refine wp_cmp_lt 163 159 rfl rfl i_62_156 (fun c_8 => ?_) (fun c_8 => ?_)
      · rw [if_pos c_8] at hd
        refine wp_s 164 [some (.ref 3), some (.int x1)] [.int (0 : Int32)] _ i_62_163 rfl ?_
        obtain rfl := Option.some.inj hd
        exact wp_iretZ (z := 0) i_62_164 (by decide) ⟨rfl, rfl⟩
      · rw [if_neg c_8] at hd
        refine wp_s 160 [some (.ref 3), some (.int x1)] [.int (1 : Int32)] _ i_62_159 rfl ?_
        refine wp_s 164 [some (.ref 3), some (.int x1)] [.int (1 : Int32)] _ i_62_160 rfl ?_
        obtain rfl := Option.some.inj hd
        exact wp_iretZ (z := 0) i_62_164 (by decide) ⟨rfl, rfl⟩
    rw [if_neg c_6] at hd
    by_cases c_9 : x1 = (3 : Int32)
    · rw [if_pos c_9] at hd
      refine wp_tswC (j := 3) 224 i_62_38 (by rw [c_9]; decide) (by decide) rfl rfl ?_
      refine wp_s 225 [some (.ref 3), some (.int x1)] [.int (0 : Int32)] _ i_62_224 rfl ?_
      obtain rfl := Option.some.inj hd
      exact wp_iretZ (z := 0) i_62_225 (by decide) ⟨rfl, rfl⟩
    rw [if_neg c_9] at hd
    by_cases c_10 : x1 = (4 : Int32)
    · rw [if_pos c_10] at hd
      refine wp_tswC (j := 4) 224 i_62_38 (by rw [c_10]; decide) (by decide) rfl rfl ?_
      refine wp_s 225 [some (.ref 3), some (.int x1)] [.int (0 : Int32)] _ i_62_224 rfl ?_
      obtain rfl := Option.some.inj hd
      exact wp_iretZ (z := 0) i_62_225 (by decide) ⟨rfl, rfl⟩
    rw [if_neg c_10] at hd
    by_cases c_11 : x1 = (5 : Int32)
    · rw [if_pos c_11] at hd
      refine wp_tswC (j := 5) 224 i_62_38 (by rw [c_11]; decide) (by decide) rfl rfl ?_
      refine wp_s 225 [some (.ref 3), some (.int x1)] [.int (0 : Int32)] _ i_62_224 rfl ?_
      obtain rfl := Option.some.inj hd
      exact wp_iretZ (z := 0) i_62_225 (by decide) ⟨rfl, rfl⟩
    rw [if_neg c_11] at hd
    by_cases c_12 : x1 = (6 : Int32)
    · rw [if_pos c_12] at hd
      refine wp_tswC (j := 6) 224 i_62_38 (by rw [c_12]; decide) (by decide) rfl rfl ?_
      refine wp_s 225 [some (.ref 3), some (.int x1)] [.int (0 : Int32)] _ i_62_224 rfl ?_
      obtain rfl := Option.some.inj hd
      exact wp_iretZ (z := 0) i_62_225 (by decide) ⟨rfl, rfl⟩
    rw [if_neg c_12] at hd
    by_cases c_13 : x1 = (7 : Int32)
    · rw [if_pos c_13] at hd
      refine wp_tswC (j := 7) 224 i_62_38 (by rw [c_13]; decide) (by decide) rfl rfl ?_
      refine wp_s 225 [some (.ref 3), some (.int x1)] [.int (0 : Int32)] _ i_62_224 rfl ?_
      obtain rfl := Option.some.inj hd
      exact wp_iretZ (z := 0) i_62_225 (by decide) ⟨rfl, rfl⟩
    rw [if_neg c_13] at hd
    by_cases c_14 : x1 = (8 : Int32)
    · rw [if_pos c_14] at hd
      refine wp_tswC (j := 8) 224 i_62_38 (by rw [c_14]; decide) (by decide) rfl rfl ?_
      refine wp_s 225 [some (.ref 3), some (.int x1)] [.int (0 : Int32)] _ i_62_224 rfl ?_
      obtain rfl := Option.some.inj hd
      exact wp_iretZ (z := 0) i_62_225 (by decide) ⟨rfl, rfl⟩
    rw [if_neg c_14] at hd
    by_cases c_15 : x1 = (9 : Int32)
    · rw [if_pos c_15] at hd
      refine wp_tswC (j := 9) 130 i_62_38 (by rw [c_15]; decide) (by decide) rfl rfl ?_
      refine wp_s 131 [some (.ref 3), some (.int x1)] [.ref 3] _ i_62_130 rfl ?_
      obtain ⟨k_16, hd⟩ := dk_if hd
      refine hm_dyn 134 rfl i_62_131 (cb rfl) kk_3 (fun _ _ => rfl) (kd_ne0 (cO_iff k_16).2 (by decide)) ?_
      refine hm_get (w := .int (m.1 (m.2.2.1 3) 8)) 137 rfl i_62_134 (cO_iff k_16).1 (cO_iff k_16).2 rfl ?_
      refine wp_s 139 [some (.ref 3), some (.int x1)] [.int (6 : Int32), .int (m.1 (m.2.2.1 3) 8)] _ i_62_137 rfl ?_
      refine wp_cmp_lt 146 142 rfl rfl i_62_139 (fun c_17 => ?_) (fun c_17 => ?_)
      · rw [if_pos c_17] at hd
        refine wp_s 147 [some (.ref 3), some (.int x1)] [.int (0 : Int32)] _ i_62_146 rfl ?_
        obtain rfl := Option.some.inj hd
        exact wp_iretZ (z := 0) i_62_147 (by decide) ⟨rfl, rfl⟩
      · rw [if_neg c_17] at hd
        refine wp_s 143 [some (.ref 3), some (.int x1)] [.int (1 : Int32)] _ i_62_142 rfl ?_
        refine wp_s 147 [some (.ref 3), some (.int x1)] [.int (1 : Int32)] _ i_62_143 rfl ?_
        obtain rfl := Option.some.inj hd
        exact wp_iretZ (z := 0) i_62_147 (by decide) ⟨rfl, rfl⟩
    rw [if_neg c_15] at hd
    by_cases c_18 : x1 = (10 : Int32)
    · rw [if_pos c_18] at hd
      refine wp_tswC (j := 10) 165 i_62_38 (by rw [c_18]; decide) (by decide) rfl rfl ?_
      refine wp_s 166 [some (.ref 3), some (.int x1)] [.ref 3] _ i_62_165 rfl ?_
      obtain ⟨k_19, hd⟩ := dk_if hd
      refine hm_dyn 169 rfl i_62_166 (cb rfl) kk_3 (fun _ _ => rfl) (kd_ne0 (cO_iff k_19).2 (by decide)) ?_
      refine hm_get (w := .int (m.1 (m.2.2.1 3) 15)) 172 rfl i_62_169 (cO_iff k_19).1 (cO_iff k_19).2 rfl ?_
      refine wp_s 173 [some (.ref 3), some (.int x1)] [.int (5 : Int32), .int (m.1 (m.2.2.1 3) 15)] _ i_62_172 rfl ?_
      refine wp_cmp_lt 180 176 rfl rfl i_62_173 (fun c_20 => ?_) (fun c_20 => ?_)
      · rw [if_pos c_20] at hd
        refine wp_s 181 [some (.ref 3), some (.int x1)] [.int (0 : Int32)] _ i_62_180 rfl ?_
        obtain rfl := Option.some.inj hd
        exact wp_iretZ (z := 0) i_62_181 (by decide) ⟨rfl, rfl⟩
      · rw [if_neg c_20] at hd
        refine wp_s 177 [some (.ref 3), some (.int x1)] [.int (1 : Int32)] _ i_62_176 rfl ?_
        refine wp_s 181 [some (.ref 3), some (.int x1)] [.int (1 : Int32)] _ i_62_177 rfl ?_
        obtain rfl := Option.some.inj hd
        exact wp_iretZ (z := 0) i_62_181 (by decide) ⟨rfl, rfl⟩
    rw [if_neg c_18] at hd
    by_cases c_21 : x1 = (11 : Int32)
    · rw [if_pos c_21] at hd
      refine wp_tswC (j := 11) 182 i_62_38 (by rw [c_21]; decide) (by decide) rfl rfl ?_
      refine wp_s 183 [some (.ref 3), some (.int x1)] [.ref 3] _ i_62_182 rfl ?_
      obtain ⟨k_22, hd⟩ := dk_if hd
      refine hm_dyn 186 rfl i_62_183 (cb rfl) kk_3 (fun _ _ => rfl) (kd_ne0 (cO_iff k_22).2 (by decide)) ?_
      refine hm_get (w := .int (m.1 (m.2.2.1 3) 15)) 189 rfl i_62_186 (cO_iff k_22).1 (cO_iff k_22).2 rfl ?_
      refine wp_s 190 [some (.ref 3), some (.int x1)] [.int (5 : Int32), .int (m.1 (m.2.2.1 3) 15)] _ i_62_189 rfl ?_
      refine wp_cmp_lt 197 193 rfl rfl i_62_190 (fun c_23 => ?_) (fun c_23 => ?_)
      · rw [if_pos c_23] at hd
        refine wp_s 198 [some (.ref 3), some (.int x1)] [.int (0 : Int32)] _ i_62_197 rfl ?_
        obtain rfl := Option.some.inj hd
        exact wp_iretZ (z := 0) i_62_198 (by decide) ⟨rfl, rfl⟩
      · rw [if_neg c_23] at hd
        refine wp_s 194 [some (.ref 3), some (.int x1)] [.int (1 : Int32)] _ i_62_193 rfl ?_
        refine wp_s 198 [some (.ref 3), some (.int x1)] [.int (1 : Int32)] _ i_62_194 rfl ?_
        obtain rfl := Option.some.inj hd
        exact wp_iretZ (z := 0) i_62_198 (by decide) ⟨rfl, rfl⟩
    rw [if_neg c_21] at hd
    by_cases c_24 : x1 = (12 : Int32)
    · rw [if_pos c_24] at hd
      refine wp_tswC (j := 12) 199 i_62_38 (by rw [c_24]; decide) (by decide) rfl rfl ?_
      refine wp_s 200 [some (.ref 3), some (.int x1)] [.ref 3] _ i_62_199 rfl ?_
      obtain ⟨k_25, hd⟩ := dk_if hd
      refine hm_dyn 203 rfl i_62_200 (cb rfl) kk_3 (fun _ _ => rfl) (kd_ne0 (cO_iff k_25).2 (by decide)) ?_
      refine hm_get (w := .int (m.1 (m.2.2.1 3) 15)) 206 rfl i_62_203 (cO_iff k_25).1 (cO_iff k_25).2 rfl ?_
      refine wp_s 207 [some (.ref 3), some (.int x1)] [.int (5 : Int32), .int (m.1 (m.2.2.1 3) 15)] _ i_62_206 rfl ?_
      refine wp_cmp_lt 214 210 rfl rfl i_62_207 (fun c_26 => ?_) (fun c_26 => ?_)
      · rw [if_pos c_26] at hd
        refine wp_s 215 [some (.ref 3), some (.int x1)] [.int (0 : Int32)] _ i_62_214 rfl ?_
        obtain rfl := Option.some.inj hd
        exact wp_iretZ (z := 0) i_62_215 (by decide) ⟨rfl, rfl⟩
      · rw [if_neg c_26] at hd
        refine wp_s 211 [some (.ref 3), some (.int x1)] [.int (1 : Int32)] _ i_62_210 rfl ?_
        refine wp_s 215 [some (.ref 3), some (.int x1)] [.int (1 : Int32)] _ i_62_211 rfl ?_
        obtain rfl := Option.some.inj hd
        exact wp_iretZ (z := 0) i_62_215 (by decide) ⟨rfl, rfl⟩
    rw [if_neg c_24] at hd
    by_cases c_27 : x1 = (13 : Int32)
    · rw [if_pos c_27] at hd
      refine wp_tswC (j := 13) 224 i_62_38 (by rw [c_27]; decide) (by decide) rfl rfl ?_
      refine wp_s 225 [some (.ref 3), some (.int x1)] [.int (0 : Int32)] _ i_62_224 rfl ?_
      obtain rfl := Option.some.inj hd
      exact wp_iretZ (z := 0) i_62_225 (by decide) ⟨rfl, rfl⟩
    rw [if_neg c_27] at hd
    by_cases c_28 : x1 = (14 : Int32)
    · rw [if_pos c_28] at hd
      refine wp_tswC (j := 14) 216 i_62_38 (by rw [c_28]; decide) (by decide) rfl rfl ?_
      refine wp_s 217 [some (.ref 3), some (.int x1)] [.ref 3] _ i_62_216 rfl ?_
      obtain ⟨k_29, hd⟩ := dk_if hd
      refine hm_dyn 220 rfl i_62_217 (cb rfl) kk_3 (fun _ _ => rfl) (kd_ne0 (cO_iff k_29).2 (by decide)) ?_
      refine hm_get (w := .int (m.1 (m.2.2.1 3) 3)) 223 rfl i_62_220 (cO_iff k_29).1 (cO_iff k_29).2 rfl ?_
      obtain ⟨k_30, hd⟩ := dk_if hd
      obtain rfl := Option.some.inj hd
      exact wp_iretZ (z := 0) i_62_223 k_30 ⟨rfl, rfl⟩
    rw [if_neg c_28] at hd
    have o_31 : (x1).toInt < (0 : Int) ∨ (14 : Int) < (x1).toInt := by
      have e_0 := lv_neT c_2 (a := 0) (by decide)
      have e_1 := lv_neT c_5 (a := 1) (by decide)
      have e_2 := lv_neT c_6 (a := 2) (by decide)
      have e_3 := lv_neT c_9 (a := 3) (by decide)
      have e_4 := lv_neT c_10 (a := 4) (by decide)
      have e_5 := lv_neT c_11 (a := 5) (by decide)
      have e_6 := lv_neT c_12 (a := 6) (by decide)
      have e_7 := lv_neT c_13 (a := 7) (by decide)
      have e_8 := lv_neT c_14 (a := 8) (by decide)
      have e_9 := lv_neT c_15 (a := 9) (by decide)
      have e_10 := lv_neT c_18 (a := 10) (by decide)
      have e_11 := lv_neT c_21 (a := 11) (by decide)
      have e_12 := lv_neT c_24 (a := 12) (by decide)
      have e_13 := lv_neT c_27 (a := 13) (by decide)
      have e_14 := lv_neT c_28 (a := 14) (by decide)
      omega
    refine wp_tswD 224 i_62_38 o_31 rfl ?_
    refine wp_s 225 [some (.ref 3), some (.int x1)] [.int (0 : Int32)] _ i_62_224 rfl ?_
    obtain rfl := Option.some.inj hd
    exact wp_iretZ (z := 0) i_62_225 (by decide) ⟨rfl, rfl⟩
  · rw [if_neg c_1] at hd
    refine wp_s 36 [some (.ref 3), some (.int x1)] [.int (1 : Int32)] _ i_62_35 rfl ?_
    obtain rfl := Option.some.inj hd
    exact wp_iretZ (z := 0) i_62_36 (by decide) ⟨rfl, rfl⟩
set_option maxHeartbeats 4000000 in
set_option maxRecDepth 100000 in
theorem j_62_20_ok {X : aX} {S : rS} {g : Nat} {x1 : Int32} {s0 : Int32} {m : cM} {zz : Int32} {d : Nat} (hdp : 0 ≤ d) (hd : j_62_20 g x1 s0 m = some zz) : aWp X d 62 20 [some (.ref 3), some (.int x1)] [.int s0] (hr m S) (fun w h' => w = some (.int zz) ∧ h' = hr m S) := by
  unfold j_62_20 at hd
  refine wp_s 21 [some (.ref 3), some (.int x1)] [.ref 3, .int s0] _ i_62_20 rfl ?_
  refine hm_get (w := .int (m.1 3 2)) 24 rfl i_62_21 (cb rfl) kk_3 rfl ?_
  refine wp_if_ne 31 27 rfl rfl i_62_24 (fun c_1 => ?_) (fun c_1 => ?_)
  · rw [if_pos c_1] at hd
    refine wp_s 32 [some (.ref 3), some (.int x1)] [.int (0 : Int32), .int s0] _ i_62_31 rfl ?_
    exact aWp.forget (j_62_32_ok hdp hd) (lvS (lvS lvE))
  · rw [if_neg c_1] at hd
    refine wp_s 28 [some (.ref 3), some (.int x1)] [.int (1 : Int32), .int s0] _ i_62_27 rfl ?_
    refine wp_s 32 [some (.ref 3), some (.int x1)] [.int (1 : Int32), .int s0] _ i_62_28 rfl ?_
    exact aWp.forget (j_62_32_ok hdp hd) (lvS (lvS lvE))
set_option maxHeartbeats 4000000 in
set_option maxRecDepth 100000 in
theorem d_62_ok {X : aX} {S : rS} {g : Nat} {x1 : Int32} {m : cM} {zz : Int32} {d : Nat} (hdp : 0 ≤ d) (hd : d_62 g x1 m = some zz) : aWp X d 62 0 (aEntL [.ref 3, .int x1] 2) [] (hr m S) (fun w h' => w = some (.int zz) ∧ h' = hr m S) := by
  unfold d_62 at hd
  refine wp_lv (l2 := [some (.ref 3), some (.int x1)]) rfl ?_
  refine wp_s 1 [some (.ref 3), some (.int x1)] [.ref 3] _ i_62_0 rfl ?_
  refine hm_get (w := .int (m.1 3 2)) 4 rfl i_62_1 (cb rfl) kk_3 rfl ?_
  refine wp_s 6 [some (.ref 3), some (.int x1)] [.int (40 : Int32), .int (m.1 3 2)] _ i_62_4 rfl ?_
  refine wp_cmp_ge 35 9 rfl rfl i_62_6 (fun c_1 => ?_) (fun c_1 => ?_)
  · rw [if_pos c_1] at hd
    refine wp_s 36 [some (.ref 3), some (.int x1)] [.int (1 : Int32)] _ i_62_35 rfl ?_
    obtain rfl := Option.some.inj hd
    exact wp_iretZ (z := 0) i_62_36 (by decide) ⟨rfl, rfl⟩
  · rw [if_neg c_1] at hd
    refine wp_s 10 [some (.ref 3), some (.int x1)] [.int x1] _ i_62_9 rfl ?_
    refine wp_s 12 [some (.ref 3), some (.int x1)] [.int (8 : Int32), .int x1] _ i_62_10 rfl ?_
    refine wp_cmp_ne 19 15 rfl rfl i_62_12 (fun c_2 => ?_) (fun c_2 => ?_)
    · rw [if_pos c_2] at hd
      refine wp_s 20 [some (.ref 3), some (.int x1)] [.int (0 : Int32)] _ i_62_19 rfl ?_
      exact aWp.forget (j_62_20_ok hdp hd) (lvS (lvS lvE))
    · rw [if_neg c_2] at hd
      refine wp_s 16 [some (.ref 3), some (.int x1)] [.int (1 : Int32)] _ i_62_15 rfl ?_
      refine wp_s 20 [some (.ref 3), some (.int x1)] [.int (1 : Int32)] _ i_62_16 rfl ?_
      exact aWp.forget (j_62_20_ok hdp hd) (lvS (lvS lvE))
set_option maxHeartbeats 4000000 in
set_option maxRecDepth 100000 in
theorem d_69_ok {X : aX} {S : rS} {g : Nat} {x1 : Int32} {x2 : Int32} {m : cM} {zz : Int32 × cM} {d : Nat} (hdp : 2 ≤ d) (hd : d_69 g x1 x2 m = some zz) : aWp X d 69 0 (aEntL [.ref 3, .int x1, .int x2] 4) [] (hr m S) (fun w h' => w = some (.int zz.1) ∧ h' = hr zz.2 S) := by
  unfold d_69 at hd
  refine wp_lv (l2 := [some (.ref 3), some (.int x1), some (.int x2), none]) rfl ?_
  obtain ⟨e, rfl⟩ : ∃ e, d = e + 1 := ⟨d - 1, by omega⟩
  refine wp_s 1 [some (.ref 3), some (.int x1), some (.int x2), none] [.ref 3] _ i_69_0 rfl ?_
  refine hm_get (w := .ref 1) 4 rfl i_69_1 (cb rfl) kk_3 rfl ?_
  refine hm_get (w := .int (m.1 1 3)) 7 rfl i_69_4 (cb rfl) kk_1 rfl ?_
  refine wp_s 9 [some (.ref 3), some (.int x1), some (.int x2), none] [.int (20 : Int32), .int (m.1 1 3)] _ i_69_7 rfl ?_
  refine wp_cmp_eq 22 12 rfl rfl i_69_9 (fun c_1 => ?_) (fun c_1 => ?_)
  · rw [if_pos c_1] at hd
    refine wp_s 23 [some (.ref 3), some (.int x1), some (.int x2), none] [.ref 3] _ i_69_22 rfl ?_
    refine hm_get (w := .ref 1) 26 rfl i_69_23 (cb rfl) kk_3 rfl ?_
    refine hm_get (w := .int (m.1 1 5)) 29 rfl i_69_26 (cb rfl) kk_1 rfl ?_
    refine wp_s 30 [some (.ref 3), some (.int x1), some (.int x2), some (.int (m.1 1 5))] [] _ i_69_29 rfl ?_
    refine wp_s 31 [some (.ref 3), some (.int x1), some (.int x2), some (.int (m.1 1 5))] [.int (m.1 1 5)] _ i_69_30 rfl ?_
    refine wp_s 32 [some (.ref 3), some (.int x1), some (.int x2), some (.int (m.1 1 5))] [.int x1, .int (m.1 1 5)] _ i_69_31 rfl ?_
    refine wp_s 33 [some (.ref 3), some (.int x1), some (.int x2), some (.int (m.1 1 5))] [.int x2, .int x1, .int (m.1 1 5)] _ i_69_32 rfl ?_
    obtain ⟨z_2, q_3, hd⟩ := dk_bind hd
    refine wp_callS 36 rfl i_69_33 (by decide) (vs := [.int (m.1 1 5), .int x1, .int x2]) (rest := []) rfl rfl rfl (y := m_138) rfl (Nat.le_of_ble_eq_true rfl) (d_138_ok (S := S) (d := e) (by omega) q_3) ?_
    rintro v_4 h_5 ⟨rfl, rfl⟩
    refine wp_if_ne 49 39 rfl rfl i_69_36 (fun c_6 => ?_) (fun c_6 => ?_)
    · rw [if_pos c_6] at hd
      refine wp_s 50 [some (.ref 3), some (.int x1), some (.int x2), some (.int (m.1 1 5))] [.ref 3] _ i_69_49 rfl ?_
      refine hm_get (w := .ref 1) 53 rfl i_69_50 (cb rfl) kk_3 rfl ?_
      obtain ⟨z_7, q_8, hd⟩ := dk_bind hd
      refine wp_callV 56 rfl i_69_53 (by decide) rfl (vs := []) (rest := []) rfl rfl rfl (hm_isO (cb rfl) kk_1) (y := m_84) rfl (Nat.le_of_ble_eq_true rfl) (d_84_ok (S := S) (d := e) (by omega) q_8) ?_
      rintro v_9 h_10 ⟨rfl, rfl⟩
      refine wp_s 57 [some (.ref 3), some (.int x1), some (.int x2), some (.int (m.1 1 5))] [.int (m.1 1 5)] _ i_69_56 rfl ?_
      obtain rfl := Option.some.inj hd
      exact wp_iret i_69_57 ⟨rfl, rfl⟩
    · rw [if_neg c_6] at hd
      refine wp_s 40 [some (.ref 3), some (.int x1), some (.int x2), some (.int (m.1 1 5))] [.ref 3] _ i_69_39 rfl ?_
      refine hm_get (w := .ref 1) 43 rfl i_69_40 (cb rfl) kk_3 rfl ?_
      refine wp_s 44 [some (.ref 3), some (.int x1), some (.int x2), some (.int (m.1 1 5))] [.int (1 : Int32), .ref 1] _ i_69_43 rfl ?_
      obtain ⟨z_11, q_12, hd⟩ := dk_bind hd
      refine wp_callV 47 rfl i_69_44 (by decide) rfl (vs := [.int (1 : Int32)]) (rest := []) rfl rfl rfl (hm_isO (cb rfl) kk_1) (y := m_83) rfl (Nat.le_of_ble_eq_true rfl) (d_83_ok (S := S) (d := e) (by omega) q_12) ?_
      rintro v_13 h_14 ⟨rfl, rfl⟩
      refine wp_s 48 [some (.ref 3), some (.int x1), some (.int x2), some (.int (m.1 1 5))] [.int (0 : Int32)] _ i_69_47 rfl ?_
      obtain rfl := Option.some.inj hd
      exact wp_iret i_69_48 ⟨rfl, rfl⟩
  · rw [if_neg c_1] at hd
    refine wp_s 13 [some (.ref 3), some (.int x1), some (.int x2), none] [.ref 3] _ i_69_12 rfl ?_
    refine hm_get (w := .ref 1) 16 rfl i_69_13 (cb rfl) kk_3 rfl ?_
    refine wp_s 17 [some (.ref 3), some (.int x1), some (.int x2), none] [.int (0 : Int32), .ref 1] _ i_69_16 rfl ?_
    obtain ⟨z_15, q_16, hd⟩ := dk_bind hd
    refine wp_callV 20 rfl i_69_17 (by decide) rfl (vs := [.int (0 : Int32)]) (rest := []) rfl rfl rfl (hm_isO (cb rfl) kk_1) (y := m_83) rfl (Nat.le_of_ble_eq_true rfl) (d_83_ok (S := S) (d := e) (by omega) q_16) ?_
    rintro v_17 h_18 ⟨rfl, rfl⟩
    refine wp_s 21 [some (.ref 3), some (.int x1), some (.int x2), none] [.int (0 : Int32)] _ i_69_20 rfl ?_
    obtain rfl := Option.some.inj hd
    exact wp_iret i_69_21 ⟨rfl, rfl⟩
set_option maxHeartbeats 4000000 in
set_option maxRecDepth 100000 in
theorem d_63_ok {X : aX} {S : rS} {g : Nat}  {m : cM} {zz : cM} {d : Nat} (hdp : 3 ≤ d) (hd : d_63 g  m = some zz) : aWp X d 63 0 (aEntL [.ref 3] 1) [] (hr m S) (fun w h' => w = none ∧ h' = hr zz S) := by
  unfold d_63 at hd
  refine wp_lv (l2 := [some (.ref 3)]) rfl ?_
  obtain ⟨e, rfl⟩ : ∃ e, d = e + 1 := ⟨d - 1, by omega⟩
  refine wp_s 1 [some (.ref 3)] [.ref 3] _ i_63_0 rfl ?_
  obtain ⟨k_1, hd⟩ := dk_if hd
  refine hm_dyn 4 rfl i_63_1 (cb rfl) kk_3 (fun _ _ => rfl) (kd_ne0 (cO_iff k_1).2 (by decide)) ?_
  refine wp_s 5 [some (.ref 3)] [.ref 3, .ref (m.2.2.1 3)] _ i_63_4 rfl ?_
  refine wp_s 6 [some (.ref 3)] [.int (0 : Int32), .ref 3, .ref (m.2.2.1 3)] _ i_63_5 rfl ?_
  refine wp_s 9 [some (.ref 3)] [.int (999 : Int32), .int (0 : Int32), .ref 3, .ref (m.2.2.1 3)] _ i_63_6 rfl ?_
  obtain ⟨z_2, q_3, hd⟩ := dk_bind hd
  refine wp_callV 12 rfl i_63_9 (by decide) rfl (vs := [.int (0 : Int32), .int (999 : Int32)]) (rest := [.ref (m.2.2.1 3)]) rfl rfl rfl (hm_isO (cb rfl) kk_3) (y := m_69) rfl (Nat.le_of_ble_eq_true rfl) (d_69_ok (S := S) (d := e) (by omega) q_3) ?_
  rintro v_4 h_5 ⟨rfl, rfl⟩
  obtain ⟨k_6, hd⟩ := dk_if hd
  obtain ⟨mm_7, q_8, hd⟩ := dk_bind hd
  refine hm_put 15 rfl i_63_12 (cO_iff k_6).1 (cO_iff k_6).2 (fun _ _ => rfl) (fun _ _ => Nat.le_of_ble_eq_true rfl) rfl ?_
  rw [Option.some.inj q_8]
  refine wp_s 16 [some (.ref 3)] [.ref 3] _ i_63_15 rfl ?_
  obtain ⟨k_9, hd⟩ := dk_if hd
  refine hm_dyn 19 rfl i_63_16 (cb rfl) kk_3 (fun _ _ => rfl) (kd_ne0 (cO_iff k_9).2 (by decide)) ?_
  refine wp_s 20 [some (.ref 3)] [.ref 3, .ref (mm_7.2.2.1 3)] _ i_63_19 rfl ?_
  refine wp_s 21 [some (.ref 3)] [.int (0 : Int32), .ref 3, .ref (mm_7.2.2.1 3)] _ i_63_20 rfl ?_
  refine wp_s 24 [some (.ref 3)] [.int (9999 : Int32), .int (0 : Int32), .ref 3, .ref (mm_7.2.2.1 3)] _ i_63_21 rfl ?_
  obtain ⟨z_10, q_11, hd⟩ := dk_bind hd
  refine wp_callV 27 rfl i_63_24 (by decide) rfl (vs := [.int (0 : Int32), .int (9999 : Int32)]) (rest := [.ref (mm_7.2.2.1 3)]) rfl rfl rfl (hm_isO (cb rfl) kk_3) (y := m_69) rfl (Nat.le_of_ble_eq_true rfl) (d_69_ok (S := S) (d := e) (by omega) q_11) ?_
  rintro v_12 h_13 ⟨rfl, rfl⟩
  obtain ⟨k_14, hd⟩ := dk_if hd
  obtain ⟨mm_15, q_16, hd⟩ := dk_bind hd
  refine hm_put 30 rfl i_63_27 (cO_iff k_14).1 (cO_iff k_14).2 (fun _ _ => rfl) (fun _ _ => Nat.le_of_ble_eq_true rfl) rfl ?_
  rw [Option.some.inj q_16]
  obtain rfl := Option.some.inj hd
  exact wp_ret i_63_30 rfl ⟨rfl, rfl⟩
set_option maxHeartbeats 4000000 in
set_option maxRecDepth 100000 in
theorem d_64_ok {X : aX} {S : rS} {g : Nat}  {m : cM} {zz : cM} {d : Nat} (hdp : 3 ≤ d) (hd : d_64 g  m = some zz) : aWp X d 64 0 (aEntL [.ref 3] 2) [] (hr m S) (fun w h' => w = none ∧ h' = hr zz S) := by
  unfold d_64 at hd
  refine wp_lv (l2 := [some (.ref 3), none]) rfl ?_
  obtain ⟨e, rfl⟩ : ∃ e, d = e + 1 := ⟨d - 1, by omega⟩
  refine wp_s 1 [some (.ref 3), none] [.ref 3] _ i_64_0 rfl ?_
  obtain ⟨k_1, hd⟩ := dk_if hd
  refine hm_dyn 4 rfl i_64_1 (cb rfl) kk_3 (fun _ _ => rfl) (kd_ne0 (cO_iff k_1).2 (by decide)) ?_
  refine hm_get (w := .int (m.1 (m.2.2.1 3) 4)) 7 rfl i_64_4 (cO_iff k_1).1 (cO_iff k_1).2 rfl ?_
  refine wp_s 8 [some (.ref 3), some (.int (m.1 (m.2.2.1 3) 4))] [] _ i_64_7 rfl ?_
  refine wp_s 9 [some (.ref 3), some (.int (m.1 (m.2.2.1 3) 4))] [.ref 3] _ i_64_8 rfl ?_
  refine hm_dyn 12 rfl i_64_9 (cb rfl) kk_3 (fun _ _ => rfl) (kd_ne0 (cO_iff k_1).2 (by decide)) ?_
  refine hm_get (w := .ref ((m.2.2.1 3) + 1)) 15 rfl i_64_12 (cO_iff k_1).1 (cO_iff k_1).2 rfl ?_
  refine wp_s 16 [some (.ref 3), some (.int (m.1 (m.2.2.1 3) 4))] [.int (m.1 (m.2.2.1 3) 4), .ref ((m.2.2.1 3) + 1)] _ i_64_15 rfl ?_
  refine wp_s 17 [some (.ref 3), some (.int (m.1 (m.2.2.1 3) 4))] [.ref 3, .int (m.1 (m.2.2.1 3) 4), .ref ((m.2.2.1 3) + 1)] _ i_64_16 rfl ?_
  refine wp_s 18 [some (.ref 3), some (.int (m.1 (m.2.2.1 3) 4))] [.int (1 : Int32), .ref 3, .int (m.1 (m.2.2.1 3) 4), .ref ((m.2.2.1 3) + 1)] _ i_64_17 rfl ?_
  refine wp_s 21 [some (.ref 3), some (.int (m.1 (m.2.2.1 3) 4))] [.int (5000 : Int32), .int (1 : Int32), .ref 3, .int (m.1 (m.2.2.1 3) 4), .ref ((m.2.2.1 3) + 1)] _ i_64_18 rfl ?_
  obtain ⟨z_2, q_3, hd⟩ := dk_bind hd
  refine wp_callV 24 rfl i_64_21 (by decide) rfl (vs := [.int (1 : Int32), .int (5000 : Int32)]) (rest := [.int (m.1 (m.2.2.1 3) 4), .ref ((m.2.2.1 3) + 1)]) rfl rfl rfl (hm_isO (cb rfl) kk_3) (y := m_69) rfl (Nat.le_of_ble_eq_true rfl) (d_69_ok (S := S) (d := e) (by omega) q_3) ?_
  rintro v_4 h_5 ⟨rfl, rfl⟩
  obtain ⟨k_6, hd⟩ := dk_if hd
  obtain ⟨k_7, hd⟩ := dk_if hd
  obtain ⟨mm_8, q_9, hd⟩ := dk_bind hd
  refine hm_iast 25 rfl i_64_24 (kb_5_1 (cO_iff k_6).1 (cO_iff k_6).2) (kr_5_1 (cO_iff k_6).2) k_7 ?_
  rw [Option.some.inj q_9]
  refine wp_s 26 [some (.ref 3), some (.int (m.1 (m.2.2.1 3) 4))] [.ref 3] _ i_64_25 rfl ?_
  obtain ⟨k_10, hd⟩ := dk_if hd
  refine hm_dyn 29 rfl i_64_26 (cb rfl) kk_3 (fun _ _ => rfl) (kd_ne0 (cO_iff k_10).2 (by decide)) ?_
  refine hm_get (w := .ref ((mm_8.2.2.1 3) + 2)) 32 rfl i_64_29 (cO_iff k_10).1 (cO_iff k_10).2 rfl ?_
  refine wp_s 33 [some (.ref 3), some (.int (m.1 (m.2.2.1 3) 4))] [.int (m.1 (m.2.2.1 3) 4), .ref ((mm_8.2.2.1 3) + 2)] _ i_64_32 rfl ?_
  refine wp_s 34 [some (.ref 3), some (.int (m.1 (m.2.2.1 3) 4))] [.ref 3, .int (m.1 (m.2.2.1 3) 4), .ref ((mm_8.2.2.1 3) + 2)] _ i_64_33 rfl ?_
  refine wp_s 35 [some (.ref 3), some (.int (m.1 (m.2.2.1 3) 4))] [.int (0 : Int32), .ref 3, .int (m.1 (m.2.2.1 3) 4), .ref ((mm_8.2.2.1 3) + 2)] _ i_64_34 rfl ?_
  refine wp_s 38 [some (.ref 3), some (.int (m.1 (m.2.2.1 3) 4))] [.int (5000 : Int32), .int (0 : Int32), .ref 3, .int (m.1 (m.2.2.1 3) 4), .ref ((mm_8.2.2.1 3) + 2)] _ i_64_35 rfl ?_
  obtain ⟨z_11, q_12, hd⟩ := dk_bind hd
  refine wp_callV 41 rfl i_64_38 (by decide) rfl (vs := [.int (0 : Int32), .int (5000 : Int32)]) (rest := [.int (m.1 (m.2.2.1 3) 4), .ref ((mm_8.2.2.1 3) + 2)]) rfl rfl rfl (hm_isO (cb rfl) kk_3) (y := m_69) rfl (Nat.le_of_ble_eq_true rfl) (d_69_ok (S := S) (d := e) (by omega) q_12) ?_
  rintro v_13 h_14 ⟨rfl, rfl⟩
  obtain ⟨k_15, hd⟩ := dk_if hd
  obtain ⟨k_16, hd⟩ := dk_if hd
  obtain ⟨mm_17, q_18, hd⟩ := dk_bind hd
  refine hm_iast 42 rfl i_64_41 (kb_5_2 (cO_iff k_15).1 (cO_iff k_15).2) (kr_5_2 (cO_iff k_15).2) k_16 ?_
  rw [Option.some.inj q_18]
  refine wp_s 43 [some (.ref 3), some (.int (m.1 (m.2.2.1 3) 4))] [.ref 3] _ i_64_42 rfl ?_
  obtain ⟨k_19, hd⟩ := dk_if hd
  refine hm_dyn 46 rfl i_64_43 (cb rfl) kk_3 (fun _ _ => rfl) (kd_ne0 (cO_iff k_19).2 (by decide)) ?_
  refine hm_get (w := .ref ((mm_17.2.2.1 3) + 3)) 49 rfl i_64_46 (cO_iff k_19).1 (cO_iff k_19).2 rfl ?_
  refine wp_s 50 [some (.ref 3), some (.int (m.1 (m.2.2.1 3) 4))] [.int (m.1 (m.2.2.1 3) 4), .ref ((mm_17.2.2.1 3) + 3)] _ i_64_49 rfl ?_
  refine wp_s 51 [some (.ref 3), some (.int (m.1 (m.2.2.1 3) 4))] [.ref 3, .int (m.1 (m.2.2.1 3) 4), .ref ((mm_17.2.2.1 3) + 3)] _ i_64_50 rfl ?_
  refine wp_s 52 [some (.ref 3), some (.int (m.1 (m.2.2.1 3) 4))] [.int (0 : Int32), .ref 3, .int (m.1 (m.2.2.1 3) 4), .ref ((mm_17.2.2.1 3) + 3)] _ i_64_51 rfl ?_
  refine wp_s 54 [some (.ref 3), some (.int (m.1 (m.2.2.1 3) 4))] [.int (9 : Int32), .int (0 : Int32), .ref 3, .int (m.1 (m.2.2.1 3) 4), .ref ((mm_17.2.2.1 3) + 3)] _ i_64_52 rfl ?_
  obtain ⟨z_20, q_21, hd⟩ := dk_bind hd
  refine wp_callV 57 rfl i_64_54 (by decide) rfl (vs := [.int (0 : Int32), .int (9 : Int32)]) (rest := [.int (m.1 (m.2.2.1 3) 4), .ref ((mm_17.2.2.1 3) + 3)]) rfl rfl rfl (hm_isO (cb rfl) kk_3) (y := m_69) rfl (Nat.le_of_ble_eq_true rfl) (d_69_ok (S := S) (d := e) (by omega) q_21) ?_
  rintro v_22 h_23 ⟨rfl, rfl⟩
  obtain ⟨k_24, hd⟩ := dk_if hd
  obtain ⟨k_25, hd⟩ := dk_if hd
  obtain ⟨mm_26, q_27, hd⟩ := dk_bind hd
  refine hm_iast 58 rfl i_64_57 (kb_5_3 (cO_iff k_24).1 (cO_iff k_24).2) (kr_5_3 (cO_iff k_24).2) k_25 ?_
  rw [Option.some.inj q_27]
  refine wp_s 59 [some (.ref 3), some (.int (m.1 (m.2.2.1 3) 4))] [.ref 3] _ i_64_58 rfl ?_
  obtain ⟨k_28, hd⟩ := dk_if hd
  refine hm_dyn 62 rfl i_64_59 (cb rfl) kk_3 (fun _ _ => rfl) (kd_ne0 (cO_iff k_28).2 (by decide)) ?_
  refine wp_s 63 [some (.ref 3), some (.int (m.1 (m.2.2.1 3) 4))] [.ref (mm_26.2.2.1 3), .ref (mm_26.2.2.1 3)] _ i_64_62 rfl ?_
  refine hm_get (w := .int (mm_26.1 (mm_26.2.2.1 3) 4)) 66 rfl i_64_63 (cO_iff k_28).1 (cO_iff k_28).2 rfl ?_
  refine wp_s 67 [some (.ref 3), some (.int (m.1 (m.2.2.1 3) 4))] [.int (1 : Int32), .int (mm_26.1 (mm_26.2.2.1 3) 4), .ref (mm_26.2.2.1 3)] _ i_64_66 rfl ?_
  refine wp_s 68 [some (.ref 3), some (.int (m.1 (m.2.2.1 3) 4))] [.int ((mm_26.1 (mm_26.2.2.1 3) 4) + (1 : Int32)), .ref (mm_26.2.2.1 3)] _ i_64_67 rfl ?_
  obtain ⟨mm_29, q_30, hd⟩ := dk_bind hd
  refine hm_put 71 rfl i_64_68 (cO_iff k_28).1 (cO_iff k_28).2 (fun _ _ => rfl) (fun _ _ => Nat.le_of_ble_eq_true rfl) rfl ?_
  rw [Option.some.inj q_30]
  obtain rfl := Option.some.inj hd
  exact wp_ret i_64_71 rfl ⟨rfl, rfl⟩
set_option maxHeartbeats 4000000 in
set_option maxRecDepth 100000 in
theorem d_65_ok {X : aX} {S : rS} {g : Nat}  {m : cM} {zz : cM} {d : Nat} (hdp : 3 ≤ d) (hd : d_65 g  m = some zz) : aWp X d 65 0 (aEntL [.ref 3] 2) [] (hr m S) (fun w h' => w = none ∧ h' = hr zz S) := by
  unfold d_65 at hd
  refine wp_lv (l2 := [some (.ref 3), none]) rfl ?_
  obtain ⟨e, rfl⟩ : ∃ e, d = e + 1 := ⟨d - 1, by omega⟩
  refine wp_s 1 [some (.ref 3), none] [.ref 3] _ i_65_0 rfl ?_
  obtain ⟨k_1, hd⟩ := dk_if hd
  refine hm_dyn 4 rfl i_65_1 (cb rfl) kk_3 (fun _ _ => rfl) (kd_ne0 (cO_iff k_1).2 (by decide)) ?_
  refine hm_get (w := .int (m.1 (m.2.2.1 3) 8)) 7 rfl i_65_4 (cO_iff k_1).1 (cO_iff k_1).2 rfl ?_
  refine wp_s 8 [some (.ref 3), some (.int (m.1 (m.2.2.1 3) 8))] [] _ i_65_7 rfl ?_
  refine wp_s 9 [some (.ref 3), some (.int (m.1 (m.2.2.1 3) 8))] [.ref 3] _ i_65_8 rfl ?_
  refine hm_dyn 12 rfl i_65_9 (cb rfl) kk_3 (fun _ _ => rfl) (kd_ne0 (cO_iff k_1).2 (by decide)) ?_
  refine hm_get (w := .ref ((m.2.2.1 3) + 4)) 15 rfl i_65_12 (cO_iff k_1).1 (cO_iff k_1).2 rfl ?_
  refine wp_s 16 [some (.ref 3), some (.int (m.1 (m.2.2.1 3) 8))] [.int (m.1 (m.2.2.1 3) 8), .ref ((m.2.2.1 3) + 4)] _ i_65_15 rfl ?_
  refine wp_s 17 [some (.ref 3), some (.int (m.1 (m.2.2.1 3) 8))] [.ref 3, .int (m.1 (m.2.2.1 3) 8), .ref ((m.2.2.1 3) + 4)] _ i_65_16 rfl ?_
  refine wp_s 18 [some (.ref 3), some (.int (m.1 (m.2.2.1 3) 8))] [.int (0 : Int32), .ref 3, .int (m.1 (m.2.2.1 3) 8), .ref ((m.2.2.1 3) + 4)] _ i_65_17 rfl ?_
  refine wp_s 19 [some (.ref 3), some (.int (m.1 (m.2.2.1 3) 8))] [.ref 3, .int (0 : Int32), .ref 3, .int (m.1 (m.2.2.1 3) 8), .ref ((m.2.2.1 3) + 4)] _ i_65_18 rfl ?_
  refine hm_dyn 22 rfl i_65_19 (cb rfl) kk_3 (fun _ _ => rfl) (kd_ne0 (cO_iff k_1).2 (by decide)) ?_
  refine hm_get (w := .int (m.1 (m.2.2.1 3) 4)) 25 rfl i_65_22 (cO_iff k_1).1 (cO_iff k_1).2 rfl ?_
  refine wp_s 26 [some (.ref 3), some (.int (m.1 (m.2.2.1 3) 8))] [.int (1 : Int32), .int (m.1 (m.2.2.1 3) 4), .int (0 : Int32), .ref 3, .int (m.1 (m.2.2.1 3) 8), .ref ((m.2.2.1 3) + 4)] _ i_65_25 rfl ?_
  refine wp_s 27 [some (.ref 3), some (.int (m.1 (m.2.2.1 3) 8))] [.int ((m.1 (m.2.2.1 3) 4) - (1 : Int32)), .int (0 : Int32), .ref 3, .int (m.1 (m.2.2.1 3) 8), .ref ((m.2.2.1 3) + 4)] _ i_65_26 rfl ?_
  obtain ⟨z_2, q_3, hd⟩ := dk_bind hd
  refine wp_callV 30 rfl i_65_27 (by decide) rfl (vs := [.int (0 : Int32), .int ((m.1 (m.2.2.1 3) 4) - (1 : Int32))]) (rest := [.int (m.1 (m.2.2.1 3) 8), .ref ((m.2.2.1 3) + 4)]) rfl rfl rfl (hm_isO (cb rfl) kk_3) (y := m_69) rfl (Nat.le_of_ble_eq_true rfl) (d_69_ok (S := S) (d := e) (by omega) q_3) ?_
  rintro v_4 h_5 ⟨rfl, rfl⟩
  obtain ⟨k_6, hd⟩ := dk_if hd
  obtain ⟨k_7, hd⟩ := dk_if hd
  obtain ⟨mm_8, q_9, hd⟩ := dk_bind hd
  refine hm_iast 31 rfl i_65_30 (kb_5_4 (cO_iff k_6).1 (cO_iff k_6).2) (kr_5_4 (cO_iff k_6).2) k_7 ?_
  rw [Option.some.inj q_9]
  refine wp_s 32 [some (.ref 3), some (.int (m.1 (m.2.2.1 3) 8))] [.ref 3] _ i_65_31 rfl ?_
  obtain ⟨k_10, hd⟩ := dk_if hd
  refine hm_dyn 35 rfl i_65_32 (cb rfl) kk_3 (fun _ _ => rfl) (kd_ne0 (cO_iff k_10).2 (by decide)) ?_
  refine hm_get (w := .ref ((mm_8.2.2.1 3) + 5)) 38 rfl i_65_35 (cO_iff k_10).1 (cO_iff k_10).2 rfl ?_
  refine wp_s 39 [some (.ref 3), some (.int (m.1 (m.2.2.1 3) 8))] [.int (m.1 (m.2.2.1 3) 8), .ref ((mm_8.2.2.1 3) + 5)] _ i_65_38 rfl ?_
  refine wp_s 40 [some (.ref 3), some (.int (m.1 (m.2.2.1 3) 8))] [.ref 3, .int (m.1 (m.2.2.1 3) 8), .ref ((mm_8.2.2.1 3) + 5)] _ i_65_39 rfl ?_
  refine wp_s 41 [some (.ref 3), some (.int (m.1 (m.2.2.1 3) 8))] [.int (0 : Int32), .ref 3, .int (m.1 (m.2.2.1 3) 8), .ref ((mm_8.2.2.1 3) + 5)] _ i_65_40 rfl ?_
  refine wp_s 43 [some (.ref 3), some (.int (m.1 (m.2.2.1 3) 8))] [.int (30 : Int32), .int (0 : Int32), .ref 3, .int (m.1 (m.2.2.1 3) 8), .ref ((mm_8.2.2.1 3) + 5)] _ i_65_41 rfl ?_
  obtain ⟨z_11, q_12, hd⟩ := dk_bind hd
  refine wp_callV 46 rfl i_65_43 (by decide) rfl (vs := [.int (0 : Int32), .int (30 : Int32)]) (rest := [.int (m.1 (m.2.2.1 3) 8), .ref ((mm_8.2.2.1 3) + 5)]) rfl rfl rfl (hm_isO (cb rfl) kk_3) (y := m_69) rfl (Nat.le_of_ble_eq_true rfl) (d_69_ok (S := S) (d := e) (by omega) q_12) ?_
  rintro v_13 h_14 ⟨rfl, rfl⟩
  obtain ⟨k_15, hd⟩ := dk_if hd
  obtain ⟨k_16, hd⟩ := dk_if hd
  obtain ⟨mm_17, q_18, hd⟩ := dk_bind hd
  refine hm_iast 47 rfl i_65_46 (kb_5_5 (cO_iff k_15).1 (cO_iff k_15).2) (kr_5_5 (cO_iff k_15).2) k_16 ?_
  rw [Option.some.inj q_18]
  refine wp_s 48 [some (.ref 3), some (.int (m.1 (m.2.2.1 3) 8))] [.ref 3] _ i_65_47 rfl ?_
  obtain ⟨k_19, hd⟩ := dk_if hd
  refine hm_dyn 51 rfl i_65_48 (cb rfl) kk_3 (fun _ _ => rfl) (kd_ne0 (cO_iff k_19).2 (by decide)) ?_
  refine wp_s 52 [some (.ref 3), some (.int (m.1 (m.2.2.1 3) 8))] [.ref (mm_17.2.2.1 3), .ref (mm_17.2.2.1 3)] _ i_65_51 rfl ?_
  refine hm_get (w := .int (mm_17.1 (mm_17.2.2.1 3) 8)) 55 rfl i_65_52 (cO_iff k_19).1 (cO_iff k_19).2 rfl ?_
  refine wp_s 56 [some (.ref 3), some (.int (m.1 (m.2.2.1 3) 8))] [.int (1 : Int32), .int (mm_17.1 (mm_17.2.2.1 3) 8), .ref (mm_17.2.2.1 3)] _ i_65_55 rfl ?_
  refine wp_s 57 [some (.ref 3), some (.int (m.1 (m.2.2.1 3) 8))] [.int ((mm_17.1 (mm_17.2.2.1 3) 8) + (1 : Int32)), .ref (mm_17.2.2.1 3)] _ i_65_56 rfl ?_
  obtain ⟨mm_20, q_21, hd⟩ := dk_bind hd
  refine hm_put 60 rfl i_65_57 (cO_iff k_19).1 (cO_iff k_19).2 (fun _ _ => rfl) (fun _ _ => Nat.le_of_ble_eq_true rfl) rfl ?_
  rw [Option.some.inj q_21]
  obtain rfl := Option.some.inj hd
  exact wp_ret i_65_60 rfl ⟨rfl, rfl⟩
set_option maxHeartbeats 4000000 in
set_option maxRecDepth 100000 in
theorem d_66_ok {X : aX} {S : rS} {g : Nat}  {m : cM} {zz : cM} {d : Nat} (hdp : 3 ≤ d) (hd : d_66 g  m = some zz) : aWp X d 66 0 (aEntL [.ref 3] 2) [] (hr m S) (fun w h' => w = none ∧ h' = hr zz S) := by
  unfold d_66 at hd
  refine wp_lv (l2 := [some (.ref 3), none]) rfl ?_
  obtain ⟨e, rfl⟩ : ∃ e, d = e + 1 := ⟨d - 1, by omega⟩
  refine wp_s 1 [some (.ref 3), none] [.ref 3] _ i_66_0 rfl ?_
  obtain ⟨k_1, hd⟩ := dk_if hd
  refine hm_dyn 4 rfl i_66_1 (cb rfl) kk_3 (fun _ _ => rfl) (kd_ne0 (cO_iff k_1).2 (by decide)) ?_
  refine hm_get (w := .int (m.1 (m.2.2.1 3) 11)) 7 rfl i_66_4 (cO_iff k_1).1 (cO_iff k_1).2 rfl ?_
  refine wp_s 8 [some (.ref 3), some (.int (m.1 (m.2.2.1 3) 11))] [] _ i_66_7 rfl ?_
  refine wp_s 9 [some (.ref 3), some (.int (m.1 (m.2.2.1 3) 11))] [.ref 3] _ i_66_8 rfl ?_
  refine hm_dyn 12 rfl i_66_9 (cb rfl) kk_3 (fun _ _ => rfl) (kd_ne0 (cO_iff k_1).2 (by decide)) ?_
  refine hm_get (w := .ref ((m.2.2.1 3) + 6)) 15 rfl i_66_12 (cO_iff k_1).1 (cO_iff k_1).2 rfl ?_
  refine wp_s 16 [some (.ref 3), some (.int (m.1 (m.2.2.1 3) 11))] [.int (m.1 (m.2.2.1 3) 11), .ref ((m.2.2.1 3) + 6)] _ i_66_15 rfl ?_
  refine wp_s 17 [some (.ref 3), some (.int (m.1 (m.2.2.1 3) 11))] [.ref 3, .int (m.1 (m.2.2.1 3) 11), .ref ((m.2.2.1 3) + 6)] _ i_66_16 rfl ?_
  refine wp_s 18 [some (.ref 3), some (.int (m.1 (m.2.2.1 3) 11))] [.int (0 : Int32), .ref 3, .int (m.1 (m.2.2.1 3) 11), .ref ((m.2.2.1 3) + 6)] _ i_66_17 rfl ?_
  refine wp_s 20 [some (.ref 3), some (.int (m.1 (m.2.2.1 3) 11))] [.int (99 : Int32), .int (0 : Int32), .ref 3, .int (m.1 (m.2.2.1 3) 11), .ref ((m.2.2.1 3) + 6)] _ i_66_18 rfl ?_
  obtain ⟨z_2, q_3, hd⟩ := dk_bind hd
  refine wp_callV 23 rfl i_66_20 (by decide) rfl (vs := [.int (0 : Int32), .int (99 : Int32)]) (rest := [.int (m.1 (m.2.2.1 3) 11), .ref ((m.2.2.1 3) + 6)]) rfl rfl rfl (hm_isO (cb rfl) kk_3) (y := m_69) rfl (Nat.le_of_ble_eq_true rfl) (d_69_ok (S := S) (d := e) (by omega) q_3) ?_
  rintro v_4 h_5 ⟨rfl, rfl⟩
  obtain ⟨k_6, hd⟩ := dk_if hd
  obtain ⟨k_7, hd⟩ := dk_if hd
  obtain ⟨mm_8, q_9, hd⟩ := dk_bind hd
  refine hm_iast 24 rfl i_66_23 (kb_5_6 (cO_iff k_6).1 (cO_iff k_6).2) (kr_5_6 (cO_iff k_6).2) k_7 ?_
  rw [Option.some.inj q_9]
  refine wp_s 25 [some (.ref 3), some (.int (m.1 (m.2.2.1 3) 11))] [.ref 3] _ i_66_24 rfl ?_
  obtain ⟨k_10, hd⟩ := dk_if hd
  refine hm_dyn 28 rfl i_66_25 (cb rfl) kk_3 (fun _ _ => rfl) (kd_ne0 (cO_iff k_10).2 (by decide)) ?_
  refine hm_get (w := .ref ((mm_8.2.2.1 3) + 7)) 31 rfl i_66_28 (cO_iff k_10).1 (cO_iff k_10).2 rfl ?_
  refine wp_s 32 [some (.ref 3), some (.int (m.1 (m.2.2.1 3) 11))] [.int (m.1 (m.2.2.1 3) 11), .ref ((mm_8.2.2.1 3) + 7)] _ i_66_31 rfl ?_
  refine wp_s 33 [some (.ref 3), some (.int (m.1 (m.2.2.1 3) 11))] [.ref 3, .int (m.1 (m.2.2.1 3) 11), .ref ((mm_8.2.2.1 3) + 7)] _ i_66_32 rfl ?_
  refine wp_s 34 [some (.ref 3), some (.int (m.1 (m.2.2.1 3) 11))] [.ref 3, .ref 3, .int (m.1 (m.2.2.1 3) 11), .ref ((mm_8.2.2.1 3) + 7)] _ i_66_33 rfl ?_
  refine hm_dyn 37 rfl i_66_34 (cb rfl) kk_3 (fun _ _ => rfl) (kd_ne0 (cO_iff k_10).2 (by decide)) ?_
  refine hm_get (w := .ref ((mm_8.2.2.1 3) + 6)) 40 rfl i_66_37 (cO_iff k_10).1 (cO_iff k_10).2 rfl ?_
  refine wp_s 41 [some (.ref 3), some (.int (m.1 (m.2.2.1 3) 11))] [.int (m.1 (m.2.2.1 3) 11), .ref ((mm_8.2.2.1 3) + 6), .ref 3, .int (m.1 (m.2.2.1 3) 11), .ref ((mm_8.2.2.1 3) + 7)] _ i_66_40 rfl ?_
  obtain ⟨k_11, hd⟩ := dk_if hd
  refine hm_iald 42 rfl i_66_41 (kb_5_6 (cO_iff k_10).1 (cO_iff k_10).2) (kr_5_6 (cO_iff k_10).2) k_11 ?_
  refine wp_s 44 [some (.ref 3), some (.int (m.1 (m.2.2.1 3) 11))] [.int (99 : Int32), .int (mm_8.1 ((mm_8.2.2.1 3) + 6) (m.1 (m.2.2.1 3) 11).toNatClampNeg), .ref 3, .int (m.1 (m.2.2.1 3) 11), .ref ((mm_8.2.2.1 3) + 7)] _ i_66_42 rfl ?_
  obtain ⟨z_12, q_13, hd⟩ := dk_bind hd
  refine wp_callV 47 rfl i_66_44 (by decide) rfl (vs := [.int (mm_8.1 ((mm_8.2.2.1 3) + 6) (m.1 (m.2.2.1 3) 11).toNatClampNeg), .int (99 : Int32)]) (rest := [.int (m.1 (m.2.2.1 3) 11), .ref ((mm_8.2.2.1 3) + 7)]) rfl rfl rfl (hm_isO (cb rfl) kk_3) (y := m_69) rfl (Nat.le_of_ble_eq_true rfl) (d_69_ok (S := S) (d := e) (by omega) q_13) ?_
  rintro v_14 h_15 ⟨rfl, rfl⟩
  obtain ⟨k_16, hd⟩ := dk_if hd
  obtain ⟨k_17, hd⟩ := dk_if hd
  obtain ⟨mm_18, q_19, hd⟩ := dk_bind hd
  refine hm_iast 48 rfl i_66_47 (kb_5_7 (cO_iff k_16).1 (cO_iff k_16).2) (kr_5_7 (cO_iff k_16).2) k_17 ?_
  rw [Option.some.inj q_19]
  refine wp_s 49 [some (.ref 3), some (.int (m.1 (m.2.2.1 3) 11))] [.ref 3] _ i_66_48 rfl ?_
  obtain ⟨k_20, hd⟩ := dk_if hd
  refine hm_dyn 52 rfl i_66_49 (cb rfl) kk_3 (fun _ _ => rfl) (kd_ne0 (cO_iff k_20).2 (by decide)) ?_
  refine hm_get (w := .ref ((mm_18.2.2.1 3) + 8)) 55 rfl i_66_52 (cO_iff k_20).1 (cO_iff k_20).2 rfl ?_
  refine wp_s 56 [some (.ref 3), some (.int (m.1 (m.2.2.1 3) 11))] [.int (m.1 (m.2.2.1 3) 11), .ref ((mm_18.2.2.1 3) + 8)] _ i_66_55 rfl ?_
  refine wp_s 57 [some (.ref 3), some (.int (m.1 (m.2.2.1 3) 11))] [.ref 3, .int (m.1 (m.2.2.1 3) 11), .ref ((mm_18.2.2.1 3) + 8)] _ i_66_56 rfl ?_
  refine wp_s 58 [some (.ref 3), some (.int (m.1 (m.2.2.1 3) 11))] [.int (1 : Int32), .ref 3, .int (m.1 (m.2.2.1 3) 11), .ref ((mm_18.2.2.1 3) + 8)] _ i_66_57 rfl ?_
  refine wp_s 60 [some (.ref 3), some (.int (m.1 (m.2.2.1 3) 11))] [.int (90 : Int32), .int (1 : Int32), .ref 3, .int (m.1 (m.2.2.1 3) 11), .ref ((mm_18.2.2.1 3) + 8)] _ i_66_58 rfl ?_
  obtain ⟨z_21, q_22, hd⟩ := dk_bind hd
  refine wp_callV 63 rfl i_66_60 (by decide) rfl (vs := [.int (1 : Int32), .int (90 : Int32)]) (rest := [.int (m.1 (m.2.2.1 3) 11), .ref ((mm_18.2.2.1 3) + 8)]) rfl rfl rfl (hm_isO (cb rfl) kk_3) (y := m_69) rfl (Nat.le_of_ble_eq_true rfl) (d_69_ok (S := S) (d := e) (by omega) q_22) ?_
  rintro v_23 h_24 ⟨rfl, rfl⟩
  obtain ⟨k_25, hd⟩ := dk_if hd
  obtain ⟨k_26, hd⟩ := dk_if hd
  obtain ⟨mm_27, q_28, hd⟩ := dk_bind hd
  refine hm_iast 64 rfl i_66_63 (kb_5_8 (cO_iff k_25).1 (cO_iff k_25).2) (kr_5_8 (cO_iff k_25).2) k_26 ?_
  rw [Option.some.inj q_28]
  refine wp_s 65 [some (.ref 3), some (.int (m.1 (m.2.2.1 3) 11))] [.ref 3] _ i_66_64 rfl ?_
  obtain ⟨k_29, hd⟩ := dk_if hd
  refine hm_dyn 68 rfl i_66_65 (cb rfl) kk_3 (fun _ _ => rfl) (kd_ne0 (cO_iff k_29).2 (by decide)) ?_
  refine wp_s 69 [some (.ref 3), some (.int (m.1 (m.2.2.1 3) 11))] [.ref (mm_27.2.2.1 3), .ref (mm_27.2.2.1 3)] _ i_66_68 rfl ?_
  refine hm_get (w := .int (mm_27.1 (mm_27.2.2.1 3) 11)) 72 rfl i_66_69 (cO_iff k_29).1 (cO_iff k_29).2 rfl ?_
  refine wp_s 73 [some (.ref 3), some (.int (m.1 (m.2.2.1 3) 11))] [.int (1 : Int32), .int (mm_27.1 (mm_27.2.2.1 3) 11), .ref (mm_27.2.2.1 3)] _ i_66_72 rfl ?_
  refine wp_s 74 [some (.ref 3), some (.int (m.1 (m.2.2.1 3) 11))] [.int ((mm_27.1 (mm_27.2.2.1 3) 11) + (1 : Int32)), .ref (mm_27.2.2.1 3)] _ i_66_73 rfl ?_
  obtain ⟨mm_30, q_31, hd⟩ := dk_bind hd
  refine hm_put 77 rfl i_66_74 (cO_iff k_29).1 (cO_iff k_29).2 (fun _ _ => rfl) (fun _ _ => Nat.le_of_ble_eq_true rfl) rfl ?_
  rw [Option.some.inj q_31]
  obtain rfl := Option.some.inj hd
  exact wp_ret i_66_77 rfl ⟨rfl, rfl⟩
set_option maxHeartbeats 4000000 in
set_option maxRecDepth 100000 in
theorem j_67_66_ok {X : aX} {S : rS} {g : Nat} {x1 : Int32} {x2 : Int32} {m : cM} {zz : cM} {d : Nat} (hdp : 3 ≤ d) (hd : j_67_66 g x1 x2 m = some zz) : aWp X d 67 66 [some (.ref 3), some (.int x1), some (.int x2)] [] (hr m S) (fun w h' => w = none ∧ h' = hr zz S) := by
  unfold j_67_66 at hd
  obtain ⟨e, rfl⟩ : ∃ e, d = e + 1 := ⟨d - 1, by omega⟩
  refine wp_s 67 [some (.ref 3), some (.int x1), some (.int x2)] [.ref 3] _ i_67_66 rfl ?_
  obtain ⟨k_1, hd⟩ := dk_if hd
  refine hm_dyn 70 rfl i_67_67 (cb rfl) kk_3 (fun _ _ => rfl) (kd_ne0 (cO_iff k_1).2 (by decide)) ?_
  refine hm_get (w := .ref ((m.2.2.1 3) + 11)) 73 rfl i_67_70 (cO_iff k_1).1 (cO_iff k_1).2 rfl ?_
  refine wp_s 74 [some (.ref 3), some (.int x1), some (.int x2)] [.int x2, .ref ((m.2.2.1 3) + 11)] _ i_67_73 rfl ?_
  refine wp_s 75 [some (.ref 3), some (.int x1), some (.int x2)] [.ref 3, .int x2, .ref ((m.2.2.1 3) + 11)] _ i_67_74 rfl ?_
  refine wp_s 76 [some (.ref 3), some (.int x1), some (.int x2)] [.int (0 : Int32), .ref 3, .int x2, .ref ((m.2.2.1 3) + 11)] _ i_67_75 rfl ?_
  refine wp_s 79 [some (.ref 3), some (.int x1), some (.int x2)] [.int (9999 : Int32), .int (0 : Int32), .ref 3, .int x2, .ref ((m.2.2.1 3) + 11)] _ i_67_76 rfl ?_
  obtain ⟨z_2, q_3, hd⟩ := dk_bind hd
  refine wp_callV 82 rfl i_67_79 (by decide) rfl (vs := [.int (0 : Int32), .int (9999 : Int32)]) (rest := [.int x2, .ref ((m.2.2.1 3) + 11)]) rfl rfl rfl (hm_isO (cb rfl) kk_3) (y := m_69) rfl (Nat.le_of_ble_eq_true rfl) (d_69_ok (S := S) (d := e) (by omega) q_3) ?_
  rintro v_4 h_5 ⟨rfl, rfl⟩
  obtain ⟨k_6, hd⟩ := dk_if hd
  obtain ⟨k_7, hd⟩ := dk_if hd
  obtain ⟨mm_8, q_9, hd⟩ := dk_bind hd
  refine hm_iast 83 rfl i_67_82 (kb_5_11 (cO_iff k_6).1 (cO_iff k_6).2) (kr_5_11 (cO_iff k_6).2) k_7 ?_
  rw [Option.some.inj q_9]
  refine wp_s 84 [some (.ref 3), some (.int x1), some (.int x2)] [.ref 3] _ i_67_83 rfl ?_
  obtain ⟨k_10, hd⟩ := dk_if hd
  refine hm_dyn 87 rfl i_67_84 (cb rfl) kk_3 (fun _ _ => rfl) (kd_ne0 (cO_iff k_10).2 (by decide)) ?_
  refine wp_s 88 [some (.ref 3), some (.int x1), some (.int x2)] [.ref (mm_8.2.2.1 3), .ref (mm_8.2.2.1 3)] _ i_67_87 rfl ?_
  refine hm_get (w := .int (mm_8.1 (mm_8.2.2.1 3) 15)) 91 rfl i_67_88 (cO_iff k_10).1 (cO_iff k_10).2 rfl ?_
  refine wp_s 92 [some (.ref 3), some (.int x1), some (.int x2)] [.int (1 : Int32), .int (mm_8.1 (mm_8.2.2.1 3) 15), .ref (mm_8.2.2.1 3)] _ i_67_91 rfl ?_
  refine wp_s 93 [some (.ref 3), some (.int x1), some (.int x2)] [.int ((mm_8.1 (mm_8.2.2.1 3) 15) + (1 : Int32)), .ref (mm_8.2.2.1 3)] _ i_67_92 rfl ?_
  obtain ⟨mm_11, q_12, hd⟩ := dk_bind hd
  refine hm_put 96 rfl i_67_93 (cO_iff k_10).1 (cO_iff k_10).2 (fun _ _ => rfl) (fun _ _ => Nat.le_of_ble_eq_true rfl) rfl ?_
  rw [Option.some.inj q_12]
  obtain rfl := Option.some.inj hd
  exact wp_ret i_67_96 rfl ⟨rfl, rfl⟩
set_option maxHeartbeats 4000000 in
set_option maxRecDepth 100000 in
theorem d_67_ok {X : aX} {S : rS} {g : Nat} {x1 : Int32} {m : cM} {zz : cM} {d : Nat} (hdp : 3 ≤ d) (hd : d_67 g x1 m = some zz) : aWp X d 67 0 (aEntL [.ref 3, .int x1] 3) [] (hr m S) (fun w h' => w = none ∧ h' = hr zz S) := by
  unfold d_67 at hd
  refine wp_lv (l2 := [some (.ref 3), some (.int x1), none]) rfl ?_
  obtain ⟨e, rfl⟩ : ∃ e, d = e + 1 := ⟨d - 1, by omega⟩
  refine wp_s 1 [some (.ref 3), some (.int x1), none] [.ref 3] _ i_67_0 rfl ?_
  obtain ⟨k_1, hd⟩ := dk_if hd
  refine hm_dyn 4 rfl i_67_1 (cb rfl) kk_3 (fun _ _ => rfl) (kd_ne0 (cO_iff k_1).2 (by decide)) ?_
  refine hm_get (w := .int (m.1 (m.2.2.1 3) 15)) 7 rfl i_67_4 (cO_iff k_1).1 (cO_iff k_1).2 rfl ?_
  refine wp_s 8 [some (.ref 3), some (.int x1), some (.int (m.1 (m.2.2.1 3) 15))] [] _ i_67_7 rfl ?_
  refine wp_s 9 [some (.ref 3), some (.int x1), some (.int (m.1 (m.2.2.1 3) 15))] [.ref 3] _ i_67_8 rfl ?_
  refine hm_dyn 12 rfl i_67_9 (cb rfl) kk_3 (fun _ _ => rfl) (kd_ne0 (cO_iff k_1).2 (by decide)) ?_
  refine hm_get (w := .ref ((m.2.2.1 3) + 9)) 15 rfl i_67_12 (cO_iff k_1).1 (cO_iff k_1).2 rfl ?_
  refine wp_s 16 [some (.ref 3), some (.int x1), some (.int (m.1 (m.2.2.1 3) 15))] [.int (m.1 (m.2.2.1 3) 15), .ref ((m.2.2.1 3) + 9)] _ i_67_15 rfl ?_
  refine wp_s 17 [some (.ref 3), some (.int x1), some (.int (m.1 (m.2.2.1 3) 15))] [.int x1, .int (m.1 (m.2.2.1 3) 15), .ref ((m.2.2.1 3) + 9)] _ i_67_16 rfl ?_
  obtain ⟨k_2, hd⟩ := dk_if hd
  obtain ⟨mm_3, q_4, hd⟩ := dk_bind hd
  refine hm_iast 18 rfl i_67_17 (kb_5_9 (cO_iff k_1).1 (cO_iff k_1).2) (kr_5_9 (cO_iff k_1).2) k_2 ?_
  rw [Option.some.inj q_4]
  refine wp_s 19 [some (.ref 3), some (.int x1), some (.int (m.1 (m.2.2.1 3) 15))] [.int x1] _ i_67_18 rfl ?_
  refine wp_s 21 [some (.ref 3), some (.int x1), some (.int (m.1 (m.2.2.1 3) 15))] [.int (10 : Int32), .int x1] _ i_67_19 rfl ?_
  refine wp_cmp_ne 43 24 rfl rfl i_67_21 (fun c_5 => ?_) (fun c_5 => ?_)
  · rw [if_pos c_5] at hd
    refine wp_s 44 [some (.ref 3), some (.int x1), some (.int (m.1 (m.2.2.1 3) 15))] [.int x1] _ i_67_43 rfl ?_
    refine wp_s 46 [some (.ref 3), some (.int x1), some (.int (m.1 (m.2.2.1 3) 15))] [.int (11 : Int32), .int x1] _ i_67_44 rfl ?_
    refine wp_cmp_ne 66 49 rfl rfl i_67_46 (fun c_6 => ?_) (fun c_6 => ?_)
    · rw [if_pos c_6] at hd
      exact aWp.forget (j_67_66_ok hdp hd) (lvS (lvS (lvS lvE)))
    · rw [if_neg c_6] at hd
      refine wp_s 50 [some (.ref 3), some (.int x1), some (.int (m.1 (m.2.2.1 3) 15))] [.ref 3] _ i_67_49 rfl ?_
      obtain ⟨k_7, hd⟩ := dk_if hd
      refine hm_dyn 53 rfl i_67_50 (cb rfl) kk_3 (fun _ _ => rfl) (kd_ne0 (cO_iff k_7).2 (by decide)) ?_
      refine hm_get (w := .ref ((mm_3.2.2.1 3) + 10)) 56 rfl i_67_53 (cO_iff k_7).1 (cO_iff k_7).2 rfl ?_
      refine wp_s 57 [some (.ref 3), some (.int x1), some (.int (m.1 (m.2.2.1 3) 15))] [.int (m.1 (m.2.2.1 3) 15), .ref ((mm_3.2.2.1 3) + 10)] _ i_67_56 rfl ?_
      refine wp_s 58 [some (.ref 3), some (.int x1), some (.int (m.1 (m.2.2.1 3) 15))] [.ref 3, .int (m.1 (m.2.2.1 3) 15), .ref ((mm_3.2.2.1 3) + 10)] _ i_67_57 rfl ?_
      refine wp_s 59 [some (.ref 3), some (.int x1), some (.int (m.1 (m.2.2.1 3) 15))] [.int (1 : Int32), .ref 3, .int (m.1 (m.2.2.1 3) 15), .ref ((mm_3.2.2.1 3) + 10)] _ i_67_58 rfl ?_
      refine wp_s 62 [some (.ref 3), some (.int x1), some (.int (m.1 (m.2.2.1 3) 15))] [.int (2000 : Int32), .int (1 : Int32), .ref 3, .int (m.1 (m.2.2.1 3) 15), .ref ((mm_3.2.2.1 3) + 10)] _ i_67_59 rfl ?_
      obtain ⟨z_8, q_9, hd⟩ := dk_bind hd
      refine wp_callV 65 rfl i_67_62 (by decide) rfl (vs := [.int (1 : Int32), .int (2000 : Int32)]) (rest := [.int (m.1 (m.2.2.1 3) 15), .ref ((mm_3.2.2.1 3) + 10)]) rfl rfl rfl (hm_isO (cb rfl) kk_3) (y := m_69) rfl (Nat.le_of_ble_eq_true rfl) (d_69_ok (S := S) (d := e) (by omega) q_9) ?_
      rintro v_10 h_11 ⟨rfl, rfl⟩
      obtain ⟨k_12, hd⟩ := dk_if hd
      obtain ⟨k_13, hd⟩ := dk_if hd
      obtain ⟨mm_14, q_15, hd⟩ := dk_bind hd
      refine hm_iast 66 rfl i_67_65 (kb_5_10 (cO_iff k_12).1 (cO_iff k_12).2) (kr_5_10 (cO_iff k_12).2) k_13 ?_
      rw [Option.some.inj q_15]
      exact aWp.forget (j_67_66_ok hdp hd) (lvS (lvS (lvS lvE)))
  · rw [if_neg c_5] at hd
    refine wp_s 25 [some (.ref 3), some (.int x1), some (.int (m.1 (m.2.2.1 3) 15))] [.ref 3] _ i_67_24 rfl ?_
    obtain ⟨k_16, hd⟩ := dk_if hd
    refine hm_dyn 28 rfl i_67_25 (cb rfl) kk_3 (fun _ _ => rfl) (kd_ne0 (cO_iff k_16).2 (by decide)) ?_
    refine hm_get (w := .ref ((mm_3.2.2.1 3) + 10)) 31 rfl i_67_28 (cO_iff k_16).1 (cO_iff k_16).2 rfl ?_
    refine wp_s 32 [some (.ref 3), some (.int x1), some (.int (m.1 (m.2.2.1 3) 15))] [.int (m.1 (m.2.2.1 3) 15), .ref ((mm_3.2.2.1 3) + 10)] _ i_67_31 rfl ?_
    refine wp_s 33 [some (.ref 3), some (.int x1), some (.int (m.1 (m.2.2.1 3) 15))] [.ref 3, .int (m.1 (m.2.2.1 3) 15), .ref ((mm_3.2.2.1 3) + 10)] _ i_67_32 rfl ?_
    refine wp_s 34 [some (.ref 3), some (.int x1), some (.int (m.1 (m.2.2.1 3) 15))] [.int (1 : Int32), .ref 3, .int (m.1 (m.2.2.1 3) 15), .ref ((mm_3.2.2.1 3) + 10)] _ i_67_33 rfl ?_
    refine wp_s 36 [some (.ref 3), some (.int x1), some (.int (m.1 (m.2.2.1 3) 15))] [.int (90 : Int32), .int (1 : Int32), .ref 3, .int (m.1 (m.2.2.1 3) 15), .ref ((mm_3.2.2.1 3) + 10)] _ i_67_34 rfl ?_
    obtain ⟨z_17, q_18, hd⟩ := dk_bind hd
    refine wp_callV 39 rfl i_67_36 (by decide) rfl (vs := [.int (1 : Int32), .int (90 : Int32)]) (rest := [.int (m.1 (m.2.2.1 3) 15), .ref ((mm_3.2.2.1 3) + 10)]) rfl rfl rfl (hm_isO (cb rfl) kk_3) (y := m_69) rfl (Nat.le_of_ble_eq_true rfl) (d_69_ok (S := S) (d := e) (by omega) q_18) ?_
    rintro v_19 h_20 ⟨rfl, rfl⟩
    obtain ⟨k_21, hd⟩ := dk_if hd
    obtain ⟨k_22, hd⟩ := dk_if hd
    obtain ⟨mm_23, q_24, hd⟩ := dk_bind hd
    refine hm_iast 40 rfl i_67_39 (kb_5_10 (cO_iff k_21).1 (cO_iff k_21).2) (kr_5_10 (cO_iff k_21).2) k_22 ?_
    rw [Option.some.inj q_24]
    refine wp_s 66 [some (.ref 3), some (.int x1), some (.int (m.1 (m.2.2.1 3) 15))] [] _ i_67_40 rfl ?_
    exact aWp.forget (j_67_66_ok hdp hd) (lvS (lvS (lvS lvE)))
set_option maxHeartbeats 4000000 in
set_option maxRecDepth 100000 in
theorem j_68_46_ok {X : aX} {S : rS} {g : Nat} {x1 : Int32} {m : cM} {zz : cM} {d : Nat} (hdp : 3 ≤ d) (hd : j_68_46 g x1 m = some zz) : aWp X d 68 46 [some (.ref 3), some (.int x1), none] [] (hr m S) (fun w h' => w = none ∧ h' = hr zz S) := by
  unfold j_68_46 at hd
  obtain ⟨e, rfl⟩ : ∃ e, d = e + 1 := ⟨d - 1, by omega⟩
  refine wp_s 47 [some (.ref 3), some (.int x1), none] [.ref 3] _ i_68_46 rfl ?_
  refine wp_s 48 [some (.ref 3), some (.int x1), none] [.int (0 : Int32), .ref 3] _ i_68_47 rfl ?_
  refine wp_s 49 [some (.ref 3), some (.int x1), none] [.ref 3, .int (0 : Int32), .ref 3] _ i_68_48 rfl ?_
  obtain ⟨k_1, hd⟩ := dk_if hd
  refine hm_dyn 52 rfl i_68_49 (cb rfl) kk_3 (fun _ _ => rfl) (kd_ne0 (cO_iff k_1).2 (by decide)) ?_
  refine hm_get (w := .int (m.1 (m.2.2.1 3) 15)) 55 rfl i_68_52 (cO_iff k_1).1 (cO_iff k_1).2 rfl ?_
  refine wp_s 56 [some (.ref 3), some (.int x1), none] [.int (1 : Int32), .int (m.1 (m.2.2.1 3) 15), .int (0 : Int32), .ref 3] _ i_68_55 rfl ?_
  refine wp_s 57 [some (.ref 3), some (.int x1), none] [.int ((m.1 (m.2.2.1 3) 15) - (1 : Int32)), .int (0 : Int32), .ref 3] _ i_68_56 rfl ?_
  obtain ⟨z_2, q_3, hd⟩ := dk_bind hd
  refine wp_callV 60 rfl i_68_57 (by decide) rfl (vs := [.int (0 : Int32), .int ((m.1 (m.2.2.1 3) 15) - (1 : Int32))]) (rest := []) rfl rfl rfl (hm_isO (cb rfl) kk_3) (y := m_69) rfl (Nat.le_of_ble_eq_true rfl) (d_69_ok (S := S) (d := e) (by omega) q_3) ?_
  rintro v_4 h_5 ⟨rfl, rfl⟩
  refine wp_s 61 [some (.ref 3), some (.int x1), some (.int z_2.1)] [] _ i_68_60 rfl ?_
  refine wp_s 62 [some (.ref 3), some (.int x1), some (.int z_2.1)] [.ref 3] _ i_68_61 rfl ?_
  refine hm_get (w := .ref 1) 65 rfl i_68_62 (cb rfl) kk_3 rfl ?_
  refine hm_get (w := .int (z_2.2.1 1 6)) 68 rfl i_68_65 (cb rfl) kk_1 rfl ?_
  refine wp_if_ne 101 71 rfl rfl i_68_68 (fun c_6 => ?_) (fun c_6 => ?_)
  · rw [if_pos c_6] at hd
    obtain rfl := Option.some.inj hd
    exact wp_ret i_68_101 rfl ⟨rfl, rfl⟩
  · rw [if_neg c_6] at hd
    refine wp_s 72 [some (.ref 3), some (.int x1), some (.int z_2.1)] [.ref 3] _ i_68_71 rfl ?_
    obtain ⟨k_7, hd⟩ := dk_if hd
    refine hm_dyn 75 rfl i_68_72 (cb rfl) kk_3 (fun _ _ => rfl) (kd_ne0 (cO_iff k_7).2 (by decide)) ?_
    refine hm_get (w := .ref ((z_2.2.2.2.1 3) + 12)) 78 rfl i_68_75 (cO_iff k_7).1 (cO_iff k_7).2 rfl ?_
    refine wp_s 79 [some (.ref 3), some (.int x1), some (.int z_2.1)] [.int x1, .ref ((z_2.2.2.2.1 3) + 12)] _ i_68_78 rfl ?_
    refine wp_s 80 [some (.ref 3), some (.int x1), some (.int z_2.1)] [.int x1, .ref ((z_2.2.2.2.1 3) + 12), .int x1, .ref ((z_2.2.2.2.1 3) + 12)] _ i_68_79 rfl ?_
    obtain ⟨k_8, hd⟩ := dk_if hd
    refine hm_iald 81 rfl i_68_80 (kb_5_12 (cO_iff k_7).1 (cO_iff k_7).2) (kr_5_12 (cO_iff k_7).2) k_8 ?_
    refine wp_s 82 [some (.ref 3), some (.int x1), some (.int z_2.1)] [.int (1 : Int32), .int (z_2.2.1 ((z_2.2.2.2.1 3) + 12) x1.toNatClampNeg), .int x1, .ref ((z_2.2.2.2.1 3) + 12)] _ i_68_81 rfl ?_
    refine wp_s 83 [some (.ref 3), some (.int x1), some (.int z_2.1)] [.int z_2.1, .int (1 : Int32), .int (z_2.2.1 ((z_2.2.2.2.1 3) + 12) x1.toNatClampNeg), .int x1, .ref ((z_2.2.2.2.1 3) + 12)] _ i_68_82 rfl ?_
    refine wp_s 84 [some (.ref 3), some (.int x1), some (.int z_2.1)] [.int ((1 : Int32) <<< (z_2.1 &&& 31)), .int (z_2.2.1 ((z_2.2.2.2.1 3) + 12) x1.toNatClampNeg), .int x1, .ref ((z_2.2.2.2.1 3) + 12)] _ i_68_83 rfl ?_
    refine wp_s 85 [some (.ref 3), some (.int x1), some (.int z_2.1)] [.int ((z_2.2.1 ((z_2.2.2.2.1 3) + 12) x1.toNatClampNeg) ||| ((1 : Int32) <<< (z_2.1 &&& 31))), .int x1, .ref ((z_2.2.2.2.1 3) + 12)] _ i_68_84 rfl ?_
    obtain ⟨k_9, hd⟩ := dk_if hd
    obtain ⟨mm_10, q_11, hd⟩ := dk_bind hd
    refine hm_iast 86 rfl i_68_85 (kb_5_12 (cO_iff k_7).1 (cO_iff k_7).2) (kr_5_12 (cO_iff k_7).2) k_9 ?_
    rw [Option.some.inj q_11]
    refine wp_s 87 [some (.ref 3), some (.int x1), some (.int z_2.1)] [.ref 3] _ i_68_86 rfl ?_
    obtain ⟨k_12, hd⟩ := dk_if hd
    refine hm_dyn 90 rfl i_68_87 (cb rfl) kk_3 (fun _ _ => rfl) (kd_ne0 (cO_iff k_12).2 (by decide)) ?_
    refine hm_get (w := .ref ((mm_10.2.2.1 3) + 12)) 93 rfl i_68_90 (cO_iff k_12).1 (cO_iff k_12).2 rfl ?_
    refine wp_s 94 [some (.ref 3), some (.int x1), some (.int z_2.1)] [.int z_2.1, .ref ((mm_10.2.2.1 3) + 12)] _ i_68_93 rfl ?_
    refine wp_s 95 [some (.ref 3), some (.int x1), some (.int z_2.1)] [.int z_2.1, .ref ((mm_10.2.2.1 3) + 12), .int z_2.1, .ref ((mm_10.2.2.1 3) + 12)] _ i_68_94 rfl ?_
    obtain ⟨k_13, hd⟩ := dk_if hd
    refine hm_iald 96 rfl i_68_95 (kb_5_12 (cO_iff k_12).1 (cO_iff k_12).2) (kr_5_12 (cO_iff k_12).2) k_13 ?_
    refine wp_s 97 [some (.ref 3), some (.int x1), some (.int z_2.1)] [.int (1 : Int32), .int (mm_10.1 ((mm_10.2.2.1 3) + 12) z_2.1.toNatClampNeg), .int z_2.1, .ref ((mm_10.2.2.1 3) + 12)] _ i_68_96 rfl ?_
    refine wp_s 98 [some (.ref 3), some (.int x1), some (.int z_2.1)] [.int x1, .int (1 : Int32), .int (mm_10.1 ((mm_10.2.2.1 3) + 12) z_2.1.toNatClampNeg), .int z_2.1, .ref ((mm_10.2.2.1 3) + 12)] _ i_68_97 rfl ?_
    refine wp_s 99 [some (.ref 3), some (.int x1), some (.int z_2.1)] [.int ((1 : Int32) <<< (x1 &&& 31)), .int (mm_10.1 ((mm_10.2.2.1 3) + 12) z_2.1.toNatClampNeg), .int z_2.1, .ref ((mm_10.2.2.1 3) + 12)] _ i_68_98 rfl ?_
    refine wp_s 100 [some (.ref 3), some (.int x1), some (.int z_2.1)] [.int ((mm_10.1 ((mm_10.2.2.1 3) + 12) z_2.1.toNatClampNeg) ||| ((1 : Int32) <<< (x1 &&& 31))), .int z_2.1, .ref ((mm_10.2.2.1 3) + 12)] _ i_68_99 rfl ?_
    obtain ⟨k_14, hd⟩ := dk_if hd
    obtain ⟨mm_15, q_16, hd⟩ := dk_bind hd
    refine hm_iast 101 rfl i_68_100 (kb_5_12 (cO_iff k_12).1 (cO_iff k_12).2) (kr_5_12 (cO_iff k_12).2) k_14 ?_
    rw [Option.some.inj q_16]
    obtain rfl := Option.some.inj hd
    exact wp_ret i_68_101 rfl ⟨rfl, rfl⟩
set_option maxHeartbeats 4000000 in
set_option maxRecDepth 100000 in
theorem d_68_ok {X : aX} {S : rS} {g : Nat}  {m : cM} {zz : cM} {d : Nat} (hdp : 3 ≤ d) (hd : d_68 g  m = some zz) : aWp X d 68 0 (aEntL [.ref 3] 3) [] (hr m S) (fun w h' => w = none ∧ h' = hr zz S) := by
  unfold d_68 at hd
  refine wp_lv (l2 := [some (.ref 3), none, none]) rfl ?_
  obtain ⟨e, rfl⟩ : ∃ e, d = e + 1 := ⟨d - 1, by omega⟩
  refine wp_s 1 [some (.ref 3), none, none] [.ref 3] _ i_68_0 rfl ?_
  refine wp_s 2 [some (.ref 3), none, none] [.int (0 : Int32), .ref 3] _ i_68_1 rfl ?_
  refine wp_s 3 [some (.ref 3), none, none] [.ref 3, .int (0 : Int32), .ref 3] _ i_68_2 rfl ?_
  obtain ⟨k_1, hd⟩ := dk_if hd
  refine hm_dyn 6 rfl i_68_3 (cb rfl) kk_3 (fun _ _ => rfl) (kd_ne0 (cO_iff k_1).2 (by decide)) ?_
  refine hm_get (w := .int (m.1 (m.2.2.1 3) 15)) 9 rfl i_68_6 (cO_iff k_1).1 (cO_iff k_1).2 rfl ?_
  refine wp_s 10 [some (.ref 3), none, none] [.int (1 : Int32), .int (m.1 (m.2.2.1 3) 15), .int (0 : Int32), .ref 3] _ i_68_9 rfl ?_
  refine wp_s 11 [some (.ref 3), none, none] [.int ((m.1 (m.2.2.1 3) 15) - (1 : Int32)), .int (0 : Int32), .ref 3] _ i_68_10 rfl ?_
  obtain ⟨z_2, q_3, hd⟩ := dk_bind hd
  refine wp_callV 14 rfl i_68_11 (by decide) rfl (vs := [.int (0 : Int32), .int ((m.1 (m.2.2.1 3) 15) - (1 : Int32))]) (rest := []) rfl rfl rfl (hm_isO (cb rfl) kk_3) (y := m_69) rfl (Nat.le_of_ble_eq_true rfl) (d_69_ok (S := S) (d := e) (by omega) q_3) ?_
  rintro v_4 h_5 ⟨rfl, rfl⟩
  refine wp_s 15 [some (.ref 3), some (.int z_2.1), none] [] _ i_68_14 rfl ?_
  refine wp_s 16 [some (.ref 3), some (.int z_2.1), none] [.ref 3] _ i_68_15 rfl ?_
  refine hm_get (w := .ref 1) 19 rfl i_68_16 (cb rfl) kk_3 rfl ?_
  refine hm_get (w := .int (z_2.2.1 1 3)) 22 rfl i_68_19 (cb rfl) kk_1 rfl ?_
  refine wp_s 24 [some (.ref 3), some (.int z_2.1), none] [.int (20 : Int32), .int (z_2.2.1 1 3)] _ i_68_22 rfl ?_
  refine wp_cmp_ne 46 27 rfl rfl i_68_24 (fun c_6 => ?_) (fun c_6 => ?_)
  · rw [if_pos c_6] at hd
    exact aWp.forget (j_68_46_ok hdp hd) (lvS (lvS (lvN lvE)))
  · rw [if_neg c_6] at hd
    refine wp_s 28 [some (.ref 3), some (.int z_2.1), none] [.ref 3] _ i_68_27 rfl ?_
    refine hm_get (w := .ref 1) 31 rfl i_68_28 (cb rfl) kk_3 rfl ?_
    refine hm_get (w := .int (z_2.2.1 1 5)) 34 rfl i_68_31 (cb rfl) kk_1 rfl ?_
    refine wp_s 35 [some (.ref 3), some (.int z_2.1), none] [.int z_2.1, .int (z_2.2.1 1 5)] _ i_68_34 rfl ?_
    refine wp_cmp_ne 46 38 rfl rfl i_68_35 (fun c_7 => ?_) (fun c_7 => ?_)
    · rw [if_pos c_7] at hd
      exact aWp.forget (j_68_46_ok hdp hd) (lvS (lvS (lvN lvE)))
    · rw [if_neg c_7] at hd
      refine wp_s 39 [some (.ref 3), some (.int z_2.1), none] [.ref 3] _ i_68_38 rfl ?_
      refine hm_get (w := .ref 1) 42 rfl i_68_39 (cb rfl) kk_3 rfl ?_
      refine wp_s 43 [some (.ref 3), some (.int z_2.1), none] [.int (1 : Int32), .ref 1] _ i_68_42 rfl ?_
      obtain ⟨z_8, q_9, hd⟩ := dk_bind hd
      refine wp_callV 46 rfl i_68_43 (by decide) rfl (vs := [.int (1 : Int32)]) (rest := []) rfl rfl rfl (hm_isO (cb rfl) kk_1) (y := m_83) rfl (Nat.le_of_ble_eq_true rfl) (d_83_ok (S := S) (d := e) (by omega) q_9) ?_
      rintro v_10 h_11 ⟨rfl, rfl⟩
      exact aWp.forget (j_68_46_ok hdp hd) (lvS (lvS (lvN lvE)))
set_option maxHeartbeats 4000000 in
set_option maxRecDepth 100000 in
theorem j_61_194_ok {X : aX} {S : rS} {g : Nat} {x1 : Int32} {m : cM} {zz : cM} {d : Nat} (hdp : 4 ≤ d) (hd : j_61_194 g x1 m = some zz) : aWp X d 61 194 [some (.ref 3), some (.int x1)] [] (hr m S) (fun w h' => w = none ∧ h' = hr zz S) := by
  unfold j_61_194 at hd
  obtain ⟨e, rfl⟩ : ∃ e, d = e + 1 := ⟨d - 1, by omega⟩
  refine wp_s 195 [some (.ref 3), some (.int x1)] [.ref 3] _ i_61_194 rfl ?_
  refine wp_s 196 [some (.ref 3), some (.int x1)] [.int x1, .ref 3] _ i_61_195 rfl ?_
  obtain ⟨z_1, q_2, hd⟩ := dk_bind hd
  refine wp_callV 199 rfl i_61_196 (by decide) rfl (vs := [.int x1]) (rest := []) rfl rfl rfl (hm_isO (cb rfl) kk_3) (y := m_67) rfl (Nat.le_of_ble_eq_true rfl) (d_67_ok (S := S) (d := e) (by omega) q_2) ?_
  rintro v_3 h_4 ⟨rfl, rfl⟩
  obtain rfl := Option.some.inj hd
  exact wp_ret i_61_199 rfl ⟨rfl, rfl⟩
set_option maxHeartbeats 4000000 in
set_option maxRecDepth 100000 in
theorem j_61_37_ok {X : aX} {S : rS} {g : Nat} {x1 : Int32} {m : cM} {zz : cM} {d : Nat} (hdp : 4 ≤ d) (hd : j_61_37 g x1 m = some zz) : aWp X d 61 37 [some (.ref 3), some (.int x1)] [] (hr m S) (fun w h' => w = none ∧ h' = hr zz S) := by
  unfold j_61_37 at hd
  obtain ⟨e, rfl⟩ : ∃ e, d = e + 1 := ⟨d - 1, by omega⟩
  refine wp_s 38 [some (.ref 3), some (.int x1)] [.ref 3] _ i_61_37 rfl ?_
  refine wp_s 39 [some (.ref 3), some (.int x1)] [.int x1, .ref 3] _ i_61_38 rfl ?_
  obtain ⟨z_1, q_2, hd⟩ := dk_bind hd
  refine wp_callV 42 rfl i_61_39 (by decide) rfl (vs := [.int x1]) (rest := []) rfl rfl rfl (hm_isO (cb rfl) kk_3) (y := m_62) rfl (Nat.le_of_ble_eq_true rfl) (d_62_ok (S := S) (d := e) (by omega) q_2) ?_
  rintro v_3 h_4 ⟨rfl, rfl⟩
  refine wp_if_eq 54 45 rfl rfl i_61_42 (fun c_5 => ?_) (fun c_5 => ?_)
  · rw [if_pos c_5] at hd
    refine wp_s 55 [some (.ref 3), some (.int x1)] [.ref 3] _ i_61_54 rfl ?_
    refine wp_s 56 [some (.ref 3), some (.int x1)] [.ref 3, .ref 3] _ i_61_55 rfl ?_
    refine hm_get (w := .int (m.1 3 2)) 59 rfl i_61_56 (cb rfl) kk_3 rfl ?_
    refine wp_s 60 [some (.ref 3), some (.int x1)] [.int (1 : Int32), .int (m.1 3 2), .ref 3] _ i_61_59 rfl ?_
    refine wp_s 61 [some (.ref 3), some (.int x1)] [.int ((m.1 3 2) + (1 : Int32)), .ref 3] _ i_61_60 rfl ?_
    obtain ⟨mm_6, q_7, hd⟩ := dk_bind hd
    refine hm_put 64 rfl i_61_61 (cb rfl) kk_3 (fun _ _ => rfl) (fun _ _ => Nat.le_of_ble_eq_true rfl) rfl ?_
    rw [Option.some.inj q_7]
    refine wp_s 65 [some (.ref 3), some (.int x1)] [.ref 3] _ i_61_64 rfl ?_
    refine hm_get (w := .ref 1) 68 rfl i_61_65 (cb rfl) kk_3 rfl ?_
    obtain ⟨z_8, q_9, hd⟩ := dk_bind hd
    refine wp_callV 71 rfl i_61_68 (by decide) rfl (vs := []) (rest := []) rfl rfl rfl (hm_isO (cb rfl) kk_1) (y := m_84) rfl (Nat.le_of_ble_eq_true rfl) (d_84_ok (S := S) (d := e) (by omega) q_9) ?_
    rintro v_10 h_11 ⟨rfl, rfl⟩
    refine wp_s 72 [some (.ref 3), some (.int x1)] [.int x1] _ i_61_71 rfl ?_
    by_cases c_12 : x1 = (0 : Int32)
    · rw [if_pos c_12] at hd
      refine wp_tswC (j := 0) 155 i_61_72 (by rw [c_12]; decide) (by decide) rfl rfl ?_
      refine wp_s 156 [some (.ref 3), some (.int x1)] [.ref 3] _ i_61_155 rfl ?_
      obtain ⟨z_13, q_14, hd⟩ := dk_bind hd
      refine wp_callV 159 rfl i_61_156 (by decide) rfl (vs := []) (rest := []) rfl rfl rfl (hm_isO (cb rfl) kk_3) (y := m_64) rfl (Nat.le_of_ble_eq_true rfl) (d_64_ok (S := S) (d := e) (by omega) q_14) ?_
      rintro v_15 h_16 ⟨rfl, rfl⟩
      refine wp_s 199 [some (.ref 3), some (.int x1)] [] _ i_61_159 rfl ?_
      obtain rfl := Option.some.inj hd
      exact wp_ret i_61_199 rfl ⟨rfl, rfl⟩
    rw [if_neg c_12] at hd
    by_cases c_17 : x1 = (1 : Int32)
    · rw [if_pos c_17] at hd
      refine wp_tswC (j := 1) 194 i_61_72 (by rw [c_17]; decide) (by decide) rfl rfl ?_
      exact aWp.forget (j_61_194_ok hdp hd) (lvS (lvS lvE))
    rw [if_neg c_17] at hd
    by_cases c_18 : x1 = (2 : Int32)
    · rw [if_pos c_18] at hd
      refine wp_tswC (j := 2) 169 i_61_72 (by rw [c_18]; decide) (by decide) rfl rfl ?_
      refine wp_s 170 [some (.ref 3), some (.int x1)] [.ref 3] _ i_61_169 rfl ?_
      obtain ⟨z_19, q_20, hd⟩ := dk_bind hd
      refine wp_callV 173 rfl i_61_170 (by decide) rfl (vs := []) (rest := []) rfl rfl rfl (hm_isO (cb rfl) kk_3) (y := m_66) rfl (Nat.le_of_ble_eq_true rfl) (d_66_ok (S := S) (d := e) (by omega) q_20) ?_
      rintro v_21 h_22 ⟨rfl, rfl⟩
      refine wp_s 199 [some (.ref 3), some (.int x1)] [] _ i_61_173 rfl ?_
      obtain rfl := Option.some.inj hd
      exact wp_ret i_61_199 rfl ⟨rfl, rfl⟩
    rw [if_neg c_18] at hd
    by_cases c_23 : x1 = (3 : Int32)
    · rw [if_pos c_23] at hd
      refine wp_tswC (j := 3) 194 i_61_72 (by rw [c_23]; decide) (by decide) rfl rfl ?_
      exact aWp.forget (j_61_194_ok hdp hd) (lvS (lvS lvE))
    rw [if_neg c_23] at hd
    by_cases c_24 : x1 = (4 : Int32)
    · rw [if_pos c_24] at hd
      refine wp_tswC (j := 4) 194 i_61_72 (by rw [c_24]; decide) (by decide) rfl rfl ?_
      exact aWp.forget (j_61_194_ok hdp hd) (lvS (lvS lvE))
    rw [if_neg c_24] at hd
    by_cases c_25 : x1 = (5 : Int32)
    · rw [if_pos c_25] at hd
      refine wp_tswC (j := 5) 194 i_61_72 (by rw [c_25]; decide) (by decide) rfl rfl ?_
      exact aWp.forget (j_61_194_ok hdp hd) (lvS (lvS lvE))
    rw [if_neg c_25] at hd
    by_cases c_26 : x1 = (6 : Int32)
    · rw [if_pos c_26] at hd
      refine wp_tswC (j := 6) 194 i_61_72 (by rw [c_26]; decide) (by decide) rfl rfl ?_
      exact aWp.forget (j_61_194_ok hdp hd) (lvS (lvS lvE))
    rw [if_neg c_26] at hd
    by_cases c_27 : x1 = (7 : Int32)
    · rw [if_pos c_27] at hd
      refine wp_tswC (j := 7) 194 i_61_72 (by rw [c_27]; decide) (by decide) rfl rfl ?_
      exact aWp.forget (j_61_194_ok hdp hd) (lvS (lvS lvE))
    rw [if_neg c_27] at hd
    by_cases c_28 : x1 = (8 : Int32)
    · rw [if_pos c_28] at hd
      refine wp_tswC (j := 8) 148 i_61_72 (by rw [c_28]; decide) (by decide) rfl rfl ?_
      refine wp_s 149 [some (.ref 3), some (.int x1)] [.ref 3] _ i_61_148 rfl ?_
      obtain ⟨z_29, q_30, hd⟩ := dk_bind hd
      refine wp_callV 152 rfl i_61_149 (by decide) rfl (vs := []) (rest := []) rfl rfl rfl (hm_isO (cb rfl) kk_3) (y := m_63) rfl (Nat.le_of_ble_eq_true rfl) (d_63_ok (S := S) (d := e) (by omega) q_30) ?_
      rintro v_31 h_32 ⟨rfl, rfl⟩
      refine wp_s 199 [some (.ref 3), some (.int x1)] [] _ i_61_152 rfl ?_
      obtain rfl := Option.some.inj hd
      exact wp_ret i_61_199 rfl ⟨rfl, rfl⟩
    rw [if_neg c_28] at hd
    by_cases c_33 : x1 = (9 : Int32)
    · rw [if_pos c_33] at hd
      refine wp_tswC (j := 9) 162 i_61_72 (by rw [c_33]; decide) (by decide) rfl rfl ?_
      refine wp_s 163 [some (.ref 3), some (.int x1)] [.ref 3] _ i_61_162 rfl ?_
      obtain ⟨z_34, q_35, hd⟩ := dk_bind hd
      refine wp_callV 166 rfl i_61_163 (by decide) rfl (vs := []) (rest := []) rfl rfl rfl (hm_isO (cb rfl) kk_3) (y := m_65) rfl (Nat.le_of_ble_eq_true rfl) (d_65_ok (S := S) (d := e) (by omega) q_35) ?_
      rintro v_36 h_37 ⟨rfl, rfl⟩
      refine wp_s 199 [some (.ref 3), some (.int x1)] [] _ i_61_166 rfl ?_
      obtain rfl := Option.some.inj hd
      exact wp_ret i_61_199 rfl ⟨rfl, rfl⟩
    rw [if_neg c_33] at hd
    by_cases c_38 : x1 = (10 : Int32)
    · rw [if_pos c_38] at hd
      refine wp_tswC (j := 10) 194 i_61_72 (by rw [c_38]; decide) (by decide) rfl rfl ?_
      exact aWp.forget (j_61_194_ok hdp hd) (lvS (lvS lvE))
    rw [if_neg c_38] at hd
    by_cases c_39 : x1 = (11 : Int32)
    · rw [if_pos c_39] at hd
      refine wp_tswC (j := 11) 194 i_61_72 (by rw [c_39]; decide) (by decide) rfl rfl ?_
      exact aWp.forget (j_61_194_ok hdp hd) (lvS (lvS lvE))
    rw [if_neg c_39] at hd
    by_cases c_40 : x1 = (12 : Int32)
    · rw [if_pos c_40] at hd
      refine wp_tswC (j := 12) 194 i_61_72 (by rw [c_40]; decide) (by decide) rfl rfl ?_
      exact aWp.forget (j_61_194_ok hdp hd) (lvS (lvS lvE))
    rw [if_neg c_40] at hd
    by_cases c_41 : x1 = (13 : Int32)
    · rw [if_pos c_41] at hd
      refine wp_tswC (j := 13) 176 i_61_72 (by rw [c_41]; decide) (by decide) rfl rfl ?_
      refine wp_s 177 [some (.ref 3), some (.int x1)] [.ref 3] _ i_61_176 rfl ?_
      obtain ⟨z_42, q_43, hd⟩ := dk_bind hd
      refine wp_callV 180 rfl i_61_177 (by decide) rfl (vs := []) (rest := []) rfl rfl rfl (hm_isO (cb rfl) kk_3) (y := m_68) rfl (Nat.le_of_ble_eq_true rfl) (d_68_ok (S := S) (d := e) (by omega) q_43) ?_
      rintro v_44 h_45 ⟨rfl, rfl⟩
      refine wp_s 199 [some (.ref 3), some (.int x1)] [] _ i_61_180 rfl ?_
      obtain rfl := Option.some.inj hd
      exact wp_ret i_61_199 rfl ⟨rfl, rfl⟩
    rw [if_neg c_41] at hd
    by_cases c_46 : x1 = (14 : Int32)
    · rw [if_pos c_46] at hd
      refine wp_tswC (j := 14) 183 i_61_72 (by rw [c_46]; decide) (by decide) rfl rfl ?_
      refine wp_s 184 [some (.ref 3), some (.int x1)] [.ref 3] _ i_61_183 rfl ?_
      obtain ⟨k_47, hd⟩ := dk_if hd
      refine hm_dyn 187 rfl i_61_184 (cb rfl) kk_3 (fun _ _ => rfl) (kd_ne0 (cO_iff k_47).2 (by decide)) ?_
      refine wp_s 188 [some (.ref 3), some (.int x1)] [.int (1 : Int32), .ref (z_8.2.2.1 3)] _ i_61_187 rfl ?_
      obtain ⟨mm_48, q_49, hd⟩ := dk_bind hd
      refine hm_put 191 rfl i_61_188 (cO_iff k_47).1 (cO_iff k_47).2 (fun _ _ => rfl) (fun _ _ => Nat.le_of_ble_eq_true rfl) rfl ?_
      rw [Option.some.inj q_49]
      refine wp_s 199 [some (.ref 3), some (.int x1)] [] _ i_61_191 rfl ?_
      obtain rfl := Option.some.inj hd
      exact wp_ret i_61_199 rfl ⟨rfl, rfl⟩
    rw [if_neg c_46] at hd
    have o_50 : (x1).toInt < (0 : Int) ∨ (14 : Int) < (x1).toInt := by
      have e_0 := lv_neT c_12 (a := 0) (by decide)
      have e_1 := lv_neT c_17 (a := 1) (by decide)
      have e_2 := lv_neT c_18 (a := 2) (by decide)
      have e_3 := lv_neT c_23 (a := 3) (by decide)
      have e_4 := lv_neT c_24 (a := 4) (by decide)
      have e_5 := lv_neT c_25 (a := 5) (by decide)
      have e_6 := lv_neT c_26 (a := 6) (by decide)
      have e_7 := lv_neT c_27 (a := 7) (by decide)
      have e_8 := lv_neT c_28 (a := 8) (by decide)
      have e_9 := lv_neT c_33 (a := 9) (by decide)
      have e_10 := lv_neT c_38 (a := 10) (by decide)
      have e_11 := lv_neT c_39 (a := 11) (by decide)
      have e_12 := lv_neT c_40 (a := 12) (by decide)
      have e_13 := lv_neT c_41 (a := 13) (by decide)
      have e_14 := lv_neT c_46 (a := 14) (by decide)
      omega
    refine wp_tswD 194 i_61_72 o_50 rfl ?_
    exact aWp.forget (j_61_194_ok hdp hd) (lvS (lvS lvE))
  · rw [if_neg c_5] at hd
    refine wp_s 46 [some (.ref 3), some (.int x1)] [.ref 3] _ i_61_45 rfl ?_
    refine hm_get (w := .ref 1) 49 rfl i_61_46 (cb rfl) kk_3 rfl ?_
    refine wp_s 50 [some (.ref 3), some (.int x1)] [.int (4 : Int32), .ref 1] _ i_61_49 rfl ?_
    obtain ⟨z_51, q_52, hd⟩ := dk_bind hd
    refine wp_callV 53 rfl i_61_50 (by decide) rfl (vs := [.int (4 : Int32)]) (rest := []) rfl rfl rfl (hm_isO (cb rfl) kk_1) (y := m_83) rfl (Nat.le_of_ble_eq_true rfl) (d_83_ok (S := S) (d := e) (by omega) q_52) ?_
    rintro v_53 h_54 ⟨rfl, rfl⟩
    obtain rfl := Option.some.inj hd
    exact wp_ret i_61_53 rfl ⟨rfl, rfl⟩
set_option maxHeartbeats 4000000 in
set_option maxRecDepth 100000 in
theorem d_61_ok {X : aX} {S : rS} {g : Nat}  {m : cM} {zz : cM} {d : Nat} (hdp : 4 ≤ d) (hd : d_61 g  m = some zz) : aWp X d 61 0 (aEntL [.ref 3] 2) [] (hr m S) (fun w h' => w = none ∧ h' = hr zz S) := by
  unfold d_61 at hd
  refine wp_lv (l2 := [some (.ref 3), none]) rfl ?_
  obtain ⟨e, rfl⟩ : ∃ e, d = e + 1 := ⟨d - 1, by omega⟩
  refine wp_s 1 [some (.ref 3), none] [.ref 3] _ i_61_0 rfl ?_
  refine hm_get (w := .ref 1) 4 rfl i_61_1 (cb rfl) kk_3 rfl ?_
  refine hm_get (w := .int (m.1 1 3)) 7 rfl i_61_4 (cb rfl) kk_1 rfl ?_
  refine wp_s 8 [some (.ref 3), some (.int (m.1 1 3))] [] _ i_61_7 rfl ?_
  refine wp_s 9 [some (.ref 3), some (.int (m.1 1 3))] [.int (m.1 1 3)] _ i_61_8 rfl ?_
  refine wp_if_eq 37 12 rfl rfl i_61_9 (fun c_1 => ?_) (fun c_1 => ?_)
  · rw [if_pos c_1] at hd
    exact aWp.forget (j_61_37_ok hdp hd) (lvS (lvS lvE))
  · rw [if_neg c_1] at hd
    refine wp_s 13 [some (.ref 3), some (.int (m.1 1 3))] [.int (m.1 1 3)] _ i_61_12 rfl ?_
    refine wp_s 14 [some (.ref 3), some (.int (m.1 1 3))] [.int (2 : Int32), .int (m.1 1 3)] _ i_61_13 rfl ?_
    refine wp_cmp_eq 37 17 rfl rfl i_61_14 (fun c_2 => ?_) (fun c_2 => ?_)
    · rw [if_pos c_2] at hd
      exact aWp.forget (j_61_37_ok hdp hd) (lvS (lvS lvE))
    · rw [if_neg c_2] at hd
      refine wp_s 18 [some (.ref 3), some (.int (m.1 1 3))] [.int (m.1 1 3)] _ i_61_17 rfl ?_
      refine wp_s 20 [some (.ref 3), some (.int (m.1 1 3))] [.int (8 : Int32), .int (m.1 1 3)] _ i_61_18 rfl ?_
      refine wp_s 22 [some (.ref 3), some (.int (m.1 1 3))] [.int (14 : Int32), .int (8 : Int32), .int (m.1 1 3)] _ i_61_20 rfl ?_
      obtain ⟨z_3, q_4, hd⟩ := dk_bind hd
      refine wp_callS 25 rfl i_61_22 (by decide) (vs := [.int (m.1 1 3), .int (8 : Int32), .int (14 : Int32)]) (rest := []) rfl rfl rfl (y := m_138) rfl (Nat.le_of_ble_eq_true rfl) (d_138_ok (S := S) (d := e) (by omega) q_4) ?_
      rintro v_5 h_6 ⟨rfl, rfl⟩
      refine wp_if_ne 37 28 rfl rfl i_61_25 (fun c_7 => ?_) (fun c_7 => ?_)
      · rw [if_pos c_7] at hd
        exact aWp.forget (j_61_37_ok hdp hd) (lvS (lvS lvE))
      · rw [if_neg c_7] at hd
        refine wp_s 29 [some (.ref 3), some (.int (m.1 1 3))] [.ref 3] _ i_61_28 rfl ?_
        refine hm_get (w := .ref 1) 32 rfl i_61_29 (cb rfl) kk_3 rfl ?_
        refine wp_s 33 [some (.ref 3), some (.int (m.1 1 3))] [.int (0 : Int32), .ref 1] _ i_61_32 rfl ?_
        obtain ⟨z_8, q_9, hd⟩ := dk_bind hd
        refine wp_callV 36 rfl i_61_33 (by decide) rfl (vs := [.int (0 : Int32)]) (rest := []) rfl rfl rfl (hm_isO (cb rfl) kk_1) (y := m_83) rfl (Nat.le_of_ble_eq_true rfl) (d_83_ok (S := S) (d := e) (by omega) q_9) ?_
        rintro v_10 h_11 ⟨rfl, rfl⟩
        obtain rfl := Option.some.inj hd
        exact wp_ret i_61_36 rfl ⟨rfl, rfl⟩
set_option maxHeartbeats 4000000 in
set_option maxRecDepth 100000 in
theorem l_60_ok {X : aX} {S : rS} {g : Nat} {d : Nat} (hdp : 5 ≤ d) : ∀ n, (∀ (a1 : Nat) (x2 : Int32) (m : cM) (zz : Int32 × cM), l_60 g n 0 a1 x2 m = some zz → aWp X d 60 23 [some (.ref 3), some (.ref a1), some (.int x2)] [] (hr m S) (fun w h' => w = some (.int zz.1) ∧ h' = hr zz.2 S)) ∧ (∀ (a1 : Nat) (x2 : Int32) (m : cM) (zz : Int32 × cM), l_60 g n 1 a1 x2 m = some zz → aWp X d 60 59 [some (.ref 3), some (.ref a1), some (.int x2)] [] (hr m S) (fun w h' => w = some (.int zz.1) ∧ h' = hr zz.2 S)) ∧ (∀ (a1 : Nat) (x2 : Int32) (m : cM) (zz : Int32 × cM), l_60 g n 2 a1 x2 m = some zz → aWp X d 60 79 [some (.ref 3), some (.ref a1), some (.int x2)] [] (hr m S) (fun w h' => w = some (.int zz.1) ∧ h' = hr zz.2 S)) := by
  intro n
  induction n with
  | zero => exact ⟨fun _ _ _ _ hd => by simp [l_60] at hd, fun _ _ _ _ hd => by simp [l_60] at hd, fun _ _ _ _ hd => by simp [l_60] at hd⟩
  | succ n ih =>
    refine ⟨?_, ?_, ?_⟩
    · intro a1 x2 m zz hd
      unfold l_60 at hd
      rw [if_pos rfl] at hd
      obtain ⟨e, rfl⟩ : ∃ e, d = e + 1 := ⟨d - 1, by omega⟩
      refine wp_s 24 [some (.ref 3), some (.ref a1), some (.int x2)] [.int x2] _ i_60_23 rfl ?_
      refine wp_s 27 [some (.ref 3), some (.ref a1), some (.int x2)] [.int (400 : Int32), .int x2] _ i_60_24 rfl ?_
      refine wp_cmp_ge 59 30 rfl rfl i_60_27 (fun c_1 => ?_) (fun c_1 => ?_)
      · rw [if_pos c_1] at hd
        exact aWp.forget (ih.2.1 _ _ _ _ hd) (lvS (lvS (lvS lvE)))
      · rw [if_neg c_1] at hd
        refine wp_s 31 [some (.ref 3), some (.ref a1), some (.int x2)] [.ref 3] _ i_60_30 rfl ?_
        refine hm_get (w := .ref 1) 34 rfl i_60_31 (cb rfl) kk_3 rfl ?_
        refine hm_get (w := .int (m.1 1 3)) 37 rfl i_60_34 (cb rfl) kk_1 rfl ?_
        refine wp_s 39 [some (.ref 3), some (.ref a1), some (.int x2)] [.int (23 : Int32), .int (m.1 1 3)] _ i_60_37 rfl ?_
        refine wp_cmp_ne 59 42 rfl rfl i_60_39 (fun c_2 => ?_) (fun c_2 => ?_)
        · rw [if_pos c_2] at hd
          exact aWp.forget (ih.2.1 _ _ _ _ hd) (lvS (lvS (lvS lvE)))
        · rw [if_neg c_2] at hd
          refine wp_s 43 [some (.ref 3), some (.ref a1), some (.int x2)] [.ref 3] _ i_60_42 rfl ?_
          refine hm_get (w := .ref 1) 46 rfl i_60_43 (cb rfl) kk_3 rfl ?_
          obtain ⟨z_3, q_4, hd⟩ := dk_bind hd
          refine wp_callV 49 rfl i_60_46 (by decide) rfl (vs := []) (rest := []) rfl rfl rfl (hm_isO (cb rfl) kk_1) (y := m_84) rfl (Nat.le_of_ble_eq_true rfl) (d_84_ok (S := S) (d := e) (by omega) q_4) ?_
          rintro v_5 h_6 ⟨rfl, rfl⟩
          refine wp_s 50 [some (.ref 3), some (.ref a1), some (.int x2)] [.ref 3] _ i_60_49 rfl ?_
          obtain ⟨z_7, q_8, hd⟩ := dk_bind hd
          refine wp_callV 53 rfl i_60_50 (by decide) rfl (vs := []) (rest := []) rfl rfl rfl (hm_isO (cb rfl) kk_3) (y := m_61) rfl (Nat.le_of_ble_eq_true rfl) (d_61_ok (S := S) (d := e) (by omega) q_8) ?_
          rintro v_9 h_10 ⟨rfl, rfl⟩
          refine wp_s 56 [some (.ref 3), some (.ref a1), some (.int (x2 + (1 : Int32)))] [] _ i_60_53 rfl ?_
          refine wp_s 23 [some (.ref 3), some (.ref a1), some (.int (x2 + (1 : Int32)))] [] _ i_60_56 rfl ?_
          exact aWp.forget (ih.1 _ _ _ _ hd) (lvS (lvS (lvS lvE)))
    · intro a1 x2 m zz hd
      unfold l_60 at hd
      rw [if_neg (by decide), if_pos rfl] at hd
      obtain ⟨e, rfl⟩ : ∃ e, d = e + 1 := ⟨d - 1, by omega⟩
      refine wp_s 60 [some (.ref 3), some (.ref a1), some (.int x2)] [.ref 3] _ i_60_59 rfl ?_
      refine hm_get (w := .ref 1) 63 rfl i_60_60 (cb rfl) kk_3 rfl ?_
      refine hm_get (w := .int (m.1 1 3)) 66 rfl i_60_63 (cb rfl) kk_1 rfl ?_
      refine wp_s 68 [some (.ref 3), some (.ref a1), some (.int x2)] [.int (21 : Int32), .int (m.1 1 3)] _ i_60_66 rfl ?_
      refine wp_cmp_eq 79 71 rfl rfl i_60_68 (fun c_11 => ?_) (fun c_11 => ?_)
      · rw [if_pos c_11] at hd
        exact aWp.forget (ih.2.2 _ _ _ _ hd) (lvS (lvS (lvS lvE)))
      · rw [if_neg c_11] at hd
        refine wp_s 72 [some (.ref 3), some (.ref a1), some (.int x2)] [.ref 3] _ i_60_71 rfl ?_
        refine hm_get (w := .ref 1) 75 rfl i_60_72 (cb rfl) kk_3 rfl ?_
        refine wp_s 76 [some (.ref 3), some (.ref a1), some (.int x2)] [.int (0 : Int32), .ref 1] _ i_60_75 rfl ?_
        obtain ⟨z_12, q_13, hd⟩ := dk_bind hd
        refine wp_callV 79 rfl i_60_76 (by decide) rfl (vs := [.int (0 : Int32)]) (rest := []) rfl rfl rfl (hm_isO (cb rfl) kk_1) (y := m_83) rfl (Nat.le_of_ble_eq_true rfl) (d_83_ok (S := S) (d := e) (by omega) q_13) ?_
        rintro v_14 h_15 ⟨rfl, rfl⟩
        exact aWp.forget (ih.2.2 _ _ _ _ hd) (lvS (lvS (lvS lvE)))
    · intro a1 x2 m zz hd
      unfold l_60 at hd
      rw [if_neg (by decide), if_neg (by decide), if_pos rfl] at hd
      obtain ⟨e, rfl⟩ : ∃ e, d = e + 1 := ⟨d - 1, by omega⟩
      refine wp_s 80 [some (.ref 3), some (.ref a1), some (.int x2)] [.ref 3] _ i_60_79 rfl ?_
      obtain ⟨k_16, hd⟩ := dk_if hd
      refine hm_dyn 83 rfl i_60_80 (cb rfl) kk_3 (fun _ _ => rfl) (kd_ne0 (cO_iff k_16).2 (by decide)) ?_
      refine wp_s 84 [some (.ref 3), some (.ref a1), some (.int x2)] [.int (1 : Int32), .ref (m.2.2.1 3)] _ i_60_83 rfl ?_
      obtain ⟨mm_17, q_18, hd⟩ := dk_bind hd
      refine hm_put 87 rfl i_60_84 (cO_iff k_16).1 (cO_iff k_16).2 (fun _ _ => rfl) (fun _ _ => Nat.le_of_ble_eq_true rfl) rfl ?_
      rw [Option.some.inj q_18]
      refine wp_s 88 [some (.ref 3), some (.ref a1), some (.int x2)] [.ref 3] _ i_60_87 rfl ?_
      refine hm_get (w := .ref 1) 91 rfl i_60_88 (cb rfl) kk_3 rfl ?_
      refine hm_get (w := .int (mm_17.1 1 6)) 94 rfl i_60_91 (cb rfl) kk_1 rfl ?_
      obtain rfl := Option.some.inj hd
      exact wp_iret i_60_94 ⟨rfl, rfl⟩
set_option maxHeartbeats 4000000 in
set_option maxRecDepth 100000 in
theorem d_60_ok {X : aX} {S : rS} {g : Nat} {a1 : Nat} {m : cM} {zz : Int32 × cM} {d : Nat} (hdp : 5 ≤ d) (hd : d_60 g a1 m = some zz) : aWp X d 60 0 (aEntL [.ref 3, .ref a1] 3) [] (hr m S) (fun w h' => w = some (.int zz.1) ∧ h' = hr zz.2 S) := by
  unfold d_60 at hd
  refine wp_lv (l2 := [some (.ref 3), some (.ref a1), none]) rfl ?_
  obtain ⟨e, rfl⟩ : ∃ e, d = e + 1 := ⟨d - 1, by omega⟩
  refine wp_s 1 [some (.ref 3), some (.ref a1), none] [.ref 3] _ i_60_0 rfl ?_
  refine wp_s 2 [some (.ref 3), some (.ref a1), none] [.ref a1, .ref 3] _ i_60_1 rfl ?_
  obtain ⟨k_1003, hd⟩ := dk_if hd
  obtain ⟨mm_1001, q_1002, hd⟩ := dk_bind hd
  refine hm_putR 5 rfl i_60_2 (cb rfl) kk_3 (fun _ _ => rfl) (fun _ _ => Nat.le_of_ble_eq_true rfl) rfl (kd_ne0 (cO_iff k_1003).2 (by decide)) ?_
  rw [Option.some.inj q_1002]
  refine wp_s 6 [some (.ref 3), some (.ref a1), none] [.ref 3] _ i_60_5 rfl ?_
  refine wp_s 7 [some (.ref 3), some (.ref a1), none] [.int (0 : Int32), .ref 3] _ i_60_6 rfl ?_
  obtain ⟨mm_1004, q_1005, hd⟩ := dk_bind hd
  refine hm_put 10 rfl i_60_7 (cb rfl) kk_3 (fun _ _ => rfl) (fun _ _ => Nat.le_of_ble_eq_true rfl) rfl ?_
  rw [Option.some.inj q_1005]
  refine wp_s 11 [some (.ref 3), some (.ref a1), none] [.ref 3] _ i_60_10 rfl ?_
  refine hm_get (w := .ref 1) 14 rfl i_60_11 (cb rfl) kk_3 rfl ?_
  obtain ⟨z_1006, q_1007, hd⟩ := dk_bind hd
  refine wp_callV 17 rfl i_60_14 (by decide) rfl (vs := []) (rest := []) rfl rfl rfl (hm_isO (cb rfl) kk_1) (y := m_82) rfl (Nat.le_of_ble_eq_true rfl) (d_82_ok (S := S) (d := e) (by omega) q_1007) ?_
  rintro v_1008 h_1009 ⟨rfl, rfl⟩
  refine wp_s 18 [some (.ref 3), some (.ref a1), none] [.ref 3] _ i_60_17 rfl ?_
  obtain ⟨z_1010, q_1011, hd⟩ := dk_bind hd
  refine wp_callV 21 rfl i_60_18 (by decide) rfl (vs := []) (rest := []) rfl rfl rfl (hm_isO (cb rfl) kk_3) (y := m_61) rfl (Nat.le_of_ble_eq_true rfl) (d_61_ok (S := S) (d := e) (by omega) q_1011) ?_
  rintro v_1012 h_1013 ⟨rfl, rfl⟩
  refine wp_s 22 [some (.ref 3), some (.ref a1), none] [.int (0 : Int32)] _ i_60_21 rfl ?_
  refine wp_s 23 [some (.ref 3), some (.ref a1), some (.int (0 : Int32))] [] _ i_60_22 rfl ?_
  exact aWp.forget ((l_60_ok hdp g).1 _ _ _ _ hd) (lvS (lvS (lvS lvE)))
set_option maxHeartbeats 4000000 in
set_option maxRecDepth 100000 in
theorem d_71_ok {X : aX} {S : rS} {g : Nat} {a1 : Nat} {m : cM} {zz : cM} {d : Nat} (hdp : 1 ≤ d) (hd : d_71 g a1 m = some zz) : aWp X d 71 0 (aEntL [.ref 19, .ref a1] 2) [] (hr m S) (fun w h' => w = none ∧ h' = hr zz S) := by
  unfold d_71 at hd
  refine wp_lv (l2 := [some (.ref 19), some (.ref a1)]) rfl ?_
  obtain ⟨e, rfl⟩ : ∃ e, d = e + 1 := ⟨d - 1, by omega⟩
  refine wp_s 1 [some (.ref 19), some (.ref a1)] [.ref 19] _ i_71_0 rfl ?_
  refine hm_get (w := .ref 20) 4 rfl i_71_1 (cb rfl) kk_19 rfl ?_
  refine wp_s 5 [some (.ref 19), some (.ref a1)] [.int (0 : Int32), .ref 20] _ i_71_4 rfl ?_
  obtain ⟨z_1, q_2, hd⟩ := dk_bind hd
  refine wp_callS 8 rfl i_71_5 (by decide) (vs := [.ref 20, .int (0 : Int32)]) (rest := []) rfl rfl rfl (y := m_273) rfl (Nat.le_of_ble_eq_true rfl) (d_273_ok (S := S) (d := e) (by omega) q_2) ?_
  rintro v_3 h_4 ⟨rfl, rfl⟩
  refine wp_s 9 [some (.ref 19), some (.ref a1)] [.ref a1] _ i_71_8 rfl ?_
  obtain ⟨k_5, hd⟩ := dk_if hd
  refine hm_get (w := .ref (a1 + 3)) 12 rfl i_71_9 (cO_iff k_5).1 (cO_iff k_5).2 rfl ?_
  refine wp_s 13 [some (.ref 19), some (.ref a1)] [.int (0 : Int32), .ref (a1 + 3)] _ i_71_12 rfl ?_
  refine wp_s 14 [some (.ref 19), some (.ref a1)] [.ref 19, .int (0 : Int32), .ref (a1 + 3)] _ i_71_13 rfl ?_
  refine hm_get (w := .ref 21) 17 rfl i_71_14 (cb rfl) kk_19 rfl ?_
  refine wp_s 18 [some (.ref 19), some (.ref a1)] [.int (0 : Int32), .ref 21, .int (0 : Int32), .ref (a1 + 3)] _ i_71_17 rfl ?_
  refine wp_s 20 [some (.ref 19), some (.ref a1)] [.int (8 : Int32), .int (0 : Int32), .ref 21, .int (0 : Int32), .ref (a1 + 3)] _ i_71_18 rfl ?_
  obtain ⟨mm_6, q_7, hd⟩ := dk_bind hd
  refine hm_copy 23 rfl i_71_20 rfl (kb_5_3 (cO_iff k_5).1 (cO_iff k_5).2) (kr_5_3 (cO_iff k_5).2) (cb rfl) kk_21 (by decide) (by decide) (by decide) (by decide) (by decide) ?_
  rw [Option.some.inj q_7]
  refine wp_s 24 [some (.ref 19), some (.ref a1)] [.ref 19] _ i_71_23 rfl ?_
  refine hm_get (w := .ref 22) 27 rfl i_71_24 (cb rfl) kk_19 rfl ?_
  refine wp_s 28 [some (.ref 19), some (.ref a1)] [.int (0 : Int32), .ref 22] _ i_71_27 rfl ?_
  obtain ⟨z_8, q_9, hd⟩ := dk_bind hd
  refine wp_callS 31 rfl i_71_28 (by decide) (vs := [.ref 22, .int (0 : Int32)]) (rest := []) rfl rfl rfl (y := m_273) rfl (Nat.le_of_ble_eq_true rfl) (d_273_ok (S := S) (d := e) (by omega) q_9) ?_
  rintro v_10 h_11 ⟨rfl, rfl⟩
  refine wp_s 32 [some (.ref 19), some (.ref a1)] [.ref 19] _ i_71_31 rfl ?_
  refine hm_get (w := .ref 23) 35 rfl i_71_32 (cb rfl) kk_19 rfl ?_
  refine wp_s 36 [some (.ref 19), some (.ref a1)] [.int (0 : Int32), .ref 23] _ i_71_35 rfl ?_
  obtain ⟨z_12, q_13, hd⟩ := dk_bind hd
  refine wp_callS 39 rfl i_71_36 (by decide) (vs := [.ref 23, .int (0 : Int32)]) (rest := []) rfl rfl rfl (y := m_273) rfl (Nat.le_of_ble_eq_true rfl) (d_273_ok (S := S) (d := e) (by omega) q_13) ?_
  rintro v_14 h_15 ⟨rfl, rfl⟩
  refine wp_s 40 [some (.ref 19), some (.ref a1)] [.ref 19] _ i_71_39 rfl ?_
  refine hm_get (w := .ref 24) 43 rfl i_71_40 (cb rfl) kk_19 rfl ?_
  refine wp_s 44 [some (.ref 19), some (.ref a1)] [.int (0 : Int32), .ref 24] _ i_71_43 rfl ?_
  obtain ⟨z_16, q_17, hd⟩ := dk_bind hd
  refine wp_callS 47 rfl i_71_44 (by decide) (vs := [.ref 24, .int (0 : Int32)]) (rest := []) rfl rfl rfl (y := m_273) rfl (Nat.le_of_ble_eq_true rfl) (d_273_ok (S := S) (d := e) (by omega) q_17) ?_
  rintro v_18 h_19 ⟨rfl, rfl⟩
  refine wp_s 48 [some (.ref 19), some (.ref a1)] [.ref 19] _ i_71_47 rfl ?_
  refine hm_get (w := .ref 25) 51 rfl i_71_48 (cb rfl) kk_19 rfl ?_
  refine wp_s 52 [some (.ref 19), some (.ref a1)] [.int (0 : Int32), .ref 25] _ i_71_51 rfl ?_
  obtain ⟨z_20, q_21, hd⟩ := dk_bind hd
  refine wp_callS 55 rfl i_71_52 (by decide) (vs := [.ref 25, .int (0 : Int32)]) (rest := []) rfl rfl rfl (y := m_273) rfl (Nat.le_of_ble_eq_true rfl) (d_273_ok (S := S) (d := e) (by omega) q_21) ?_
  rintro v_22 h_23 ⟨rfl, rfl⟩
  refine wp_s 56 [some (.ref 19), some (.ref a1)] [.ref 19] _ i_71_55 rfl ?_
  refine wp_s 57 [some (.ref 19), some (.ref a1)] [.int (0 : Int32), .ref 19] _ i_71_56 rfl ?_
  obtain ⟨mm_24, q_25, hd⟩ := dk_bind hd
  refine hm_put 60 rfl i_71_57 (cb rfl) kk_19 (fun _ _ => rfl) (fun _ _ => Nat.le_of_ble_eq_true rfl) rfl ?_
  rw [Option.some.inj q_25]
  refine wp_s 61 [some (.ref 19), some (.ref a1)] [.ref 19] _ i_71_60 rfl ?_
  refine wp_s 62 [some (.ref 19), some (.ref a1)] [.int (0 : Int32), .ref 19] _ i_71_61 rfl ?_
  obtain ⟨mm_26, q_27, hd⟩ := dk_bind hd
  refine hm_put 65 rfl i_71_62 (cb rfl) kk_19 (fun _ _ => rfl) (fun _ _ => Nat.le_of_ble_eq_true rfl) rfl ?_
  rw [Option.some.inj q_27]
  refine wp_s 66 [some (.ref 19), some (.ref a1)] [.ref 19] _ i_71_65 rfl ?_
  refine wp_s 67 [some (.ref 19), some (.ref a1)] [.int (0 : Int32), .ref 19] _ i_71_66 rfl ?_
  obtain ⟨mm_28, q_29, hd⟩ := dk_bind hd
  refine hm_put 70 rfl i_71_67 (cb rfl) kk_19 (fun _ _ => rfl) (fun _ _ => Nat.le_of_ble_eq_true rfl) rfl ?_
  rw [Option.some.inj q_29]
  refine wp_s 71 [some (.ref 19), some (.ref a1)] [.ref 19] _ i_71_70 rfl ?_
  refine wp_s 72 [some (.ref 19), some (.ref a1)] [.int (0 : Int32), .ref 19] _ i_71_71 rfl ?_
  obtain ⟨mm_30, q_31, hd⟩ := dk_bind hd
  refine hm_put 75 rfl i_71_72 (cb rfl) kk_19 (fun _ _ => rfl) (fun _ _ => Nat.le_of_ble_eq_true rfl) rfl ?_
  rw [Option.some.inj q_31]
  refine wp_s 76 [some (.ref 19), some (.ref a1)] [.ref 19] _ i_71_75 rfl ?_
  refine wp_s 77 [some (.ref 19), some (.ref a1)] [.int (0 : Int32), .ref 19] _ i_71_76 rfl ?_
  obtain ⟨mm_32, q_33, hd⟩ := dk_bind hd
  refine hm_put 80 rfl i_71_77 (cb rfl) kk_19 (fun _ _ => rfl) (fun _ _ => Nat.le_of_ble_eq_true rfl) rfl ?_
  rw [Option.some.inj q_33]
  refine wp_s 81 [some (.ref 19), some (.ref a1)] [.ref 19] _ i_71_80 rfl ?_
  refine wp_s 82 [some (.ref 19), some (.ref a1)] [.int (0 : Int32), .ref 19] _ i_71_81 rfl ?_
  obtain ⟨mm_34, q_35, hd⟩ := dk_bind hd
  refine hm_put 85 rfl i_71_82 (cb rfl) kk_19 (fun _ _ => rfl) (fun _ _ => Nat.le_of_ble_eq_true rfl) rfl ?_
  rw [Option.some.inj q_35]
  obtain rfl := Option.some.inj hd
  exact wp_ret i_71_85 rfl ⟨rfl, rfl⟩
