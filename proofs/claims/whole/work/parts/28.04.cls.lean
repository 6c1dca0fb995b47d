theorem i_45_0 : aIns 45 0 = some (.aload_n 0, 1, 0, 0, .null) := by decide +kernel
theorem i_45_1 : aIns 45 1 = some (.aload_n 1, 1, 0, 0, .null) := by decide +kernel
theorem i_45_2 : aIns 45 2 = some (.putfield 15, 3, 4, 1, .null) := by decide +kernel
theorem i_45_5 : aIns 45 5 = some (.aload_n 0, 1, 0, 0, .null) := by decide +kernel
theorem i_45_6 : aIns 45 6 = some (.getfield 15, 3, 4, 1, .null) := by decide +kernel
theorem i_45_9 : aIns 45 9 = some (.iconst 0, 1, 0, 0, .int (0)) := by decide +kernel
theorem i_45_10 : aIns 45 10 = some (.putfield 19, 3, 3, 5, .null) := by decide +kernel
theorem i_45_13 : aIns 45 13 = some (.aload_n 0, 1, 0, 0, .null) := by decide +kernel
theorem i_45_14 : aIns 45 14 = some (.getfield 15, 3, 4, 1, .null) := by decide +kernel
theorem i_45_17 : aIns 45 17 = some (.iconst 0, 1, 0, 0, .int (0)) := by decide +kernel
theorem i_45_18 : aIns 45 18 = some (.putfield 25, 3, 3, 6, .null) := by decide +kernel
theorem i_45_21 : aIns 45 21 = some (.aload_n 0, 1, 0, 0, .null) := by decide +kernel
theorem i_45_22 : aIns 45 22 = some (.iconst 0, 1, 0, 0, .int (0)) := by decide +kernel
theorem i_45_23 : aIns 45 23 = some (.putfield 28, 3, 4, 2, .null) := by decide +kernel
theorem i_45_26 : aIns 45 26 = some (.aload_n 0, 1, 0, 0, .null) := by decide +kernel
theorem i_45_27 : aIns 45 27 = some (.getfield 9, 3, 4, 0, .null) := by decide +kernel
theorem i_45_30 : aIns 45 30 = some (.invokevirtual 31, 3, 82, 0, .int 8) := by decide +kernel
theorem i_45_33 : aIns 45 33 = some (.aload_n 0, 1, 0, 0, .null) := by decide +kernel
theorem i_45_34 : aIns 45 34 = some (.invokevirtual 36, 3, 46, 0, .int 4) := by decide +kernel
theorem i_45_37 : aIns 45 37 = some (.iconst 0, 1, 0, 0, .int (0)) := by decide +kernel
theorem i_45_38 : aIns 45 38 = some (.istore_n 2, 1, 0, 0, .null) := by decide +kernel
theorem i_45_39 : aIns 45 39 = some (.iload_n 2, 1, 0, 0, .null) := by decide +kernel
theorem i_45_40 : aIns 45 40 = some (.sipush 400, 3, 0, 0, .int (400)) := by decide +kernel
theorem i_45_43 : aIns 45 43 = some (.if_icmp .ge 32, 3, 0, 0, .null) := by decide +kernel
theorem i_45_46 : aIns 45 46 = some (.aload_n 0, 1, 0, 0, .null) := by decide +kernel
theorem i_45_47 : aIns 45 47 = some (.getfield 9, 3, 4, 0, .null) := by decide +kernel
theorem i_45_50 : aIns 45 50 = some (.getfield 39, 3, 8, 3, .null) := by decide +kernel
theorem i_45_53 : aIns 45 53 = some (.bipush 23, 2, 0, 0, .int (23)) := by decide +kernel
theorem i_45_55 : aIns 45 55 = some (.if_icmp .ne 20, 3, 0, 0, .null) := by decide +kernel
theorem i_45_58 : aIns 45 58 = some (.aload_n 0, 1, 0, 0, .null) := by decide +kernel
theorem i_45_59 : aIns 45 59 = some (.getfield 9, 3, 4, 0, .null) := by decide +kernel
theorem i_45_62 : aIns 45 62 = some (.invokevirtual 42, 3, 84, 0, .int 8) := by decide +kernel
theorem i_45_65 : aIns 45 65 = some (.aload_n 0, 1, 0, 0, .null) := by decide +kernel
theorem i_45_66 : aIns 45 66 = some (.invokevirtual 36, 3, 46, 0, .int 4) := by decide +kernel
theorem i_45_69 : aIns 45 69 = some (.iinc 2 1, 3, 0, 0, .null) := by decide +kernel
theorem i_45_72 : aIns 45 72 = some (.goto (-33), 3, 0, 0, .null) := by decide +kernel
theorem i_45_75 : aIns 45 75 = some (.aload_n 0, 1, 0, 0, .null) := by decide +kernel
theorem i_45_76 : aIns 45 76 = some (.getfield 9, 3, 4, 0, .null) := by decide +kernel
theorem i_45_79 : aIns 45 79 = some (.getfield 39, 3, 8, 3, .null) := by decide +kernel
theorem i_45_82 : aIns 45 82 = some (.bipush 21, 2, 0, 0, .int (21)) := by decide +kernel
theorem i_45_84 : aIns 45 84 = some (.if_icmp .eq 11, 3, 0, 0, .null) := by decide +kernel
theorem i_45_87 : aIns 45 87 = some (.aload_n 0, 1, 0, 0, .null) := by decide +kernel
theorem i_45_88 : aIns 45 88 = some (.getfield 9, 3, 4, 0, .null) := by decide +kernel
theorem i_45_91 : aIns 45 91 = some (.iconst 0, 1, 0, 0, .int (0)) := by decide +kernel
theorem i_45_92 : aIns 45 92 = some (.invokevirtual 45, 3, 83, 1, .int 8) := by decide +kernel
theorem i_45_95 : aIns 45 95 = some (.aload_n 0, 1, 0, 0, .null) := by decide +kernel
theorem i_45_96 : aIns 45 96 = some (.getfield 9, 3, 4, 0, .null) := by decide +kernel
theorem i_45_99 : aIns 45 99 = some (.getfield 49, 3, 8, 6, .null) := by decide +kernel
theorem i_45_102 : aIns 45 102 = some (.ireturn, 1, 0, 0, .null) := by decide +kernel
theorem i_46_0 : aIns 46 0 = some (.aload_n 0, 1, 0, 0, .null) := by decide +kernel
theorem i_46_1 : aIns 46 1 = some (.getfield 9, 3, 4, 0, .null) := by decide +kernel
theorem i_46_4 : aIns 46 4 = some (.getfield 39, 3, 8, 3, .null) := by decide +kernel
theorem i_46_7 : aIns 46 7 = some (.bipush 15, 2, 0, 0, .int (15)) := by decide +kernel
theorem i_46_9 : aIns 46 9 = some (.if_icmp .eq 12, 3, 0, 0, .null) := by decide +kernel
theorem i_46_12 : aIns 46 12 = some (.aload_n 0, 1, 0, 0, .null) := by decide +kernel
theorem i_46_13 : aIns 46 13 = some (.getfield 9, 3, 4, 0, .null) := by decide +kernel
theorem i_46_16 : aIns 46 16 = some (.iconst 0, 1, 0, 0, .int (0)) := by decide +kernel
theorem i_46_17 : aIns 46 17 = some (.invokevirtual 45, 3, 83, 1, .int 8) := by decide +kernel
theorem i_46_20 : aIns 46 20 = some (.return_, 1, 0, 0, .null) := by decide +kernel
theorem i_46_21 : aIns 46 21 = some (.aload_n 0, 1, 0, 0, .null) := by decide +kernel
theorem i_46_22 : aIns 46 22 = some (.getfield 15, 3, 4, 1, .null) := by decide +kernel
theorem i_46_25 : aIns 46 25 = some (.getfield 25, 3, 3, 6, .null) := by decide +kernel
theorem i_46_28 : aIns 46 28 = some (.istore_n 1, 1, 0, 0, .null) := by decide +kernel
theorem i_46_29 : aIns 46 29 = some (.iload_n 1, 1, 0, 0, .null) := by decide +kernel
theorem i_46_30 : aIns 46 30 = some (.bipush 12, 2, 0, 0, .int (12)) := by decide +kernel
theorem i_46_32 : aIns 46 32 = some (.if_icmp .lt 12, 3, 0, 0, .null) := by decide +kernel
theorem i_46_35 : aIns 46 35 = some (.aload_n 0, 1, 0, 0, .null) := by decide +kernel
theorem i_46_36 : aIns 46 36 = some (.getfield 9, 3, 4, 0, .null) := by decide +kernel
theorem i_46_39 : aIns 46 39 = some (.iconst 4, 1, 0, 0, .int (4)) := by decide +kernel
theorem i_46_40 : aIns 46 40 = some (.invokevirtual 45, 3, 83, 1, .int 8) := by decide +kernel
theorem i_46_43 : aIns 46 43 = some (.return_, 1, 0, 0, .null) := by decide +kernel
theorem i_46_44 : aIns 46 44 = some (.aload_n 0, 1, 0, 0, .null) := by decide +kernel
theorem i_46_45 : aIns 46 45 = some (.getfield 15, 3, 4, 1, .null) := by decide +kernel
theorem i_46_48 : aIns 46 48 = some (.dup, 1, 0, 0, .null) := by decide +kernel
theorem i_46_49 : aIns 46 49 = some (.getfield 25, 3, 3, 6, .null) := by decide +kernel
theorem i_46_52 : aIns 46 52 = some (.iconst 1, 1, 0, 0, .int (1)) := by decide +kernel
theorem i_46_53 : aIns 46 53 = some (.iadd, 1, 0, 0, .null) := by decide +kernel
theorem i_46_54 : aIns 46 54 = some (.putfield 25, 3, 3, 6, .null) := by decide +kernel
theorem i_46_57 : aIns 46 57 = some (.aload_n 0, 1, 0, 0, .null) := by decide +kernel
theorem i_46_58 : aIns 46 58 = some (.getfield 9, 3, 4, 0, .null) := by decide +kernel
theorem i_46_61 : aIns 46 61 = some (.invokevirtual 42, 3, 84, 0, .int 8) := by decide +kernel
theorem i_46_64 : aIns 46 64 = some (.aload_n 0, 1, 0, 0, .null) := by decide +kernel
theorem i_46_65 : aIns 46 65 = some (.getfield 15, 3, 4, 1, .null) := by decide +kernel
theorem i_46_68 : aIns 46 68 = some (.getfield 52, 3, 3, 1, .null) := by decide +kernel
theorem i_46_71 : aIns 46 71 = some (.iload_n 1, 1, 0, 0, .null) := by decide +kernel
theorem i_46_72 : aIns 46 72 = some (.aload_n 0, 1, 0, 0, .null) := by decide +kernel
theorem i_46_73 : aIns 46 73 = some (.getfield 15, 3, 4, 1, .null) := by decide +kernel
theorem i_46_76 : aIns 46 76 = some (.getfield 19, 3, 3, 5, .null) := by decide +kernel
theorem i_46_79 : aIns 46 79 = some (.iastore, 1, 0, 0, .null) := by decide +kernel
theorem i_46_80 : aIns 46 80 = some (.aload_n 0, 1, 0, 0, .null) := by decide +kernel
theorem i_46_81 : aIns 46 81 = some (.iconst 0, 1, 0, 0, .int (0)) := by decide +kernel
theorem i_46_82 : aIns 46 82 = some (.invokevirtual 56, 3, 50, 1, .int 4) := by decide +kernel
theorem i_46_85 : aIns 46 85 = some (.aload_n 0, 1, 0, 0, .null) := by decide +kernel
theorem i_46_86 : aIns 46 86 = some (.getfield 15, 3, 4, 1, .null) := by decide +kernel
theorem i_46_89 : aIns 46 89 = some (.getfield 59, 3, 3, 2, .null) := by decide +kernel
theorem i_46_92 : aIns 46 92 = some (.iload_n 1, 1, 0, 0, .null) := by decide +kernel
theorem i_46_93 : aIns 46 93 = some (.aload_n 0, 1, 0, 0, .null) := by decide +kernel
theorem i_46_94 : aIns 46 94 = some (.getfield 15, 3, 4, 1, .null) := by decide +kernel
theorem i_46_97 : aIns 46 97 = some (.getfield 19, 3, 3, 5, .null) := by decide +kernel
theorem i_46_100 : aIns 46 100 = some (.iastore, 1, 0, 0, .null) := by decide +kernel
theorem i_46_101 : aIns 46 101 = some (.aload_n 0, 1, 0, 0, .null) := by decide +kernel
theorem i_46_102 : aIns 46 102 = some (.getfield 9, 3, 4, 0, .null) := by decide +kernel
theorem i_46_105 : aIns 46 105 = some (.getfield 39, 3, 8, 3, .null) := by decide +kernel
theorem i_46_108 : aIns 46 108 = some (.bipush 16, 2, 0, 0, .int (16)) := by decide +kernel
theorem i_46_110 : aIns 46 110 = some (.if_icmp .ne 16, 3, 0, 0, .null) := by decide +kernel
theorem i_46_113 : aIns 46 113 = some (.aload_n 0, 1, 0, 0, .null) := by decide +kernel
theorem i_46_114 : aIns 46 114 = some (.getfield 9, 3, 4, 0, .null) := by decide +kernel
theorem i_46_117 : aIns 46 117 = some (.invokevirtual 42, 3, 84, 0, .int 8) := by decide +kernel
theorem i_46_120 : aIns 46 120 = some (.aload_n 0, 1, 0, 0, .null) := by decide +kernel
theorem i_46_121 : aIns 46 121 = some (.iconst 0, 1, 0, 0, .int (0)) := by decide +kernel
theorem i_46_122 : aIns 46 122 = some (.iconst 0, 1, 0, 0, .int (0)) := by decide +kernel
theorem i_46_123 : aIns 46 123 = some (.invokevirtual 62, 3, 47, 2, .int 4) := by decide +kernel
theorem i_46_126 : aIns 46 126 = some (.aload_n 0, 1, 0, 0, .null) := by decide +kernel
theorem i_46_127 : aIns 46 127 = some (.getfield 15, 3, 4, 1, .null) := by decide +kernel
theorem i_46_130 : aIns 46 130 = some (.getfield 66, 3, 3, 3, .null) := by decide +kernel
theorem i_46_133 : aIns 46 133 = some (.iload_n 1, 1, 0, 0, .null) := by decide +kernel
theorem i_46_134 : aIns 46 134 = some (.aload_n 0, 1, 0, 0, .null) := by decide +kernel
theorem i_46_135 : aIns 46 135 = some (.getfield 15, 3, 4, 1, .null) := by decide +kernel
theorem i_46_138 : aIns 46 138 = some (.getfield 19, 3, 3, 5, .null) := by decide +kernel
theorem i_46_141 : aIns 46 141 = some (.iastore, 1, 0, 0, .null) := by decide +kernel
theorem i_46_142 : aIns 46 142 = some (.return_, 1, 0, 0, .null) := by decide +kernel
theorem i_47_0 : aIns 47 0 = some (.iload_n 1, 1, 0, 0, .null) := by decide +kernel
theorem i_47_1 : aIns 47 1 = some (.iconst 1, 1, 0, 0, .int (1)) := by decide +kernel
theorem i_47_2 : aIns 47 2 = some (.if_icmp .le 9, 3, 0, 0, .null) := by decide +kernel
theorem i_47_5 : aIns 47 5 = some (.aload_n 0, 1, 0, 0, .null) := by decide +kernel
theorem i_47_6 : aIns 47 6 = some (.iload_n 2, 1, 0, 0, .null) := by decide +kernel
theorem i_47_7 : aIns 47 7 = some (.invokevirtual 69, 3, 48, 1, .int 4) := by decide +kernel
theorem i_47_10 : aIns 47 10 = some (.return_, 1, 0, 0, .null) := by decide +kernel
theorem i_47_11 : aIns 47 11 = some (.iload_n 1, 1, 0, 0, .null) := by decide +kernel
theorem i_47_12 : aIns 47 12 = some (.ifCond .ne 8, 3, 0, 0, .null) := by decide +kernel
theorem i_47_15 : aIns 47 15 = some (.bipush 17, 2, 0, 0, .int (17)) := by decide +kernel
theorem i_47_17 : aIns 47 17 = some (.goto 5, 3, 0, 0, .null) := by decide +kernel
theorem i_47_20 : aIns 47 20 = some (.bipush 18, 2, 0, 0, .int (18)) := by decide +kernel
theorem i_47_22 : aIns 47 22 = some (.istore_n 3, 1, 0, 0, .null) := by decide +kernel
theorem i_47_23 : aIns 47 23 = some (.aload_n 0, 1, 0, 0, .null) := by decide +kernel
theorem i_47_24 : aIns 47 24 = some (.iload_n 1, 1, 0, 0, .null) := by decide +kernel
theorem i_47_25 : aIns 47 25 = some (.iconst 1, 1, 0, 0, .int (1)) := by decide +kernel
theorem i_47_26 : aIns 47 26 = some (.iadd, 1, 0, 0, .null) := by decide +kernel
theorem i_47_27 : aIns 47 27 = some (.iload_n 2, 1, 0, 0, .null) := by decide +kernel
theorem i_47_28 : aIns 47 28 = some (.invokevirtual 62, 3, 47, 2, .int 4) := by decide +kernel
theorem i_47_31 : aIns 47 31 = some (.iconst 0, 1, 0, 0, .int (0)) := by decide +kernel
theorem i_47_32 : aIns 47 32 = some (.istore 4, 2, 0, 0, .null) := by decide +kernel
theorem i_47_34 : aIns 47 34 = some (.iload 4, 2, 0, 0, .null) := by decide +kernel
theorem i_47_36 : aIns 47 36 = some (.sipush 400, 3, 0, 0, .int (400)) := by decide +kernel
theorem i_47_39 : aIns 47 39 = some (.if_icmp .ge 42, 3, 0, 0, .null) := by decide +kernel
theorem i_47_42 : aIns 47 42 = some (.aload_n 0, 1, 0, 0, .null) := by decide +kernel
theorem i_47_43 : aIns 47 43 = some (.getfield 9, 3, 4, 0, .null) := by decide +kernel
theorem i_47_46 : aIns 47 46 = some (.getfield 39, 3, 8, 3, .null) := by decide +kernel
theorem i_47_49 : aIns 47 49 = some (.iload_n 3, 1, 0, 0, .null) := by decide +kernel
theorem i_47_50 : aIns 47 50 = some (.if_icmp .ne 31, 3, 0, 0, .null) := by decide +kernel
theorem i_47_53 : aIns 47 53 = some (.aload_n 0, 1, 0, 0, .null) := by decide +kernel
theorem i_47_54 : aIns 47 54 = some (.getfield 9, 3, 4, 0, .null) := by decide +kernel
theorem i_47_57 : aIns 47 57 = some (.invokevirtual 42, 3, 84, 0, .int 8) := by decide +kernel
theorem i_47_60 : aIns 47 60 = some (.aload_n 0, 1, 0, 0, .null) := by decide +kernel
theorem i_47_61 : aIns 47 61 = some (.iload_n 1, 1, 0, 0, .null) := by decide +kernel
theorem i_47_62 : aIns 47 62 = some (.iconst 1, 1, 0, 0, .int (1)) := by decide +kernel
theorem i_47_63 : aIns 47 63 = some (.iadd, 1, 0, 0, .null) := by decide +kernel
theorem i_47_64 : aIns 47 64 = some (.iload_n 2, 1, 0, 0, .null) := by decide +kernel
theorem i_47_65 : aIns 47 65 = some (.invokevirtual 62, 3, 47, 2, .int 4) := by decide +kernel
theorem i_47_68 : aIns 47 68 = some (.aload_n 0, 1, 0, 0, .null) := by decide +kernel
theorem i_47_69 : aIns 47 69 = some (.iconst (-1), 1, 0, 0, .int (-1)) := by decide +kernel
theorem i_47_70 : aIns 47 70 = some (.iload_n 3, 1, 0, 0, .null) := by decide +kernel
theorem i_47_71 : aIns 47 71 = some (.isub, 1, 0, 0, .null) := by decide +kernel
theorem i_47_72 : aIns 47 72 = some (.invokevirtual 72, 3, 53, 1, .int 4) := by decide +kernel
theorem i_47_75 : aIns 47 75 = some (.iinc 4 1, 3, 0, 0, .null) := by decide +kernel
theorem i_47_78 : aIns 47 78 = some (.goto (-44), 3, 0, 0, .null) := by decide +kernel
theorem i_47_81 : aIns 47 81 = some (.return_, 1, 0, 0, .null) := by decide +kernel
theorem i_48_0 : aIns 48 0 = some (.aload_n 0, 1, 0, 0, .null) := by decide +kernel
theorem i_48_1 : aIns 48 1 = some (.getfield 9, 3, 4, 0, .null) := by decide +kernel
theorem i_48_4 : aIns 48 4 = some (.getfield 39, 3, 8, 3, .null) := by decide +kernel
theorem i_48_7 : aIns 48 7 = some (.bipush 19, 2, 0, 0, .int (19)) := by decide +kernel
theorem i_48_9 : aIns 48 9 = some (.if_icmp .eq 15, 3, 0, 0, .null) := by decide +kernel
theorem i_48_12 : aIns 48 12 = some (.aload_n 0, 1, 0, 0, .null) := by decide +kernel
theorem i_48_13 : aIns 48 13 = some (.getfield 9, 3, 4, 0, .null) := by decide +kernel
theorem i_48_16 : aIns 48 16 = some (.getfield 39, 3, 8, 3, .null) := by decide +kernel
theorem i_48_19 : aIns 48 19 = some (.bipush 24, 2, 0, 0, .int (24)) := by decide +kernel
theorem i_48_21 : aIns 48 21 = some (.if_icmp .ne 9, 3, 0, 0, .null) := by decide +kernel
theorem i_48_24 : aIns 48 24 = some (.aload_n 0, 1, 0, 0, .null) := by decide +kernel
theorem i_48_25 : aIns 48 25 = some (.iload_n 1, 1, 0, 0, .null) := by decide +kernel
theorem i_48_26 : aIns 48 26 = some (.invokevirtual 75, 3, 49, 1, .int 4) := by decide +kernel
theorem i_48_29 : aIns 48 29 = some (.return_, 1, 0, 0, .null) := by decide +kernel
theorem i_48_30 : aIns 48 30 = some (.aload_n 0, 1, 0, 0, .null) := by decide +kernel
theorem i_48_31 : aIns 48 31 = some (.iconst 0, 1, 0, 0, .int (0)) := by decide +kernel
theorem i_48_32 : aIns 48 32 = some (.invokevirtual 56, 3, 50, 1, .int 4) := by decide +kernel
theorem i_48_35 : aIns 48 35 = some (.aload_n 0, 1, 0, 0, .null) := by decide +kernel
theorem i_48_36 : aIns 48 36 = some (.getfield 9, 3, 4, 0, .null) := by decide +kernel
theorem i_48_39 : aIns 48 39 = some (.getfield 39, 3, 8, 3, .null) := by decide +kernel
theorem i_48_42 : aIns 48 42 = some (.istore_n 2, 1, 0, 0, .null) := by decide +kernel
theorem i_48_43 : aIns 48 43 = some (.iload_n 2, 1, 0, 0, .null) := by decide +kernel
theorem i_48_44 : aIns 48 44 = some (.bipush 31, 2, 0, 0, .int (31)) := by decide +kernel
theorem i_48_46 : aIns 48 46 = some (.bipush 35, 2, 0, 0, .int (35)) := by decide +kernel
theorem i_48_48 : aIns 48 48 = some (.invokestatic 78, 3, 138, 3, .null) := by decide +kernel
theorem i_48_51 : aIns 48 51 = some (.ifCond .ne 12, 3, 0, 0, .null) := by decide +kernel
theorem i_48_54 : aIns 48 54 = some (.aload_n 0, 1, 0, 0, .null) := by decide +kernel
theorem i_48_55 : aIns 48 55 = some (.getfield 9, 3, 4, 0, .null) := by decide +kernel
theorem i_48_58 : aIns 48 58 = some (.iconst 0, 1, 0, 0, .int (0)) := by decide +kernel
theorem i_48_59 : aIns 48 59 = some (.invokevirtual 45, 3, 83, 1, .int 8) := by decide +kernel
theorem i_48_62 : aIns 48 62 = some (.return_, 1, 0, 0, .null) := by decide +kernel
theorem i_48_63 : aIns 48 63 = some (.aload_n 0, 1, 0, 0, .null) := by decide +kernel
theorem i_48_64 : aIns 48 64 = some (.invokevirtual 82, 3, 52, 0, .int 4) := by decide +kernel
theorem i_48_67 : aIns 48 67 = some (.aload_n 0, 1, 0, 0, .null) := by decide +kernel
theorem i_48_68 : aIns 48 68 = some (.getfield 9, 3, 4, 0, .null) := by decide +kernel
theorem i_48_71 : aIns 48 71 = some (.invokevirtual 42, 3, 84, 0, .int 8) := by decide +kernel
theorem i_48_74 : aIns 48 74 = some (.aload_n 0, 1, 0, 0, .null) := by decide +kernel
theorem i_48_75 : aIns 48 75 = some (.iconst 0, 1, 0, 0, .int (0)) := by decide +kernel
theorem i_48_76 : aIns 48 76 = some (.invokevirtual 56, 3, 50, 1, .int 4) := by decide +kernel
theorem i_48_79 : aIns 48 79 = some (.aload_n 0, 1, 0, 0, .null) := by decide +kernel
theorem i_48_80 : aIns 48 80 = some (.iconst (-1), 1, 0, 0, .int (-1)) := by decide +kernel
theorem i_48_81 : aIns 48 81 = some (.iload_n 2, 1, 0, 0, .null) := by decide +kernel
theorem i_48_82 : aIns 48 82 = some (.isub, 1, 0, 0, .null) := by decide +kernel
theorem i_48_83 : aIns 48 83 = some (.invokevirtual 72, 3, 53, 1, .int 4) := by decide +kernel
theorem i_48_86 : aIns 48 86 = some (.return_, 1, 0, 0, .null) := by decide +kernel
theorem i_49_0 : aIns 49 0 = some (.iload_n 1, 1, 0, 0, .null) := by decide +kernel
theorem i_49_1 : aIns 49 1 = some (.bipush 10, 2, 0, 0, .int (10)) := by decide +kernel
theorem i_49_3 : aIns 49 3 = some (.if_icmp .lt 14, 3, 0, 0, .null) := by decide +kernel
theorem i_49_6 : aIns 49 6 = some (.aload_n 0, 1, 0, 0, .null) := by decide +kernel
theorem i_49_7 : aIns 49 7 = some (.getfield 9, 3, 4, 0, .null) := by decide +kernel
theorem i_49_10 : aIns 49 10 = some (.iconst 2, 1, 0, 0, .int (2)) := by decide +kernel
theorem i_49_11 : aIns 49 11 = some (.invokevirtual 45, 3, 83, 1, .int 8) := by decide +kernel
theorem i_49_14 : aIns 49 14 = some (.goto 80, 3, 0, 0, .null) := by decide +kernel
theorem i_49_17 : aIns 49 17 = some (.aload_n 0, 1, 0, 0, .null) := by decide +kernel
theorem i_49_18 : aIns 49 18 = some (.getfield 9, 3, 4, 0, .null) := by decide +kernel
theorem i_49_21 : aIns 49 21 = some (.getfield 39, 3, 8, 3, .null) := by decide +kernel
theorem i_49_24 : aIns 49 24 = some (.bipush 19, 2, 0, 0, .int (19)) := by decide +kernel
theorem i_49_26 : aIns 49 26 = some (.if_icmp .ne 26, 3, 0, 0, .null) := by decide +kernel
theorem i_49_29 : aIns 49 29 = some (.aload_n 0, 1, 0, 0, .null) := by decide +kernel
theorem i_49_30 : aIns 49 30 = some (.getfield 9, 3, 4, 0, .null) := by decide +kernel
theorem i_49_33 : aIns 49 33 = some (.invokevirtual 42, 3, 84, 0, .int 8) := by decide +kernel
theorem i_49_36 : aIns 49 36 = some (.aload_n 0, 1, 0, 0, .null) := by decide +kernel
theorem i_49_37 : aIns 49 37 = some (.iload_n 1, 1, 0, 0, .null) := by decide +kernel
theorem i_49_38 : aIns 49 38 = some (.iconst 1, 1, 0, 0, .int (1)) := by decide +kernel
theorem i_49_39 : aIns 49 39 = some (.iadd, 1, 0, 0, .null) := by decide +kernel
theorem i_49_40 : aIns 49 40 = some (.invokevirtual 69, 3, 48, 1, .int 4) := by decide +kernel
theorem i_49_43 : aIns 49 43 = some (.aload_n 0, 1, 0, 0, .null) := by decide +kernel
theorem i_49_44 : aIns 49 44 = some (.bipush (-20), 2, 0, 0, .int (-20)) := by decide +kernel
theorem i_49_46 : aIns 49 46 = some (.invokevirtual 72, 3, 53, 1, .int 4) := by decide +kernel
theorem i_49_49 : aIns 49 49 = some (.goto 45, 3, 0, 0, .null) := by decide +kernel
theorem i_49_52 : aIns 49 52 = some (.aload_n 0, 1, 0, 0, .null) := by decide +kernel
theorem i_49_53 : aIns 49 53 = some (.getfield 9, 3, 4, 0, .null) := by decide +kernel
theorem i_49_56 : aIns 49 56 = some (.invokevirtual 42, 3, 84, 0, .int 8) := by decide +kernel
theorem i_49_59 : aIns 49 59 = some (.aload_n 0, 1, 0, 0, .null) := by decide +kernel
theorem i_49_60 : aIns 49 60 = some (.iconst 0, 1, 0, 0, .int (0)) := by decide +kernel
theorem i_49_61 : aIns 49 61 = some (.iload_n 1, 1, 0, 0, .null) := by decide +kernel
theorem i_49_62 : aIns 49 62 = some (.iconst 1, 1, 0, 0, .int (1)) := by decide +kernel
theorem i_49_63 : aIns 49 63 = some (.iadd, 1, 0, 0, .null) := by decide +kernel
theorem i_49_64 : aIns 49 64 = some (.invokevirtual 62, 3, 47, 2, .int 4) := by decide +kernel
theorem i_49_67 : aIns 49 67 = some (.aload_n 0, 1, 0, 0, .null) := by decide +kernel
theorem i_49_68 : aIns 49 68 = some (.getfield 9, 3, 4, 0, .null) := by decide +kernel
theorem i_49_71 : aIns 49 71 = some (.getfield 39, 3, 8, 3, .null) := by decide +kernel
theorem i_49_74 : aIns 49 74 = some (.bipush 25, 2, 0, 0, .int (25)) := by decide +kernel
theorem i_49_76 : aIns 49 76 = some (.if_icmp .eq 11, 3, 0, 0, .null) := by decide +kernel
theorem i_49_79 : aIns 49 79 = some (.aload_n 0, 1, 0, 0, .null) := by decide +kernel
theorem i_49_80 : aIns 49 80 = some (.getfield 9, 3, 4, 0, .null) := by decide +kernel
theorem i_49_83 : aIns 49 83 = some (.iconst 0, 1, 0, 0, .int (0)) := by decide +kernel
theorem i_49_84 : aIns 49 84 = some (.invokevirtual 45, 3, 83, 1, .int 8) := by decide +kernel
theorem i_49_87 : aIns 49 87 = some (.aload_n 0, 1, 0, 0, .null) := by decide +kernel
theorem i_49_88 : aIns 49 88 = some (.getfield 9, 3, 4, 0, .null) := by decide +kernel
theorem i_49_91 : aIns 49 91 = some (.invokevirtual 42, 3, 84, 0, .int 8) := by decide +kernel
theorem i_49_94 : aIns 49 94 = some (.return_, 1, 0, 0, .null) := by decide +kernel
theorem i_54_0 : aIns 54 0 = some (.aload_n 0, 1, 0, 0, .null) := by decide +kernel
theorem i_54_1 : aIns 54 1 = some (.invokespecial 3, 3, 1000, 0, .null) := by decide +kernel
theorem i_54_4 : aIns 54 4 = some (.aload_n 0, 1, 0, 0, .null) := by decide +kernel
theorem i_54_5 : aIns 54 5 = some (.bipush 8, 2, 0, 0, .int (8)) := by decide +kernel
theorem i_54_7 : aIns 54 7 = some (.newarray .int, 2, 0, 0, .null) := by decide +kernel
theorem i_54_9 : aIns 54 9 = some (.putfield 9, 3, 5, 5, .null) := by decide +kernel
theorem i_54_12 : aIns 54 12 = some (.aload_n 0, 1, 0, 0, .null) := by decide +kernel
theorem i_54_13 : aIns 54 13 = some (.bipush 8, 2, 0, 0, .int (8)) := by decide +kernel
theorem i_54_15 : aIns 54 15 = some (.newarray .int, 2, 0, 0, .null) := by decide +kernel
theorem i_54_17 : aIns 54 17 = some (.putfield 15, 3, 5, 6, .null) := by decide +kernel
theorem i_54_20 : aIns 54 20 = some (.aload_n 0, 1, 0, 0, .null) := by decide +kernel
theorem i_54_21 : aIns 54 21 = some (.bipush 8, 2, 0, 0, .int (8)) := by decide +kernel
theorem i_54_23 : aIns 54 23 = some (.newarray .int, 2, 0, 0, .null) := by decide +kernel
theorem i_54_25 : aIns 54 25 = some (.putfield 18, 3, 5, 7, .null) := by decide +kernel
theorem i_54_28 : aIns 54 28 = some (.aload_n 0, 1, 0, 0, .null) := by decide +kernel
theorem i_54_29 : aIns 54 29 = some (.bipush 6, 2, 0, 0, .int (6)) := by decide +kernel
theorem i_54_31 : aIns 54 31 = some (.newarray .int, 2, 0, 0, .null) := by decide +kernel
theorem i_54_33 : aIns 54 33 = some (.putfield 21, 3, 5, 9, .null) := by decide +kernel
theorem i_54_36 : aIns 54 36 = some (.aload_n 0, 1, 0, 0, .null) := by decide +kernel
theorem i_54_37 : aIns 54 37 = some (.bipush 6, 2, 0, 0, .int (6)) := by decide +kernel
theorem i_54_39 : aIns 54 39 = some (.newarray .int, 2, 0, 0, .null) := by decide +kernel
theorem i_54_41 : aIns 54 41 = some (.putfield 24, 3, 5, 10, .null) := by decide +kernel
theorem i_54_44 : aIns 54 44 = some (.aload_n 0, 1, 0, 0, .null) := by decide +kernel
theorem i_54_45 : aIns 54 45 = some (.iconst 4, 1, 0, 0, .int (4)) := by decide +kernel
theorem i_54_46 : aIns 54 46 = some (.newarray .int, 2, 0, 0, .null) := by decide +kernel
theorem i_54_48 : aIns 54 48 = some (.putfield 27, 3, 5, 12, .null) := by decide +kernel
theorem i_54_51 : aIns 54 51 = some (.aload_n 0, 1, 0, 0, .null) := by decide +kernel
theorem i_54_52 : aIns 54 52 = some (.iconst 4, 1, 0, 0, .int (4)) := by decide +kernel
theorem i_54_53 : aIns 54 53 = some (.newarray .int, 2, 0, 0, .null) := by decide +kernel
theorem i_54_55 : aIns 54 55 = some (.putfield 30, 3, 5, 13, .null) := by decide +kernel
theorem i_54_58 : aIns 54 58 = some (.aload_n 0, 1, 0, 0, .null) := by decide +kernel
theorem i_54_59 : aIns 54 59 = some (.iconst 4, 1, 0, 0, .int (4)) := by decide +kernel
theorem i_54_60 : aIns 54 60 = some (.newarray .int, 2, 0, 0, .null) := by decide +kernel
theorem i_54_62 : aIns 54 62 = some (.putfield 33, 3, 5, 14, .null) := by decide +kernel
theorem i_54_65 : aIns 54 65 = some (.aload_n 0, 1, 0, 0, .null) := by decide +kernel
theorem i_54_66 : aIns 54 66 = some (.iconst 5, 1, 0, 0, .int (5)) := by decide +kernel
theorem i_54_67 : aIns 54 67 = some (.newarray .int, 2, 0, 0, .null) := by decide +kernel
theorem i_54_69 : aIns 54 69 = some (.putfield 36, 3, 5, 16, .null) := by decide +kernel
theorem i_54_72 : aIns 54 72 = some (.aload_n 0, 1, 0, 0, .null) := by decide +kernel
theorem i_54_73 : aIns 54 73 = some (.iconst 5, 1, 0, 0, .int (5)) := by decide +kernel
theorem i_54_74 : aIns 54 74 = some (.newarray .int, 2, 0, 0, .null) := by decide +kernel
theorem i_54_76 : aIns 54 76 = some (.putfield 39, 3, 5, 17, .null) := by decide +kernel
theorem i_54_79 : aIns 54 79 = some (.aload_n 0, 1, 0, 0, .null) := by decide +kernel
theorem i_54_80 : aIns 54 80 = some (.iconst 5, 1, 0, 0, .int (5)) := by decide +kernel
theorem i_54_81 : aIns 54 81 = some (.newarray .int, 2, 0, 0, .null) := by decide +kernel
theorem i_54_83 : aIns 54 83 = some (.putfield 42, 3, 5, 18, .null) := by decide +kernel
theorem i_54_86 : aIns 54 86 = some (.aload_n 0, 1, 0, 0, .null) := by decide +kernel
theorem i_54_87 : aIns 54 87 = some (.iconst 5, 1, 0, 0, .int (5)) := by decide +kernel
theorem i_54_88 : aIns 54 88 = some (.newarray .int, 2, 0, 0, .null) := by decide +kernel
theorem i_54_90 : aIns 54 90 = some (.putfield 45, 3, 5, 19, .null) := by decide +kernel
theorem i_54_93 : aIns 54 93 = some (.return_, 1, 0, 0, .null) := by decide +kernel
theorem i_55_0 : aIns 55 0 = some (.iload_n 1, 1, 0, 0, .null) := by decide +kernel
theorem i_55_1 : aIns 55 1 = some (.ifCond .lt 15, 3, 0, 0, .null) := by decide +kernel
theorem i_55_4 : aIns 55 4 = some (.iload_n 1, 1, 0, 0, .null) := by decide +kernel
theorem i_55_5 : aIns 55 5 = some (.aload_n 0, 1, 0, 0, .null) := by decide +kernel
theorem i_55_6 : aIns 55 6 = some (.getfield 48, 3, 5, 4, .null) := by decide +kernel
theorem i_55_9 : aIns 55 9 = some (.if_icmp .ge 7, 3, 0, 0, .null) := by decide +kernel
theorem i_55_12 : aIns 55 12 = some (.iconst 1, 1, 0, 0, .int (1)) := by decide +kernel
theorem i_55_13 : aIns 55 13 = some (.goto 4, 3, 0, 0, .null) := by decide +kernel
theorem i_55_16 : aIns 55 16 = some (.iconst 0, 1, 0, 0, .int (0)) := by decide +kernel
theorem i_55_17 : aIns 55 17 = some (.ireturn, 1, 1, 0, .null) := by decide +kernel
theorem i_56_0 : aIns 56 0 = some (.iload_n 1, 1, 0, 0, .null) := by decide +kernel
theorem i_56_1 : aIns 56 1 = some (.ifCond .lt 15, 3, 0, 0, .null) := by decide +kernel
theorem i_56_4 : aIns 56 4 = some (.iload_n 1, 1, 0, 0, .null) := by decide +kernel
theorem i_56_5 : aIns 56 5 = some (.aload_n 0, 1, 0, 0, .null) := by decide +kernel
theorem i_56_6 : aIns 56 6 = some (.getfield 52, 3, 5, 15, .null) := by decide +kernel
theorem i_56_9 : aIns 56 9 = some (.if_icmp .ge 7, 3, 0, 0, .null) := by decide +kernel
theorem i_56_12 : aIns 56 12 = some (.iconst 1, 1, 0, 0, .int (1)) := by decide +kernel
theorem i_56_13 : aIns 56 13 = some (.goto 4, 3, 0, 0, .null) := by decide +kernel
theorem i_56_16 : aIns 56 16 = some (.iconst 0, 1, 0, 0, .int (0)) := by decide +kernel
theorem i_56_17 : aIns 56 17 = some (.ireturn, 1, 1, 0, .null) := by decide +kernel
theorem i_59_0 : aIns 59 0 = some (.aload_n 0, 1, 0, 0, .null) := by decide +kernel
theorem i_59_1 : aIns 59 1 = some (.invokespecial 3, 3, 1000, 0, .null) := by decide +kernel
theorem i_59_4 : aIns 59 4 = some (.aload_n 0, 1, 0, 0, .null) := by decide +kernel
theorem i_59_5 : aIns 59 5 = some (.aload_n 1, 1, 0, 0, .null) := by decide +kernel
theorem i_59_6 : aIns 59 6 = some (.putfield 9, 3, 6, 0, .null) := by decide +kernel
theorem i_59_9 : aIns 59 9 = some (.return_, 1, 0, 0, .null) := by decide +kernel
theorem i_62_0 : aIns 62 0 = some (.aload_n 0, 1, 0, 0, .null) := by decide +kernel
theorem i_62_1 : aIns 62 1 = some (.getfield 19, 3, 6, 2, .null) := by decide +kernel
theorem i_62_4 : aIns 62 4 = some (.bipush 40, 2, 0, 0, .int (40)) := by decide +kernel
theorem i_62_6 : aIns 62 6 = some (.if_icmp .ge 29, 3, 0, 0, .null) := by decide +kernel
theorem i_62_9 : aIns 62 9 = some (.iload_n 1, 1, 0, 0, .null) := by decide +kernel
theorem i_62_10 : aIns 62 10 = some (.bipush 8, 2, 0, 0, .int (8)) := by decide +kernel
theorem i_62_12 : aIns 62 12 = some (.if_icmp .ne 7, 3, 0, 0, .null) := by decide +kernel
theorem i_62_15 : aIns 62 15 = some (.iconst 1, 1, 0, 0, .int (1)) := by decide +kernel
theorem i_62_16 : aIns 62 16 = some (.goto 4, 3, 0, 0, .null) := by decide +kernel
theorem i_62_19 : aIns 62 19 = some (.iconst 0, 1, 0, 0, .int (0)) := by decide +kernel
theorem i_62_20 : aIns 62 20 = some (.aload_n 0, 1, 0, 0, .null) := by decide +kernel
theorem i_62_21 : aIns 62 21 = some (.getfield 19, 3, 6, 2, .null) := by decide +kernel
theorem i_62_24 : aIns 62 24 = some (.ifCond .ne 7, 3, 0, 0, .null) := by decide +kernel
theorem i_62_27 : aIns 62 27 = some (.iconst 1, 1, 0, 0, .int (1)) := by decide +kernel
theorem i_62_28 : aIns 62 28 = some (.goto 4, 3, 0, 0, .null) := by decide +kernel
theorem i_62_31 : aIns 62 31 = some (.iconst 0, 1, 0, 0, .int (0)) := by decide +kernel
theorem i_62_32 : aIns 62 32 = some (.if_icmp .eq 5, 3, 0, 0, .null) := by decide +kernel
theorem i_62_35 : aIns 62 35 = some (.iconst 1, 1, 0, 0, .int (1)) := by decide +kernel
theorem i_62_36 : aIns 62 36 = some (.ireturn, 1, 1, 0, .null) := by decide +kernel
theorem i_62_37 : aIns 62 37 = some (.iload_n 1, 1, 0, 0, .null) := by decide +kernel
theorem i_62_38 : aIns 62 38 = some (.tableswitch 186 0 14 #[74, 186, 110, 186, 186, 186, 186, 186, 186, 92, 127, 144, 161, 186, 178], 74, 0, 0, .null) := by decide +kernel
theorem i_62_112 : aIns 62 112 = some (.aload_n 0, 1, 0, 0, .null) := by decide +kernel
theorem i_62_113 : aIns 62 113 = some (.getfield 15, 3, 6, 1, .null) := by decide +kernel
theorem i_62_116 : aIns 62 116 = some (.getfield 79, 3, 5, 4, .null) := by decide +kernel
theorem i_62_119 : aIns 62 119 = some (.bipush 8, 2, 0, 0, .int (8)) := by decide +kernel
theorem i_62_121 : aIns 62 121 = some (.if_icmp .lt 7, 3, 0, 0, .null) := by decide +kernel
theorem i_62_124 : aIns 62 124 = some (.iconst 1, 1, 0, 0, .int (1)) := by decide +kernel
theorem i_62_125 : aIns 62 125 = some (.goto 4, 3, 0, 0, .null) := by decide +kernel
theorem i_62_128 : aIns 62 128 = some (.iconst 0, 1, 0, 0, .int (0)) := by decide +kernel
theorem i_62_129 : aIns 62 129 = some (.ireturn, 1, 1, 0, .null) := by decide +kernel
theorem i_62_130 : aIns 62 130 = some (.aload_n 0, 1, 0, 0, .null) := by decide +kernel
theorem i_62_131 : aIns 62 131 = some (.getfield 15, 3, 6, 1, .null) := by decide +kernel
theorem i_62_134 : aIns 62 134 = some (.getfield 82, 3, 5, 8, .null) := by decide +kernel
theorem i_62_137 : aIns 62 137 = some (.bipush 6, 2, 0, 0, .int (6)) := by decide +kernel
theorem i_62_139 : aIns 62 139 = some (.if_icmp .lt 7, 3, 0, 0, .null) := by decide +kernel
theorem i_62_142 : aIns 62 142 = some (.iconst 1, 1, 0, 0, .int (1)) := by decide +kernel
theorem i_62_143 : aIns 62 143 = some (.goto 4, 3, 0, 0, .null) := by decide +kernel
theorem i_62_146 : aIns 62 146 = some (.iconst 0, 1, 0, 0, .int (0)) := by decide +kernel
theorem i_62_147 : aIns 62 147 = some (.ireturn, 1, 1, 0, .null) := by decide +kernel
theorem i_62_148 : aIns 62 148 = some (.aload_n 0, 1, 0, 0, .null) := by decide +kernel
theorem i_62_149 : aIns 62 149 = some (.getfield 15, 3, 6, 1, .null) := by decide +kernel
theorem i_62_152 : aIns 62 152 = some (.getfield 85, 3, 5, 11, .null) := by decide +kernel
theorem i_62_155 : aIns 62 155 = some (.iconst 4, 1, 0, 0, .int (4)) := by decide +kernel
theorem i_62_156 : aIns 62 156 = some (.if_icmp .lt 7, 3, 0, 0, .null) := by decide +kernel
theorem i_62_159 : aIns 62 159 = some (.iconst 1, 1, 0, 0, .int (1)) := by decide +kernel
theorem i_62_160 : aIns 62 160 = some (.goto 4, 3, 0, 0, .null) := by decide +kernel
theorem i_62_163 : aIns 62 163 = some (.iconst 0, 1, 0, 0, .int (0)) := by decide +kernel
theorem i_62_164 : aIns 62 164 = some (.ireturn, 1, 1, 0, .null) := by decide +kernel
theorem i_62_165 : aIns 62 165 = some (.aload_n 0, 1, 0, 0, .null) := by decide +kernel
theorem i_62_166 : aIns 62 166 = some (.getfield 15, 3, 6, 1, .null) := by decide +kernel
theorem i_62_169 : aIns 62 169 = some (.getfield 88, 3, 5, 15, .null) := by decide +kernel
theorem i_62_172 : aIns 62 172 = some (.iconst 5, 1, 0, 0, .int (5)) := by decide +kernel
theorem i_62_173 : aIns 62 173 = some (.if_icmp .lt 7, 3, 0, 0, .null) := by decide +kernel
theorem i_62_176 : aIns 62 176 = some (.iconst 1, 1, 0, 0, .int (1)) := by decide +kernel
theorem i_62_177 : aIns 62 177 = some (.goto 4, 3, 0, 0, .null) := by decide +kernel
theorem i_62_180 : aIns 62 180 = some (.iconst 0, 1, 0, 0, .int (0)) := by decide +kernel
theorem i_62_181 : aIns 62 181 = some (.ireturn, 1, 1, 0, .null) := by decide +kernel
theorem i_62_182 : aIns 62 182 = some (.aload_n 0, 1, 0, 0, .null) := by decide +kernel
theorem i_62_183 : aIns 62 183 = some (.getfield 15, 3, 6, 1, .null) := by decide +kernel
theorem i_62_186 : aIns 62 186 = some (.getfield 88, 3, 5, 15, .null) := by decide +kernel
theorem i_62_189 : aIns 62 189 = some (.iconst 5, 1, 0, 0, .int (5)) := by decide +kernel
theorem i_62_190 : aIns 62 190 = some (.if_icmp .lt 7, 3, 0, 0, .null) := by decide +kernel
theorem i_62_193 : aIns 62 193 = some (.iconst 1, 1, 0, 0, .int (1)) := by decide +kernel
theorem i_62_194 : aIns 62 194 = some (.goto 4, 3, 0, 0, .null) := by decide +kernel
theorem i_62_197 : aIns 62 197 = some (.iconst 0, 1, 0, 0, .int (0)) := by decide +kernel
theorem i_62_198 : aIns 62 198 = some (.ireturn, 1, 1, 0, .null) := by decide +kernel
theorem i_62_199 : aIns 62 199 = some (.aload_n 0, 1, 0, 0, .null) := by decide +kernel
theorem i_62_200 : aIns 62 200 = some (.getfield 15, 3, 6, 1, .null) := by decide +kernel
theorem i_62_203 : aIns 62 203 = some (.getfield 88, 3, 5, 15, .null) := by decide +kernel
theorem i_62_206 : aIns 62 206 = some (.iconst 5, 1, 0, 0, .int (5)) := by decide +kernel
theorem i_62_207 : aIns 62 207 = some (.if_icmp .lt 7, 3, 0, 0, .null) := by decide +kernel
theorem i_62_210 : aIns 62 210 = some (.iconst 1, 1, 0, 0, .int (1)) := by decide +kernel
theorem i_62_211 : aIns 62 211 = some (.goto 4, 3, 0, 0, .null) := by decide +kernel
theorem i_62_214 : aIns 62 214 = some (.iconst 0, 1, 0, 0, .int (0)) := by decide +kernel
theorem i_62_215 : aIns 62 215 = some (.ireturn, 1, 1, 0, .null) := by decide +kernel
theorem i_62_216 : aIns 62 216 = some (.aload_n 0, 1, 0, 0, .null) := by decide +kernel
theorem i_62_217 : aIns 62 217 = some (.getfield 15, 3, 6, 1, .null) := by decide +kernel
theorem i_62_220 : aIns 62 220 = some (.getfield 73, 3, 5, 3, .null) := by decide +kernel
theorem i_62_223 : aIns 62 223 = some (.ireturn, 1, 1, 0, .null) := by decide +kernel
theorem i_62_224 : aIns 62 224 = some (.iconst 0, 1, 0, 0, .int (0)) := by decide +kernel
theorem i_62_225 : aIns 62 225 = some (.ireturn, 1, 1, 0, .null) := by decide +kernel
theorem i_63_0 : aIns 63 0 = some (.aload_n 0, 1, 0, 0, .null) := by decide +kernel
theorem i_63_1 : aIns 63 1 = some (.getfield 15, 3, 6, 1, .null) := by decide +kernel
theorem i_63_4 : aIns 63 4 = some (.aload_n 0, 1, 0, 0, .null) := by decide +kernel
theorem i_63_5 : aIns 63 5 = some (.iconst 0, 1, 0, 0, .int (0)) := by decide +kernel
theorem i_63_6 : aIns 63 6 = some (.sipush 999, 3, 0, 0, .int (999)) := by decide +kernel
theorem i_63_9 : aIns 63 9 = some (.invokevirtual 91, 3, 69, 2, .int 6) := by decide +kernel
theorem i_63_12 : aIns 63 12 = some (.putfield 95, 3, 5, 1, .null) := by decide +kernel
theorem i_63_15 : aIns 63 15 = some (.aload_n 0, 1, 0, 0, .null) := by decide +kernel
theorem i_63_16 : aIns 63 16 = some (.getfield 15, 3, 6, 1, .null) := by decide +kernel
theorem i_63_19 : aIns 63 19 = some (.aload_n 0, 1, 0, 0, .null) := by decide +kernel
theorem i_63_20 : aIns 63 20 = some (.iconst 0, 1, 0, 0, .int (0)) := by decide +kernel
theorem i_63_21 : aIns 63 21 = some (.sipush 9999, 3, 0, 0, .int (9999)) := by decide +kernel
theorem i_63_24 : aIns 63 24 = some (.invokevirtual 91, 3, 69, 2, .int 6) := by decide +kernel
theorem i_63_27 : aIns 63 27 = some (.putfield 98, 3, 5, 2, .null) := by decide +kernel
theorem i_63_30 : aIns 63 30 = some (.return_, 1, 0, 0, .null) := by decide +kernel
theorem i_64_0 : aIns 64 0 = some (.aload_n 0, 1, 0, 0, .null) := by decide +kernel
theorem i_64_1 : aIns 64 1 = some (.getfield 15, 3, 6, 1, .null) := by decide +kernel
theorem i_64_4 : aIns 64 4 = some (.getfield 79, 3, 5, 4, .null) := by decide +kernel
theorem i_64_7 : aIns 64 7 = some (.istore_n 1, 1, 0, 0, .null) := by decide +kernel
theorem i_64_8 : aIns 64 8 = some (.aload_n 0, 1, 0, 0, .null) := by decide +kernel
theorem i_64_9 : aIns 64 9 = some (.getfield 15, 3, 6, 1, .null) := by decide +kernel
theorem i_64_12 : aIns 64 12 = some (.getfield 101, 3, 5, 5, .null) := by decide +kernel
theorem i_64_15 : aIns 64 15 = some (.iload_n 1, 1, 0, 0, .null) := by decide +kernel
theorem i_64_16 : aIns 64 16 = some (.aload_n 0, 1, 0, 0, .null) := by decide +kernel
theorem i_64_17 : aIns 64 17 = some (.iconst 1, 1, 0, 0, .int (1)) := by decide +kernel
theorem i_64_18 : aIns 64 18 = some (.sipush 5000, 3, 0, 0, .int (5000)) := by decide +kernel
theorem i_64_21 : aIns 64 21 = some (.invokevirtual 91, 3, 69, 2, .int 6) := by decide +kernel
theorem i_64_24 : aIns 64 24 = some (.iastore, 1, 0, 0, .null) := by decide +kernel
theorem i_64_25 : aIns 64 25 = some (.aload_n 0, 1, 0, 0, .null) := by decide +kernel
theorem i_64_26 : aIns 64 26 = some (.getfield 15, 3, 6, 1, .null) := by decide +kernel
theorem i_64_29 : aIns 64 29 = some (.getfield 105, 3, 5, 6, .null) := by decide +kernel
theorem i_64_32 : aIns 64 32 = some (.iload_n 1, 1, 0, 0, .null) := by decide +kernel
theorem i_64_33 : aIns 64 33 = some (.aload_n 0, 1, 0, 0, .null) := by decide +kernel
theorem i_64_34 : aIns 64 34 = some (.iconst 0, 1, 0, 0, .int (0)) := by decide +kernel
theorem i_64_35 : aIns 64 35 = some (.sipush 5000, 3, 0, 0, .int (5000)) := by decide +kernel
theorem i_64_38 : aIns 64 38 = some (.invokevirtual 91, 3, 69, 2, .int 6) := by decide +kernel
theorem i_64_41 : aIns 64 41 = some (.iastore, 1, 0, 0, .null) := by decide +kernel
theorem i_64_42 : aIns 64 42 = some (.aload_n 0, 1, 0, 0, .null) := by decide +kernel
theorem i_64_43 : aIns 64 43 = some (.getfield 15, 3, 6, 1, .null) := by decide +kernel
theorem i_64_46 : aIns 64 46 = some (.getfield 108, 3, 5, 7, .null) := by decide +kernel
theorem i_64_49 : aIns 64 49 = some (.iload_n 1, 1, 0, 0, .null) := by decide +kernel
theorem i_64_50 : aIns 64 50 = some (.aload_n 0, 1, 0, 0, .null) := by decide +kernel
theorem i_64_51 : aIns 64 51 = some (.iconst 0, 1, 0, 0, .int (0)) := by decide +kernel
theorem i_64_52 : aIns 64 52 = some (.bipush 9, 2, 0, 0, .int (9)) := by decide +kernel
theorem i_64_54 : aIns 64 54 = some (.invokevirtual 91, 3, 69, 2, .int 6) := by decide +kernel
theorem i_64_57 : aIns 64 57 = some (.iastore, 1, 0, 0, .null) := by decide +kernel
theorem i_64_58 : aIns 64 58 = some (.aload_n 0, 1, 0, 0, .null) := by decide +kernel
theorem i_64_59 : aIns 64 59 = some (.getfield 15, 3, 6, 1, .null) := by decide +kernel
theorem i_64_62 : aIns 64 62 = some (.dup, 1, 0, 0, .null) := by decide +kernel
theorem i_64_63 : aIns 64 63 = some (.getfield 79, 3, 5, 4, .null) := by decide +kernel
theorem i_64_66 : aIns 64 66 = some (.iconst 1, 1, 0, 0, .int (1)) := by decide +kernel
theorem i_64_67 : aIns 64 67 = some (.iadd, 1, 0, 0, .null) := by decide +kernel
theorem i_64_68 : aIns 64 68 = some (.putfield 79, 3, 5, 4, .null) := by decide +kernel
theorem i_64_71 : aIns 64 71 = some (.return_, 1, 0, 0, .null) := by decide +kernel
theorem i_65_0 : aIns 65 0 = some (.aload_n 0, 1, 0, 0, .null) := by decide +kernel
theorem i_65_1 : aIns 65 1 = some (.getfield 15, 3, 6, 1, .null) := by decide +kernel
theorem i_65_4 : aIns 65 4 = some (.getfield 82, 3, 5, 8, .null) := by decide +kernel
theorem i_65_7 : aIns 65 7 = some (.istore_n 1, 1, 0, 0, .null) := by decide +kernel
theorem i_65_8 : aIns 65 8 = some (.aload_n 0, 1, 0, 0, .null) := by decide +kernel
theorem i_65_9 : aIns 65 9 = some (.getfield 15, 3, 6, 1, .null) := by decide +kernel
theorem i_65_12 : aIns 65 12 = some (.getfield 111, 3, 5, 9, .null) := by decide +kernel
theorem i_65_15 : aIns 65 15 = some (.iload_n 1, 1, 0, 0, .null) := by decide +kernel
theorem i_65_16 : aIns 65 16 = some (.aload_n 0, 1, 0, 0, .null) := by decide +kernel
theorem i_65_17 : aIns 65 17 = some (.iconst 0, 1, 0, 0, .int (0)) := by decide +kernel
theorem i_65_18 : aIns 65 18 = some (.aload_n 0, 1, 0, 0, .null) := by decide +kernel
theorem i_65_19 : aIns 65 19 = some (.getfield 15, 3, 6, 1, .null) := by decide +kernel
theorem i_65_22 : aIns 65 22 = some (.getfield 79, 3, 5, 4, .null) := by decide +kernel
theorem i_65_25 : aIns 65 25 = some (.iconst 1, 1, 0, 0, .int (1)) := by decide +kernel
theorem i_65_26 : aIns 65 26 = some (.isub, 1, 0, 0, .null) := by decide +kernel
theorem i_65_27 : aIns 65 27 = some (.invokevirtual 91, 3, 69, 2, .int 6) := by decide +kernel
theorem i_65_30 : aIns 65 30 = some (.iastore, 1, 0, 0, .null) := by decide +kernel
theorem i_65_31 : aIns 65 31 = some (.aload_n 0, 1, 0, 0, .null) := by decide +kernel
theorem i_65_32 : aIns 65 32 = some (.getfield 15, 3, 6, 1, .null) := by decide +kernel
theorem i_65_35 : aIns 65 35 = some (.getfield 114, 3, 5, 10, .null) := by decide +kernel
theorem i_65_38 : aIns 65 38 = some (.iload_n 1, 1, 0, 0, .null) := by decide +kernel
theorem i_65_39 : aIns 65 39 = some (.aload_n 0, 1, 0, 0, .null) := by decide +kernel
theorem i_65_40 : aIns 65 40 = some (.iconst 0, 1, 0, 0, .int (0)) := by decide +kernel
theorem i_65_41 : aIns 65 41 = some (.bipush 30, 2, 0, 0, .int (30)) := by decide +kernel
theorem i_65_43 : aIns 65 43 = some (.invokevirtual 91, 3, 69, 2, .int 6) := by decide +kernel
theorem i_65_46 : aIns 65 46 = some (.iastore, 1, 0, 0, .null) := by decide +kernel
theorem i_65_47 : aIns 65 47 = some (.aload_n 0, 1, 0, 0, .null) := by decide +kernel
theorem i_65_48 : aIns 65 48 = some (.getfield 15, 3, 6, 1, .null) := by decide +kernel
theorem i_65_51 : aIns 65 51 = some (.dup, 1, 0, 0, .null) := by decide +kernel
theorem i_65_52 : aIns 65 52 = some (.getfield 82, 3, 5, 8, .null) := by decide +kernel
theorem i_65_55 : aIns 65 55 = some (.iconst 1, 1, 0, 0, .int (1)) := by decide +kernel
theorem i_65_56 : aIns 65 56 = some (.iadd, 1, 0, 0, .null) := by decide +kernel
theorem i_65_57 : aIns 65 57 = some (.putfield 82, 3, 5, 8, .null) := by decide +kernel
theorem i_65_60 : aIns 65 60 = some (.return_, 1, 0, 0, .null) := by decide +kernel
theorem i_66_0 : aIns 66 0 = some (.aload_n 0, 1, 0, 0, .null) := by decide +kernel
theorem i_66_1 : aIns 66 1 = some (.getfield 15, 3, 6, 1, .null) := by decide +kernel
theorem i_66_4 : aIns 66 4 = some (.getfield 85, 3, 5, 11, .null) := by decide +kernel
theorem i_66_7 : aIns 66 7 = some (.istore_n 1, 1, 0, 0, .null) := by decide +kernel
theorem i_66_8 : aIns 66 8 = some (.aload_n 0, 1, 0, 0, .null) := by decide +kernel
theorem i_66_9 : aIns 66 9 = some (.getfield 15, 3, 6, 1, .null) := by decide +kernel
theorem i_66_12 : aIns 66 12 = some (.getfield 117, 3, 5, 12, .null) := by decide +kernel
theorem i_66_15 : aIns 66 15 = some (.iload_n 1, 1, 0, 0, .null) := by decide +kernel
theorem i_66_16 : aIns 66 16 = some (.aload_n 0, 1, 0, 0, .null) := by decide +kernel
theorem i_66_17 : aIns 66 17 = some (.iconst 0, 1, 0, 0, .int (0)) := by decide +kernel
theorem i_66_18 : aIns 66 18 = some (.bipush 99, 2, 0, 0, .int (99)) := by decide +kernel
theorem i_66_20 : aIns 66 20 = some (.invokevirtual 91, 3, 69, 2, .int 6) := by decide +kernel
theorem i_66_23 : aIns 66 23 = some (.iastore, 1, 0, 0, .null) := by decide +kernel
theorem i_66_24 : aIns 66 24 = some (.aload_n 0, 1, 0, 0, .null) := by decide +kernel
theorem i_66_25 : aIns 66 25 = some (.getfield 15, 3, 6, 1, .null) := by decide +kernel
theorem i_66_28 : aIns 66 28 = some (.getfield 120, 3, 5, 13, .null) := by decide +kernel
theorem i_66_31 : aIns 66 31 = some (.iload_n 1, 1, 0, 0, .null) := by decide +kernel
theorem i_66_32 : aIns 66 32 = some (.aload_n 0, 1, 0, 0, .null) := by decide +kernel
theorem i_66_33 : aIns 66 33 = some (.aload_n 0, 1, 0, 0, .null) := by decide +kernel
theorem i_66_34 : aIns 66 34 = some (.getfield 15, 3, 6, 1, .null) := by decide +kernel
theorem i_66_37 : aIns 66 37 = some (.getfield 117, 3, 5, 12, .null) := by decide +kernel
theorem i_66_40 : aIns 66 40 = some (.iload_n 1, 1, 0, 0, .null) := by decide +kernel
theorem i_66_41 : aIns 66 41 = some (.iaload, 1, 0, 0, .null) := by decide +kernel
theorem i_66_42 : aIns 66 42 = some (.bipush 99, 2, 0, 0, .int (99)) := by decide +kernel
theorem i_66_44 : aIns 66 44 = some (.invokevirtual 91, 3, 69, 2, .int 6) := by decide +kernel
theorem i_66_47 : aIns 66 47 = some (.iastore, 1, 0, 0, .null) := by decide +kernel
theorem i_66_48 : aIns 66 48 = some (.aload_n 0, 1, 0, 0, .null) := by decide +kernel
theorem i_66_49 : aIns 66 49 = some (.getfield 15, 3, 6, 1, .null) := by decide +kernel
theorem i_66_52 : aIns 66 52 = some (.getfield 123, 3, 5, 14, .null) := by decide +kernel
theorem i_66_55 : aIns 66 55 = some (.iload_n 1, 1, 0, 0, .null) := by decide +kernel
theorem i_66_56 : aIns 66 56 = some (.aload_n 0, 1, 0, 0, .null) := by decide +kernel
theorem i_66_57 : aIns 66 57 = some (.iconst 1, 1, 0, 0, .int (1)) := by decide +kernel
theorem i_66_58 : aIns 66 58 = some (.bipush 90, 2, 0, 0, .int (90)) := by decide +kernel
theorem i_66_60 : aIns 66 60 = some (.invokevirtual 91, 3, 69, 2, .int 6) := by decide +kernel
theorem i_66_63 : aIns 66 63 = some (.iastore, 1, 0, 0, .null) := by decide +kernel
theorem i_66_64 : aIns 66 64 = some (.aload_n 0, 1, 0, 0, .null) := by decide +kernel
theorem i_66_65 : aIns 66 65 = some (.getfield 15, 3, 6, 1, .null) := by decide +kernel
theorem i_66_68 : aIns 66 68 = some (.dup, 1, 0, 0, .null) := by decide +kernel
theorem i_66_69 : aIns 66 69 = some (.getfield 85, 3, 5, 11, .null) := by decide +kernel
theorem i_66_72 : aIns 66 72 = some (.iconst 1, 1, 0, 0, .int (1)) := by decide +kernel
theorem i_66_73 : aIns 66 73 = some (.iadd, 1, 0, 0, .null) := by decide +kernel
theorem i_66_74 : aIns 66 74 = some (.putfield 85, 3, 5, 11, .null) := by decide +kernel
theorem i_66_77 : aIns 66 77 = some (.return_, 1, 0, 0, .null) := by decide +kernel
theorem i_67_0 : aIns 67 0 = some (.aload_n 0, 1, 0, 0, .null) := by decide +kernel
theorem i_67_1 : aIns 67 1 = some (.getfield 15, 3, 6, 1, .null) := by decide +kernel
theorem i_67_4 : aIns 67 4 = some (.getfield 88, 3, 5, 15, .null) := by decide +kernel
theorem i_67_7 : aIns 67 7 = some (.istore_n 2, 1, 0, 0, .null) := by decide +kernel
theorem i_67_8 : aIns 67 8 = some (.aload_n 0, 1, 0, 0, .null) := by decide +kernel
theorem i_67_9 : aIns 67 9 = some (.getfield 15, 3, 6, 1, .null) := by decide +kernel
theorem i_67_12 : aIns 67 12 = some (.getfield 126, 3, 5, 16, .null) := by decide +kernel
theorem i_67_15 : aIns 67 15 = some (.iload_n 2, 1, 0, 0, .null) := by decide +kernel
theorem i_67_16 : aIns 67 16 = some (.iload_n 1, 1, 0, 0, .null) := by decide +kernel
theorem i_67_17 : aIns 67 17 = some (.iastore, 1, 0, 0, .null) := by decide +kernel
theorem i_67_18 : aIns 67 18 = some (.iload_n 1, 1, 0, 0, .null) := by decide +kernel
theorem i_67_19 : aIns 67 19 = some (.bipush 10, 2, 0, 0, .int (10)) := by decide +kernel
theorem i_67_21 : aIns 67 21 = some (.if_icmp .ne 22, 3, 0, 0, .null) := by decide +kernel
theorem i_67_24 : aIns 67 24 = some (.aload_n 0, 1, 0, 0, .null) := by decide +kernel
theorem i_67_25 : aIns 67 25 = some (.getfield 15, 3, 6, 1, .null) := by decide +kernel
theorem i_67_28 : aIns 67 28 = some (.getfield 129, 3, 5, 17, .null) := by decide +kernel
theorem i_67_31 : aIns 67 31 = some (.iload_n 2, 1, 0, 0, .null) := by decide +kernel
theorem i_67_32 : aIns 67 32 = some (.aload_n 0, 1, 0, 0, .null) := by decide +kernel
theorem i_67_33 : aIns 67 33 = some (.iconst 1, 1, 0, 0, .int (1)) := by decide +kernel
theorem i_67_34 : aIns 67 34 = some (.bipush 90, 2, 0, 0, .int (90)) := by decide +kernel
theorem i_67_36 : aIns 67 36 = some (.invokevirtual 91, 3, 69, 2, .int 6) := by decide +kernel
theorem i_67_39 : aIns 67 39 = some (.iastore, 1, 0, 0, .null) := by decide +kernel
theorem i_67_40 : aIns 67 40 = some (.goto 26, 3, 0, 0, .null) := by decide +kernel
theorem i_67_43 : aIns 67 43 = some (.iload_n 1, 1, 0, 0, .null) := by decide +kernel
theorem i_67_44 : aIns 67 44 = some (.bipush 11, 2, 0, 0, .int (11)) := by decide +kernel
theorem i_67_46 : aIns 67 46 = some (.if_icmp .ne 20, 3, 0, 0, .null) := by decide +kernel
theorem i_67_49 : aIns 67 49 = some (.aload_n 0, 1, 0, 0, .null) := by decide +kernel
theorem i_67_50 : aIns 67 50 = some (.getfield 15, 3, 6, 1, .null) := by decide +kernel
theorem i_67_53 : aIns 67 53 = some (.getfield 129, 3, 5, 17, .null) := by decide +kernel
theorem i_67_56 : aIns 67 56 = some (.iload_n 2, 1, 0, 0, .null) := by decide +kernel
theorem i_67_57 : aIns 67 57 = some (.aload_n 0, 1, 0, 0, .null) := by decide +kernel
theorem i_67_58 : aIns 67 58 = some (.iconst 1, 1, 0, 0, .int (1)) := by decide +kernel
theorem i_67_59 : aIns 67 59 = some (.sipush 2000, 3, 0, 0, .int (2000)) := by decide +kernel
theorem i_67_62 : aIns 67 62 = some (.invokevirtual 91, 3, 69, 2, .int 6) := by decide +kernel
theorem i_67_65 : aIns 67 65 = some (.iastore, 1, 0, 0, .null) := by decide +kernel
theorem i_67_66 : aIns 67 66 = some (.aload_n 0, 1, 0, 0, .null) := by decide +kernel
theorem i_67_67 : aIns 67 67 = some (.getfield 15, 3, 6, 1, .null) := by decide +kernel
theorem i_67_70 : aIns 67 70 = some (.getfield 132, 3, 5, 18, .null) := by decide +kernel
theorem i_67_73 : aIns 67 73 = some (.iload_n 2, 1, 0, 0, .null) := by decide +kernel
theorem i_67_74 : aIns 67 74 = some (.aload_n 0, 1, 0, 0, .null) := by decide +kernel
theorem i_67_75 : aIns 67 75 = some (.iconst 0, 1, 0, 0, .int (0)) := by decide +kernel
theorem i_67_76 : aIns 67 76 = some (.sipush 9999, 3, 0, 0, .int (9999)) := by decide +kernel
theorem i_67_79 : aIns 67 79 = some (.invokevirtual 91, 3, 69, 2, .int 6) := by decide +kernel
theorem i_67_82 : aIns 67 82 = some (.iastore, 1, 0, 0, .null) := by decide +kernel
theorem i_67_83 : aIns 67 83 = some (.aload_n 0, 1, 0, 0, .null) := by decide +kernel
theorem i_67_84 : aIns 67 84 = some (.getfield 15, 3, 6, 1, .null) := by decide +kernel
theorem i_67_87 : aIns 67 87 = some (.dup, 1, 0, 0, .null) := by decide +kernel
theorem i_67_88 : aIns 67 88 = some (.getfield 88, 3, 5, 15, .null) := by decide +kernel
theorem i_67_91 : aIns 67 91 = some (.iconst 1, 1, 0, 0, .int (1)) := by decide +kernel
theorem i_67_92 : aIns 67 92 = some (.iadd, 1, 0, 0, .null) := by decide +kernel
theorem i_67_93 : aIns 67 93 = some (.putfield 88, 3, 5, 15, .null) := by decide +kernel
theorem i_67_96 : aIns 67 96 = some (.return_, 1, 0, 0, .null) := by decide +kernel
theorem i_68_0 : aIns 68 0 = some (.aload_n 0, 1, 0, 0, .null) := by decide +kernel
theorem i_68_1 : aIns 68 1 = some (.iconst 0, 1, 0, 0, .int (0)) := by decide +kernel
theorem i_68_2 : aIns 68 2 = some (.aload_n 0, 1, 0, 0, .null) := by decide +kernel
theorem i_68_3 : aIns 68 3 = some (.getfield 15, 3, 6, 1, .null) := by decide +kernel
theorem i_68_6 : aIns 68 6 = some (.getfield 88, 3, 5, 15, .null) := by decide +kernel
theorem i_68_9 : aIns 68 9 = some (.iconst 1, 1, 0, 0, .int (1)) := by decide +kernel
theorem i_68_10 : aIns 68 10 = some (.isub, 1, 0, 0, .null) := by decide +kernel
theorem i_68_11 : aIns 68 11 = some (.invokevirtual 91, 3, 69, 2, .int 6) := by decide +kernel
theorem i_68_14 : aIns 68 14 = some (.istore_n 1, 1, 0, 0, .null) := by decide +kernel
theorem i_68_15 : aIns 68 15 = some (.aload_n 0, 1, 0, 0, .null) := by decide +kernel
theorem i_68_16 : aIns 68 16 = some (.getfield 9, 3, 6, 0, .null) := by decide +kernel
theorem i_68_19 : aIns 68 19 = some (.getfield 31, 3, 8, 3, .null) := by decide +kernel
theorem i_68_22 : aIns 68 22 = some (.bipush 20, 2, 0, 0, .int (20)) := by decide +kernel
theorem i_68_24 : aIns 68 24 = some (.if_icmp .ne 22, 3, 0, 0, .null) := by decide +kernel
theorem i_68_27 : aIns 68 27 = some (.aload_n 0, 1, 0, 0, .null) := by decide +kernel
theorem i_68_28 : aIns 68 28 = some (.getfield 9, 3, 6, 0, .null) := by decide +kernel
theorem i_68_31 : aIns 68 31 = some (.getfield 135, 3, 8, 5, .null) := by decide +kernel
theorem i_68_34 : aIns 68 34 = some (.iload_n 1, 1, 0, 0, .null) := by decide +kernel
theorem i_68_35 : aIns 68 35 = some (.if_icmp .ne 11, 3, 0, 0, .null) := by decide +kernel
theorem i_68_38 : aIns 68 38 = some (.aload_n 0, 1, 0, 0, .null) := by decide +kernel
theorem i_68_39 : aIns 68 39 = some (.getfield 9, 3, 6, 0, .null) := by decide +kernel
theorem i_68_42 : aIns 68 42 = some (.iconst 1, 1, 0, 0, .int (1)) := by decide +kernel
theorem i_68_43 : aIns 68 43 = some (.invokevirtual 37, 3, 83, 1, .int 8) := by decide +kernel
theorem i_68_46 : aIns 68 46 = some (.aload_n 0, 1, 0, 0, .null) := by decide +kernel
theorem i_68_47 : aIns 68 47 = some (.iconst 0, 1, 0, 0, .int (0)) := by decide +kernel
theorem i_68_48 : aIns 68 48 = some (.aload_n 0, 1, 0, 0, .null) := by decide +kernel
theorem i_68_49 : aIns 68 49 = some (.getfield 15, 3, 6, 1, .null) := by decide +kernel
theorem i_68_52 : aIns 68 52 = some (.getfield 88, 3, 5, 15, .null) := by decide +kernel
theorem i_68_55 : aIns 68 55 = some (.iconst 1, 1, 0, 0, .int (1)) := by decide +kernel
theorem i_68_56 : aIns 68 56 = some (.isub, 1, 0, 0, .null) := by decide +kernel
theorem i_68_57 : aIns 68 57 = some (.invokevirtual 91, 3, 69, 2, .int 6) := by decide +kernel
theorem i_68_60 : aIns 68 60 = some (.istore_n 2, 1, 0, 0, .null) := by decide +kernel
theorem i_68_61 : aIns 68 61 = some (.aload_n 0, 1, 0, 0, .null) := by decide +kernel
theorem i_68_62 : aIns 68 62 = some (.getfield 9, 3, 6, 0, .null) := by decide +kernel
theorem i_68_65 : aIns 68 65 = some (.getfield 47, 3, 8, 6, .null) := by decide +kernel
theorem i_68_68 : aIns 68 68 = some (.ifCond .ne 33, 3, 0, 0, .null) := by decide +kernel
theorem i_68_71 : aIns 68 71 = some (.aload_n 0, 1, 0, 0, .null) := by decide +kernel
theorem i_68_72 : aIns 68 72 = some (.getfield 15, 3, 6, 1, .null) := by decide +kernel
theorem i_68_75 : aIns 68 75 = some (.getfield 137, 3, 5, 19, .null) := by decide +kernel
theorem i_68_78 : aIns 68 78 = some (.iload_n 1, 1, 0, 0, .null) := by decide +kernel
theorem i_68_79 : aIns 68 79 = some (.dup2, 1, 0, 0, .null) := by decide +kernel
theorem i_68_80 : aIns 68 80 = some (.iaload, 1, 0, 0, .null) := by decide +kernel
theorem i_68_81 : aIns 68 81 = some (.iconst 1, 1, 0, 0, .int (1)) := by decide +kernel
theorem i_68_82 : aIns 68 82 = some (.iload_n 2, 1, 0, 0, .null) := by decide +kernel
theorem i_68_83 : aIns 68 83 = some (.ishl, 1, 0, 0, .null) := by decide +kernel
theorem i_68_84 : aIns 68 84 = some (.ior, 1, 0, 0, .null) := by decide +kernel
theorem i_68_85 : aIns 68 85 = some (.iastore, 1, 0, 0, .null) := by decide +kernel
theorem i_68_86 : aIns 68 86 = some (.aload_n 0, 1, 0, 0, .null) := by decide +kernel
theorem i_68_87 : aIns 68 87 = some (.getfield 15, 3, 6, 1, .null) := by decide +kernel
theorem i_68_90 : aIns 68 90 = some (.getfield 137, 3, 5, 19, .null) := by decide +kernel
theorem i_68_93 : aIns 68 93 = some (.iload_n 2, 1, 0, 0, .null) := by decide +kernel
theorem i_68_94 : aIns 68 94 = some (.dup2, 1, 0, 0, .null) := by decide +kernel
theorem i_68_95 : aIns 68 95 = some (.iaload, 1, 0, 0, .null) := by decide +kernel
theorem i_68_96 : aIns 68 96 = some (.iconst 1, 1, 0, 0, .int (1)) := by decide +kernel
theorem i_68_97 : aIns 68 97 = some (.iload_n 1, 1, 0, 0, .null) := by decide +kernel
theorem i_68_98 : aIns 68 98 = some (.ishl, 1, 0, 0, .null) := by decide +kernel
theorem i_68_99 : aIns 68 99 = some (.ior, 1, 0, 0, .null) := by decide +kernel
theorem i_68_100 : aIns 68 100 = some (.iastore, 1, 0, 0, .null) := by decide +kernel
theorem i_68_101 : aIns 68 101 = some (.return_, 1, 0, 0, .null) := by decide +kernel
theorem i_69_0 : aIns 69 0 = some (.aload_n 0, 1, 0, 0, .null) := by decide +kernel
theorem i_69_1 : aIns 69 1 = some (.getfield 9, 3, 6, 0, .null) := by decide +kernel
theorem i_69_4 : aIns 69 4 = some (.getfield 31, 3, 8, 3, .null) := by decide +kernel
theorem i_69_7 : aIns 69 7 = some (.bipush 20, 2, 0, 0, .int (20)) := by decide +kernel
theorem i_69_9 : aIns 69 9 = some (.if_icmp .eq 13, 3, 0, 0, .null) := by decide +kernel
theorem i_69_12 : aIns 69 12 = some (.aload_n 0, 1, 0, 0, .null) := by decide +kernel
theorem i_69_13 : aIns 69 13 = some (.getfield 9, 3, 6, 0, .null) := by decide +kernel
theorem i_69_16 : aIns 69 16 = some (.iconst 0, 1, 0, 0, .int (0)) := by decide +kernel
theorem i_69_17 : aIns 69 17 = some (.invokevirtual 37, 3, 83, 1, .int 8) := by decide +kernel
theorem i_69_20 : aIns 69 20 = some (.iconst 0, 1, 0, 0, .int (0)) := by decide +kernel
theorem i_69_21 : aIns 69 21 = some (.ireturn, 1, 0, 0, .null) := by decide +kernel
theorem i_69_22 : aIns 69 22 = some (.aload_n 0, 1, 0, 0, .null) := by decide +kernel
theorem i_69_23 : aIns 69 23 = some (.getfield 9, 3, 6, 0, .null) := by decide +kernel
theorem i_69_26 : aIns 69 26 = some (.getfield 135, 3, 8, 5, .null) := by decide +kernel
theorem i_69_29 : aIns 69 29 = some (.istore_n 3, 1, 0, 0, .null) := by decide +kernel
theorem i_69_30 : aIns 69 30 = some (.iload_n 3, 1, 0, 0, .null) := by decide +kernel
theorem i_69_31 : aIns 69 31 = some (.iload_n 1, 1, 0, 0, .null) := by decide +kernel
theorem i_69_32 : aIns 69 32 = some (.iload_n 2, 1, 0, 0, .null) := by decide +kernel
theorem i_69_33 : aIns 69 33 = some (.invokestatic 50, 3, 138, 3, .null) := by decide +kernel
theorem i_69_36 : aIns 69 36 = some (.ifCond .ne 13, 3, 0, 0, .null) := by decide +kernel
theorem i_69_39 : aIns 69 39 = some (.aload_n 0, 1, 0, 0, .null) := by decide +kernel
theorem i_69_40 : aIns 69 40 = some (.getfield 9, 3, 6, 0, .null) := by decide +kernel
theorem i_69_43 : aIns 69 43 = some (.iconst 1, 1, 0, 0, .int (1)) := by decide +kernel
theorem i_69_44 : aIns 69 44 = some (.invokevirtual 37, 3, 83, 1, .int 8) := by decide +kernel
theorem i_69_47 : aIns 69 47 = some (.iconst 0, 1, 0, 0, .int (0)) := by decide +kernel
theorem i_69_48 : aIns 69 48 = some (.ireturn, 1, 0, 0, .null) := by decide +kernel
theorem i_69_49 : aIns 69 49 = some (.aload_n 0, 1, 0, 0, .null) := by decide +kernel
theorem i_69_50 : aIns 69 50 = some (.getfield 9, 3, 6, 0, .null) := by decide +kernel
theorem i_69_53 : aIns 69 53 = some (.invokevirtual 34, 3, 84, 0, .int 8) := by decide +kernel
theorem i_69_56 : aIns 69 56 = some (.iload_n 3, 1, 0, 0, .null) := by decide +kernel
theorem i_69_57 : aIns 69 57 = some (.ireturn, 1, 0, 0, .null) := by decide +kernel
theorem i_82_0 : aIns 82 0 = some (.aload_n 0, 1, 0, 0, .null) := by decide +kernel
theorem i_82_1 : aIns 82 1 = some (.iconst 0, 1, 0, 0, .int (0)) := by decide +kernel
theorem i_82_2 : aIns 82 2 = some (.putfield 19, 3, 8, 2, .null) := by decide +kernel
theorem i_82_5 : aIns 82 5 = some (.aload_n 0, 1, 0, 0, .null) := by decide +kernel
theorem i_82_6 : aIns 82 6 = some (.iconst 0, 1, 0, 0, .int (0)) := by decide +kernel
theorem i_82_7 : aIns 82 7 = some (.putfield 22, 3, 8, 6, .null) := by decide +kernel
theorem i_82_10 : aIns 82 10 = some (.aload_n 0, 1, 0, 0, .null) := by decide +kernel
theorem i_82_11 : aIns 82 11 = some (.invokevirtual 25, 3, 84, 0, .int 8) := by decide +kernel
theorem i_82_14 : aIns 82 14 = some (.return_, 1, 0, 0, .null) := by decide +kernel
def l_47 (sf47 : Nat → Int32 → Int32 → aH → Option aH) (sf48 : Nat → Int32 → aH → Option aH) (sf49 : Nat → Int32 → aH → Option aH) (g n tag : Nat) (a0 : Nat) (x1 : Int32) (x2 : Int32) (s0 : Int32) (x3 : Int32) (x4 : Int32) (h0 : aH) : Option (aH) := match n with
  | 0 => none
  | n + 1 => if tag = 0 then (if isO h0 a0 4 = true then ((sf47 a0 (x1 + (1 : Int32)) x2 h0).bind (fun z_4 => (l_47 sf47 sf48 sf49 g n 1 a0 x1 x2 0 s0 (0 : Int32) z_4))) else none) else if tag = 1 then (if (400 : Int32) ≤ x4 then some h0 else ((gR h0 a0 4 0).bind (fun f_9 => ((gI h0 f_9 8 3).bind (fun f_11 => (if ¬ f_11 = x3 then some h0 else ((gR h0 a0 4 0).bind (fun f_14 => (if isO h0 f_14 8 = true then ((d_84 g f_14 h0).bind (fun z_19 => (if isO z_19 a0 4 = true then ((sf47 a0 (x1 + (1 : Int32)) x2 z_19).bind (fun z_26 => (if isO z_26 a0 4 = true then ((d_53 g a0 ((-1 : Int32) - x3) z_26).bind (fun z_33 => (l_47 sf47 sf48 sf49 g n 1 a0 x1 x2 0 x3 (x4 + (1 : Int32)) z_33))) else none))) else none))) else none))))))))) else none
set_option maxHeartbeats 4000000 in
set_option maxRecDepth 100000 in
theorem l_47_ok {X : aX} {g : Nat} {sf47 : Nat → Int32 → Int32 → aH → Option aH} {sf48 : Nat → Int32 → aH → Option aH} {sf49 : Nat → Int32 → aH → Option aH} {e : Nat} (hdp : 7 ≤ e) (hs47 : ∀ (a0 : Nat) (x1 : Int32) (x2 : Int32) (h0 zz : aH), sf47 a0 x1 x2 h0 = some zz → aWp X e 47 0 (aEntL [.ref a0, .int x1, .int x2] 5) [] h0 (fun w h' => w = none ∧ h' = zz)) (hs48 : ∀ (a0 : Nat) (x1 : Int32) (h0 zz : aH), sf48 a0 x1 h0 = some zz → aWp X e 48 0 (aEntL [.ref a0, .int x1] 3) [] h0 (fun w h' => w = none ∧ h' = zz)) (hs49 : ∀ (a0 : Nat) (x1 : Int32) (h0 zz : aH), sf49 a0 x1 h0 = some zz → aWp X e 49 0 (aEntL [.ref a0, .int x1] 2) [] h0 (fun w h' => w = none ∧ h' = zz)) : ∀ n, (∀ (a0 : Nat) (x1 : Int32) (x2 : Int32) (s0 : Int32) (x3 : Int32) (x4 : Int32) (h0 : aH) (zz : aH), l_47 sf47 sf48 sf49 g n 0 a0 x1 x2 s0 x3 x4 h0 = some zz → aWp X (e + 1) 47 22 [some (.ref a0), some (.int x1), some (.int x2), none, none] [.int s0] h0 (fun w h' => w = none ∧ h' = zz)) ∧ (∀ (a0 : Nat) (x1 : Int32) (x2 : Int32) (s0 : Int32) (x3 : Int32) (x4 : Int32) (h0 : aH) (zz : aH), l_47 sf47 sf48 sf49 g n 1 a0 x1 x2 s0 x3 x4 h0 = some zz → aWp X (e + 1) 47 34 [some (.ref a0), some (.int x1), some (.int x2), some (.int x3), some (.int x4)] [] h0 (fun w h' => w = none ∧ h' = zz)) := by
  intro n
  induction n with
  | zero => exact ⟨fun _ _ _ _ _ _ _ _ hd => by simp [l_47] at hd, fun _ _ _ _ _ _ _ _ hd => by simp [l_47] at hd⟩
  | succ n ih =>
    refine ⟨?_, ?_⟩
    · intro a0 x1 x2 s0 x3 x4 h0 zz hd
      unfold l_47 at hd
      rw [if_pos rfl] at hd
      refine wp_s 23 [some (.ref a0), some (.int x1), some (.int x2), some (.int s0), none] [] h0 i_47_22 rfl ?_
      refine wp_s 24 [some (.ref a0), some (.int x1), some (.int x2), some (.int s0), none] [.ref a0] h0 i_47_23 rfl ?_
      refine wp_s 25 [some (.ref a0), some (.int x1), some (.int x2), some (.int s0), none] [.int x1, .ref a0] h0 i_47_24 rfl ?_
      refine wp_s 26 [some (.ref a0), some (.int x1), some (.int x2), some (.int s0), none] [.int (1 : Int32), .int x1, .ref a0] h0 i_47_25 rfl ?_
      refine wp_s 27 [some (.ref a0), some (.int x1), some (.int x2), some (.int s0), none] [.int (x1 + (1 : Int32)), .ref a0] h0 i_47_26 rfl ?_
      refine wp_s 28 [some (.ref a0), some (.int x1), some (.int x2), some (.int s0), none] [.int x2, .int (x1 + (1 : Int32)), .ref a0] h0 i_47_27 rfl ?_
      obtain ⟨k_1, hd⟩ := dk_if hd
      obtain ⟨fs_2, o_3⟩ := isO_of k_1
      obtain ⟨z_4, q_5, hd⟩ := dk_bind hd
      refine wp_callV 31 rfl i_47_28 (by decide) rfl (vs := [.int (x1 + (1 : Int32)), .int x2]) (rest := []) rfl rfl rfl o_3 (y := m_47) rfl (Nat.le_of_ble_eq_true rfl) (hs47 _ _ _ _ _ q_5) ?_
      rintro v_6 h_7 ⟨rfl, hz⟩
      have hz := hz.symm
      subst hz
      refine wp_s 32 [some (.ref a0), some (.int x1), some (.int x2), some (.int s0), none] [.int (0 : Int32)] z_4 i_47_31 rfl ?_
      refine wp_s 34 [some (.ref a0), some (.int x1), some (.int x2), some (.int s0), some (.int (0 : Int32))] [] z_4 i_47_32 rfl ?_
      exact aWp.forget (ih.2 _ _ _ _ _ _ _ _ hd) (lvS (lvS (lvS (lvS (lvS lvE)))))
    · intro a0 x1 x2 s0 x3 x4 h0 zz hd
      unfold l_47 at hd
      rw [if_neg (by decide), if_pos rfl] at hd
      refine wp_s 36 [some (.ref a0), some (.int x1), some (.int x2), some (.int x3), some (.int x4)] [.int x4] h0 i_47_34 rfl ?_
      refine wp_s 39 [some (.ref a0), some (.int x1), some (.int x2), some (.int x3), some (.int x4)] [.int (400 : Int32), .int x4] h0 i_47_36 rfl ?_
      refine wp_cmp_ge 81 42 rfl rfl i_47_39 (fun c_8 => ?_) (fun c_8 => ?_)
      · rw [if_pos c_8] at hd
        obtain rfl := Option.some.inj hd
        exact wp_ret i_47_81 rfl ⟨rfl, rfl⟩
      · rw [if_neg c_8] at hd
        refine wp_s 43 [some (.ref a0), some (.int x1), some (.int x2), some (.int x3), some (.int x4)] [.ref a0] h0 i_47_42 rfl ?_
        obtain ⟨f_9, q_10, hd⟩ := dk_bind hd
        refine hp_gR 46 rfl i_47_43 q_10 ?_
        obtain ⟨f_11, q_12, hd⟩ := dk_bind hd
        refine hp_gI 49 rfl i_47_46 q_12 ?_
        refine wp_s 50 [some (.ref a0), some (.int x1), some (.int x2), some (.int x3), some (.int x4)] [.int x3, .int f_11] h0 i_47_49 rfl ?_
        refine wp_cmp_ne 81 53 rfl rfl i_47_50 (fun c_13 => ?_) (fun c_13 => ?_)
        · rw [if_pos c_13] at hd
          obtain rfl := Option.some.inj hd
          exact wp_ret i_47_81 rfl ⟨rfl, rfl⟩
        · rw [if_neg c_13] at hd
          refine wp_s 54 [some (.ref a0), some (.int x1), some (.int x2), some (.int x3), some (.int x4)] [.ref a0] h0 i_47_53 rfl ?_
          obtain ⟨f_14, q_15, hd⟩ := dk_bind hd
          refine hp_gR 57 rfl i_47_54 q_15 ?_
          obtain ⟨k_16, hd⟩ := dk_if hd
          obtain ⟨fs_17, o_18⟩ := isO_of k_16
          obtain ⟨z_19, q_20, hd⟩ := dk_bind hd
          refine wp_callV 60 rfl i_47_57 (by decide) rfl (vs := []) (rest := []) rfl rfl rfl o_18 (y := m_84) rfl (Nat.le_of_ble_eq_true rfl) (d_84_ok (d := e) (by omega) q_20) ?_
          rintro v_21 h_22 ⟨rfl, hz⟩
          have hz := hz.symm
          subst hz
          refine wp_s 61 [some (.ref a0), some (.int x1), some (.int x2), some (.int x3), some (.int x4)] [.ref a0] z_19 i_47_60 rfl ?_
          refine wp_s 62 [some (.ref a0), some (.int x1), some (.int x2), some (.int x3), some (.int x4)] [.int x1, .ref a0] z_19 i_47_61 rfl ?_
          refine wp_s 63 [some (.ref a0), some (.int x1), some (.int x2), some (.int x3), some (.int x4)] [.int (1 : Int32), .int x1, .ref a0] z_19 i_47_62 rfl ?_
          refine wp_s 64 [some (.ref a0), some (.int x1), some (.int x2), some (.int x3), some (.int x4)] [.int (x1 + (1 : Int32)), .ref a0] z_19 i_47_63 rfl ?_
          refine wp_s 65 [some (.ref a0), some (.int x1), some (.int x2), some (.int x3), some (.int x4)] [.int x2, .int (x1 + (1 : Int32)), .ref a0] z_19 i_47_64 rfl ?_
          obtain ⟨k_23, hd⟩ := dk_if hd
          obtain ⟨fs_24, o_25⟩ := isO_of k_23
          obtain ⟨z_26, q_27, hd⟩ := dk_bind hd
          refine wp_callV 68 rfl i_47_65 (by decide) rfl (vs := [.int (x1 + (1 : Int32)), .int x2]) (rest := []) rfl rfl rfl o_25 (y := m_47) rfl (Nat.le_of_ble_eq_true rfl) (hs47 _ _ _ _ _ q_27) ?_
          rintro v_28 h_29 ⟨rfl, hz⟩
          have hz := hz.symm
          subst hz
          refine wp_s 69 [some (.ref a0), some (.int x1), some (.int x2), some (.int x3), some (.int x4)] [.ref a0] z_26 i_47_68 rfl ?_
          refine wp_s 70 [some (.ref a0), some (.int x1), some (.int x2), some (.int x3), some (.int x4)] [.int (-1 : Int32), .ref a0] z_26 i_47_69 rfl ?_
          refine wp_s 71 [some (.ref a0), some (.int x1), some (.int x2), some (.int x3), some (.int x4)] [.int x3, .int (-1 : Int32), .ref a0] z_26 i_47_70 rfl ?_
          refine wp_s 72 [some (.ref a0), some (.int x1), some (.int x2), some (.int x3), some (.int x4)] [.int ((-1 : Int32) - x3), .ref a0] z_26 i_47_71 rfl ?_
          obtain ⟨k_30, hd⟩ := dk_if hd
          obtain ⟨fs_31, o_32⟩ := isO_of k_30
          obtain ⟨z_33, q_34, hd⟩ := dk_bind hd
          refine wp_callV 75 rfl i_47_72 (by decide) rfl (vs := [.int ((-1 : Int32) - x3)]) (rest := []) rfl rfl rfl o_32 (y := m_53) rfl (Nat.le_of_ble_eq_true rfl) (d_53_ok (d := e) (by omega) q_34) ?_
          rintro v_35 h_36 ⟨rfl, hz⟩
          have hz := hz.symm
          subst hz
          refine wp_s 78 [some (.ref a0), some (.int x1), some (.int x2), some (.int x3), some (.int (x4 + (1 : Int32)))] [] z_33 i_47_75 rfl ?_
          refine wp_s 34 [some (.ref a0), some (.int x1), some (.int x2), some (.int x3), some (.int (x4 + (1 : Int32)))] [] z_33 i_47_78 rfl ?_
          exact aWp.forget (ih.2 _ _ _ _ _ _ _ _ hd) (lvS (lvS (lvS (lvS (lvS lvE)))))
def t_47 (sf47 : Nat → Int32 → Int32 → aH → Option aH) (sf48 : Nat → Int32 → aH → Option aH) (sf49 : Nat → Int32 → aH → Option aH) (g : Nat) (a0 : Nat) (x1 : Int32) (x2 : Int32) (h0 : aH) : Option (aH) := (if x1 ≤ (1 : Int32) then (if ¬ x1 = 0 then (l_47 sf47 sf48 sf49 g g 0 a0 x1 x2 (18 : Int32) 0 0 h0) else (l_47 sf47 sf48 sf49 g g 0 a0 x1 x2 (17 : Int32) 0 0 h0)) else (if isO h0 a0 4 = true then ((sf48 a0 x2 h0).bind (fun z_1006 => some z_1006)) else none))
set_option maxHeartbeats 4000000 in
set_option maxRecDepth 100000 in
theorem t_47_ok {X : aX} {g : Nat} {sf47 : Nat → Int32 → Int32 → aH → Option aH} {sf48 : Nat → Int32 → aH → Option aH} {sf49 : Nat → Int32 → aH → Option aH} {a0 : Nat} {x1 : Int32} {x2 : Int32} {h0 : aH} {zz : aH} {e : Nat} (hdp : 7 ≤ e) (hs47 : ∀ (a0 : Nat) (x1 : Int32) (x2 : Int32) (h0 zz : aH), sf47 a0 x1 x2 h0 = some zz → aWp X e 47 0 (aEntL [.ref a0, .int x1, .int x2] 5) [] h0 (fun w h' => w = none ∧ h' = zz)) (hs48 : ∀ (a0 : Nat) (x1 : Int32) (h0 zz : aH), sf48 a0 x1 h0 = some zz → aWp X e 48 0 (aEntL [.ref a0, .int x1] 3) [] h0 (fun w h' => w = none ∧ h' = zz)) (hs49 : ∀ (a0 : Nat) (x1 : Int32) (h0 zz : aH), sf49 a0 x1 h0 = some zz → aWp X e 49 0 (aEntL [.ref a0, .int x1] 2) [] h0 (fun w h' => w = none ∧ h' = zz)) (hd : t_47 sf47 sf48 sf49 g a0 x1 x2 h0 = some zz) : aWp X (e + 1) 47 0 (aEntL [.ref a0, .int x1, .int x2] 5) [] h0 (fun w h' => w = none ∧ h' = zz) := by
  unfold t_47 at hd
  refine wp_lv (l2 := [some (.ref a0), some (.int x1), some (.int x2), none, none]) rfl ?_
  refine wp_s 1 [some (.ref a0), some (.int x1), some (.int x2), none, none] [.int x1] h0 i_47_0 rfl ?_
  refine wp_s 2 [some (.ref a0), some (.int x1), some (.int x2), none, none] [.int (1 : Int32), .int x1] h0 i_47_1 rfl ?_
  refine wp_cmp_le 11 5 rfl rfl i_47_2 (fun c_1001 => ?_) (fun c_1001 => ?_)
  · rw [if_pos c_1001] at hd
    refine wp_s 12 [some (.ref a0), some (.int x1), some (.int x2), none, none] [.int x1] h0 i_47_11 rfl ?_
    refine wp_if_ne 20 15 rfl rfl i_47_12 (fun c_1002 => ?_) (fun c_1002 => ?_)
    · rw [if_pos c_1002] at hd
      refine wp_s 22 [some (.ref a0), some (.int x1), some (.int x2), none, none] [.int (18 : Int32)] h0 i_47_20 rfl ?_
      exact aWp.forget ((l_47_ok hdp hs47 hs48 hs49 g).1 _ _ _ _ _ _ _ _ hd) (lvS (lvS (lvS (lvN (lvN lvE)))))
    · rw [if_neg c_1002] at hd
      refine wp_s 17 [some (.ref a0), some (.int x1), some (.int x2), none, none] [.int (17 : Int32)] h0 i_47_15 rfl ?_
      refine wp_s 22 [some (.ref a0), some (.int x1), some (.int x2), none, none] [.int (17 : Int32)] h0 i_47_17 rfl ?_
      exact aWp.forget ((l_47_ok hdp hs47 hs48 hs49 g).1 _ _ _ _ _ _ _ _ hd) (lvS (lvS (lvS (lvN (lvN lvE)))))
  · rw [if_neg c_1001] at hd
    refine wp_s 6 [some (.ref a0), some (.int x1), some (.int x2), none, none] [.ref a0] h0 i_47_5 rfl ?_
    refine wp_s 7 [some (.ref a0), some (.int x1), some (.int x2), none, none] [.int x2, .ref a0] h0 i_47_6 rfl ?_
    obtain ⟨k_1003, hd⟩ := dk_if hd
    obtain ⟨fs_1004, o_1005⟩ := isO_of k_1003
    obtain ⟨z_1006, q_1007, hd⟩ := dk_bind hd
    refine wp_callV 10 rfl i_47_7 (by decide) rfl (vs := [.int x2]) (rest := []) rfl rfl rfl o_1005 (y := m_48) rfl (Nat.le_of_ble_eq_true rfl) (hs48 _ _ _ _ q_1007) ?_
    rintro v_1008 h_1009 ⟨rfl, hz⟩
    have hz := hz.symm
    subst hz
    obtain rfl := Option.some.inj hd
    exact wp_ret i_47_10 rfl ⟨rfl, rfl⟩
def j_48_24 (sf47 : Nat → Int32 → Int32 → aH → Option aH) (sf48 : Nat → Int32 → aH → Option aH) (sf49 : Nat → Int32 → aH → Option aH) (g : Nat) (a0 : Nat) (x1 : Int32) (h0 : aH) : Option (aH) := (if isO h0 a0 4 = true then ((sf49 a0 x1 h0).bind (fun z_4 => some z_4)) else none)
set_option maxHeartbeats 4000000 in
set_option maxRecDepth 100000 in
theorem j_48_24_ok {X : aX} {g : Nat} {sf47 : Nat → Int32 → Int32 → aH → Option aH} {sf48 : Nat → Int32 → aH → Option aH} {sf49 : Nat → Int32 → aH → Option aH} {a0 : Nat} {x1 : Int32} {h0 : aH} {zz : aH} {e : Nat} (hdp : 7 ≤ e) (hs47 : ∀ (a0 : Nat) (x1 : Int32) (x2 : Int32) (h0 zz : aH), sf47 a0 x1 x2 h0 = some zz → aWp X e 47 0 (aEntL [.ref a0, .int x1, .int x2] 5) [] h0 (fun w h' => w = none ∧ h' = zz)) (hs48 : ∀ (a0 : Nat) (x1 : Int32) (h0 zz : aH), sf48 a0 x1 h0 = some zz → aWp X e 48 0 (aEntL [.ref a0, .int x1] 3) [] h0 (fun w h' => w = none ∧ h' = zz)) (hs49 : ∀ (a0 : Nat) (x1 : Int32) (h0 zz : aH), sf49 a0 x1 h0 = some zz → aWp X e 49 0 (aEntL [.ref a0, .int x1] 2) [] h0 (fun w h' => w = none ∧ h' = zz)) (hd : j_48_24 sf47 sf48 sf49 g a0 x1 h0 = some zz) : aWp X (e + 1) 48 24 [some (.ref a0), some (.int x1), none] [] h0 (fun w h' => w = none ∧ h' = zz) := by
  unfold j_48_24 at hd
  refine wp_s 25 [some (.ref a0), some (.int x1), none] [.ref a0] h0 i_48_24 rfl ?_
  refine wp_s 26 [some (.ref a0), some (.int x1), none] [.int x1, .ref a0] h0 i_48_25 rfl ?_
  obtain ⟨k_1, hd⟩ := dk_if hd
  obtain ⟨fs_2, o_3⟩ := isO_of k_1
  obtain ⟨z_4, q_5, hd⟩ := dk_bind hd
  refine wp_callV 29 rfl i_48_26 (by decide) rfl (vs := [.int x1]) (rest := []) rfl rfl rfl o_3 (y := m_49) rfl (Nat.le_of_ble_eq_true rfl) (hs49 _ _ _ _ q_5) ?_
  rintro v_6 h_7 ⟨rfl, hz⟩
  have hz := hz.symm
  subst hz
  obtain rfl := Option.some.inj hd
  exact wp_ret i_48_29 rfl ⟨rfl, rfl⟩
def t_48 (sf47 : Nat → Int32 → Int32 → aH → Option aH) (sf48 : Nat → Int32 → aH → Option aH) (sf49 : Nat → Int32 → aH → Option aH) (g : Nat) (a0 : Nat) (x1 : Int32) (h0 : aH) : Option (aH) := ((gR h0 a0 4 0).bind (fun f_1 => ((gI h0 f_1 8 3).bind (fun f_3 => (if f_3 = (19 : Int32) then (j_48_24 sf47 sf48 sf49 g a0 x1 h0) else ((gR h0 a0 4 0).bind (fun f_6 => ((gI h0 f_6 8 3).bind (fun f_8 => (if ¬ f_8 = (24 : Int32) then (if isO h0 a0 4 = true then ((d_50 g a0 (0 : Int32) h0).bind (fun z_14 => ((gR z_14 a0 4 0).bind (fun f_18 => ((gI z_14 f_18 8 3).bind (fun f_20 => ((d_138 g f_20 (31 : Int32) (35 : Int32) z_14).bind (fun z_22 => (if ¬ z_22.1 = 0 then (if isO z_22.2 a0 4 = true then ((d_52 g a0 z_22.2).bind (fun z_30 => ((gR z_30 a0 4 0).bind (fun f_34 => (if isO z_30 f_34 8 = true then ((d_84 g f_34 z_30).bind (fun z_39 => (if isO z_39 a0 4 = true then ((d_50 g a0 (0 : Int32) z_39).bind (fun z_46 => (if isO z_46 a0 4 = true then ((d_53 g a0 ((-1 : Int32) - f_20) z_46).bind (fun z_53 => some z_53)) else none))) else none))) else none))))) else none) else ((gR z_22.2 a0 4 0).bind (fun f_57 => (if isO z_22.2 f_57 8 = true then ((d_83 g f_57 (0 : Int32) z_22.2).bind (fun z_62 => some z_62)) else none)))))))))))) else none) else (j_48_24 sf47 sf48 sf49 g a0 x1 h0)))))))))))
set_option maxHeartbeats 4000000 in
set_option maxRecDepth 100000 in
theorem t_48_ok {X : aX} {g : Nat} {sf47 : Nat → Int32 → Int32 → aH → Option aH} {sf48 : Nat → Int32 → aH → Option aH} {sf49 : Nat → Int32 → aH → Option aH} {a0 : Nat} {x1 : Int32} {h0 : aH} {zz : aH} {e : Nat} (hdp : 7 ≤ e) (hs47 : ∀ (a0 : Nat) (x1 : Int32) (x2 : Int32) (h0 zz : aH), sf47 a0 x1 x2 h0 = some zz → aWp X e 47 0 (aEntL [.ref a0, .int x1, .int x2] 5) [] h0 (fun w h' => w = none ∧ h' = zz)) (hs48 : ∀ (a0 : Nat) (x1 : Int32) (h0 zz : aH), sf48 a0 x1 h0 = some zz → aWp X e 48 0 (aEntL [.ref a0, .int x1] 3) [] h0 (fun w h' => w = none ∧ h' = zz)) (hs49 : ∀ (a0 : Nat) (x1 : Int32) (h0 zz : aH), sf49 a0 x1 h0 = some zz → aWp X e 49 0 (aEntL [.ref a0, .int x1] 2) [] h0 (fun w h' => w = none ∧ h' = zz)) (hd : t_48 sf47 sf48 sf49 g a0 x1 h0 = some zz) : aWp X (e + 1) 48 0 (aEntL [.ref a0, .int x1] 3) [] h0 (fun w h' => w = none ∧ h' = zz) := by
  unfold t_48 at hd
  refine wp_lv (l2 := [some (.ref a0), some (.int x1), none]) rfl ?_
  refine wp_s 1 [some (.ref a0), some (.int x1), none] [.ref a0] h0 i_48_0 rfl ?_
  obtain ⟨f_1, q_2, hd⟩ := dk_bind hd
  refine hp_gR 4 rfl i_48_1 q_2 ?_
  obtain ⟨f_3, q_4, hd⟩ := dk_bind hd
  refine hp_gI 7 rfl i_48_4 q_4 ?_
  refine wp_s 9 [some (.ref a0), some (.int x1), none] [.int (19 : Int32), .int f_3] h0 i_48_7 rfl ?_
  refine wp_cmp_eq 24 12 rfl rfl i_48_9 (fun c_5 => ?_) (fun c_5 => ?_)
  · rw [if_pos c_5] at hd
    exact aWp.forget (j_48_24_ok hdp hs47 hs48 hs49 hd) (lvS (lvS (lvN lvE)))
  · rw [if_neg c_5] at hd
    refine wp_s 13 [some (.ref a0), some (.int x1), none] [.ref a0] h0 i_48_12 rfl ?_
    obtain ⟨f_6, q_7, hd⟩ := dk_bind hd
    refine hp_gR 16 rfl i_48_13 q_7 ?_
    obtain ⟨f_8, q_9, hd⟩ := dk_bind hd
    refine hp_gI 19 rfl i_48_16 q_9 ?_
    refine wp_s 21 [some (.ref a0), some (.int x1), none] [.int (24 : Int32), .int f_8] h0 i_48_19 rfl ?_
    refine wp_cmp_ne 30 24 rfl rfl i_48_21 (fun c_10 => ?_) (fun c_10 => ?_)
    · rw [if_pos c_10] at hd
      refine wp_s 31 [some (.ref a0), some (.int x1), none] [.ref a0] h0 i_48_30 rfl ?_
      refine wp_s 32 [some (.ref a0), some (.int x1), none] [.int (0 : Int32), .ref a0] h0 i_48_31 rfl ?_
      obtain ⟨k_11, hd⟩ := dk_if hd
      obtain ⟨fs_12, o_13⟩ := isO_of k_11
      obtain ⟨z_14, q_15, hd⟩ := dk_bind hd
      refine wp_callV 35 rfl i_48_32 (by decide) rfl (vs := [.int (0 : Int32)]) (rest := []) rfl rfl rfl o_13 (y := m_50) rfl (Nat.le_of_ble_eq_true rfl) (d_50_ok (d := e) (by omega) q_15) ?_
      rintro v_16 h_17 ⟨rfl, hz⟩
      have hz := hz.symm
      subst hz
      refine wp_s 36 [some (.ref a0), some (.int x1), none] [.ref a0] z_14 i_48_35 rfl ?_
      obtain ⟨f_18, q_19, hd⟩ := dk_bind hd
      refine hp_gR 39 rfl i_48_36 q_19 ?_
      obtain ⟨f_20, q_21, hd⟩ := dk_bind hd
      refine hp_gI 42 rfl i_48_39 q_21 ?_
      refine wp_s 43 [some (.ref a0), some (.int x1), some (.int f_20)] [] z_14 i_48_42 rfl ?_
      refine wp_s 44 [some (.ref a0), some (.int x1), some (.int f_20)] [.int f_20] z_14 i_48_43 rfl ?_
      refine wp_s 46 [some (.ref a0), some (.int x1), some (.int f_20)] [.int (31 : Int32), .int f_20] z_14 i_48_44 rfl ?_
      refine wp_s 48 [some (.ref a0), some (.int x1), some (.int f_20)] [.int (35 : Int32), .int (31 : Int32), .int f_20] z_14 i_48_46 rfl ?_
      obtain ⟨z_22, q_23, hd⟩ := dk_bind hd
      refine wp_callS 51 rfl i_48_48 (by decide) (vs := [.int f_20, .int (31 : Int32), .int (35 : Int32)]) (rest := []) rfl rfl rfl (y := m_138) rfl (Nat.le_of_ble_eq_true rfl) (d_138_ok (d := e) (by omega) q_23) ?_
      rintro v_24 h_25 ⟨rfl, rfl⟩
      refine wp_if_ne 63 54 rfl rfl i_48_51 (fun c_26 => ?_) (fun c_26 => ?_)
      · rw [if_pos c_26] at hd
        refine wp_s 64 [some (.ref a0), some (.int x1), some (.int f_20)] [.ref a0] z_22.2 i_48_63 rfl ?_
        obtain ⟨k_27, hd⟩ := dk_if hd
        obtain ⟨fs_28, o_29⟩ := isO_of k_27
        obtain ⟨z_30, q_31, hd⟩ := dk_bind hd
        refine wp_callV 67 rfl i_48_64 (by decide) rfl (vs := []) (rest := []) rfl rfl rfl o_29 (y := m_52) rfl (Nat.le_of_ble_eq_true rfl) (d_52_ok (d := e) (by omega) q_31) ?_
        rintro v_32 h_33 ⟨rfl, hz⟩
        have hz := hz.symm
        subst hz
        refine wp_s 68 [some (.ref a0), some (.int x1), some (.int f_20)] [.ref a0] z_30 i_48_67 rfl ?_
        obtain ⟨f_34, q_35, hd⟩ := dk_bind hd
        refine hp_gR 71 rfl i_48_68 q_35 ?_
        obtain ⟨k_36, hd⟩ := dk_if hd
        obtain ⟨fs_37, o_38⟩ := isO_of k_36
        obtain ⟨z_39, q_40, hd⟩ := dk_bind hd
        refine wp_callV 74 rfl i_48_71 (by decide) rfl (vs := []) (rest := []) rfl rfl rfl o_38 (y := m_84) rfl (Nat.le_of_ble_eq_true rfl) (d_84_ok (d := e) (by omega) q_40) ?_
        rintro v_41 h_42 ⟨rfl, hz⟩
        have hz := hz.symm
        subst hz
        refine wp_s 75 [some (.ref a0), some (.int x1), some (.int f_20)] [.ref a0] z_39 i_48_74 rfl ?_
        refine wp_s 76 [some (.ref a0), some (.int x1), some (.int f_20)] [.int (0 : Int32), .ref a0] z_39 i_48_75 rfl ?_
        obtain ⟨k_43, hd⟩ := dk_if hd
        obtain ⟨fs_44, o_45⟩ := isO_of k_43
        obtain ⟨z_46, q_47, hd⟩ := dk_bind hd
        refine wp_callV 79 rfl i_48_76 (by decide) rfl (vs := [.int (0 : Int32)]) (rest := []) rfl rfl rfl o_45 (y := m_50) rfl (Nat.le_of_ble_eq_true rfl) (d_50_ok (d := e) (by omega) q_47) ?_
        rintro v_48 h_49 ⟨rfl, hz⟩
        have hz := hz.symm
        subst hz
        refine wp_s 80 [some (.ref a0), some (.int x1), some (.int f_20)] [.ref a0] z_46 i_48_79 rfl ?_
        refine wp_s 81 [some (.ref a0), some (.int x1), some (.int f_20)] [.int (-1 : Int32), .ref a0] z_46 i_48_80 rfl ?_
        refine wp_s 82 [some (.ref a0), some (.int x1), some (.int f_20)] [.int f_20, .int (-1 : Int32), .ref a0] z_46 i_48_81 rfl ?_
        refine wp_s 83 [some (.ref a0), some (.int x1), some (.int f_20)] [.int ((-1 : Int32) - f_20), .ref a0] z_46 i_48_82 rfl ?_
        obtain ⟨k_50, hd⟩ := dk_if hd
        obtain ⟨fs_51, o_52⟩ := isO_of k_50
        obtain ⟨z_53, q_54, hd⟩ := dk_bind hd
        refine wp_callV 86 rfl i_48_83 (by decide) rfl (vs := [.int ((-1 : Int32) - f_20)]) (rest := []) rfl rfl rfl o_52 (y := m_53) rfl (Nat.le_of_ble_eq_true rfl) (d_53_ok (d := e) (by omega) q_54) ?_
        rintro v_55 h_56 ⟨rfl, hz⟩
        have hz := hz.symm
        subst hz
        obtain rfl := Option.some.inj hd
        exact wp_ret i_48_86 rfl ⟨rfl, rfl⟩
      · rw [if_neg c_26] at hd
        refine wp_s 55 [some (.ref a0), some (.int x1), some (.int f_20)] [.ref a0] z_22.2 i_48_54 rfl ?_
        obtain ⟨f_57, q_58, hd⟩ := dk_bind hd
        refine hp_gR 58 rfl i_48_55 q_58 ?_
        refine wp_s 59 [some (.ref a0), some (.int x1), some (.int f_20)] [.int (0 : Int32), .ref f_57] z_22.2 i_48_58 rfl ?_
        obtain ⟨k_59, hd⟩ := dk_if hd
        obtain ⟨fs_60, o_61⟩ := isO_of k_59
        obtain ⟨z_62, q_63, hd⟩ := dk_bind hd
        refine wp_callV 62 rfl i_48_59 (by decide) rfl (vs := [.int (0 : Int32)]) (rest := []) rfl rfl rfl o_61 (y := m_83) rfl (Nat.le_of_ble_eq_true rfl) (d_83_ok (d := e) (by omega) q_63) ?_
        rintro v_64 h_65 ⟨rfl, hz⟩
        have hz := hz.symm
        subst hz
        obtain rfl := Option.some.inj hd
        exact wp_ret i_48_62 rfl ⟨rfl, rfl⟩
    · rw [if_neg c_10] at hd
      exact aWp.forget (j_48_24_ok hdp hs47 hs48 hs49 hd) (lvS (lvS (lvN lvE)))
def j_49_87 (sf47 : Nat → Int32 → Int32 → aH → Option aH) (sf48 : Nat → Int32 → aH → Option aH) (sf49 : Nat → Int32 → aH → Option aH) (g : Nat) (a0 : Nat) (x1 : Int32) (h0 : aH) : Option (aH) := ((gR h0 a0 4 0).bind (fun f_1 => (if isO h0 f_1 8 = true then ((d_84 g f_1 h0).bind (fun z_6 => some z_6)) else none)))
set_option maxHeartbeats 4000000 in
set_option maxRecDepth 100000 in
theorem j_49_87_ok {X : aX} {g : Nat} {sf47 : Nat → Int32 → Int32 → aH → Option aH} {sf48 : Nat → Int32 → aH → Option aH} {sf49 : Nat → Int32 → aH → Option aH} {a0 : Nat} {x1 : Int32} {h0 : aH} {zz : aH} {e : Nat} (hdp : 7 ≤ e) (hs47 : ∀ (a0 : Nat) (x1 : Int32) (x2 : Int32) (h0 zz : aH), sf47 a0 x1 x2 h0 = some zz → aWp X e 47 0 (aEntL [.ref a0, .int x1, .int x2] 5) [] h0 (fun w h' => w = none ∧ h' = zz)) (hs48 : ∀ (a0 : Nat) (x1 : Int32) (h0 zz : aH), sf48 a0 x1 h0 = some zz → aWp X e 48 0 (aEntL [.ref a0, .int x1] 3) [] h0 (fun w h' => w = none ∧ h' = zz)) (hs49 : ∀ (a0 : Nat) (x1 : Int32) (h0 zz : aH), sf49 a0 x1 h0 = some zz → aWp X e 49 0 (aEntL [.ref a0, .int x1] 2) [] h0 (fun w h' => w = none ∧ h' = zz)) (hd : j_49_87 sf47 sf48 sf49 g a0 x1 h0 = some zz) : aWp X (e + 1) 49 87 [some (.ref a0), some (.int x1)] [] h0 (fun w h' => w = none ∧ h' = zz) := by
  unfold j_49_87 at hd
  refine wp_s 88 [some (.ref a0), some (.int x1)] [.ref a0] h0 i_49_87 rfl ?_
  obtain ⟨f_1, q_2, hd⟩ := dk_bind hd
  refine hp_gR 91 rfl i_49_88 q_2 ?_
  obtain ⟨k_3, hd⟩ := dk_if hd
  obtain ⟨fs_4, o_5⟩ := isO_of k_3
  obtain ⟨z_6, q_7, hd⟩ := dk_bind hd
  refine wp_callV 94 rfl i_49_91 (by decide) rfl (vs := []) (rest := []) rfl rfl rfl o_5 (y := m_84) rfl (Nat.le_of_ble_eq_true rfl) (d_84_ok (d := e) (by omega) q_7) ?_
  rintro v_8 h_9 ⟨rfl, hz⟩
  have hz := hz.symm
  subst hz
  obtain rfl := Option.some.inj hd
  exact wp_ret i_49_94 rfl ⟨rfl, rfl⟩
def t_49 (sf47 : Nat → Int32 → Int32 → aH → Option aH) (sf48 : Nat → Int32 → aH → Option aH) (sf49 : Nat → Int32 → aH → Option aH) (g : Nat) (a0 : Nat) (x1 : Int32) (h0 : aH) : Option (aH) := (if x1 < (10 : Int32) then ((gR h0 a0 4 0).bind (fun f_2 => ((gI h0 f_2 8 3).bind (fun f_4 => (if ¬ f_4 = (19 : Int32) then ((gR h0 a0 4 0).bind (fun f_7 => (if isO h0 f_7 8 = true then ((d_84 g f_7 h0).bind (fun z_12 => (if isO z_12 a0 4 = true then ((sf47 a0 (0 : Int32) (x1 + (1 : Int32)) z_12).bind (fun z_19 => ((gR z_19 a0 4 0).bind (fun f_23 => ((gI z_19 f_23 8 3).bind (fun f_25 => (if f_25 = (25 : Int32) then (j_49_87 sf47 sf48 sf49 g a0 x1 z_19) else ((gR z_19 a0 4 0).bind (fun f_28 => (if isO z_19 f_28 8 = true then ((d_83 g f_28 (0 : Int32) z_19).bind (fun z_33 => (j_49_87 sf47 sf48 sf49 g a0 x1 z_33))) else none)))))))))) else none))) else none))) else ((gR h0 a0 4 0).bind (fun f_37 => (if isO h0 f_37 8 = true then ((d_84 g f_37 h0).bind (fun z_42 => (if isO z_42 a0 4 = true then ((sf48 a0 (x1 + (1 : Int32)) z_42).bind (fun z_49 => (if isO z_49 a0 4 = true then ((d_53 g a0 (-20 : Int32) z_49).bind (fun z_56 => some z_56)) else none))) else none))) else none)))))))) else ((gR h0 a0 4 0).bind (fun f_60 => (if isO h0 f_60 8 = true then ((d_83 g f_60 (2 : Int32) h0).bind (fun z_65 => some z_65)) else none))))
set_option maxHeartbeats 4000000 in
set_option maxRecDepth 100000 in
theorem t_49_ok {X : aX} {g : Nat} {sf47 : Nat → Int32 → Int32 → aH → Option aH} {sf48 : Nat → Int32 → aH → Option aH} {sf49 : Nat → Int32 → aH → Option aH} {a0 : Nat} {x1 : Int32} {h0 : aH} {zz : aH} {e : Nat} (hdp : 7 ≤ e) (hs47 : ∀ (a0 : Nat) (x1 : Int32) (x2 : Int32) (h0 zz : aH), sf47 a0 x1 x2 h0 = some zz → aWp X e 47 0 (aEntL [.ref a0, .int x1, .int x2] 5) [] h0 (fun w h' => w = none ∧ h' = zz)) (hs48 : ∀ (a0 : Nat) (x1 : Int32) (h0 zz : aH), sf48 a0 x1 h0 = some zz → aWp X e 48 0 (aEntL [.ref a0, .int x1] 3) [] h0 (fun w h' => w = none ∧ h' = zz)) (hs49 : ∀ (a0 : Nat) (x1 : Int32) (h0 zz : aH), sf49 a0 x1 h0 = some zz → aWp X e 49 0 (aEntL [.ref a0, .int x1] 2) [] h0 (fun w h' => w = none ∧ h' = zz)) (hd : t_49 sf47 sf48 sf49 g a0 x1 h0 = some zz) : aWp X (e + 1) 49 0 (aEntL [.ref a0, .int x1] 2) [] h0 (fun w h' => w = none ∧ h' = zz) := by
  unfold t_49 at hd
  refine wp_lv (l2 := [some (.ref a0), some (.int x1)]) rfl ?_
  refine wp_s 1 [some (.ref a0), some (.int x1)] [.int x1] h0 i_49_0 rfl ?_
  refine wp_s 3 [some (.ref a0), some (.int x1)] [.int (10 : Int32), .int x1] h0 i_49_1 rfl ?_
  refine wp_cmp_lt 17 6 rfl rfl i_49_3 (fun c_1 => ?_) (fun c_1 => ?_)
  · rw [if_pos c_1] at hd
    refine wp_s 18 [some (.ref a0), some (.int x1)] [.ref a0] h0 i_49_17 rfl ?_
    obtain ⟨f_2, q_3, hd⟩ := dk_bind hd
    refine hp_gR 21 rfl i_49_18 q_3 ?_
    obtain ⟨f_4, q_5, hd⟩ := dk_bind hd
    refine hp_gI 24 rfl i_49_21 q_5 ?_
    refine wp_s 26 [some (.ref a0), some (.int x1)] [.int (19 : Int32), .int f_4] h0 i_49_24 rfl ?_
    refine wp_cmp_ne 52 29 rfl rfl i_49_26 (fun c_6 => ?_) (fun c_6 => ?_)
    · rw [if_pos c_6] at hd
      refine wp_s 53 [some (.ref a0), some (.int x1)] [.ref a0] h0 i_49_52 rfl ?_
      obtain ⟨f_7, q_8, hd⟩ := dk_bind hd
      refine hp_gR 56 rfl i_49_53 q_8 ?_
      obtain ⟨k_9, hd⟩ := dk_if hd
      obtain ⟨fs_10, o_11⟩ := isO_of k_9
      obtain ⟨z_12, q_13, hd⟩ := dk_bind hd
      refine wp_callV 59 rfl i_49_56 (by decide) rfl (vs := []) (rest := []) rfl rfl rfl o_11 (y := m_84) rfl (Nat.le_of_ble_eq_true rfl) (d_84_ok (d := e) (by omega) q_13) ?_
      rintro v_14 h_15 ⟨rfl, hz⟩
      have hz := hz.symm
      subst hz
      refine wp_s 60 [some (.ref a0), some (.int x1)] [.ref a0] z_12 i_49_59 rfl ?_
      refine wp_s 61 [some (.ref a0), some (.int x1)] [.int (0 : Int32), .ref a0] z_12 i_49_60 rfl ?_
      refine wp_s 62 [some (.ref a0), some (.int x1)] [.int x1, .int (0 : Int32), .ref a0] z_12 i_49_61 rfl ?_
      refine wp_s 63 [some (.ref a0), some (.int x1)] [.int (1 : Int32), .int x1, .int (0 : Int32), .ref a0] z_12 i_49_62 rfl ?_
      refine wp_s 64 [some (.ref a0), some (.int x1)] [.int (x1 + (1 : Int32)), .int (0 : Int32), .ref a0] z_12 i_49_63 rfl ?_
      obtain ⟨k_16, hd⟩ := dk_if hd
      obtain ⟨fs_17, o_18⟩ := isO_of k_16
      obtain ⟨z_19, q_20, hd⟩ := dk_bind hd
      refine wp_callV 67 rfl i_49_64 (by decide) rfl (vs := [.int (0 : Int32), .int (x1 + (1 : Int32))]) (rest := []) rfl rfl rfl o_18 (y := m_47) rfl (Nat.le_of_ble_eq_true rfl) (hs47 _ _ _ _ _ q_20) ?_
      rintro v_21 h_22 ⟨rfl, hz⟩
      have hz := hz.symm
      subst hz
      refine wp_s 68 [some (.ref a0), some (.int x1)] [.ref a0] z_19 i_49_67 rfl ?_
      obtain ⟨f_23, q_24, hd⟩ := dk_bind hd
      refine hp_gR 71 rfl i_49_68 q_24 ?_
      obtain ⟨f_25, q_26, hd⟩ := dk_bind hd
      refine hp_gI 74 rfl i_49_71 q_26 ?_
      refine wp_s 76 [some (.ref a0), some (.int x1)] [.int (25 : Int32), .int f_25] z_19 i_49_74 rfl ?_
      refine wp_cmp_eq 87 79 rfl rfl i_49_76 (fun c_27 => ?_) (fun c_27 => ?_)
      · rw [if_pos c_27] at hd
        exact aWp.forget (j_49_87_ok hdp hs47 hs48 hs49 hd) (lvS (lvS lvE))
      · rw [if_neg c_27] at hd
        refine wp_s 80 [some (.ref a0), some (.int x1)] [.ref a0] z_19 i_49_79 rfl ?_
        obtain ⟨f_28, q_29, hd⟩ := dk_bind hd
        refine hp_gR 83 rfl i_49_80 q_29 ?_
        refine wp_s 84 [some (.ref a0), some (.int x1)] [.int (0 : Int32), .ref f_28] z_19 i_49_83 rfl ?_
        obtain ⟨k_30, hd⟩ := dk_if hd
        obtain ⟨fs_31, o_32⟩ := isO_of k_30
        obtain ⟨z_33, q_34, hd⟩ := dk_bind hd
        refine wp_callV 87 rfl i_49_84 (by decide) rfl (vs := [.int (0 : Int32)]) (rest := []) rfl rfl rfl o_32 (y := m_83) rfl (Nat.le_of_ble_eq_true rfl) (d_83_ok (d := e) (by omega) q_34) ?_
        rintro v_35 h_36 ⟨rfl, hz⟩
        have hz := hz.symm
        subst hz
        exact aWp.forget (j_49_87_ok hdp hs47 hs48 hs49 hd) (lvS (lvS lvE))
    · rw [if_neg c_6] at hd
      refine wp_s 30 [some (.ref a0), some (.int x1)] [.ref a0] h0 i_49_29 rfl ?_
      obtain ⟨f_37, q_38, hd⟩ := dk_bind hd
      refine hp_gR 33 rfl i_49_30 q_38 ?_
      obtain ⟨k_39, hd⟩ := dk_if hd
      obtain ⟨fs_40, o_41⟩ := isO_of k_39
      obtain ⟨z_42, q_43, hd⟩ := dk_bind hd
      refine wp_callV 36 rfl i_49_33 (by decide) rfl (vs := []) (rest := []) rfl rfl rfl o_41 (y := m_84) rfl (Nat.le_of_ble_eq_true rfl) (d_84_ok (d := e) (by omega) q_43) ?_
      rintro v_44 h_45 ⟨rfl, hz⟩
      have hz := hz.symm
      subst hz
      refine wp_s 37 [some (.ref a0), some (.int x1)] [.ref a0] z_42 i_49_36 rfl ?_
      refine wp_s 38 [some (.ref a0), some (.int x1)] [.int x1, .ref a0] z_42 i_49_37 rfl ?_
      refine wp_s 39 [some (.ref a0), some (.int x1)] [.int (1 : Int32), .int x1, .ref a0] z_42 i_49_38 rfl ?_
      refine wp_s 40 [some (.ref a0), some (.int x1)] [.int (x1 + (1 : Int32)), .ref a0] z_42 i_49_39 rfl ?_
      obtain ⟨k_46, hd⟩ := dk_if hd
      obtain ⟨fs_47, o_48⟩ := isO_of k_46
      obtain ⟨z_49, q_50, hd⟩ := dk_bind hd
      refine wp_callV 43 rfl i_49_40 (by decide) rfl (vs := [.int (x1 + (1 : Int32))]) (rest := []) rfl rfl rfl o_48 (y := m_48) rfl (Nat.le_of_ble_eq_true rfl) (hs48 _ _ _ _ q_50) ?_
      rintro v_51 h_52 ⟨rfl, hz⟩
      have hz := hz.symm
      subst hz
      refine wp_s 44 [some (.ref a0), some (.int x1)] [.ref a0] z_49 i_49_43 rfl ?_
      refine wp_s 46 [some (.ref a0), some (.int x1)] [.int (-20 : Int32), .ref a0] z_49 i_49_44 rfl ?_
      obtain ⟨k_53, hd⟩ := dk_if hd
      obtain ⟨fs_54, o_55⟩ := isO_of k_53
      obtain ⟨z_56, q_57, hd⟩ := dk_bind hd
      refine wp_callV 49 rfl i_49_46 (by decide) rfl (vs := [.int (-20 : Int32)]) (rest := []) rfl rfl rfl o_55 (y := m_53) rfl (Nat.le_of_ble_eq_true rfl) (d_53_ok (d := e) (by omega) q_57) ?_
      rintro v_58 h_59 ⟨rfl, hz⟩
      have hz := hz.symm
      subst hz
      refine wp_s 94 [some (.ref a0), some (.int x1)] [] z_56 i_49_49 rfl ?_
      obtain rfl := Option.some.inj hd
      exact wp_ret i_49_94 rfl ⟨rfl, rfl⟩
  · rw [if_neg c_1] at hd
    refine wp_s 7 [some (.ref a0), some (.int x1)] [.ref a0] h0 i_49_6 rfl ?_
    obtain ⟨f_60, q_61, hd⟩ := dk_bind hd
    refine hp_gR 10 rfl i_49_7 q_61 ?_
    refine wp_s 11 [some (.ref a0), some (.int x1)] [.int (2 : Int32), .ref f_60] h0 i_49_10 rfl ?_
    obtain ⟨k_62, hd⟩ := dk_if hd
    obtain ⟨fs_63, o_64⟩ := isO_of k_62
    obtain ⟨z_65, q_66, hd⟩ := dk_bind hd
    refine wp_callV 14 rfl i_49_11 (by decide) rfl (vs := [.int (2 : Int32)]) (rest := []) rfl rfl rfl o_64 (y := m_83) rfl (Nat.le_of_ble_eq_true rfl) (d_83_ok (d := e) (by omega) q_66) ?_
    rintro v_67 h_68 ⟨rfl, hz⟩
    have hz := hz.symm
    subst hz
    refine wp_s 94 [some (.ref a0), some (.int x1)] [] z_65 i_49_14 rfl ?_
    obtain rfl := Option.some.inj hd
    exact wp_ret i_49_94 rfl ⟨rfl, rfl⟩
def R_47 (g n tag : Nat) (a0 : Nat) (x1 : Int32) (x2 : Int32) (h0 : aH) : Option aH := match n with
  | 0 => none
  | n + 1 => if tag = 0 then t_47 (fun a0 x1 x2 h => R_47 g n 0 a0 x1 x2 h) (fun a0 x1 h => R_47 g n 1 a0 x1 0 h) (fun a0 x1 h => R_47 g n 2 a0 x1 0 h) g a0 x1 x2 h0 else if tag = 1 then t_48 (fun a0 x1 x2 h => R_47 g n 0 a0 x1 x2 h) (fun a0 x1 h => R_47 g n 1 a0 x1 0 h) (fun a0 x1 h => R_47 g n 2 a0 x1 0 h) g a0 x1 h0 else if tag = 2 then t_49 (fun a0 x1 x2 h => R_47 g n 0 a0 x1 x2 h) (fun a0 x1 h => R_47 g n 1 a0 x1 0 h) (fun a0 x1 h => R_47 g n 2 a0 x1 0 h) g a0 x1 h0 else none
theorem R_47_ok {X : aX} {g : Nat} : ∀ n, (∀ (a0 : Nat) (x1 : Int32) (x2 : Int32) (h0 zz : aH), R_47 g n 0 a0 x1 x2 h0 = some zz → aWp X (7 + n) 47 0 (aEntL [.ref a0, .int x1, .int x2] 5) [] h0 (fun w h' => w = none ∧ h' = zz)) ∧ (∀ (a0 : Nat) (x1 : Int32) (h0 zz : aH), R_47 g n 1 a0 x1 0 h0 = some zz → aWp X (7 + n) 48 0 (aEntL [.ref a0, .int x1] 3) [] h0 (fun w h' => w = none ∧ h' = zz)) ∧ (∀ (a0 : Nat) (x1 : Int32) (h0 zz : aH), R_47 g n 2 a0 x1 0 h0 = some zz → aWp X (7 + n) 49 0 (aEntL [.ref a0, .int x1] 2) [] h0 (fun w h' => w = none ∧ h' = zz)) := by
  intro n
  induction n with
  | zero => exact ⟨fun _ _ _ _ _ hd => by simp [R_47] at hd, fun _ _ _ _ hd => by simp [R_47] at hd, fun _ _ _ _ hd => by simp [R_47] at hd⟩
  | succ n ih =>
    obtain ⟨ih0, ih1, ih2⟩ := ih
    refine ⟨?_, ?_, ?_⟩
    · intro a0 x1 x2 h0 zz hd
      unfold R_47 at hd
      rw [if_pos rfl] at hd
      exact t_47_ok (e := 7 + n) (by omega) ih0 ih1 ih2 hd
    · intro a0 x1 h0 zz hd
      unfold R_47 at hd
      rw [if_neg (by decide), if_pos rfl] at hd
      exact t_48_ok (e := 7 + n) (by omega) ih0 ih1 ih2 hd
    · intro a0 x1 h0 zz hd
      unfold R_47 at hd
      rw [if_neg (by decide), if_neg (by decide), if_pos rfl] at hd
      exact t_49_ok (e := 7 + n) (by omega) ih0 ih1 ih2 hd
def d_47 (g : Nat) (a0 : Nat) (x1 : Int32) (x2 : Int32) (h0 : aH) : Option aH := R_47 g 70 0 a0 x1 x2 h0
theorem d_47_ok {X : aX} {g : Nat} {a0 : Nat} {x1 : Int32} {x2 : Int32} {h0 zz : aH} {d : Nat} (hdp : 77 ≤ d) (hd : d_47 g a0 x1 x2 h0 = some zz) : aWp X d 47 0 (aEntL [.ref a0, .int x1, .int x2] 5) [] h0 (fun w h' => w = none ∧ h' = zz) := ((R_47_ok 70).1 _ _ _ _ _ hd).deep hdp
def d_48 (g : Nat) (a0 : Nat) (x1 : Int32) (h0 : aH) : Option aH := R_47 g 70 1 a0 x1 0 h0
theorem d_48_ok {X : aX} {g : Nat} {a0 : Nat} {x1 : Int32} {h0 zz : aH} {d : Nat} (hdp : 77 ≤ d) (hd : d_48 g a0 x1 h0 = some zz) : aWp X d 48 0 (aEntL [.ref a0, .int x1] 3) [] h0 (fun w h' => w = none ∧ h' = zz) := ((R_47_ok 70).2.1 _ _ _ _ hd).deep hdp
def d_49 (g : Nat) (a0 : Nat) (x1 : Int32) (h0 : aH) : Option aH := R_47 g 70 2 a0 x1 0 h0
theorem d_49_ok {X : aX} {g : Nat} {a0 : Nat} {x1 : Int32} {h0 zz : aH} {d : Nat} (hdp : 77 ≤ d) (hd : d_49 g a0 x1 h0 = some zz) : aWp X d 49 0 (aEntL [.ref a0, .int x1] 2) [] h0 (fun w h' => w = none ∧ h' = zz) := ((R_47_ok 70).2.2 _ _ _ _ hd).deep hdp
def j_46_126 (g : Nat) (a0 : Nat) (x1 : Int32) (h0 : aH) : Option (aH) := ((gR h0 a0 4 1).bind (fun f_1 => ((gR h0 f_1 3 3).bind (fun f_3 => ((gR h0 a0 4 1).bind (fun f_5 => ((gI h0 f_5 3 5).bind (fun f_7 => ((sA h0 f_3 x1 f_7).bind (fun h_9 => some h_9))))))))))
set_option maxHeartbeats 4000000 in
set_option maxRecDepth 100000 in
theorem j_46_126_ok {X : aX} {g : Nat} {a0 : Nat} {x1 : Int32} {h0 : aH} {zz : aH} {d : Nat} (hdp : 78 ≤ d) (hd : j_46_126 g a0 x1 h0 = some zz) : aWp X d 46 126 [some (.ref a0), some (.int x1)] [] h0 (fun w h' => w = none ∧ h' = zz) := by
  unfold j_46_126 at hd
  obtain ⟨e, rfl⟩ : ∃ e, d = e + 1 := ⟨d - 1, by omega⟩
  refine wp_s 127 [some (.ref a0), some (.int x1)] [.ref a0] h0 i_46_126 rfl ?_
  obtain ⟨f_1, q_2, hd⟩ := dk_bind hd
  refine hp_gR 130 rfl i_46_127 q_2 ?_
  obtain ⟨f_3, q_4, hd⟩ := dk_bind hd
  refine hp_gR 133 rfl i_46_130 q_4 ?_
  refine wp_s 134 [some (.ref a0), some (.int x1)] [.int x1, .ref f_3] h0 i_46_133 rfl ?_
  refine wp_s 135 [some (.ref a0), some (.int x1)] [.ref a0, .int x1, .ref f_3] h0 i_46_134 rfl ?_
  obtain ⟨f_5, q_6, hd⟩ := dk_bind hd
  refine hp_gR 138 rfl i_46_135 q_6 ?_
  obtain ⟨f_7, q_8, hd⟩ := dk_bind hd
  refine hp_gI 141 rfl i_46_138 q_8 ?_
  obtain ⟨h_9, q_10, hd⟩ := dk_bind hd
  refine hp_sA 142 rfl i_46_141 q_10 ?_
  obtain rfl := Option.some.inj hd
  exact wp_ret i_46_142 rfl ⟨rfl, rfl⟩
def d_46 (g : Nat) (a0 : Nat) (h0 : aH) : Option (aH) := ((gR h0 a0 4 0).bind (fun f_1 => ((gI h0 f_1 8 3).bind (fun f_3 => (if f_3 = (15 : Int32) then ((gR h0 a0 4 1).bind (fun f_6 => ((gI h0 f_6 3 6).bind (fun f_8 => (if f_8 < (12 : Int32) then ((gR h0 a0 4 1).bind (fun f_11 => ((gI h0 f_11 3 6).bind (fun f_13 => ((sF h0 f_11 3 6 (.int (f_13 + (1 : Int32)))).bind (fun h_15 => ((gR h_15 a0 4 0).bind (fun f_17 => (if isO h_15 f_17 8 = true then ((d_84 g f_17 h_15).bind (fun z_22 => ((gR z_22 a0 4 1).bind (fun f_26 => ((gR z_22 f_26 3 1).bind (fun f_28 => ((gR z_22 a0 4 1).bind (fun f_30 => ((gI z_22 f_30 3 5).bind (fun f_32 => ((sA z_22 f_28 f_8 f_32).bind (fun h_34 => (if isO h_34 a0 4 = true then ((d_50 g a0 (0 : Int32) h_34).bind (fun z_39 => ((gR z_39 a0 4 1).bind (fun f_43 => ((gR z_39 f_43 3 2).bind (fun f_45 => ((gR z_39 a0 4 1).bind (fun f_47 => ((gI z_39 f_47 3 5).bind (fun f_49 => ((sA z_39 f_45 f_8 f_49).bind (fun h_51 => ((gR h_51 a0 4 0).bind (fun f_53 => ((gI h_51 f_53 8 3).bind (fun f_55 => (if ¬ f_55 = (16 : Int32) then (j_46_126 g a0 f_8 h_51) else ((gR h_51 a0 4 0).bind (fun f_58 => (if isO h_51 f_58 8 = true then ((d_84 g f_58 h_51).bind (fun z_63 => (if isO z_63 a0 4 = true then ((d_47 g a0 (0 : Int32) (0 : Int32) z_63).bind (fun z_70 => (j_46_126 g a0 f_8 z_70))) else none))) else none)))))))))))))))))))) else none))))))))))))) else none))))))))) else ((gR h0 a0 4 0).bind (fun f_74 => (if isO h0 f_74 8 = true then ((d_83 g f_74 (4 : Int32) h0).bind (fun z_79 => some z_79)) else none)))))))) else ((gR h0 a0 4 0).bind (fun f_83 => (if isO h0 f_83 8 = true then ((d_83 g f_83 (0 : Int32) h0).bind (fun z_88 => some z_88)) else none))))))))
set_option maxHeartbeats 4000000 in
set_option maxRecDepth 100000 in
theorem d_46_ok {X : aX} {g : Nat} {a0 : Nat} {h0 : aH} {zz : aH} {d : Nat} (hdp : 78 ≤ d) (hd : d_46 g a0 h0 = some zz) : aWp X d 46 0 (aEntL [.ref a0] 2) [] h0 (fun w h' => w = none ∧ h' = zz) := by
  unfold d_46 at hd
  refine wp_lv (l2 := [some (.ref a0), none]) rfl ?_
  obtain ⟨e, rfl⟩ : ∃ e, d = e + 1 := ⟨d - 1, by omega⟩
  refine wp_s 1 [some (.ref a0), none] [.ref a0] h0 i_46_0 rfl ?_
  obtain ⟨f_1, q_2, hd⟩ := dk_bind hd
  refine hp_gR 4 rfl i_46_1 q_2 ?_
  obtain ⟨f_3, q_4, hd⟩ := dk_bind hd
  refine hp_gI 7 rfl i_46_4 q_4 ?_
  refine wp_s 9 [some (.ref a0), none] [.int (15 : Int32), .int f_3] h0 i_46_7 rfl ?_
  refine wp_cmp_eq 21 12 rfl rfl i_46_9 (fun c_5 => ?_) (fun c_5 => ?_)
  · rw [if_pos c_5] at hd
    refine wp_s 22 [some (.ref a0), none] [.ref a0] h0 i_46_21 rfl ?_
    obtain ⟨f_6, q_7, hd⟩ := dk_bind hd
    refine hp_gR 25 rfl i_46_22 q_7 ?_
    obtain ⟨f_8, q_9, hd⟩ := dk_bind hd
    refine hp_gI 28 rfl i_46_25 q_9 ?_
    refine wp_s 29 [some (.ref a0), some (.int f_8)] [] h0 i_46_28 rfl ?_
    refine wp_s 30 [some (.ref a0), some (.int f_8)] [.int f_8] h0 i_46_29 rfl ?_
    refine wp_s 32 [some (.ref a0), some (.int f_8)] [.int (12 : Int32), .int f_8] h0 i_46_30 rfl ?_
    refine wp_cmp_lt 44 35 rfl rfl i_46_32 (fun c_10 => ?_) (fun c_10 => ?_)
    · rw [if_pos c_10] at hd
      refine wp_s 45 [some (.ref a0), some (.int f_8)] [.ref a0] h0 i_46_44 rfl ?_
      obtain ⟨f_11, q_12, hd⟩ := dk_bind hd
      refine hp_gR 48 rfl i_46_45 q_12 ?_
      refine wp_s 49 [some (.ref a0), some (.int f_8)] [.ref f_11, .ref f_11] h0 i_46_48 rfl ?_
      obtain ⟨f_13, q_14, hd⟩ := dk_bind hd
      refine hp_gI 52 rfl i_46_49 q_14 ?_
      refine wp_s 53 [some (.ref a0), some (.int f_8)] [.int (1 : Int32), .int f_13, .ref f_11] h0 i_46_52 rfl ?_
      refine wp_s 54 [some (.ref a0), some (.int f_8)] [.int (f_13 + (1 : Int32)), .ref f_11] h0 i_46_53 rfl ?_
      obtain ⟨h_15, q_16, hd⟩ := dk_bind hd
      refine hp_sF 57 rfl i_46_54 q_16 ?_
      refine wp_s 58 [some (.ref a0), some (.int f_8)] [.ref a0] h_15 i_46_57 rfl ?_
      obtain ⟨f_17, q_18, hd⟩ := dk_bind hd
      refine hp_gR 61 rfl i_46_58 q_18 ?_
      obtain ⟨k_19, hd⟩ := dk_if hd
      obtain ⟨fs_20, o_21⟩ := isO_of k_19
      obtain ⟨z_22, q_23, hd⟩ := dk_bind hd
      refine wp_callV 64 rfl i_46_61 (by decide) rfl (vs := []) (rest := []) rfl rfl rfl o_21 (y := m_84) rfl (Nat.le_of_ble_eq_true rfl) (d_84_ok (d := e) (by omega) q_23) ?_
      rintro v_24 h_25 ⟨rfl, hz⟩
      have hz := hz.symm
      subst hz
      refine wp_s 65 [some (.ref a0), some (.int f_8)] [.ref a0] z_22 i_46_64 rfl ?_
      obtain ⟨f_26, q_27, hd⟩ := dk_bind hd
      refine hp_gR 68 rfl i_46_65 q_27 ?_
      obtain ⟨f_28, q_29, hd⟩ := dk_bind hd
      refine hp_gR 71 rfl i_46_68 q_29 ?_
      refine wp_s 72 [some (.ref a0), some (.int f_8)] [.int f_8, .ref f_28] z_22 i_46_71 rfl ?_
      refine wp_s 73 [some (.ref a0), some (.int f_8)] [.ref a0, .int f_8, .ref f_28] z_22 i_46_72 rfl ?_
      obtain ⟨f_30, q_31, hd⟩ := dk_bind hd
      refine hp_gR 76 rfl i_46_73 q_31 ?_
      obtain ⟨f_32, q_33, hd⟩ := dk_bind hd
      refine hp_gI 79 rfl i_46_76 q_33 ?_
      obtain ⟨h_34, q_35, hd⟩ := dk_bind hd
      refine hp_sA 80 rfl i_46_79 q_35 ?_
      refine wp_s 81 [some (.ref a0), some (.int f_8)] [.ref a0] h_34 i_46_80 rfl ?_
      refine wp_s 82 [some (.ref a0), some (.int f_8)] [.int (0 : Int32), .ref a0] h_34 i_46_81 rfl ?_
      obtain ⟨k_36, hd⟩ := dk_if hd
      obtain ⟨fs_37, o_38⟩ := isO_of k_36
      obtain ⟨z_39, q_40, hd⟩ := dk_bind hd
      refine wp_callV 85 rfl i_46_82 (by decide) rfl (vs := [.int (0 : Int32)]) (rest := []) rfl rfl rfl o_38 (y := m_50) rfl (Nat.le_of_ble_eq_true rfl) (d_50_ok (d := e) (by omega) q_40) ?_
      rintro v_41 h_42 ⟨rfl, hz⟩
      have hz := hz.symm
      subst hz
      refine wp_s 86 [some (.ref a0), some (.int f_8)] [.ref a0] z_39 i_46_85 rfl ?_
      obtain ⟨f_43, q_44, hd⟩ := dk_bind hd
      refine hp_gR 89 rfl i_46_86 q_44 ?_
      obtain ⟨f_45, q_46, hd⟩ := dk_bind hd
      refine hp_gR 92 rfl i_46_89 q_46 ?_
      refine wp_s 93 [some (.ref a0), some (.int f_8)] [.int f_8, .ref f_45] z_39 i_46_92 rfl ?_
      refine wp_s 94 [some (.ref a0), some (.int f_8)] [.ref a0, .int f_8, .ref f_45] z_39 i_46_93 rfl ?_
      obtain ⟨f_47, q_48, hd⟩ := dk_bind hd
      refine hp_gR 97 rfl i_46_94 q_48 ?_
      obtain ⟨f_49, q_50, hd⟩ := dk_bind hd
      refine hp_gI 100 rfl i_46_97 q_50 ?_
      obtain ⟨h_51, q_52, hd⟩ := dk_bind hd
      refine hp_sA 101 rfl i_46_100 q_52 ?_
      refine wp_s 102 [some (.ref a0), some (.int f_8)] [.ref a0] h_51 i_46_101 rfl ?_
      obtain ⟨f_53, q_54, hd⟩ := dk_bind hd
      refine hp_gR 105 rfl i_46_102 q_54 ?_
      obtain ⟨f_55, q_56, hd⟩ := dk_bind hd
      refine hp_gI 108 rfl i_46_105 q_56 ?_
      refine wp_s 110 [some (.ref a0), some (.int f_8)] [.int (16 : Int32), .int f_55] h_51 i_46_108 rfl ?_
      refine wp_cmp_ne 126 113 rfl rfl i_46_110 (fun c_57 => ?_) (fun c_57 => ?_)
      · rw [if_pos c_57] at hd
        exact aWp.forget (j_46_126_ok hdp hd) (lvS (lvS lvE))
      · rw [if_neg c_57] at hd
        refine wp_s 114 [some (.ref a0), some (.int f_8)] [.ref a0] h_51 i_46_113 rfl ?_
        obtain ⟨f_58, q_59, hd⟩ := dk_bind hd
        refine hp_gR 117 rfl i_46_114 q_59 ?_
        obtain ⟨k_60, hd⟩ := dk_if hd
        obtain ⟨fs_61, o_62⟩ := isO_of k_60
        obtain ⟨z_63, q_64, hd⟩ := dk_bind hd
        refine wp_callV 120 rfl i_46_117 (by decide) rfl (vs := []) (rest := []) rfl rfl rfl o_62 (y := m_84) rfl (Nat.le_of_ble_eq_true rfl) (d_84_ok (d := e) (by omega) q_64) ?_
        rintro v_65 h_66 ⟨rfl, hz⟩
        have hz := hz.symm
        subst hz
        refine wp_s 121 [some (.ref a0), some (.int f_8)] [.ref a0] z_63 i_46_120 rfl ?_
        refine wp_s 122 [some (.ref a0), some (.int f_8)] [.int (0 : Int32), .ref a0] z_63 i_46_121 rfl ?_
        refine wp_s 123 [some (.ref a0), some (.int f_8)] [.int (0 : Int32), .int (0 : Int32), .ref a0] z_63 i_46_122 rfl ?_
        obtain ⟨k_67, hd⟩ := dk_if hd
        obtain ⟨fs_68, o_69⟩ := isO_of k_67
        obtain ⟨z_70, q_71, hd⟩ := dk_bind hd
        refine wp_callV 126 rfl i_46_123 (by decide) rfl (vs := [.int (0 : Int32), .int (0 : Int32)]) (rest := []) rfl rfl rfl o_69 (y := m_47) rfl (Nat.le_of_ble_eq_true rfl) (d_47_ok (d := e) (by omega) q_71) ?_
        rintro v_72 h_73 ⟨rfl, hz⟩
        have hz := hz.symm
        subst hz
        exact aWp.forget (j_46_126_ok hdp hd) (lvS (lvS lvE))
    · rw [if_neg c_10] at hd
      refine wp_s 36 [some (.ref a0), some (.int f_8)] [.ref a0] h0 i_46_35 rfl ?_
      obtain ⟨f_74, q_75, hd⟩ := dk_bind hd
      refine hp_gR 39 rfl i_46_36 q_75 ?_
      refine wp_s 40 [some (.ref a0), some (.int f_8)] [.int (4 : Int32), .ref f_74] h0 i_46_39 rfl ?_
      obtain ⟨k_76, hd⟩ := dk_if hd
      obtain ⟨fs_77, o_78⟩ := isO_of k_76
      obtain ⟨z_79, q_80, hd⟩ := dk_bind hd
      refine wp_callV 43 rfl i_46_40 (by decide) rfl (vs := [.int (4 : Int32)]) (rest := []) rfl rfl rfl o_78 (y := m_83) rfl (Nat.le_of_ble_eq_true rfl) (d_83_ok (d := e) (by omega) q_80) ?_
      rintro v_81 h_82 ⟨rfl, hz⟩
      have hz := hz.symm
      subst hz
      obtain rfl := Option.some.inj hd
      exact wp_ret i_46_43 rfl ⟨rfl, rfl⟩
  · rw [if_neg c_5] at hd
    refine wp_s 13 [some (.ref a0), none] [.ref a0] h0 i_46_12 rfl ?_
    obtain ⟨f_83, q_84, hd⟩ := dk_bind hd
    refine hp_gR 16 rfl i_46_13 q_84 ?_
    refine wp_s 17 [some (.ref a0), none] [.int (0 : Int32), .ref f_83] h0 i_46_16 rfl ?_
    obtain ⟨k_85, hd⟩ := dk_if hd
    obtain ⟨fs_86, o_87⟩ := isO_of k_85
    obtain ⟨z_88, q_89, hd⟩ := dk_bind hd
    refine wp_callV 20 rfl i_46_17 (by decide) rfl (vs := [.int (0 : Int32)]) (rest := []) rfl rfl rfl o_87 (y := m_83) rfl (Nat.le_of_ble_eq_true rfl) (d_83_ok (d := e) (by omega) q_89) ?_
    rintro v_90 h_91 ⟨rfl, hz⟩
    have hz := hz.symm
    subst hz
    obtain rfl := Option.some.inj hd
    exact wp_ret i_46_20 rfl ⟨rfl, rfl⟩
def d_82 (g : Nat) (a0 : Nat) (h0 : aH) : Option (aH) := ((sF h0 a0 8 2 (.int (0 : Int32))).bind (fun h_1 => ((sF h_1 a0 8 6 (.int (0 : Int32))).bind (fun h_3 => (if isO h_3 a0 8 = true then ((d_84 g a0 h_3).bind (fun z_8 => some z_8)) else none)))))
set_option maxHeartbeats 4000000 in
set_option maxRecDepth 100000 in
theorem d_82_ok {X : aX} {g : Nat} {a0 : Nat} {h0 : aH} {zz : aH} {d : Nat} (hdp : 2 ≤ d) (hd : d_82 g a0 h0 = some zz) : aWp X d 82 0 (aEntL [.ref a0] 1) [] h0 (fun w h' => w = none ∧ h' = zz) := by
  unfold d_82 at hd
  refine wp_lv (l2 := [some (.ref a0)]) rfl ?_
  obtain ⟨e, rfl⟩ : ∃ e, d = e + 1 := ⟨d - 1, by omega⟩
  refine wp_s 1 [some (.ref a0)] [.ref a0] h0 i_82_0 rfl ?_
  refine wp_s 2 [some (.ref a0)] [.int (0 : Int32), .ref a0] h0 i_82_1 rfl ?_
  obtain ⟨h_1, q_2, hd⟩ := dk_bind hd
  refine hp_sF 5 rfl i_82_2 q_2 ?_
  refine wp_s 6 [some (.ref a0)] [.ref a0] h_1 i_82_5 rfl ?_
  refine wp_s 7 [some (.ref a0)] [.int (0 : Int32), .ref a0] h_1 i_82_6 rfl ?_
  obtain ⟨h_3, q_4, hd⟩ := dk_bind hd
  refine hp_sF 10 rfl i_82_7 q_4 ?_
  refine wp_s 11 [some (.ref a0)] [.ref a0] h_3 i_82_10 rfl ?_
  obtain ⟨k_5, hd⟩ := dk_if hd
  obtain ⟨fs_6, o_7⟩ := isO_of k_5
  obtain ⟨z_8, q_9, hd⟩ := dk_bind hd
  refine wp_callV 14 rfl i_82_11 (by decide) rfl (vs := []) (rest := []) rfl rfl rfl o_7 (y := m_84) rfl (Nat.le_of_ble_eq_true rfl) (d_84_ok (d := e) (by omega) q_9) ?_
  rintro v_10 h_11 ⟨rfl, hz⟩
  have hz := hz.symm
  subst hz
  obtain rfl := Option.some.inj hd
  exact wp_ret i_82_14 rfl ⟨rfl, rfl⟩
def l_45 (g n tag : Nat) (a0 : Nat) (a1 : Nat) (x2 : Int32) (h0 : aH) : Option (Int32 × aH) := match n with
  | 0 => none
  | n + 1 => if tag = 0 then (if (400 : Int32) ≤ x2 then (l_45 g n 1 a0 a1 x2 h0) else ((gR h0 a0 4 0).bind (fun f_2 => ((gI h0 f_2 8 3).bind (fun f_4 => (if ¬ f_4 = (23 : Int32) then (l_45 g n 1 a0 a1 x2 h0) else ((gR h0 a0 4 0).bind (fun f_7 => (if isO h0 f_7 8 = true then ((d_84 g f_7 h0).bind (fun z_12 => (if isO z_12 a0 4 = true then ((d_46 g a0 z_12).bind (fun z_19 => (l_45 g n 0 a0 a1 (x2 + (1 : Int32)) z_19))) else none))) else none))))))))) else if tag = 1 then ((gR h0 a0 4 0).bind (fun f_23 => ((gI h0 f_23 8 3).bind (fun f_25 => (if f_25 = (21 : Int32) then ((gR h0 a0 4 0).bind (fun f_28 => ((gI h0 f_28 8 6).bind (fun f_30 => some (f_30, h0))))) else ((gR h0 a0 4 0).bind (fun f_32 => (if isO h0 f_32 8 = true then ((d_83 g f_32 (0 : Int32) h0).bind (fun z_37 => ((gR z_37 a0 4 0).bind (fun f_41 => ((gI z_37 f_41 8 6).bind (fun f_43 => some (f_43, z_37))))))) else none)))))))) else none
set_option maxHeartbeats 4000000 in
set_option maxRecDepth 100000 in
theorem l_45_ok {X : aX} {g : Nat} {d : Nat} (hdp : 79 ≤ d) : ∀ n, (∀ (a0 : Nat) (a1 : Nat) (x2 : Int32) (h0 : aH) (zz : Int32 × aH), l_45 g n 0 a0 a1 x2 h0 = some zz → aWp X d 45 39 [some (.ref a0), some (.ref a1), some (.int x2)] [] h0 (fun w h' => w = some (.int zz.1) ∧ h' = zz.2)) ∧ (∀ (a0 : Nat) (a1 : Nat) (x2 : Int32) (h0 : aH) (zz : Int32 × aH), l_45 g n 1 a0 a1 x2 h0 = some zz → aWp X d 45 75 [some (.ref a0), some (.ref a1), some (.int x2)] [] h0 (fun w h' => w = some (.int zz.1) ∧ h' = zz.2)) := by
  intro n
  induction n with
  | zero => exact ⟨fun _ _ _ _ _ hd => by simp [l_45] at hd, fun _ _ _ _ _ hd => by simp [l_45] at hd⟩
  | succ n ih =>
    refine ⟨?_, ?_⟩
    · intro a0 a1 x2 h0 zz hd
      unfold l_45 at hd
      rw [if_pos rfl] at hd
      obtain ⟨e, rfl⟩ : ∃ e, d = e + 1 := ⟨d - 1, by omega⟩
      refine wp_s 40 [some (.ref a0), some (.ref a1), some (.int x2)] [.int x2] h0 i_45_39 rfl ?_
      refine wp_s 43 [some (.ref a0), some (.ref a1), some (.int x2)] [.int (400 : Int32), .int x2] h0 i_45_40 rfl ?_
      refine wp_cmp_ge 75 46 rfl rfl i_45_43 (fun c_1 => ?_) (fun c_1 => ?_)
      · rw [if_pos c_1] at hd
        exact aWp.forget (ih.2 _ _ _ _ _ hd) (lvS (lvS (lvS lvE)))
      · rw [if_neg c_1] at hd
        refine wp_s 47 [some (.ref a0), some (.ref a1), some (.int x2)] [.ref a0] h0 i_45_46 rfl ?_
        obtain ⟨f_2, q_3, hd⟩ := dk_bind hd
        refine hp_gR 50 rfl i_45_47 q_3 ?_
        obtain ⟨f_4, q_5, hd⟩ := dk_bind hd
        refine hp_gI 53 rfl i_45_50 q_5 ?_
        refine wp_s 55 [some (.ref a0), some (.ref a1), some (.int x2)] [.int (23 : Int32), .int f_4] h0 i_45_53 rfl ?_
        refine wp_cmp_ne 75 58 rfl rfl i_45_55 (fun c_6 => ?_) (fun c_6 => ?_)
        · rw [if_pos c_6] at hd
          exact aWp.forget (ih.2 _ _ _ _ _ hd) (lvS (lvS (lvS lvE)))
        · rw [if_neg c_6] at hd
          refine wp_s 59 [some (.ref a0), some (.ref a1), some (.int x2)] [.ref a0] h0 i_45_58 rfl ?_
          obtain ⟨f_7, q_8, hd⟩ := dk_bind hd
          refine hp_gR 62 rfl i_45_59 q_8 ?_
          obtain ⟨k_9, hd⟩ := dk_if hd
          obtain ⟨fs_10, o_11⟩ := isO_of k_9
          obtain ⟨z_12, q_13, hd⟩ := dk_bind hd
          refine wp_callV 65 rfl i_45_62 (by decide) rfl (vs := []) (rest := []) rfl rfl rfl o_11 (y := m_84) rfl (Nat.le_of_ble_eq_true rfl) (d_84_ok (d := e) (by omega) q_13) ?_
          rintro v_14 h_15 ⟨rfl, hz⟩
          have hz := hz.symm
          subst hz
          refine wp_s 66 [some (.ref a0), some (.ref a1), some (.int x2)] [.ref a0] z_12 i_45_65 rfl ?_
          obtain ⟨k_16, hd⟩ := dk_if hd
          obtain ⟨fs_17, o_18⟩ := isO_of k_16
          obtain ⟨z_19, q_20, hd⟩ := dk_bind hd
          refine wp_callV 69 rfl i_45_66 (by decide) rfl (vs := []) (rest := []) rfl rfl rfl o_18 (y := m_46) rfl (Nat.le_of_ble_eq_true rfl) (d_46_ok (d := e) (by omega) q_20) ?_
          rintro v_21 h_22 ⟨rfl, hz⟩
          have hz := hz.symm
          subst hz
          refine wp_s 72 [some (.ref a0), some (.ref a1), some (.int (x2 + (1 : Int32)))] [] z_19 i_45_69 rfl ?_
          refine wp_s 39 [some (.ref a0), some (.ref a1), some (.int (x2 + (1 : Int32)))] [] z_19 i_45_72 rfl ?_
          exact aWp.forget (ih.1 _ _ _ _ _ hd) (lvS (lvS (lvS lvE)))
    · intro a0 a1 x2 h0 zz hd
      unfold l_45 at hd
      rw [if_neg (by decide), if_pos rfl] at hd
      obtain ⟨e, rfl⟩ : ∃ e, d = e + 1 := ⟨d - 1, by omega⟩
      refine wp_s 76 [some (.ref a0), some (.ref a1), some (.int x2)] [.ref a0] h0 i_45_75 rfl ?_
      obtain ⟨f_23, q_24, hd⟩ := dk_bind hd
      refine hp_gR 79 rfl i_45_76 q_24 ?_
      obtain ⟨f_25, q_26, hd⟩ := dk_bind hd
      refine hp_gI 82 rfl i_45_79 q_26 ?_
      refine wp_s 84 [some (.ref a0), some (.ref a1), some (.int x2)] [.int (21 : Int32), .int f_25] h0 i_45_82 rfl ?_
      refine wp_cmp_eq 95 87 rfl rfl i_45_84 (fun c_27 => ?_) (fun c_27 => ?_)
      · rw [if_pos c_27] at hd
        refine wp_s 96 [some (.ref a0), some (.ref a1), some (.int x2)] [.ref a0] h0 i_45_95 rfl ?_
        obtain ⟨f_28, q_29, hd⟩ := dk_bind hd
        refine hp_gR 99 rfl i_45_96 q_29 ?_
        obtain ⟨f_30, q_31, hd⟩ := dk_bind hd
        refine hp_gI 102 rfl i_45_99 q_31 ?_
        obtain rfl := Option.some.inj hd
        exact wp_iret i_45_102 ⟨rfl, rfl⟩
      · rw [if_neg c_27] at hd
        refine wp_s 88 [some (.ref a0), some (.ref a1), some (.int x2)] [.ref a0] h0 i_45_87 rfl ?_
        obtain ⟨f_32, q_33, hd⟩ := dk_bind hd
        refine hp_gR 91 rfl i_45_88 q_33 ?_
        refine wp_s 92 [some (.ref a0), some (.ref a1), some (.int x2)] [.int (0 : Int32), .ref f_32] h0 i_45_91 rfl ?_
        obtain ⟨k_34, hd⟩ := dk_if hd
        obtain ⟨fs_35, o_36⟩ := isO_of k_34
        obtain ⟨z_37, q_38, hd⟩ := dk_bind hd
        refine wp_callV 95 rfl i_45_92 (by decide) rfl (vs := [.int (0 : Int32)]) (rest := []) rfl rfl rfl o_36 (y := m_83) rfl (Nat.le_of_ble_eq_true rfl) (d_83_ok (d := e) (by omega) q_38) ?_
        rintro v_39 h_40 ⟨rfl, hz⟩
        have hz := hz.symm
        subst hz
        refine wp_s 96 [some (.ref a0), some (.ref a1), some (.int x2)] [.ref a0] z_37 i_45_95 rfl ?_
        obtain ⟨f_41, q_42, hd⟩ := dk_bind hd
        refine hp_gR 99 rfl i_45_96 q_42 ?_
        obtain ⟨f_43, q_44, hd⟩ := dk_bind hd
        refine hp_gI 102 rfl i_45_99 q_44 ?_
        obtain rfl := Option.some.inj hd
        exact wp_iret i_45_102 ⟨rfl, rfl⟩
def d_45 (g : Nat) (a0 : Nat) (a1 : Nat) (h0 : aH) : Option (Int32 × aH) := ((sF h0 a0 4 1 (.ref a1)).bind (fun h_1001 => ((gR h_1001 a0 4 1).bind (fun f_1003 => ((sF h_1001 f_1003 3 5 (.int (0 : Int32))).bind (fun h_1005 => ((gR h_1005 a0 4 1).bind (fun f_1007 => ((sF h_1005 f_1007 3 6 (.int (0 : Int32))).bind (fun h_1009 => ((sF h_1009 a0 4 2 (.int (0 : Int32))).bind (fun h_1011 => ((gR h_1011 a0 4 0).bind (fun f_1013 => (if isO h_1011 f_1013 8 = true then ((d_82 g f_1013 h_1011).bind (fun z_1018 => (if isO z_1018 a0 4 = true then ((d_46 g a0 z_1018).bind (fun z_1025 => (l_45 g g 0 a0 a1 (0 : Int32) z_1025))) else none))) else none)))))))))))))))
set_option maxHeartbeats 4000000 in
set_option maxRecDepth 100000 in
theorem d_45_ok {X : aX} {g : Nat} {a0 : Nat} {a1 : Nat} {h0 : aH} {zz : Int32 × aH} {d : Nat} (hdp : 79 ≤ d) (hd : d_45 g a0 a1 h0 = some zz) : aWp X d 45 0 (aEntL [.ref a0, .ref a1] 3) [] h0 (fun w h' => w = some (.int zz.1) ∧ h' = zz.2) := by
  unfold d_45 at hd
  refine wp_lv (l2 := [some (.ref a0), some (.ref a1), none]) rfl ?_
  obtain ⟨e, rfl⟩ : ∃ e, d = e + 1 := ⟨d - 1, by omega⟩
  refine wp_s 1 [some (.ref a0), some (.ref a1), none] [.ref a0] h0 i_45_0 rfl ?_
  refine wp_s 2 [some (.ref a0), some (.ref a1), none] [.ref a1, .ref a0] h0 i_45_1 rfl ?_
  obtain ⟨h_1001, q_1002, hd⟩ := dk_bind hd
  refine hp_sF 5 rfl i_45_2 q_1002 ?_
  refine wp_s 6 [some (.ref a0), some (.ref a1), none] [.ref a0] h_1001 i_45_5 rfl ?_
  obtain ⟨f_1003, q_1004, hd⟩ := dk_bind hd
  refine hp_gR 9 rfl i_45_6 q_1004 ?_
  refine wp_s 10 [some (.ref a0), some (.ref a1), none] [.int (0 : Int32), .ref f_1003] h_1001 i_45_9 rfl ?_
  obtain ⟨h_1005, q_1006, hd⟩ := dk_bind hd
  refine hp_sF 13 rfl i_45_10 q_1006 ?_
  refine wp_s 14 [some (.ref a0), some (.ref a1), none] [.ref a0] h_1005 i_45_13 rfl ?_
  obtain ⟨f_1007, q_1008, hd⟩ := dk_bind hd
  refine hp_gR 17 rfl i_45_14 q_1008 ?_
  refine wp_s 18 [some (.ref a0), some (.ref a1), none] [.int (0 : Int32), .ref f_1007] h_1005 i_45_17 rfl ?_
  obtain ⟨h_1009, q_1010, hd⟩ := dk_bind hd
  refine hp_sF 21 rfl i_45_18 q_1010 ?_
  refine wp_s 22 [some (.ref a0), some (.ref a1), none] [.ref a0] h_1009 i_45_21 rfl ?_
  refine wp_s 23 [some (.ref a0), some (.ref a1), none] [.int (0 : Int32), .ref a0] h_1009 i_45_22 rfl ?_
  obtain ⟨h_1011, q_1012, hd⟩ := dk_bind hd
  refine hp_sF 26 rfl i_45_23 q_1012 ?_
  refine wp_s 27 [some (.ref a0), some (.ref a1), none] [.ref a0] h_1011 i_45_26 rfl ?_
  obtain ⟨f_1013, q_1014, hd⟩ := dk_bind hd
  refine hp_gR 30 rfl i_45_27 q_1014 ?_
  obtain ⟨k_1015, hd⟩ := dk_if hd
  obtain ⟨fs_1016, o_1017⟩ := isO_of k_1015
  obtain ⟨z_1018, q_1019, hd⟩ := dk_bind hd
  refine wp_callV 33 rfl i_45_30 (by decide) rfl (vs := []) (rest := []) rfl rfl rfl o_1017 (y := m_82) rfl (Nat.le_of_ble_eq_true rfl) (d_82_ok (d := e) (by omega) q_1019) ?_
  rintro v_1020 h_1021 ⟨rfl, hz⟩
  have hz := hz.symm
  subst hz
  refine wp_s 34 [some (.ref a0), some (.ref a1), none] [.ref a0] z_1018 i_45_33 rfl ?_
  obtain ⟨k_1022, hd⟩ := dk_if hd
  obtain ⟨fs_1023, o_1024⟩ := isO_of k_1022
  obtain ⟨z_1025, q_1026, hd⟩ := dk_bind hd
  refine wp_callV 37 rfl i_45_34 (by decide) rfl (vs := []) (rest := []) rfl rfl rfl o_1024 (y := m_46) rfl (Nat.le_of_ble_eq_true rfl) (d_46_ok (d := e) (by omega) q_1026) ?_
  rintro v_1027 h_1028 ⟨rfl, hz⟩
  have hz := hz.symm
  subst hz
  refine wp_s 38 [some (.ref a0), some (.ref a1), none] [.int (0 : Int32)] z_1025 i_45_37 rfl ?_
  refine wp_s 39 [some (.ref a0), some (.ref a1), some (.int (0 : Int32))] [] z_1025 i_45_38 rfl ?_
  exact aWp.forget ((l_45_ok hdp g).1 _ _ _ _ _ hd) (lvS (lvS (lvS lvE)))
def d_54 (g : Nat) (a0 : Nat) (h0 : aH) : Option (aH) := ((sF (nA h0 0 8) a0 5 5 (.ref (h0).length)).bind (fun h_1 => ((sF (nA h_1 0 8) a0 5 6 (.ref (h_1).length)).bind (fun h_3 => ((sF (nA h_3 0 8) a0 5 7 (.ref (h_3).length)).bind (fun h_5 => ((sF (nA h_5 0 6) a0 5 9 (.ref (h_5).length)).bind (fun h_7 => ((sF (nA h_7 0 6) a0 5 10 (.ref (h_7).length)).bind (fun h_9 => ((sF (nA h_9 0 4) a0 5 12 (.ref (h_9).length)).bind (fun h_11 => ((sF (nA h_11 0 4) a0 5 13 (.ref (h_11).length)).bind (fun h_13 => ((sF (nA h_13 0 4) a0 5 14 (.ref (h_13).length)).bind (fun h_15 => ((sF (nA h_15 0 5) a0 5 16 (.ref (h_15).length)).bind (fun h_17 => ((sF (nA h_17 0 5) a0 5 17 (.ref (h_17).length)).bind (fun h_19 => ((sF (nA h_19 0 5) a0 5 18 (.ref (h_19).length)).bind (fun h_21 => ((sF (nA h_21 0 5) a0 5 19 (.ref (h_21).length)).bind (fun h_23 => some h_23))))))))))))))))))))))))
set_option maxHeartbeats 4000000 in
set_option maxRecDepth 100000 in
theorem d_54_ok {X : aX} {g : Nat} {a0 : Nat} {h0 : aH} {zz : aH} {d : Nat} (hdp : 0 ≤ d) (hd : d_54 g a0 h0 = some zz) : aWp X d 54 0 (aEntL [.ref a0] 1) [] h0 (fun w h' => w = none ∧ h' = zz) := by
  unfold d_54 at hd
  refine wp_lv (l2 := [some (.ref a0)]) rfl ?_
  refine wp_s 1 [some (.ref a0)] [.ref a0] h0 i_54_0 rfl ?_
  refine hp_obj 4 rfl i_54_1 rfl ?_
  refine wp_s 5 [some (.ref a0)] [.ref a0] h0 i_54_4 rfl ?_
  refine wp_s 7 [some (.ref a0)] [.int (8 : Int32), .ref a0] h0 i_54_5 rfl ?_
  refine hp_newa (N := 8) 9 rfl i_54_7 (by decide) (by decide) (by decide) ?_
  obtain ⟨h_1, q_2, hd⟩ := dk_bind hd
  refine hp_sF 12 rfl i_54_9 q_2 ?_
  refine wp_s 13 [some (.ref a0)] [.ref a0] h_1 i_54_12 rfl ?_
  refine wp_s 15 [some (.ref a0)] [.int (8 : Int32), .ref a0] h_1 i_54_13 rfl ?_
  refine hp_newa (N := 8) 17 rfl i_54_15 (by decide) (by decide) (by decide) ?_
  obtain ⟨h_3, q_4, hd⟩ := dk_bind hd
  refine hp_sF 20 rfl i_54_17 q_4 ?_
  refine wp_s 21 [some (.ref a0)] [.ref a0] h_3 i_54_20 rfl ?_
  refine wp_s 23 [some (.ref a0)] [.int (8 : Int32), .ref a0] h_3 i_54_21 rfl ?_
  refine hp_newa (N := 8) 25 rfl i_54_23 (by decide) (by decide) (by decide) ?_
  obtain ⟨h_5, q_6, hd⟩ := dk_bind hd
  refine hp_sF 28 rfl i_54_25 q_6 ?_
  refine wp_s 29 [some (.ref a0)] [.ref a0] h_5 i_54_28 rfl ?_
  refine wp_s 31 [some (.ref a0)] [.int (6 : Int32), .ref a0] h_5 i_54_29 rfl ?_
  refine hp_newa (N := 6) 33 rfl i_54_31 (by decide) (by decide) (by decide) ?_
  obtain ⟨h_7, q_8, hd⟩ := dk_bind hd
  refine hp_sF 36 rfl i_54_33 q_8 ?_
  refine wp_s 37 [some (.ref a0)] [.ref a0] h_7 i_54_36 rfl ?_
  refine wp_s 39 [some (.ref a0)] [.int (6 : Int32), .ref a0] h_7 i_54_37 rfl ?_
  refine hp_newa (N := 6) 41 rfl i_54_39 (by decide) (by decide) (by decide) ?_
  obtain ⟨h_9, q_10, hd⟩ := dk_bind hd
  refine hp_sF 44 rfl i_54_41 q_10 ?_
  refine wp_s 45 [some (.ref a0)] [.ref a0] h_9 i_54_44 rfl ?_
  refine wp_s 46 [some (.ref a0)] [.int (4 : Int32), .ref a0] h_9 i_54_45 rfl ?_
  refine hp_newa (N := 4) 48 rfl i_54_46 (by decide) (by decide) (by decide) ?_
  obtain ⟨h_11, q_12, hd⟩ := dk_bind hd
  refine hp_sF 51 rfl i_54_48 q_12 ?_
  refine wp_s 52 [some (.ref a0)] [.ref a0] h_11 i_54_51 rfl ?_
  refine wp_s 53 [some (.ref a0)] [.int (4 : Int32), .ref a0] h_11 i_54_52 rfl ?_
  refine hp_newa (N := 4) 55 rfl i_54_53 (by decide) (by decide) (by decide) ?_
  obtain ⟨h_13, q_14, hd⟩ := dk_bind hd
  refine hp_sF 58 rfl i_54_55 q_14 ?_
  refine wp_s 59 [some (.ref a0)] [.ref a0] h_13 i_54_58 rfl ?_
  refine wp_s 60 [some (.ref a0)] [.int (4 : Int32), .ref a0] h_13 i_54_59 rfl ?_
  refine hp_newa (N := 4) 62 rfl i_54_60 (by decide) (by decide) (by decide) ?_
  obtain ⟨h_15, q_16, hd⟩ := dk_bind hd
  refine hp_sF 65 rfl i_54_62 q_16 ?_
  refine wp_s 66 [some (.ref a0)] [.ref a0] h_15 i_54_65 rfl ?_
  refine wp_s 67 [some (.ref a0)] [.int (5 : Int32), .ref a0] h_15 i_54_66 rfl ?_
  refine hp_newa (N := 5) 69 rfl i_54_67 (by decide) (by decide) (by decide) ?_
  obtain ⟨h_17, q_18, hd⟩ := dk_bind hd
  refine hp_sF 72 rfl i_54_69 q_18 ?_
  refine wp_s 73 [some (.ref a0)] [.ref a0] h_17 i_54_72 rfl ?_
  refine wp_s 74 [some (.ref a0)] [.int (5 : Int32), .ref a0] h_17 i_54_73 rfl ?_
  refine hp_newa (N := 5) 76 rfl i_54_74 (by decide) (by decide) (by decide) ?_
  obtain ⟨h_19, q_20, hd⟩ := dk_bind hd
  refine hp_sF 79 rfl i_54_76 q_20 ?_
  refine wp_s 80 [some (.ref a0)] [.ref a0] h_19 i_54_79 rfl ?_
  refine wp_s 81 [some (.ref a0)] [.int (5 : Int32), .ref a0] h_19 i_54_80 rfl ?_
  refine hp_newa (N := 5) 83 rfl i_54_81 (by decide) (by decide) (by decide) ?_
  obtain ⟨h_21, q_22, hd⟩ := dk_bind hd
  refine hp_sF 86 rfl i_54_83 q_22 ?_
  refine wp_s 87 [some (.ref a0)] [.ref a0] h_21 i_54_86 rfl ?_
  refine wp_s 88 [some (.ref a0)] [.int (5 : Int32), .ref a0] h_21 i_54_87 rfl ?_
  refine hp_newa (N := 5) 90 rfl i_54_88 (by decide) (by decide) (by decide) ?_
  obtain ⟨h_23, q_24, hd⟩ := dk_bind hd
  refine hp_sF 93 rfl i_54_90 q_24 ?_
  obtain rfl := Option.some.inj hd
  exact wp_ret i_54_93 rfl ⟨rfl, rfl⟩
def d_55 (g : Nat) (a0 : Nat) (x1 : Int32) (h0 : aH) : Option (Int32 × aH) := (if x1 < 0 then some ((0 : Int32), h0) else ((gI h0 a0 5 4).bind (fun f_2 => (if f_2 ≤ x1 then some ((0 : Int32), h0) else some ((1 : Int32), h0)))))
set_option maxHeartbeats 4000000 in
set_option maxRecDepth 100000 in
theorem d_55_ok {X : aX} {g : Nat} {a0 : Nat} {x1 : Int32} {h0 : aH} {zz : Int32 × aH} {d : Nat} (hdp : 0 ≤ d) (hd : d_55 g a0 x1 h0 = some zz) : aWp X d 55 0 (aEntL [.ref a0, .int x1] 2) [] h0 (fun w h' => w = some (.int zz.1) ∧ h' = zz.2) := by
  unfold d_55 at hd
  refine wp_lv (l2 := [some (.ref a0), some (.int x1)]) rfl ?_
  refine wp_s 1 [some (.ref a0), some (.int x1)] [.int x1] h0 i_55_0 rfl ?_
  refine wp_if_lt 16 4 rfl rfl i_55_1 (fun c_1 => ?_) (fun c_1 => ?_)
  · rw [if_pos c_1] at hd
    refine wp_s 17 [some (.ref a0), some (.int x1)] [.int (0 : Int32)] h0 i_55_16 rfl ?_
    obtain rfl := Option.some.inj hd
    exact wp_iretZ (z := 0) i_55_17 (by decide) ⟨rfl, rfl⟩
  · rw [if_neg c_1] at hd
    refine wp_s 5 [some (.ref a0), some (.int x1)] [.int x1] h0 i_55_4 rfl ?_
    refine wp_s 6 [some (.ref a0), some (.int x1)] [.ref a0, .int x1] h0 i_55_5 rfl ?_
    obtain ⟨f_2, q_3, hd⟩ := dk_bind hd
    refine hp_gI 9 rfl i_55_6 q_3 ?_
    refine wp_cmp_ge 16 12 rfl rfl i_55_9 (fun c_4 => ?_) (fun c_4 => ?_)
    · rw [if_pos c_4] at hd
      refine wp_s 17 [some (.ref a0), some (.int x1)] [.int (0 : Int32)] h0 i_55_16 rfl ?_
      obtain rfl := Option.some.inj hd
      exact wp_iretZ (z := 0) i_55_17 (by decide) ⟨rfl, rfl⟩
    · rw [if_neg c_4] at hd
      refine wp_s 13 [some (.ref a0), some (.int x1)] [.int (1 : Int32)] h0 i_55_12 rfl ?_
      refine wp_s 17 [some (.ref a0), some (.int x1)] [.int (1 : Int32)] h0 i_55_13 rfl ?_
      obtain rfl := Option.some.inj hd
      exact wp_iretZ (z := 0) i_55_17 (by decide) ⟨rfl, rfl⟩
def d_56 (g : Nat) (a0 : Nat) (x1 : Int32) (h0 : aH) : Option (Int32 × aH) := (if x1 < 0 then some ((0 : Int32), h0) else ((gI h0 a0 5 15).bind (fun f_2 => (if f_2 ≤ x1 then some ((0 : Int32), h0) else some ((1 : Int32), h0)))))
set_option maxHeartbeats 4000000 in
set_option maxRecDepth 100000 in
theorem d_56_ok {X : aX} {g : Nat} {a0 : Nat} {x1 : Int32} {h0 : aH} {zz : Int32 × aH} {d : Nat} (hdp : 0 ≤ d) (hd : d_56 g a0 x1 h0 = some zz) : aWp X d 56 0 (aEntL [.ref a0, .int x1] 2) [] h0 (fun w h' => w = some (.int zz.1) ∧ h' = zz.2) := by
  unfold d_56 at hd
  refine wp_lv (l2 := [some (.ref a0), some (.int x1)]) rfl ?_
  refine wp_s 1 [some (.ref a0), some (.int x1)] [.int x1] h0 i_56_0 rfl ?_
  refine wp_if_lt 16 4 rfl rfl i_56_1 (fun c_1 => ?_) (fun c_1 => ?_)
  · rw [if_pos c_1] at hd
    refine wp_s 17 [some (.ref a0), some (.int x1)] [.int (0 : Int32)] h0 i_56_16 rfl ?_
    obtain rfl := Option.some.inj hd
    exact wp_iretZ (z := 0) i_56_17 (by decide) ⟨rfl, rfl⟩
  · rw [if_neg c_1] at hd
    refine wp_s 5 [some (.ref a0), some (.int x1)] [.int x1] h0 i_56_4 rfl ?_
    refine wp_s 6 [some (.ref a0), some (.int x1)] [.ref a0, .int x1] h0 i_56_5 rfl ?_
    obtain ⟨f_2, q_3, hd⟩ := dk_bind hd
    refine hp_gI 9 rfl i_56_6 q_3 ?_
    refine wp_cmp_ge 16 12 rfl rfl i_56_9 (fun c_4 => ?_) (fun c_4 => ?_)
    · rw [if_pos c_4] at hd
      refine wp_s 17 [some (.ref a0), some (.int x1)] [.int (0 : Int32)] h0 i_56_16 rfl ?_
      obtain rfl := Option.some.inj hd
      exact wp_iretZ (z := 0) i_56_17 (by decide) ⟨rfl, rfl⟩
    · rw [if_neg c_4] at hd
      refine wp_s 13 [some (.ref a0), some (.int x1)] [.int (1 : Int32)] h0 i_56_12 rfl ?_
      refine wp_s 17 [some (.ref a0), some (.int x1)] [.int (1 : Int32)] h0 i_56_13 rfl ?_
      obtain rfl := Option.some.inj hd
      exact wp_iretZ (z := 0) i_56_17 (by decide) ⟨rfl, rfl⟩
def d_59 (g : Nat) (a0 : Nat) (a1 : Nat) (h0 : aH) : Option (aH) := ((sF h0 a0 6 0 (.ref a1)).bind (fun h_1 => some h_1))
set_option maxHeartbeats 4000000 in
set_option maxRecDepth 100000 in
theorem d_59_ok {X : aX} {g : Nat} {a0 : Nat} {a1 : Nat} {h0 : aH} {zz : aH} {d : Nat} (hdp : 0 ≤ d) (hd : d_59 g a0 a1 h0 = some zz) : aWp X d 59 0 (aEntL [.ref a0, .ref a1] 2) [] h0 (fun w h' => w = none ∧ h' = zz) := by
  unfold d_59 at hd
  refine wp_lv (l2 := [some (.ref a0), some (.ref a1)]) rfl ?_
  refine wp_s 1 [some (.ref a0), some (.ref a1)] [.ref a0] h0 i_59_0 rfl ?_
  refine hp_obj 4 rfl i_59_1 rfl ?_
  refine wp_s 5 [some (.ref a0), some (.ref a1)] [.ref a0] h0 i_59_4 rfl ?_
  refine wp_s 6 [some (.ref a0), some (.ref a1)] [.ref a1, .ref a0] h0 i_59_5 rfl ?_
  obtain ⟨h_1, q_2, hd⟩ := dk_bind hd
  refine hp_sF 9 rfl i_59_6 q_2 ?_
  obtain rfl := Option.some.inj hd
  exact wp_ret i_59_9 rfl ⟨rfl, rfl⟩
def j_62_32 (g : Nat) (a0 : Nat) (x1 : Int32) (s0 : Int32) (s1 : Int32) (h0 : aH) : Option (Int32 × aH) := (if s1 = s0 then (if x1 = (0 : Int32) then ((gR h0 a0 6 1).bind (fun f_3 => ((gI h0 f_3 5 4).bind (fun f_5 => (if f_5 < (8 : Int32) then some ((0 : Int32), h0) else some ((1 : Int32), h0)))))) else (if x1 = (1 : Int32) then some ((0 : Int32), h0) else (if x1 = (2 : Int32) then ((gR h0 a0 6 1).bind (fun f_10 => ((gI h0 f_10 5 11).bind (fun f_12 => (if f_12 < (4 : Int32) then some ((0 : Int32), h0) else some ((1 : Int32), h0)))))) else (if x1 = (3 : Int32) then some ((0 : Int32), h0) else (if x1 = (4 : Int32) then some ((0 : Int32), h0) else (if x1 = (5 : Int32) then some ((0 : Int32), h0) else (if x1 = (6 : Int32) then some ((0 : Int32), h0) else (if x1 = (7 : Int32) then some ((0 : Int32), h0) else (if x1 = (8 : Int32) then some ((0 : Int32), h0) else (if x1 = (9 : Int32) then ((gR h0 a0 6 1).bind (fun f_22 => ((gI h0 f_22 5 8).bind (fun f_24 => (if f_24 < (6 : Int32) then some ((0 : Int32), h0) else some ((1 : Int32), h0)))))) else (if x1 = (10 : Int32) then ((gR h0 a0 6 1).bind (fun f_28 => ((gI h0 f_28 5 15).bind (fun f_30 => (if f_30 < (5 : Int32) then some ((0 : Int32), h0) else some ((1 : Int32), h0)))))) else (if x1 = (11 : Int32) then ((gR h0 a0 6 1).bind (fun f_34 => ((gI h0 f_34 5 15).bind (fun f_36 => (if f_36 < (5 : Int32) then some ((0 : Int32), h0) else some ((1 : Int32), h0)))))) else (if x1 = (12 : Int32) then ((gR h0 a0 6 1).bind (fun f_40 => ((gI h0 f_40 5 15).bind (fun f_42 => (if f_42 < (5 : Int32) then some ((0 : Int32), h0) else some ((1 : Int32), h0)))))) else (if x1 = (13 : Int32) then some ((0 : Int32), h0) else (if x1 = (14 : Int32) then ((gR h0 a0 6 1).bind (fun f_47 => ((gI h0 f_47 5 3).bind (fun f_49 => (if f_49 = 0 ∨ f_49 = 1 then some (f_49, h0) else none))))) else some ((0 : Int32), h0)))))))))))))))) else some ((1 : Int32), h0))
set_option maxHeartbeats 4000000 in
set_option maxRecDepth 100000 in
theorem j_62_32_ok {X : aX} {g : Nat} {a0 : Nat} {x1 : Int32} {s0 : Int32} {s1 : Int32} {h0 : aH} {zz : Int32 × aH} {d : Nat} (hdp : 0 ≤ d) (hd : j_62_32 g a0 x1 s0 s1 h0 = some zz) : aWp X d 62 32 [some (.ref a0), some (.int x1)] [.int s0, .int s1] h0 (fun w h' => w = some (.int zz.1) ∧ h' = zz.2) := by
  unfold j_62_32 at hd
  refine wp_cmp_eq 37 35 rfl rfl i_62_32 (fun c_1 => ?_) (fun c_1 => ?_)
  · rw [if_pos c_1] at hd
    refine wp_s 38 [some (.ref a0), some (.int x1)] [.int x1] h0 i_62_37 rfl ?_
    by_cases c_2 : x1 = (0 : Int32)
    · rw [if_pos c_2] at hd
      refine wp_tswC (j := 0) 112 i_62_38 (by rw [c_2]; decide) (by decide) rfl rfl ?_
      refine wp_s 113 [some (.ref a0), some (.int x1)] [.ref a0] h0 i_62_112 rfl ?_
      obtain ⟨f_3, q_4, hd⟩ := dk_bind hd
      refine hp_gR 116 rfl i_62_113 q_4 ?_
      obtain ⟨f_5, q_6, hd⟩ := dk_bind hd
      refine hp_gI 119 rfl i_62_116 q_6 ?_
      refine wp_s 121 [some (.ref a0), some (.int x1)] [.int (8 : Int32), .int f_5] h0 i_62_119 rfl ?_
      refine wp_cmp_lt 128 124 rfl rfl i_62_121 (fun c_7 => ?_) (fun c_7 => ?_)
      · rw [if_pos c_7] at hd
        refine wp_s 129 [some (.ref a0), some (.int x1)] [.int (0 : Int32)] h0 i_62_128 rfl ?_
        obtain rfl := Option.some.inj hd
        exact wp_iretZ (z := 0) i_62_129 (by decide) ⟨rfl, rfl⟩
      · rw [if_neg c_7] at hd
        refine wp_s 125 [some (.ref a0), some (.int x1)] [.int (1 : Int32)] h0 i_62_124 rfl ?_
        refine wp_s 129 [some (.ref a0), some (.int x1)] [.int (1 : Int32)] h0 i_62_125 rfl ?_
        obtain rfl := Option.some.inj hd
        exact wp_iretZ (z := 0) i_62_129 (by decide) ⟨rfl, rfl⟩
    rw [if_neg c_2] at hd
    by_cases c_8 : x1 = (1 : Int32)
    · rw [if_pos c_8] at hd
      refine wp_tswC (j := 1) 224 i_62_38 (by rw [c_8]; decide) (by decide) rfl rfl ?_
      refine wp_s 225 [some (.ref a0), some (.int x1)] [.int (0 : Int32)] h0 i_62_224 rfl ?_
      obtain rfl := Option.some.inj hd
      exact wp_iretZ (z := 0) i_62_225 (by decide) ⟨rfl, rfl⟩
    rw [if_neg c_8] at hd
    by_cases c_9 : x1 = (2 : Int32)
    · rw [if_pos c_9] at hd
      refine wp_tswC (j := 2) 148 i_62_38 (by rw [c_9]; decide) (by decide) rfl rfl ?_
      refine wp_s 149 [some (.ref a0), some (.int x1)] [.ref a0] h0 i_62_148 rfl ?_
      obtain ⟨f_10, q_11, hd⟩ := dk_bind hd
      refine hp_gR 152 rfl i_62_149 q_11 ?_
      obtain ⟨f_12, q_13, hd⟩ := dk_bind hd
      refine hp_gI 155 rfl i_62_152 q_13 ?_
      refine wp_s 156 [some (.ref a0), some (.int x1)] [.int (4 : Int32), .int f_12] h0 i_62_155 rfl ?_
      refine wp_cmp_lt 163 159 rfl rfl i_62_156 (fun c_14 => ?_) (fun c_14 => ?_)
      · rw [if_pos c_14] at hd
        refine wp_s 164 [some (.ref a0), some (.int x1)] [.int (0 : Int32)] h0 i_62_163 rfl ?_
        obtain rfl := Option.some.inj hd
        exact wp_iretZ (z := 0) i_62_164 (by decide) ⟨rfl, rfl⟩
      · rw [if_neg c_14] at hd
        refine wp_s 160 [some (.ref a0), some (.int x1)] [.int (1 : Int32)] h0 i_62_159 rfl ?_
        refine wp_s 164 [some (.ref a0), some (.int x1)] [.int (1 : Int32)] h0 i_62_160 rfl ?_
        obtain rfl := Option.some.inj hd
        exact wp_iretZ (z := 0) i_62_164 (by decide) ⟨rfl, rfl⟩
    rw [if_neg c_9] at hd
    by_cases c_15 : x1 = (3 : Int32)
    · rw [if_pos c_15] at hd
      refine wp_tswC (j := 3) 224 i_62_38 (by rw [c_15]; decide) (by decide) rfl rfl ?_
      refine wp_s 225 [some (.ref a0), some (.int x1)] [.int (0 : Int32)] h0 i_62_224 rfl ?_
      obtain rfl := Option.some.inj hd
      exact wp_iretZ (z := 0) i_62_225 (by decide) ⟨rfl, rfl⟩
    rw [if_neg c_15] at hd
    by_cases c_16 : x1 = (4 : Int32)
    · rw [if_pos c_16] at hd
      refine wp_tswC (j := 4) 224 i_62_38 (by rw [c_16]; decide) (by decide) rfl rfl ?_
      refine wp_s 225 [some (.ref a0), some (.int x1)] [.int (0 : Int32)] h0 i_62_224 rfl ?_
      obtain rfl := Option.some.inj hd
      exact wp_iretZ (z := 0) i_62_225 (by decide) ⟨rfl, rfl⟩
    rw [if_neg c_16] at hd
    by_cases c_17 : x1 = (5 : Int32)
    · rw [if_pos c_17] at hd
      refine wp_tswC (j := 5) 224 i_62_38 (by rw [c_17]; decide) (by decide) rfl rfl ?_
      refine wp_s 225 [some (.ref a0), some (.int x1)] [.int (0 : Int32)] h0 i_62_224 rfl ?_
      obtain rfl := Option.some.inj hd
      exact wp_iretZ (z := 0) i_62_225 (by decide) ⟨rfl, rfl⟩
    rw [if_neg c_17] at hd
    by_cases c_18 : x1 = (6 : Int32)
    · rw [if_pos c_18] at hd
      refine wp_tswC (j := 6) 224 i_62_38 (by rw [c_18]; decide) (by decide) rfl rfl ?_
      refine wp_s 225 [some (.ref a0), some (.int x1)] [.int (0 : Int32)] h0 i_62_224 rfl ?_
      obtain rfl := Option.some.inj hd
      exact wp_iretZ (z := 0) i_62_225 (by decide) ⟨rfl, rfl⟩
    rw [if_neg c_18] at hd
    by_cases c_19 : x1 = (7 : Int32)
    · rw [if_pos c_19] at hd
      refine wp_tswC (j := 7) 224 i_62_38 (by rw [c_19]; decide) (by decide) rfl rfl ?_
      refine wp_s 225 [some (.ref a0), some (.int x1)] [.int (0 : Int32)] h0 i_62_224 rfl ?_
      obtain rfl := Option.some.inj hd
      exact wp_iretZ (z := 0) i_62_225 (by decide) ⟨rfl, rfl⟩
    rw [if_neg c_19] at hd
    by_cases c_20 : x1 = (8 : Int32)
    · rw [if_pos c_20] at hd
      refine wp_tswC (j := 8) 224 i_62_38 (by rw [c_20]; decide) (by decide) rfl rfl ?_
      refine wp_s 225 [some (.ref a0), some (.int x1)] [.int (0 : Int32)] h0 i_62_224 rfl ?_
      obtain rfl := Option.some.inj hd
      exact wp_iretZ (z := 0) i_62_225 (by decide) ⟨rfl, rfl⟩
    rw [if_neg c_20] at hd
    by_cases c_21 : x1 = (9 : Int32)
    · rw [if_pos c_21] at hd
      refine wp_tswC (j := 9) 130 i_62_38 (by rw [c_21]; decide) (by decide) rfl rfl ?_
      refine wp_s 131 [some (.ref a0), some (.int x1)] [.ref a0] h0 i_62_130 rfl ?_
      obtain ⟨f_22, q_23, hd⟩ := dk_bind hd
      refine hp_gR 134 rfl i_62_131 q_23 ?_
      obtain ⟨f_24, q_25, hd⟩ := dk_bind hd
      refine hp_gI 137 rfl i_62_134 q_25 ?_
      refine wp_s 139 [some (.ref a0), some (.int x1)] [.int (6 : Int32), .int f_24] h0 i_62_137 rfl ?_
      refine wp_cmp_lt 146 142 rfl rfl i_62_139 (fun c_26 => ?_) (fun c_26 => ?_)
      · rw [if_pos c_26] at hd
        refine wp_s 147 [some (.ref a0), some (.int x1)] [.int (0 : Int32)] h0 i_62_146 rfl ?_
        obtain rfl := Option.some.inj hd
        exact wp_iretZ (z := 0) i_62_147 (by decide) ⟨rfl, rfl⟩
      · rw [if_neg c_26] at hd
        refine wp_s 143 [some (.ref a0), some (.int x1)] [.int (1 : Int32)] h0 i_62_142 rfl ?_
        refine wp_s 147 [some (.ref a0), some (.int x1)] [.int (1 : Int32)] h0 i_62_143 rfl ?_
        obtain rfl := Option.some.inj hd
        exact wp_iretZ (z := 0) i_62_147 (by decide) ⟨rfl, rfl⟩
    rw [if_neg c_21] at hd
    by_cases c_27 : x1 = (10 : Int32)
    · rw [if_pos c_27] at hd
      refine wp_tswC (j := 10) 165 i_62_38 (by rw [c_27]; decide) (by decide) rfl rfl ?_
      refine wp_s 166 [some (.ref a0), some (.int x1)] [.ref a0] h0 i_62_165 rfl ?_
      obtain ⟨f_28, q_29, hd⟩ := dk_bind hd
      refine hp_gR 169 rfl i_62_166 q_29 ?_
      obtain ⟨f_30, q_31, hd⟩ := dk_bind hd
      refine hp_gI 172 rfl i_62_169 q_31 ?_
      refine wp_s 173 [some (.ref a0), some (.int x1)] [.int (5 : Int32), .int f_30] h0 i_62_172 rfl ?_
      refine wp_cmp_lt 180 176 rfl rfl i_62_173 (fun c_32 => ?_) (fun c_32 => ?_)
      · rw [if_pos c_32] at hd
        refine wp_s 181 [some (.ref a0), some (.int x1)] [.int (0 : Int32)] h0 i_62_180 rfl ?_
        obtain rfl := Option.some.inj hd
        exact wp_iretZ (z := 0) i_62_181 (by decide) ⟨rfl, rfl⟩
      · rw [if_neg c_32] at hd
        refine wp_s 177 [some (.ref a0), some (.int x1)] [.int (1 : Int32)] h0 i_62_176 rfl ?_
        refine wp_s 181 [some (.ref a0), some (.int x1)] [.int (1 : Int32)] h0 i_62_177 rfl ?_
        obtain rfl := Option.some.inj hd
        exact wp_iretZ (z := 0) i_62_181 (by decide) ⟨rfl, rfl⟩
    rw [if_neg c_27] at hd
    by_cases c_33 : x1 = (11 : Int32)
    · rw [if_pos c_33] at hd
      refine wp_tswC (j := 11) 182 i_62_38 (by rw [c_33]; decide) (by decide) rfl rfl ?_
      refine wp_s 183 [some (.ref a0), some (.int x1)] [.ref a0] h0 i_62_182 rfl ?_
      obtain ⟨f_34, q_35, hd⟩ := dk_bind hd
      refine hp_gR 186 rfl i_62_183 q_35 ?_
      obtain ⟨f_36, q_37, hd⟩ := dk_bind hd
      refine hp_gI 189 rfl i_62_186 q_37 ?_
      refine wp_s 190 [some (.ref a0), some (.int x1)] [.int (5 : Int32), .int f_36] h0 i_62_189 rfl ?_
      refine wp_cmp_lt 197 193 rfl rfl i_62_190 (fun c_38 => ?_) (fun c_38 => ?_)
      · rw [if_pos c_38] at hd
        refine wp_s 198 [some (.ref a0), some (.int x1)] [.int (0 : Int32)] h0 i_62_197 rfl ?_
        obtain rfl := Option.some.inj hd
        exact wp_iretZ (z := 0) i_62_198 (by decide) ⟨rfl, rfl⟩
      · rw [if_neg c_38] at hd
        refine wp_s 194 [some (.ref a0), some (.int x1)] [.int (1 : Int32)] h0 i_62_193 rfl ?_
        refine wp_s 198 [some (.ref a0), some (.int x1)] [.int (1 : Int32)] h0 i_62_194 rfl ?_
        obtain rfl := Option.some.inj hd
        exact wp_iretZ (z := 0) i_62_198 (by decide) ⟨rfl, rfl⟩
    rw [if_neg c_33] at hd
    by_cases c_39 : x1 = (12 : Int32)
    · rw [if_pos c_39] at hd
      refine wp_tswC (j := 12) 199 i_62_38 (by rw [c_39]; decide) (by decide) rfl rfl ?_
      refine wp_s 200 [some (.ref a0), some (.int x1)] [.ref a0] h0 i_62_199 rfl ?_
      obtain ⟨f_40, q_41, hd⟩ := dk_bind hd
      refine hp_gR 203 rfl i_62_200 q_41 ?_
      obtain ⟨f_42, q_43, hd⟩ := dk_bind hd
      refine hp_gI 206 rfl i_62_203 q_43 ?_
      refine wp_s 207 [some (.ref a0), some (.int x1)] [.int (5 : Int32), .int f_42] h0 i_62_206 rfl ?_
      refine wp_cmp_lt 214 210 rfl rfl i_62_207 (fun c_44 => ?_) (fun c_44 => ?_)
      · rw [if_pos c_44] at hd
        refine wp_s 215 [some (.ref a0), some (.int x1)] [.int (0 : Int32)] h0 i_62_214 rfl ?_
        obtain rfl := Option.some.inj hd
        exact wp_iretZ (z := 0) i_62_215 (by decide) ⟨rfl, rfl⟩
      · rw [if_neg c_44] at hd
        refine wp_s 211 [some (.ref a0), some (.int x1)] [.int (1 : Int32)] h0 i_62_210 rfl ?_
        refine wp_s 215 [some (.ref a0), some (.int x1)] [.int (1 : Int32)] h0 i_62_211 rfl ?_
        obtain rfl := Option.some.inj hd
        exact wp_iretZ (z := 0) i_62_215 (by decide) ⟨rfl, rfl⟩
    rw [if_neg c_39] at hd
    by_cases c_45 : x1 = (13 : Int32)
    · rw [if_pos c_45] at hd
      refine wp_tswC (j := 13) 224 i_62_38 (by rw [c_45]; decide) (by decide) rfl rfl ?_
      refine wp_s 225 [some (.ref a0), some (.int x1)] [.int (0 : Int32)] h0 i_62_224 rfl ?_
      obtain rfl := Option.some.inj hd
      exact wp_iretZ (z := 0) i_62_225 (by decide) ⟨rfl, rfl⟩
    rw [if_neg c_45] at hd
    by_cases c_46 : x1 = (14 : Int32)
    · rw [if_pos c_46] at hd
      refine wp_tswC (j := 14) 216 i_62_38 (by rw [c_46]; decide) (by decide) rfl rfl ?_
      refine wp_s 217 [some (.ref a0), some (.int x1)] [.ref a0] h0 i_62_216 rfl ?_
      obtain ⟨f_47, q_48, hd⟩ := dk_bind hd
      refine hp_gR 220 rfl i_62_217 q_48 ?_
      obtain ⟨f_49, q_50, hd⟩ := dk_bind hd
      refine hp_gI 223 rfl i_62_220 q_50 ?_
      obtain ⟨k_51, hd⟩ := dk_if hd
      obtain rfl := Option.some.inj hd
      exact wp_iretZ (z := 0) i_62_223 k_51 ⟨rfl, rfl⟩
    rw [if_neg c_46] at hd
    have o_52 : (x1).toInt < (0 : Int) ∨ (14 : Int) < (x1).toInt := by
      have e_0 := lv_neT c_2 (a := 0) (by decide)
      have e_1 := lv_neT c_8 (a := 1) (by decide)
      have e_2 := lv_neT c_9 (a := 2) (by decide)
      have e_3 := lv_neT c_15 (a := 3) (by decide)
      have e_4 := lv_neT c_16 (a := 4) (by decide)
      have e_5 := lv_neT c_17 (a := 5) (by decide)
      have e_6 := lv_neT c_18 (a := 6) (by decide)
      have e_7 := lv_neT c_19 (a := 7) (by decide)
      have e_8 := lv_neT c_20 (a := 8) (by decide)
      have e_9 := lv_neT c_21 (a := 9) (by decide)
      have e_10 := lv_neT c_27 (a := 10) (by decide)
      have e_11 := lv_neT c_33 (a := 11) (by decide)
      have e_12 := lv_neT c_39 (a := 12) (by decide)
      have e_13 := lv_neT c_45 (a := 13) (by decide)
      have e_14 := lv_neT c_46 (a := 14) (by decide)
      omega
    refine wp_tswD 224 i_62_38 o_52 rfl ?_
    refine wp_s 225 [some (.ref a0), some (.int x1)] [.int (0 : Int32)] h0 i_62_224 rfl ?_
    obtain rfl := Option.some.inj hd
    exact wp_iretZ (z := 0) i_62_225 (by decide) ⟨rfl, rfl⟩
  · rw [if_neg c_1] at hd
    refine wp_s 36 [some (.ref a0), some (.int x1)] [.int (1 : Int32)] h0 i_62_35 rfl ?_
    obtain rfl := Option.some.inj hd
    exact wp_iretZ (z := 0) i_62_36 (by decide) ⟨rfl, rfl⟩
def j_62_20 (g : Nat) (a0 : Nat) (x1 : Int32) (s0 : Int32) (h0 : aH) : Option (Int32 × aH) := ((gI h0 a0 6 2).bind (fun f_1 => (if ¬ f_1 = 0 then (j_62_32 g a0 x1 (0 : Int32) s0 h0) else (j_62_32 g a0 x1 (1 : Int32) s0 h0))))
set_option maxHeartbeats 4000000 in
set_option maxRecDepth 100000 in
theorem j_62_20_ok {X : aX} {g : Nat} {a0 : Nat} {x1 : Int32} {s0 : Int32} {h0 : aH} {zz : Int32 × aH} {d : Nat} (hdp : 0 ≤ d) (hd : j_62_20 g a0 x1 s0 h0 = some zz) : aWp X d 62 20 [some (.ref a0), some (.int x1)] [.int s0] h0 (fun w h' => w = some (.int zz.1) ∧ h' = zz.2) := by
  unfold j_62_20 at hd
  refine wp_s 21 [some (.ref a0), some (.int x1)] [.ref a0, .int s0] h0 i_62_20 rfl ?_
  obtain ⟨f_1, q_2, hd⟩ := dk_bind hd
  refine hp_gI 24 rfl i_62_21 q_2 ?_
  refine wp_if_ne 31 27 rfl rfl i_62_24 (fun c_3 => ?_) (fun c_3 => ?_)
  · rw [if_pos c_3] at hd
    refine wp_s 32 [some (.ref a0), some (.int x1)] [.int (0 : Int32), .int s0] h0 i_62_31 rfl ?_
    exact aWp.forget (j_62_32_ok hdp hd) (lvS (lvS lvE))
  · rw [if_neg c_3] at hd
    refine wp_s 28 [some (.ref a0), some (.int x1)] [.int (1 : Int32), .int s0] h0 i_62_27 rfl ?_
    refine wp_s 32 [some (.ref a0), some (.int x1)] [.int (1 : Int32), .int s0] h0 i_62_28 rfl ?_
    exact aWp.forget (j_62_32_ok hdp hd) (lvS (lvS lvE))
def d_62 (g : Nat) (a0 : Nat) (x1 : Int32) (h0 : aH) : Option (Int32 × aH) := ((gI h0 a0 6 2).bind (fun f_1 => (if (40 : Int32) ≤ f_1 then some ((1 : Int32), h0) else (if ¬ x1 = (8 : Int32) then (j_62_20 g a0 x1 (0 : Int32) h0) else (j_62_20 g a0 x1 (1 : Int32) h0)))))
set_option maxHeartbeats 4000000 in
set_option maxRecDepth 100000 in
theorem d_62_ok {X : aX} {g : Nat} {a0 : Nat} {x1 : Int32} {h0 : aH} {zz : Int32 × aH} {d : Nat} (hdp : 0 ≤ d) (hd : d_62 g a0 x1 h0 = some zz) : aWp X d 62 0 (aEntL [.ref a0, .int x1] 2) [] h0 (fun w h' => w = some (.int zz.1) ∧ h' = zz.2) := by
  unfold d_62 at hd
  refine wp_lv (l2 := [some (.ref a0), some (.int x1)]) rfl ?_
  refine wp_s 1 [some (.ref a0), some (.int x1)] [.ref a0] h0 i_62_0 rfl ?_
  obtain ⟨f_1, q_2, hd⟩ := dk_bind hd
  refine hp_gI 4 rfl i_62_1 q_2 ?_
  refine wp_s 6 [some (.ref a0), some (.int x1)] [.int (40 : Int32), .int f_1] h0 i_62_4 rfl ?_
  refine wp_cmp_ge 35 9 rfl rfl i_62_6 (fun c_3 => ?_) (fun c_3 => ?_)
  · rw [if_pos c_3] at hd
    refine wp_s 36 [some (.ref a0), some (.int x1)] [.int (1 : Int32)] h0 i_62_35 rfl ?_
    obtain rfl := Option.some.inj hd
    exact wp_iretZ (z := 0) i_62_36 (by decide) ⟨rfl, rfl⟩
  · rw [if_neg c_3] at hd
    refine wp_s 10 [some (.ref a0), some (.int x1)] [.int x1] h0 i_62_9 rfl ?_
    refine wp_s 12 [some (.ref a0), some (.int x1)] [.int (8 : Int32), .int x1] h0 i_62_10 rfl ?_
    refine wp_cmp_ne 19 15 rfl rfl i_62_12 (fun c_4 => ?_) (fun c_4 => ?_)
    · rw [if_pos c_4] at hd
      refine wp_s 20 [some (.ref a0), some (.int x1)] [.int (0 : Int32)] h0 i_62_19 rfl ?_
      exact aWp.forget (j_62_20_ok hdp hd) (lvS (lvS lvE))
    · rw [if_neg c_4] at hd
      refine wp_s 16 [some (.ref a0), some (.int x1)] [.int (1 : Int32)] h0 i_62_15 rfl ?_
      refine wp_s 20 [some (.ref a0), some (.int x1)] [.int (1 : Int32)] h0 i_62_16 rfl ?_
      exact aWp.forget (j_62_20_ok hdp hd) (lvS (lvS lvE))
def d_69 (g : Nat) (a0 : Nat) (x1 : Int32) (x2 : Int32) (h0 : aH) : Option (Int32 × aH) := ((gR h0 a0 6 0).bind (fun f_1 => ((gI h0 f_1 8 3).bind (fun f_3 => (if f_3 = (20 : Int32) then ((gR h0 a0 6 0).bind (fun f_6 => ((gI h0 f_6 8 5).bind (fun f_8 => ((d_138 g f_8 x1 x2 h0).bind (fun z_10 => (if ¬ z_10.1 = 0 then ((gR z_10.2 a0 6 0).bind (fun f_15 => (if isO z_10.2 f_15 8 = true then ((d_84 g f_15 z_10.2).bind (fun z_20 => some (f_8, z_20))) else none))) else ((gR z_10.2 a0 6 0).bind (fun f_24 => (if isO z_10.2 f_24 8 = true then ((d_83 g f_24 (1 : Int32) z_10.2).bind (fun z_29 => some ((0 : Int32), z_29))) else none)))))))))) else ((gR h0 a0 6 0).bind (fun f_33 => (if isO h0 f_33 8 = true then ((d_83 g f_33 (0 : Int32) h0).bind (fun z_38 => some ((0 : Int32), z_38))) else none))))))))
set_option maxHeartbeats 4000000 in
set_option maxRecDepth 100000 in
theorem d_69_ok {X : aX} {g : Nat} {a0 : Nat} {x1 : Int32} {x2 : Int32} {h0 : aH} {zz : Int32 × aH} {d : Nat} (hdp : 2 ≤ d) (hd : d_69 g a0 x1 x2 h0 = some zz) : aWp X d 69 0 (aEntL [.ref a0, .int x1, .int x2] 4) [] h0 (fun w h' => w = some (.int zz.1) ∧ h' = zz.2) := by
  unfold d_69 at hd
  refine wp_lv (l2 := [some (.ref a0), some (.int x1), some (.int x2), none]) rfl ?_
  obtain ⟨e, rfl⟩ : ∃ e, d = e + 1 := ⟨d - 1, by omega⟩
  refine wp_s 1 [some (.ref a0), some (.int x1), some (.int x2), none] [.ref a0] h0 i_69_0 rfl ?_
  obtain ⟨f_1, q_2, hd⟩ := dk_bind hd
  refine hp_gR 4 rfl i_69_1 q_2 ?_
  obtain ⟨f_3, q_4, hd⟩ := dk_bind hd
  refine hp_gI 7 rfl i_69_4 q_4 ?_
  refine wp_s 9 [some (.ref a0), some (.int x1), some (.int x2), none] [.int (20 : Int32), .int f_3] h0 i_69_7 rfl ?_
  refine wp_cmp_eq 22 12 rfl rfl i_69_9 (fun c_5 => ?_) (fun c_5 => ?_)
  · rw [if_pos c_5] at hd
    refine wp_s 23 [some (.ref a0), some (.int x1), some (.int x2), none] [.ref a0] h0 i_69_22 rfl ?_
    obtain ⟨f_6, q_7, hd⟩ := dk_bind hd
    refine hp_gR 26 rfl i_69_23 q_7 ?_
    obtain ⟨f_8, q_9, hd⟩ := dk_bind hd
    refine hp_gI 29 rfl i_69_26 q_9 ?_
    refine wp_s 30 [some (.ref a0), some (.int x1), some (.int x2), some (.int f_8)] [] h0 i_69_29 rfl ?_
    refine wp_s 31 [some (.ref a0), some (.int x1), some (.int x2), some (.int f_8)] [.int f_8] h0 i_69_30 rfl ?_
    refine wp_s 32 [some (.ref a0), some (.int x1), some (.int x2), some (.int f_8)] [.int x1, .int f_8] h0 i_69_31 rfl ?_
    refine wp_s 33 [some (.ref a0), some (.int x1), some (.int x2), some (.int f_8)] [.int x2, .int x1, .int f_8] h0 i_69_32 rfl ?_
    obtain ⟨z_10, q_11, hd⟩ := dk_bind hd
    refine wp_callS 36 rfl i_69_33 (by decide) (vs := [.int f_8, .int x1, .int x2]) (rest := []) rfl rfl rfl (y := m_138) rfl (Nat.le_of_ble_eq_true rfl) (d_138_ok (d := e) (by omega) q_11) ?_
    rintro v_12 h_13 ⟨rfl, rfl⟩
    refine wp_if_ne 49 39 rfl rfl i_69_36 (fun c_14 => ?_) (fun c_14 => ?_)
    · rw [if_pos c_14] at hd
      refine wp_s 50 [some (.ref a0), some (.int x1), some (.int x2), some (.int f_8)] [.ref a0] z_10.2 i_69_49 rfl ?_
      obtain ⟨f_15, q_16, hd⟩ := dk_bind hd
      refine hp_gR 53 rfl i_69_50 q_16 ?_
      obtain ⟨k_17, hd⟩ := dk_if hd
      obtain ⟨fs_18, o_19⟩ := isO_of k_17
      obtain ⟨z_20, q_21, hd⟩ := dk_bind hd
      refine wp_callV 56 rfl i_69_53 (by decide) rfl (vs := []) (rest := []) rfl rfl rfl o_19 (y := m_84) rfl (Nat.le_of_ble_eq_true rfl) (d_84_ok (d := e) (by omega) q_21) ?_
      rintro v_22 h_23 ⟨rfl, hz⟩
      have hz := hz.symm
      subst hz
      refine wp_s 57 [some (.ref a0), some (.int x1), some (.int x2), some (.int f_8)] [.int f_8] z_20 i_69_56 rfl ?_
      obtain rfl := Option.some.inj hd
      exact wp_iret i_69_57 ⟨rfl, rfl⟩
    · rw [if_neg c_14] at hd
      refine wp_s 40 [some (.ref a0), some (.int x1), some (.int x2), some (.int f_8)] [.ref a0] z_10.2 i_69_39 rfl ?_
      obtain ⟨f_24, q_25, hd⟩ := dk_bind hd
      refine hp_gR 43 rfl i_69_40 q_25 ?_
      refine wp_s 44 [some (.ref a0), some (.int x1), some (.int x2), some (.int f_8)] [.int (1 : Int32), .ref f_24] z_10.2 i_69_43 rfl ?_
      obtain ⟨k_26, hd⟩ := dk_if hd
      obtain ⟨fs_27, o_28⟩ := isO_of k_26
      obtain ⟨z_29, q_30, hd⟩ := dk_bind hd
      refine wp_callV 47 rfl i_69_44 (by decide) rfl (vs := [.int (1 : Int32)]) (rest := []) rfl rfl rfl o_28 (y := m_83) rfl (Nat.le_of_ble_eq_true rfl) (d_83_ok (d := e) (by omega) q_30) ?_
      rintro v_31 h_32 ⟨rfl, hz⟩
      have hz := hz.symm
      subst hz
      refine wp_s 48 [some (.ref a0), some (.int x1), some (.int x2), some (.int f_8)] [.int (0 : Int32)] z_29 i_69_47 rfl ?_
      obtain rfl := Option.some.inj hd
      exact wp_iret i_69_48 ⟨rfl, rfl⟩
  · rw [if_neg c_5] at hd
    refine wp_s 13 [some (.ref a0), some (.int x1), some (.int x2), none] [.ref a0] h0 i_69_12 rfl ?_
    obtain ⟨f_33, q_34, hd⟩ := dk_bind hd
    refine hp_gR 16 rfl i_69_13 q_34 ?_
    refine wp_s 17 [some (.ref a0), some (.int x1), some (.int x2), none] [.int (0 : Int32), .ref f_33] h0 i_69_16 rfl ?_
    obtain ⟨k_35, hd⟩ := dk_if hd
    obtain ⟨fs_36, o_37⟩ := isO_of k_35
    obtain ⟨z_38, q_39, hd⟩ := dk_bind hd
    refine wp_callV 20 rfl i_69_17 (by decide) rfl (vs := [.int (0 : Int32)]) (rest := []) rfl rfl rfl o_37 (y := m_83) rfl (Nat.le_of_ble_eq_true rfl) (d_83_ok (d := e) (by omega) q_39) ?_
    rintro v_40 h_41 ⟨rfl, hz⟩
    have hz := hz.symm
    subst hz
    refine wp_s 21 [some (.ref a0), some (.int x1), some (.int x2), none] [.int (0 : Int32)] z_38 i_69_20 rfl ?_
    obtain rfl := Option.some.inj hd
    exact wp_iret i_69_21 ⟨rfl, rfl⟩
def d_63 (g : Nat) (a0 : Nat) (h0 : aH) : Option (aH) := ((gR h0 a0 6 1).bind (fun f_1 => (if isO h0 a0 6 = true then ((d_69 g a0 (0 : Int32) (999 : Int32) h0).bind (fun z_6 => ((sF z_6.2 f_1 5 1 (.int z_6.1)).bind (fun h_10 => ((gR h_10 a0 6 1).bind (fun f_12 => (if isO h_10 a0 6 = true then ((d_69 g a0 (0 : Int32) (9999 : Int32) h_10).bind (fun z_17 => ((sF z_17.2 f_12 5 2 (.int z_17.1)).bind (fun h_21 => some h_21)))) else none))))))) else none)))
set_option maxHeartbeats 4000000 in
set_option maxRecDepth 100000 in
theorem d_63_ok {X : aX} {g : Nat} {a0 : Nat} {h0 : aH} {zz : aH} {d : Nat} (hdp : 3 ≤ d) (hd : d_63 g a0 h0 = some zz) : aWp X d 63 0 (aEntL [.ref a0] 1) [] h0 (fun w h' => w = none ∧ h' = zz) := by
  unfold d_63 at hd
  refine wp_lv (l2 := [some (.ref a0)]) rfl ?_
  obtain ⟨e, rfl⟩ : ∃ e, d = e + 1 := ⟨d - 1, by omega⟩
  refine wp_s 1 [some (.ref a0)] [.ref a0] h0 i_63_0 rfl ?_
  obtain ⟨f_1, q_2, hd⟩ := dk_bind hd
  refine hp_gR 4 rfl i_63_1 q_2 ?_
  refine wp_s 5 [some (.ref a0)] [.ref a0, .ref f_1] h0 i_63_4 rfl ?_
  refine wp_s 6 [some (.ref a0)] [.int (0 : Int32), .ref a0, .ref f_1] h0 i_63_5 rfl ?_
  refine wp_s 9 [some (.ref a0)] [.int (999 : Int32), .int (0 : Int32), .ref a0, .ref f_1] h0 i_63_6 rfl ?_
  obtain ⟨k_3, hd⟩ := dk_if hd
  obtain ⟨fs_4, o_5⟩ := isO_of k_3
  obtain ⟨z_6, q_7, hd⟩ := dk_bind hd
  refine wp_callV 12 rfl i_63_9 (by decide) rfl (vs := [.int (0 : Int32), .int (999 : Int32)]) (rest := [.ref f_1]) rfl rfl rfl o_5 (y := m_69) rfl (Nat.le_of_ble_eq_true rfl) (d_69_ok (d := e) (by omega) q_7) ?_
  rintro v_8 h_9 ⟨rfl, rfl⟩
  obtain ⟨h_10, q_11, hd⟩ := dk_bind hd
  refine hp_sF 15 rfl i_63_12 q_11 ?_
  refine wp_s 16 [some (.ref a0)] [.ref a0] h_10 i_63_15 rfl ?_
  obtain ⟨f_12, q_13, hd⟩ := dk_bind hd
  refine hp_gR 19 rfl i_63_16 q_13 ?_
  refine wp_s 20 [some (.ref a0)] [.ref a0, .ref f_12] h_10 i_63_19 rfl ?_
  refine wp_s 21 [some (.ref a0)] [.int (0 : Int32), .ref a0, .ref f_12] h_10 i_63_20 rfl ?_
  refine wp_s 24 [some (.ref a0)] [.int (9999 : Int32), .int (0 : Int32), .ref a0, .ref f_12] h_10 i_63_21 rfl ?_
  obtain ⟨k_14, hd⟩ := dk_if hd
  obtain ⟨fs_15, o_16⟩ := isO_of k_14
  obtain ⟨z_17, q_18, hd⟩ := dk_bind hd
  refine wp_callV 27 rfl i_63_24 (by decide) rfl (vs := [.int (0 : Int32), .int (9999 : Int32)]) (rest := [.ref f_12]) rfl rfl rfl o_16 (y := m_69) rfl (Nat.le_of_ble_eq_true rfl) (d_69_ok (d := e) (by omega) q_18) ?_
  rintro v_19 h_20 ⟨rfl, rfl⟩
  obtain ⟨h_21, q_22, hd⟩ := dk_bind hd
  refine hp_sF 30 rfl i_63_27 q_22 ?_
  obtain rfl := Option.some.inj hd
  exact wp_ret i_63_30 rfl ⟨rfl, rfl⟩
def d_64 (g : Nat) (a0 : Nat) (h0 : aH) : Option (aH) := ((gR h0 a0 6 1).bind (fun f_1 => ((gI h0 f_1 5 4).bind (fun f_3 => ((gR h0 a0 6 1).bind (fun f_5 => ((gR h0 f_5 5 5).bind (fun f_7 => (if isO h0 a0 6 = true then ((d_69 g a0 (1 : Int32) (5000 : Int32) h0).bind (fun z_12 => ((sA z_12.2 f_7 f_3 z_12.1).bind (fun h_16 => ((gR h_16 a0 6 1).bind (fun f_18 => ((gR h_16 f_18 5 6).bind (fun f_20 => (if isO h_16 a0 6 = true then ((d_69 g a0 (0 : Int32) (5000 : Int32) h_16).bind (fun z_25 => ((sA z_25.2 f_20 f_3 z_25.1).bind (fun h_29 => ((gR h_29 a0 6 1).bind (fun f_31 => ((gR h_29 f_31 5 7).bind (fun f_33 => (if isO h_29 a0 6 = true then ((d_69 g a0 (0 : Int32) (9 : Int32) h_29).bind (fun z_38 => ((sA z_38.2 f_33 f_3 z_38.1).bind (fun h_42 => ((gR h_42 a0 6 1).bind (fun f_44 => ((gI h_42 f_44 5 4).bind (fun f_46 => ((sF h_42 f_44 5 4 (.int (f_46 + (1 : Int32)))).bind (fun h_48 => some h_48)))))))))) else none))))))))) else none))))))))) else none)))))))))
set_option maxHeartbeats 4000000 in
set_option maxRecDepth 100000 in
theorem d_64_ok {X : aX} {g : Nat} {a0 : Nat} {h0 : aH} {zz : aH} {d : Nat} (hdp : 3 ≤ d) (hd : d_64 g a0 h0 = some zz) : aWp X d 64 0 (aEntL [.ref a0] 2) [] h0 (fun w h' => w = none ∧ h' = zz) := by
  unfold d_64 at hd
  refine wp_lv (l2 := [some (.ref a0), none]) rfl ?_
  obtain ⟨e, rfl⟩ : ∃ e, d = e + 1 := ⟨d - 1, by omega⟩
  refine wp_s 1 [some (.ref a0), none] [.ref a0] h0 i_64_0 rfl ?_
  obtain ⟨f_1, q_2, hd⟩ := dk_bind hd
  refine hp_gR 4 rfl i_64_1 q_2 ?_
  obtain ⟨f_3, q_4, hd⟩ := dk_bind hd
  refine hp_gI 7 rfl i_64_4 q_4 ?_
  refine wp_s 8 [some (.ref a0), some (.int f_3)] [] h0 i_64_7 rfl ?_
  refine wp_s 9 [some (.ref a0), some (.int f_3)] [.ref a0] h0 i_64_8 rfl ?_
  obtain ⟨f_5, q_6, hd⟩ := dk_bind hd
  refine hp_gR 12 rfl i_64_9 q_6 ?_
  obtain ⟨f_7, q_8, hd⟩ := dk_bind hd
  refine hp_gR 15 rfl i_64_12 q_8 ?_
  refine wp_s 16 [some (.ref a0), some (.int f_3)] [.int f_3, .ref f_7] h0 i_64_15 rfl ?_
  refine wp_s 17 [some (.ref a0), some (.int f_3)] [.ref a0, .int f_3, .ref f_7] h0 i_64_16 rfl ?_
  refine wp_s 18 [some (.ref a0), some (.int f_3)] [.int (1 : Int32), .ref a0, .int f_3, .ref f_7] h0 i_64_17 rfl ?_
  refine wp_s 21 [some (.ref a0), some (.int f_3)] [.int (5000 : Int32), .int (1 : Int32), .ref a0, .int f_3, .ref f_7] h0 i_64_18 rfl ?_
  obtain ⟨k_9, hd⟩ := dk_if hd
  obtain ⟨fs_10, o_11⟩ := isO_of k_9
  obtain ⟨z_12, q_13, hd⟩ := dk_bind hd
  refine wp_callV 24 rfl i_64_21 (by decide) rfl (vs := [.int (1 : Int32), .int (5000 : Int32)]) (rest := [.int f_3, .ref f_7]) rfl rfl rfl o_11 (y := m_69) rfl (Nat.le_of_ble_eq_true rfl) (d_69_ok (d := e) (by omega) q_13) ?_
  rintro v_14 h_15 ⟨rfl, rfl⟩
  obtain ⟨h_16, q_17, hd⟩ := dk_bind hd
  refine hp_sA 25 rfl i_64_24 q_17 ?_
  refine wp_s 26 [some (.ref a0), some (.int f_3)] [.ref a0] h_16 i_64_25 rfl ?_
  obtain ⟨f_18, q_19, hd⟩ := dk_bind hd
  refine hp_gR 29 rfl i_64_26 q_19 ?_
  obtain ⟨f_20, q_21, hd⟩ := dk_bind hd
  refine hp_gR 32 rfl i_64_29 q_21 ?_
  refine wp_s 33 [some (.ref a0), some (.int f_3)] [.int f_3, .ref f_20] h_16 i_64_32 rfl ?_
  refine wp_s 34 [some (.ref a0), some (.int f_3)] [.ref a0, .int f_3, .ref f_20] h_16 i_64_33 rfl ?_
  refine wp_s 35 [some (.ref a0), some (.int f_3)] [.int (0 : Int32), .ref a0, .int f_3, .ref f_20] h_16 i_64_34 rfl ?_
  refine wp_s 38 [some (.ref a0), some (.int f_3)] [.int (5000 : Int32), .int (0 : Int32), .ref a0, .int f_3, .ref f_20] h_16 i_64_35 rfl ?_
  obtain ⟨k_22, hd⟩ := dk_if hd
  obtain ⟨fs_23, o_24⟩ := isO_of k_22
  obtain ⟨z_25, q_26, hd⟩ := dk_bind hd
  refine wp_callV 41 rfl i_64_38 (by decide) rfl (vs := [.int (0 : Int32), .int (5000 : Int32)]) (rest := [.int f_3, .ref f_20]) rfl rfl rfl o_24 (y := m_69) rfl (Nat.le_of_ble_eq_true rfl) (d_69_ok (d := e) (by omega) q_26) ?_
  rintro v_27 h_28 ⟨rfl, rfl⟩
  obtain ⟨h_29, q_30, hd⟩ := dk_bind hd
  refine hp_sA 42 rfl i_64_41 q_30 ?_
  refine wp_s 43 [some (.ref a0), some (.int f_3)] [.ref a0] h_29 i_64_42 rfl ?_
  obtain ⟨f_31, q_32, hd⟩ := dk_bind hd
  refine hp_gR 46 rfl i_64_43 q_32 ?_
  obtain ⟨f_33, q_34, hd⟩ := dk_bind hd
  refine hp_gR 49 rfl i_64_46 q_34 ?_
  refine wp_s 50 [some (.ref a0), some (.int f_3)] [.int f_3, .ref f_33] h_29 i_64_49 rfl ?_
  refine wp_s 51 [some (.ref a0), some (.int f_3)] [.ref a0, .int f_3, .ref f_33] h_29 i_64_50 rfl ?_
  refine wp_s 52 [some (.ref a0), some (.int f_3)] [.int (0 : Int32), .ref a0, .int f_3, .ref f_33] h_29 i_64_51 rfl ?_
  refine wp_s 54 [some (.ref a0), some (.int f_3)] [.int (9 : Int32), .int (0 : Int32), .ref a0, .int f_3, .ref f_33] h_29 i_64_52 rfl ?_
  obtain ⟨k_35, hd⟩ := dk_if hd
  obtain ⟨fs_36, o_37⟩ := isO_of k_35
  obtain ⟨z_38, q_39, hd⟩ := dk_bind hd
  refine wp_callV 57 rfl i_64_54 (by decide) rfl (vs := [.int (0 : Int32), .int (9 : Int32)]) (rest := [.int f_3, .ref f_33]) rfl rfl rfl o_37 (y := m_69) rfl (Nat.le_of_ble_eq_true rfl) (d_69_ok (d := e) (by omega) q_39) ?_
  rintro v_40 h_41 ⟨rfl, rfl⟩
  obtain ⟨h_42, q_43, hd⟩ := dk_bind hd
  refine hp_sA 58 rfl i_64_57 q_43 ?_
  refine wp_s 59 [some (.ref a0), some (.int f_3)] [.ref a0] h_42 i_64_58 rfl ?_
  obtain ⟨f_44, q_45, hd⟩ := dk_bind hd
  refine hp_gR 62 rfl i_64_59 q_45 ?_
  refine wp_s 63 [some (.ref a0), some (.int f_3)] [.ref f_44, .ref f_44] h_42 i_64_62 rfl ?_
  obtain ⟨f_46, q_47, hd⟩ := dk_bind hd
  refine hp_gI 66 rfl i_64_63 q_47 ?_
  refine wp_s 67 [some (.ref a0), some (.int f_3)] [.int (1 : Int32), .int f_46, .ref f_44] h_42 i_64_66 rfl ?_
  refine wp_s 68 [some (.ref a0), some (.int f_3)] [.int (f_46 + (1 : Int32)), .ref f_44] h_42 i_64_67 rfl ?_
  obtain ⟨h_48, q_49, hd⟩ := dk_bind hd
  refine hp_sF 71 rfl i_64_68 q_49 ?_
  obtain rfl := Option.some.inj hd
  exact wp_ret i_64_71 rfl ⟨rfl, rfl⟩
def d_65 (g : Nat) (a0 : Nat) (h0 : aH) : Option (aH) := ((gR h0 a0 6 1).bind (fun f_1 => ((gI h0 f_1 5 8).bind (fun f_3 => ((gR h0 a0 6 1).bind (fun f_5 => ((gR h0 f_5 5 9).bind (fun f_7 => ((gR h0 a0 6 1).bind (fun f_9 => ((gI h0 f_9 5 4).bind (fun f_11 => (if isO h0 a0 6 = true then ((d_69 g a0 (0 : Int32) (f_11 - (1 : Int32)) h0).bind (fun z_16 => ((sA z_16.2 f_7 f_3 z_16.1).bind (fun h_20 => ((gR h_20 a0 6 1).bind (fun f_22 => ((gR h_20 f_22 5 10).bind (fun f_24 => (if isO h_20 a0 6 = true then ((d_69 g a0 (0 : Int32) (30 : Int32) h_20).bind (fun z_29 => ((sA z_29.2 f_24 f_3 z_29.1).bind (fun h_33 => ((gR h_33 a0 6 1).bind (fun f_35 => ((gI h_33 f_35 5 8).bind (fun f_37 => ((sF h_33 f_35 5 8 (.int (f_37 + (1 : Int32)))).bind (fun h_39 => some h_39)))))))))) else none))))))))) else none)))))))))))))
set_option maxHeartbeats 4000000 in
set_option maxRecDepth 100000 in
theorem d_65_ok {X : aX} {g : Nat} {a0 : Nat} {h0 : aH} {zz : aH} {d : Nat} (hdp : 3 ≤ d) (hd : d_65 g a0 h0 = some zz) : aWp X d 65 0 (aEntL [.ref a0] 2) [] h0 (fun w h' => w = none ∧ h' = zz) := by
  unfold d_65 at hd
  refine wp_lv (l2 := [some (.ref a0), none]) rfl ?_
  obtain ⟨e, rfl⟩ : ∃ e, d = e + 1 := ⟨d - 1, by omega⟩
  refine wp_s 1 [some (.ref a0), none] [.ref a0] h0 i_65_0 rfl ?_
  obtain ⟨f_1, q_2, hd⟩ := dk_bind hd
  refine hp_gR 4 rfl i_65_1 q_2 ?_
  obtain ⟨f_3, q_4, hd⟩ := dk_bind hd
  refine hp_gI 7 rfl i_65_4 q_4 ?_
  refine wp_s 8 [some (.ref a0), some (.int f_3)] [] h0 i_65_7 rfl ?_
  refine wp_s 9 [some (.ref a0), some (.int f_3)] [.ref a0] h0 i_65_8 rfl ?_
  obtain ⟨f_5, q_6, hd⟩ := dk_bind hd
  refine hp_gR 12 rfl i_65_9 q_6 ?_
  obtain ⟨f_7, q_8, hd⟩ := dk_bind hd
  refine hp_gR 15 rfl i_65_12 q_8 ?_
  refine wp_s 16 [some (.ref a0), some (.int f_3)] [.int f_3, .ref f_7] h0 i_65_15 rfl ?_
  refine wp_s 17 [some (.ref a0), some (.int f_3)] [.ref a0, .int f_3, .ref f_7] h0 i_65_16 rfl ?_
  refine wp_s 18 [some (.ref a0), some (.int f_3)] [.int (0 : Int32), .ref a0, .int f_3, .ref f_7] h0 i_65_17 rfl ?_
  refine wp_s 19 [some (.ref a0), some (.int f_3)] [.ref a0, .int (0 : Int32), .ref a0, .int f_3, .ref f_7] h0 i_65_18 rfl ?_
  obtain ⟨f_9, q_10, hd⟩ := dk_bind hd
  refine hp_gR 22 rfl i_65_19 q_10 ?_
  obtain ⟨f_11, q_12, hd⟩ := dk_bind hd
  refine hp_gI 25 rfl i_65_22 q_12 ?_
  refine wp_s 26 [some (.ref a0), some (.int f_3)] [.int (1 : Int32), .int f_11, .int (0 : Int32), .ref a0, .int f_3, .ref f_7] h0 i_65_25 rfl ?_
  refine wp_s 27 [some (.ref a0), some (.int f_3)] [.int (f_11 - (1 : Int32)), .int (0 : Int32), .ref a0, .int f_3, .ref f_7] h0 i_65_26 rfl ?_
  obtain ⟨k_13, hd⟩ := dk_if hd
  obtain ⟨fs_14, o_15⟩ := isO_of k_13
  obtain ⟨z_16, q_17, hd⟩ := dk_bind hd
  refine wp_callV 30 rfl i_65_27 (by decide) rfl (vs := [.int (0 : Int32), .int (f_11 - (1 : Int32))]) (rest := [.int f_3, .ref f_7]) rfl rfl rfl o_15 (y := m_69) rfl (Nat.le_of_ble_eq_true rfl) (d_69_ok (d := e) (by omega) q_17) ?_
  rintro v_18 h_19 ⟨rfl, rfl⟩
  obtain ⟨h_20, q_21, hd⟩ := dk_bind hd
  refine hp_sA 31 rfl i_65_30 q_21 ?_
  refine wp_s 32 [some (.ref a0), some (.int f_3)] [.ref a0] h_20 i_65_31 rfl ?_
  obtain ⟨f_22, q_23, hd⟩ := dk_bind hd
  refine hp_gR 35 rfl i_65_32 q_23 ?_
  obtain ⟨f_24, q_25, hd⟩ := dk_bind hd
  refine hp_gR 38 rfl i_65_35 q_25 ?_
  refine wp_s 39 [some (.ref a0), some (.int f_3)] [.int f_3, .ref f_24] h_20 i_65_38 rfl ?_
  refine wp_s 40 [some (.ref a0), some (.int f_3)] [.ref a0, .int f_3, .ref f_24] h_20 i_65_39 rfl ?_
  refine wp_s 41 [some (.ref a0), some (.int f_3)] [.int (0 : Int32), .ref a0, .int f_3, .ref f_24] h_20 i_65_40 rfl ?_
  refine wp_s 43 [some (.ref a0), some (.int f_3)] [.int (30 : Int32), .int (0 : Int32), .ref a0, .int f_3, .ref f_24] h_20 i_65_41 rfl ?_
  obtain ⟨k_26, hd⟩ := dk_if hd
  obtain ⟨fs_27, o_28⟩ := isO_of k_26
  obtain ⟨z_29, q_30, hd⟩ := dk_bind hd
  refine wp_callV 46 rfl i_65_43 (by decide) rfl (vs := [.int (0 : Int32), .int (30 : Int32)]) (rest := [.int f_3, .ref f_24]) rfl rfl rfl o_28 (y := m_69) rfl (Nat.le_of_ble_eq_true rfl) (d_69_ok (d := e) (by omega) q_30) ?_
  rintro v_31 h_32 ⟨rfl, rfl⟩
  obtain ⟨h_33, q_34, hd⟩ := dk_bind hd
  refine hp_sA 47 rfl i_65_46 q_34 ?_
  refine wp_s 48 [some (.ref a0), some (.int f_3)] [.ref a0] h_33 i_65_47 rfl ?_
  obtain ⟨f_35, q_36, hd⟩ := dk_bind hd
  refine hp_gR 51 rfl i_65_48 q_36 ?_
  refine wp_s 52 [some (.ref a0), some (.int f_3)] [.ref f_35, .ref f_35] h_33 i_65_51 rfl ?_
  obtain ⟨f_37, q_38, hd⟩ := dk_bind hd
  refine hp_gI 55 rfl i_65_52 q_38 ?_
  refine wp_s 56 [some (.ref a0), some (.int f_3)] [.int (1 : Int32), .int f_37, .ref f_35] h_33 i_65_55 rfl ?_
  refine wp_s 57 [some (.ref a0), some (.int f_3)] [.int (f_37 + (1 : Int32)), .ref f_35] h_33 i_65_56 rfl ?_
  obtain ⟨h_39, q_40, hd⟩ := dk_bind hd
  refine hp_sF 60 rfl i_65_57 q_40 ?_
  obtain rfl := Option.some.inj hd
  exact wp_ret i_65_60 rfl ⟨rfl, rfl⟩
def d_66 (g : Nat) (a0 : Nat) (h0 : aH) : Option (aH) := ((gR h0 a0 6 1).bind (fun f_1 => ((gI h0 f_1 5 11).bind (fun f_3 => ((gR h0 a0 6 1).bind (fun f_5 => ((gR h0 f_5 5 12).bind (fun f_7 => (if isO h0 a0 6 = true then ((d_69 g a0 (0 : Int32) (99 : Int32) h0).bind (fun z_12 => ((sA z_12.2 f_7 f_3 z_12.1).bind (fun h_16 => ((gR h_16 a0 6 1).bind (fun f_18 => ((gR h_16 f_18 5 13).bind (fun f_20 => ((gR h_16 a0 6 1).bind (fun f_22 => ((gR h_16 f_22 5 12).bind (fun f_24 => ((gA h_16 f_24 f_3).bind (fun f_26 => (if isO h_16 a0 6 = true then ((d_69 g a0 f_26 (99 : Int32) h_16).bind (fun z_31 => ((sA z_31.2 f_20 f_3 z_31.1).bind (fun h_35 => ((gR h_35 a0 6 1).bind (fun f_37 => ((gR h_35 f_37 5 14).bind (fun f_39 => (if isO h_35 a0 6 = true then ((d_69 g a0 (1 : Int32) (90 : Int32) h_35).bind (fun z_44 => ((sA z_44.2 f_39 f_3 z_44.1).bind (fun h_48 => ((gR h_48 a0 6 1).bind (fun f_50 => ((gI h_48 f_50 5 11).bind (fun f_52 => ((sF h_48 f_50 5 11 (.int (f_52 + (1 : Int32)))).bind (fun h_54 => some h_54)))))))))) else none))))))))) else none))))))))))))))) else none)))))))))
set_option maxHeartbeats 4000000 in
set_option maxRecDepth 100000 in
theorem d_66_ok {X : aX} {g : Nat} {a0 : Nat} {h0 : aH} {zz : aH} {d : Nat} (hdp : 3 ≤ d) (hd : d_66 g a0 h0 = some zz) : aWp X d 66 0 (aEntL [.ref a0] 2) [] h0 (fun w h' => w = none ∧ h' = zz) := by
  unfold d_66 at hd
  refine wp_lv (l2 := [some (.ref a0), none]) rfl ?_
  obtain ⟨e, rfl⟩ : ∃ e, d = e + 1 := ⟨d - 1, by omega⟩
  refine wp_s 1 [some (.ref a0), none] [.ref a0] h0 i_66_0 rfl ?_
  obtain ⟨f_1, q_2, hd⟩ := dk_bind hd
  refine hp_gR 4 rfl i_66_1 q_2 ?_
  obtain ⟨f_3, q_4, hd⟩ := dk_bind hd
  refine hp_gI 7 rfl i_66_4 q_4 ?_
  refine wp_s 8 [some (.ref a0), some (.int f_3)] [] h0 i_66_7 rfl ?_
  refine wp_s 9 [some (.ref a0), some (.int f_3)] [.ref a0] h0 i_66_8 rfl ?_
  obtain ⟨f_5, q_6, hd⟩ := dk_bind hd
  refine hp_gR 12 rfl i_66_9 q_6 ?_
  obtain ⟨f_7, q_8, hd⟩ := dk_bind hd
  refine hp_gR 15 rfl i_66_12 q_8 ?_
  refine wp_s 16 [some (.ref a0), some (.int f_3)] [.int f_3, .ref f_7] h0 i_66_15 rfl ?_
  refine wp_s 17 [some (.ref a0), some (.int f_3)] [.ref a0, .int f_3, .ref f_7] h0 i_66_16 rfl ?_
  refine wp_s 18 [some (.ref a0), some (.int f_3)] [.int (0 : Int32), .ref a0, .int f_3, .ref f_7] h0 i_66_17 rfl ?_
  refine wp_s 20 [some (.ref a0), some (.int f_3)] [.int (99 : Int32), .int (0 : Int32), .ref a0, .int f_3, .ref f_7] h0 i_66_18 rfl ?_
  obtain ⟨k_9, hd⟩ := dk_if hd
  obtain ⟨fs_10, o_11⟩ := isO_of k_9
  obtain ⟨z_12, q_13, hd⟩ := dk_bind hd
  refine wp_callV 23 rfl i_66_20 (by decide) rfl (vs := [.int (0 : Int32), .int (99 : Int32)]) (rest := [.int f_3, .ref f_7]) rfl rfl rfl o_11 (y := m_69) rfl (Nat.le_of_ble_eq_true rfl) (d_69_ok (d := e) (by omega) q_13) ?_
  rintro v_14 h_15 ⟨rfl, rfl⟩
  obtain ⟨h_16, q_17, hd⟩ := dk_bind hd
  refine hp_sA 24 rfl i_66_23 q_17 ?_
  refine wp_s 25 [some (.ref a0), some (.int f_3)] [.ref a0] h_16 i_66_24 rfl ?_
  obtain ⟨f_18, q_19, hd⟩ := dk_bind hd
  refine hp_gR 28 rfl i_66_25 q_19 ?_
  obtain ⟨f_20, q_21, hd⟩ := dk_bind hd
  refine hp_gR 31 rfl i_66_28 q_21 ?_
  refine wp_s 32 [some (.ref a0), some (.int f_3)] [.int f_3, .ref f_20] h_16 i_66_31 rfl ?_
  refine wp_s 33 [some (.ref a0), some (.int f_3)] [.ref a0, .int f_3, .ref f_20] h_16 i_66_32 rfl ?_
  refine wp_s 34 [some (.ref a0), some (.int f_3)] [.ref a0, .ref a0, .int f_3, .ref f_20] h_16 i_66_33 rfl ?_
  obtain ⟨f_22, q_23, hd⟩ := dk_bind hd
  refine hp_gR 37 rfl i_66_34 q_23 ?_
  obtain ⟨f_24, q_25, hd⟩ := dk_bind hd
  refine hp_gR 40 rfl i_66_37 q_25 ?_
  refine wp_s 41 [some (.ref a0), some (.int f_3)] [.int f_3, .ref f_24, .ref a0, .int f_3, .ref f_20] h_16 i_66_40 rfl ?_
  obtain ⟨f_26, q_27, hd⟩ := dk_bind hd
  refine hp_gA 42 rfl i_66_41 q_27 ?_
  refine wp_s 44 [some (.ref a0), some (.int f_3)] [.int (99 : Int32), .int f_26, .ref a0, .int f_3, .ref f_20] h_16 i_66_42 rfl ?_
  obtain ⟨k_28, hd⟩ := dk_if hd
  obtain ⟨fs_29, o_30⟩ := isO_of k_28
  obtain ⟨z_31, q_32, hd⟩ := dk_bind hd
  refine wp_callV 47 rfl i_66_44 (by decide) rfl (vs := [.int f_26, .int (99 : Int32)]) (rest := [.int f_3, .ref f_20]) rfl rfl rfl o_30 (y := m_69) rfl (Nat.le_of_ble_eq_true rfl) (d_69_ok (d := e) (by omega) q_32) ?_
  rintro v_33 h_34 ⟨rfl, rfl⟩
  obtain ⟨h_35, q_36, hd⟩ := dk_bind hd
  refine hp_sA 48 rfl i_66_47 q_36 ?_
  refine wp_s 49 [some (.ref a0), some (.int f_3)] [.ref a0] h_35 i_66_48 rfl ?_
  obtain ⟨f_37, q_38, hd⟩ := dk_bind hd
  refine hp_gR 52 rfl i_66_49 q_38 ?_
  obtain ⟨f_39, q_40, hd⟩ := dk_bind hd
  refine hp_gR 55 rfl i_66_52 q_40 ?_
  refine wp_s 56 [some (.ref a0), some (.int f_3)] [.int f_3, .ref f_39] h_35 i_66_55 rfl ?_
  refine wp_s 57 [some (.ref a0), some (.int f_3)] [.ref a0, .int f_3, .ref f_39] h_35 i_66_56 rfl ?_
  refine wp_s 58 [some (.ref a0), some (.int f_3)] [.int (1 : Int32), .ref a0, .int f_3, .ref f_39] h_35 i_66_57 rfl ?_
  refine wp_s 60 [some (.ref a0), some (.int f_3)] [.int (90 : Int32), .int (1 : Int32), .ref a0, .int f_3, .ref f_39] h_35 i_66_58 rfl ?_
  obtain ⟨k_41, hd⟩ := dk_if hd
  obtain ⟨fs_42, o_43⟩ := isO_of k_41
  obtain ⟨z_44, q_45, hd⟩ := dk_bind hd
  refine wp_callV 63 rfl i_66_60 (by decide) rfl (vs := [.int (1 : Int32), .int (90 : Int32)]) (rest := [.int f_3, .ref f_39]) rfl rfl rfl o_43 (y := m_69) rfl (Nat.le_of_ble_eq_true rfl) (d_69_ok (d := e) (by omega) q_45) ?_
  rintro v_46 h_47 ⟨rfl, rfl⟩
  obtain ⟨h_48, q_49, hd⟩ := dk_bind hd
  refine hp_sA 64 rfl i_66_63 q_49 ?_
  refine wp_s 65 [some (.ref a0), some (.int f_3)] [.ref a0] h_48 i_66_64 rfl ?_
  obtain ⟨f_50, q_51, hd⟩ := dk_bind hd
  refine hp_gR 68 rfl i_66_65 q_51 ?_
  refine wp_s 69 [some (.ref a0), some (.int f_3)] [.ref f_50, .ref f_50] h_48 i_66_68 rfl ?_
  obtain ⟨f_52, q_53, hd⟩ := dk_bind hd
  refine hp_gI 72 rfl i_66_69 q_53 ?_
  refine wp_s 73 [some (.ref a0), some (.int f_3)] [.int (1 : Int32), .int f_52, .ref f_50] h_48 i_66_72 rfl ?_
  refine wp_s 74 [some (.ref a0), some (.int f_3)] [.int (f_52 + (1 : Int32)), .ref f_50] h_48 i_66_73 rfl ?_
  obtain ⟨h_54, q_55, hd⟩ := dk_bind hd
  refine hp_sF 77 rfl i_66_74 q_55 ?_
  obtain rfl := Option.some.inj hd
  exact wp_ret i_66_77 rfl ⟨rfl, rfl⟩
def j_67_66 (g : Nat) (a0 : Nat) (x1 : Int32) (x2 : Int32) (h0 : aH) : Option (aH) := ((gR h0 a0 6 1).bind (fun f_1 => ((gR h0 f_1 5 18).bind (fun f_3 => (if isO h0 a0 6 = true then ((d_69 g a0 (0 : Int32) (9999 : Int32) h0).bind (fun z_8 => ((sA z_8.2 f_3 x2 z_8.1).bind (fun h_12 => ((gR h_12 a0 6 1).bind (fun f_14 => ((gI h_12 f_14 5 15).bind (fun f_16 => ((sF h_12 f_14 5 15 (.int (f_16 + (1 : Int32)))).bind (fun h_18 => some h_18)))))))))) else none)))))
set_option maxHeartbeats 4000000 in
set_option maxRecDepth 100000 in
theorem j_67_66_ok {X : aX} {g : Nat} {a0 : Nat} {x1 : Int32} {x2 : Int32} {h0 : aH} {zz : aH} {d : Nat} (hdp : 3 ≤ d) (hd : j_67_66 g a0 x1 x2 h0 = some zz) : aWp X d 67 66 [some (.ref a0), some (.int x1), some (.int x2)] [] h0 (fun w h' => w = none ∧ h' = zz) := by
  unfold j_67_66 at hd
  obtain ⟨e, rfl⟩ : ∃ e, d = e + 1 := ⟨d - 1, by omega⟩
  refine wp_s 67 [some (.ref a0), some (.int x1), some (.int x2)] [.ref a0] h0 i_67_66 rfl ?_
  obtain ⟨f_1, q_2, hd⟩ := dk_bind hd
  refine hp_gR 70 rfl i_67_67 q_2 ?_
  obtain ⟨f_3, q_4, hd⟩ := dk_bind hd
  refine hp_gR 73 rfl i_67_70 q_4 ?_
  refine wp_s 74 [some (.ref a0), some (.int x1), some (.int x2)] [.int x2, .ref f_3] h0 i_67_73 rfl ?_
  refine wp_s 75 [some (.ref a0), some (.int x1), some (.int x2)] [.ref a0, .int x2, .ref f_3] h0 i_67_74 rfl ?_
  refine wp_s 76 [some (.ref a0), some (.int x1), some (.int x2)] [.int (0 : Int32), .ref a0, .int x2, .ref f_3] h0 i_67_75 rfl ?_
  refine wp_s 79 [some (.ref a0), some (.int x1), some (.int x2)] [.int (9999 : Int32), .int (0 : Int32), .ref a0, .int x2, .ref f_3] h0 i_67_76 rfl ?_
  obtain ⟨k_5, hd⟩ := dk_if hd
  obtain ⟨fs_6, o_7⟩ := isO_of k_5
  obtain ⟨z_8, q_9, hd⟩ := dk_bind hd
  refine wp_callV 82 rfl i_67_79 (by decide) rfl (vs := [.int (0 : Int32), .int (9999 : Int32)]) (rest := [.int x2, .ref f_3]) rfl rfl rfl o_7 (y := m_69) rfl (Nat.le_of_ble_eq_true rfl) (d_69_ok (d := e) (by omega) q_9) ?_
  rintro v_10 h_11 ⟨rfl, rfl⟩
  obtain ⟨h_12, q_13, hd⟩ := dk_bind hd
  refine hp_sA 83 rfl i_67_82 q_13 ?_
  refine wp_s 84 [some (.ref a0), some (.int x1), some (.int x2)] [.ref a0] h_12 i_67_83 rfl ?_
  obtain ⟨f_14, q_15, hd⟩ := dk_bind hd
  refine hp_gR 87 rfl i_67_84 q_15 ?_
  refine wp_s 88 [some (.ref a0), some (.int x1), some (.int x2)] [.ref f_14, .ref f_14] h_12 i_67_87 rfl ?_
  obtain ⟨f_16, q_17, hd⟩ := dk_bind hd
  refine hp_gI 91 rfl i_67_88 q_17 ?_
  refine wp_s 92 [some (.ref a0), some (.int x1), some (.int x2)] [.int (1 : Int32), .int f_16, .ref f_14] h_12 i_67_91 rfl ?_
  refine wp_s 93 [some (.ref a0), some (.int x1), some (.int x2)] [.int (f_16 + (1 : Int32)), .ref f_14] h_12 i_67_92 rfl ?_
  obtain ⟨h_18, q_19, hd⟩ := dk_bind hd
  refine hp_sF 96 rfl i_67_93 q_19 ?_
  obtain rfl := Option.some.inj hd
  exact wp_ret i_67_96 rfl ⟨rfl, rfl⟩
def d_67 (g : Nat) (a0 : Nat) (x1 : Int32) (h0 : aH) : Option (aH) := ((gR h0 a0 6 1).bind (fun f_1 => ((gI h0 f_1 5 15).bind (fun f_3 => ((gR h0 a0 6 1).bind (fun f_5 => ((gR h0 f_5 5 16).bind (fun f_7 => ((sA h0 f_7 f_3 x1).bind (fun h_9 => (if ¬ x1 = (10 : Int32) then (if ¬ x1 = (11 : Int32) then (j_67_66 g a0 x1 f_3 h_9) else ((gR h_9 a0 6 1).bind (fun f_13 => ((gR h_9 f_13 5 17).bind (fun f_15 => (if isO h_9 a0 6 = true then ((d_69 g a0 (1 : Int32) (2000 : Int32) h_9).bind (fun z_20 => ((sA z_20.2 f_15 f_3 z_20.1).bind (fun h_24 => (j_67_66 g a0 x1 f_3 h_24))))) else none)))))) else ((gR h_9 a0 6 1).bind (fun f_26 => ((gR h_9 f_26 5 17).bind (fun f_28 => (if isO h_9 a0 6 = true then ((d_69 g a0 (1 : Int32) (90 : Int32) h_9).bind (fun z_33 => ((sA z_33.2 f_28 f_3 z_33.1).bind (fun h_37 => (j_67_66 g a0 x1 f_3 h_37))))) else none))))))))))))))))
set_option maxHeartbeats 4000000 in
set_option maxRecDepth 100000 in
theorem d_67_ok {X : aX} {g : Nat} {a0 : Nat} {x1 : Int32} {h0 : aH} {zz : aH} {d : Nat} (hdp : 3 ≤ d) (hd : d_67 g a0 x1 h0 = some zz) : aWp X d 67 0 (aEntL [.ref a0, .int x1] 3) [] h0 (fun w h' => w = none ∧ h' = zz) := by
  unfold d_67 at hd
  refine wp_lv (l2 := [some (.ref a0), some (.int x1), none]) rfl ?_
  obtain ⟨e, rfl⟩ : ∃ e, d = e + 1 := ⟨d - 1, by omega⟩
  refine wp_s 1 [some (.ref a0), some (.int x1), none] [.ref a0] h0 i_67_0 rfl ?_
  obtain ⟨f_1, q_2, hd⟩ := dk_bind hd
  refine hp_gR 4 rfl i_67_1 q_2 ?_
  obtain ⟨f_3, q_4, hd⟩ := dk_bind hd
  refine hp_gI 7 rfl i_67_4 q_4 ?_
  refine wp_s 8 [some (.ref a0), some (.int x1), some (.int f_3)] [] h0 i_67_7 rfl ?_
  refine wp_s 9 [some (.ref a0), some (.int x1), some (.int f_3)] [.ref a0] h0 i_67_8 rfl ?_
  obtain ⟨f_5, q_6, hd⟩ := dk_bind hd
  refine hp_gR 12 rfl i_67_9 q_6 ?_
  obtain ⟨f_7, q_8, hd⟩ := dk_bind hd
  refine hp_gR 15 rfl i_67_12 q_8 ?_
  refine wp_s 16 [some (.ref a0), some (.int x1), some (.int f_3)] [.int f_3, .ref f_7] h0 i_67_15 rfl ?_
  refine wp_s 17 [some (.ref a0), some (.int x1), some (.int f_3)] [.int x1, .int f_3, .ref f_7] h0 i_67_16 rfl ?_
  obtain ⟨h_9, q_10, hd⟩ := dk_bind hd
  refine hp_sA 18 rfl i_67_17 q_10 ?_
  refine wp_s 19 [some (.ref a0), some (.int x1), some (.int f_3)] [.int x1] h_9 i_67_18 rfl ?_
  refine wp_s 21 [some (.ref a0), some (.int x1), some (.int f_3)] [.int (10 : Int32), .int x1] h_9 i_67_19 rfl ?_
  refine wp_cmp_ne 43 24 rfl rfl i_67_21 (fun c_11 => ?_) (fun c_11 => ?_)
  · rw [if_pos c_11] at hd
    refine wp_s 44 [some (.ref a0), some (.int x1), some (.int f_3)] [.int x1] h_9 i_67_43 rfl ?_
    refine wp_s 46 [some (.ref a0), some (.int x1), some (.int f_3)] [.int (11 : Int32), .int x1] h_9 i_67_44 rfl ?_
    refine wp_cmp_ne 66 49 rfl rfl i_67_46 (fun c_12 => ?_) (fun c_12 => ?_)
    · rw [if_pos c_12] at hd
      exact aWp.forget (j_67_66_ok hdp hd) (lvS (lvS (lvS lvE)))
    · rw [if_neg c_12] at hd
      refine wp_s 50 [some (.ref a0), some (.int x1), some (.int f_3)] [.ref a0] h_9 i_67_49 rfl ?_
      obtain ⟨f_13, q_14, hd⟩ := dk_bind hd
      refine hp_gR 53 rfl i_67_50 q_14 ?_
      obtain ⟨f_15, q_16, hd⟩ := dk_bind hd
      refine hp_gR 56 rfl i_67_53 q_16 ?_
      refine wp_s 57 [some (.ref a0), some (.int x1), some (.int f_3)] [.int f_3, .ref f_15] h_9 i_67_56 rfl ?_
      refine wp_s 58 [some (.ref a0), some (.int x1), some (.int f_3)] [.ref a0, .int f_3, .ref f_15] h_9 i_67_57 rfl ?_
      refine wp_s 59 [some (.ref a0), some (.int x1), some (.int f_3)] [.int (1 : Int32), .ref a0, .int f_3, .ref f_15] h_9 i_67_58 rfl ?_
      refine wp_s 62 [some (.ref a0), some (.int x1), some (.int f_3)] [.int (2000 : Int32), .int (1 : Int32), .ref a0, .int f_3, .ref f_15] h_9 i_67_59 rfl ?_
      obtain ⟨k_17, hd⟩ := dk_if hd
      obtain ⟨fs_18, o_19⟩ := isO_of k_17
      obtain ⟨z_20, q_21, hd⟩ := dk_bind hd
      refine wp_callV 65 rfl i_67_62 (by decide) rfl (vs := [.int (1 : Int32), .int (2000 : Int32)]) (rest := [.int f_3, .ref f_15]) rfl rfl rfl o_19 (y := m_69) rfl (Nat.le_of_ble_eq_true rfl) (d_69_ok (d := e) (by omega) q_21) ?_
      rintro v_22 h_23 ⟨rfl, rfl⟩
      obtain ⟨h_24, q_25, hd⟩ := dk_bind hd
      refine hp_sA 66 rfl i_67_65 q_25 ?_
      exact aWp.forget (j_67_66_ok hdp hd) (lvS (lvS (lvS lvE)))
  · rw [if_neg c_11] at hd
    refine wp_s 25 [some (.ref a0), some (.int x1), some (.int f_3)] [.ref a0] h_9 i_67_24 rfl ?_
    obtain ⟨f_26, q_27, hd⟩ := dk_bind hd
    refine hp_gR 28 rfl i_67_25 q_27 ?_
    obtain ⟨f_28, q_29, hd⟩ := dk_bind hd
    refine hp_gR 31 rfl i_67_28 q_29 ?_
    refine wp_s 32 [some (.ref a0), some (.int x1), some (.int f_3)] [.int f_3, .ref f_28] h_9 i_67_31 rfl ?_
    refine wp_s 33 [some (.ref a0), some (.int x1), some (.int f_3)] [.ref a0, .int f_3, .ref f_28] h_9 i_67_32 rfl ?_
    refine wp_s 34 [some (.ref a0), some (.int x1), some (.int f_3)] [.int (1 : Int32), .ref a0, .int f_3, .ref f_28] h_9 i_67_33 rfl ?_
    refine wp_s 36 [some (.ref a0), some (.int x1), some (.int f_3)] [.int (90 : Int32), .int (1 : Int32), .ref a0, .int f_3, .ref f_28] h_9 i_67_34 rfl ?_
    obtain ⟨k_30, hd⟩ := dk_if hd
    obtain ⟨fs_31, o_32⟩ := isO_of k_30
    obtain ⟨z_33, q_34, hd⟩ := dk_bind hd
    refine wp_callV 39 rfl i_67_36 (by decide) rfl (vs := [.int (1 : Int32), .int (90 : Int32)]) (rest := [.int f_3, .ref f_28]) rfl rfl rfl o_32 (y := m_69) rfl (Nat.le_of_ble_eq_true rfl) (d_69_ok (d := e) (by omega) q_34) ?_
    rintro v_35 h_36 ⟨rfl, rfl⟩
    obtain ⟨h_37, q_38, hd⟩ := dk_bind hd
    refine hp_sA 40 rfl i_67_39 q_38 ?_
    refine wp_s 66 [some (.ref a0), some (.int x1), some (.int f_3)] [] h_37 i_67_40 rfl ?_
    exact aWp.forget (j_67_66_ok hdp hd) (lvS (lvS (lvS lvE)))
def j_68_46 (g : Nat) (a0 : Nat) (x1 : Int32) (h0 : aH) : Option (aH) := ((gR h0 a0 6 1).bind (fun f_1 => ((gI h0 f_1 5 15).bind (fun f_3 => (if isO h0 a0 6 = true then ((d_69 g a0 (0 : Int32) (f_3 - (1 : Int32)) h0).bind (fun z_8 => ((gR z_8.2 a0 6 0).bind (fun f_12 => ((gI z_8.2 f_12 8 6).bind (fun f_14 => (if ¬ f_14 = 0 then some z_8.2 else ((gR z_8.2 a0 6 1).bind (fun f_17 => ((gR z_8.2 f_17 5 19).bind (fun f_19 => ((gA z_8.2 f_19 x1).bind (fun f_21 => ((sA z_8.2 f_19 x1 (f_21 ||| ((1 : Int32) <<< (z_8.1 &&& 31)))).bind (fun h_23 => ((gR h_23 a0 6 1).bind (fun f_25 => ((gR h_23 f_25 5 19).bind (fun f_27 => ((gA h_23 f_27 z_8.1).bind (fun f_29 => ((sA h_23 f_27 z_8.1 (f_29 ||| ((1 : Int32) <<< (x1 &&& 31)))).bind (fun h_31 => some h_31))))))))))))))))))))))) else none)))))
set_option maxHeartbeats 4000000 in
set_option maxRecDepth 100000 in
theorem j_68_46_ok {X : aX} {g : Nat} {a0 : Nat} {x1 : Int32} {h0 : aH} {zz : aH} {d : Nat} (hdp : 3 ≤ d) (hd : j_68_46 g a0 x1 h0 = some zz) : aWp X d 68 46 [some (.ref a0), some (.int x1), none] [] h0 (fun w h' => w = none ∧ h' = zz) := by
  unfold j_68_46 at hd
  obtain ⟨e, rfl⟩ : ∃ e, d = e + 1 := ⟨d - 1, by omega⟩
  refine wp_s 47 [some (.ref a0), some (.int x1), none] [.ref a0] h0 i_68_46 rfl ?_
  refine wp_s 48 [some (.ref a0), some (.int x1), none] [.int (0 : Int32), .ref a0] h0 i_68_47 rfl ?_
  refine wp_s 49 [some (.ref a0), some (.int x1), none] [.ref a0, .int (0 : Int32), .ref a0] h0 i_68_48 rfl ?_
  obtain ⟨f_1, q_2, hd⟩ := dk_bind hd
  refine hp_gR 52 rfl i_68_49 q_2 ?_
  obtain ⟨f_3, q_4, hd⟩ := dk_bind hd
  refine hp_gI 55 rfl i_68_52 q_4 ?_
  refine wp_s 56 [some (.ref a0), some (.int x1), none] [.int (1 : Int32), .int f_3, .int (0 : Int32), .ref a0] h0 i_68_55 rfl ?_
  refine wp_s 57 [some (.ref a0), some (.int x1), none] [.int (f_3 - (1 : Int32)), .int (0 : Int32), .ref a0] h0 i_68_56 rfl ?_
  obtain ⟨k_5, hd⟩ := dk_if hd
  obtain ⟨fs_6, o_7⟩ := isO_of k_5
  obtain ⟨z_8, q_9, hd⟩ := dk_bind hd
  refine wp_callV 60 rfl i_68_57 (by decide) rfl (vs := [.int (0 : Int32), .int (f_3 - (1 : Int32))]) (rest := []) rfl rfl rfl o_7 (y := m_69) rfl (Nat.le_of_ble_eq_true rfl) (d_69_ok (d := e) (by omega) q_9) ?_
  rintro v_10 h_11 ⟨rfl, rfl⟩
  refine wp_s 61 [some (.ref a0), some (.int x1), some (.int z_8.1)] [] z_8.2 i_68_60 rfl ?_
  refine wp_s 62 [some (.ref a0), some (.int x1), some (.int z_8.1)] [.ref a0] z_8.2 i_68_61 rfl ?_
  obtain ⟨f_12, q_13, hd⟩ := dk_bind hd
  refine hp_gR 65 rfl i_68_62 q_13 ?_
  obtain ⟨f_14, q_15, hd⟩ := dk_bind hd
  refine hp_gI 68 rfl i_68_65 q_15 ?_
  refine wp_if_ne 101 71 rfl rfl i_68_68 (fun c_16 => ?_) (fun c_16 => ?_)
  · rw [if_pos c_16] at hd
    obtain rfl := Option.some.inj hd
    exact wp_ret i_68_101 rfl ⟨rfl, rfl⟩
  · rw [if_neg c_16] at hd
    refine wp_s 72 [some (.ref a0), some (.int x1), some (.int z_8.1)] [.ref a0] z_8.2 i_68_71 rfl ?_
    obtain ⟨f_17, q_18, hd⟩ := dk_bind hd
    refine hp_gR 75 rfl i_68_72 q_18 ?_
    obtain ⟨f_19, q_20, hd⟩ := dk_bind hd
    refine hp_gR 78 rfl i_68_75 q_20 ?_
    refine wp_s 79 [some (.ref a0), some (.int x1), some (.int z_8.1)] [.int x1, .ref f_19] z_8.2 i_68_78 rfl ?_
    refine wp_s 80 [some (.ref a0), some (.int x1), some (.int z_8.1)] [.int x1, .ref f_19, .int x1, .ref f_19] z_8.2 i_68_79 rfl ?_
    obtain ⟨f_21, q_22, hd⟩ := dk_bind hd
    refine hp_gA 81 rfl i_68_80 q_22 ?_
    refine wp_s 82 [some (.ref a0), some (.int x1), some (.int z_8.1)] [.int (1 : Int32), .int f_21, .int x1, .ref f_19] z_8.2 i_68_81 rfl ?_
    refine wp_s 83 [some (.ref a0), some (.int x1), some (.int z_8.1)] [.int z_8.1, .int (1 : Int32), .int f_21, .int x1, .ref f_19] z_8.2 i_68_82 rfl ?_
    refine wp_s 84 [some (.ref a0), some (.int x1), some (.int z_8.1)] [.int ((1 : Int32) <<< (z_8.1 &&& 31)), .int f_21, .int x1, .ref f_19] z_8.2 i_68_83 rfl ?_
    refine wp_s 85 [some (.ref a0), some (.int x1), some (.int z_8.1)] [.int (f_21 ||| ((1 : Int32) <<< (z_8.1 &&& 31))), .int x1, .ref f_19] z_8.2 i_68_84 rfl ?_
    obtain ⟨h_23, q_24, hd⟩ := dk_bind hd
    refine hp_sA 86 rfl i_68_85 q_24 ?_
    refine wp_s 87 [some (.ref a0), some (.int x1), some (.int z_8.1)] [.ref a0] h_23 i_68_86 rfl ?_
    obtain ⟨f_25, q_26, hd⟩ := dk_bind hd
    refine hp_gR 90 rfl i_68_87 q_26 ?_
    obtain ⟨f_27, q_28, hd⟩ := dk_bind hd
    refine hp_gR 93 rfl i_68_90 q_28 ?_
    refine wp_s 94 [some (.ref a0), some (.int x1), some (.int z_8.1)] [.int z_8.1, .ref f_27] h_23 i_68_93 rfl ?_
    refine wp_s 95 [some (.ref a0), some (.int x1), some (.int z_8.1)] [.int z_8.1, .ref f_27, .int z_8.1, .ref f_27] h_23 i_68_94 rfl ?_
    obtain ⟨f_29, q_30, hd⟩ := dk_bind hd
    refine hp_gA 96 rfl i_68_95 q_30 ?_
    refine wp_s 97 [some (.ref a0), some (.int x1), some (.int z_8.1)] [.int (1 : Int32), .int f_29, .int z_8.1, .ref f_27] h_23 i_68_96 rfl ?_
    refine wp_s 98 [some (.ref a0), some (.int x1), some (.int z_8.1)] [.int x1, .int (1 : Int32), .int f_29, .int z_8.1, .ref f_27] h_23 i_68_97 rfl ?_
    refine wp_s 99 [some (.ref a0), some (.int x1), some (.int z_8.1)] [.int ((1 : Int32) <<< (x1 &&& 31)), .int f_29, .int z_8.1, .ref f_27] h_23 i_68_98 rfl ?_
    refine wp_s 100 [some (.ref a0), some (.int x1), some (.int z_8.1)] [.int (f_29 ||| ((1 : Int32) <<< (x1 &&& 31))), .int z_8.1, .ref f_27] h_23 i_68_99 rfl ?_
    obtain ⟨h_31, q_32, hd⟩ := dk_bind hd
    refine hp_sA 101 rfl i_68_100 q_32 ?_
    obtain rfl := Option.some.inj hd
    exact wp_ret i_68_101 rfl ⟨rfl, rfl⟩
def d_68 (g : Nat) (a0 : Nat) (h0 : aH) : Option (aH) := ((gR h0 a0 6 1).bind (fun f_1 => ((gI h0 f_1 5 15).bind (fun f_3 => (if isO h0 a0 6 = true then ((d_69 g a0 (0 : Int32) (f_3 - (1 : Int32)) h0).bind (fun z_8 => ((gR z_8.2 a0 6 0).bind (fun f_12 => ((gI z_8.2 f_12 8 3).bind (fun f_14 => (if ¬ f_14 = (20 : Int32) then (j_68_46 g a0 z_8.1 z_8.2) else ((gR z_8.2 a0 6 0).bind (fun f_17 => ((gI z_8.2 f_17 8 5).bind (fun f_19 => (if ¬ f_19 = z_8.1 then (j_68_46 g a0 z_8.1 z_8.2) else ((gR z_8.2 a0 6 0).bind (fun f_22 => (if isO z_8.2 f_22 8 = true then ((d_83 g f_22 (1 : Int32) z_8.2).bind (fun z_27 => (j_68_46 g a0 z_8.1 z_27))) else none))))))))))))))) else none)))))
set_option maxHeartbeats 4000000 in
set_option maxRecDepth 100000 in
theorem d_68_ok {X : aX} {g : Nat} {a0 : Nat} {h0 : aH} {zz : aH} {d : Nat} (hdp : 3 ≤ d) (hd : d_68 g a0 h0 = some zz) : aWp X d 68 0 (aEntL [.ref a0] 3) [] h0 (fun w h' => w = none ∧ h' = zz) := by
  unfold d_68 at hd
  refine wp_lv (l2 := [some (.ref a0), none, none]) rfl ?_
  obtain ⟨e, rfl⟩ : ∃ e, d = e + 1 := ⟨d - 1, by omega⟩
  refine wp_s 1 [some (.ref a0), none, none] [.ref a0] h0 i_68_0 rfl ?_
  refine wp_s 2 [some (.ref a0), none, none] [.int (0 : Int32), .ref a0] h0 i_68_1 rfl ?_
  refine wp_s 3 [some (.ref a0), none, none] [.ref a0, .int (0 : Int32), .ref a0] h0 i_68_2 rfl ?_
  obtain ⟨f_1, q_2, hd⟩ := dk_bind hd
  refine hp_gR 6 rfl i_68_3 q_2 ?_
  obtain ⟨f_3, q_4, hd⟩ := dk_bind hd
  refine hp_gI 9 rfl i_68_6 q_4 ?_
  refine wp_s 10 [some (.ref a0), none, none] [.int (1 : Int32), .int f_3, .int (0 : Int32), .ref a0] h0 i_68_9 rfl ?_
  refine wp_s 11 [some (.ref a0), none, none] [.int (f_3 - (1 : Int32)), .int (0 : Int32), .ref a0] h0 i_68_10 rfl ?_
  obtain ⟨k_5, hd⟩ := dk_if hd
  obtain ⟨fs_6, o_7⟩ := isO_of k_5
  obtain ⟨z_8, q_9, hd⟩ := dk_bind hd
  refine wp_callV 14 rfl i_68_11 (by decide) rfl (vs := [.int (0 : Int32), .int (f_3 - (1 : Int32))]) (rest := []) rfl rfl rfl o_7 (y := m_69) rfl (Nat.le_of_ble_eq_true rfl) (d_69_ok (d := e) (by omega) q_9) ?_
  rintro v_10 h_11 ⟨rfl, rfl⟩
  refine wp_s 15 [some (.ref a0), some (.int z_8.1), none] [] z_8.2 i_68_14 rfl ?_
  refine wp_s 16 [some (.ref a0), some (.int z_8.1), none] [.ref a0] z_8.2 i_68_15 rfl ?_
  obtain ⟨f_12, q_13, hd⟩ := dk_bind hd
  refine hp_gR 19 rfl i_68_16 q_13 ?_
  obtain ⟨f_14, q_15, hd⟩ := dk_bind hd
  refine hp_gI 22 rfl i_68_19 q_15 ?_
  refine wp_s 24 [some (.ref a0), some (.int z_8.1), none] [.int (20 : Int32), .int f_14] z_8.2 i_68_22 rfl ?_
  refine wp_cmp_ne 46 27 rfl rfl i_68_24 (fun c_16 => ?_) (fun c_16 => ?_)
  · rw [if_pos c_16] at hd
    exact aWp.forget (j_68_46_ok hdp hd) (lvS (lvS (lvN lvE)))
  · rw [if_neg c_16] at hd
    refine wp_s 28 [some (.ref a0), some (.int z_8.1), none] [.ref a0] z_8.2 i_68_27 rfl ?_
    obtain ⟨f_17, q_18, hd⟩ := dk_bind hd
    refine hp_gR 31 rfl i_68_28 q_18 ?_
    obtain ⟨f_19, q_20, hd⟩ := dk_bind hd
    refine hp_gI 34 rfl i_68_31 q_20 ?_
    refine wp_s 35 [some (.ref a0), some (.int z_8.1), none] [.int z_8.1, .int f_19] z_8.2 i_68_34 rfl ?_
    refine wp_cmp_ne 46 38 rfl rfl i_68_35 (fun c_21 => ?_) (fun c_21 => ?_)
    · rw [if_pos c_21] at hd
      exact aWp.forget (j_68_46_ok hdp hd) (lvS (lvS (lvN lvE)))
    · rw [if_neg c_21] at hd
      refine wp_s 39 [some (.ref a0), some (.int z_8.1), none] [.ref a0] z_8.2 i_68_38 rfl ?_
      obtain ⟨f_22, q_23, hd⟩ := dk_bind hd
      refine hp_gR 42 rfl i_68_39 q_23 ?_
      refine wp_s 43 [some (.ref a0), some (.int z_8.1), none] [.int (1 : Int32), .ref f_22] z_8.2 i_68_42 rfl ?_
      obtain ⟨k_24, hd⟩ := dk_if hd
      obtain ⟨fs_25, o_26⟩ := isO_of k_24
      obtain ⟨z_27, q_28, hd⟩ := dk_bind hd
      refine wp_callV 46 rfl i_68_43 (by decide) rfl (vs := [.int (1 : Int32)]) (rest := []) rfl rfl rfl o_26 (y := m_83) rfl (Nat.le_of_ble_eq_true rfl) (d_83_ok (d := e) (by omega) q_28) ?_
      rintro v_29 h_30 ⟨rfl, hz⟩
      have hz := hz.symm
      subst hz
      exact aWp.forget (j_68_46_ok hdp hd) (lvS (lvS (lvN lvE)))
