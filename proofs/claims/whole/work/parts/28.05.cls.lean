theorem i_60_0 : aIns 60 0 = some (.aload_n 0, 1, 0, 0, .null) := by decide +kernel
theorem i_60_1 : aIns 60 1 = some (.aload_n 1, 1, 0, 0, .null) := by decide +kernel
theorem i_60_2 : aIns 60 2 = some (.putfield 15, 3, 6, 1, .null) := by decide +kernel
theorem i_60_5 : aIns 60 5 = some (.aload_n 0, 1, 0, 0, .null) := by decide +kernel
theorem i_60_6 : aIns 60 6 = some (.iconst 0, 1, 0, 0, .int (0)) := by decide +kernel
theorem i_60_7 : aIns 60 7 = some (.putfield 19, 3, 6, 2, .null) := by decide +kernel
theorem i_60_10 : aIns 60 10 = some (.aload_n 0, 1, 0, 0, .null) := by decide +kernel
theorem i_60_11 : aIns 60 11 = some (.getfield 9, 3, 6, 0, .null) := by decide +kernel
theorem i_60_14 : aIns 60 14 = some (.invokevirtual 23, 3, 82, 0, .int 8) := by decide +kernel
theorem i_60_17 : aIns 60 17 = some (.aload_n 0, 1, 0, 0, .null) := by decide +kernel
theorem i_60_18 : aIns 60 18 = some (.invokevirtual 28, 3, 61, 0, .int 6) := by decide +kernel
theorem i_60_21 : aIns 60 21 = some (.iconst 0, 1, 0, 0, .int (0)) := by decide +kernel
theorem i_60_22 : aIns 60 22 = some (.istore_n 2, 1, 0, 0, .null) := by decide +kernel
theorem i_60_23 : aIns 60 23 = some (.iload_n 2, 1, 0, 0, .null) := by decide +kernel
theorem i_60_24 : aIns 60 24 = some (.sipush 400, 3, 0, 0, .int (400)) := by decide +kernel
theorem i_60_27 : aIns 60 27 = some (.if_icmp .ge 32, 3, 0, 0, .null) := by decide +kernel
theorem i_60_30 : aIns 60 30 = some (.aload_n 0, 1, 0, 0, .null) := by decide +kernel
theorem i_60_31 : aIns 60 31 = some (.getfield 9, 3, 6, 0, .null) := by decide +kernel
theorem i_60_34 : aIns 60 34 = some (.getfield 31, 3, 8, 3, .null) := by decide +kernel
theorem i_60_37 : aIns 60 37 = some (.bipush 23, 2, 0, 0, .int (23)) := by decide +kernel
theorem i_60_39 : aIns 60 39 = some (.if_icmp .ne 20, 3, 0, 0, .null) := by decide +kernel
theorem i_60_42 : aIns 60 42 = some (.aload_n 0, 1, 0, 0, .null) := by decide +kernel
theorem i_60_43 : aIns 60 43 = some (.getfield 9, 3, 6, 0, .null) := by decide +kernel
theorem i_60_46 : aIns 60 46 = some (.invokevirtual 34, 3, 84, 0, .int 8) := by decide +kernel
theorem i_60_49 : aIns 60 49 = some (.aload_n 0, 1, 0, 0, .null) := by decide +kernel
theorem i_60_50 : aIns 60 50 = some (.invokevirtual 28, 3, 61, 0, .int 6) := by decide +kernel
theorem i_60_53 : aIns 60 53 = some (.iinc 2 1, 3, 0, 0, .null) := by decide +kernel
theorem i_60_56 : aIns 60 56 = some (.goto (-33), 3, 0, 0, .null) := by decide +kernel
theorem i_60_59 : aIns 60 59 = some (.aload_n 0, 1, 0, 0, .null) := by decide +kernel
theorem i_60_60 : aIns 60 60 = some (.getfield 9, 3, 6, 0, .null) := by decide +kernel
theorem i_60_63 : aIns 60 63 = some (.getfield 31, 3, 8, 3, .null) := by decide +kernel
theorem i_60_66 : aIns 60 66 = some (.bipush 21, 2, 0, 0, .int (21)) := by decide +kernel
theorem i_60_68 : aIns 60 68 = some (.if_icmp .eq 11, 3, 0, 0, .null) := by decide +kernel
theorem i_60_71 : aIns 60 71 = some (.aload_n 0, 1, 0, 0, .null) := by decide +kernel
theorem i_60_72 : aIns 60 72 = some (.getfield 9, 3, 6, 0, .null) := by decide +kernel
theorem i_60_75 : aIns 60 75 = some (.iconst 0, 1, 0, 0, .int (0)) := by decide +kernel
theorem i_60_76 : aIns 60 76 = some (.invokevirtual 37, 3, 83, 1, .int 8) := by decide +kernel
theorem i_60_79 : aIns 60 79 = some (.aload_n 0, 1, 0, 0, .null) := by decide +kernel
theorem i_60_80 : aIns 60 80 = some (.getfield 15, 3, 6, 1, .null) := by decide +kernel
theorem i_60_83 : aIns 60 83 = some (.iconst 1, 1, 0, 0, .int (1)) := by decide +kernel
theorem i_60_84 : aIns 60 84 = some (.putfield 41, 3, 5, 0, .null) := by decide +kernel
theorem i_60_87 : aIns 60 87 = some (.aload_n 0, 1, 0, 0, .null) := by decide +kernel
theorem i_60_88 : aIns 60 88 = some (.getfield 9, 3, 6, 0, .null) := by decide +kernel
theorem i_60_91 : aIns 60 91 = some (.getfield 47, 3, 8, 6, .null) := by decide +kernel
theorem i_60_94 : aIns 60 94 = some (.ireturn, 1, 0, 0, .null) := by decide +kernel
theorem i_61_0 : aIns 61 0 = some (.aload_n 0, 1, 0, 0, .null) := by decide +kernel
theorem i_61_1 : aIns 61 1 = some (.getfield 9, 3, 6, 0, .null) := by decide +kernel
theorem i_61_4 : aIns 61 4 = some (.getfield 31, 3, 8, 3, .null) := by decide +kernel
theorem i_61_7 : aIns 61 7 = some (.istore_n 1, 1, 0, 0, .null) := by decide +kernel
theorem i_61_8 : aIns 61 8 = some (.iload_n 1, 1, 0, 0, .null) := by decide +kernel
theorem i_61_9 : aIns 61 9 = some (.ifCond .eq 28, 3, 0, 0, .null) := by decide +kernel
theorem i_61_12 : aIns 61 12 = some (.iload_n 1, 1, 0, 0, .null) := by decide +kernel
theorem i_61_13 : aIns 61 13 = some (.iconst 2, 1, 0, 0, .int (2)) := by decide +kernel
theorem i_61_14 : aIns 61 14 = some (.if_icmp .eq 23, 3, 0, 0, .null) := by decide +kernel
theorem i_61_17 : aIns 61 17 = some (.iload_n 1, 1, 0, 0, .null) := by decide +kernel
theorem i_61_18 : aIns 61 18 = some (.bipush 8, 2, 0, 0, .int (8)) := by decide +kernel
theorem i_61_20 : aIns 61 20 = some (.bipush 14, 2, 0, 0, .int (14)) := by decide +kernel
theorem i_61_22 : aIns 61 22 = some (.invokestatic 50, 3, 138, 3, .null) := by decide +kernel
theorem i_61_25 : aIns 61 25 = some (.ifCond .ne 12, 3, 0, 0, .null) := by decide +kernel
theorem i_61_28 : aIns 61 28 = some (.aload_n 0, 1, 0, 0, .null) := by decide +kernel
theorem i_61_29 : aIns 61 29 = some (.getfield 9, 3, 6, 0, .null) := by decide +kernel
theorem i_61_32 : aIns 61 32 = some (.iconst 0, 1, 0, 0, .int (0)) := by decide +kernel
theorem i_61_33 : aIns 61 33 = some (.invokevirtual 37, 3, 83, 1, .int 8) := by decide +kernel
theorem i_61_36 : aIns 61 36 = some (.return_, 1, 0, 0, .null) := by decide +kernel
theorem i_61_37 : aIns 61 37 = some (.aload_n 0, 1, 0, 0, .null) := by decide +kernel
theorem i_61_38 : aIns 61 38 = some (.iload_n 1, 1, 0, 0, .null) := by decide +kernel
theorem i_61_39 : aIns 61 39 = some (.invokevirtual 54, 3, 62, 1, .int 6) := by decide +kernel
theorem i_61_42 : aIns 61 42 = some (.ifCond .eq 12, 3, 0, 0, .null) := by decide +kernel
theorem i_61_45 : aIns 61 45 = some (.aload_n 0, 1, 0, 0, .null) := by decide +kernel
theorem i_61_46 : aIns 61 46 = some (.getfield 9, 3, 6, 0, .null) := by decide +kernel
theorem i_61_49 : aIns 61 49 = some (.iconst 4, 1, 0, 0, .int (4)) := by decide +kernel
theorem i_61_50 : aIns 61 50 = some (.invokevirtual 37, 3, 83, 1, .int 8) := by decide +kernel
theorem i_61_53 : aIns 61 53 = some (.return_, 1, 0, 0, .null) := by decide +kernel
theorem i_61_54 : aIns 61 54 = some (.aload_n 0, 1, 0, 0, .null) := by decide +kernel
theorem i_61_55 : aIns 61 55 = some (.dup, 1, 0, 0, .null) := by decide +kernel
theorem i_61_56 : aIns 61 56 = some (.getfield 19, 3, 6, 2, .null) := by decide +kernel
theorem i_61_59 : aIns 61 59 = some (.iconst 1, 1, 0, 0, .int (1)) := by decide +kernel
theorem i_61_60 : aIns 61 60 = some (.iadd, 1, 0, 0, .null) := by decide +kernel
theorem i_61_61 : aIns 61 61 = some (.putfield 19, 3, 6, 2, .null) := by decide +kernel
theorem i_61_64 : aIns 61 64 = some (.aload_n 0, 1, 0, 0, .null) := by decide +kernel
theorem i_61_65 : aIns 61 65 = some (.getfield 9, 3, 6, 0, .null) := by decide +kernel
theorem i_61_68 : aIns 61 68 = some (.invokevirtual 34, 3, 84, 0, .int 8) := by decide +kernel
theorem i_61_71 : aIns 61 71 = some (.iload_n 1, 1, 0, 0, .null) := by decide +kernel
theorem i_61_72 : aIns 61 72 = some (.tableswitch 122 0 14 #[83, 122, 97, 122, 122, 122, 122, 122, 76, 90, 122, 122, 122, 104, 111], 76, 0, 0, .null) := by decide +kernel
theorem i_61_148 : aIns 61 148 = some (.aload_n 0, 1, 0, 0, .null) := by decide +kernel
theorem i_61_149 : aIns 61 149 = some (.invokevirtual 58, 3, 63, 0, .int 6) := by decide +kernel
theorem i_61_152 : aIns 61 152 = some (.goto 47, 3, 0, 0, .null) := by decide +kernel
theorem i_61_155 : aIns 61 155 = some (.aload_n 0, 1, 0, 0, .null) := by decide +kernel
theorem i_61_156 : aIns 61 156 = some (.invokevirtual 61, 3, 64, 0, .int 6) := by decide +kernel
theorem i_61_159 : aIns 61 159 = some (.goto 40, 3, 0, 0, .null) := by decide +kernel
theorem i_61_162 : aIns 61 162 = some (.aload_n 0, 1, 0, 0, .null) := by decide +kernel
theorem i_61_163 : aIns 61 163 = some (.invokevirtual 64, 3, 65, 0, .int 6) := by decide +kernel
theorem i_61_166 : aIns 61 166 = some (.goto 33, 3, 0, 0, .null) := by decide +kernel
theorem i_61_169 : aIns 61 169 = some (.aload_n 0, 1, 0, 0, .null) := by decide +kernel
theorem i_61_170 : aIns 61 170 = some (.invokevirtual 67, 3, 66, 0, .int 6) := by decide +kernel
theorem i_61_173 : aIns 61 173 = some (.goto 26, 3, 0, 0, .null) := by decide +kernel
theorem i_61_176 : aIns 61 176 = some (.aload_n 0, 1, 0, 0, .null) := by decide +kernel
theorem i_61_177 : aIns 61 177 = some (.invokevirtual 70, 3, 68, 0, .int 6) := by decide +kernel
theorem i_61_180 : aIns 61 180 = some (.goto 19, 3, 0, 0, .null) := by decide +kernel
theorem i_61_183 : aIns 61 183 = some (.aload_n 0, 1, 0, 0, .null) := by decide +kernel
theorem i_61_184 : aIns 61 184 = some (.getfield 15, 3, 6, 1, .null) := by decide +kernel
theorem i_61_187 : aIns 61 187 = some (.iconst 1, 1, 0, 0, .int (1)) := by decide +kernel
theorem i_61_188 : aIns 61 188 = some (.putfield 73, 3, 5, 3, .null) := by decide +kernel
theorem i_61_191 : aIns 61 191 = some (.goto 8, 3, 0, 0, .null) := by decide +kernel
theorem i_61_194 : aIns 61 194 = some (.aload_n 0, 1, 0, 0, .null) := by decide +kernel
theorem i_61_195 : aIns 61 195 = some (.iload_n 1, 1, 0, 0, .null) := by decide +kernel
theorem i_61_196 : aIns 61 196 = some (.invokevirtual 76, 3, 67, 1, .int 6) := by decide +kernel
theorem i_61_199 : aIns 61 199 = some (.return_, 1, 0, 0, .null) := by decide +kernel
theorem i_71_0 : aIns 71 0 = some (.aload_n 0, 1, 0, 0, .null) := by decide +kernel
theorem i_71_1 : aIns 71 1 = some (.getfield 9, 3, 7, 0, .null) := by decide +kernel
theorem i_71_4 : aIns 71 4 = some (.iconst 0, 1, 0, 0, .int (0)) := by decide +kernel
theorem i_71_5 : aIns 71 5 = some (.invokestatic 36, 3, 273, 2, .null) := by decide +kernel
theorem i_71_8 : aIns 71 8 = some (.aload_n 1, 1, 0, 0, .null) := by decide +kernel
theorem i_71_9 : aIns 71 9 = some (.getfield 42, 3, 5, 7, .null) := by decide +kernel
theorem i_71_12 : aIns 71 12 = some (.iconst 0, 1, 0, 0, .int (0)) := by decide +kernel
theorem i_71_13 : aIns 71 13 = some (.aload_n 0, 1, 0, 0, .null) := by decide +kernel
theorem i_71_14 : aIns 71 14 = some (.getfield 15, 3, 7, 1, .null) := by decide +kernel
theorem i_71_17 : aIns 71 17 = some (.iconst 0, 1, 0, 0, .int (0)) := by decide +kernel
theorem i_71_18 : aIns 71 18 = some (.bipush 8, 2, 0, 0, .int (8)) := by decide +kernel
theorem i_71_20 : aIns 71 20 = some (.invokestatic 45, 3, 1000, 0, .null) := by decide +kernel
theorem i_71_23 : aIns 71 23 = some (.aload_n 0, 1, 0, 0, .null) := by decide +kernel
theorem i_71_24 : aIns 71 24 = some (.getfield 18, 3, 7, 2, .null) := by decide +kernel
theorem i_71_27 : aIns 71 27 = some (.iconst 0, 1, 0, 0, .int (0)) := by decide +kernel
theorem i_71_28 : aIns 71 28 = some (.invokestatic 36, 3, 273, 2, .null) := by decide +kernel
theorem i_71_31 : aIns 71 31 = some (.aload_n 0, 1, 0, 0, .null) := by decide +kernel
theorem i_71_32 : aIns 71 32 = some (.getfield 21, 3, 7, 3, .null) := by decide +kernel
theorem i_71_35 : aIns 71 35 = some (.iconst 0, 1, 0, 0, .int (0)) := by decide +kernel
theorem i_71_36 : aIns 71 36 = some (.invokestatic 36, 3, 273, 2, .null) := by decide +kernel
theorem i_71_39 : aIns 71 39 = some (.aload_n 0, 1, 0, 0, .null) := by decide +kernel
theorem i_71_40 : aIns 71 40 = some (.getfield 24, 3, 7, 4, .null) := by decide +kernel
theorem i_71_43 : aIns 71 43 = some (.iconst 0, 1, 0, 0, .int (0)) := by decide +kernel
theorem i_71_44 : aIns 71 44 = some (.invokestatic 36, 3, 273, 2, .null) := by decide +kernel
theorem i_71_47 : aIns 71 47 = some (.aload_n 0, 1, 0, 0, .null) := by decide +kernel
theorem i_71_48 : aIns 71 48 = some (.getfield 27, 3, 7, 5, .null) := by decide +kernel
theorem i_71_51 : aIns 71 51 = some (.iconst 0, 1, 0, 0, .int (0)) := by decide +kernel
theorem i_71_52 : aIns 71 52 = some (.invokestatic 36, 3, 273, 2, .null) := by decide +kernel
theorem i_71_55 : aIns 71 55 = some (.aload_n 0, 1, 0, 0, .null) := by decide +kernel
theorem i_71_56 : aIns 71 56 = some (.iconst 0, 1, 0, 0, .int (0)) := by decide +kernel
theorem i_71_57 : aIns 71 57 = some (.putfield 51, 3, 7, 8, .null) := by decide +kernel
theorem i_71_60 : aIns 71 60 = some (.aload_n 0, 1, 0, 0, .null) := by decide +kernel
theorem i_71_61 : aIns 71 61 = some (.iconst 0, 1, 0, 0, .int (0)) := by decide +kernel
theorem i_71_62 : aIns 71 62 = some (.putfield 55, 3, 7, 9, .null) := by decide +kernel
theorem i_71_65 : aIns 71 65 = some (.aload_n 0, 1, 0, 0, .null) := by decide +kernel
theorem i_71_66 : aIns 71 66 = some (.iconst 0, 1, 0, 0, .int (0)) := by decide +kernel
theorem i_71_67 : aIns 71 67 = some (.putfield 58, 3, 7, 10, .null) := by decide +kernel
theorem i_71_70 : aIns 71 70 = some (.aload_n 0, 1, 0, 0, .null) := by decide +kernel
theorem i_71_71 : aIns 71 71 = some (.iconst 0, 1, 0, 0, .int (0)) := by decide +kernel
theorem i_71_72 : aIns 71 72 = some (.putfield 61, 3, 7, 11, .null) := by decide +kernel
theorem i_71_75 : aIns 71 75 = some (.aload_n 0, 1, 0, 0, .null) := by decide +kernel
theorem i_71_76 : aIns 71 76 = some (.iconst 0, 1, 0, 0, .int (0)) := by decide +kernel
theorem i_71_77 : aIns 71 77 = some (.putfield 64, 3, 7, 12, .null) := by decide +kernel
theorem i_71_80 : aIns 71 80 = some (.aload_n 0, 1, 0, 0, .null) := by decide +kernel
theorem i_71_81 : aIns 71 81 = some (.iconst 0, 1, 0, 0, .int (0)) := by decide +kernel
theorem i_71_82 : aIns 71 82 = some (.putfield 67, 3, 7, 13, .null) := by decide +kernel
theorem i_71_85 : aIns 71 85 = some (.return_, 1, 0, 0, .null) := by decide +kernel
theorem i_76_0 : aIns 76 0 = some (.iconst 0, 1, 0, 0, .int (0)) := by decide +kernel
theorem i_76_1 : aIns 76 1 = some (.istore_n 2, 1, 0, 0, .null) := by decide +kernel
theorem i_76_2 : aIns 76 2 = some (.iload_n 2, 1, 0, 0, .null) := by decide +kernel
theorem i_76_3 : aIns 76 3 = some (.aload_n 0, 1, 0, 0, .null) := by decide +kernel
theorem i_76_4 : aIns 76 4 = some (.getfield 51, 3, 7, 8, .null) := by decide +kernel
theorem i_76_7 : aIns 76 7 = some (.if_icmp .ge 21, 3, 0, 0, .null) := by decide +kernel
theorem i_76_10 : aIns 76 10 = some (.aload_n 0, 1, 0, 0, .null) := by decide +kernel
theorem i_76_11 : aIns 76 11 = some (.getfield 30, 3, 7, 6, .null) := by decide +kernel
theorem i_76_14 : aIns 76 14 = some (.iload_n 2, 1, 0, 0, .null) := by decide +kernel
theorem i_76_15 : aIns 76 15 = some (.iaload, 1, 0, 0, .null) := by decide +kernel
theorem i_76_16 : aIns 76 16 = some (.iload_n 1, 1, 0, 0, .null) := by decide +kernel
theorem i_76_17 : aIns 76 17 = some (.if_icmp .ne 5, 3, 0, 0, .null) := by decide +kernel
theorem i_76_20 : aIns 76 20 = some (.iload_n 2, 1, 0, 0, .null) := by decide +kernel
theorem i_76_21 : aIns 76 21 = some (.ireturn, 1, 0, 0, .null) := by decide +kernel
theorem i_76_22 : aIns 76 22 = some (.iinc 2 1, 3, 0, 0, .null) := by decide +kernel
theorem i_76_25 : aIns 76 25 = some (.goto (-23), 3, 0, 0, .null) := by decide +kernel
theorem i_76_28 : aIns 76 28 = some (.iconst (-1), 1, 0, 0, .int (-1)) := by decide +kernel
theorem i_76_29 : aIns 76 29 = some (.ireturn, 1, 0, 0, .null) := by decide +kernel
theorem i_78_0 : aIns 78 0 = some (.aload_n 0, 1, 0, 0, .null) := by decide +kernel
theorem i_78_1 : aIns 78 1 = some (.getfield 9, 3, 7, 0, .null) := by decide +kernel
theorem i_78_4 : aIns 78 4 = some (.iconst 0, 1, 0, 0, .int (0)) := by decide +kernel
theorem i_78_5 : aIns 78 5 = some (.aload_n 0, 1, 0, 0, .null) := by decide +kernel
theorem i_78_6 : aIns 78 6 = some (.getfield 24, 3, 7, 4, .null) := by decide +kernel
theorem i_78_9 : aIns 78 9 = some (.iconst 0, 1, 0, 0, .int (0)) := by decide +kernel
theorem i_78_10 : aIns 78 10 = some (.bipush 8, 2, 0, 0, .int (8)) := by decide +kernel
theorem i_78_12 : aIns 78 12 = some (.invokestatic 45, 3, 1000, 0, .null) := by decide +kernel
theorem i_78_15 : aIns 78 15 = some (.aload_n 0, 1, 0, 0, .null) := by decide +kernel
theorem i_78_16 : aIns 78 16 = some (.getfield 30, 3, 7, 6, .null) := by decide +kernel
theorem i_78_19 : aIns 78 19 = some (.iconst 0, 1, 0, 0, .int (0)) := by decide +kernel
theorem i_78_20 : aIns 78 20 = some (.aload_n 0, 1, 0, 0, .null) := by decide +kernel
theorem i_78_21 : aIns 78 21 = some (.getfield 33, 3, 7, 7, .null) := by decide +kernel
theorem i_78_24 : aIns 78 24 = some (.iconst 0, 1, 0, 0, .int (0)) := by decide +kernel
theorem i_78_25 : aIns 78 25 = some (.iconst 5, 1, 0, 0, .int (5)) := by decide +kernel
theorem i_78_26 : aIns 78 26 = some (.invokestatic 45, 3, 1000, 0, .null) := by decide +kernel
theorem i_78_29 : aIns 78 29 = some (.aload_n 0, 1, 0, 0, .null) := by decide +kernel
theorem i_78_30 : aIns 78 30 = some (.aload_n 0, 1, 0, 0, .null) := by decide +kernel
theorem i_78_31 : aIns 78 31 = some (.getfield 51, 3, 7, 8, .null) := by decide +kernel
theorem i_78_34 : aIns 78 34 = some (.putfield 55, 3, 7, 9, .null) := by decide +kernel
theorem i_78_37 : aIns 78 37 = some (.aload_n 0, 1, 0, 0, .null) := by decide +kernel
theorem i_78_38 : aIns 78 38 = some (.iload_n 1, 1, 0, 0, .null) := by decide +kernel
theorem i_78_39 : aIns 78 39 = some (.putfield 64, 3, 7, 12, .null) := by decide +kernel
theorem i_78_42 : aIns 78 42 = some (.aload_n 0, 1, 0, 0, .null) := by decide +kernel
theorem i_78_43 : aIns 78 43 = some (.dup, 1, 0, 0, .null) := by decide +kernel
theorem i_78_44 : aIns 78 44 = some (.getfield 61, 3, 7, 11, .null) := by decide +kernel
theorem i_78_47 : aIns 78 47 = some (.iload_n 1, 1, 0, 0, .null) := by decide +kernel
theorem i_78_48 : aIns 78 48 = some (.iadd, 1, 0, 0, .null) := by decide +kernel
theorem i_78_49 : aIns 78 49 = some (.putfield 61, 3, 7, 11, .null) := by decide +kernel
theorem i_78_52 : aIns 78 52 = some (.iconst 0, 1, 0, 0, .int (0)) := by decide +kernel
theorem i_78_53 : aIns 78 53 = some (.istore_n 2, 1, 0, 0, .null) := by decide +kernel
theorem i_78_54 : aIns 78 54 = some (.iload_n 2, 1, 0, 0, .null) := by decide +kernel
theorem i_78_55 : aIns 78 55 = some (.aload_n 0, 1, 0, 0, .null) := by decide +kernel
theorem i_78_56 : aIns 78 56 = some (.getfield 51, 3, 7, 8, .null) := by decide +kernel
theorem i_78_59 : aIns 78 59 = some (.if_icmp .ge 26, 3, 0, 0, .null) := by decide +kernel
theorem i_78_62 : aIns 78 62 = some (.aload_n 0, 1, 0, 0, .null) := by decide +kernel
theorem i_78_63 : aIns 78 63 = some (.dup, 1, 0, 0, .null) := by decide +kernel
theorem i_78_64 : aIns 78 64 = some (.getfield 58, 3, 7, 10, .null) := by decide +kernel
theorem i_78_67 : aIns 78 67 = some (.iconst 1, 1, 0, 0, .int (1)) := by decide +kernel
theorem i_78_68 : aIns 78 68 = some (.aload_n 0, 1, 0, 0, .null) := by decide +kernel
theorem i_78_69 : aIns 78 69 = some (.getfield 30, 3, 7, 6, .null) := by decide +kernel
theorem i_78_72 : aIns 78 72 = some (.iload_n 2, 1, 0, 0, .null) := by decide +kernel
theorem i_78_73 : aIns 78 73 = some (.iaload, 1, 0, 0, .null) := by decide +kernel
theorem i_78_74 : aIns 78 74 = some (.ishl, 1, 0, 0, .null) := by decide +kernel
theorem i_78_75 : aIns 78 75 = some (.ior, 1, 0, 0, .null) := by decide +kernel
theorem i_78_76 : aIns 78 76 = some (.putfield 58, 3, 7, 10, .null) := by decide +kernel
theorem i_78_79 : aIns 78 79 = some (.iinc 2 1, 3, 0, 0, .null) := by decide +kernel
theorem i_78_82 : aIns 78 82 = some (.goto (-28), 3, 0, 0, .null) := by decide +kernel
theorem i_78_85 : aIns 78 85 = some (.aload_n 0, 1, 0, 0, .null) := by decide +kernel
theorem i_78_86 : aIns 78 86 = some (.iconst 0, 1, 0, 0, .int (0)) := by decide +kernel
theorem i_78_87 : aIns 78 87 = some (.putfield 51, 3, 7, 8, .null) := by decide +kernel
theorem i_78_90 : aIns 78 90 = some (.return_, 1, 0, 0, .null) := by decide +kernel
theorem i_80_0 : aIns 80 0 = some (.aload_n 0, 1, 0, 0, .null) := by decide +kernel
theorem i_80_1 : aIns 80 1 = some (.invokespecial 3, 3, 1000, 0, .null) := by decide +kernel
theorem i_80_4 : aIns 80 4 = some (.aload_n 0, 1, 0, 0, .null) := by decide +kernel
theorem i_80_5 : aIns 80 5 = some (.sipush 400, 3, 0, 0, .int (400)) := by decide +kernel
theorem i_80_8 : aIns 80 8 = some (.newarray .byte, 2, 1, 0, .null) := by decide +kernel
theorem i_80_10 : aIns 80 10 = some (.putfield 9, 3, 8, 0, .null) := by decide +kernel
theorem i_80_13 : aIns 80 13 = some (.return_, 1, 0, 0, .null) := by decide +kernel
theorem i_81_0 : aIns 81 0 = some (.bipush 24, 2, 0, 0, .int (24)) := by decide +kernel
theorem i_81_2 : aIns 81 2 = some (.istore_n 2, 1, 0, 0, .null) := by decide +kernel
theorem i_81_3 : aIns 81 3 = some (.iload_n 2, 1, 0, 0, .null) := by decide +kernel
theorem i_81_4 : aIns 81 4 = some (.ifCond .lt 42, 3, 0, 0, .null) := by decide +kernel
theorem i_81_7 : aIns 81 7 = some (.aload_n 0, 1, 0, 0, .null) := by decide +kernel
theorem i_81_8 : aIns 81 8 = some (.getfield 15, 3, 8, 1, .null) := by decide +kernel
theorem i_81_11 : aIns 81 11 = some (.sipush 400, 3, 0, 0, .int (400)) := by decide +kernel
theorem i_81_14 : aIns 81 14 = some (.if_icmp .ge 32, 3, 0, 0, .null) := by decide +kernel
theorem i_81_17 : aIns 81 17 = some (.aload_n 0, 1, 0, 0, .null) := by decide +kernel
theorem i_81_18 : aIns 81 18 = some (.getfield 9, 3, 8, 0, .null) := by decide +kernel
theorem i_81_21 : aIns 81 21 = some (.aload_n 0, 1, 0, 0, .null) := by decide +kernel
theorem i_81_22 : aIns 81 22 = some (.getfield 15, 3, 8, 1, .null) := by decide +kernel
theorem i_81_25 : aIns 81 25 = some (.iload_n 1, 1, 0, 0, .null) := by decide +kernel
theorem i_81_26 : aIns 81 26 = some (.iload_n 2, 1, 0, 0, .null) := by decide +kernel
theorem i_81_27 : aIns 81 27 = some (.ishr, 1, 0, 0, .null) := by decide +kernel
theorem i_81_28 : aIns 81 28 = some (.i2b, 1, 0, 0, .null) := by decide +kernel
theorem i_81_29 : aIns 81 29 = some (.bastore, 1, 0, 0, .null) := by decide +kernel
theorem i_81_30 : aIns 81 30 = some (.aload_n 0, 1, 0, 0, .null) := by decide +kernel
theorem i_81_31 : aIns 81 31 = some (.dup, 1, 0, 0, .null) := by decide +kernel
theorem i_81_32 : aIns 81 32 = some (.getfield 15, 3, 8, 1, .null) := by decide +kernel
theorem i_81_35 : aIns 81 35 = some (.iconst 1, 1, 0, 0, .int (1)) := by decide +kernel
theorem i_81_36 : aIns 81 36 = some (.iadd, 1, 0, 0, .null) := by decide +kernel
theorem i_81_37 : aIns 81 37 = some (.putfield 15, 3, 8, 1, .null) := by decide +kernel
theorem i_81_40 : aIns 81 40 = some (.iinc 2 (-8), 3, 0, 0, .null) := by decide +kernel
theorem i_81_43 : aIns 81 43 = some (.goto (-40), 3, 0, 0, .null) := by decide +kernel
theorem i_81_46 : aIns 81 46 = some (.return_, 1, 0, 0, .null) := by decide +kernel
theorem i_88_0 : aIns 88 0 = some (.aload_n 0, 1, 0, 0, .null) := by decide +kernel
theorem i_88_1 : aIns 88 1 = some (.invokespecial 3, 3, 1000, 0, .null) := by decide +kernel
theorem i_88_4 : aIns 88 4 = some (.aload_n 0, 1, 0, 0, .null) := by decide +kernel
theorem i_88_5 : aIns 88 5 = some (.bipush 6, 2, 0, 0, .int (6)) := by decide +kernel
theorem i_88_7 : aIns 88 7 = some (.anewarray 9, 3, 6, 0, .null) := by decide +kernel
theorem i_88_10 : aIns 88 10 = some (.putfield 11, 3, 9, 1, .null) := by decide +kernel
theorem i_88_13 : aIns 88 13 = some (.aload_n 0, 1, 0, 0, .null) := by decide +kernel
theorem i_88_14 : aIns 88 14 = some (.bipush 8, 2, 0, 0, .int (8)) := by decide +kernel
theorem i_88_16 : aIns 88 16 = some (.newarray .long, 2, 3, 0, .null) := by decide +kernel
theorem i_88_18 : aIns 88 18 = some (.putfield 17, 3, 9, 3, .null) := by decide +kernel
theorem i_88_21 : aIns 88 21 = some (.aload_n 0, 1, 0, 0, .null) := by decide +kernel
theorem i_88_22 : aIns 88 22 = some (.aload_n 1, 1, 0, 0, .null) := by decide +kernel
theorem i_88_23 : aIns 88 23 = some (.putfield 21, 3, 9, 0, .null) := by decide +kernel
theorem i_88_26 : aIns 88 26 = some (.iconst 0, 1, 0, 0, .int (0)) := by decide +kernel
theorem i_88_27 : aIns 88 27 = some (.istore_n 2, 1, 0, 0, .null) := by decide +kernel
theorem i_88_28 : aIns 88 28 = some (.iload_n 2, 1, 0, 0, .null) := by decide +kernel
theorem i_88_29 : aIns 88 29 = some (.bipush 6, 2, 0, 0, .int (6)) := by decide +kernel
theorem i_88_31 : aIns 88 31 = some (.if_icmp .ge 22, 3, 0, 0, .null) := by decide +kernel
theorem i_88_34 : aIns 88 34 = some (.aload_n 0, 1, 0, 0, .null) := by decide +kernel
theorem i_88_35 : aIns 88 35 = some (.getfield 11, 3, 9, 1, .null) := by decide +kernel
theorem i_88_38 : aIns 88 38 = some (.iload_n 2, 1, 0, 0, .null) := by decide +kernel
theorem i_88_39 : aIns 88 39 = some (.new 9, 3, 3, 0, .null) := by decide +kernel
theorem i_88_42 : aIns 88 42 = some (.dup, 1, 0, 0, .null) := by decide +kernel
theorem i_88_43 : aIns 88 43 = some (.invokespecial 25, 3, 40, 0, .int 3) := by decide +kernel
theorem i_88_46 : aIns 88 46 = some (.aastore, 1, 0, 0, .null) := by decide +kernel
theorem i_88_47 : aIns 88 47 = some (.iinc 2 1, 3, 0, 0, .null) := by decide +kernel
theorem i_88_50 : aIns 88 50 = some (.goto (-22), 3, 0, 0, .null) := by decide +kernel
theorem i_88_53 : aIns 88 53 = some (.return_, 1, 0, 0, .null) := by decide +kernel
theorem i_91_0 : aIns 91 0 = some (.aload_n 0, 1, 0, 0, .null) := by decide +kernel
theorem i_91_1 : aIns 91 1 = some (.iload_n 1, 1, 0, 0, .null) := by decide +kernel
theorem i_91_2 : aIns 91 2 = some (.aload_n 0, 1, 0, 0, .null) := by decide +kernel
theorem i_91_3 : aIns 91 3 = some (.getfield 21, 3, 9, 0, .null) := by decide +kernel
theorem i_91_6 : aIns 91 6 = some (.getfield 67, 3, 10, 1, .null) := by decide +kernel
theorem i_91_9 : aIns 91 9 = some (.getfield 81, 3, 7, 13, .null) := by decide +kernel
theorem i_91_12 : aIns 91 12 = some (.invokevirtual 84, 3, 90, 2, .int 9) := by decide +kernel
theorem i_91_15 : aIns 91 15 = some (.ireturn, 1, 0, 0, .null) := by decide +kernel
theorem i_92_0 : aIns 92 0 = some (.iconst 0, 1, 0, 0, .int (0)) := by decide +kernel
theorem i_92_1 : aIns 92 1 = some (.istore_n 1, 1, 0, 0, .null) := by decide +kernel
theorem i_92_2 : aIns 92 2 = some (.iconst 0, 1, 0, 0, .int (0)) := by decide +kernel
theorem i_92_3 : aIns 92 3 = some (.istore_n 2, 1, 0, 0, .null) := by decide +kernel
theorem i_92_4 : aIns 92 4 = some (.iload_n 2, 1, 0, 0, .null) := by decide +kernel
theorem i_92_5 : aIns 92 5 = some (.aload_n 0, 1, 0, 0, .null) := by decide +kernel
theorem i_92_6 : aIns 92 6 = some (.getfield 21, 3, 9, 0, .null) := by decide +kernel
theorem i_92_9 : aIns 92 9 = some (.getfield 26, 3, 10, 0, .null) := by decide +kernel
theorem i_92_12 : aIns 92 12 = some (.getfield 87, 3, 5, 4, .null) := by decide +kernel
theorem i_92_15 : aIns 92 15 = some (.if_icmp .ge 55, 3, 0, 0, .null) := by decide +kernel
theorem i_92_18 : aIns 92 18 = some (.aload_n 0, 1, 0, 0, .null) := by decide +kernel
theorem i_92_19 : aIns 92 19 = some (.getfield 21, 3, 9, 0, .null) := by decide +kernel
theorem i_92_22 : aIns 92 22 = some (.getfield 67, 3, 10, 1, .null) := by decide +kernel
theorem i_92_25 : aIns 92 25 = some (.getfield 90, 3, 7, 0, .null) := by decide +kernel
theorem i_92_28 : aIns 92 28 = some (.iload_n 2, 1, 0, 0, .null) := by decide +kernel
theorem i_92_29 : aIns 92 29 = some (.iaload, 1, 0, 0, .null) := by decide +kernel
theorem i_92_30 : aIns 92 30 = some (.ifCond .le 34, 3, 0, 0, .null) := by decide +kernel
theorem i_92_33 : aIns 92 33 = some (.iload_n 1, 1, 0, 0, .null) := by decide +kernel
theorem i_92_34 : aIns 92 34 = some (.aload_n 0, 1, 0, 0, .null) := by decide +kernel
theorem i_92_35 : aIns 92 35 = some (.getfield 21, 3, 9, 0, .null) := by decide +kernel
theorem i_92_38 : aIns 92 38 = some (.getfield 67, 3, 10, 1, .null) := by decide +kernel
theorem i_92_41 : aIns 92 41 = some (.getfield 90, 3, 7, 0, .null) := by decide +kernel
theorem i_92_44 : aIns 92 44 = some (.iload_n 2, 1, 0, 0, .null) := by decide +kernel
theorem i_92_45 : aIns 92 45 = some (.iaload, 1, 0, 0, .null) := by decide +kernel
theorem i_92_46 : aIns 92 46 = some (.aload_n 0, 1, 0, 0, .null) := by decide +kernel
theorem i_92_47 : aIns 92 47 = some (.iload_n 2, 1, 0, 0, .null) := by decide +kernel
theorem i_92_48 : aIns 92 48 = some (.aload_n 0, 1, 0, 0, .null) := by decide +kernel
theorem i_92_49 : aIns 92 49 = some (.getfield 21, 3, 9, 0, .null) := by decide +kernel
theorem i_92_52 : aIns 92 52 = some (.getfield 67, 3, 10, 1, .null) := by decide +kernel
theorem i_92_55 : aIns 92 55 = some (.getfield 81, 3, 7, 13, .null) := by decide +kernel
theorem i_92_58 : aIns 92 58 = some (.invokevirtual 84, 3, 90, 2, .int 9) := by decide +kernel
theorem i_92_61 : aIns 92 61 = some (.imul, 1, 0, 0, .null) := by decide +kernel
theorem i_92_62 : aIns 92 62 = some (.iadd, 1, 0, 0, .null) := by decide +kernel
theorem i_92_63 : aIns 92 63 = some (.istore_n 1, 1, 0, 0, .null) := by decide +kernel
theorem i_92_64 : aIns 92 64 = some (.iinc 2 1, 3, 0, 0, .null) := by decide +kernel
theorem i_92_67 : aIns 92 67 = some (.goto (-63), 3, 0, 0, .null) := by decide +kernel
theorem i_92_70 : aIns 92 70 = some (.iload_n 1, 1, 0, 0, .null) := by decide +kernel
theorem i_92_71 : aIns 92 71 = some (.ireturn, 1, 0, 0, .null) := by decide +kernel
theorem i_93_0 : aIns 93 0 = some (.aload_n 0, 1, 0, 0, .null) := by decide +kernel
theorem i_93_1 : aIns 93 1 = some (.getfield 21, 3, 9, 0, .null) := by decide +kernel
theorem i_93_4 : aIns 93 4 = some (.getfield 67, 3, 10, 1, .null) := by decide +kernel
theorem i_93_7 : aIns 93 7 = some (.astore_n 1, 1, 0, 0, .null) := by decide +kernel
theorem i_93_8 : aIns 93 8 = some (.aload_n 0, 1, 0, 0, .null) := by decide +kernel
theorem i_93_9 : aIns 93 9 = some (.aload_n 1, 1, 0, 0, .null) := by decide +kernel
theorem i_93_10 : aIns 93 10 = some (.invokevirtual 93, 3, 73, 0, .int 7) := by decide +kernel
theorem i_93_13 : aIns 93 13 = some (.aload_n 0, 1, 0, 0, .null) := by decide +kernel
theorem i_93_14 : aIns 93 14 = some (.invokevirtual 97, 3, 92, 0, .int 9) := by decide +kernel
theorem i_93_17 : aIns 93 17 = some (.aload_n 1, 1, 0, 0, .null) := by decide +kernel
theorem i_93_18 : aIns 93 18 = some (.getfield 100, 3, 7, 6, .null) := by decide +kernel
theorem i_93_21 : aIns 93 21 = some (.aload_n 1, 1, 0, 0, .null) := by decide +kernel
theorem i_93_22 : aIns 93 22 = some (.getfield 103, 3, 7, 8, .null) := by decide +kernel
theorem i_93_25 : aIns 93 25 = some (.aload_n 0, 1, 0, 0, .null) := by decide +kernel
theorem i_93_26 : aIns 93 26 = some (.getfield 21, 3, 9, 0, .null) := by decide +kernel
theorem i_93_29 : aIns 93 29 = some (.getfield 26, 3, 10, 0, .null) := by decide +kernel
theorem i_93_32 : aIns 93 32 = some (.getfield 106, 3, 5, 2, .null) := by decide +kernel
theorem i_93_35 : aIns 93 35 = some (.invokevirtual 109, 3, 94, 5, .int 9) := by decide +kernel
theorem i_93_38 : aIns 93 38 = some (.ireturn, 1, 0, 0, .null) := by decide +kernel
theorem i_97_0 : aIns 97 0 = some (.aload_n 0, 1, 0, 0, .null) := by decide +kernel
theorem i_97_1 : aIns 97 1 = some (.invokespecial 3, 3, 1000, 0, .null) := by decide +kernel
theorem i_97_4 : aIns 97 4 = some (.aload_n 0, 1, 0, 0, .null) := by decide +kernel
theorem i_97_5 : aIns 97 5 = some (.new 9, 3, 5, 0, .null) := by decide +kernel
theorem i_97_8 : aIns 97 8 = some (.dup, 1, 0, 0, .null) := by decide +kernel
theorem i_97_9 : aIns 97 9 = some (.invokespecial 11, 3, 54, 0, .int 5) := by decide +kernel
theorem i_97_12 : aIns 97 12 = some (.putfield 12, 3, 10, 0, .null) := by decide +kernel
theorem i_97_15 : aIns 97 15 = some (.aload_n 0, 1, 0, 0, .null) := by decide +kernel
theorem i_97_16 : aIns 97 16 = some (.new 18, 3, 7, 0, .null) := by decide +kernel
theorem i_97_19 : aIns 97 19 = some (.dup, 1, 0, 0, .null) := by decide +kernel
theorem i_97_20 : aIns 97 20 = some (.invokespecial 20, 3, 70, 0, .int 7) := by decide +kernel
theorem i_97_23 : aIns 97 23 = some (.putfield 21, 3, 10, 1, .null) := by decide +kernel
theorem i_97_26 : aIns 97 26 = some (.aload_n 0, 1, 0, 0, .null) := by decide +kernel
theorem i_97_27 : aIns 97 27 = some (.iconst (-1), 1, 0, 0, .int (-1)) := by decide +kernel
theorem i_97_28 : aIns 97 28 = some (.putfield 25, 3, 10, 2, .null) := by decide +kernel
theorem i_97_31 : aIns 97 31 = some (.aload_n 0, 1, 0, 0, .null) := by decide +kernel
theorem i_97_32 : aIns 97 32 = some (.bipush 10, 2, 0, 0, .int (10)) := by decide +kernel
theorem i_97_34 : aIns 97 34 = some (.newarray .int, 2, 0, 0, .null) := by decide +kernel
theorem i_97_36 : aIns 97 36 = some (.putfield 29, 3, 10, 4, .null) := by decide +kernel
theorem i_97_39 : aIns 97 39 = some (.aload_n 0, 1, 0, 0, .null) := by decide +kernel
theorem i_97_40 : aIns 97 40 = some (.bipush 10, 2, 0, 0, .int (10)) := by decide +kernel
theorem i_97_42 : aIns 97 42 = some (.newarray .int, 2, 0, 0, .null) := by decide +kernel
theorem i_97_44 : aIns 97 44 = some (.putfield 33, 3, 10, 5, .null) := by decide +kernel
theorem i_97_47 : aIns 97 47 = some (.aload_n 0, 1, 0, 0, .null) := by decide +kernel
theorem i_97_48 : aIns 97 48 = some (.bipush 10, 2, 0, 0, .int (10)) := by decide +kernel
theorem i_97_50 : aIns 97 50 = some (.newarray .int, 2, 0, 0, .null) := by decide +kernel
theorem i_97_52 : aIns 97 52 = some (.putfield 36, 3, 10, 6, .null) := by decide +kernel
theorem i_97_55 : aIns 97 55 = some (.aload_n 0, 1, 0, 0, .null) := by decide +kernel
theorem i_97_56 : aIns 97 56 = some (.bipush 10, 2, 0, 0, .int (10)) := by decide +kernel
theorem i_97_58 : aIns 97 58 = some (.newarray .int, 2, 0, 0, .null) := by decide +kernel
theorem i_97_60 : aIns 97 60 = some (.putfield 39, 3, 10, 7, .null) := by decide +kernel
theorem i_97_63 : aIns 97 63 = some (.return_, 1, 0, 0, .null) := by decide +kernel
theorem i_98_0 : aIns 98 0 = some (.aload_n 0, 1, 0, 0, .null) := by decide +kernel
theorem i_98_1 : aIns 98 1 = some (.aload_n 1, 1, 0, 0, .null) := by decide +kernel
theorem i_98_2 : aIns 98 2 = some (.putfield 12, 3, 10, 0, .null) := by decide +kernel
theorem i_98_5 : aIns 98 5 = some (.aload_n 0, 1, 0, 0, .null) := by decide +kernel
theorem i_98_6 : aIns 98 6 = some (.getfield 21, 3, 10, 1, .null) := by decide +kernel
theorem i_98_9 : aIns 98 9 = some (.aload_n 1, 1, 0, 0, .null) := by decide +kernel
theorem i_98_10 : aIns 98 10 = some (.invokevirtual 42, 3, 71, 1, .int 7) := by decide +kernel
theorem i_98_13 : aIns 98 13 = some (.aload_n 0, 1, 0, 0, .null) := by decide +kernel
theorem i_98_14 : aIns 98 14 = some (.iconst 0, 1, 0, 0, .int (0)) := by decide +kernel
theorem i_98_15 : aIns 98 15 = some (.putfield 46, 3, 10, 8, .null) := by decide +kernel
theorem i_98_18 : aIns 98 18 = some (.return_, 1, 0, 0, .null) := by decide +kernel
theorem i_99_0 : aIns 99 0 = some (.aload_n 0, 1, 0, 0, .null) := by decide +kernel
theorem i_99_1 : aIns 99 1 = some (.aload_n 1, 1, 0, 0, .null) := by decide +kernel
theorem i_99_2 : aIns 99 2 = some (.getfield 12, 3, 10, 0, .null) := by decide +kernel
theorem i_99_5 : aIns 99 5 = some (.putfield 12, 3, 10, 0, .null) := by decide +kernel
theorem i_99_8 : aIns 99 8 = some (.aload_n 0, 1, 0, 0, .null) := by decide +kernel
theorem i_99_9 : aIns 99 9 = some (.getfield 21, 3, 10, 1, .null) := by decide +kernel
theorem i_99_12 : aIns 99 12 = some (.aload_n 1, 1, 0, 0, .null) := by decide +kernel
theorem i_99_13 : aIns 99 13 = some (.getfield 21, 3, 10, 1, .null) := by decide +kernel
theorem i_99_16 : aIns 99 16 = some (.invokevirtual 49, 3, 72, 1, .int 7) := by decide +kernel
theorem i_99_19 : aIns 99 19 = some (.aload_n 0, 1, 0, 0, .null) := by decide +kernel
theorem i_99_20 : aIns 99 20 = some (.aload_n 1, 1, 0, 0, .null) := by decide +kernel
theorem i_99_21 : aIns 99 21 = some (.getfield 25, 3, 10, 2, .null) := by decide +kernel
theorem i_99_24 : aIns 99 24 = some (.putfield 25, 3, 10, 2, .null) := by decide +kernel
theorem i_99_27 : aIns 99 27 = some (.aload_n 0, 1, 0, 0, .null) := by decide +kernel
theorem i_99_28 : aIns 99 28 = some (.aload_n 1, 1, 0, 0, .null) := by decide +kernel
theorem i_99_29 : aIns 99 29 = some (.getfield 53, 3, 10, 3, .null) := by decide +kernel
theorem i_99_32 : aIns 99 32 = some (.putfield 53, 3, 10, 3, .null) := by decide +kernel
theorem i_99_35 : aIns 99 35 = some (.aload_n 1, 1, 0, 0, .null) := by decide +kernel
theorem i_99_36 : aIns 99 36 = some (.getfield 29, 3, 10, 4, .null) := by decide +kernel
theorem i_99_39 : aIns 99 39 = some (.iconst 0, 1, 0, 0, .int (0)) := by decide +kernel
theorem i_99_40 : aIns 99 40 = some (.aload_n 0, 1, 0, 0, .null) := by decide +kernel
theorem i_99_41 : aIns 99 41 = some (.getfield 29, 3, 10, 4, .null) := by decide +kernel
theorem i_99_44 : aIns 99 44 = some (.iconst 0, 1, 0, 0, .int (0)) := by decide +kernel
theorem i_99_45 : aIns 99 45 = some (.bipush 10, 2, 0, 0, .int (10)) := by decide +kernel
theorem i_99_47 : aIns 99 47 = some (.invokestatic 56, 3, 1000, 0, .null) := by decide +kernel
theorem i_99_50 : aIns 99 50 = some (.aload_n 1, 1, 0, 0, .null) := by decide +kernel
theorem i_99_51 : aIns 99 51 = some (.getfield 33, 3, 10, 5, .null) := by decide +kernel
theorem i_99_54 : aIns 99 54 = some (.iconst 0, 1, 0, 0, .int (0)) := by decide +kernel
theorem i_99_55 : aIns 99 55 = some (.aload_n 0, 1, 0, 0, .null) := by decide +kernel
theorem i_99_56 : aIns 99 56 = some (.getfield 33, 3, 10, 5, .null) := by decide +kernel
theorem i_99_59 : aIns 99 59 = some (.iconst 0, 1, 0, 0, .int (0)) := by decide +kernel
theorem i_99_60 : aIns 99 60 = some (.bipush 10, 2, 0, 0, .int (10)) := by decide +kernel
theorem i_99_62 : aIns 99 62 = some (.invokestatic 56, 3, 1000, 0, .null) := by decide +kernel
theorem i_99_65 : aIns 99 65 = some (.aload_n 1, 1, 0, 0, .null) := by decide +kernel
theorem i_99_66 : aIns 99 66 = some (.getfield 36, 3, 10, 6, .null) := by decide +kernel
theorem i_99_69 : aIns 99 69 = some (.iconst 0, 1, 0, 0, .int (0)) := by decide +kernel
theorem i_99_70 : aIns 99 70 = some (.aload_n 0, 1, 0, 0, .null) := by decide +kernel
theorem i_99_71 : aIns 99 71 = some (.getfield 36, 3, 10, 6, .null) := by decide +kernel
theorem i_99_74 : aIns 99 74 = some (.iconst 0, 1, 0, 0, .int (0)) := by decide +kernel
theorem i_99_75 : aIns 99 75 = some (.bipush 10, 2, 0, 0, .int (10)) := by decide +kernel
theorem i_99_77 : aIns 99 77 = some (.invokestatic 56, 3, 1000, 0, .null) := by decide +kernel
theorem i_99_80 : aIns 99 80 = some (.aload_n 1, 1, 0, 0, .null) := by decide +kernel
theorem i_99_81 : aIns 99 81 = some (.getfield 39, 3, 10, 7, .null) := by decide +kernel
theorem i_99_84 : aIns 99 84 = some (.iconst 0, 1, 0, 0, .int (0)) := by decide +kernel
theorem i_99_85 : aIns 99 85 = some (.aload_n 0, 1, 0, 0, .null) := by decide +kernel
theorem i_99_86 : aIns 99 86 = some (.getfield 39, 3, 10, 7, .null) := by decide +kernel
theorem i_99_89 : aIns 99 89 = some (.iconst 0, 1, 0, 0, .int (0)) := by decide +kernel
theorem i_99_90 : aIns 99 90 = some (.bipush 10, 2, 0, 0, .int (10)) := by decide +kernel
theorem i_99_92 : aIns 99 92 = some (.invokestatic 56, 3, 1000, 0, .null) := by decide +kernel
theorem i_99_95 : aIns 99 95 = some (.aload_n 0, 1, 0, 0, .null) := by decide +kernel
theorem i_99_96 : aIns 99 96 = some (.aload_n 1, 1, 0, 0, .null) := by decide +kernel
theorem i_99_97 : aIns 99 97 = some (.getfield 46, 3, 10, 8, .null) := by decide +kernel
theorem i_99_100 : aIns 99 100 = some (.putfield 46, 3, 10, 8, .null) := by decide +kernel
theorem i_99_103 : aIns 99 103 = some (.return_, 1, 0, 0, .null) := by decide +kernel
theorem i_100_0 : aIns 100 0 = some (.aload_n 0, 1, 0, 0, .null) := by decide +kernel
theorem i_100_1 : aIns 100 1 = some (.getfield 29, 3, 10, 4, .null) := by decide +kernel
theorem i_100_4 : aIns 100 4 = some (.aload_n 0, 1, 0, 0, .null) := by decide +kernel
theorem i_100_5 : aIns 100 5 = some (.getfield 46, 3, 10, 8, .null) := by decide +kernel
theorem i_100_8 : aIns 100 8 = some (.iload_n 1, 1, 0, 0, .null) := by decide +kernel
theorem i_100_9 : aIns 100 9 = some (.iastore, 1, 0, 0, .null) := by decide +kernel
theorem i_100_10 : aIns 100 10 = some (.aload_n 0, 1, 0, 0, .null) := by decide +kernel
theorem i_100_11 : aIns 100 11 = some (.getfield 33, 3, 10, 5, .null) := by decide +kernel
theorem i_100_14 : aIns 100 14 = some (.aload_n 0, 1, 0, 0, .null) := by decide +kernel
theorem i_100_15 : aIns 100 15 = some (.getfield 46, 3, 10, 8, .null) := by decide +kernel
theorem i_100_18 : aIns 100 18 = some (.iload_n 2, 1, 0, 0, .null) := by decide +kernel
theorem i_100_19 : aIns 100 19 = some (.iastore, 1, 0, 0, .null) := by decide +kernel
theorem i_100_20 : aIns 100 20 = some (.aload_n 0, 1, 0, 0, .null) := by decide +kernel
theorem i_100_21 : aIns 100 21 = some (.getfield 36, 3, 10, 6, .null) := by decide +kernel
theorem i_100_24 : aIns 100 24 = some (.aload_n 0, 1, 0, 0, .null) := by decide +kernel
theorem i_100_25 : aIns 100 25 = some (.getfield 46, 3, 10, 8, .null) := by decide +kernel
theorem i_100_28 : aIns 100 28 = some (.iload_n 3, 1, 0, 0, .null) := by decide +kernel
theorem i_100_29 : aIns 100 29 = some (.iastore, 1, 0, 0, .null) := by decide +kernel
theorem i_100_30 : aIns 100 30 = some (.aload_n 0, 1, 0, 0, .null) := by decide +kernel
theorem i_100_31 : aIns 100 31 = some (.getfield 39, 3, 10, 7, .null) := by decide +kernel
theorem i_100_34 : aIns 100 34 = some (.aload_n 0, 1, 0, 0, .null) := by decide +kernel
theorem i_100_35 : aIns 100 35 = some (.getfield 46, 3, 10, 8, .null) := by decide +kernel
theorem i_100_38 : aIns 100 38 = some (.iload 4, 2, 0, 0, .null) := by decide +kernel
theorem i_100_40 : aIns 100 40 = some (.iastore, 1, 0, 0, .null) := by decide +kernel
theorem i_100_41 : aIns 100 41 = some (.aload_n 0, 1, 0, 0, .null) := by decide +kernel
theorem i_100_42 : aIns 100 42 = some (.dup, 1, 0, 0, .null) := by decide +kernel
theorem i_100_43 : aIns 100 43 = some (.getfield 46, 3, 10, 8, .null) := by decide +kernel
theorem i_100_46 : aIns 100 46 = some (.iconst 1, 1, 0, 0, .int (1)) := by decide +kernel
theorem i_100_47 : aIns 100 47 = some (.iadd, 1, 0, 0, .null) := by decide +kernel
theorem i_100_48 : aIns 100 48 = some (.putfield 46, 3, 10, 8, .null) := by decide +kernel
theorem i_100_51 : aIns 100 51 = some (.return_, 1, 0, 0, .null) := by decide +kernel
theorem i_101_0 : aIns 101 0 = some (.aload_n 0, 1, 0, 0, .null) := by decide +kernel
theorem i_101_1 : aIns 101 1 = some (.invokespecial 1, 3, 1000, 0, .null) := by decide +kernel
theorem i_101_4 : aIns 101 4 = some (.aload_n 0, 1, 0, 0, .null) := by decide +kernel
theorem i_101_5 : aIns 101 5 = some (.new 7, 3, 8, 0, .null) := by decide +kernel
theorem i_101_8 : aIns 101 8 = some (.dup, 1, 0, 0, .null) := by decide +kernel
theorem i_101_9 : aIns 101 9 = some (.invokespecial 9, 3, 80, 0, .int 8) := by decide +kernel
theorem i_101_12 : aIns 101 12 = some (.putfield 10, 3, 11, 0, .null) := by decide +kernel
theorem i_101_15 : aIns 101 15 = some (.aload_n 0, 1, 0, 0, .null) := by decide +kernel
theorem i_101_16 : aIns 101 16 = some (.new 16, 3, 6, 0, .null) := by decide +kernel
theorem i_101_19 : aIns 101 19 = some (.dup, 1, 0, 0, .null) := by decide +kernel
theorem i_101_20 : aIns 101 20 = some (.aload_n 0, 1, 0, 0, .null) := by decide +kernel
theorem i_101_21 : aIns 101 21 = some (.getfield 10, 3, 11, 0, .null) := by decide +kernel
theorem i_101_24 : aIns 101 24 = some (.invokespecial 18, 3, 59, 1, .int 6) := by decide +kernel
theorem i_101_27 : aIns 101 27 = some (.putfield 21, 3, 11, 1, .null) := by decide +kernel
theorem i_101_30 : aIns 101 30 = some (.aload_n 0, 1, 0, 0, .null) := by decide +kernel
theorem i_101_31 : aIns 101 31 = some (.new 25, 3, 4, 0, .null) := by decide +kernel
theorem i_101_34 : aIns 101 34 = some (.dup, 1, 0, 0, .null) := by decide +kernel
theorem i_101_35 : aIns 101 35 = some (.aload_n 0, 1, 0, 0, .null) := by decide +kernel
theorem i_101_36 : aIns 101 36 = some (.getfield 10, 3, 11, 0, .null) := by decide +kernel
theorem i_101_39 : aIns 101 39 = some (.invokespecial 27, 3, 44, 1, .int 4) := by decide +kernel
theorem i_101_42 : aIns 101 42 = some (.putfield 28, 3, 11, 2, .null) := by decide +kernel
theorem i_101_45 : aIns 101 45 = some (.aload_n 0, 1, 0, 0, .null) := by decide +kernel
theorem i_101_46 : aIns 101 46 = some (.new 32, 3, 10, 0, .null) := by decide +kernel
theorem i_101_49 : aIns 101 49 = some (.dup, 1, 0, 0, .null) := by decide +kernel
theorem i_101_50 : aIns 101 50 = some (.invokespecial 34, 3, 97, 0, .int 10) := by decide +kernel
theorem i_101_53 : aIns 101 53 = some (.putfield 35, 3, 11, 3, .null) := by decide +kernel
theorem i_101_56 : aIns 101 56 = some (.aload_n 0, 1, 0, 0, .null) := by decide +kernel
theorem i_101_57 : aIns 101 57 = some (.new 39, 3, 9, 0, .null) := by decide +kernel
theorem i_101_60 : aIns 101 60 = some (.dup, 1, 0, 0, .null) := by decide +kernel
theorem i_101_61 : aIns 101 61 = some (.aload_n 0, 1, 0, 0, .null) := by decide +kernel
theorem i_101_62 : aIns 101 62 = some (.getfield 35, 3, 11, 3, .null) := by decide +kernel
theorem i_101_65 : aIns 101 65 = some (.invokespecial 41, 3, 88, 1, .int 9) := by decide +kernel
theorem i_101_68 : aIns 101 68 = some (.putfield 44, 3, 11, 4, .null) := by decide +kernel
theorem i_101_71 : aIns 101 71 = some (.aload_n 0, 1, 0, 0, .null) := by decide +kernel
theorem i_101_72 : aIns 101 72 = some (.new 48, 3, 2, 0, .null) := by decide +kernel
theorem i_101_75 : aIns 101 75 = some (.dup, 1, 0, 0, .null) := by decide +kernel
theorem i_101_76 : aIns 101 76 = some (.aload_n 0, 1, 0, 0, .null) := by decide +kernel
theorem i_101_77 : aIns 101 77 = some (.getfield 35, 3, 11, 3, .null) := by decide +kernel
theorem i_101_80 : aIns 101 80 = some (.aload_n 0, 1, 0, 0, .null) := by decide +kernel
theorem i_101_81 : aIns 101 81 = some (.getfield 44, 3, 11, 4, .null) := by decide +kernel
theorem i_101_84 : aIns 101 84 = some (.invokespecial 50, 3, 11, 2, .int 2) := by decide +kernel
theorem i_101_87 : aIns 101 87 = some (.putfield 53, 3, 11, 5, .null) := by decide +kernel
theorem i_101_90 : aIns 101 90 = some (.aload_n 0, 1, 0, 0, .null) := by decide +kernel
theorem i_101_91 : aIns 101 91 = some (.new 57, 3, 1, 0, .null) := by decide +kernel
theorem i_101_94 : aIns 101 94 = some (.dup, 1, 0, 0, .null) := by decide +kernel
theorem i_101_95 : aIns 101 95 = some (.invokespecial 59, 3, 7, 0, .int 1) := by decide +kernel
theorem i_101_98 : aIns 101 98 = some (.putfield 60, 3, 11, 6, .null) := by decide +kernel
theorem i_101_101 : aIns 101 101 = some (.aload_n 0, 1, 0, 0, .null) := by decide +kernel
theorem i_101_102 : aIns 101 102 = some (.iconst 4, 1, 0, 0, .int (4)) := by decide +kernel
theorem i_101_103 : aIns 101 103 = some (.anewarray 32, 3, 5, 0, .null) := by decide +kernel
theorem i_101_106 : aIns 101 106 = some (.putfield 64, 3, 11, 7, .null) := by decide +kernel
theorem i_101_109 : aIns 101 109 = some (.aload_n 0, 1, 0, 0, .null) := by decide +kernel
theorem i_101_110 : aIns 101 110 = some (.iconst 4, 1, 0, 0, .int (4)) := by decide +kernel
theorem i_101_111 : aIns 101 111 = some (.newarray .boolean, 2, 2, 0, .null) := by decide +kernel
theorem i_101_113 : aIns 101 113 = some (.putfield 68, 3, 11, 8, .null) := by decide +kernel
theorem i_101_116 : aIns 101 116 = some (.iconst 0, 1, 0, 0, .int (0)) := by decide +kernel
theorem i_101_117 : aIns 101 117 = some (.istore_n 1, 1, 0, 0, .null) := by decide +kernel
theorem i_101_118 : aIns 101 118 = some (.iload_n 1, 1, 0, 0, .null) := by decide +kernel
theorem i_101_119 : aIns 101 119 = some (.iconst 4, 1, 0, 0, .int (4)) := by decide +kernel
theorem i_101_120 : aIns 101 120 = some (.if_icmp .ge 22, 3, 0, 0, .null) := by decide +kernel
theorem i_101_123 : aIns 101 123 = some (.aload_n 0, 1, 0, 0, .null) := by decide +kernel
theorem i_101_124 : aIns 101 124 = some (.getfield 64, 3, 11, 7, .null) := by decide +kernel
theorem i_101_127 : aIns 101 127 = some (.iload_n 1, 1, 0, 0, .null) := by decide +kernel
theorem i_101_128 : aIns 101 128 = some (.new 32, 3, 10, 0, .null) := by decide +kernel
theorem i_101_131 : aIns 101 131 = some (.dup, 1, 0, 0, .null) := by decide +kernel
theorem i_101_132 : aIns 101 132 = some (.invokespecial 34, 3, 97, 0, .int 10) := by decide +kernel
theorem i_101_135 : aIns 101 135 = some (.aastore, 1, 0, 0, .null) := by decide +kernel
theorem i_101_136 : aIns 101 136 = some (.iinc 1 1, 3, 0, 0, .null) := by decide +kernel
theorem i_101_139 : aIns 101 139 = some (.goto (-21), 3, 0, 0, .null) := by decide +kernel
theorem i_101_142 : aIns 101 142 = some (.return_, 1, 0, 0, .null) := by decide +kernel
theorem i_102_0 : aIns 102 0 = some (.aload_n 0, 1, 0, 0, .null) := by decide +kernel
theorem i_102_1 : aIns 102 1 = some (.getfield 10, 3, 11, 0, .null) := by decide +kernel
theorem i_102_4 : aIns 102 4 = some (.getfield 72, 3, 8, 1, .null) := by decide +kernel
theorem i_102_7 : aIns 102 7 = some (.bipush 20, 2, 0, 0, .int (20)) := by decide +kernel
theorem i_102_9 : aIns 102 9 = some (.iadd, 1, 0, 0, .null) := by decide +kernel
theorem i_102_10 : aIns 102 10 = some (.sipush 400, 3, 0, 0, .int (400)) := by decide +kernel
theorem i_102_13 : aIns 102 13 = some (.if_icmp .le 5, 3, 0, 0, .null) := by decide +kernel
theorem i_102_16 : aIns 102 16 = some (.iconst (-1), 1, 0, 0, .int (-1)) := by decide +kernel
theorem i_102_17 : aIns 102 17 = some (.ireturn, 1, 0, 0, .null) := by decide +kernel
theorem i_102_18 : aIns 102 18 = some (.aload_n 0, 1, 0, 0, .null) := by decide +kernel
theorem i_102_19 : aIns 102 19 = some (.getfield 10, 3, 11, 0, .null) := by decide +kernel
theorem i_102_22 : aIns 102 22 = some (.iload_n 1, 1, 0, 0, .null) := by decide +kernel
theorem i_102_23 : aIns 102 23 = some (.invokevirtual 76, 3, 81, 1, .int 8) := by decide +kernel
theorem i_102_26 : aIns 102 26 = some (.aload_n 0, 1, 0, 0, .null) := by decide +kernel
theorem i_102_27 : aIns 102 27 = some (.getfield 10, 3, 11, 0, .null) := by decide +kernel
theorem i_102_30 : aIns 102 30 = some (.iload_n 2, 1, 0, 0, .null) := by decide +kernel
theorem i_102_31 : aIns 102 31 = some (.invokevirtual 76, 3, 81, 1, .int 8) := by decide +kernel
theorem i_102_34 : aIns 102 34 = some (.aload_n 0, 1, 0, 0, .null) := by decide +kernel
theorem i_102_35 : aIns 102 35 = some (.getfield 10, 3, 11, 0, .null) := by decide +kernel
theorem i_102_38 : aIns 102 38 = some (.iload_n 3, 1, 0, 0, .null) := by decide +kernel
theorem i_102_39 : aIns 102 39 = some (.invokevirtual 76, 3, 81, 1, .int 8) := by decide +kernel
theorem i_102_42 : aIns 102 42 = some (.aload_n 0, 1, 0, 0, .null) := by decide +kernel
theorem i_102_43 : aIns 102 43 = some (.getfield 10, 3, 11, 0, .null) := by decide +kernel
theorem i_102_46 : aIns 102 46 = some (.iload 4, 2, 0, 0, .null) := by decide +kernel
theorem i_102_48 : aIns 102 48 = some (.invokevirtual 76, 3, 81, 1, .int 8) := by decide +kernel
theorem i_102_51 : aIns 102 51 = some (.aload_n 0, 1, 0, 0, .null) := by decide +kernel
theorem i_102_52 : aIns 102 52 = some (.getfield 10, 3, 11, 0, .null) := by decide +kernel
theorem i_102_55 : aIns 102 55 = some (.iload 5, 2, 0, 0, .null) := by decide +kernel
theorem i_102_57 : aIns 102 57 = some (.invokevirtual 76, 3, 81, 1, .int 8) := by decide +kernel
theorem i_102_60 : aIns 102 60 = some (.aload_n 0, 1, 0, 0, .null) := by decide +kernel
theorem i_102_61 : aIns 102 61 = some (.getfield 10, 3, 11, 0, .null) := by decide +kernel
theorem i_102_64 : aIns 102 64 = some (.getfield 72, 3, 8, 1, .null) := by decide +kernel
theorem i_102_67 : aIns 102 67 = some (.ireturn, 1, 0, 0, .null) := by decide +kernel
theorem i_103_0 : aIns 103 0 = some (.iload_n 1, 1, 0, 0, .null) := by decide +kernel
theorem i_103_1 : aIns 103 1 = some (.ifCond .lt 14, 3, 0, 0, .null) := by decide +kernel
theorem i_103_4 : aIns 103 4 = some (.iload_n 1, 1, 0, 0, .null) := by decide +kernel
theorem i_103_5 : aIns 103 5 = some (.aload_n 0, 1, 0, 0, .null) := by decide +kernel
theorem i_103_6 : aIns 103 6 = some (.getfield 10, 3, 11, 0, .null) := by decide +kernel
theorem i_103_9 : aIns 103 9 = some (.getfield 72, 3, 8, 1, .null) := by decide +kernel
theorem i_103_12 : aIns 103 12 = some (.if_icmp .le 5, 3, 0, 0, .null) := by decide +kernel
theorem i_103_15 : aIns 103 15 = some (.iconst (-1), 1, 0, 0, .int (-1)) := by decide +kernel
theorem i_103_16 : aIns 103 16 = some (.ireturn, 1, 0, 0, .null) := by decide +kernel
theorem i_103_17 : aIns 103 17 = some (.aload_n 0, 1, 0, 0, .null) := by decide +kernel
theorem i_103_18 : aIns 103 18 = some (.getfield 10, 3, 11, 0, .null) := by decide +kernel
theorem i_103_21 : aIns 103 21 = some (.iload_n 1, 1, 0, 0, .null) := by decide +kernel
theorem i_103_22 : aIns 103 22 = some (.putfield 72, 3, 8, 1, .null) := by decide +kernel
theorem i_103_25 : aIns 103 25 = some (.iload_n 1, 1, 0, 0, .null) := by decide +kernel
theorem i_103_26 : aIns 103 26 = some (.ireturn, 1, 0, 0, .null) := by decide +kernel
theorem i_104_0 : aIns 104 0 = some (.new 80, 3, 5, 0, .null) := by decide +kernel
theorem i_104_3 : aIns 104 3 = some (.dup, 1, 0, 0, .null) := by decide +kernel
theorem i_104_4 : aIns 104 4 = some (.invokespecial 82, 3, 54, 0, .int 5) := by decide +kernel
theorem i_104_7 : aIns 104 7 = some (.astore_n 1, 1, 0, 0, .null) := by decide +kernel
theorem i_104_8 : aIns 104 8 = some (.aload_n 0, 1, 0, 0, .null) := by decide +kernel
theorem i_104_9 : aIns 104 9 = some (.getfield 21, 3, 11, 1, .null) := by decide +kernel
theorem i_104_12 : aIns 104 12 = some (.aload_n 1, 1, 0, 0, .null) := by decide +kernel
theorem i_104_13 : aIns 104 13 = some (.invokevirtual 83, 3, 60, 1, .int 6) := by decide +kernel
theorem i_104_16 : aIns 104 16 = some (.istore_n 2, 1, 0, 0, .null) := by decide +kernel
theorem i_104_17 : aIns 104 17 = some (.aload_n 0, 1, 0, 0, .null) := by decide +kernel
theorem i_104_18 : aIns 104 18 = some (.getfield 10, 3, 11, 0, .null) := by decide +kernel
theorem i_104_21 : aIns 104 21 = some (.iconst 0, 1, 0, 0, .int (0)) := by decide +kernel
theorem i_104_22 : aIns 104 22 = some (.putfield 72, 3, 8, 1, .null) := by decide +kernel
theorem i_104_25 : aIns 104 25 = some (.iload_n 2, 1, 0, 0, .null) := by decide +kernel
theorem i_104_26 : aIns 104 26 = some (.ifCond .eq 8, 3, 0, 0, .null) := by decide +kernel
theorem i_104_29 : aIns 104 29 = some (.bipush (-2), 2, 0, 0, .int (-2)) := by decide +kernel
theorem i_104_31 : aIns 104 31 = some (.iload_n 2, 1, 0, 0, .null) := by decide +kernel
theorem i_104_32 : aIns 104 32 = some (.isub, 1, 0, 0, .null) := by decide +kernel
theorem i_104_33 : aIns 104 33 = some (.ireturn, 1, 0, 0, .null) := by decide +kernel
theorem i_104_34 : aIns 104 34 = some (.aload_n 0, 1, 0, 0, .null) := by decide +kernel
theorem i_104_35 : aIns 104 35 = some (.getfield 35, 3, 11, 3, .null) := by decide +kernel
theorem i_104_38 : aIns 104 38 = some (.aload_n 1, 1, 0, 0, .null) := by decide +kernel
theorem i_104_39 : aIns 104 39 = some (.invokevirtual 87, 3, 98, 1, .int 10) := by decide +kernel
theorem i_104_42 : aIns 104 42 = some (.aload_n 0, 1, 0, 0, .null) := by decide +kernel
theorem i_104_43 : aIns 104 43 = some (.getfield 60, 3, 11, 6, .null) := by decide +kernel
theorem i_104_46 : aIns 104 46 = some (.invokevirtual 91, 3, 10, 0, .int 1) := by decide +kernel
theorem i_104_49 : aIns 104 49 = some (.aload_n 1, 1, 0, 0, .null) := by decide +kernel
theorem i_104_50 : aIns 104 50 = some (.getfield 94, 3, 5, 4, .null) := by decide +kernel
theorem i_104_53 : aIns 104 53 = some (.ireturn, 1, 0, 0, .null) := by decide +kernel
theorem i_105_0 : aIns 105 0 = some (.aload_n 0, 1, 0, 0, .null) := by decide +kernel
theorem i_105_1 : aIns 105 1 = some (.getfield 44, 3, 11, 4, .null) := by decide +kernel
theorem i_105_4 : aIns 105 4 = some (.getfield 97, 3, 9, 2, .null) := by decide +kernel
theorem i_105_7 : aIns 105 7 = some (.bipush 6, 2, 0, 0, .int (6)) := by decide +kernel
theorem i_105_9 : aIns 105 9 = some (.if_icmp .lt 5, 3, 0, 0, .null) := by decide +kernel
theorem i_105_12 : aIns 105 12 = some (.iconst (-1), 1, 0, 0, .int (-1)) := by decide +kernel
theorem i_105_13 : aIns 105 13 = some (.ireturn, 1, 0, 0, .null) := by decide +kernel
theorem i_105_14 : aIns 105 14 = some (.aload_n 0, 1, 0, 0, .null) := by decide +kernel
theorem i_105_15 : aIns 105 15 = some (.getfield 28, 3, 11, 2, .null) := by decide +kernel
theorem i_105_18 : aIns 105 18 = some (.aload_n 0, 1, 0, 0, .null) := by decide +kernel
theorem i_105_19 : aIns 105 19 = some (.getfield 44, 3, 11, 4, .null) := by decide +kernel
theorem i_105_22 : aIns 105 22 = some (.getfield 100, 3, 9, 1, .null) := by decide +kernel
theorem i_105_25 : aIns 105 25 = some (.aload_n 0, 1, 0, 0, .null) := by decide +kernel
theorem i_105_26 : aIns 105 26 = some (.getfield 44, 3, 11, 4, .null) := by decide +kernel
theorem i_105_29 : aIns 105 29 = some (.getfield 97, 3, 9, 2, .null) := by decide +kernel
theorem i_105_32 : aIns 105 32 = some (.aaload, 1, 0, 0, .null) := by decide +kernel
theorem i_105_33 : aIns 105 33 = some (.invokevirtual 104, 3, 45, 1, .int 4) := by decide +kernel
theorem i_105_36 : aIns 105 36 = some (.istore_n 1, 1, 0, 0, .null) := by decide +kernel
theorem i_105_37 : aIns 105 37 = some (.aload_n 0, 1, 0, 0, .null) := by decide +kernel
theorem i_105_38 : aIns 105 38 = some (.getfield 10, 3, 11, 0, .null) := by decide +kernel
theorem i_105_41 : aIns 105 41 = some (.iconst 0, 1, 0, 0, .int (0)) := by decide +kernel
theorem i_105_42 : aIns 105 42 = some (.putfield 72, 3, 8, 1, .null) := by decide +kernel
theorem i_105_45 : aIns 105 45 = some (.iload_n 1, 1, 0, 0, .null) := by decide +kernel
theorem i_105_46 : aIns 105 46 = some (.ifCond .eq 8, 3, 0, 0, .null) := by decide +kernel
theorem i_105_49 : aIns 105 49 = some (.bipush (-2), 2, 0, 0, .int (-2)) := by decide +kernel
theorem i_105_51 : aIns 105 51 = some (.iload_n 1, 1, 0, 0, .null) := by decide +kernel
theorem i_105_52 : aIns 105 52 = some (.isub, 1, 0, 0, .null) := by decide +kernel
theorem i_105_53 : aIns 105 53 = some (.ireturn, 1, 0, 0, .null) := by decide +kernel
theorem i_105_54 : aIns 105 54 = some (.aload_n 0, 1, 0, 0, .null) := by decide +kernel
theorem i_105_55 : aIns 105 55 = some (.getfield 44, 3, 11, 4, .null) := by decide +kernel
theorem i_105_58 : aIns 105 58 = some (.dup, 1, 0, 0, .null) := by decide +kernel
theorem i_105_59 : aIns 105 59 = some (.getfield 97, 3, 9, 2, .null) := by decide +kernel
theorem i_105_62 : aIns 105 62 = some (.iconst 1, 1, 0, 0, .int (1)) := by decide +kernel
theorem i_105_63 : aIns 105 63 = some (.iadd, 1, 0, 0, .null) := by decide +kernel
theorem i_105_64 : aIns 105 64 = some (.putfield 97, 3, 9, 2, .null) := by decide +kernel
theorem i_105_67 : aIns 105 67 = some (.aload_n 0, 1, 0, 0, .null) := by decide +kernel
theorem i_105_68 : aIns 105 68 = some (.getfield 44, 3, 11, 4, .null) := by decide +kernel
theorem i_105_71 : aIns 105 71 = some (.getfield 97, 3, 9, 2, .null) := by decide +kernel
theorem i_105_74 : aIns 105 74 = some (.iconst 1, 1, 0, 0, .int (1)) := by decide +kernel
theorem i_105_75 : aIns 105 75 = some (.isub, 1, 0, 0, .null) := by decide +kernel
theorem i_105_76 : aIns 105 76 = some (.ireturn, 1, 0, 0, .null) := by decide +kernel
def j_61_194 (g : Nat) (a0 : Nat) (x1 : Int32) (h0 : aH) : Option (aH) := (if isO h0 a0 6 = true then ((d_67 g a0 x1 h0).bind (fun z_4 => some z_4)) else none)
set_option maxHeartbeats 4000000 in
set_option maxRecDepth 100000 in
theorem j_61_194_ok {X : aX} {g : Nat} {a0 : Nat} {x1 : Int32} {h0 : aH} {zz : aH} {d : Nat} (hdp : 4 ≤ d) (hd : j_61_194 g a0 x1 h0 = some zz) : aWp X d 61 194 [some (.ref a0), some (.int x1)] [] h0 (fun w h' => w = none ∧ h' = zz) := by
  unfold j_61_194 at hd
  obtain ⟨e, rfl⟩ : ∃ e, d = e + 1 := ⟨d - 1, by omega⟩
  refine wp_s 195 [some (.ref a0), some (.int x1)] [.ref a0] h0 i_61_194 rfl ?_
  refine wp_s 196 [some (.ref a0), some (.int x1)] [.int x1, .ref a0] h0 i_61_195 rfl ?_
  obtain ⟨k_1, hd⟩ := dk_if hd
  obtain ⟨fs_2, o_3⟩ := isO_of k_1
  obtain ⟨z_4, q_5, hd⟩ := dk_bind hd
  refine wp_callV 199 rfl i_61_196 (by decide) rfl (vs := [.int x1]) (rest := []) rfl rfl rfl o_3 (y := m_67) rfl (Nat.le_of_ble_eq_true rfl) (d_67_ok (d := e) (by omega) q_5) ?_
  rintro v_6 h_7 ⟨rfl, hz⟩
  have hz := hz.symm
  subst hz
  obtain rfl := Option.some.inj hd
  exact wp_ret i_61_199 rfl ⟨rfl, rfl⟩
def j_61_37 (g : Nat) (a0 : Nat) (x1 : Int32) (h0 : aH) : Option (aH) := (if isO h0 a0 6 = true then ((d_62 g a0 x1 h0).bind (fun z_4 => (if z_4.1 = 0 then ((gI z_4.2 a0 6 2).bind (fun f_9 => ((sF z_4.2 a0 6 2 (.int (f_9 + (1 : Int32)))).bind (fun h_11 => ((gR h_11 a0 6 0).bind (fun f_13 => (if isO h_11 f_13 8 = true then ((d_84 g f_13 h_11).bind (fun z_18 => (if x1 = (0 : Int32) then (if isO z_18 a0 6 = true then ((d_64 g a0 z_18).bind (fun z_26 => some z_26)) else none) else (if x1 = (1 : Int32) then (j_61_194 g a0 x1 z_18) else (if x1 = (2 : Int32) then (if isO z_18 a0 6 = true then ((d_66 g a0 z_18).bind (fun z_35 => some z_35)) else none) else (if x1 = (3 : Int32) then (j_61_194 g a0 x1 z_18) else (if x1 = (4 : Int32) then (j_61_194 g a0 x1 z_18) else (if x1 = (5 : Int32) then (j_61_194 g a0 x1 z_18) else (if x1 = (6 : Int32) then (j_61_194 g a0 x1 z_18) else (if x1 = (7 : Int32) then (j_61_194 g a0 x1 z_18) else (if x1 = (8 : Int32) then (if isO z_18 a0 6 = true then ((d_63 g a0 z_18).bind (fun z_48 => some z_48)) else none) else (if x1 = (9 : Int32) then (if isO z_18 a0 6 = true then ((d_65 g a0 z_18).bind (fun z_56 => some z_56)) else none) else (if x1 = (10 : Int32) then (j_61_194 g a0 x1 z_18) else (if x1 = (11 : Int32) then (j_61_194 g a0 x1 z_18) else (if x1 = (12 : Int32) then (j_61_194 g a0 x1 z_18) else (if x1 = (13 : Int32) then (if isO z_18 a0 6 = true then ((d_68 g a0 z_18).bind (fun z_67 => some z_67)) else none) else (if x1 = (14 : Int32) then ((gR z_18 a0 6 1).bind (fun f_72 => ((sF z_18 f_72 5 3 (.int (1 : Int32))).bind (fun h_74 => some h_74)))) else (j_61_194 g a0 x1 z_18)))))))))))))))))) else none))))))) else ((gR z_4.2 a0 6 0).bind (fun f_77 => (if isO z_4.2 f_77 8 = true then ((d_83 g f_77 (4 : Int32) z_4.2).bind (fun z_82 => some z_82)) else none)))))) else none)
set_option maxHeartbeats 4000000 in
set_option maxRecDepth 100000 in
theorem j_61_37_ok {X : aX} {g : Nat} {a0 : Nat} {x1 : Int32} {h0 : aH} {zz : aH} {d : Nat} (hdp : 4 ≤ d) (hd : j_61_37 g a0 x1 h0 = some zz) : aWp X d 61 37 [some (.ref a0), some (.int x1)] [] h0 (fun w h' => w = none ∧ h' = zz) := by
  unfold j_61_37 at hd
  obtain ⟨e, rfl⟩ : ∃ e, d = e + 1 := ⟨d - 1, by omega⟩
  refine wp_s 38 [some (.ref a0), some (.int x1)] [.ref a0] h0 i_61_37 rfl ?_
  refine wp_s 39 [some (.ref a0), some (.int x1)] [.int x1, .ref a0] h0 i_61_38 rfl ?_
  obtain ⟨k_1, hd⟩ := dk_if hd
  obtain ⟨fs_2, o_3⟩ := isO_of k_1
  obtain ⟨z_4, q_5, hd⟩ := dk_bind hd
  refine wp_callV 42 rfl i_61_39 (by decide) rfl (vs := [.int x1]) (rest := []) rfl rfl rfl o_3 (y := m_62) rfl (Nat.le_of_ble_eq_true rfl) (d_62_ok (d := e) (by omega) q_5) ?_
  rintro v_6 h_7 ⟨rfl, rfl⟩
  refine wp_if_eq 54 45 rfl rfl i_61_42 (fun c_8 => ?_) (fun c_8 => ?_)
  · rw [if_pos c_8] at hd
    refine wp_s 55 [some (.ref a0), some (.int x1)] [.ref a0] z_4.2 i_61_54 rfl ?_
    refine wp_s 56 [some (.ref a0), some (.int x1)] [.ref a0, .ref a0] z_4.2 i_61_55 rfl ?_
    obtain ⟨f_9, q_10, hd⟩ := dk_bind hd
    refine hp_gI 59 rfl i_61_56 q_10 ?_
    refine wp_s 60 [some (.ref a0), some (.int x1)] [.int (1 : Int32), .int f_9, .ref a0] z_4.2 i_61_59 rfl ?_
    refine wp_s 61 [some (.ref a0), some (.int x1)] [.int (f_9 + (1 : Int32)), .ref a0] z_4.2 i_61_60 rfl ?_
    obtain ⟨h_11, q_12, hd⟩ := dk_bind hd
    refine hp_sF 64 rfl i_61_61 q_12 ?_
    refine wp_s 65 [some (.ref a0), some (.int x1)] [.ref a0] h_11 i_61_64 rfl ?_
    obtain ⟨f_13, q_14, hd⟩ := dk_bind hd
    refine hp_gR 68 rfl i_61_65 q_14 ?_
    obtain ⟨k_15, hd⟩ := dk_if hd
    obtain ⟨fs_16, o_17⟩ := isO_of k_15
    obtain ⟨z_18, q_19, hd⟩ := dk_bind hd
    refine wp_callV 71 rfl i_61_68 (by decide) rfl (vs := []) (rest := []) rfl rfl rfl o_17 (y := m_84) rfl (Nat.le_of_ble_eq_true rfl) (d_84_ok (d := e) (by omega) q_19) ?_
    rintro v_20 h_21 ⟨rfl, hz⟩
    have hz := hz.symm
    subst hz
    refine wp_s 72 [some (.ref a0), some (.int x1)] [.int x1] z_18 i_61_71 rfl ?_
    by_cases c_22 : x1 = (0 : Int32)
    · rw [if_pos c_22] at hd
      refine wp_tswC (j := 0) 155 i_61_72 (by rw [c_22]; decide) (by decide) rfl rfl ?_
      refine wp_s 156 [some (.ref a0), some (.int x1)] [.ref a0] z_18 i_61_155 rfl ?_
      obtain ⟨k_23, hd⟩ := dk_if hd
      obtain ⟨fs_24, o_25⟩ := isO_of k_23
      obtain ⟨z_26, q_27, hd⟩ := dk_bind hd
      refine wp_callV 159 rfl i_61_156 (by decide) rfl (vs := []) (rest := []) rfl rfl rfl o_25 (y := m_64) rfl (Nat.le_of_ble_eq_true rfl) (d_64_ok (d := e) (by omega) q_27) ?_
      rintro v_28 h_29 ⟨rfl, hz⟩
      have hz := hz.symm
      subst hz
      refine wp_s 199 [some (.ref a0), some (.int x1)] [] z_26 i_61_159 rfl ?_
      obtain rfl := Option.some.inj hd
      exact wp_ret i_61_199 rfl ⟨rfl, rfl⟩
    rw [if_neg c_22] at hd
    by_cases c_30 : x1 = (1 : Int32)
    · rw [if_pos c_30] at hd
      refine wp_tswC (j := 1) 194 i_61_72 (by rw [c_30]; decide) (by decide) rfl rfl ?_
      exact aWp.forget (j_61_194_ok hdp hd) (lvS (lvS lvE))
    rw [if_neg c_30] at hd
    by_cases c_31 : x1 = (2 : Int32)
    · rw [if_pos c_31] at hd
      refine wp_tswC (j := 2) 169 i_61_72 (by rw [c_31]; decide) (by decide) rfl rfl ?_
      refine wp_s 170 [some (.ref a0), some (.int x1)] [.ref a0] z_18 i_61_169 rfl ?_
      obtain ⟨k_32, hd⟩ := dk_if hd
      obtain ⟨fs_33, o_34⟩ := isO_of k_32
      obtain ⟨z_35, q_36, hd⟩ := dk_bind hd
      refine wp_callV 173 rfl i_61_170 (by decide) rfl (vs := []) (rest := []) rfl rfl rfl o_34 (y := m_66) rfl (Nat.le_of_ble_eq_true rfl) (d_66_ok (d := e) (by omega) q_36) ?_
      rintro v_37 h_38 ⟨rfl, hz⟩
      have hz := hz.symm
      subst hz
      refine wp_s 199 [some (.ref a0), some (.int x1)] [] z_35 i_61_173 rfl ?_
      obtain rfl := Option.some.inj hd
      exact wp_ret i_61_199 rfl ⟨rfl, rfl⟩
    rw [if_neg c_31] at hd
    by_cases c_39 : x1 = (3 : Int32)
    · rw [if_pos c_39] at hd
      refine wp_tswC (j := 3) 194 i_61_72 (by rw [c_39]; decide) (by decide) rfl rfl ?_
      exact aWp.forget (j_61_194_ok hdp hd) (lvS (lvS lvE))
    rw [if_neg c_39] at hd
    by_cases c_40 : x1 = (4 : Int32)
    · rw [if_pos c_40] at hd
      refine wp_tswC (j := 4) 194 i_61_72 (by rw [c_40]; decide) (by decide) rfl rfl ?_
      exact aWp.forget (j_61_194_ok hdp hd) (lvS (lvS lvE))
    rw [if_neg c_40] at hd
    by_cases c_41 : x1 = (5 : Int32)
    · rw [if_pos c_41] at hd
      refine wp_tswC (j := 5) 194 i_61_72 (by rw [c_41]; decide) (by decide) rfl rfl ?_
      exact aWp.forget (j_61_194_ok hdp hd) (lvS (lvS lvE))
    rw [if_neg c_41] at hd
    by_cases c_42 : x1 = (6 : Int32)
    · rw [if_pos c_42] at hd
      refine wp_tswC (j := 6) 194 i_61_72 (by rw [c_42]; decide) (by decide) rfl rfl ?_
      exact aWp.forget (j_61_194_ok hdp hd) (lvS (lvS lvE))
    rw [if_neg c_42] at hd
    by_cases c_43 : x1 = (7 : Int32)
    · rw [if_pos c_43] at hd
      refine wp_tswC (j := 7) 194 i_61_72 (by rw [c_43]; decide) (by decide) rfl rfl ?_
      exact aWp.forget (j_61_194_ok hdp hd) (lvS (lvS lvE))
    rw [if_neg c_43] at hd
    by_cases c_44 : x1 = (8 : Int32)
    · rw [if_pos c_44] at hd
      refine wp_tswC (j := 8) 148 i_61_72 (by rw [c_44]; decide) (by decide) rfl rfl ?_
      refine wp_s 149 [some (.ref a0), some (.int x1)] [.ref a0] z_18 i_61_148 rfl ?_
      obtain ⟨k_45, hd⟩ := dk_if hd
      obtain ⟨fs_46, o_47⟩ := isO_of k_45
      obtain ⟨z_48, q_49, hd⟩ := dk_bind hd
      refine wp_callV 152 rfl i_61_149 (by decide) rfl (vs := []) (rest := []) rfl rfl rfl o_47 (y := m_63) rfl (Nat.le_of_ble_eq_true rfl) (d_63_ok (d := e) (by omega) q_49) ?_
      rintro v_50 h_51 ⟨rfl, hz⟩
      have hz := hz.symm
      subst hz
      refine wp_s 199 [some (.ref a0), some (.int x1)] [] z_48 i_61_152 rfl ?_
      obtain rfl := Option.some.inj hd
      exact wp_ret i_61_199 rfl ⟨rfl, rfl⟩
    rw [if_neg c_44] at hd
    by_cases c_52 : x1 = (9 : Int32)
    · rw [if_pos c_52] at hd
      refine wp_tswC (j := 9) 162 i_61_72 (by rw [c_52]; decide) (by decide) rfl rfl ?_
      refine wp_s 163 [some (.ref a0), some (.int x1)] [.ref a0] z_18 i_61_162 rfl ?_
      obtain ⟨k_53, hd⟩ := dk_if hd
      obtain ⟨fs_54, o_55⟩ := isO_of k_53
      obtain ⟨z_56, q_57, hd⟩ := dk_bind hd
      refine wp_callV 166 rfl i_61_163 (by decide) rfl (vs := []) (rest := []) rfl rfl rfl o_55 (y := m_65) rfl (Nat.le_of_ble_eq_true rfl) (d_65_ok (d := e) (by omega) q_57) ?_
      rintro v_58 h_59 ⟨rfl, hz⟩
      have hz := hz.symm
      subst hz
      refine wp_s 199 [some (.ref a0), some (.int x1)] [] z_56 i_61_166 rfl ?_
      obtain rfl := Option.some.inj hd
      exact wp_ret i_61_199 rfl ⟨rfl, rfl⟩
    rw [if_neg c_52] at hd
    by_cases c_60 : x1 = (10 : Int32)
    · rw [if_pos c_60] at hd
      refine wp_tswC (j := 10) 194 i_61_72 (by rw [c_60]; decide) (by decide) rfl rfl ?_
      exact aWp.forget (j_61_194_ok hdp hd) (lvS (lvS lvE))
    rw [if_neg c_60] at hd
    by_cases c_61 : x1 = (11 : Int32)
    · rw [if_pos c_61] at hd
      refine wp_tswC (j := 11) 194 i_61_72 (by rw [c_61]; decide) (by decide) rfl rfl ?_
      exact aWp.forget (j_61_194_ok hdp hd) (lvS (lvS lvE))
    rw [if_neg c_61] at hd
    by_cases c_62 : x1 = (12 : Int32)
    · rw [if_pos c_62] at hd
      refine wp_tswC (j := 12) 194 i_61_72 (by rw [c_62]; decide) (by decide) rfl rfl ?_
      exact aWp.forget (j_61_194_ok hdp hd) (lvS (lvS lvE))
    rw [if_neg c_62] at hd
    by_cases c_63 : x1 = (13 : Int32)
    · rw [if_pos c_63] at hd
      refine wp_tswC (j := 13) 176 i_61_72 (by rw [c_63]; decide) (by decide) rfl rfl ?_
      refine wp_s 177 [some (.ref a0), some (.int x1)] [.ref a0] z_18 i_61_176 rfl ?_
      obtain ⟨k_64, hd⟩ := dk_if hd
      obtain ⟨fs_65, o_66⟩ := isO_of k_64
      obtain ⟨z_67, q_68, hd⟩ := dk_bind hd
      refine wp_callV 180 rfl i_61_177 (by decide) rfl (vs := []) (rest := []) rfl rfl rfl o_66 (y := m_68) rfl (Nat.le_of_ble_eq_true rfl) (d_68_ok (d := e) (by omega) q_68) ?_
      rintro v_69 h_70 ⟨rfl, hz⟩
      have hz := hz.symm
      subst hz
      refine wp_s 199 [some (.ref a0), some (.int x1)] [] z_67 i_61_180 rfl ?_
      obtain rfl := Option.some.inj hd
      exact wp_ret i_61_199 rfl ⟨rfl, rfl⟩
    rw [if_neg c_63] at hd
    by_cases c_71 : x1 = (14 : Int32)
    · rw [if_pos c_71] at hd
      refine wp_tswC (j := 14) 183 i_61_72 (by rw [c_71]; decide) (by decide) rfl rfl ?_
      refine wp_s 184 [some (.ref a0), some (.int x1)] [.ref a0] z_18 i_61_183 rfl ?_
      obtain ⟨f_72, q_73, hd⟩ := dk_bind hd
      refine hp_gR 187 rfl i_61_184 q_73 ?_
      refine wp_s 188 [some (.ref a0), some (.int x1)] [.int (1 : Int32), .ref f_72] z_18 i_61_187 rfl ?_
      obtain ⟨h_74, q_75, hd⟩ := dk_bind hd
      refine hp_sF 191 rfl i_61_188 q_75 ?_
      refine wp_s 199 [some (.ref a0), some (.int x1)] [] h_74 i_61_191 rfl ?_
      obtain rfl := Option.some.inj hd
      exact wp_ret i_61_199 rfl ⟨rfl, rfl⟩
    rw [if_neg c_71] at hd
    have o_76 : (x1).toInt < (0 : Int) ∨ (14 : Int) < (x1).toInt := by
      have e_0 := lv_neT c_22 (a := 0) (by decide)
      have e_1 := lv_neT c_30 (a := 1) (by decide)
      have e_2 := lv_neT c_31 (a := 2) (by decide)
      have e_3 := lv_neT c_39 (a := 3) (by decide)
      have e_4 := lv_neT c_40 (a := 4) (by decide)
      have e_5 := lv_neT c_41 (a := 5) (by decide)
      have e_6 := lv_neT c_42 (a := 6) (by decide)
      have e_7 := lv_neT c_43 (a := 7) (by decide)
      have e_8 := lv_neT c_44 (a := 8) (by decide)
      have e_9 := lv_neT c_52 (a := 9) (by decide)
      have e_10 := lv_neT c_60 (a := 10) (by decide)
      have e_11 := lv_neT c_61 (a := 11) (by decide)
      have e_12 := lv_neT c_62 (a := 12) (by decide)
      have e_13 := lv_neT c_63 (a := 13) (by decide)
      have e_14 := lv_neT c_71 (a := 14) (by decide)
      omega
    refine wp_tswD 194 i_61_72 o_76 rfl ?_
    exact aWp.forget (j_61_194_ok hdp hd) (lvS (lvS lvE))
  · rw [if_neg c_8] at hd
    refine wp_s 46 [some (.ref a0), some (.int x1)] [.ref a0] z_4.2 i_61_45 rfl ?_
    obtain ⟨f_77, q_78, hd⟩ := dk_bind hd
    refine hp_gR 49 rfl i_61_46 q_78 ?_
    refine wp_s 50 [some (.ref a0), some (.int x1)] [.int (4 : Int32), .ref f_77] z_4.2 i_61_49 rfl ?_
    obtain ⟨k_79, hd⟩ := dk_if hd
    obtain ⟨fs_80, o_81⟩ := isO_of k_79
    obtain ⟨z_82, q_83, hd⟩ := dk_bind hd
    refine wp_callV 53 rfl i_61_50 (by decide) rfl (vs := [.int (4 : Int32)]) (rest := []) rfl rfl rfl o_81 (y := m_83) rfl (Nat.le_of_ble_eq_true rfl) (d_83_ok (d := e) (by omega) q_83) ?_
    rintro v_84 h_85 ⟨rfl, hz⟩
    have hz := hz.symm
    subst hz
    obtain rfl := Option.some.inj hd
    exact wp_ret i_61_53 rfl ⟨rfl, rfl⟩
def d_61 (g : Nat) (a0 : Nat) (h0 : aH) : Option (aH) := ((gR h0 a0 6 0).bind (fun f_1 => ((gI h0 f_1 8 3).bind (fun f_3 => (if f_3 = 0 then (j_61_37 g a0 f_3 h0) else (if f_3 = (2 : Int32) then (j_61_37 g a0 f_3 h0) else ((d_138 g f_3 (8 : Int32) (14 : Int32) h0).bind (fun z_7 => (if ¬ z_7.1 = 0 then (j_61_37 g a0 f_3 z_7.2) else ((gR z_7.2 a0 6 0).bind (fun f_12 => (if isO z_7.2 f_12 8 = true then ((d_83 g f_12 (0 : Int32) z_7.2).bind (fun z_17 => some z_17)) else none))))))))))))
set_option maxHeartbeats 4000000 in
set_option maxRecDepth 100000 in
theorem d_61_ok {X : aX} {g : Nat} {a0 : Nat} {h0 : aH} {zz : aH} {d : Nat} (hdp : 4 ≤ d) (hd : d_61 g a0 h0 = some zz) : aWp X d 61 0 (aEntL [.ref a0] 2) [] h0 (fun w h' => w = none ∧ h' = zz) := by
  unfold d_61 at hd
  refine wp_lv (l2 := [some (.ref a0), none]) rfl ?_
  obtain ⟨e, rfl⟩ : ∃ e, d = e + 1 := ⟨d - 1, by omega⟩
  refine wp_s 1 [some (.ref a0), none] [.ref a0] h0 i_61_0 rfl ?_
  obtain ⟨f_1, q_2, hd⟩ := dk_bind hd
  refine hp_gR 4 rfl i_61_1 q_2 ?_
  obtain ⟨f_3, q_4, hd⟩ := dk_bind hd
  refine hp_gI 7 rfl i_61_4 q_4 ?_
  refine wp_s 8 [some (.ref a0), some (.int f_3)] [] h0 i_61_7 rfl ?_
  refine wp_s 9 [some (.ref a0), some (.int f_3)] [.int f_3] h0 i_61_8 rfl ?_
  refine wp_if_eq 37 12 rfl rfl i_61_9 (fun c_5 => ?_) (fun c_5 => ?_)
  · rw [if_pos c_5] at hd
    exact aWp.forget (j_61_37_ok hdp hd) (lvS (lvS lvE))
  · rw [if_neg c_5] at hd
    refine wp_s 13 [some (.ref a0), some (.int f_3)] [.int f_3] h0 i_61_12 rfl ?_
    refine wp_s 14 [some (.ref a0), some (.int f_3)] [.int (2 : Int32), .int f_3] h0 i_61_13 rfl ?_
    refine wp_cmp_eq 37 17 rfl rfl i_61_14 (fun c_6 => ?_) (fun c_6 => ?_)
    · rw [if_pos c_6] at hd
      exact aWp.forget (j_61_37_ok hdp hd) (lvS (lvS lvE))
    · rw [if_neg c_6] at hd
      refine wp_s 18 [some (.ref a0), some (.int f_3)] [.int f_3] h0 i_61_17 rfl ?_
      refine wp_s 20 [some (.ref a0), some (.int f_3)] [.int (8 : Int32), .int f_3] h0 i_61_18 rfl ?_
      refine wp_s 22 [some (.ref a0), some (.int f_3)] [.int (14 : Int32), .int (8 : Int32), .int f_3] h0 i_61_20 rfl ?_
      obtain ⟨z_7, q_8, hd⟩ := dk_bind hd
      refine wp_callS 25 rfl i_61_22 (by decide) (vs := [.int f_3, .int (8 : Int32), .int (14 : Int32)]) (rest := []) rfl rfl rfl (y := m_138) rfl (Nat.le_of_ble_eq_true rfl) (d_138_ok (d := e) (by omega) q_8) ?_
      rintro v_9 h_10 ⟨rfl, rfl⟩
      refine wp_if_ne 37 28 rfl rfl i_61_25 (fun c_11 => ?_) (fun c_11 => ?_)
      · rw [if_pos c_11] at hd
        exact aWp.forget (j_61_37_ok hdp hd) (lvS (lvS lvE))
      · rw [if_neg c_11] at hd
        refine wp_s 29 [some (.ref a0), some (.int f_3)] [.ref a0] z_7.2 i_61_28 rfl ?_
        obtain ⟨f_12, q_13, hd⟩ := dk_bind hd
        refine hp_gR 32 rfl i_61_29 q_13 ?_
        refine wp_s 33 [some (.ref a0), some (.int f_3)] [.int (0 : Int32), .ref f_12] z_7.2 i_61_32 rfl ?_
        obtain ⟨k_14, hd⟩ := dk_if hd
        obtain ⟨fs_15, o_16⟩ := isO_of k_14
        obtain ⟨z_17, q_18, hd⟩ := dk_bind hd
        refine wp_callV 36 rfl i_61_33 (by decide) rfl (vs := [.int (0 : Int32)]) (rest := []) rfl rfl rfl o_16 (y := m_83) rfl (Nat.le_of_ble_eq_true rfl) (d_83_ok (d := e) (by omega) q_18) ?_
        rintro v_19 h_20 ⟨rfl, hz⟩
        have hz := hz.symm
        subst hz
        obtain rfl := Option.some.inj hd
        exact wp_ret i_61_36 rfl ⟨rfl, rfl⟩
def l_60 (g n tag : Nat) (a0 : Nat) (a1 : Nat) (x2 : Int32) (h0 : aH) : Option (Int32 × aH) := match n with
  | 0 => none
  | n + 1 => if tag = 0 then (if (400 : Int32) ≤ x2 then (l_60 g n 1 a0 a1 x2 h0) else ((gR h0 a0 6 0).bind (fun f_2 => ((gI h0 f_2 8 3).bind (fun f_4 => (if ¬ f_4 = (23 : Int32) then (l_60 g n 1 a0 a1 x2 h0) else ((gR h0 a0 6 0).bind (fun f_7 => (if isO h0 f_7 8 = true then ((d_84 g f_7 h0).bind (fun z_12 => (if isO z_12 a0 6 = true then ((d_61 g a0 z_12).bind (fun z_19 => (l_60 g n 0 a0 a1 (x2 + (1 : Int32)) z_19))) else none))) else none))))))))) else if tag = 1 then ((gR h0 a0 6 0).bind (fun f_23 => ((gI h0 f_23 8 3).bind (fun f_25 => (if f_25 = (21 : Int32) then (l_60 g n 2 a0 a1 x2 h0) else ((gR h0 a0 6 0).bind (fun f_28 => (if isO h0 f_28 8 = true then ((d_83 g f_28 (0 : Int32) h0).bind (fun z_33 => (l_60 g n 2 a0 a1 x2 z_33))) else none)))))))) else if tag = 2 then ((gR h0 a0 6 1).bind (fun f_37 => ((sF h0 f_37 5 0 (.int (1 : Int32))).bind (fun h_39 => ((gR h_39 a0 6 0).bind (fun f_41 => ((gI h_39 f_41 8 6).bind (fun f_43 => some (f_43, h_39))))))))) else none
set_option maxHeartbeats 4000000 in
set_option maxRecDepth 100000 in
theorem l_60_ok {X : aX} {g : Nat} {d : Nat} (hdp : 5 ≤ d) : ∀ n, (∀ (a0 : Nat) (a1 : Nat) (x2 : Int32) (h0 : aH) (zz : Int32 × aH), l_60 g n 0 a0 a1 x2 h0 = some zz → aWp X d 60 23 [some (.ref a0), some (.ref a1), some (.int x2)] [] h0 (fun w h' => w = some (.int zz.1) ∧ h' = zz.2)) ∧ (∀ (a0 : Nat) (a1 : Nat) (x2 : Int32) (h0 : aH) (zz : Int32 × aH), l_60 g n 1 a0 a1 x2 h0 = some zz → aWp X d 60 59 [some (.ref a0), some (.ref a1), some (.int x2)] [] h0 (fun w h' => w = some (.int zz.1) ∧ h' = zz.2)) ∧ (∀ (a0 : Nat) (a1 : Nat) (x2 : Int32) (h0 : aH) (zz : Int32 × aH), l_60 g n 2 a0 a1 x2 h0 = some zz → aWp X d 60 79 [some (.ref a0), some (.ref a1), some (.int x2)] [] h0 (fun w h' => w = some (.int zz.1) ∧ h' = zz.2)) := by
  intro n
  induction n with
  | zero => exact ⟨fun _ _ _ _ _ hd => by simp [l_60] at hd, fun _ _ _ _ _ hd => by simp [l_60] at hd, fun _ _ _ _ _ hd => by simp [l_60] at hd⟩
  | succ n ih =>
    refine ⟨?_, ?_, ?_⟩
    · intro a0 a1 x2 h0 zz hd
      unfold l_60 at hd
      rw [if_pos rfl] at hd
      obtain ⟨e, rfl⟩ : ∃ e, d = e + 1 := ⟨d - 1, by omega⟩
      refine wp_s 24 [some (.ref a0), some (.ref a1), some (.int x2)] [.int x2] h0 i_60_23 rfl ?_
      refine wp_s 27 [some (.ref a0), some (.ref a1), some (.int x2)] [.int (400 : Int32), .int x2] h0 i_60_24 rfl ?_
      refine wp_cmp_ge 59 30 rfl rfl i_60_27 (fun c_1 => ?_) (fun c_1 => ?_)
      · rw [if_pos c_1] at hd
        exact aWp.forget (ih.2.1 _ _ _ _ _ hd) (lvS (lvS (lvS lvE)))
      · rw [if_neg c_1] at hd
        refine wp_s 31 [some (.ref a0), some (.ref a1), some (.int x2)] [.ref a0] h0 i_60_30 rfl ?_
        obtain ⟨f_2, q_3, hd⟩ := dk_bind hd
        refine hp_gR 34 rfl i_60_31 q_3 ?_
        obtain ⟨f_4, q_5, hd⟩ := dk_bind hd
        refine hp_gI 37 rfl i_60_34 q_5 ?_
        refine wp_s 39 [some (.ref a0), some (.ref a1), some (.int x2)] [.int (23 : Int32), .int f_4] h0 i_60_37 rfl ?_
        refine wp_cmp_ne 59 42 rfl rfl i_60_39 (fun c_6 => ?_) (fun c_6 => ?_)
        · rw [if_pos c_6] at hd
          exact aWp.forget (ih.2.1 _ _ _ _ _ hd) (lvS (lvS (lvS lvE)))
        · rw [if_neg c_6] at hd
          refine wp_s 43 [some (.ref a0), some (.ref a1), some (.int x2)] [.ref a0] h0 i_60_42 rfl ?_
          obtain ⟨f_7, q_8, hd⟩ := dk_bind hd
          refine hp_gR 46 rfl i_60_43 q_8 ?_
          obtain ⟨k_9, hd⟩ := dk_if hd
          obtain ⟨fs_10, o_11⟩ := isO_of k_9
          obtain ⟨z_12, q_13, hd⟩ := dk_bind hd
          refine wp_callV 49 rfl i_60_46 (by decide) rfl (vs := []) (rest := []) rfl rfl rfl o_11 (y := m_84) rfl (Nat.le_of_ble_eq_true rfl) (d_84_ok (d := e) (by omega) q_13) ?_
          rintro v_14 h_15 ⟨rfl, hz⟩
          have hz := hz.symm
          subst hz
          refine wp_s 50 [some (.ref a0), some (.ref a1), some (.int x2)] [.ref a0] z_12 i_60_49 rfl ?_
          obtain ⟨k_16, hd⟩ := dk_if hd
          obtain ⟨fs_17, o_18⟩ := isO_of k_16
          obtain ⟨z_19, q_20, hd⟩ := dk_bind hd
          refine wp_callV 53 rfl i_60_50 (by decide) rfl (vs := []) (rest := []) rfl rfl rfl o_18 (y := m_61) rfl (Nat.le_of_ble_eq_true rfl) (d_61_ok (d := e) (by omega) q_20) ?_
          rintro v_21 h_22 ⟨rfl, hz⟩
          have hz := hz.symm
          subst hz
          refine wp_s 56 [some (.ref a0), some (.ref a1), some (.int (x2 + (1 : Int32)))] [] z_19 i_60_53 rfl ?_
          refine wp_s 23 [some (.ref a0), some (.ref a1), some (.int (x2 + (1 : Int32)))] [] z_19 i_60_56 rfl ?_
          exact aWp.forget (ih.1 _ _ _ _ _ hd) (lvS (lvS (lvS lvE)))
    · intro a0 a1 x2 h0 zz hd
      unfold l_60 at hd
      rw [if_neg (by decide), if_pos rfl] at hd
      obtain ⟨e, rfl⟩ : ∃ e, d = e + 1 := ⟨d - 1, by omega⟩
      refine wp_s 60 [some (.ref a0), some (.ref a1), some (.int x2)] [.ref a0] h0 i_60_59 rfl ?_
      obtain ⟨f_23, q_24, hd⟩ := dk_bind hd
      refine hp_gR 63 rfl i_60_60 q_24 ?_
      obtain ⟨f_25, q_26, hd⟩ := dk_bind hd
      refine hp_gI 66 rfl i_60_63 q_26 ?_
      refine wp_s 68 [some (.ref a0), some (.ref a1), some (.int x2)] [.int (21 : Int32), .int f_25] h0 i_60_66 rfl ?_
      refine wp_cmp_eq 79 71 rfl rfl i_60_68 (fun c_27 => ?_) (fun c_27 => ?_)
      · rw [if_pos c_27] at hd
        exact aWp.forget (ih.2.2 _ _ _ _ _ hd) (lvS (lvS (lvS lvE)))
      · rw [if_neg c_27] at hd
        refine wp_s 72 [some (.ref a0), some (.ref a1), some (.int x2)] [.ref a0] h0 i_60_71 rfl ?_
        obtain ⟨f_28, q_29, hd⟩ := dk_bind hd
        refine hp_gR 75 rfl i_60_72 q_29 ?_
        refine wp_s 76 [some (.ref a0), some (.ref a1), some (.int x2)] [.int (0 : Int32), .ref f_28] h0 i_60_75 rfl ?_
        obtain ⟨k_30, hd⟩ := dk_if hd
        obtain ⟨fs_31, o_32⟩ := isO_of k_30
        obtain ⟨z_33, q_34, hd⟩ := dk_bind hd
        refine wp_callV 79 rfl i_60_76 (by decide) rfl (vs := [.int (0 : Int32)]) (rest := []) rfl rfl rfl o_32 (y := m_83) rfl (Nat.le_of_ble_eq_true rfl) (d_83_ok (d := e) (by omega) q_34) ?_
        rintro v_35 h_36 ⟨rfl, hz⟩
        have hz := hz.symm
        subst hz
        exact aWp.forget (ih.2.2 _ _ _ _ _ hd) (lvS (lvS (lvS lvE)))
    · intro a0 a1 x2 h0 zz hd
      unfold l_60 at hd
      rw [if_neg (by decide), if_neg (by decide), if_pos rfl] at hd
      obtain ⟨e, rfl⟩ : ∃ e, d = e + 1 := ⟨d - 1, by omega⟩
      refine wp_s 80 [some (.ref a0), some (.ref a1), some (.int x2)] [.ref a0] h0 i_60_79 rfl ?_
      obtain ⟨f_37, q_38, hd⟩ := dk_bind hd
      refine hp_gR 83 rfl i_60_80 q_38 ?_
      refine wp_s 84 [some (.ref a0), some (.ref a1), some (.int x2)] [.int (1 : Int32), .ref f_37] h0 i_60_83 rfl ?_
      obtain ⟨h_39, q_40, hd⟩ := dk_bind hd
      refine hp_sF 87 rfl i_60_84 q_40 ?_
      refine wp_s 88 [some (.ref a0), some (.ref a1), some (.int x2)] [.ref a0] h_39 i_60_87 rfl ?_
      obtain ⟨f_41, q_42, hd⟩ := dk_bind hd
      refine hp_gR 91 rfl i_60_88 q_42 ?_
      obtain ⟨f_43, q_44, hd⟩ := dk_bind hd
      refine hp_gI 94 rfl i_60_91 q_44 ?_
      obtain rfl := Option.some.inj hd
      exact wp_iret i_60_94 ⟨rfl, rfl⟩
def d_60 (g : Nat) (a0 : Nat) (a1 : Nat) (h0 : aH) : Option (Int32 × aH) := ((sF h0 a0 6 1 (.ref a1)).bind (fun h_1001 => ((sF h_1001 a0 6 2 (.int (0 : Int32))).bind (fun h_1003 => ((gR h_1003 a0 6 0).bind (fun f_1005 => (if isO h_1003 f_1005 8 = true then ((d_82 g f_1005 h_1003).bind (fun z_1010 => (if isO z_1010 a0 6 = true then ((d_61 g a0 z_1010).bind (fun z_1017 => (l_60 g g 0 a0 a1 (0 : Int32) z_1017))) else none))) else none)))))))
set_option maxHeartbeats 4000000 in
set_option maxRecDepth 100000 in
theorem d_60_ok {X : aX} {g : Nat} {a0 : Nat} {a1 : Nat} {h0 : aH} {zz : Int32 × aH} {d : Nat} (hdp : 5 ≤ d) (hd : d_60 g a0 a1 h0 = some zz) : aWp X d 60 0 (aEntL [.ref a0, .ref a1] 3) [] h0 (fun w h' => w = some (.int zz.1) ∧ h' = zz.2) := by
  unfold d_60 at hd
  refine wp_lv (l2 := [some (.ref a0), some (.ref a1), none]) rfl ?_
  obtain ⟨e, rfl⟩ : ∃ e, d = e + 1 := ⟨d - 1, by omega⟩
  refine wp_s 1 [some (.ref a0), some (.ref a1), none] [.ref a0] h0 i_60_0 rfl ?_
  refine wp_s 2 [some (.ref a0), some (.ref a1), none] [.ref a1, .ref a0] h0 i_60_1 rfl ?_
  obtain ⟨h_1001, q_1002, hd⟩ := dk_bind hd
  refine hp_sF 5 rfl i_60_2 q_1002 ?_
  refine wp_s 6 [some (.ref a0), some (.ref a1), none] [.ref a0] h_1001 i_60_5 rfl ?_
  refine wp_s 7 [some (.ref a0), some (.ref a1), none] [.int (0 : Int32), .ref a0] h_1001 i_60_6 rfl ?_
  obtain ⟨h_1003, q_1004, hd⟩ := dk_bind hd
  refine hp_sF 10 rfl i_60_7 q_1004 ?_
  refine wp_s 11 [some (.ref a0), some (.ref a1), none] [.ref a0] h_1003 i_60_10 rfl ?_
  obtain ⟨f_1005, q_1006, hd⟩ := dk_bind hd
  refine hp_gR 14 rfl i_60_11 q_1006 ?_
  obtain ⟨k_1007, hd⟩ := dk_if hd
  obtain ⟨fs_1008, o_1009⟩ := isO_of k_1007
  obtain ⟨z_1010, q_1011, hd⟩ := dk_bind hd
  refine wp_callV 17 rfl i_60_14 (by decide) rfl (vs := []) (rest := []) rfl rfl rfl o_1009 (y := m_82) rfl (Nat.le_of_ble_eq_true rfl) (d_82_ok (d := e) (by omega) q_1011) ?_
  rintro v_1012 h_1013 ⟨rfl, hz⟩
  have hz := hz.symm
  subst hz
  refine wp_s 18 [some (.ref a0), some (.ref a1), none] [.ref a0] z_1010 i_60_17 rfl ?_
  obtain ⟨k_1014, hd⟩ := dk_if hd
  obtain ⟨fs_1015, o_1016⟩ := isO_of k_1014
  obtain ⟨z_1017, q_1018, hd⟩ := dk_bind hd
  refine wp_callV 21 rfl i_60_18 (by decide) rfl (vs := []) (rest := []) rfl rfl rfl o_1016 (y := m_61) rfl (Nat.le_of_ble_eq_true rfl) (d_61_ok (d := e) (by omega) q_1018) ?_
  rintro v_1019 h_1020 ⟨rfl, hz⟩
  have hz := hz.symm
  subst hz
  refine wp_s 22 [some (.ref a0), some (.ref a1), none] [.int (0 : Int32)] z_1017 i_60_21 rfl ?_
  refine wp_s 23 [some (.ref a0), some (.ref a1), some (.int (0 : Int32))] [] z_1017 i_60_22 rfl ?_
  exact aWp.forget ((l_60_ok hdp g).1 _ _ _ _ _ hd) (lvS (lvS (lvS lvE)))
def d_71 (g : Nat) (a0 : Nat) (a1 : Nat) (h0 : aH) : Option (aH) := ((gR h0 a0 7 0).bind (fun f_1 => ((d_273 g f_1 (0 : Int32) h0).bind (fun z_3 => ((gR z_3 a1 5 7).bind (fun f_7 => ((gR z_3 a0 7 1).bind (fun f_9 => ((sC z_3 f_7 (0 : Int32) f_9 (0 : Int32) (8 : Int32)).bind (fun h_11 => ((gR h_11 a0 7 2).bind (fun f_13 => ((d_273 g f_13 (0 : Int32) h_11).bind (fun z_15 => ((gR z_15 a0 7 3).bind (fun f_19 => ((d_273 g f_19 (0 : Int32) z_15).bind (fun z_21 => ((gR z_21 a0 7 4).bind (fun f_25 => ((d_273 g f_25 (0 : Int32) z_21).bind (fun z_27 => ((gR z_27 a0 7 5).bind (fun f_31 => ((d_273 g f_31 (0 : Int32) z_27).bind (fun z_33 => ((sF z_33 a0 7 8 (.int (0 : Int32))).bind (fun h_37 => ((sF h_37 a0 7 9 (.int (0 : Int32))).bind (fun h_39 => ((sF h_39 a0 7 10 (.int (0 : Int32))).bind (fun h_41 => ((sF h_41 a0 7 11 (.int (0 : Int32))).bind (fun h_43 => ((sF h_43 a0 7 12 (.int (0 : Int32))).bind (fun h_45 => ((sF h_45 a0 7 13 (.int (0 : Int32))).bind (fun h_47 => some h_47))))))))))))))))))))))))))))))))))))))
set_option maxHeartbeats 4000000 in
set_option maxRecDepth 100000 in
theorem d_71_ok {X : aX} {g : Nat} {a0 : Nat} {a1 : Nat} {h0 : aH} {zz : aH} {d : Nat} (hdp : 1 ≤ d) (hd : d_71 g a0 a1 h0 = some zz) : aWp X d 71 0 (aEntL [.ref a0, .ref a1] 2) [] h0 (fun w h' => w = none ∧ h' = zz) := by
  unfold d_71 at hd
  refine wp_lv (l2 := [some (.ref a0), some (.ref a1)]) rfl ?_
  obtain ⟨e, rfl⟩ : ∃ e, d = e + 1 := ⟨d - 1, by omega⟩
  refine wp_s 1 [some (.ref a0), some (.ref a1)] [.ref a0] h0 i_71_0 rfl ?_
  obtain ⟨f_1, q_2, hd⟩ := dk_bind hd
  refine hp_gR 4 rfl i_71_1 q_2 ?_
  refine wp_s 5 [some (.ref a0), some (.ref a1)] [.int (0 : Int32), .ref f_1] h0 i_71_4 rfl ?_
  obtain ⟨z_3, q_4, hd⟩ := dk_bind hd
  refine wp_callS 8 rfl i_71_5 (by decide) (vs := [.ref f_1, .int (0 : Int32)]) (rest := []) rfl rfl rfl (y := m_273) rfl (Nat.le_of_ble_eq_true rfl) (d_273_ok (d := e) (by omega) q_4) ?_
  rintro v_5 h_6 ⟨rfl, hz⟩
  have hz := hz.symm
  subst hz
  refine wp_s 9 [some (.ref a0), some (.ref a1)] [.ref a1] z_3 i_71_8 rfl ?_
  obtain ⟨f_7, q_8, hd⟩ := dk_bind hd
  refine hp_gR 12 rfl i_71_9 q_8 ?_
  refine wp_s 13 [some (.ref a0), some (.ref a1)] [.int (0 : Int32), .ref f_7] z_3 i_71_12 rfl ?_
  refine wp_s 14 [some (.ref a0), some (.ref a1)] [.ref a0, .int (0 : Int32), .ref f_7] z_3 i_71_13 rfl ?_
  obtain ⟨f_9, q_10, hd⟩ := dk_bind hd
  refine hp_gR 17 rfl i_71_14 q_10 ?_
  refine wp_s 18 [some (.ref a0), some (.ref a1)] [.int (0 : Int32), .ref f_9, .int (0 : Int32), .ref f_7] z_3 i_71_17 rfl ?_
  refine wp_s 20 [some (.ref a0), some (.ref a1)] [.int (8 : Int32), .int (0 : Int32), .ref f_9, .int (0 : Int32), .ref f_7] z_3 i_71_18 rfl ?_
  obtain ⟨h_11, q_12, hd⟩ := dk_bind hd
  refine hp_sC 23 rfl i_71_20 rfl q_12 ?_
  refine wp_s 24 [some (.ref a0), some (.ref a1)] [.ref a0] h_11 i_71_23 rfl ?_
  obtain ⟨f_13, q_14, hd⟩ := dk_bind hd
  refine hp_gR 27 rfl i_71_24 q_14 ?_
  refine wp_s 28 [some (.ref a0), some (.ref a1)] [.int (0 : Int32), .ref f_13] h_11 i_71_27 rfl ?_
  obtain ⟨z_15, q_16, hd⟩ := dk_bind hd
  refine wp_callS 31 rfl i_71_28 (by decide) (vs := [.ref f_13, .int (0 : Int32)]) (rest := []) rfl rfl rfl (y := m_273) rfl (Nat.le_of_ble_eq_true rfl) (d_273_ok (d := e) (by omega) q_16) ?_
  rintro v_17 h_18 ⟨rfl, hz⟩
  have hz := hz.symm
  subst hz
  refine wp_s 32 [some (.ref a0), some (.ref a1)] [.ref a0] z_15 i_71_31 rfl ?_
  obtain ⟨f_19, q_20, hd⟩ := dk_bind hd
  refine hp_gR 35 rfl i_71_32 q_20 ?_
  refine wp_s 36 [some (.ref a0), some (.ref a1)] [.int (0 : Int32), .ref f_19] z_15 i_71_35 rfl ?_
  obtain ⟨z_21, q_22, hd⟩ := dk_bind hd
  refine wp_callS 39 rfl i_71_36 (by decide) (vs := [.ref f_19, .int (0 : Int32)]) (rest := []) rfl rfl rfl (y := m_273) rfl (Nat.le_of_ble_eq_true rfl) (d_273_ok (d := e) (by omega) q_22) ?_
  rintro v_23 h_24 ⟨rfl, hz⟩
  have hz := hz.symm
  subst hz
  refine wp_s 40 [some (.ref a0), some (.ref a1)] [.ref a0] z_21 i_71_39 rfl ?_
  obtain ⟨f_25, q_26, hd⟩ := dk_bind hd
  refine hp_gR 43 rfl i_71_40 q_26 ?_
  refine wp_s 44 [some (.ref a0), some (.ref a1)] [.int (0 : Int32), .ref f_25] z_21 i_71_43 rfl ?_
  obtain ⟨z_27, q_28, hd⟩ := dk_bind hd
  refine wp_callS 47 rfl i_71_44 (by decide) (vs := [.ref f_25, .int (0 : Int32)]) (rest := []) rfl rfl rfl (y := m_273) rfl (Nat.le_of_ble_eq_true rfl) (d_273_ok (d := e) (by omega) q_28) ?_
  rintro v_29 h_30 ⟨rfl, hz⟩
  have hz := hz.symm
  subst hz
  refine wp_s 48 [some (.ref a0), some (.ref a1)] [.ref a0] z_27 i_71_47 rfl ?_
  obtain ⟨f_31, q_32, hd⟩ := dk_bind hd
  refine hp_gR 51 rfl i_71_48 q_32 ?_
  refine wp_s 52 [some (.ref a0), some (.ref a1)] [.int (0 : Int32), .ref f_31] z_27 i_71_51 rfl ?_
  obtain ⟨z_33, q_34, hd⟩ := dk_bind hd
  refine wp_callS 55 rfl i_71_52 (by decide) (vs := [.ref f_31, .int (0 : Int32)]) (rest := []) rfl rfl rfl (y := m_273) rfl (Nat.le_of_ble_eq_true rfl) (d_273_ok (d := e) (by omega) q_34) ?_
  rintro v_35 h_36 ⟨rfl, hz⟩
  have hz := hz.symm
  subst hz
  refine wp_s 56 [some (.ref a0), some (.ref a1)] [.ref a0] z_33 i_71_55 rfl ?_
  refine wp_s 57 [some (.ref a0), some (.ref a1)] [.int (0 : Int32), .ref a0] z_33 i_71_56 rfl ?_
  obtain ⟨h_37, q_38, hd⟩ := dk_bind hd
  refine hp_sF 60 rfl i_71_57 q_38 ?_
  refine wp_s 61 [some (.ref a0), some (.ref a1)] [.ref a0] h_37 i_71_60 rfl ?_
  refine wp_s 62 [some (.ref a0), some (.ref a1)] [.int (0 : Int32), .ref a0] h_37 i_71_61 rfl ?_
  obtain ⟨h_39, q_40, hd⟩ := dk_bind hd
  refine hp_sF 65 rfl i_71_62 q_40 ?_
  refine wp_s 66 [some (.ref a0), some (.ref a1)] [.ref a0] h_39 i_71_65 rfl ?_
  refine wp_s 67 [some (.ref a0), some (.ref a1)] [.int (0 : Int32), .ref a0] h_39 i_71_66 rfl ?_
  obtain ⟨h_41, q_42, hd⟩ := dk_bind hd
  refine hp_sF 70 rfl i_71_67 q_42 ?_
  refine wp_s 71 [some (.ref a0), some (.ref a1)] [.ref a0] h_41 i_71_70 rfl ?_
  refine wp_s 72 [some (.ref a0), some (.ref a1)] [.int (0 : Int32), .ref a0] h_41 i_71_71 rfl ?_
  obtain ⟨h_43, q_44, hd⟩ := dk_bind hd
  refine hp_sF 75 rfl i_71_72 q_44 ?_
  refine wp_s 76 [some (.ref a0), some (.ref a1)] [.ref a0] h_43 i_71_75 rfl ?_
  refine wp_s 77 [some (.ref a0), some (.ref a1)] [.int (0 : Int32), .ref a0] h_43 i_71_76 rfl ?_
  obtain ⟨h_45, q_46, hd⟩ := dk_bind hd
  refine hp_sF 80 rfl i_71_77 q_46 ?_
  refine wp_s 81 [some (.ref a0), some (.ref a1)] [.ref a0] h_45 i_71_80 rfl ?_
  refine wp_s 82 [some (.ref a0), some (.ref a1)] [.int (0 : Int32), .ref a0] h_45 i_71_81 rfl ?_
  obtain ⟨h_47, q_48, hd⟩ := dk_bind hd
  refine hp_sF 85 rfl i_71_82 q_48 ?_
  obtain rfl := Option.some.inj hd
  exact wp_ret i_71_85 rfl ⟨rfl, rfl⟩
def l_76 (g n tag : Nat) (a0 : Nat) (x1 : Int32) (x2 : Int32) (h0 : aH) : Option (Int32 × aH) := match n with
  | 0 => none
  | n + 1 => if tag = 0 then ((gI h0 a0 7 8).bind (fun f_1 => (if f_1 ≤ x2 then some ((-1 : Int32), h0) else ((gR h0 a0 7 6).bind (fun f_4 => ((gA h0 f_4 x2).bind (fun f_6 => (if ¬ f_6 = x1 then (l_76 g n 0 a0 x1 (x2 + (1 : Int32)) h0) else some (x2, h0))))))))) else none
set_option maxHeartbeats 4000000 in
set_option maxRecDepth 100000 in
theorem l_76_ok {X : aX} {g : Nat} {d : Nat} (hdp : 0 ≤ d) : ∀ n, (∀ (a0 : Nat) (x1 : Int32) (x2 : Int32) (h0 : aH) (zz : Int32 × aH), l_76 g n 0 a0 x1 x2 h0 = some zz → aWp X d 76 2 [some (.ref a0), some (.int x1), some (.int x2)] [] h0 (fun w h' => w = some (.int zz.1) ∧ h' = zz.2)) := by
  intro n
  induction n with
  | zero => exact fun _ _ _ _ _ hd => by simp [l_76] at hd
  | succ n ih =>
    intro a0 x1 x2 h0 zz hd
    unfold l_76 at hd
    rw [if_pos rfl] at hd
    refine wp_s 3 [some (.ref a0), some (.int x1), some (.int x2)] [.int x2] h0 i_76_2 rfl ?_
    refine wp_s 4 [some (.ref a0), some (.int x1), some (.int x2)] [.ref a0, .int x2] h0 i_76_3 rfl ?_
    obtain ⟨f_1, q_2, hd⟩ := dk_bind hd
    refine hp_gI 7 rfl i_76_4 q_2 ?_
    refine wp_cmp_ge 28 10 rfl rfl i_76_7 (fun c_3 => ?_) (fun c_3 => ?_)
    · rw [if_pos c_3] at hd
      refine wp_s 29 [some (.ref a0), some (.int x1), some (.int x2)] [.int (-1 : Int32)] h0 i_76_28 rfl ?_
      obtain rfl := Option.some.inj hd
      exact wp_iret i_76_29 ⟨rfl, rfl⟩
    · rw [if_neg c_3] at hd
      refine wp_s 11 [some (.ref a0), some (.int x1), some (.int x2)] [.ref a0] h0 i_76_10 rfl ?_
      obtain ⟨f_4, q_5, hd⟩ := dk_bind hd
      refine hp_gR 14 rfl i_76_11 q_5 ?_
      refine wp_s 15 [some (.ref a0), some (.int x1), some (.int x2)] [.int x2, .ref f_4] h0 i_76_14 rfl ?_
      obtain ⟨f_6, q_7, hd⟩ := dk_bind hd
      refine hp_gA 16 rfl i_76_15 q_7 ?_
      refine wp_s 17 [some (.ref a0), some (.int x1), some (.int x2)] [.int x1, .int f_6] h0 i_76_16 rfl ?_
      refine wp_cmp_ne 22 20 rfl rfl i_76_17 (fun c_8 => ?_) (fun c_8 => ?_)
      · rw [if_pos c_8] at hd
        refine wp_s 25 [some (.ref a0), some (.int x1), some (.int (x2 + (1 : Int32)))] [] h0 i_76_22 rfl ?_
        refine wp_s 2 [some (.ref a0), some (.int x1), some (.int (x2 + (1 : Int32)))] [] h0 i_76_25 rfl ?_
        exact aWp.forget (ih _ _ _ _ _ hd) (lvS (lvS (lvS lvE)))
      · rw [if_neg c_8] at hd
        refine wp_s 21 [some (.ref a0), some (.int x1), some (.int x2)] [.int x2] h0 i_76_20 rfl ?_
        obtain rfl := Option.some.inj hd
        exact wp_iret i_76_21 ⟨rfl, rfl⟩
def d_76 (g : Nat) (a0 : Nat) (x1 : Int32) (h0 : aH) : Option (Int32 × aH) := (l_76 g g 0 a0 x1 (0 : Int32) h0)
set_option maxHeartbeats 4000000 in
set_option maxRecDepth 100000 in
theorem d_76_ok {X : aX} {g : Nat} {a0 : Nat} {x1 : Int32} {h0 : aH} {zz : Int32 × aH} {d : Nat} (hdp : 0 ≤ d) (hd : d_76 g a0 x1 h0 = some zz) : aWp X d 76 0 (aEntL [.ref a0, .int x1] 3) [] h0 (fun w h' => w = some (.int zz.1) ∧ h' = zz.2) := by
  unfold d_76 at hd
  refine wp_lv (l2 := [some (.ref a0), some (.int x1), none]) rfl ?_
  refine wp_s 1 [some (.ref a0), some (.int x1), none] [.int (0 : Int32)] h0 i_76_0 rfl ?_
  refine wp_s 2 [some (.ref a0), some (.int x1), some (.int (0 : Int32))] [] h0 i_76_1 rfl ?_
  exact aWp.forget ((l_76_ok hdp g) _ _ _ _ _ hd) (lvS (lvS (lvS lvE)))
def l_78 (g n tag : Nat) (a0 : Nat) (x1 : Int32) (x2 : Int32) (h0 : aH) : Option (aH) := match n with
  | 0 => none
  | n + 1 => if tag = 0 then ((gI h0 a0 7 8).bind (fun f_1 => (if f_1 ≤ x2 then ((sF h0 a0 7 8 (.int (0 : Int32))).bind (fun h_4 => some h_4)) else ((gI h0 a0 7 10).bind (fun f_6 => ((gR h0 a0 7 6).bind (fun f_8 => ((gA h0 f_8 x2).bind (fun f_10 => ((sF h0 a0 7 10 (.int (f_6 ||| ((1 : Int32) <<< (f_10 &&& 31))))).bind (fun h_12 => (l_78 g n 0 a0 x1 (x2 + (1 : Int32)) h_12)))))))))))) else none
set_option maxHeartbeats 4000000 in
set_option maxRecDepth 100000 in
theorem l_78_ok {X : aX} {g : Nat} {d : Nat} (hdp : 0 ≤ d) : ∀ n, (∀ (a0 : Nat) (x1 : Int32) (x2 : Int32) (h0 : aH) (zz : aH), l_78 g n 0 a0 x1 x2 h0 = some zz → aWp X d 78 54 [some (.ref a0), some (.int x1), some (.int x2)] [] h0 (fun w h' => w = none ∧ h' = zz)) := by
  intro n
  induction n with
  | zero => exact fun _ _ _ _ _ hd => by simp [l_78] at hd
  | succ n ih =>
    intro a0 x1 x2 h0 zz hd
    unfold l_78 at hd
    rw [if_pos rfl] at hd
    refine wp_s 55 [some (.ref a0), some (.int x1), some (.int x2)] [.int x2] h0 i_78_54 rfl ?_
    refine wp_s 56 [some (.ref a0), some (.int x1), some (.int x2)] [.ref a0, .int x2] h0 i_78_55 rfl ?_
    obtain ⟨f_1, q_2, hd⟩ := dk_bind hd
    refine hp_gI 59 rfl i_78_56 q_2 ?_
    refine wp_cmp_ge 85 62 rfl rfl i_78_59 (fun c_3 => ?_) (fun c_3 => ?_)
    · rw [if_pos c_3] at hd
      refine wp_s 86 [some (.ref a0), some (.int x1), some (.int x2)] [.ref a0] h0 i_78_85 rfl ?_
      refine wp_s 87 [some (.ref a0), some (.int x1), some (.int x2)] [.int (0 : Int32), .ref a0] h0 i_78_86 rfl ?_
      obtain ⟨h_4, q_5, hd⟩ := dk_bind hd
      refine hp_sF 90 rfl i_78_87 q_5 ?_
      obtain rfl := Option.some.inj hd
      exact wp_ret i_78_90 rfl ⟨rfl, rfl⟩
    · rw [if_neg c_3] at hd
      refine wp_s 63 [some (.ref a0), some (.int x1), some (.int x2)] [.ref a0] h0 i_78_62 rfl ?_
      refine wp_s 64 [some (.ref a0), some (.int x1), some (.int x2)] [.ref a0, .ref a0] h0 i_78_63 rfl ?_
      obtain ⟨f_6, q_7, hd⟩ := dk_bind hd
      refine hp_gI 67 rfl i_78_64 q_7 ?_
      refine wp_s 68 [some (.ref a0), some (.int x1), some (.int x2)] [.int (1 : Int32), .int f_6, .ref a0] h0 i_78_67 rfl ?_
      refine wp_s 69 [some (.ref a0), some (.int x1), some (.int x2)] [.ref a0, .int (1 : Int32), .int f_6, .ref a0] h0 i_78_68 rfl ?_
      obtain ⟨f_8, q_9, hd⟩ := dk_bind hd
      refine hp_gR 72 rfl i_78_69 q_9 ?_
      refine wp_s 73 [some (.ref a0), some (.int x1), some (.int x2)] [.int x2, .ref f_8, .int (1 : Int32), .int f_6, .ref a0] h0 i_78_72 rfl ?_
      obtain ⟨f_10, q_11, hd⟩ := dk_bind hd
      refine hp_gA 74 rfl i_78_73 q_11 ?_
      refine wp_s 75 [some (.ref a0), some (.int x1), some (.int x2)] [.int ((1 : Int32) <<< (f_10 &&& 31)), .int f_6, .ref a0] h0 i_78_74 rfl ?_
      refine wp_s 76 [some (.ref a0), some (.int x1), some (.int x2)] [.int (f_6 ||| ((1 : Int32) <<< (f_10 &&& 31))), .ref a0] h0 i_78_75 rfl ?_
      obtain ⟨h_12, q_13, hd⟩ := dk_bind hd
      refine hp_sF 79 rfl i_78_76 q_13 ?_
      refine wp_s 82 [some (.ref a0), some (.int x1), some (.int (x2 + (1 : Int32)))] [] h_12 i_78_79 rfl ?_
      refine wp_s 54 [some (.ref a0), some (.int x1), some (.int (x2 + (1 : Int32)))] [] h_12 i_78_82 rfl ?_
      exact aWp.forget (ih _ _ _ _ _ hd) (lvS (lvS (lvS lvE)))
def d_78 (g : Nat) (a0 : Nat) (x1 : Int32) (h0 : aH) : Option (aH) := ((gR h0 a0 7 0).bind (fun f_1001 => ((gR h0 a0 7 4).bind (fun f_1003 => ((sC h0 f_1001 (0 : Int32) f_1003 (0 : Int32) (8 : Int32)).bind (fun h_1005 => ((gR h_1005 a0 7 6).bind (fun f_1007 => ((gR h_1005 a0 7 7).bind (fun f_1009 => ((sC h_1005 f_1007 (0 : Int32) f_1009 (0 : Int32) (5 : Int32)).bind (fun h_1011 => ((gI h_1011 a0 7 8).bind (fun f_1013 => ((sF h_1011 a0 7 9 (.int f_1013)).bind (fun h_1015 => ((sF h_1015 a0 7 12 (.int x1)).bind (fun h_1017 => ((gI h_1017 a0 7 11).bind (fun f_1019 => ((sF h_1017 a0 7 11 (.int (f_1019 + x1))).bind (fun h_1021 => (l_78 g g 0 a0 x1 (0 : Int32) h_1021)))))))))))))))))))))))
set_option maxHeartbeats 4000000 in
set_option maxRecDepth 100000 in
theorem d_78_ok {X : aX} {g : Nat} {a0 : Nat} {x1 : Int32} {h0 : aH} {zz : aH} {d : Nat} (hdp : 0 ≤ d) (hd : d_78 g a0 x1 h0 = some zz) : aWp X d 78 0 (aEntL [.ref a0, .int x1] 3) [] h0 (fun w h' => w = none ∧ h' = zz) := by
  unfold d_78 at hd
  refine wp_lv (l2 := [some (.ref a0), some (.int x1), none]) rfl ?_
  refine wp_s 1 [some (.ref a0), some (.int x1), none] [.ref a0] h0 i_78_0 rfl ?_
  obtain ⟨f_1001, q_1002, hd⟩ := dk_bind hd
  refine hp_gR 4 rfl i_78_1 q_1002 ?_
  refine wp_s 5 [some (.ref a0), some (.int x1), none] [.int (0 : Int32), .ref f_1001] h0 i_78_4 rfl ?_
  refine wp_s 6 [some (.ref a0), some (.int x1), none] [.ref a0, .int (0 : Int32), .ref f_1001] h0 i_78_5 rfl ?_
  obtain ⟨f_1003, q_1004, hd⟩ := dk_bind hd
  refine hp_gR 9 rfl i_78_6 q_1004 ?_
  refine wp_s 10 [some (.ref a0), some (.int x1), none] [.int (0 : Int32), .ref f_1003, .int (0 : Int32), .ref f_1001] h0 i_78_9 rfl ?_
  refine wp_s 12 [some (.ref a0), some (.int x1), none] [.int (8 : Int32), .int (0 : Int32), .ref f_1003, .int (0 : Int32), .ref f_1001] h0 i_78_10 rfl ?_
  obtain ⟨h_1005, q_1006, hd⟩ := dk_bind hd
  refine hp_sC 15 rfl i_78_12 rfl q_1006 ?_
  refine wp_s 16 [some (.ref a0), some (.int x1), none] [.ref a0] h_1005 i_78_15 rfl ?_
  obtain ⟨f_1007, q_1008, hd⟩ := dk_bind hd
  refine hp_gR 19 rfl i_78_16 q_1008 ?_
  refine wp_s 20 [some (.ref a0), some (.int x1), none] [.int (0 : Int32), .ref f_1007] h_1005 i_78_19 rfl ?_
  refine wp_s 21 [some (.ref a0), some (.int x1), none] [.ref a0, .int (0 : Int32), .ref f_1007] h_1005 i_78_20 rfl ?_
  obtain ⟨f_1009, q_1010, hd⟩ := dk_bind hd
  refine hp_gR 24 rfl i_78_21 q_1010 ?_
  refine wp_s 25 [some (.ref a0), some (.int x1), none] [.int (0 : Int32), .ref f_1009, .int (0 : Int32), .ref f_1007] h_1005 i_78_24 rfl ?_
  refine wp_s 26 [some (.ref a0), some (.int x1), none] [.int (5 : Int32), .int (0 : Int32), .ref f_1009, .int (0 : Int32), .ref f_1007] h_1005 i_78_25 rfl ?_
  obtain ⟨h_1011, q_1012, hd⟩ := dk_bind hd
  refine hp_sC 29 rfl i_78_26 rfl q_1012 ?_
  refine wp_s 30 [some (.ref a0), some (.int x1), none] [.ref a0] h_1011 i_78_29 rfl ?_
  refine wp_s 31 [some (.ref a0), some (.int x1), none] [.ref a0, .ref a0] h_1011 i_78_30 rfl ?_
  obtain ⟨f_1013, q_1014, hd⟩ := dk_bind hd
  refine hp_gI 34 rfl i_78_31 q_1014 ?_
  obtain ⟨h_1015, q_1016, hd⟩ := dk_bind hd
  refine hp_sF 37 rfl i_78_34 q_1016 ?_
  refine wp_s 38 [some (.ref a0), some (.int x1), none] [.ref a0] h_1015 i_78_37 rfl ?_
  refine wp_s 39 [some (.ref a0), some (.int x1), none] [.int x1, .ref a0] h_1015 i_78_38 rfl ?_
  obtain ⟨h_1017, q_1018, hd⟩ := dk_bind hd
  refine hp_sF 42 rfl i_78_39 q_1018 ?_
  refine wp_s 43 [some (.ref a0), some (.int x1), none] [.ref a0] h_1017 i_78_42 rfl ?_
  refine wp_s 44 [some (.ref a0), some (.int x1), none] [.ref a0, .ref a0] h_1017 i_78_43 rfl ?_
  obtain ⟨f_1019, q_1020, hd⟩ := dk_bind hd
  refine hp_gI 47 rfl i_78_44 q_1020 ?_
  refine wp_s 48 [some (.ref a0), some (.int x1), none] [.int x1, .int f_1019, .ref a0] h_1017 i_78_47 rfl ?_
  refine wp_s 49 [some (.ref a0), some (.int x1), none] [.int (f_1019 + x1), .ref a0] h_1017 i_78_48 rfl ?_
  obtain ⟨h_1021, q_1022, hd⟩ := dk_bind hd
  refine hp_sF 52 rfl i_78_49 q_1022 ?_
  refine wp_s 53 [some (.ref a0), some (.int x1), none] [.int (0 : Int32)] h_1021 i_78_52 rfl ?_
  refine wp_s 54 [some (.ref a0), some (.int x1), some (.int (0 : Int32))] [] h_1021 i_78_53 rfl ?_
  exact aWp.forget ((l_78_ok hdp g) _ _ _ _ _ hd) (lvS (lvS (lvS lvE)))
def d_80 (g : Nat) (a0 : Nat) (h0 : aH) : Option (aH) := ((sF (nA h0 1 400) a0 8 0 (.ref (h0).length)).bind (fun h_1 => some h_1))
set_option maxHeartbeats 4000000 in
set_option maxRecDepth 100000 in
theorem d_80_ok {X : aX} {g : Nat} {a0 : Nat} {h0 : aH} {zz : aH} {d : Nat} (hdp : 0 ≤ d) (hd : d_80 g a0 h0 = some zz) : aWp X d 80 0 (aEntL [.ref a0] 1) [] h0 (fun w h' => w = none ∧ h' = zz) := by
  unfold d_80 at hd
  refine wp_lv (l2 := [some (.ref a0)]) rfl ?_
  refine wp_s 1 [some (.ref a0)] [.ref a0] h0 i_80_0 rfl ?_
  refine hp_obj 4 rfl i_80_1 rfl ?_
  refine wp_s 5 [some (.ref a0)] [.ref a0] h0 i_80_4 rfl ?_
  refine wp_s 8 [some (.ref a0)] [.int (400 : Int32), .ref a0] h0 i_80_5 rfl ?_
  refine hp_newa (N := 400) 10 rfl i_80_8 (by decide) (by decide) (by decide) ?_
  obtain ⟨h_1, q_2, hd⟩ := dk_bind hd
  refine hp_sF 13 rfl i_80_10 q_2 ?_
  obtain rfl := Option.some.inj hd
  exact wp_ret i_80_13 rfl ⟨rfl, rfl⟩
def l_81 (g n tag : Nat) (a0 : Nat) (x1 : Int32) (x2 : Int32) (h0 : aH) : Option (aH) := match n with
  | 0 => none
  | n + 1 => if tag = 0 then (if x2 < 0 then some h0 else ((gI h0 a0 8 1).bind (fun f_2 => (if (400 : Int32) ≤ f_2 then some h0 else ((gR h0 a0 8 0).bind (fun f_5 => ((gI h0 a0 8 1).bind (fun f_7 => ((sB h0 f_5 f_7 ((x1 >>> (x2 &&& 31)).toInt8.toInt32)).bind (fun h_9 => ((gI h_9 a0 8 1).bind (fun f_11 => ((sF h_9 a0 8 1 (.int (f_11 + (1 : Int32)))).bind (fun h_13 => (l_81 g n 0 a0 x1 (x2 + (-8 : Int32)) h_13))))))))))))))) else none
set_option maxHeartbeats 4000000 in
set_option maxRecDepth 100000 in
theorem l_81_ok {X : aX} {g : Nat} {d : Nat} (hdp : 0 ≤ d) : ∀ n, (∀ (a0 : Nat) (x1 : Int32) (x2 : Int32) (h0 : aH) (zz : aH), l_81 g n 0 a0 x1 x2 h0 = some zz → aWp X d 81 3 [some (.ref a0), some (.int x1), some (.int x2)] [] h0 (fun w h' => w = none ∧ h' = zz)) := by
  intro n
  induction n with
  | zero => exact fun _ _ _ _ _ hd => by simp [l_81] at hd
  | succ n ih =>
    intro a0 x1 x2 h0 zz hd
    unfold l_81 at hd
    rw [if_pos rfl] at hd
    refine wp_s 4 [some (.ref a0), some (.int x1), some (.int x2)] [.int x2] h0 i_81_3 rfl ?_
    refine wp_if_lt 46 7 rfl rfl i_81_4 (fun c_1 => ?_) (fun c_1 => ?_)
    · rw [if_pos c_1] at hd
      obtain rfl := Option.some.inj hd
      exact wp_ret i_81_46 rfl ⟨rfl, rfl⟩
    · rw [if_neg c_1] at hd
      refine wp_s 8 [some (.ref a0), some (.int x1), some (.int x2)] [.ref a0] h0 i_81_7 rfl ?_
      obtain ⟨f_2, q_3, hd⟩ := dk_bind hd
      refine hp_gI 11 rfl i_81_8 q_3 ?_
      refine wp_s 14 [some (.ref a0), some (.int x1), some (.int x2)] [.int (400 : Int32), .int f_2] h0 i_81_11 rfl ?_
      refine wp_cmp_ge 46 17 rfl rfl i_81_14 (fun c_4 => ?_) (fun c_4 => ?_)
      · rw [if_pos c_4] at hd
        obtain rfl := Option.some.inj hd
        exact wp_ret i_81_46 rfl ⟨rfl, rfl⟩
      · rw [if_neg c_4] at hd
        refine wp_s 18 [some (.ref a0), some (.int x1), some (.int x2)] [.ref a0] h0 i_81_17 rfl ?_
        obtain ⟨f_5, q_6, hd⟩ := dk_bind hd
        refine hp_gR 21 rfl i_81_18 q_6 ?_
        refine wp_s 22 [some (.ref a0), some (.int x1), some (.int x2)] [.ref a0, .ref f_5] h0 i_81_21 rfl ?_
        obtain ⟨f_7, q_8, hd⟩ := dk_bind hd
        refine hp_gI 25 rfl i_81_22 q_8 ?_
        refine wp_s 26 [some (.ref a0), some (.int x1), some (.int x2)] [.int x1, .int f_7, .ref f_5] h0 i_81_25 rfl ?_
        refine wp_s 27 [some (.ref a0), some (.int x1), some (.int x2)] [.int x2, .int x1, .int f_7, .ref f_5] h0 i_81_26 rfl ?_
        refine wp_s 28 [some (.ref a0), some (.int x1), some (.int x2)] [.int (x1 >>> (x2 &&& 31)), .int f_7, .ref f_5] h0 i_81_27 rfl ?_
        refine wp_s 29 [some (.ref a0), some (.int x1), some (.int x2)] [.int ((x1 >>> (x2 &&& 31)).toInt8.toInt32), .int f_7, .ref f_5] h0 i_81_28 rfl ?_
        obtain ⟨h_9, q_10, hd⟩ := dk_bind hd
        refine hp_sB 30 rfl i_81_29 q_10 ?_
        refine wp_s 31 [some (.ref a0), some (.int x1), some (.int x2)] [.ref a0] h_9 i_81_30 rfl ?_
        refine wp_s 32 [some (.ref a0), some (.int x1), some (.int x2)] [.ref a0, .ref a0] h_9 i_81_31 rfl ?_
        obtain ⟨f_11, q_12, hd⟩ := dk_bind hd
        refine hp_gI 35 rfl i_81_32 q_12 ?_
        refine wp_s 36 [some (.ref a0), some (.int x1), some (.int x2)] [.int (1 : Int32), .int f_11, .ref a0] h_9 i_81_35 rfl ?_
        refine wp_s 37 [some (.ref a0), some (.int x1), some (.int x2)] [.int (f_11 + (1 : Int32)), .ref a0] h_9 i_81_36 rfl ?_
        obtain ⟨h_13, q_14, hd⟩ := dk_bind hd
        refine hp_sF 40 rfl i_81_37 q_14 ?_
        refine wp_s 43 [some (.ref a0), some (.int x1), some (.int (x2 + (-8 : Int32)))] [] h_13 i_81_40 rfl ?_
        refine wp_s 3 [some (.ref a0), some (.int x1), some (.int (x2 + (-8 : Int32)))] [] h_13 i_81_43 rfl ?_
        exact aWp.forget (ih _ _ _ _ _ hd) (lvS (lvS (lvS lvE)))
def d_81 (g : Nat) (a0 : Nat) (x1 : Int32) (h0 : aH) : Option (aH) := (l_81 g g 0 a0 x1 (24 : Int32) h0)
set_option maxHeartbeats 4000000 in
set_option maxRecDepth 100000 in
theorem d_81_ok {X : aX} {g : Nat} {a0 : Nat} {x1 : Int32} {h0 : aH} {zz : aH} {d : Nat} (hdp : 0 ≤ d) (hd : d_81 g a0 x1 h0 = some zz) : aWp X d 81 0 (aEntL [.ref a0, .int x1] 3) [] h0 (fun w h' => w = none ∧ h' = zz) := by
  unfold d_81 at hd
  refine wp_lv (l2 := [some (.ref a0), some (.int x1), none]) rfl ?_
  refine wp_s 2 [some (.ref a0), some (.int x1), none] [.int (24 : Int32)] h0 i_81_0 rfl ?_
  refine wp_s 3 [some (.ref a0), some (.int x1), some (.int (24 : Int32))] [] h0 i_81_2 rfl ?_
  exact aWp.forget ((l_81_ok hdp g) _ _ _ _ _ hd) (lvS (lvS (lvS lvE)))
def l_88 (g n tag : Nat) (a0 : Nat) (a1 : Nat) (x2 : Int32) (h0 : aH) : Option (aH) := match n with
  | 0 => none
  | n + 1 => if tag = 0 then (if (6 : Int32) ≤ x2 then some h0 else ((gR h0 a0 9 1).bind (fun f_2 => (if isO (nO h0 3) (h0).length 3 = true then ((d_40 g (h0).length (nO h0 3)).bind (fun z_7 => ((sQ z_7 f_2 x2 (h0).length).bind (fun h_11 => (l_88 g n 0 a0 a1 (x2 + (1 : Int32)) h_11))))) else none)))) else none
set_option maxHeartbeats 4000000 in
set_option maxRecDepth 100000 in
theorem l_88_ok {X : aX} {g : Nat} {d : Nat} (hdp : 1 ≤ d) : ∀ n, (∀ (a0 : Nat) (a1 : Nat) (x2 : Int32) (h0 : aH) (zz : aH), l_88 g n 0 a0 a1 x2 h0 = some zz → aWp X d 88 28 [some (.ref a0), some (.ref a1), some (.int x2)] [] h0 (fun w h' => w = none ∧ h' = zz)) := by
  intro n
  induction n with
  | zero => exact fun _ _ _ _ _ hd => by simp [l_88] at hd
  | succ n ih =>
    intro a0 a1 x2 h0 zz hd
    unfold l_88 at hd
    rw [if_pos rfl] at hd
    obtain ⟨e, rfl⟩ : ∃ e, d = e + 1 := ⟨d - 1, by omega⟩
    refine wp_s 29 [some (.ref a0), some (.ref a1), some (.int x2)] [.int x2] h0 i_88_28 rfl ?_
    refine wp_s 31 [some (.ref a0), some (.ref a1), some (.int x2)] [.int (6 : Int32), .int x2] h0 i_88_29 rfl ?_
    refine wp_cmp_ge 53 34 rfl rfl i_88_31 (fun c_1 => ?_) (fun c_1 => ?_)
    · rw [if_pos c_1] at hd
      obtain rfl := Option.some.inj hd
      exact wp_ret i_88_53 rfl ⟨rfl, rfl⟩
    · rw [if_neg c_1] at hd
      refine wp_s 35 [some (.ref a0), some (.ref a1), some (.int x2)] [.ref a0] h0 i_88_34 rfl ?_
      obtain ⟨f_2, q_3, hd⟩ := dk_bind hd
      refine hp_gR 38 rfl i_88_35 q_3 ?_
      refine wp_s 39 [some (.ref a0), some (.ref a1), some (.int x2)] [.int x2, .ref f_2] h0 i_88_38 rfl ?_
      refine wp_s 42 [some (.ref a0), some (.ref a1), some (.int x2)] [.ref (h0).length, .int x2, .ref f_2] (nO h0 3) i_88_39 rfl ?_
      refine wp_s 43 [some (.ref a0), some (.ref a1), some (.int x2)] [.ref (h0).length, .ref (h0).length, .int x2, .ref f_2] (nO h0 3) i_88_42 rfl ?_
      obtain ⟨k_4, hd⟩ := dk_if hd
      obtain ⟨fs_5, o_6⟩ := isO_of k_4
      obtain ⟨z_7, q_8, hd⟩ := dk_bind hd
      refine wp_callI 46 rfl i_88_43 (by decide) rfl (vs := []) (rest := [.ref (h0).length, .int x2, .ref f_2]) rfl rfl rfl o_6 (y := m_40) rfl (Nat.le_of_ble_eq_true rfl) (d_40_ok (d := e) (by omega) q_8) ?_
      rintro v_9 h_10 ⟨rfl, hz⟩
      have hz := hz.symm
      subst hz
      obtain ⟨h_11, q_12, hd⟩ := dk_bind hd
      refine hp_sQ 47 rfl i_88_46 q_12 ?_
      refine wp_s 50 [some (.ref a0), some (.ref a1), some (.int (x2 + (1 : Int32)))] [] h_11 i_88_47 rfl ?_
      refine wp_s 28 [some (.ref a0), some (.ref a1), some (.int (x2 + (1 : Int32)))] [] h_11 i_88_50 rfl ?_
      exact aWp.forget (ih _ _ _ _ _ hd) (lvS (lvS (lvS lvE)))
def d_88 (g : Nat) (a0 : Nat) (a1 : Nat) (h0 : aH) : Option (aH) := ((sF (nQ h0 6 6) a0 9 1 (.ref (h0).length)).bind (fun h_1001 => ((sF (nA h_1001 3 8) a0 9 3 (.ref (h_1001).length)).bind (fun h_1003 => ((sF h_1003 a0 9 0 (.ref a1)).bind (fun h_1005 => (l_88 g g 0 a0 a1 (0 : Int32) h_1005)))))))
set_option maxHeartbeats 4000000 in
set_option maxRecDepth 100000 in
theorem d_88_ok {X : aX} {g : Nat} {a0 : Nat} {a1 : Nat} {h0 : aH} {zz : aH} {d : Nat} (hdp : 1 ≤ d) (hd : d_88 g a0 a1 h0 = some zz) : aWp X d 88 0 (aEntL [.ref a0, .ref a1] 3) [] h0 (fun w h' => w = none ∧ h' = zz) := by
  unfold d_88 at hd
  refine wp_lv (l2 := [some (.ref a0), some (.ref a1), none]) rfl ?_
  obtain ⟨e, rfl⟩ : ∃ e, d = e + 1 := ⟨d - 1, by omega⟩
  refine wp_s 1 [some (.ref a0), some (.ref a1), none] [.ref a0] h0 i_88_0 rfl ?_
  refine hp_obj 4 rfl i_88_1 rfl ?_
  refine wp_s 5 [some (.ref a0), some (.ref a1), none] [.ref a0] h0 i_88_4 rfl ?_
  refine wp_s 7 [some (.ref a0), some (.ref a1), none] [.int (6 : Int32), .ref a0] h0 i_88_5 rfl ?_
  refine hp_anew (N := 6) 10 rfl i_88_7 (by decide) (by decide) (by decide) ?_
  obtain ⟨h_1001, q_1002, hd⟩ := dk_bind hd
  refine hp_sF 13 rfl i_88_10 q_1002 ?_
  refine wp_s 14 [some (.ref a0), some (.ref a1), none] [.ref a0] h_1001 i_88_13 rfl ?_
  refine wp_s 16 [some (.ref a0), some (.ref a1), none] [.int (8 : Int32), .ref a0] h_1001 i_88_14 rfl ?_
  refine hp_newa (N := 8) 18 rfl i_88_16 (by decide) (by decide) (by decide) ?_
  obtain ⟨h_1003, q_1004, hd⟩ := dk_bind hd
  refine hp_sF 21 rfl i_88_18 q_1004 ?_
  refine wp_s 22 [some (.ref a0), some (.ref a1), none] [.ref a0] h_1003 i_88_21 rfl ?_
  refine wp_s 23 [some (.ref a0), some (.ref a1), none] [.ref a1, .ref a0] h_1003 i_88_22 rfl ?_
  obtain ⟨h_1005, q_1006, hd⟩ := dk_bind hd
  refine hp_sF 26 rfl i_88_23 q_1006 ?_
  refine wp_s 27 [some (.ref a0), some (.ref a1), none] [.int (0 : Int32)] h_1005 i_88_26 rfl ?_
  refine wp_s 28 [some (.ref a0), some (.ref a1), some (.int (0 : Int32))] [] h_1005 i_88_27 rfl ?_
  exact aWp.forget ((l_88_ok hdp g) _ _ _ _ _ hd) (lvS (lvS (lvS lvE)))
def d_91 (g : Nat) (a0 : Nat) (x1 : Int32) (h0 : aH) : Option (Int32 × aH) := ((gR h0 a0 9 0).bind (fun f_1 => ((gR h0 f_1 10 1).bind (fun f_3 => ((gI h0 f_3 7 13).bind (fun f_5 => (if isO h0 a0 9 = true then ((d_90 g a0 x1 f_5 h0).bind (fun z_10 => some (z_10.1, z_10.2))) else none)))))))
set_option maxHeartbeats 4000000 in
set_option maxRecDepth 100000 in
theorem d_91_ok {X : aX} {g : Nat} {a0 : Nat} {x1 : Int32} {h0 : aH} {zz : Int32 × aH} {d : Nat} (hdp : 5 ≤ d) (hd : d_91 g a0 x1 h0 = some zz) : aWp X d 91 0 (aEntL [.ref a0, .int x1] 2) [] h0 (fun w h' => w = some (.int zz.1) ∧ h' = zz.2) := by
  unfold d_91 at hd
  refine wp_lv (l2 := [some (.ref a0), some (.int x1)]) rfl ?_
  obtain ⟨e, rfl⟩ : ∃ e, d = e + 1 := ⟨d - 1, by omega⟩
  refine wp_s 1 [some (.ref a0), some (.int x1)] [.ref a0] h0 i_91_0 rfl ?_
  refine wp_s 2 [some (.ref a0), some (.int x1)] [.int x1, .ref a0] h0 i_91_1 rfl ?_
  refine wp_s 3 [some (.ref a0), some (.int x1)] [.ref a0, .int x1, .ref a0] h0 i_91_2 rfl ?_
  obtain ⟨f_1, q_2, hd⟩ := dk_bind hd
  refine hp_gR 6 rfl i_91_3 q_2 ?_
  obtain ⟨f_3, q_4, hd⟩ := dk_bind hd
  refine hp_gR 9 rfl i_91_6 q_4 ?_
  obtain ⟨f_5, q_6, hd⟩ := dk_bind hd
  refine hp_gI 12 rfl i_91_9 q_6 ?_
  obtain ⟨k_7, hd⟩ := dk_if hd
  obtain ⟨fs_8, o_9⟩ := isO_of k_7
  obtain ⟨z_10, q_11, hd⟩ := dk_bind hd
  refine wp_callV 15 rfl i_91_12 (by decide) rfl (vs := [.int x1, .int f_5]) (rest := []) rfl rfl rfl o_9 (y := m_90) rfl (Nat.le_of_ble_eq_true rfl) (d_90_ok (d := e) (by omega) q_11) ?_
  rintro v_12 h_13 ⟨rfl, rfl⟩
  obtain rfl := Option.some.inj hd
  exact wp_iret i_91_15 ⟨rfl, rfl⟩
def l_92 (g n tag : Nat) (a0 : Nat) (x1 : Int32) (x2 : Int32) (h0 : aH) : Option (Int32 × aH) := match n with
  | 0 => none
  | n + 1 => if tag = 0 then ((gR h0 a0 9 0).bind (fun f_1 => ((gR h0 f_1 10 0).bind (fun f_3 => ((gI h0 f_3 5 4).bind (fun f_5 => (if f_5 ≤ x2 then some (x1, h0) else ((gR h0 a0 9 0).bind (fun f_8 => ((gR h0 f_8 10 1).bind (fun f_10 => ((gR h0 f_10 7 0).bind (fun f_12 => ((gA h0 f_12 x2).bind (fun f_14 => (if f_14 ≤ 0 then (l_92 g n 1 a0 x1 x2 h0) else ((gR h0 a0 9 0).bind (fun f_17 => ((gR h0 f_17 10 1).bind (fun f_19 => ((gR h0 f_19 7 0).bind (fun f_21 => ((gA h0 f_21 x2).bind (fun f_23 => ((gR h0 a0 9 0).bind (fun f_25 => ((gR h0 f_25 10 1).bind (fun f_27 => ((gI h0 f_27 7 13).bind (fun f_29 => (if isO h0 a0 9 = true then ((d_90 g a0 x2 f_29 h0).bind (fun z_34 => (l_92 g n 1 a0 (x1 + (f_23 * z_34.1)) x2 z_34.2))) else none))))))))))))))))))))))))))))))) else if tag = 1 then (l_92 g n 0 a0 x1 (x2 + (1 : Int32)) h0) else none
set_option maxHeartbeats 4000000 in
set_option maxRecDepth 100000 in
theorem l_92_ok {X : aX} {g : Nat} {d : Nat} (hdp : 5 ≤ d) : ∀ n, (∀ (a0 : Nat) (x1 : Int32) (x2 : Int32) (h0 : aH) (zz : Int32 × aH), l_92 g n 0 a0 x1 x2 h0 = some zz → aWp X d 92 4 [some (.ref a0), some (.int x1), some (.int x2)] [] h0 (fun w h' => w = some (.int zz.1) ∧ h' = zz.2)) ∧ (∀ (a0 : Nat) (x1 : Int32) (x2 : Int32) (h0 : aH) (zz : Int32 × aH), l_92 g n 1 a0 x1 x2 h0 = some zz → aWp X d 92 64 [some (.ref a0), some (.int x1), some (.int x2)] [] h0 (fun w h' => w = some (.int zz.1) ∧ h' = zz.2)) := by
  intro n
  induction n with
  | zero => exact ⟨fun _ _ _ _ _ hd => by simp [l_92] at hd, fun _ _ _ _ _ hd => by simp [l_92] at hd⟩
  | succ n ih =>
    refine ⟨?_, ?_⟩
    · intro a0 x1 x2 h0 zz hd
      unfold l_92 at hd
      rw [if_pos rfl] at hd
      obtain ⟨e, rfl⟩ : ∃ e, d = e + 1 := ⟨d - 1, by omega⟩
      refine wp_s 5 [some (.ref a0), some (.int x1), some (.int x2)] [.int x2] h0 i_92_4 rfl ?_
      refine wp_s 6 [some (.ref a0), some (.int x1), some (.int x2)] [.ref a0, .int x2] h0 i_92_5 rfl ?_
      obtain ⟨f_1, q_2, hd⟩ := dk_bind hd
      refine hp_gR 9 rfl i_92_6 q_2 ?_
      obtain ⟨f_3, q_4, hd⟩ := dk_bind hd
      refine hp_gR 12 rfl i_92_9 q_4 ?_
      obtain ⟨f_5, q_6, hd⟩ := dk_bind hd
      refine hp_gI 15 rfl i_92_12 q_6 ?_
      refine wp_cmp_ge 70 18 rfl rfl i_92_15 (fun c_7 => ?_) (fun c_7 => ?_)
      · rw [if_pos c_7] at hd
        refine wp_s 71 [some (.ref a0), some (.int x1), some (.int x2)] [.int x1] h0 i_92_70 rfl ?_
        obtain rfl := Option.some.inj hd
        exact wp_iret i_92_71 ⟨rfl, rfl⟩
      · rw [if_neg c_7] at hd
        refine wp_s 19 [some (.ref a0), some (.int x1), some (.int x2)] [.ref a0] h0 i_92_18 rfl ?_
        obtain ⟨f_8, q_9, hd⟩ := dk_bind hd
        refine hp_gR 22 rfl i_92_19 q_9 ?_
        obtain ⟨f_10, q_11, hd⟩ := dk_bind hd
        refine hp_gR 25 rfl i_92_22 q_11 ?_
        obtain ⟨f_12, q_13, hd⟩ := dk_bind hd
        refine hp_gR 28 rfl i_92_25 q_13 ?_
        refine wp_s 29 [some (.ref a0), some (.int x1), some (.int x2)] [.int x2, .ref f_12] h0 i_92_28 rfl ?_
        obtain ⟨f_14, q_15, hd⟩ := dk_bind hd
        refine hp_gA 30 rfl i_92_29 q_15 ?_
        refine wp_if_le 64 33 rfl rfl i_92_30 (fun c_16 => ?_) (fun c_16 => ?_)
        · rw [if_pos c_16] at hd
          exact aWp.forget (ih.2 _ _ _ _ _ hd) (lvS (lvS (lvS lvE)))
        · rw [if_neg c_16] at hd
          refine wp_s 34 [some (.ref a0), some (.int x1), some (.int x2)] [.int x1] h0 i_92_33 rfl ?_
          refine wp_s 35 [some (.ref a0), some (.int x1), some (.int x2)] [.ref a0, .int x1] h0 i_92_34 rfl ?_
          obtain ⟨f_17, q_18, hd⟩ := dk_bind hd
          refine hp_gR 38 rfl i_92_35 q_18 ?_
          obtain ⟨f_19, q_20, hd⟩ := dk_bind hd
          refine hp_gR 41 rfl i_92_38 q_20 ?_
          obtain ⟨f_21, q_22, hd⟩ := dk_bind hd
          refine hp_gR 44 rfl i_92_41 q_22 ?_
          refine wp_s 45 [some (.ref a0), some (.int x1), some (.int x2)] [.int x2, .ref f_21, .int x1] h0 i_92_44 rfl ?_
          obtain ⟨f_23, q_24, hd⟩ := dk_bind hd
          refine hp_gA 46 rfl i_92_45 q_24 ?_
          refine wp_s 47 [some (.ref a0), some (.int x1), some (.int x2)] [.ref a0, .int f_23, .int x1] h0 i_92_46 rfl ?_
          refine wp_s 48 [some (.ref a0), some (.int x1), some (.int x2)] [.int x2, .ref a0, .int f_23, .int x1] h0 i_92_47 rfl ?_
          refine wp_s 49 [some (.ref a0), some (.int x1), some (.int x2)] [.ref a0, .int x2, .ref a0, .int f_23, .int x1] h0 i_92_48 rfl ?_
          obtain ⟨f_25, q_26, hd⟩ := dk_bind hd
          refine hp_gR 52 rfl i_92_49 q_26 ?_
          obtain ⟨f_27, q_28, hd⟩ := dk_bind hd
          refine hp_gR 55 rfl i_92_52 q_28 ?_
          obtain ⟨f_29, q_30, hd⟩ := dk_bind hd
          refine hp_gI 58 rfl i_92_55 q_30 ?_
          obtain ⟨k_31, hd⟩ := dk_if hd
          obtain ⟨fs_32, o_33⟩ := isO_of k_31
          obtain ⟨z_34, q_35, hd⟩ := dk_bind hd
          refine wp_callV 61 rfl i_92_58 (by decide) rfl (vs := [.int x2, .int f_29]) (rest := [.int f_23, .int x1]) rfl rfl rfl o_33 (y := m_90) rfl (Nat.le_of_ble_eq_true rfl) (d_90_ok (d := e) (by omega) q_35) ?_
          rintro v_36 h_37 ⟨rfl, rfl⟩
          refine wp_s 62 [some (.ref a0), some (.int x1), some (.int x2)] [.int (f_23 * z_34.1), .int x1] z_34.2 i_92_61 rfl ?_
          refine wp_s 63 [some (.ref a0), some (.int x1), some (.int x2)] [.int (x1 + (f_23 * z_34.1))] z_34.2 i_92_62 rfl ?_
          refine wp_s 64 [some (.ref a0), some (.int (x1 + (f_23 * z_34.1))), some (.int x2)] [] z_34.2 i_92_63 rfl ?_
          exact aWp.forget (ih.2 _ _ _ _ _ hd) (lvS (lvS (lvS lvE)))
    · intro a0 x1 x2 h0 zz hd
      unfold l_92 at hd
      rw [if_neg (by decide), if_pos rfl] at hd
      obtain ⟨e, rfl⟩ : ∃ e, d = e + 1 := ⟨d - 1, by omega⟩
      refine wp_s 67 [some (.ref a0), some (.int x1), some (.int (x2 + (1 : Int32)))] [] h0 i_92_64 rfl ?_
      refine wp_s 4 [some (.ref a0), some (.int x1), some (.int (x2 + (1 : Int32)))] [] h0 i_92_67 rfl ?_
      exact aWp.forget (ih.1 _ _ _ _ _ hd) (lvS (lvS (lvS lvE)))
def d_92 (g : Nat) (a0 : Nat) (h0 : aH) : Option (Int32 × aH) := (l_92 g g 0 a0 (0 : Int32) (0 : Int32) h0)
set_option maxHeartbeats 4000000 in
set_option maxRecDepth 100000 in
theorem d_92_ok {X : aX} {g : Nat} {a0 : Nat} {h0 : aH} {zz : Int32 × aH} {d : Nat} (hdp : 5 ≤ d) (hd : d_92 g a0 h0 = some zz) : aWp X d 92 0 (aEntL [.ref a0] 3) [] h0 (fun w h' => w = some (.int zz.1) ∧ h' = zz.2) := by
  unfold d_92 at hd
  refine wp_lv (l2 := [some (.ref a0), none, none]) rfl ?_
  obtain ⟨e, rfl⟩ : ∃ e, d = e + 1 := ⟨d - 1, by omega⟩
  refine wp_s 1 [some (.ref a0), none, none] [.int (0 : Int32)] h0 i_92_0 rfl ?_
  refine wp_s 2 [some (.ref a0), some (.int (0 : Int32)), none] [] h0 i_92_1 rfl ?_
  refine wp_s 3 [some (.ref a0), some (.int (0 : Int32)), none] [.int (0 : Int32)] h0 i_92_2 rfl ?_
  refine wp_s 4 [some (.ref a0), some (.int (0 : Int32)), some (.int (0 : Int32))] [] h0 i_92_3 rfl ?_
  exact aWp.forget ((l_92_ok hdp g).1 _ _ _ _ _ hd) (lvS (lvS (lvS lvE)))
def d_93 (g : Nat) (a0 : Nat) (h0 : aH) : Option (Int32 × aH) := ((gR h0 a0 9 0).bind (fun f_1 => ((gR h0 f_1 10 1).bind (fun f_3 => (if isO h0 f_3 7 = true then ((d_73 g f_3 h0).bind (fun z_8 => (if isO z_8.2 a0 9 = true then ((d_92 g a0 z_8.2).bind (fun z_15 => ((gR z_15.2 f_3 7 6).bind (fun f_19 => ((gI z_15.2 f_3 7 8).bind (fun f_21 => ((gR z_15.2 a0 9 0).bind (fun f_23 => ((gR z_15.2 f_23 10 0).bind (fun f_25 => ((gI z_15.2 f_25 5 2).bind (fun f_27 => (if isO z_15.2 a0 9 = true then ((d_94 g a0 z_8.1 z_15.1 f_19 f_21 f_27 z_15.2).bind (fun z_32 => some (z_32.1, z_32.2))) else none))))))))))))) else none))) else none)))))
set_option maxHeartbeats 4000000 in
set_option maxRecDepth 100000 in
theorem d_93_ok {X : aX} {g : Nat} {a0 : Nat} {h0 : aH} {zz : Int32 × aH} {d : Nat} (hdp : 6 ≤ d) (hd : d_93 g a0 h0 = some zz) : aWp X d 93 0 (aEntL [.ref a0] 2) [] h0 (fun w h' => w = some (.int zz.1) ∧ h' = zz.2) := by
  unfold d_93 at hd
  refine wp_lv (l2 := [some (.ref a0), none]) rfl ?_
  obtain ⟨e, rfl⟩ : ∃ e, d = e + 1 := ⟨d - 1, by omega⟩
  refine wp_s 1 [some (.ref a0), none] [.ref a0] h0 i_93_0 rfl ?_
  obtain ⟨f_1, q_2, hd⟩ := dk_bind hd
  refine hp_gR 4 rfl i_93_1 q_2 ?_
  obtain ⟨f_3, q_4, hd⟩ := dk_bind hd
  refine hp_gR 7 rfl i_93_4 q_4 ?_
  refine wp_s 8 [some (.ref a0), some (.ref f_3)] [] h0 i_93_7 rfl ?_
  refine wp_s 9 [some (.ref a0), some (.ref f_3)] [.ref a0] h0 i_93_8 rfl ?_
  refine wp_s 10 [some (.ref a0), some (.ref f_3)] [.ref f_3, .ref a0] h0 i_93_9 rfl ?_
  obtain ⟨k_5, hd⟩ := dk_if hd
  obtain ⟨fs_6, o_7⟩ := isO_of k_5
  obtain ⟨z_8, q_9, hd⟩ := dk_bind hd
  refine wp_callV 13 rfl i_93_10 (by decide) rfl (vs := []) (rest := [.ref a0]) rfl rfl rfl o_7 (y := m_73) rfl (Nat.le_of_ble_eq_true rfl) (d_73_ok (d := e) (by omega) q_9) ?_
  rintro v_10 h_11 ⟨rfl, rfl⟩
  refine wp_s 14 [some (.ref a0), some (.ref f_3)] [.ref a0, .int z_8.1, .ref a0] z_8.2 i_93_13 rfl ?_
  obtain ⟨k_12, hd⟩ := dk_if hd
  obtain ⟨fs_13, o_14⟩ := isO_of k_12
  obtain ⟨z_15, q_16, hd⟩ := dk_bind hd
  refine wp_callV 17 rfl i_93_14 (by decide) rfl (vs := []) (rest := [.int z_8.1, .ref a0]) rfl rfl rfl o_14 (y := m_92) rfl (Nat.le_of_ble_eq_true rfl) (d_92_ok (d := e) (by omega) q_16) ?_
  rintro v_17 h_18 ⟨rfl, rfl⟩
  refine wp_s 18 [some (.ref a0), some (.ref f_3)] [.ref f_3, .int z_15.1, .int z_8.1, .ref a0] z_15.2 i_93_17 rfl ?_
  obtain ⟨f_19, q_20, hd⟩ := dk_bind hd
  refine hp_gR 21 rfl i_93_18 q_20 ?_
  refine wp_s 22 [some (.ref a0), some (.ref f_3)] [.ref f_3, .ref f_19, .int z_15.1, .int z_8.1, .ref a0] z_15.2 i_93_21 rfl ?_
  obtain ⟨f_21, q_22, hd⟩ := dk_bind hd
  refine hp_gI 25 rfl i_93_22 q_22 ?_
  refine wp_s 26 [some (.ref a0), some (.ref f_3)] [.ref a0, .int f_21, .ref f_19, .int z_15.1, .int z_8.1, .ref a0] z_15.2 i_93_25 rfl ?_
  obtain ⟨f_23, q_24, hd⟩ := dk_bind hd
  refine hp_gR 29 rfl i_93_26 q_24 ?_
  obtain ⟨f_25, q_26, hd⟩ := dk_bind hd
  refine hp_gR 32 rfl i_93_29 q_26 ?_
  obtain ⟨f_27, q_28, hd⟩ := dk_bind hd
  refine hp_gI 35 rfl i_93_32 q_28 ?_
  obtain ⟨k_29, hd⟩ := dk_if hd
  obtain ⟨fs_30, o_31⟩ := isO_of k_29
  obtain ⟨z_32, q_33, hd⟩ := dk_bind hd
  refine wp_callV 38 rfl i_93_35 (by decide) rfl (vs := [.int z_8.1, .int z_15.1, .ref f_19, .int f_21, .int f_27]) (rest := []) rfl rfl rfl o_31 (y := m_94) rfl (Nat.le_of_ble_eq_true rfl) (d_94_ok (d := e) (by omega) q_33) ?_
  rintro v_34 h_35 ⟨rfl, rfl⟩
  obtain rfl := Option.some.inj hd
  exact wp_iret i_93_38 ⟨rfl, rfl⟩
def d_97 (g : Nat) (a0 : Nat) (h0 : aH) : Option (aH) := (if isO (nO h0 5) (h0).length 5 = true then ((d_54 g (h0).length (nO h0 5)).bind (fun z_4 => ((sF z_4 a0 10 0 (.ref (h0).length)).bind (fun h_8 => (if isO (nO h_8 7) (h_8).length 7 = true then ((d_70 g (h_8).length (nO h_8 7)).bind (fun z_13 => ((sF z_13 a0 10 1 (.ref (h_8).length)).bind (fun h_17 => ((sF h_17 a0 10 2 (.int (-1 : Int32))).bind (fun h_19 => ((sF (nA h_19 0 10) a0 10 4 (.ref (h_19).length)).bind (fun h_21 => ((sF (nA h_21 0 10) a0 10 5 (.ref (h_21).length)).bind (fun h_23 => ((sF (nA h_23 0 10) a0 10 6 (.ref (h_23).length)).bind (fun h_25 => ((sF (nA h_25 0 10) a0 10 7 (.ref (h_25).length)).bind (fun h_27 => some h_27)))))))))))))) else none))))) else none)
set_option maxHeartbeats 4000000 in
set_option maxRecDepth 100000 in
theorem d_97_ok {X : aX} {g : Nat} {a0 : Nat} {h0 : aH} {zz : aH} {d : Nat} (hdp : 1 ≤ d) (hd : d_97 g a0 h0 = some zz) : aWp X d 97 0 (aEntL [.ref a0] 1) [] h0 (fun w h' => w = none ∧ h' = zz) := by
  unfold d_97 at hd
  refine wp_lv (l2 := [some (.ref a0)]) rfl ?_
  obtain ⟨e, rfl⟩ : ∃ e, d = e + 1 := ⟨d - 1, by omega⟩
  refine wp_s 1 [some (.ref a0)] [.ref a0] h0 i_97_0 rfl ?_
  refine hp_obj 4 rfl i_97_1 rfl ?_
  refine wp_s 5 [some (.ref a0)] [.ref a0] h0 i_97_4 rfl ?_
  refine wp_s 8 [some (.ref a0)] [.ref (h0).length, .ref a0] (nO h0 5) i_97_5 rfl ?_
  refine wp_s 9 [some (.ref a0)] [.ref (h0).length, .ref (h0).length, .ref a0] (nO h0 5) i_97_8 rfl ?_
  obtain ⟨k_1, hd⟩ := dk_if hd
  obtain ⟨fs_2, o_3⟩ := isO_of k_1
  obtain ⟨z_4, q_5, hd⟩ := dk_bind hd
  refine wp_callI 12 rfl i_97_9 (by decide) rfl (vs := []) (rest := [.ref (h0).length, .ref a0]) rfl rfl rfl o_3 (y := m_54) rfl (Nat.le_of_ble_eq_true rfl) (d_54_ok (d := e) (by omega) q_5) ?_
  rintro v_6 h_7 ⟨rfl, hz⟩
  have hz := hz.symm
  subst hz
  obtain ⟨h_8, q_9, hd⟩ := dk_bind hd
  refine hp_sF 15 rfl i_97_12 q_9 ?_
  refine wp_s 16 [some (.ref a0)] [.ref a0] h_8 i_97_15 rfl ?_
  refine wp_s 19 [some (.ref a0)] [.ref (h_8).length, .ref a0] (nO h_8 7) i_97_16 rfl ?_
  refine wp_s 20 [some (.ref a0)] [.ref (h_8).length, .ref (h_8).length, .ref a0] (nO h_8 7) i_97_19 rfl ?_
  obtain ⟨k_10, hd⟩ := dk_if hd
  obtain ⟨fs_11, o_12⟩ := isO_of k_10
  obtain ⟨z_13, q_14, hd⟩ := dk_bind hd
  refine wp_callI 23 rfl i_97_20 (by decide) rfl (vs := []) (rest := [.ref (h_8).length, .ref a0]) rfl rfl rfl o_12 (y := m_70) rfl (Nat.le_of_ble_eq_true rfl) (d_70_ok (d := e) (by omega) q_14) ?_
  rintro v_15 h_16 ⟨rfl, hz⟩
  have hz := hz.symm
  subst hz
  obtain ⟨h_17, q_18, hd⟩ := dk_bind hd
  refine hp_sF 26 rfl i_97_23 q_18 ?_
  refine wp_s 27 [some (.ref a0)] [.ref a0] h_17 i_97_26 rfl ?_
  refine wp_s 28 [some (.ref a0)] [.int (-1 : Int32), .ref a0] h_17 i_97_27 rfl ?_
  obtain ⟨h_19, q_20, hd⟩ := dk_bind hd
  refine hp_sF 31 rfl i_97_28 q_20 ?_
  refine wp_s 32 [some (.ref a0)] [.ref a0] h_19 i_97_31 rfl ?_
  refine wp_s 34 [some (.ref a0)] [.int (10 : Int32), .ref a0] h_19 i_97_32 rfl ?_
  refine hp_newa (N := 10) 36 rfl i_97_34 (by decide) (by decide) (by decide) ?_
  obtain ⟨h_21, q_22, hd⟩ := dk_bind hd
  refine hp_sF 39 rfl i_97_36 q_22 ?_
  refine wp_s 40 [some (.ref a0)] [.ref a0] h_21 i_97_39 rfl ?_
  refine wp_s 42 [some (.ref a0)] [.int (10 : Int32), .ref a0] h_21 i_97_40 rfl ?_
  refine hp_newa (N := 10) 44 rfl i_97_42 (by decide) (by decide) (by decide) ?_
  obtain ⟨h_23, q_24, hd⟩ := dk_bind hd
  refine hp_sF 47 rfl i_97_44 q_24 ?_
  refine wp_s 48 [some (.ref a0)] [.ref a0] h_23 i_97_47 rfl ?_
  refine wp_s 50 [some (.ref a0)] [.int (10 : Int32), .ref a0] h_23 i_97_48 rfl ?_
  refine hp_newa (N := 10) 52 rfl i_97_50 (by decide) (by decide) (by decide) ?_
  obtain ⟨h_25, q_26, hd⟩ := dk_bind hd
  refine hp_sF 55 rfl i_97_52 q_26 ?_
  refine wp_s 56 [some (.ref a0)] [.ref a0] h_25 i_97_55 rfl ?_
  refine wp_s 58 [some (.ref a0)] [.int (10 : Int32), .ref a0] h_25 i_97_56 rfl ?_
  refine hp_newa (N := 10) 60 rfl i_97_58 (by decide) (by decide) (by decide) ?_
  obtain ⟨h_27, q_28, hd⟩ := dk_bind hd
  refine hp_sF 63 rfl i_97_60 q_28 ?_
  obtain rfl := Option.some.inj hd
  exact wp_ret i_97_63 rfl ⟨rfl, rfl⟩
def d_98 (g : Nat) (a0 : Nat) (a1 : Nat) (h0 : aH) : Option (aH) := ((sF h0 a0 10 0 (.ref a1)).bind (fun h_1 => ((gR h_1 a0 10 1).bind (fun f_3 => (if isO h_1 f_3 7 = true then ((d_71 g f_3 a1 h_1).bind (fun z_8 => ((sF z_8 a0 10 8 (.int (0 : Int32))).bind (fun h_12 => some h_12)))) else none)))))
set_option maxHeartbeats 4000000 in
set_option maxRecDepth 100000 in
theorem d_98_ok {X : aX} {g : Nat} {a0 : Nat} {a1 : Nat} {h0 : aH} {zz : aH} {d : Nat} (hdp : 2 ≤ d) (hd : d_98 g a0 a1 h0 = some zz) : aWp X d 98 0 (aEntL [.ref a0, .ref a1] 2) [] h0 (fun w h' => w = none ∧ h' = zz) := by
  unfold d_98 at hd
  refine wp_lv (l2 := [some (.ref a0), some (.ref a1)]) rfl ?_
  obtain ⟨e, rfl⟩ : ∃ e, d = e + 1 := ⟨d - 1, by omega⟩
  refine wp_s 1 [some (.ref a0), some (.ref a1)] [.ref a0] h0 i_98_0 rfl ?_
  refine wp_s 2 [some (.ref a0), some (.ref a1)] [.ref a1, .ref a0] h0 i_98_1 rfl ?_
  obtain ⟨h_1, q_2, hd⟩ := dk_bind hd
  refine hp_sF 5 rfl i_98_2 q_2 ?_
  refine wp_s 6 [some (.ref a0), some (.ref a1)] [.ref a0] h_1 i_98_5 rfl ?_
  obtain ⟨f_3, q_4, hd⟩ := dk_bind hd
  refine hp_gR 9 rfl i_98_6 q_4 ?_
  refine wp_s 10 [some (.ref a0), some (.ref a1)] [.ref a1, .ref f_3] h_1 i_98_9 rfl ?_
  obtain ⟨k_5, hd⟩ := dk_if hd
  obtain ⟨fs_6, o_7⟩ := isO_of k_5
  obtain ⟨z_8, q_9, hd⟩ := dk_bind hd
  refine wp_callV 13 rfl i_98_10 (by decide) rfl (vs := [.ref a1]) (rest := []) rfl rfl rfl o_7 (y := m_71) rfl (Nat.le_of_ble_eq_true rfl) (d_71_ok (d := e) (by omega) q_9) ?_
  rintro v_10 h_11 ⟨rfl, hz⟩
  have hz := hz.symm
  subst hz
  refine wp_s 14 [some (.ref a0), some (.ref a1)] [.ref a0] z_8 i_98_13 rfl ?_
  refine wp_s 15 [some (.ref a0), some (.ref a1)] [.int (0 : Int32), .ref a0] z_8 i_98_14 rfl ?_
  obtain ⟨h_12, q_13, hd⟩ := dk_bind hd
  refine hp_sF 18 rfl i_98_15 q_13 ?_
  obtain rfl := Option.some.inj hd
  exact wp_ret i_98_18 rfl ⟨rfl, rfl⟩
def d_99 (g : Nat) (a0 : Nat) (a1 : Nat) (h0 : aH) : Option (aH) := ((gR h0 a1 10 0).bind (fun f_1 => ((sF h0 a0 10 0 (.ref f_1)).bind (fun h_3 => ((gR h_3 a0 10 1).bind (fun f_5 => ((gR h_3 a1 10 1).bind (fun f_7 => (if isO h_3 f_5 7 = true then ((d_72 g f_5 f_7 h_3).bind (fun z_12 => ((gI z_12 a1 10 2).bind (fun f_16 => ((sF z_12 a0 10 2 (.int f_16)).bind (fun h_18 => ((gI h_18 a1 10 3).bind (fun f_20 => ((sF h_18 a0 10 3 (.int f_20)).bind (fun h_22 => ((gR h_22 a1 10 4).bind (fun f_24 => ((gR h_22 a0 10 4).bind (fun f_26 => ((sC h_22 f_24 (0 : Int32) f_26 (0 : Int32) (10 : Int32)).bind (fun h_28 => ((gR h_28 a1 10 5).bind (fun f_30 => ((gR h_28 a0 10 5).bind (fun f_32 => ((sC h_28 f_30 (0 : Int32) f_32 (0 : Int32) (10 : Int32)).bind (fun h_34 => ((gR h_34 a1 10 6).bind (fun f_36 => ((gR h_34 a0 10 6).bind (fun f_38 => ((sC h_34 f_36 (0 : Int32) f_38 (0 : Int32) (10 : Int32)).bind (fun h_40 => ((gR h_40 a1 10 7).bind (fun f_42 => ((gR h_40 a0 10 7).bind (fun f_44 => ((sC h_40 f_42 (0 : Int32) f_44 (0 : Int32) (10 : Int32)).bind (fun h_46 => ((gI h_46 a1 10 8).bind (fun f_48 => ((sF h_46 a0 10 8 (.int f_48)).bind (fun h_50 => some h_50)))))))))))))))))))))))))))))))))))))) else none)))))))))
set_option maxHeartbeats 4000000 in
set_option maxRecDepth 100000 in
theorem d_99_ok {X : aX} {g : Nat} {a0 : Nat} {a1 : Nat} {h0 : aH} {zz : aH} {d : Nat} (hdp : 1 ≤ d) (hd : d_99 g a0 a1 h0 = some zz) : aWp X d 99 0 (aEntL [.ref a0, .ref a1] 2) [] h0 (fun w h' => w = none ∧ h' = zz) := by
  unfold d_99 at hd
  refine wp_lv (l2 := [some (.ref a0), some (.ref a1)]) rfl ?_
  obtain ⟨e, rfl⟩ : ∃ e, d = e + 1 := ⟨d - 1, by omega⟩
  refine wp_s 1 [some (.ref a0), some (.ref a1)] [.ref a0] h0 i_99_0 rfl ?_
  refine wp_s 2 [some (.ref a0), some (.ref a1)] [.ref a1, .ref a0] h0 i_99_1 rfl ?_
  obtain ⟨f_1, q_2, hd⟩ := dk_bind hd
  refine hp_gR 5 rfl i_99_2 q_2 ?_
  obtain ⟨h_3, q_4, hd⟩ := dk_bind hd
  refine hp_sF 8 rfl i_99_5 q_4 ?_
  refine wp_s 9 [some (.ref a0), some (.ref a1)] [.ref a0] h_3 i_99_8 rfl ?_
  obtain ⟨f_5, q_6, hd⟩ := dk_bind hd
  refine hp_gR 12 rfl i_99_9 q_6 ?_
  refine wp_s 13 [some (.ref a0), some (.ref a1)] [.ref a1, .ref f_5] h_3 i_99_12 rfl ?_
  obtain ⟨f_7, q_8, hd⟩ := dk_bind hd
  refine hp_gR 16 rfl i_99_13 q_8 ?_
  obtain ⟨k_9, hd⟩ := dk_if hd
  obtain ⟨fs_10, o_11⟩ := isO_of k_9
  obtain ⟨z_12, q_13, hd⟩ := dk_bind hd
  refine wp_callV 19 rfl i_99_16 (by decide) rfl (vs := [.ref f_7]) (rest := []) rfl rfl rfl o_11 (y := m_72) rfl (Nat.le_of_ble_eq_true rfl) (d_72_ok (d := e) (by omega) q_13) ?_
  rintro v_14 h_15 ⟨rfl, hz⟩
  have hz := hz.symm
  subst hz
  refine wp_s 20 [some (.ref a0), some (.ref a1)] [.ref a0] z_12 i_99_19 rfl ?_
  refine wp_s 21 [some (.ref a0), some (.ref a1)] [.ref a1, .ref a0] z_12 i_99_20 rfl ?_
  obtain ⟨f_16, q_17, hd⟩ := dk_bind hd
  refine hp_gI 24 rfl i_99_21 q_17 ?_
  obtain ⟨h_18, q_19, hd⟩ := dk_bind hd
  refine hp_sF 27 rfl i_99_24 q_19 ?_
  refine wp_s 28 [some (.ref a0), some (.ref a1)] [.ref a0] h_18 i_99_27 rfl ?_
  refine wp_s 29 [some (.ref a0), some (.ref a1)] [.ref a1, .ref a0] h_18 i_99_28 rfl ?_
  obtain ⟨f_20, q_21, hd⟩ := dk_bind hd
  refine hp_gI 32 rfl i_99_29 q_21 ?_
  obtain ⟨h_22, q_23, hd⟩ := dk_bind hd
  refine hp_sF 35 rfl i_99_32 q_23 ?_
  refine wp_s 36 [some (.ref a0), some (.ref a1)] [.ref a1] h_22 i_99_35 rfl ?_
  obtain ⟨f_24, q_25, hd⟩ := dk_bind hd
  refine hp_gR 39 rfl i_99_36 q_25 ?_
  refine wp_s 40 [some (.ref a0), some (.ref a1)] [.int (0 : Int32), .ref f_24] h_22 i_99_39 rfl ?_
  refine wp_s 41 [some (.ref a0), some (.ref a1)] [.ref a0, .int (0 : Int32), .ref f_24] h_22 i_99_40 rfl ?_
  obtain ⟨f_26, q_27, hd⟩ := dk_bind hd
  refine hp_gR 44 rfl i_99_41 q_27 ?_
  refine wp_s 45 [some (.ref a0), some (.ref a1)] [.int (0 : Int32), .ref f_26, .int (0 : Int32), .ref f_24] h_22 i_99_44 rfl ?_
  refine wp_s 47 [some (.ref a0), some (.ref a1)] [.int (10 : Int32), .int (0 : Int32), .ref f_26, .int (0 : Int32), .ref f_24] h_22 i_99_45 rfl ?_
  obtain ⟨h_28, q_29, hd⟩ := dk_bind hd
  refine hp_sC 50 rfl i_99_47 rfl q_29 ?_
  refine wp_s 51 [some (.ref a0), some (.ref a1)] [.ref a1] h_28 i_99_50 rfl ?_
  obtain ⟨f_30, q_31, hd⟩ := dk_bind hd
  refine hp_gR 54 rfl i_99_51 q_31 ?_
  refine wp_s 55 [some (.ref a0), some (.ref a1)] [.int (0 : Int32), .ref f_30] h_28 i_99_54 rfl ?_
  refine wp_s 56 [some (.ref a0), some (.ref a1)] [.ref a0, .int (0 : Int32), .ref f_30] h_28 i_99_55 rfl ?_
  obtain ⟨f_32, q_33, hd⟩ := dk_bind hd
  refine hp_gR 59 rfl i_99_56 q_33 ?_
  refine wp_s 60 [some (.ref a0), some (.ref a1)] [.int (0 : Int32), .ref f_32, .int (0 : Int32), .ref f_30] h_28 i_99_59 rfl ?_
  refine wp_s 62 [some (.ref a0), some (.ref a1)] [.int (10 : Int32), .int (0 : Int32), .ref f_32, .int (0 : Int32), .ref f_30] h_28 i_99_60 rfl ?_
  obtain ⟨h_34, q_35, hd⟩ := dk_bind hd
  refine hp_sC 65 rfl i_99_62 rfl q_35 ?_
  refine wp_s 66 [some (.ref a0), some (.ref a1)] [.ref a1] h_34 i_99_65 rfl ?_
  obtain ⟨f_36, q_37, hd⟩ := dk_bind hd
  refine hp_gR 69 rfl i_99_66 q_37 ?_
  refine wp_s 70 [some (.ref a0), some (.ref a1)] [.int (0 : Int32), .ref f_36] h_34 i_99_69 rfl ?_
  refine wp_s 71 [some (.ref a0), some (.ref a1)] [.ref a0, .int (0 : Int32), .ref f_36] h_34 i_99_70 rfl ?_
  obtain ⟨f_38, q_39, hd⟩ := dk_bind hd
  refine hp_gR 74 rfl i_99_71 q_39 ?_
  refine wp_s 75 [some (.ref a0), some (.ref a1)] [.int (0 : Int32), .ref f_38, .int (0 : Int32), .ref f_36] h_34 i_99_74 rfl ?_
  refine wp_s 77 [some (.ref a0), some (.ref a1)] [.int (10 : Int32), .int (0 : Int32), .ref f_38, .int (0 : Int32), .ref f_36] h_34 i_99_75 rfl ?_
  obtain ⟨h_40, q_41, hd⟩ := dk_bind hd
  refine hp_sC 80 rfl i_99_77 rfl q_41 ?_
  refine wp_s 81 [some (.ref a0), some (.ref a1)] [.ref a1] h_40 i_99_80 rfl ?_
  obtain ⟨f_42, q_43, hd⟩ := dk_bind hd
  refine hp_gR 84 rfl i_99_81 q_43 ?_
  refine wp_s 85 [some (.ref a0), some (.ref a1)] [.int (0 : Int32), .ref f_42] h_40 i_99_84 rfl ?_
  refine wp_s 86 [some (.ref a0), some (.ref a1)] [.ref a0, .int (0 : Int32), .ref f_42] h_40 i_99_85 rfl ?_
  obtain ⟨f_44, q_45, hd⟩ := dk_bind hd
  refine hp_gR 89 rfl i_99_86 q_45 ?_
  refine wp_s 90 [some (.ref a0), some (.ref a1)] [.int (0 : Int32), .ref f_44, .int (0 : Int32), .ref f_42] h_40 i_99_89 rfl ?_
  refine wp_s 92 [some (.ref a0), some (.ref a1)] [.int (10 : Int32), .int (0 : Int32), .ref f_44, .int (0 : Int32), .ref f_42] h_40 i_99_90 rfl ?_
  obtain ⟨h_46, q_47, hd⟩ := dk_bind hd
  refine hp_sC 95 rfl i_99_92 rfl q_47 ?_
  refine wp_s 96 [some (.ref a0), some (.ref a1)] [.ref a0] h_46 i_99_95 rfl ?_
  refine wp_s 97 [some (.ref a0), some (.ref a1)] [.ref a1, .ref a0] h_46 i_99_96 rfl ?_
  obtain ⟨f_48, q_49, hd⟩ := dk_bind hd
  refine hp_gI 100 rfl i_99_97 q_49 ?_
  obtain ⟨h_50, q_51, hd⟩ := dk_bind hd
  refine hp_sF 103 rfl i_99_100 q_51 ?_
  obtain rfl := Option.some.inj hd
  exact wp_ret i_99_103 rfl ⟨rfl, rfl⟩
def d_100 (g : Nat) (a0 : Nat) (x1 : Int32) (x2 : Int32) (x3 : Int32) (x4 : Int32) (h0 : aH) : Option (aH) := ((gR h0 a0 10 4).bind (fun f_1 => ((gI h0 a0 10 8).bind (fun f_3 => ((sA h0 f_1 f_3 x1).bind (fun h_5 => ((gR h_5 a0 10 5).bind (fun f_7 => ((gI h_5 a0 10 8).bind (fun f_9 => ((sA h_5 f_7 f_9 x2).bind (fun h_11 => ((gR h_11 a0 10 6).bind (fun f_13 => ((gI h_11 a0 10 8).bind (fun f_15 => ((sA h_11 f_13 f_15 x3).bind (fun h_17 => ((gR h_17 a0 10 7).bind (fun f_19 => ((gI h_17 a0 10 8).bind (fun f_21 => ((sA h_17 f_19 f_21 x4).bind (fun h_23 => ((gI h_23 a0 10 8).bind (fun f_25 => ((sF h_23 a0 10 8 (.int (f_25 + (1 : Int32)))).bind (fun h_27 => some h_27))))))))))))))))))))))))))))
set_option maxHeartbeats 4000000 in
set_option maxRecDepth 100000 in
theorem d_100_ok {X : aX} {g : Nat} {a0 : Nat} {x1 : Int32} {x2 : Int32} {x3 : Int32} {x4 : Int32} {h0 : aH} {zz : aH} {d : Nat} (hdp : 0 ≤ d) (hd : d_100 g a0 x1 x2 x3 x4 h0 = some zz) : aWp X d 100 0 (aEntL [.ref a0, .int x1, .int x2, .int x3, .int x4] 5) [] h0 (fun w h' => w = none ∧ h' = zz) := by
  unfold d_100 at hd
  refine wp_lv (l2 := [some (.ref a0), some (.int x1), some (.int x2), some (.int x3), some (.int x4)]) rfl ?_
  refine wp_s 1 [some (.ref a0), some (.int x1), some (.int x2), some (.int x3), some (.int x4)] [.ref a0] h0 i_100_0 rfl ?_
  obtain ⟨f_1, q_2, hd⟩ := dk_bind hd
  refine hp_gR 4 rfl i_100_1 q_2 ?_
  refine wp_s 5 [some (.ref a0), some (.int x1), some (.int x2), some (.int x3), some (.int x4)] [.ref a0, .ref f_1] h0 i_100_4 rfl ?_
  obtain ⟨f_3, q_4, hd⟩ := dk_bind hd
  refine hp_gI 8 rfl i_100_5 q_4 ?_
  refine wp_s 9 [some (.ref a0), some (.int x1), some (.int x2), some (.int x3), some (.int x4)] [.int x1, .int f_3, .ref f_1] h0 i_100_8 rfl ?_
  obtain ⟨h_5, q_6, hd⟩ := dk_bind hd
  refine hp_sA 10 rfl i_100_9 q_6 ?_
  refine wp_s 11 [some (.ref a0), some (.int x1), some (.int x2), some (.int x3), some (.int x4)] [.ref a0] h_5 i_100_10 rfl ?_
  obtain ⟨f_7, q_8, hd⟩ := dk_bind hd
  refine hp_gR 14 rfl i_100_11 q_8 ?_
  refine wp_s 15 [some (.ref a0), some (.int x1), some (.int x2), some (.int x3), some (.int x4)] [.ref a0, .ref f_7] h_5 i_100_14 rfl ?_
  obtain ⟨f_9, q_10, hd⟩ := dk_bind hd
  refine hp_gI 18 rfl i_100_15 q_10 ?_
  refine wp_s 19 [some (.ref a0), some (.int x1), some (.int x2), some (.int x3), some (.int x4)] [.int x2, .int f_9, .ref f_7] h_5 i_100_18 rfl ?_
  obtain ⟨h_11, q_12, hd⟩ := dk_bind hd
  refine hp_sA 20 rfl i_100_19 q_12 ?_
  refine wp_s 21 [some (.ref a0), some (.int x1), some (.int x2), some (.int x3), some (.int x4)] [.ref a0] h_11 i_100_20 rfl ?_
  obtain ⟨f_13, q_14, hd⟩ := dk_bind hd
  refine hp_gR 24 rfl i_100_21 q_14 ?_
  refine wp_s 25 [some (.ref a0), some (.int x1), some (.int x2), some (.int x3), some (.int x4)] [.ref a0, .ref f_13] h_11 i_100_24 rfl ?_
  obtain ⟨f_15, q_16, hd⟩ := dk_bind hd
  refine hp_gI 28 rfl i_100_25 q_16 ?_
  refine wp_s 29 [some (.ref a0), some (.int x1), some (.int x2), some (.int x3), some (.int x4)] [.int x3, .int f_15, .ref f_13] h_11 i_100_28 rfl ?_
  obtain ⟨h_17, q_18, hd⟩ := dk_bind hd
  refine hp_sA 30 rfl i_100_29 q_18 ?_
  refine wp_s 31 [some (.ref a0), some (.int x1), some (.int x2), some (.int x3), some (.int x4)] [.ref a0] h_17 i_100_30 rfl ?_
  obtain ⟨f_19, q_20, hd⟩ := dk_bind hd
  refine hp_gR 34 rfl i_100_31 q_20 ?_
  refine wp_s 35 [some (.ref a0), some (.int x1), some (.int x2), some (.int x3), some (.int x4)] [.ref a0, .ref f_19] h_17 i_100_34 rfl ?_
  obtain ⟨f_21, q_22, hd⟩ := dk_bind hd
  refine hp_gI 38 rfl i_100_35 q_22 ?_
  refine wp_s 40 [some (.ref a0), some (.int x1), some (.int x2), some (.int x3), some (.int x4)] [.int x4, .int f_21, .ref f_19] h_17 i_100_38 rfl ?_
  obtain ⟨h_23, q_24, hd⟩ := dk_bind hd
  refine hp_sA 41 rfl i_100_40 q_24 ?_
  refine wp_s 42 [some (.ref a0), some (.int x1), some (.int x2), some (.int x3), some (.int x4)] [.ref a0] h_23 i_100_41 rfl ?_
  refine wp_s 43 [some (.ref a0), some (.int x1), some (.int x2), some (.int x3), some (.int x4)] [.ref a0, .ref a0] h_23 i_100_42 rfl ?_
  obtain ⟨f_25, q_26, hd⟩ := dk_bind hd
  refine hp_gI 46 rfl i_100_43 q_26 ?_
  refine wp_s 47 [some (.ref a0), some (.int x1), some (.int x2), some (.int x3), some (.int x4)] [.int (1 : Int32), .int f_25, .ref a0] h_23 i_100_46 rfl ?_
  refine wp_s 48 [some (.ref a0), some (.int x1), some (.int x2), some (.int x3), some (.int x4)] [.int (f_25 + (1 : Int32)), .ref a0] h_23 i_100_47 rfl ?_
  obtain ⟨h_27, q_28, hd⟩ := dk_bind hd
  refine hp_sF 51 rfl i_100_48 q_28 ?_
  obtain rfl := Option.some.inj hd
  exact wp_ret i_100_51 rfl ⟨rfl, rfl⟩
def l_101 (g n tag : Nat) (a0 : Nat) (x1 : Int32) (h0 : aH) : Option (aH) := match n with
  | 0 => none
  | n + 1 => if tag = 0 then (if (4 : Int32) ≤ x1 then some h0 else ((gR h0 a0 11 7).bind (fun f_2 => (if isO (nO h0 10) (h0).length 10 = true then ((d_97 g (h0).length (nO h0 10)).bind (fun z_7 => ((sQ z_7 f_2 x1 (h0).length).bind (fun h_11 => (l_101 g n 0 a0 (x1 + (1 : Int32)) h_11))))) else none)))) else none
set_option maxHeartbeats 4000000 in
set_option maxRecDepth 100000 in
theorem l_101_ok {X : aX} {g : Nat} {d : Nat} (hdp : 2 ≤ d) : ∀ n, (∀ (a0 : Nat) (x1 : Int32) (h0 : aH) (zz : aH), l_101 g n 0 a0 x1 h0 = some zz → aWp X d 101 118 [some (.ref a0), some (.int x1)] [] h0 (fun w h' => w = none ∧ h' = zz)) := by
  intro n
  induction n with
  | zero => exact fun _ _ _ _ hd => by simp [l_101] at hd
  | succ n ih =>
    intro a0 x1 h0 zz hd
    unfold l_101 at hd
    rw [if_pos rfl] at hd
    obtain ⟨e, rfl⟩ : ∃ e, d = e + 1 := ⟨d - 1, by omega⟩
    refine wp_s 119 [some (.ref a0), some (.int x1)] [.int x1] h0 i_101_118 rfl ?_
    refine wp_s 120 [some (.ref a0), some (.int x1)] [.int (4 : Int32), .int x1] h0 i_101_119 rfl ?_
    refine wp_cmp_ge 142 123 rfl rfl i_101_120 (fun c_1 => ?_) (fun c_1 => ?_)
    · rw [if_pos c_1] at hd
      obtain rfl := Option.some.inj hd
      exact wp_ret i_101_142 rfl ⟨rfl, rfl⟩
    · rw [if_neg c_1] at hd
      refine wp_s 124 [some (.ref a0), some (.int x1)] [.ref a0] h0 i_101_123 rfl ?_
      obtain ⟨f_2, q_3, hd⟩ := dk_bind hd
      refine hp_gR 127 rfl i_101_124 q_3 ?_
      refine wp_s 128 [some (.ref a0), some (.int x1)] [.int x1, .ref f_2] h0 i_101_127 rfl ?_
      refine wp_s 131 [some (.ref a0), some (.int x1)] [.ref (h0).length, .int x1, .ref f_2] (nO h0 10) i_101_128 rfl ?_
      refine wp_s 132 [some (.ref a0), some (.int x1)] [.ref (h0).length, .ref (h0).length, .int x1, .ref f_2] (nO h0 10) i_101_131 rfl ?_
      obtain ⟨k_4, hd⟩ := dk_if hd
      obtain ⟨fs_5, o_6⟩ := isO_of k_4
      obtain ⟨z_7, q_8, hd⟩ := dk_bind hd
      refine wp_callI 135 rfl i_101_132 (by decide) rfl (vs := []) (rest := [.ref (h0).length, .int x1, .ref f_2]) rfl rfl rfl o_6 (y := m_97) rfl (Nat.le_of_ble_eq_true rfl) (d_97_ok (d := e) (by omega) q_8) ?_
      rintro v_9 h_10 ⟨rfl, hz⟩
      have hz := hz.symm
      subst hz
      obtain ⟨h_11, q_12, hd⟩ := dk_bind hd
      refine hp_sQ 136 rfl i_101_135 q_12 ?_
      refine wp_s 139 [some (.ref a0), some (.int (x1 + (1 : Int32)))] [] h_11 i_101_136 rfl ?_
      refine wp_s 118 [some (.ref a0), some (.int (x1 + (1 : Int32)))] [] h_11 i_101_139 rfl ?_
      exact aWp.forget (ih _ _ _ _ hd) (lvS (lvS lvE))
def d_101 (g : Nat) (a0 : Nat) (h0 : aH) : Option (aH) := (if isO (nO h0 8) (h0).length 8 = true then ((d_80 g (h0).length (nO h0 8)).bind (fun z_1004 => ((sF z_1004 a0 11 0 (.ref (h0).length)).bind (fun h_1008 => ((gR (nO h_1008 6) a0 11 0).bind (fun f_1010 => (if isO (nO h_1008 6) (h_1008).length 6 = true then ((d_59 g (h_1008).length f_1010 (nO h_1008 6)).bind (fun z_1015 => ((sF z_1015 a0 11 1 (.ref (h_1008).length)).bind (fun h_1019 => ((gR (nO h_1019 4) a0 11 0).bind (fun f_1021 => (if isO (nO h_1019 4) (h_1019).length 4 = true then ((d_44 g (h_1019).length f_1021 (nO h_1019 4)).bind (fun z_1026 => ((sF z_1026 a0 11 2 (.ref (h_1019).length)).bind (fun h_1030 => (if isO (nO h_1030 10) (h_1030).length 10 = true then ((d_97 g (h_1030).length (nO h_1030 10)).bind (fun z_1035 => ((sF z_1035 a0 11 3 (.ref (h_1030).length)).bind (fun h_1039 => ((gR (nO h_1039 9) a0 11 3).bind (fun f_1041 => (if isO (nO h_1039 9) (h_1039).length 9 = true then ((d_88 g (h_1039).length f_1041 (nO h_1039 9)).bind (fun z_1046 => ((sF z_1046 a0 11 4 (.ref (h_1039).length)).bind (fun h_1050 => ((gR (nO h_1050 2) a0 11 3).bind (fun f_1052 => ((gR (nO h_1050 2) a0 11 4).bind (fun f_1054 => (if isO (nO h_1050 2) (h_1050).length 2 = true then ((d_11 g (h_1050).length f_1052 f_1054 (nO h_1050 2)).bind (fun z_1059 => ((sF z_1059 a0 11 5 (.ref (h_1050).length)).bind (fun h_1063 => (if isO (nO h_1063 1) (h_1063).length 1 = true then ((d_7 g (h_1063).length (nO h_1063 1)).bind (fun z_1068 => ((sF z_1068 a0 11 6 (.ref (h_1063).length)).bind (fun h_1072 => ((sF (nQ h_1072 5 4) a0 11 7 (.ref (h_1072).length)).bind (fun h_1074 => ((sF (nA h_1074 2 4) a0 11 8 (.ref (h_1074).length)).bind (fun h_1076 => (l_101 g g 0 a0 (0 : Int32) h_1076))))))))) else none))))) else none))))))))) else none))))))) else none))))) else none))))))) else none))))))) else none)
set_option maxHeartbeats 4000000 in
set_option maxRecDepth 100000 in
theorem d_101_ok {X : aX} {g : Nat} {a0 : Nat} {h0 : aH} {zz : aH} {d : Nat} (hdp : 2 ≤ d) (hd : d_101 g a0 h0 = some zz) : aWp X d 101 0 (aEntL [.ref a0] 2) [] h0 (fun w h' => w = none ∧ h' = zz) := by
  unfold d_101 at hd
  refine wp_lv (l2 := [some (.ref a0), none]) rfl ?_
  obtain ⟨e, rfl⟩ : ∃ e, d = e + 1 := ⟨d - 1, by omega⟩
  refine wp_s 1 [some (.ref a0), none] [.ref a0] h0 i_101_0 rfl ?_
  refine hp_obj 4 rfl i_101_1 rfl ?_
  refine wp_s 5 [some (.ref a0), none] [.ref a0] h0 i_101_4 rfl ?_
  refine wp_s 8 [some (.ref a0), none] [.ref (h0).length, .ref a0] (nO h0 8) i_101_5 rfl ?_
  refine wp_s 9 [some (.ref a0), none] [.ref (h0).length, .ref (h0).length, .ref a0] (nO h0 8) i_101_8 rfl ?_
  obtain ⟨k_1001, hd⟩ := dk_if hd
  obtain ⟨fs_1002, o_1003⟩ := isO_of k_1001
  obtain ⟨z_1004, q_1005, hd⟩ := dk_bind hd
  refine wp_callI 12 rfl i_101_9 (by decide) rfl (vs := []) (rest := [.ref (h0).length, .ref a0]) rfl rfl rfl o_1003 (y := m_80) rfl (Nat.le_of_ble_eq_true rfl) (d_80_ok (d := e) (by omega) q_1005) ?_
  rintro v_1006 h_1007 ⟨rfl, hz⟩
  have hz := hz.symm
  subst hz
  obtain ⟨h_1008, q_1009, hd⟩ := dk_bind hd
  refine hp_sF 15 rfl i_101_12 q_1009 ?_
  refine wp_s 16 [some (.ref a0), none] [.ref a0] h_1008 i_101_15 rfl ?_
  refine wp_s 19 [some (.ref a0), none] [.ref (h_1008).length, .ref a0] (nO h_1008 6) i_101_16 rfl ?_
  refine wp_s 20 [some (.ref a0), none] [.ref (h_1008).length, .ref (h_1008).length, .ref a0] (nO h_1008 6) i_101_19 rfl ?_
  refine wp_s 21 [some (.ref a0), none] [.ref a0, .ref (h_1008).length, .ref (h_1008).length, .ref a0] (nO h_1008 6) i_101_20 rfl ?_
  obtain ⟨f_1010, q_1011, hd⟩ := dk_bind hd
  refine hp_gR 24 rfl i_101_21 q_1011 ?_
  obtain ⟨k_1012, hd⟩ := dk_if hd
  obtain ⟨fs_1013, o_1014⟩ := isO_of k_1012
  obtain ⟨z_1015, q_1016, hd⟩ := dk_bind hd
  refine wp_callI 27 rfl i_101_24 (by decide) rfl (vs := [.ref f_1010]) (rest := [.ref (h_1008).length, .ref a0]) rfl rfl rfl o_1014 (y := m_59) rfl (Nat.le_of_ble_eq_true rfl) (d_59_ok (d := e) (by omega) q_1016) ?_
  rintro v_1017 h_1018 ⟨rfl, hz⟩
  have hz := hz.symm
  subst hz
  obtain ⟨h_1019, q_1020, hd⟩ := dk_bind hd
  refine hp_sF 30 rfl i_101_27 q_1020 ?_
  refine wp_s 31 [some (.ref a0), none] [.ref a0] h_1019 i_101_30 rfl ?_
  refine wp_s 34 [some (.ref a0), none] [.ref (h_1019).length, .ref a0] (nO h_1019 4) i_101_31 rfl ?_
  refine wp_s 35 [some (.ref a0), none] [.ref (h_1019).length, .ref (h_1019).length, .ref a0] (nO h_1019 4) i_101_34 rfl ?_
  refine wp_s 36 [some (.ref a0), none] [.ref a0, .ref (h_1019).length, .ref (h_1019).length, .ref a0] (nO h_1019 4) i_101_35 rfl ?_
  obtain ⟨f_1021, q_1022, hd⟩ := dk_bind hd
  refine hp_gR 39 rfl i_101_36 q_1022 ?_
  obtain ⟨k_1023, hd⟩ := dk_if hd
  obtain ⟨fs_1024, o_1025⟩ := isO_of k_1023
  obtain ⟨z_1026, q_1027, hd⟩ := dk_bind hd
  refine wp_callI 42 rfl i_101_39 (by decide) rfl (vs := [.ref f_1021]) (rest := [.ref (h_1019).length, .ref a0]) rfl rfl rfl o_1025 (y := m_44) rfl (Nat.le_of_ble_eq_true rfl) (d_44_ok (d := e) (by omega) q_1027) ?_
  rintro v_1028 h_1029 ⟨rfl, hz⟩
  have hz := hz.symm
  subst hz
  obtain ⟨h_1030, q_1031, hd⟩ := dk_bind hd
  refine hp_sF 45 rfl i_101_42 q_1031 ?_
  refine wp_s 46 [some (.ref a0), none] [.ref a0] h_1030 i_101_45 rfl ?_
  refine wp_s 49 [some (.ref a0), none] [.ref (h_1030).length, .ref a0] (nO h_1030 10) i_101_46 rfl ?_
  refine wp_s 50 [some (.ref a0), none] [.ref (h_1030).length, .ref (h_1030).length, .ref a0] (nO h_1030 10) i_101_49 rfl ?_
  obtain ⟨k_1032, hd⟩ := dk_if hd
  obtain ⟨fs_1033, o_1034⟩ := isO_of k_1032
  obtain ⟨z_1035, q_1036, hd⟩ := dk_bind hd
  refine wp_callI 53 rfl i_101_50 (by decide) rfl (vs := []) (rest := [.ref (h_1030).length, .ref a0]) rfl rfl rfl o_1034 (y := m_97) rfl (Nat.le_of_ble_eq_true rfl) (d_97_ok (d := e) (by omega) q_1036) ?_
  rintro v_1037 h_1038 ⟨rfl, hz⟩
  have hz := hz.symm
  subst hz
  obtain ⟨h_1039, q_1040, hd⟩ := dk_bind hd
  refine hp_sF 56 rfl i_101_53 q_1040 ?_
  refine wp_s 57 [some (.ref a0), none] [.ref a0] h_1039 i_101_56 rfl ?_
  refine wp_s 60 [some (.ref a0), none] [.ref (h_1039).length, .ref a0] (nO h_1039 9) i_101_57 rfl ?_
  refine wp_s 61 [some (.ref a0), none] [.ref (h_1039).length, .ref (h_1039).length, .ref a0] (nO h_1039 9) i_101_60 rfl ?_
  refine wp_s 62 [some (.ref a0), none] [.ref a0, .ref (h_1039).length, .ref (h_1039).length, .ref a0] (nO h_1039 9) i_101_61 rfl ?_
  obtain ⟨f_1041, q_1042, hd⟩ := dk_bind hd
  refine hp_gR 65 rfl i_101_62 q_1042 ?_
  obtain ⟨k_1043, hd⟩ := dk_if hd
  obtain ⟨fs_1044, o_1045⟩ := isO_of k_1043
  obtain ⟨z_1046, q_1047, hd⟩ := dk_bind hd
  refine wp_callI 68 rfl i_101_65 (by decide) rfl (vs := [.ref f_1041]) (rest := [.ref (h_1039).length, .ref a0]) rfl rfl rfl o_1045 (y := m_88) rfl (Nat.le_of_ble_eq_true rfl) (d_88_ok (d := e) (by omega) q_1047) ?_
  rintro v_1048 h_1049 ⟨rfl, hz⟩
  have hz := hz.symm
  subst hz
  obtain ⟨h_1050, q_1051, hd⟩ := dk_bind hd
  refine hp_sF 71 rfl i_101_68 q_1051 ?_
  refine wp_s 72 [some (.ref a0), none] [.ref a0] h_1050 i_101_71 rfl ?_
  refine wp_s 75 [some (.ref a0), none] [.ref (h_1050).length, .ref a0] (nO h_1050 2) i_101_72 rfl ?_
  refine wp_s 76 [some (.ref a0), none] [.ref (h_1050).length, .ref (h_1050).length, .ref a0] (nO h_1050 2) i_101_75 rfl ?_
  refine wp_s 77 [some (.ref a0), none] [.ref a0, .ref (h_1050).length, .ref (h_1050).length, .ref a0] (nO h_1050 2) i_101_76 rfl ?_
  obtain ⟨f_1052, q_1053, hd⟩ := dk_bind hd
  refine hp_gR 80 rfl i_101_77 q_1053 ?_
  refine wp_s 81 [some (.ref a0), none] [.ref a0, .ref f_1052, .ref (h_1050).length, .ref (h_1050).length, .ref a0] (nO h_1050 2) i_101_80 rfl ?_
  obtain ⟨f_1054, q_1055, hd⟩ := dk_bind hd
  refine hp_gR 84 rfl i_101_81 q_1055 ?_
  obtain ⟨k_1056, hd⟩ := dk_if hd
  obtain ⟨fs_1057, o_1058⟩ := isO_of k_1056
  obtain ⟨z_1059, q_1060, hd⟩ := dk_bind hd
  refine wp_callI 87 rfl i_101_84 (by decide) rfl (vs := [.ref f_1052, .ref f_1054]) (rest := [.ref (h_1050).length, .ref a0]) rfl rfl rfl o_1058 (y := m_11) rfl (Nat.le_of_ble_eq_true rfl) (d_11_ok (d := e) (by omega) q_1060) ?_
  rintro v_1061 h_1062 ⟨rfl, hz⟩
  have hz := hz.symm
  subst hz
  obtain ⟨h_1063, q_1064, hd⟩ := dk_bind hd
  refine hp_sF 90 rfl i_101_87 q_1064 ?_
  refine wp_s 91 [some (.ref a0), none] [.ref a0] h_1063 i_101_90 rfl ?_
  refine wp_s 94 [some (.ref a0), none] [.ref (h_1063).length, .ref a0] (nO h_1063 1) i_101_91 rfl ?_
  refine wp_s 95 [some (.ref a0), none] [.ref (h_1063).length, .ref (h_1063).length, .ref a0] (nO h_1063 1) i_101_94 rfl ?_
  obtain ⟨k_1065, hd⟩ := dk_if hd
  obtain ⟨fs_1066, o_1067⟩ := isO_of k_1065
  obtain ⟨z_1068, q_1069, hd⟩ := dk_bind hd
  refine wp_callI 98 rfl i_101_95 (by decide) rfl (vs := []) (rest := [.ref (h_1063).length, .ref a0]) rfl rfl rfl o_1067 (y := m_7) rfl (Nat.le_of_ble_eq_true rfl) (d_7_ok (d := e) (by omega) q_1069) ?_
  rintro v_1070 h_1071 ⟨rfl, hz⟩
  have hz := hz.symm
  subst hz
  obtain ⟨h_1072, q_1073, hd⟩ := dk_bind hd
  refine hp_sF 101 rfl i_101_98 q_1073 ?_
  refine wp_s 102 [some (.ref a0), none] [.ref a0] h_1072 i_101_101 rfl ?_
  refine wp_s 103 [some (.ref a0), none] [.int (4 : Int32), .ref a0] h_1072 i_101_102 rfl ?_
  refine hp_anew (N := 4) 106 rfl i_101_103 (by decide) (by decide) (by decide) ?_
  obtain ⟨h_1074, q_1075, hd⟩ := dk_bind hd
  refine hp_sF 109 rfl i_101_106 q_1075 ?_
  refine wp_s 110 [some (.ref a0), none] [.ref a0] h_1074 i_101_109 rfl ?_
  refine wp_s 111 [some (.ref a0), none] [.int (4 : Int32), .ref a0] h_1074 i_101_110 rfl ?_
  refine hp_newa (N := 4) 113 rfl i_101_111 (by decide) (by decide) (by decide) ?_
  obtain ⟨h_1076, q_1077, hd⟩ := dk_bind hd
  refine hp_sF 116 rfl i_101_113 q_1077 ?_
  refine wp_s 117 [some (.ref a0), none] [.int (0 : Int32)] h_1076 i_101_116 rfl ?_
  refine wp_s 118 [some (.ref a0), some (.int (0 : Int32))] [] h_1076 i_101_117 rfl ?_
  exact aWp.forget ((l_101_ok hdp g) _ _ _ _ hd) (lvS (lvS lvE))
def d_102 (g : Nat) (a0 : Nat) (x1 : Int32) (x2 : Int32) (x3 : Int32) (x4 : Int32) (x5 : Int32) (h0 : aH) : Option (Int32 × aH) := ((gR h0 a0 11 0).bind (fun f_1 => ((gI h0 f_1 8 1).bind (fun f_3 => (if (f_3 + (20 : Int32)) ≤ (400 : Int32) then ((gR h0 a0 11 0).bind (fun f_6 => (if isO h0 f_6 8 = true then ((d_81 g f_6 x1 h0).bind (fun z_11 => ((gR z_11 a0 11 0).bind (fun f_15 => (if isO z_11 f_15 8 = true then ((d_81 g f_15 x2 z_11).bind (fun z_20 => ((gR z_20 a0 11 0).bind (fun f_24 => (if isO z_20 f_24 8 = true then ((d_81 g f_24 x3 z_20).bind (fun z_29 => ((gR z_29 a0 11 0).bind (fun f_33 => (if isO z_29 f_33 8 = true then ((d_81 g f_33 x4 z_29).bind (fun z_38 => ((gR z_38 a0 11 0).bind (fun f_42 => (if isO z_38 f_42 8 = true then ((d_81 g f_42 x5 z_38).bind (fun z_47 => ((gR z_47 a0 11 0).bind (fun f_51 => ((gI z_47 f_51 8 1).bind (fun f_53 => some (f_53, z_47))))))) else none))))) else none))))) else none))))) else none))))) else none))) else some ((-1 : Int32), h0))))))
set_option maxHeartbeats 4000000 in
set_option maxRecDepth 100000 in
theorem d_102_ok {X : aX} {g : Nat} {a0 : Nat} {x1 : Int32} {x2 : Int32} {x3 : Int32} {x4 : Int32} {x5 : Int32} {h0 : aH} {zz : Int32 × aH} {d : Nat} (hdp : 1 ≤ d) (hd : d_102 g a0 x1 x2 x3 x4 x5 h0 = some zz) : aWp X d 102 0 (aEntL [.ref a0, .int x1, .int x2, .int x3, .int x4, .int x5] 6) [] h0 (fun w h' => w = some (.int zz.1) ∧ h' = zz.2) := by
  unfold d_102 at hd
  refine wp_lv (l2 := [some (.ref a0), some (.int x1), some (.int x2), some (.int x3), some (.int x4), some (.int x5)]) rfl ?_
  obtain ⟨e, rfl⟩ : ∃ e, d = e + 1 := ⟨d - 1, by omega⟩
  refine wp_s 1 [some (.ref a0), some (.int x1), some (.int x2), some (.int x3), some (.int x4), some (.int x5)] [.ref a0] h0 i_102_0 rfl ?_
  obtain ⟨f_1, q_2, hd⟩ := dk_bind hd
  refine hp_gR 4 rfl i_102_1 q_2 ?_
  obtain ⟨f_3, q_4, hd⟩ := dk_bind hd
  refine hp_gI 7 rfl i_102_4 q_4 ?_
  refine wp_s 9 [some (.ref a0), some (.int x1), some (.int x2), some (.int x3), some (.int x4), some (.int x5)] [.int (20 : Int32), .int f_3] h0 i_102_7 rfl ?_
  refine wp_s 10 [some (.ref a0), some (.int x1), some (.int x2), some (.int x3), some (.int x4), some (.int x5)] [.int (f_3 + (20 : Int32))] h0 i_102_9 rfl ?_
  refine wp_s 13 [some (.ref a0), some (.int x1), some (.int x2), some (.int x3), some (.int x4), some (.int x5)] [.int (400 : Int32), .int (f_3 + (20 : Int32))] h0 i_102_10 rfl ?_
  refine wp_cmp_le 18 16 rfl rfl i_102_13 (fun c_5 => ?_) (fun c_5 => ?_)
  · rw [if_pos c_5] at hd
    refine wp_s 19 [some (.ref a0), some (.int x1), some (.int x2), some (.int x3), some (.int x4), some (.int x5)] [.ref a0] h0 i_102_18 rfl ?_
    obtain ⟨f_6, q_7, hd⟩ := dk_bind hd
    refine hp_gR 22 rfl i_102_19 q_7 ?_
    refine wp_s 23 [some (.ref a0), some (.int x1), some (.int x2), some (.int x3), some (.int x4), some (.int x5)] [.int x1, .ref f_6] h0 i_102_22 rfl ?_
    obtain ⟨k_8, hd⟩ := dk_if hd
    obtain ⟨fs_9, o_10⟩ := isO_of k_8
    obtain ⟨z_11, q_12, hd⟩ := dk_bind hd
    refine wp_callV 26 rfl i_102_23 (by decide) rfl (vs := [.int x1]) (rest := []) rfl rfl rfl o_10 (y := m_81) rfl (Nat.le_of_ble_eq_true rfl) (d_81_ok (d := e) (by omega) q_12) ?_
    rintro v_13 h_14 ⟨rfl, hz⟩
    have hz := hz.symm
    subst hz
    refine wp_s 27 [some (.ref a0), some (.int x1), some (.int x2), some (.int x3), some (.int x4), some (.int x5)] [.ref a0] z_11 i_102_26 rfl ?_
    obtain ⟨f_15, q_16, hd⟩ := dk_bind hd
    refine hp_gR 30 rfl i_102_27 q_16 ?_
    refine wp_s 31 [some (.ref a0), some (.int x1), some (.int x2), some (.int x3), some (.int x4), some (.int x5)] [.int x2, .ref f_15] z_11 i_102_30 rfl ?_
    obtain ⟨k_17, hd⟩ := dk_if hd
    obtain ⟨fs_18, o_19⟩ := isO_of k_17
    obtain ⟨z_20, q_21, hd⟩ := dk_bind hd
    refine wp_callV 34 rfl i_102_31 (by decide) rfl (vs := [.int x2]) (rest := []) rfl rfl rfl o_19 (y := m_81) rfl (Nat.le_of_ble_eq_true rfl) (d_81_ok (d := e) (by omega) q_21) ?_
    rintro v_22 h_23 ⟨rfl, hz⟩
    have hz := hz.symm
    subst hz
    refine wp_s 35 [some (.ref a0), some (.int x1), some (.int x2), some (.int x3), some (.int x4), some (.int x5)] [.ref a0] z_20 i_102_34 rfl ?_
    obtain ⟨f_24, q_25, hd⟩ := dk_bind hd
    refine hp_gR 38 rfl i_102_35 q_25 ?_
    refine wp_s 39 [some (.ref a0), some (.int x1), some (.int x2), some (.int x3), some (.int x4), some (.int x5)] [.int x3, .ref f_24] z_20 i_102_38 rfl ?_
    obtain ⟨k_26, hd⟩ := dk_if hd
    obtain ⟨fs_27, o_28⟩ := isO_of k_26
    obtain ⟨z_29, q_30, hd⟩ := dk_bind hd
    refine wp_callV 42 rfl i_102_39 (by decide) rfl (vs := [.int x3]) (rest := []) rfl rfl rfl o_28 (y := m_81) rfl (Nat.le_of_ble_eq_true rfl) (d_81_ok (d := e) (by omega) q_30) ?_
    rintro v_31 h_32 ⟨rfl, hz⟩
    have hz := hz.symm
    subst hz
    refine wp_s 43 [some (.ref a0), some (.int x1), some (.int x2), some (.int x3), some (.int x4), some (.int x5)] [.ref a0] z_29 i_102_42 rfl ?_
    obtain ⟨f_33, q_34, hd⟩ := dk_bind hd
    refine hp_gR 46 rfl i_102_43 q_34 ?_
    refine wp_s 48 [some (.ref a0), some (.int x1), some (.int x2), some (.int x3), some (.int x4), some (.int x5)] [.int x4, .ref f_33] z_29 i_102_46 rfl ?_
    obtain ⟨k_35, hd⟩ := dk_if hd
    obtain ⟨fs_36, o_37⟩ := isO_of k_35
    obtain ⟨z_38, q_39, hd⟩ := dk_bind hd
    refine wp_callV 51 rfl i_102_48 (by decide) rfl (vs := [.int x4]) (rest := []) rfl rfl rfl o_37 (y := m_81) rfl (Nat.le_of_ble_eq_true rfl) (d_81_ok (d := e) (by omega) q_39) ?_
    rintro v_40 h_41 ⟨rfl, hz⟩
    have hz := hz.symm
    subst hz
    refine wp_s 52 [some (.ref a0), some (.int x1), some (.int x2), some (.int x3), some (.int x4), some (.int x5)] [.ref a0] z_38 i_102_51 rfl ?_
    obtain ⟨f_42, q_43, hd⟩ := dk_bind hd
    refine hp_gR 55 rfl i_102_52 q_43 ?_
    refine wp_s 57 [some (.ref a0), some (.int x1), some (.int x2), some (.int x3), some (.int x4), some (.int x5)] [.int x5, .ref f_42] z_38 i_102_55 rfl ?_
    obtain ⟨k_44, hd⟩ := dk_if hd
    obtain ⟨fs_45, o_46⟩ := isO_of k_44
    obtain ⟨z_47, q_48, hd⟩ := dk_bind hd
    refine wp_callV 60 rfl i_102_57 (by decide) rfl (vs := [.int x5]) (rest := []) rfl rfl rfl o_46 (y := m_81) rfl (Nat.le_of_ble_eq_true rfl) (d_81_ok (d := e) (by omega) q_48) ?_
    rintro v_49 h_50 ⟨rfl, hz⟩
    have hz := hz.symm
    subst hz
    refine wp_s 61 [some (.ref a0), some (.int x1), some (.int x2), some (.int x3), some (.int x4), some (.int x5)] [.ref a0] z_47 i_102_60 rfl ?_
    obtain ⟨f_51, q_52, hd⟩ := dk_bind hd
    refine hp_gR 64 rfl i_102_61 q_52 ?_
    obtain ⟨f_53, q_54, hd⟩ := dk_bind hd
    refine hp_gI 67 rfl i_102_64 q_54 ?_
    obtain rfl := Option.some.inj hd
    exact wp_iret i_102_67 ⟨rfl, rfl⟩
  · rw [if_neg c_5] at hd
    refine wp_s 17 [some (.ref a0), some (.int x1), some (.int x2), some (.int x3), some (.int x4), some (.int x5)] [.int (-1 : Int32)] h0 i_102_16 rfl ?_
    obtain rfl := Option.some.inj hd
    exact wp_iret i_102_17 ⟨rfl, rfl⟩
def d_103 (g : Nat) (a0 : Nat) (x1 : Int32) (h0 : aH) : Option (Int32 × aH) := (if x1 < 0 then some ((-1 : Int32), h0) else ((gR h0 a0 11 0).bind (fun f_2 => ((gI h0 f_2 8 1).bind (fun f_4 => (if x1 ≤ f_4 then ((gR h0 a0 11 0).bind (fun f_7 => ((sF h0 f_7 8 1 (.int x1)).bind (fun h_9 => some (x1, h_9))))) else some ((-1 : Int32), h0)))))))
set_option maxHeartbeats 4000000 in
set_option maxRecDepth 100000 in
theorem d_103_ok {X : aX} {g : Nat} {a0 : Nat} {x1 : Int32} {h0 : aH} {zz : Int32 × aH} {d : Nat} (hdp : 0 ≤ d) (hd : d_103 g a0 x1 h0 = some zz) : aWp X d 103 0 (aEntL [.ref a0, .int x1] 2) [] h0 (fun w h' => w = some (.int zz.1) ∧ h' = zz.2) := by
  unfold d_103 at hd
  refine wp_lv (l2 := [some (.ref a0), some (.int x1)]) rfl ?_
  refine wp_s 1 [some (.ref a0), some (.int x1)] [.int x1] h0 i_103_0 rfl ?_
  refine wp_if_lt 15 4 rfl rfl i_103_1 (fun c_1 => ?_) (fun c_1 => ?_)
  · rw [if_pos c_1] at hd
    refine wp_s 16 [some (.ref a0), some (.int x1)] [.int (-1 : Int32)] h0 i_103_15 rfl ?_
    obtain rfl := Option.some.inj hd
    exact wp_iret i_103_16 ⟨rfl, rfl⟩
  · rw [if_neg c_1] at hd
    refine wp_s 5 [some (.ref a0), some (.int x1)] [.int x1] h0 i_103_4 rfl ?_
    refine wp_s 6 [some (.ref a0), some (.int x1)] [.ref a0, .int x1] h0 i_103_5 rfl ?_
    obtain ⟨f_2, q_3, hd⟩ := dk_bind hd
    refine hp_gR 9 rfl i_103_6 q_3 ?_
    obtain ⟨f_4, q_5, hd⟩ := dk_bind hd
    refine hp_gI 12 rfl i_103_9 q_5 ?_
    refine wp_cmp_le 17 15 rfl rfl i_103_12 (fun c_6 => ?_) (fun c_6 => ?_)
    · rw [if_pos c_6] at hd
      refine wp_s 18 [some (.ref a0), some (.int x1)] [.ref a0] h0 i_103_17 rfl ?_
      obtain ⟨f_7, q_8, hd⟩ := dk_bind hd
      refine hp_gR 21 rfl i_103_18 q_8 ?_
      refine wp_s 22 [some (.ref a0), some (.int x1)] [.int x1, .ref f_7] h0 i_103_21 rfl ?_
      obtain ⟨h_9, q_10, hd⟩ := dk_bind hd
      refine hp_sF 25 rfl i_103_22 q_10 ?_
      refine wp_s 26 [some (.ref a0), some (.int x1)] [.int x1] h_9 i_103_25 rfl ?_
      obtain rfl := Option.some.inj hd
      exact wp_iret i_103_26 ⟨rfl, rfl⟩
    · rw [if_neg c_6] at hd
      refine wp_s 16 [some (.ref a0), some (.int x1)] [.int (-1 : Int32)] h0 i_103_15 rfl ?_
      obtain rfl := Option.some.inj hd
      exact wp_iret i_103_16 ⟨rfl, rfl⟩
def d_104 (g : Nat) (a0 : Nat) (h0 : aH) : Option (Int32 × aH) := (if isO (nO h0 5) (h0).length 5 = true then ((d_54 g (h0).length (nO h0 5)).bind (fun z_4 => ((gR z_4 a0 11 1).bind (fun f_8 => (if isO z_4 f_8 6 = true then ((d_60 g f_8 (h0).length z_4).bind (fun z_13 => ((gR z_13.2 a0 11 0).bind (fun f_17 => ((sF z_13.2 f_17 8 1 (.int (0 : Int32))).bind (fun h_19 => (if z_13.1 = 0 then ((gR h_19 a0 11 3).bind (fun f_22 => (if isO h_19 f_22 10 = true then ((d_98 g f_22 (h0).length h_19).bind (fun z_27 => ((gR z_27 a0 11 6).bind (fun f_31 => (if isO z_27 f_31 1 = true then ((d_10 g f_31 z_27).bind (fun z_36 => ((gI z_36 (h0).length 5 4).bind (fun f_40 => some (f_40, z_36))))) else none))))) else none))) else some (((-2 : Int32) - z_13.1), h_19)))))))) else none))))) else none)
set_option maxHeartbeats 4000000 in
set_option maxRecDepth 100000 in
theorem d_104_ok {X : aX} {g : Nat} {a0 : Nat} {h0 : aH} {zz : Int32 × aH} {d : Nat} (hdp : 6 ≤ d) (hd : d_104 g a0 h0 = some zz) : aWp X d 104 0 (aEntL [.ref a0] 3) [] h0 (fun w h' => w = some (.int zz.1) ∧ h' = zz.2) := by
  unfold d_104 at hd
  refine wp_lv (l2 := [some (.ref a0), none, none]) rfl ?_
  obtain ⟨e, rfl⟩ : ∃ e, d = e + 1 := ⟨d - 1, by omega⟩
  refine wp_s 3 [some (.ref a0), none, none] [.ref (h0).length] (nO h0 5) i_104_0 rfl ?_
  refine wp_s 4 [some (.ref a0), none, none] [.ref (h0).length, .ref (h0).length] (nO h0 5) i_104_3 rfl ?_
  obtain ⟨k_1, hd⟩ := dk_if hd
  obtain ⟨fs_2, o_3⟩ := isO_of k_1
  obtain ⟨z_4, q_5, hd⟩ := dk_bind hd
  refine wp_callI 7 rfl i_104_4 (by decide) rfl (vs := []) (rest := [.ref (h0).length]) rfl rfl rfl o_3 (y := m_54) rfl (Nat.le_of_ble_eq_true rfl) (d_54_ok (d := e) (by omega) q_5) ?_
  rintro v_6 h_7 ⟨rfl, hz⟩
  have hz := hz.symm
  subst hz
  refine wp_s 8 [some (.ref a0), some (.ref (h0).length), none] [] z_4 i_104_7 rfl ?_
  refine wp_s 9 [some (.ref a0), some (.ref (h0).length), none] [.ref a0] z_4 i_104_8 rfl ?_
  obtain ⟨f_8, q_9, hd⟩ := dk_bind hd
  refine hp_gR 12 rfl i_104_9 q_9 ?_
  refine wp_s 13 [some (.ref a0), some (.ref (h0).length), none] [.ref (h0).length, .ref f_8] z_4 i_104_12 rfl ?_
  obtain ⟨k_10, hd⟩ := dk_if hd
  obtain ⟨fs_11, o_12⟩ := isO_of k_10
  obtain ⟨z_13, q_14, hd⟩ := dk_bind hd
  refine wp_callV 16 rfl i_104_13 (by decide) rfl (vs := [.ref (h0).length]) (rest := []) rfl rfl rfl o_12 (y := m_60) rfl (Nat.le_of_ble_eq_true rfl) (d_60_ok (d := e) (by omega) q_14) ?_
  rintro v_15 h_16 ⟨rfl, rfl⟩
  refine wp_s 17 [some (.ref a0), some (.ref (h0).length), some (.int z_13.1)] [] z_13.2 i_104_16 rfl ?_
  refine wp_s 18 [some (.ref a0), some (.ref (h0).length), some (.int z_13.1)] [.ref a0] z_13.2 i_104_17 rfl ?_
  obtain ⟨f_17, q_18, hd⟩ := dk_bind hd
  refine hp_gR 21 rfl i_104_18 q_18 ?_
  refine wp_s 22 [some (.ref a0), some (.ref (h0).length), some (.int z_13.1)] [.int (0 : Int32), .ref f_17] z_13.2 i_104_21 rfl ?_
  obtain ⟨h_19, q_20, hd⟩ := dk_bind hd
  refine hp_sF 25 rfl i_104_22 q_20 ?_
  refine wp_s 26 [some (.ref a0), some (.ref (h0).length), some (.int z_13.1)] [.int z_13.1] h_19 i_104_25 rfl ?_
  refine wp_if_eq 34 29 rfl rfl i_104_26 (fun c_21 => ?_) (fun c_21 => ?_)
  · rw [if_pos c_21] at hd
    refine wp_s 35 [some (.ref a0), some (.ref (h0).length), some (.int z_13.1)] [.ref a0] h_19 i_104_34 rfl ?_
    obtain ⟨f_22, q_23, hd⟩ := dk_bind hd
    refine hp_gR 38 rfl i_104_35 q_23 ?_
    refine wp_s 39 [some (.ref a0), some (.ref (h0).length), some (.int z_13.1)] [.ref (h0).length, .ref f_22] h_19 i_104_38 rfl ?_
    obtain ⟨k_24, hd⟩ := dk_if hd
    obtain ⟨fs_25, o_26⟩ := isO_of k_24
    obtain ⟨z_27, q_28, hd⟩ := dk_bind hd
    refine wp_callV 42 rfl i_104_39 (by decide) rfl (vs := [.ref (h0).length]) (rest := []) rfl rfl rfl o_26 (y := m_98) rfl (Nat.le_of_ble_eq_true rfl) (d_98_ok (d := e) (by omega) q_28) ?_
    rintro v_29 h_30 ⟨rfl, hz⟩
    have hz := hz.symm
    subst hz
    refine wp_s 43 [some (.ref a0), some (.ref (h0).length), some (.int z_13.1)] [.ref a0] z_27 i_104_42 rfl ?_
    obtain ⟨f_31, q_32, hd⟩ := dk_bind hd
    refine hp_gR 46 rfl i_104_43 q_32 ?_
    obtain ⟨k_33, hd⟩ := dk_if hd
    obtain ⟨fs_34, o_35⟩ := isO_of k_33
    obtain ⟨z_36, q_37, hd⟩ := dk_bind hd
    refine wp_callV 49 rfl i_104_46 (by decide) rfl (vs := []) (rest := []) rfl rfl rfl o_35 (y := m_10) rfl (Nat.le_of_ble_eq_true rfl) (d_10_ok (d := e) (by omega) q_37) ?_
    rintro v_38 h_39 ⟨rfl, hz⟩
    have hz := hz.symm
    subst hz
    refine wp_s 50 [some (.ref a0), some (.ref (h0).length), some (.int z_13.1)] [.ref (h0).length] z_36 i_104_49 rfl ?_
    obtain ⟨f_40, q_41, hd⟩ := dk_bind hd
    refine hp_gI 53 rfl i_104_50 q_41 ?_
    obtain rfl := Option.some.inj hd
    exact wp_iret i_104_53 ⟨rfl, rfl⟩
  · rw [if_neg c_21] at hd
    refine wp_s 31 [some (.ref a0), some (.ref (h0).length), some (.int z_13.1)] [.int (-2 : Int32)] h_19 i_104_29 rfl ?_
    refine wp_s 32 [some (.ref a0), some (.ref (h0).length), some (.int z_13.1)] [.int z_13.1, .int (-2 : Int32)] h_19 i_104_31 rfl ?_
    refine wp_s 33 [some (.ref a0), some (.ref (h0).length), some (.int z_13.1)] [.int ((-2 : Int32) - z_13.1)] h_19 i_104_32 rfl ?_
    obtain rfl := Option.some.inj hd
    exact wp_iret i_104_33 ⟨rfl, rfl⟩
def d_105 (g : Nat) (a0 : Nat) (h0 : aH) : Option (Int32 × aH) := ((gR h0 a0 11 4).bind (fun f_1 => ((gI h0 f_1 9 2).bind (fun f_3 => (if f_3 < (6 : Int32) then ((gR h0 a0 11 2).bind (fun f_6 => ((gR h0 a0 11 4).bind (fun f_8 => ((gR h0 f_8 9 1).bind (fun f_10 => ((gR h0 a0 11 4).bind (fun f_12 => ((gI h0 f_12 9 2).bind (fun f_14 => ((gQ h0 f_10 f_14).bind (fun f_16 => (if isO h0 f_6 4 = true then ((d_45 g f_6 f_16 h0).bind (fun z_21 => ((gR z_21.2 a0 11 0).bind (fun f_25 => ((sF z_21.2 f_25 8 1 (.int (0 : Int32))).bind (fun h_27 => (if z_21.1 = 0 then ((gR h_27 a0 11 4).bind (fun f_30 => ((gI h_27 f_30 9 2).bind (fun f_32 => ((sF h_27 f_30 9 2 (.int (f_32 + (1 : Int32)))).bind (fun h_34 => ((gR h_34 a0 11 4).bind (fun f_36 => ((gI h_34 f_36 9 2).bind (fun f_38 => some ((f_38 - (1 : Int32)), h_34))))))))))) else some (((-2 : Int32) - z_21.1), h_27)))))))) else none))))))))))))) else some ((-1 : Int32), h0))))))
set_option maxHeartbeats 4000000 in
set_option maxRecDepth 100000 in
theorem d_105_ok {X : aX} {g : Nat} {a0 : Nat} {h0 : aH} {zz : Int32 × aH} {d : Nat} (hdp : 80 ≤ d) (hd : d_105 g a0 h0 = some zz) : aWp X d 105 0 (aEntL [.ref a0] 2) [] h0 (fun w h' => w = some (.int zz.1) ∧ h' = zz.2) := by
  unfold d_105 at hd
  refine wp_lv (l2 := [some (.ref a0), none]) rfl ?_
  obtain ⟨e, rfl⟩ : ∃ e, d = e + 1 := ⟨d - 1, by omega⟩
  refine wp_s 1 [some (.ref a0), none] [.ref a0] h0 i_105_0 rfl ?_
  obtain ⟨f_1, q_2, hd⟩ := dk_bind hd
  refine hp_gR 4 rfl i_105_1 q_2 ?_
  obtain ⟨f_3, q_4, hd⟩ := dk_bind hd
  refine hp_gI 7 rfl i_105_4 q_4 ?_
  refine wp_s 9 [some (.ref a0), none] [.int (6 : Int32), .int f_3] h0 i_105_7 rfl ?_
  refine wp_cmp_lt 14 12 rfl rfl i_105_9 (fun c_5 => ?_) (fun c_5 => ?_)
  · rw [if_pos c_5] at hd
    refine wp_s 15 [some (.ref a0), none] [.ref a0] h0 i_105_14 rfl ?_
    obtain ⟨f_6, q_7, hd⟩ := dk_bind hd
    refine hp_gR 18 rfl i_105_15 q_7 ?_
    refine wp_s 19 [some (.ref a0), none] [.ref a0, .ref f_6] h0 i_105_18 rfl ?_
    obtain ⟨f_8, q_9, hd⟩ := dk_bind hd
    refine hp_gR 22 rfl i_105_19 q_9 ?_
    obtain ⟨f_10, q_11, hd⟩ := dk_bind hd
    refine hp_gR 25 rfl i_105_22 q_11 ?_
    refine wp_s 26 [some (.ref a0), none] [.ref a0, .ref f_10, .ref f_6] h0 i_105_25 rfl ?_
    obtain ⟨f_12, q_13, hd⟩ := dk_bind hd
    refine hp_gR 29 rfl i_105_26 q_13 ?_
    obtain ⟨f_14, q_15, hd⟩ := dk_bind hd
    refine hp_gI 32 rfl i_105_29 q_15 ?_
    obtain ⟨f_16, q_17, hd⟩ := dk_bind hd
    refine hp_gQ 33 rfl i_105_32 q_17 ?_
    obtain ⟨k_18, hd⟩ := dk_if hd
    obtain ⟨fs_19, o_20⟩ := isO_of k_18
    obtain ⟨z_21, q_22, hd⟩ := dk_bind hd
    refine wp_callV 36 rfl i_105_33 (by decide) rfl (vs := [.ref f_16]) (rest := []) rfl rfl rfl o_20 (y := m_45) rfl (Nat.le_of_ble_eq_true rfl) (d_45_ok (d := e) (by omega) q_22) ?_
    rintro v_23 h_24 ⟨rfl, rfl⟩
    refine wp_s 37 [some (.ref a0), some (.int z_21.1)] [] z_21.2 i_105_36 rfl ?_
    refine wp_s 38 [some (.ref a0), some (.int z_21.1)] [.ref a0] z_21.2 i_105_37 rfl ?_
    obtain ⟨f_25, q_26, hd⟩ := dk_bind hd
    refine hp_gR 41 rfl i_105_38 q_26 ?_
    refine wp_s 42 [some (.ref a0), some (.int z_21.1)] [.int (0 : Int32), .ref f_25] z_21.2 i_105_41 rfl ?_
    obtain ⟨h_27, q_28, hd⟩ := dk_bind hd
    refine hp_sF 45 rfl i_105_42 q_28 ?_
    refine wp_s 46 [some (.ref a0), some (.int z_21.1)] [.int z_21.1] h_27 i_105_45 rfl ?_
    refine wp_if_eq 54 49 rfl rfl i_105_46 (fun c_29 => ?_) (fun c_29 => ?_)
    · rw [if_pos c_29] at hd
      refine wp_s 55 [some (.ref a0), some (.int z_21.1)] [.ref a0] h_27 i_105_54 rfl ?_
      obtain ⟨f_30, q_31, hd⟩ := dk_bind hd
      refine hp_gR 58 rfl i_105_55 q_31 ?_
      refine wp_s 59 [some (.ref a0), some (.int z_21.1)] [.ref f_30, .ref f_30] h_27 i_105_58 rfl ?_
      obtain ⟨f_32, q_33, hd⟩ := dk_bind hd
      refine hp_gI 62 rfl i_105_59 q_33 ?_
      refine wp_s 63 [some (.ref a0), some (.int z_21.1)] [.int (1 : Int32), .int f_32, .ref f_30] h_27 i_105_62 rfl ?_
      refine wp_s 64 [some (.ref a0), some (.int z_21.1)] [.int (f_32 + (1 : Int32)), .ref f_30] h_27 i_105_63 rfl ?_
      obtain ⟨h_34, q_35, hd⟩ := dk_bind hd
      refine hp_sF 67 rfl i_105_64 q_35 ?_
      refine wp_s 68 [some (.ref a0), some (.int z_21.1)] [.ref a0] h_34 i_105_67 rfl ?_
      obtain ⟨f_36, q_37, hd⟩ := dk_bind hd
      refine hp_gR 71 rfl i_105_68 q_37 ?_
      obtain ⟨f_38, q_39, hd⟩ := dk_bind hd
      refine hp_gI 74 rfl i_105_71 q_39 ?_
      refine wp_s 75 [some (.ref a0), some (.int z_21.1)] [.int (1 : Int32), .int f_38] h_34 i_105_74 rfl ?_
      refine wp_s 76 [some (.ref a0), some (.int z_21.1)] [.int (f_38 - (1 : Int32))] h_34 i_105_75 rfl ?_
      obtain rfl := Option.some.inj hd
      exact wp_iret i_105_76 ⟨rfl, rfl⟩
    · rw [if_neg c_29] at hd
      refine wp_s 51 [some (.ref a0), some (.int z_21.1)] [.int (-2 : Int32)] h_27 i_105_49 rfl ?_
      refine wp_s 52 [some (.ref a0), some (.int z_21.1)] [.int z_21.1, .int (-2 : Int32)] h_27 i_105_51 rfl ?_
      refine wp_s 53 [some (.ref a0), some (.int z_21.1)] [.int ((-2 : Int32) - z_21.1)] h_27 i_105_52 rfl ?_
      obtain rfl := Option.some.inj hd
      exact wp_iret i_105_53 ⟨rfl, rfl⟩
  · rw [if_neg c_5] at hd
    refine wp_s 13 [some (.ref a0), none] [.int (-1 : Int32)] h0 i_105_12 rfl ?_
    obtain rfl := Option.some.inj hd
    exact wp_iret i_105_13 ⟨rfl, rfl⟩
