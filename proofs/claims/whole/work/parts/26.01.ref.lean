theorem i_163_0 : aIns 163 0 = some (.iconst 1, 1, 0, 0, .int (1)) := by decide +kernel
theorem i_163_1 : aIns 163 1 = some (.istore_n 1, 1, 0, 0, .null) := by decide +kernel
theorem i_163_2 : aIns 163 2 = some (.iload_n 1, 1, 0, 0, .null) := by decide +kernel
theorem i_163_3 : aIns 163 3 = some (.ifCond .eq 72, 3, 0, 0, .null) := by decide +kernel
theorem i_163_6 : aIns 163 6 = some (.iconst 0, 1, 0, 0, .int (0)) := by decide +kernel
theorem i_163_7 : aIns 163 7 = some (.istore_n 1, 1, 0, 0, .null) := by decide +kernel
theorem i_163_8 : aIns 163 8 = some (.aload_n 0, 1, 0, 0, .null) := by decide +kernel
theorem i_163_9 : aIns 163 9 = some (.invokevirtual 99, 3, 146, 0, .int 12) := by decide +kernel
theorem i_163_12 : aIns 163 12 = some (.istore_n 2, 1, 0, 0, .null) := by decide +kernel
theorem i_163_13 : aIns 163 13 = some (.aload_n 0, 1, 0, 0, .null) := by decide +kernel
theorem i_163_14 : aIns 163 14 = some (.ldc2_w 184, 3, 0, 0, .long (7237492)) := by decide +kernel
theorem i_163_17 : aIns 163 17 = some (.invokevirtual 107, 3, 149, 1, .int 12) := by decide +kernel
theorem i_163_20 : aIns 163 20 = some (.ifCond .eq 23, 3, 0, 0, .null) := by decide +kernel
theorem i_163_23 : aIns 163 23 = some (.aload_n 0, 1, 0, 0, .null) := by decide +kernel
theorem i_163_24 : aIns 163 24 = some (.bipush 11, 2, 0, 0, .int (11)) := by decide +kernel
theorem i_163_26 : aIns 163 26 = some (.invokevirtual 186, 3, 156, 1, .int 12) := by decide +kernel
theorem i_163_29 : aIns 163 29 = some (.ifCond .ne 5, 3, 0, 0, .null) := by decide +kernel
theorem i_163_32 : aIns 163 32 = some (.iconst 0, 1, 0, 0, .int (0)) := by decide +kernel
theorem i_163_33 : aIns 163 33 = some (.ireturn, 1, 1, 0, .null) := by decide +kernel
theorem i_163_34 : aIns 163 34 = some (.aload_n 0, 1, 0, 0, .null) := by decide +kernel
theorem i_163_35 : aIns 163 35 = some (.invokevirtual 111, 3, 150, 0, .int 12) := by decide +kernel
theorem i_163_38 : aIns 163 38 = some (.iconst 1, 1, 0, 0, .int (1)) := by decide +kernel
theorem i_163_39 : aIns 163 39 = some (.istore_n 1, 1, 0, 0, .null) := by decide +kernel
theorem i_163_40 : aIns 163 40 = some (.goto 32, 3, 0, 0, .null) := by decide +kernel
theorem i_163_43 : aIns 163 43 = some (.iload_n 2, 1, 0, 0, .null) := by decide +kernel
theorem i_163_44 : aIns 163 44 = some (.bipush 91, 2, 0, 0, .int (91)) := by decide +kernel
theorem i_163_46 : aIns 163 46 = some (.if_icmp .ne 26, 3, 0, 0, .null) := by decide +kernel
theorem i_163_49 : aIns 163 49 = some (.aload_n 0, 1, 0, 0, .null) := by decide +kernel
theorem i_163_50 : aIns 163 50 = some (.bipush 91, 2, 0, 0, .int (91)) := by decide +kernel
theorem i_163_52 : aIns 163 52 = some (.invokevirtual 186, 3, 156, 1, .int 12) := by decide +kernel
theorem i_163_55 : aIns 163 55 = some (.ifCond .ne 5, 3, 0, 0, .null) := by decide +kernel
theorem i_163_58 : aIns 163 58 = some (.iconst 0, 1, 0, 0, .int (0)) := by decide +kernel
theorem i_163_59 : aIns 163 59 = some (.ireturn, 1, 1, 0, .null) := by decide +kernel
theorem i_163_60 : aIns 163 60 = some (.aload_n 0, 1, 0, 0, .null) := by decide +kernel
theorem i_163_61 : aIns 163 61 = some (.dup, 1, 0, 0, .null) := by decide +kernel
theorem i_163_62 : aIns 163 62 = some (.getfield 96, 3, 12, 8, .null) := by decide +kernel
theorem i_163_65 : aIns 163 65 = some (.iconst 1, 1, 0, 0, .int (1)) := by decide +kernel
theorem i_163_66 : aIns 163 66 = some (.iadd, 1, 0, 0, .null) := by decide +kernel
theorem i_163_67 : aIns 163 67 = some (.putfield 96, 3, 12, 8, .null) := by decide +kernel
theorem i_163_70 : aIns 163 70 = some (.iconst 1, 1, 0, 0, .int (1)) := by decide +kernel
theorem i_163_71 : aIns 163 71 = some (.istore_n 1, 1, 0, 0, .null) := by decide +kernel
theorem i_163_72 : aIns 163 72 = some (.goto (-70), 3, 0, 0, .null) := by decide +kernel
theorem i_163_75 : aIns 163 75 = some (.aload_n 0, 1, 0, 0, .null) := by decide +kernel
theorem i_163_76 : aIns 163 76 = some (.invokevirtual 189, 3, 162, 0, .int 12) := by decide +kernel
theorem i_163_79 : aIns 163 79 = some (.ireturn, 1, 1, 0, .null) := by decide +kernel
theorem i_164_0 : aIns 164 0 = some (.iconst 0, 1, 0, 0, .int (0)) := by decide +kernel
theorem i_164_1 : aIns 164 1 = some (.istore_n 1, 1, 0, 0, .null) := by decide +kernel
theorem i_164_2 : aIns 164 2 = some (.iload_n 1, 1, 0, 0, .null) := by decide +kernel
theorem i_164_3 : aIns 164 3 = some (.aload_n 0, 1, 0, 0, .null) := by decide +kernel
theorem i_164_4 : aIns 164 4 = some (.getfield 153, 3, 12, 16, .null) := by decide +kernel
theorem i_164_7 : aIns 164 7 = some (.if_icmp .ge 22, 3, 0, 0, .null) := by decide +kernel
theorem i_164_10 : aIns 164 10 = some (.aload_n 0, 1, 0, 0, .null) := by decide +kernel
theorem i_164_11 : aIns 164 11 = some (.getfield 29, 3, 12, 15, .null) := by decide +kernel
theorem i_164_14 : aIns 164 14 = some (.iload_n 1, 1, 0, 0, .null) := by decide +kernel
theorem i_164_15 : aIns 164 15 = some (.iaload, 1, 0, 0, .null) := by decide +kernel
theorem i_164_16 : aIns 164 16 = some (.bipush 91, 2, 0, 0, .int (91)) := by decide +kernel
theorem i_164_18 : aIns 164 18 = some (.if_icmp .ne 5, 3, 0, 0, .null) := by decide +kernel
theorem i_164_21 : aIns 164 21 = some (.iconst 1, 1, 0, 0, .int (1)) := by decide +kernel
theorem i_164_22 : aIns 164 22 = some (.ireturn, 1, 1, 0, .null) := by decide +kernel
theorem i_164_23 : aIns 164 23 = some (.iinc 1 1, 3, 0, 0, .null) := by decide +kernel
theorem i_164_26 : aIns 164 26 = some (.goto (-24), 3, 0, 0, .null) := by decide +kernel
theorem i_164_29 : aIns 164 29 = some (.iconst 0, 1, 0, 0, .int (0)) := by decide +kernel
theorem i_164_30 : aIns 164 30 = some (.ireturn, 1, 1, 0, .null) := by decide +kernel
theorem i_165_0 : aIns 165 0 = some (.aload_n 0, 1, 0, 0, .null) := by decide +kernel
theorem i_165_1 : aIns 165 1 = some (.iconst 3, 1, 0, 0, .int (3)) := by decide +kernel
theorem i_165_2 : aIns 165 2 = some (.invokevirtual 192, 3, 158, 1, .int 12) := by decide +kernel
theorem i_165_5 : aIns 165 5 = some (.aload_n 0, 1, 0, 0, .null) := by decide +kernel
theorem i_165_6 : aIns 165 6 = some (.invokevirtual 99, 3, 146, 0, .int 12) := by decide +kernel
theorem i_165_9 : aIns 165 9 = some (.bipush 93, 2, 0, 0, .int (93)) := by decide +kernel
theorem i_165_11 : aIns 165 11 = some (.if_icmp .ne 53, 3, 0, 0, .null) := by decide +kernel
theorem i_165_14 : aIns 165 14 = some (.aload_n 0, 1, 0, 0, .null) := by decide +kernel
theorem i_165_15 : aIns 165 15 = some (.invokevirtual 195, 3, 164, 0, .int 12) := by decide +kernel
theorem i_165_18 : aIns 165 18 = some (.ifCond .eq 46, 3, 0, 0, .null) := by decide +kernel
theorem i_165_21 : aIns 165 21 = some (.aload_n 0, 1, 0, 0, .null) := by decide +kernel
theorem i_165_22 : aIns 165 22 = some (.iconst 1, 1, 0, 0, .int (1)) := by decide +kernel
theorem i_165_23 : aIns 165 23 = some (.invokevirtual 192, 3, 158, 1, .int 12) := by decide +kernel
theorem i_165_26 : aIns 165 26 = some (.aload_n 0, 1, 0, 0, .null) := by decide +kernel
theorem i_165_27 : aIns 165 27 = some (.dup, 1, 0, 0, .null) := by decide +kernel
theorem i_165_28 : aIns 165 28 = some (.getfield 153, 3, 12, 16, .null) := by decide +kernel
theorem i_165_31 : aIns 165 31 = some (.iconst 1, 1, 0, 0, .int (1)) := by decide +kernel
theorem i_165_32 : aIns 165 32 = some (.isub, 1, 0, 0, .null) := by decide +kernel
theorem i_165_33 : aIns 165 33 = some (.putfield 153, 3, 12, 16, .null) := by decide +kernel
theorem i_165_36 : aIns 165 36 = some (.aload_n 0, 1, 0, 0, .null) := by decide +kernel
theorem i_165_37 : aIns 165 37 = some (.dup, 1, 0, 0, .null) := by decide +kernel
theorem i_165_38 : aIns 165 38 = some (.getfield 150, 3, 12, 13, .null) := by decide +kernel
theorem i_165_41 : aIns 165 41 = some (.iconst 1, 1, 0, 0, .int (1)) := by decide +kernel
theorem i_165_42 : aIns 165 42 = some (.isub, 1, 0, 0, .null) := by decide +kernel
theorem i_165_43 : aIns 165 43 = some (.putfield 150, 3, 12, 13, .null) := by decide +kernel
theorem i_165_46 : aIns 165 46 = some (.aload_n 0, 1, 0, 0, .null) := by decide +kernel
theorem i_165_47 : aIns 165 47 = some (.dup, 1, 0, 0, .null) := by decide +kernel
theorem i_165_48 : aIns 165 48 = some (.getfield 96, 3, 12, 8, .null) := by decide +kernel
theorem i_165_51 : aIns 165 51 = some (.iconst 1, 1, 0, 0, .int (1)) := by decide +kernel
theorem i_165_52 : aIns 165 52 = some (.iadd, 1, 0, 0, .null) := by decide +kernel
theorem i_165_53 : aIns 165 53 = some (.putfield 96, 3, 12, 8, .null) := by decide +kernel
theorem i_165_56 : aIns 165 56 = some (.aload_n 0, 1, 0, 0, .null) := by decide +kernel
theorem i_165_57 : aIns 165 57 = some (.iconst 3, 1, 0, 0, .int (3)) := by decide +kernel
theorem i_165_58 : aIns 165 58 = some (.invokevirtual 192, 3, 158, 1, .int 12) := by decide +kernel
theorem i_165_61 : aIns 165 61 = some (.goto (-56), 3, 0, 0, .null) := by decide +kernel
theorem i_165_64 : aIns 165 64 = some (.return_, 1, 0, 0, .null) := by decide +kernel
theorem i_166_0 : aIns 166 0 = some (.aload_n 0, 1, 0, 0, .null) := by decide +kernel
theorem i_166_1 : aIns 166 1 = some (.iconst 0, 1, 0, 0, .int (0)) := by decide +kernel
theorem i_166_2 : aIns 166 2 = some (.putfield 153, 3, 12, 16, .null) := by decide +kernel
theorem i_166_5 : aIns 166 5 = some (.aload_n 0, 1, 0, 0, .null) := by decide +kernel
theorem i_166_6 : aIns 166 6 = some (.iconst 0, 1, 0, 0, .int (0)) := by decide +kernel
theorem i_166_7 : aIns 166 7 = some (.putfield 150, 3, 12, 13, .null) := by decide +kernel
theorem i_166_10 : aIns 166 10 = some (.iconst 1, 1, 0, 0, .int (1)) := by decide +kernel
theorem i_166_11 : aIns 166 11 = some (.istore_n 1, 1, 0, 0, .null) := by decide +kernel
theorem i_166_12 : aIns 166 12 = some (.iload_n 1, 1, 0, 0, .null) := by decide +kernel
theorem i_166_13 : aIns 166 13 = some (.ifCond .eq 99, 3, 0, 0, .null) := by decide +kernel
theorem i_166_16 : aIns 166 16 = some (.aload_n 0, 1, 0, 0, .null) := by decide +kernel
theorem i_166_17 : aIns 166 17 = some (.invokevirtual 198, 3, 163, 0, .int 12) := by decide +kernel
theorem i_166_20 : aIns 166 20 = some (.ifCond .ne 5, 3, 0, 0, .null) := by decide +kernel
theorem i_166_23 : aIns 166 23 = some (.iconst 0, 1, 0, 0, .int (0)) := by decide +kernel
theorem i_166_24 : aIns 166 24 = some (.ireturn, 1, 1, 0, .null) := by decide +kernel
theorem i_166_25 : aIns 166 25 = some (.aload_n 0, 1, 0, 0, .null) := by decide +kernel
theorem i_166_26 : aIns 166 26 = some (.invokevirtual 201, 3, 165, 0, .int 12) := by decide +kernel
theorem i_166_29 : aIns 166 29 = some (.aload_n 0, 1, 0, 0, .null) := by decide +kernel
theorem i_166_30 : aIns 166 30 = some (.ldc2_w 204, 3, 0, 0, .long (6385252)) := by decide +kernel
theorem i_166_33 : aIns 166 33 = some (.invokevirtual 107, 3, 149, 1, .int 12) := by decide +kernel
theorem i_166_36 : aIns 166 36 = some (.ifCond .ne 13, 3, 0, 0, .null) := by decide +kernel
theorem i_166_39 : aIns 166 39 = some (.aload_n 0, 1, 0, 0, .null) := by decide +kernel
theorem i_166_40 : aIns 166 40 = some (.ldc2_w 206, 3, 0, 0, .long (28530)) := by decide +kernel
theorem i_166_43 : aIns 166 43 = some (.invokevirtual 107, 3, 149, 1, .int 12) := by decide +kernel
theorem i_166_46 : aIns 166 46 = some (.ifCond .eq 7, 3, 0, 0, .null) := by decide +kernel
theorem i_166_49 : aIns 166 49 = some (.iconst 1, 1, 0, 0, .int (1)) := by decide +kernel
theorem i_166_50 : aIns 166 50 = some (.goto 4, 3, 0, 0, .null) := by decide +kernel
theorem i_166_53 : aIns 166 53 = some (.iconst 0, 1, 0, 0, .int (0)) := by decide +kernel
theorem i_166_54 : aIns 166 54 = some (.istore_n 1, 1, 0, 0, .null) := by decide +kernel
theorem i_166_55 : aIns 166 55 = some (.iload_n 1, 1, 0, 0, .null) := by decide +kernel
theorem i_166_56 : aIns 166 56 = some (.ifCond .eq (-44), 3, 0, 0, .null) := by decide +kernel
theorem i_166_59 : aIns 166 59 = some (.aload_n 0, 1, 0, 0, .null) := by decide +kernel
theorem i_166_60 : aIns 166 60 = some (.ldc2_w 204, 3, 0, 0, .long (6385252)) := by decide +kernel
theorem i_166_63 : aIns 166 63 = some (.invokevirtual 107, 3, 149, 1, .int 12) := by decide +kernel
theorem i_166_66 : aIns 166 66 = some (.ifCond .eq 8, 3, 0, 0, .null) := by decide +kernel
theorem i_166_69 : aIns 166 69 = some (.bipush 12, 2, 0, 0, .int (12)) := by decide +kernel
theorem i_166_71 : aIns 166 71 = some (.goto 5, 3, 0, 0, .null) := by decide +kernel
theorem i_166_74 : aIns 166 74 = some (.bipush 13, 2, 0, 0, .int (13)) := by decide +kernel
theorem i_166_76 : aIns 166 76 = some (.istore_n 2, 1, 0, 0, .null) := by decide +kernel
theorem i_166_77 : aIns 166 77 = some (.aload_n 0, 1, 0, 0, .null) := by decide +kernel
theorem i_166_78 : aIns 166 78 = some (.invokevirtual 111, 3, 150, 0, .int 12) := by decide +kernel
theorem i_166_81 : aIns 166 81 = some (.aload_n 0, 1, 0, 0, .null) := by decide +kernel
theorem i_166_82 : aIns 166 82 = some (.iload_n 2, 1, 0, 0, .null) := by decide +kernel
theorem i_166_83 : aIns 166 83 = some (.invokestatic 156, 3, 157, 1, .null) := by decide +kernel
theorem i_166_86 : aIns 166 86 = some (.invokevirtual 192, 3, 158, 1, .int 12) := by decide +kernel
theorem i_166_89 : aIns 166 89 = some (.aload_n 0, 1, 0, 0, .null) := by decide +kernel
theorem i_166_90 : aIns 166 90 = some (.getfield 29, 3, 12, 15, .null) := by decide +kernel
theorem i_166_93 : aIns 166 93 = some (.aload_n 0, 1, 0, 0, .null) := by decide +kernel
theorem i_166_94 : aIns 166 94 = some (.getfield 153, 3, 12, 16, .null) := by decide +kernel
theorem i_166_97 : aIns 166 97 = some (.iload_n 2, 1, 0, 0, .null) := by decide +kernel
theorem i_166_98 : aIns 166 98 = some (.iastore, 1, 0, 0, .null) := by decide +kernel
theorem i_166_99 : aIns 166 99 = some (.aload_n 0, 1, 0, 0, .null) := by decide +kernel
theorem i_166_100 : aIns 166 100 = some (.dup, 1, 0, 0, .null) := by decide +kernel
theorem i_166_101 : aIns 166 101 = some (.getfield 153, 3, 12, 16, .null) := by decide +kernel
theorem i_166_104 : aIns 166 104 = some (.iconst 1, 1, 0, 0, .int (1)) := by decide +kernel
theorem i_166_105 : aIns 166 105 = some (.iadd, 1, 0, 0, .null) := by decide +kernel
theorem i_166_106 : aIns 166 106 = some (.putfield 153, 3, 12, 16, .null) := by decide +kernel
theorem i_166_109 : aIns 166 109 = some (.goto (-97), 3, 0, 0, .null) := by decide +kernel
theorem i_166_112 : aIns 166 112 = some (.aload_n 0, 1, 0, 0, .null) := by decide +kernel
theorem i_166_113 : aIns 166 113 = some (.invokevirtual 195, 3, 164, 0, .int 12) := by decide +kernel
theorem i_166_116 : aIns 166 116 = some (.ifCond .eq 18, 3, 0, 0, .null) := by decide +kernel
theorem i_166_119 : aIns 166 119 = some (.aload_n 0, 1, 0, 0, .null) := by decide +kernel
theorem i_166_120 : aIns 166 120 = some (.invokevirtual 99, 3, 146, 0, .int 12) := by decide +kernel
theorem i_166_123 : aIns 166 123 = some (.pop, 1, 0, 0, .null) := by decide +kernel
theorem i_166_124 : aIns 166 124 = some (.aload_n 0, 1, 0, 0, .null) := by decide +kernel
theorem i_166_125 : aIns 166 125 = some (.iconst 0, 1, 0, 0, .int (0)) := by decide +kernel
theorem i_166_126 : aIns 166 126 = some (.aload_n 0, 1, 0, 0, .null) := by decide +kernel
theorem i_166_127 : aIns 166 127 = some (.getfield 96, 3, 12, 8, .null) := by decide +kernel
theorem i_166_130 : aIns 166 130 = some (.invokevirtual 117, 3, 145, 2, .int 12) := by decide +kernel
theorem i_166_133 : aIns 166 133 = some (.ireturn, 1, 1, 0, .null) := by decide +kernel
theorem i_166_134 : aIns 166 134 = some (.aload_n 0, 1, 0, 0, .null) := by decide +kernel
theorem i_166_135 : aIns 166 135 = some (.iconst 1, 1, 0, 0, .int (1)) := by decide +kernel
theorem i_166_136 : aIns 166 136 = some (.invokevirtual 192, 3, 158, 1, .int 12) := by decide +kernel
theorem i_166_139 : aIns 166 139 = some (.iconst 1, 1, 0, 0, .int (1)) := by decide +kernel
theorem i_166_140 : aIns 166 140 = some (.ireturn, 1, 1, 0, .null) := by decide +kernel
theorem i_167_0 : aIns 167 0 = some (.aload_n 0, 1, 0, 0, .null) := by decide +kernel
theorem i_167_1 : aIns 167 1 = some (.invokevirtual 111, 3, 150, 0, .int 12) := by decide +kernel
theorem i_167_4 : aIns 167 4 = some (.bipush 48, 2, 0, 0, .int (48)) := by decide +kernel
theorem i_167_6 : aIns 167 6 = some (.aload_n 0, 1, 0, 0, .null) := by decide +kernel
theorem i_167_7 : aIns 167 7 = some (.getfield 144, 3, 12, 11, .null) := by decide +kernel
theorem i_167_10 : aIns 167 10 = some (.imul, 1, 0, 0, .null) := by decide +kernel
theorem i_167_11 : aIns 167 11 = some (.iconst 4, 1, 0, 0, .int (4)) := by decide +kernel
theorem i_167_12 : aIns 167 12 = some (.aload_n 0, 1, 0, 0, .null) := by decide +kernel
theorem i_167_13 : aIns 167 13 = some (.getfield 23, 3, 12, 6, .null) := by decide +kernel
theorem i_167_16 : aIns 167 16 = some (.aload_n 0, 1, 0, 0, .null) := by decide +kernel
theorem i_167_17 : aIns 167 17 = some (.getfield 144, 3, 12, 11, .null) := by decide +kernel
theorem i_167_20 : aIns 167 20 = some (.iaload, 1, 0, 0, .null) := by decide +kernel
theorem i_167_21 : aIns 167 21 = some (.imul, 1, 0, 0, .null) := by decide +kernel
theorem i_167_22 : aIns 167 22 = some (.iadd, 1, 0, 0, .null) := by decide +kernel
theorem i_167_23 : aIns 167 23 = some (.istore_n 1, 1, 0, 0, .null) := by decide +kernel
theorem i_167_24 : aIns 167 24 = some (.aload_n 0, 1, 0, 0, .null) := by decide +kernel
theorem i_167_25 : aIns 167 25 = some (.getfield 20, 3, 12, 5, .null) := by decide +kernel
theorem i_167_28 : aIns 167 28 = some (.iload_n 1, 1, 0, 0, .null) := by decide +kernel
theorem i_167_29 : aIns 167 29 = some (.aload_n 0, 1, 0, 0, .null) := by decide +kernel
theorem i_167_30 : aIns 167 30 = some (.getfield 17, 3, 12, 4, .null) := by decide +kernel
theorem i_167_33 : aIns 167 33 = some (.aload_n 0, 1, 0, 0, .null) := by decide +kernel
theorem i_167_34 : aIns 167 34 = some (.getfield 144, 3, 12, 11, .null) := by decide +kernel
theorem i_167_37 : aIns 167 37 = some (.iaload, 1, 0, 0, .null) := by decide +kernel
theorem i_167_38 : aIns 167 38 = some (.iastore, 1, 0, 0, .null) := by decide +kernel
theorem i_167_39 : aIns 167 39 = some (.aload_n 0, 1, 0, 0, .null) := by decide +kernel
theorem i_167_40 : aIns 167 40 = some (.invokevirtual 181, 3, 161, 0, .int 12) := by decide +kernel
theorem i_167_43 : aIns 167 43 = some (.ifCond .ne 5, 3, 0, 0, .null) := by decide +kernel
theorem i_167_46 : aIns 167 46 = some (.iconst 0, 1, 0, 0, .int (0)) := by decide +kernel
theorem i_167_47 : aIns 167 47 = some (.ireturn, 1, 1, 0, .null) := by decide +kernel
theorem i_167_48 : aIns 167 48 = some (.aload_n 0, 1, 0, 0, .null) := by decide +kernel
theorem i_167_49 : aIns 167 49 = some (.getfield 20, 3, 12, 5, .null) := by decide +kernel
theorem i_167_52 : aIns 167 52 = some (.iload_n 1, 1, 0, 0, .null) := by decide +kernel
theorem i_167_53 : aIns 167 53 = some (.iconst 1, 1, 0, 0, .int (1)) := by decide +kernel
theorem i_167_54 : aIns 167 54 = some (.iadd, 1, 0, 0, .null) := by decide +kernel
theorem i_167_55 : aIns 167 55 = some (.aload_n 0, 1, 0, 0, .null) := by decide +kernel
theorem i_167_56 : aIns 167 56 = some (.getfield 17, 3, 12, 4, .null) := by decide +kernel
theorem i_167_59 : aIns 167 59 = some (.aload_n 0, 1, 0, 0, .null) := by decide +kernel
theorem i_167_60 : aIns 167 60 = some (.getfield 144, 3, 12, 11, .null) := by decide +kernel
theorem i_167_63 : aIns 167 63 = some (.iaload, 1, 0, 0, .null) := by decide +kernel
theorem i_167_64 : aIns 167 64 = some (.iastore, 1, 0, 0, .null) := by decide +kernel
theorem i_167_65 : aIns 167 65 = some (.aload_n 0, 1, 0, 0, .null) := by decide +kernel
theorem i_167_66 : aIns 167 66 = some (.getfield 20, 3, 12, 5, .null) := by decide +kernel
theorem i_167_69 : aIns 167 69 = some (.iload_n 1, 1, 0, 0, .null) := by decide +kernel
theorem i_167_70 : aIns 167 70 = some (.iconst 2, 1, 0, 0, .int (2)) := by decide +kernel
theorem i_167_71 : aIns 167 71 = some (.iadd, 1, 0, 0, .null) := by decide +kernel
theorem i_167_72 : aIns 167 72 = some (.iconst (-1), 1, 0, 0, .int (-1)) := by decide +kernel
theorem i_167_73 : aIns 167 73 = some (.iastore, 1, 0, 0, .null) := by decide +kernel
theorem i_167_74 : aIns 167 74 = some (.aload_n 0, 1, 0, 0, .null) := by decide +kernel
theorem i_167_75 : aIns 167 75 = some (.ldc2_w 208, 3, 0, 0, .long (26982)) := by decide +kernel
theorem i_167_78 : aIns 167 78 = some (.invokevirtual 210, 3, 151, 1, .int 12) := by decide +kernel
theorem i_167_81 : aIns 167 81 = some (.ifCond .eq 29, 3, 0, 0, .null) := by decide +kernel
theorem i_167_84 : aIns 167 84 = some (.aload_n 0, 1, 0, 0, .null) := by decide +kernel
theorem i_167_85 : aIns 167 85 = some (.getfield 20, 3, 12, 5, .null) := by decide +kernel
theorem i_167_88 : aIns 167 88 = some (.iload_n 1, 1, 0, 0, .null) := by decide +kernel
theorem i_167_89 : aIns 167 89 = some (.iconst 2, 1, 0, 0, .int (2)) := by decide +kernel
theorem i_167_90 : aIns 167 90 = some (.iadd, 1, 0, 0, .null) := by decide +kernel
theorem i_167_91 : aIns 167 91 = some (.aload_n 0, 1, 0, 0, .null) := by decide +kernel
theorem i_167_92 : aIns 167 92 = some (.getfield 17, 3, 12, 4, .null) := by decide +kernel
theorem i_167_95 : aIns 167 95 = some (.aload_n 0, 1, 0, 0, .null) := by decide +kernel
theorem i_167_96 : aIns 167 96 = some (.getfield 144, 3, 12, 11, .null) := by decide +kernel
theorem i_167_99 : aIns 167 99 = some (.iaload, 1, 0, 0, .null) := by decide +kernel
theorem i_167_100 : aIns 167 100 = some (.iastore, 1, 0, 0, .null) := by decide +kernel
theorem i_167_101 : aIns 167 101 = some (.aload_n 0, 1, 0, 0, .null) := by decide +kernel
theorem i_167_102 : aIns 167 102 = some (.invokevirtual 213, 3, 166, 0, .int 12) := by decide +kernel
theorem i_167_105 : aIns 167 105 = some (.ifCond .ne 5, 3, 0, 0, .null) := by decide +kernel
theorem i_167_108 : aIns 167 108 = some (.iconst 0, 1, 0, 0, .int (0)) := by decide +kernel
theorem i_167_109 : aIns 167 109 = some (.ireturn, 1, 1, 0, .null) := by decide +kernel
theorem i_167_110 : aIns 167 110 = some (.aload_n 0, 1, 0, 0, .null) := by decide +kernel
theorem i_167_111 : aIns 167 111 = some (.getfield 20, 3, 12, 5, .null) := by decide +kernel
theorem i_167_114 : aIns 167 114 = some (.iload_n 1, 1, 0, 0, .null) := by decide +kernel
theorem i_167_115 : aIns 167 115 = some (.iconst 3, 1, 0, 0, .int (3)) := by decide +kernel
theorem i_167_116 : aIns 167 116 = some (.iadd, 1, 0, 0, .null) := by decide +kernel
theorem i_167_117 : aIns 167 117 = some (.aload_n 0, 1, 0, 0, .null) := by decide +kernel
theorem i_167_118 : aIns 167 118 = some (.getfield 17, 3, 12, 4, .null) := by decide +kernel
theorem i_167_121 : aIns 167 121 = some (.aload_n 0, 1, 0, 0, .null) := by decide +kernel
theorem i_167_122 : aIns 167 122 = some (.getfield 144, 3, 12, 11, .null) := by decide +kernel
theorem i_167_125 : aIns 167 125 = some (.iaload, 1, 0, 0, .null) := by decide +kernel
theorem i_167_126 : aIns 167 126 = some (.iastore, 1, 0, 0, .null) := by decide +kernel
theorem i_167_127 : aIns 167 127 = some (.aload_n 0, 1, 0, 0, .null) := by decide +kernel
theorem i_167_128 : aIns 167 128 = some (.getfield 23, 3, 12, 6, .null) := by decide +kernel
theorem i_167_131 : aIns 167 131 = some (.aload_n 0, 1, 0, 0, .null) := by decide +kernel
theorem i_167_132 : aIns 167 132 = some (.getfield 144, 3, 12, 11, .null) := by decide +kernel
theorem i_167_135 : aIns 167 135 = some (.dup2, 1, 0, 0, .null) := by decide +kernel
theorem i_167_136 : aIns 167 136 = some (.iaload, 1, 0, 0, .null) := by decide +kernel
theorem i_167_137 : aIns 167 137 = some (.iconst 1, 1, 0, 0, .int (1)) := by decide +kernel
theorem i_167_138 : aIns 167 138 = some (.iadd, 1, 0, 0, .null) := by decide +kernel
theorem i_167_139 : aIns 167 139 = some (.iastore, 1, 0, 0, .null) := by decide +kernel
theorem i_167_140 : aIns 167 140 = some (.iconst 1, 1, 0, 0, .int (1)) := by decide +kernel
theorem i_167_141 : aIns 167 141 = some (.ireturn, 1, 1, 0, .null) := by decide +kernel
theorem i_168_0 : aIns 168 0 = some (.aload_n 0, 1, 0, 0, .null) := by decide +kernel
theorem i_168_1 : aIns 168 1 = some (.iload_n 2, 1, 0, 0, .null) := by decide +kernel
theorem i_168_2 : aIns 168 2 = some (.iload_n 3, 1, 0, 0, .null) := by decide +kernel
theorem i_168_3 : aIns 168 3 = some (.invokevirtual 165, 3, 152, 2, .int 12) := by decide +kernel
theorem i_168_6 : aIns 168 6 = some (.ifCond .ne 5, 3, 0, 0, .null) := by decide +kernel
theorem i_168_9 : aIns 168 9 = some (.iconst 0, 1, 0, 0, .int (0)) := by decide +kernel
theorem i_168_10 : aIns 168 10 = some (.ireturn, 1, 1, 0, .null) := by decide +kernel
theorem i_168_11 : aIns 168 11 = some (.aload_n 0, 1, 0, 0, .null) := by decide +kernel
theorem i_168_12 : aIns 168 12 = some (.getfield 26, 3, 12, 7, .null) := by decide +kernel
theorem i_168_15 : aIns 168 15 = some (.iload_n 1, 1, 0, 0, .null) := by decide +kernel
theorem i_168_16 : aIns 168 16 = some (.aload_n 0, 1, 0, 0, .null) := by decide +kernel
theorem i_168_17 : aIns 168 17 = some (.getfield 121, 3, 12, 10, .null) := by decide +kernel
theorem i_168_20 : aIns 168 20 = some (.iastore, 1, 0, 0, .null) := by decide +kernel
theorem i_168_21 : aIns 168 21 = some (.iconst 1, 1, 0, 0, .int (1)) := by decide +kernel
theorem i_168_22 : aIns 168 22 = some (.ireturn, 1, 1, 0, .null) := by decide +kernel
theorem i_169_0 : aIns 169 0 = some (.aload_n 0, 1, 0, 0, .null) := by decide +kernel
theorem i_169_1 : aIns 169 1 = some (.getfield 26, 3, 12, 7, .null) := by decide +kernel
theorem i_169_4 : aIns 169 4 = some (.iconst 0, 1, 0, 0, .int (0)) := by decide +kernel
theorem i_169_5 : aIns 169 5 = some (.iaload, 1, 0, 0, .null) := by decide +kernel
theorem i_169_6 : aIns 169 6 = some (.ifCond .le 10, 3, 0, 0, .null) := by decide +kernel
theorem i_169_9 : aIns 169 9 = some (.aload_n 0, 1, 0, 0, .null) := by decide +kernel
theorem i_169_10 : aIns 169 10 = some (.iconst 4, 1, 0, 0, .int (4)) := by decide +kernel
theorem i_169_11 : aIns 169 11 = some (.iload_n 1, 1, 0, 0, .null) := by decide +kernel
theorem i_169_12 : aIns 169 12 = some (.invokevirtual 117, 3, 145, 2, .int 12) := by decide +kernel
theorem i_169_15 : aIns 169 15 = some (.ireturn, 1, 1, 0, .null) := by decide +kernel
theorem i_169_16 : aIns 169 16 = some (.aload_n 0, 1, 0, 0, .null) := by decide +kernel
theorem i_169_17 : aIns 169 17 = some (.invokevirtual 111, 3, 150, 0, .int 12) := by decide +kernel
theorem i_169_20 : aIns 169 20 = some (.aload_n 0, 1, 0, 0, .null) := by decide +kernel
theorem i_169_21 : aIns 169 21 = some (.iconst 4, 1, 0, 0, .int (4)) := by decide +kernel
theorem i_169_22 : aIns 169 22 = some (.iconst 0, 1, 0, 0, .int (0)) := by decide +kernel
theorem i_169_23 : aIns 169 23 = some (.sipush 999, 3, 0, 0, .int (999)) := by decide +kernel
theorem i_169_26 : aIns 169 26 = some (.invokevirtual 216, 3, 168, 3, .int 12) := by decide +kernel
theorem i_169_29 : aIns 169 29 = some (.ifCond .eq 15, 3, 0, 0, .null) := by decide +kernel
theorem i_169_32 : aIns 169 32 = some (.aload_n 0, 1, 0, 0, .null) := by decide +kernel
theorem i_169_33 : aIns 169 33 = some (.iconst 5, 1, 0, 0, .int (5)) := by decide +kernel
theorem i_169_34 : aIns 169 34 = some (.iconst 0, 1, 0, 0, .int (0)) := by decide +kernel
theorem i_169_35 : aIns 169 35 = some (.sipush 9999, 3, 0, 0, .int (9999)) := by decide +kernel
theorem i_169_38 : aIns 169 38 = some (.invokevirtual 216, 3, 168, 3, .int 12) := by decide +kernel
theorem i_169_41 : aIns 169 41 = some (.ifCond .ne 5, 3, 0, 0, .null) := by decide +kernel
theorem i_169_44 : aIns 169 44 = some (.iconst 0, 1, 0, 0, .int (0)) := by decide +kernel
theorem i_169_45 : aIns 169 45 = some (.ireturn, 1, 1, 0, .null) := by decide +kernel
theorem i_169_46 : aIns 169 46 = some (.aload_n 0, 1, 0, 0, .null) := by decide +kernel
theorem i_169_47 : aIns 169 47 = some (.getfield 26, 3, 12, 7, .null) := by decide +kernel
theorem i_169_50 : aIns 169 50 = some (.iconst 0, 1, 0, 0, .int (0)) := by decide +kernel
theorem i_169_51 : aIns 169 51 = some (.iconst 1, 1, 0, 0, .int (1)) := by decide +kernel
theorem i_169_52 : aIns 169 52 = some (.iastore, 1, 0, 0, .null) := by decide +kernel
theorem i_169_53 : aIns 169 53 = some (.iconst 1, 1, 0, 0, .int (1)) := by decide +kernel
theorem i_169_54 : aIns 169 54 = some (.ireturn, 1, 1, 0, .null) := by decide +kernel
theorem i_170_0 : aIns 170 0 = some (.aload_n 0, 1, 0, 0, .null) := by decide +kernel
theorem i_170_1 : aIns 170 1 = some (.getfield 26, 3, 12, 7, .null) := by decide +kernel
theorem i_170_4 : aIns 170 4 = some (.iconst 1, 1, 0, 0, .int (1)) := by decide +kernel
theorem i_170_5 : aIns 170 5 = some (.iaload, 1, 0, 0, .null) := by decide +kernel
theorem i_170_6 : aIns 170 6 = some (.bipush 8, 2, 0, 0, .int (8)) := by decide +kernel
theorem i_170_8 : aIns 170 8 = some (.if_icmp .ne 10, 3, 0, 0, .null) := by decide +kernel
theorem i_170_11 : aIns 170 11 = some (.aload_n 0, 1, 0, 0, .null) := by decide +kernel
theorem i_170_12 : aIns 170 12 = some (.iconst 4, 1, 0, 0, .int (4)) := by decide +kernel
theorem i_170_13 : aIns 170 13 = some (.iload_n 1, 1, 0, 0, .null) := by decide +kernel
theorem i_170_14 : aIns 170 14 = some (.invokevirtual 117, 3, 145, 2, .int 12) := by decide +kernel
theorem i_170_17 : aIns 170 17 = some (.ireturn, 1, 1, 0, .null) := by decide +kernel
theorem i_170_18 : aIns 170 18 = some (.aload_n 0, 1, 0, 0, .null) := by decide +kernel
theorem i_170_19 : aIns 170 19 = some (.invokevirtual 111, 3, 150, 0, .int 12) := by decide +kernel
theorem i_170_22 : aIns 170 22 = some (.bipush 80, 2, 0, 0, .int (80)) := by decide +kernel
theorem i_170_24 : aIns 170 24 = some (.iconst 2, 1, 0, 0, .int (2)) := by decide +kernel
theorem i_170_25 : aIns 170 25 = some (.aload_n 0, 1, 0, 0, .null) := by decide +kernel
theorem i_170_26 : aIns 170 26 = some (.getfield 26, 3, 12, 7, .null) := by decide +kernel
theorem i_170_29 : aIns 170 29 = some (.iconst 1, 1, 0, 0, .int (1)) := by decide +kernel
theorem i_170_30 : aIns 170 30 = some (.iaload, 1, 0, 0, .null) := by decide +kernel
theorem i_170_31 : aIns 170 31 = some (.imul, 1, 0, 0, .null) := by decide +kernel
theorem i_170_32 : aIns 170 32 = some (.iadd, 1, 0, 0, .null) := by decide +kernel
theorem i_170_33 : aIns 170 33 = some (.istore_n 2, 1, 0, 0, .null) := by decide +kernel
theorem i_170_34 : aIns 170 34 = some (.aload_n 0, 1, 0, 0, .null) := by decide +kernel
theorem i_170_35 : aIns 170 35 = some (.iload_n 2, 1, 0, 0, .null) := by decide +kernel
theorem i_170_36 : aIns 170 36 = some (.iconst 1, 1, 0, 0, .int (1)) := by decide +kernel
theorem i_170_37 : aIns 170 37 = some (.sipush 5000, 3, 0, 0, .int (5000)) := by decide +kernel
theorem i_170_40 : aIns 170 40 = some (.invokevirtual 216, 3, 168, 3, .int 12) := by decide +kernel
theorem i_170_43 : aIns 170 43 = some (.ifCond .eq 38, 3, 0, 0, .null) := by decide +kernel
theorem i_170_46 : aIns 170 46 = some (.aload_n 0, 1, 0, 0, .null) := by decide +kernel
theorem i_170_47 : aIns 170 47 = some (.iload_n 2, 1, 0, 0, .null) := by decide +kernel
theorem i_170_48 : aIns 170 48 = some (.iconst 1, 1, 0, 0, .int (1)) := by decide +kernel
theorem i_170_49 : aIns 170 49 = some (.iadd, 1, 0, 0, .null) := by decide +kernel
theorem i_170_50 : aIns 170 50 = some (.iconst 0, 1, 0, 0, .int (0)) := by decide +kernel
theorem i_170_51 : aIns 170 51 = some (.sipush 5000, 3, 0, 0, .int (5000)) := by decide +kernel
theorem i_170_54 : aIns 170 54 = some (.invokevirtual 216, 3, 168, 3, .int 12) := by decide +kernel
theorem i_170_57 : aIns 170 57 = some (.ifCond .eq 24, 3, 0, 0, .null) := by decide +kernel
theorem i_170_60 : aIns 170 60 = some (.aload_n 0, 1, 0, 0, .null) := by decide +kernel
theorem i_170_61 : aIns 170 61 = some (.bipush 16, 2, 0, 0, .int (16)) := by decide +kernel
theorem i_170_63 : aIns 170 63 = some (.iconst 5, 1, 0, 0, .int (5)) := by decide +kernel
theorem i_170_64 : aIns 170 64 = some (.aload_n 0, 1, 0, 0, .null) := by decide +kernel
theorem i_170_65 : aIns 170 65 = some (.getfield 26, 3, 12, 7, .null) := by decide +kernel
theorem i_170_68 : aIns 170 68 = some (.iconst 1, 1, 0, 0, .int (1)) := by decide +kernel
theorem i_170_69 : aIns 170 69 = some (.iaload, 1, 0, 0, .null) := by decide +kernel
theorem i_170_70 : aIns 170 70 = some (.imul, 1, 0, 0, .null) := by decide +kernel
theorem i_170_71 : aIns 170 71 = some (.iadd, 1, 0, 0, .null) := by decide +kernel
theorem i_170_72 : aIns 170 72 = some (.iconst 0, 1, 0, 0, .int (0)) := by decide +kernel
theorem i_170_73 : aIns 170 73 = some (.bipush 9, 2, 0, 0, .int (9)) := by decide +kernel
theorem i_170_75 : aIns 170 75 = some (.invokevirtual 216, 3, 168, 3, .int 12) := by decide +kernel
theorem i_170_78 : aIns 170 78 = some (.ifCond .ne 5, 3, 0, 0, .null) := by decide +kernel
theorem i_170_81 : aIns 170 81 = some (.iconst 0, 1, 0, 0, .int (0)) := by decide +kernel
theorem i_170_82 : aIns 170 82 = some (.ireturn, 1, 1, 0, .null) := by decide +kernel
theorem i_170_83 : aIns 170 83 = some (.aload_n 0, 1, 0, 0, .null) := by decide +kernel
theorem i_170_84 : aIns 170 84 = some (.getfield 26, 3, 12, 7, .null) := by decide +kernel
theorem i_170_87 : aIns 170 87 = some (.iconst 1, 1, 0, 0, .int (1)) := by decide +kernel
theorem i_170_88 : aIns 170 88 = some (.dup2, 1, 0, 0, .null) := by decide +kernel
theorem i_170_89 : aIns 170 89 = some (.iaload, 1, 0, 0, .null) := by decide +kernel
theorem i_170_90 : aIns 170 90 = some (.iconst 1, 1, 0, 0, .int (1)) := by decide +kernel
theorem i_170_91 : aIns 170 91 = some (.iadd, 1, 0, 0, .null) := by decide +kernel
theorem i_170_92 : aIns 170 92 = some (.iastore, 1, 0, 0, .null) := by decide +kernel
theorem i_170_93 : aIns 170 93 = some (.iconst 1, 1, 0, 0, .int (1)) := by decide +kernel
theorem i_170_94 : aIns 170 94 = some (.ireturn, 1, 1, 0, .null) := by decide +kernel
theorem i_171_0 : aIns 171 0 = some (.aload_n 0, 1, 0, 0, .null) := by decide +kernel
theorem i_171_1 : aIns 171 1 = some (.getfield 26, 3, 12, 7, .null) := by decide +kernel
theorem i_171_4 : aIns 171 4 = some (.iconst 2, 1, 0, 0, .int (2)) := by decide +kernel
theorem i_171_5 : aIns 171 5 = some (.iaload, 1, 0, 0, .null) := by decide +kernel
theorem i_171_6 : aIns 171 6 = some (.bipush 6, 2, 0, 0, .int (6)) := by decide +kernel
theorem i_171_8 : aIns 171 8 = some (.if_icmp .ne 10, 3, 0, 0, .null) := by decide +kernel
theorem i_171_11 : aIns 171 11 = some (.aload_n 0, 1, 0, 0, .null) := by decide +kernel
theorem i_171_12 : aIns 171 12 = some (.iconst 4, 1, 0, 0, .int (4)) := by decide +kernel
theorem i_171_13 : aIns 171 13 = some (.iload_n 1, 1, 0, 0, .null) := by decide +kernel
theorem i_171_14 : aIns 171 14 = some (.invokevirtual 117, 3, 145, 2, .int 12) := by decide +kernel
theorem i_171_17 : aIns 171 17 = some (.ireturn, 1, 1, 0, .null) := by decide +kernel
theorem i_171_18 : aIns 171 18 = some (.aload_n 0, 1, 0, 0, .null) := by decide +kernel
theorem i_171_19 : aIns 171 19 = some (.invokevirtual 111, 3, 150, 0, .int 12) := by decide +kernel
theorem i_171_22 : aIns 171 22 = some (.bipush 96, 2, 0, 0, .int (96)) := by decide +kernel
theorem i_171_24 : aIns 171 24 = some (.iconst 2, 1, 0, 0, .int (2)) := by decide +kernel
theorem i_171_25 : aIns 171 25 = some (.aload_n 0, 1, 0, 0, .null) := by decide +kernel
theorem i_171_26 : aIns 171 26 = some (.getfield 26, 3, 12, 7, .null) := by decide +kernel
theorem i_171_29 : aIns 171 29 = some (.iconst 2, 1, 0, 0, .int (2)) := by decide +kernel
theorem i_171_30 : aIns 171 30 = some (.iaload, 1, 0, 0, .null) := by decide +kernel
theorem i_171_31 : aIns 171 31 = some (.imul, 1, 0, 0, .null) := by decide +kernel
theorem i_171_32 : aIns 171 32 = some (.iadd, 1, 0, 0, .null) := by decide +kernel
theorem i_171_33 : aIns 171 33 = some (.istore_n 2, 1, 0, 0, .null) := by decide +kernel
theorem i_171_34 : aIns 171 34 = some (.aload_n 0, 1, 0, 0, .null) := by decide +kernel
theorem i_171_35 : aIns 171 35 = some (.iload_n 2, 1, 0, 0, .null) := by decide +kernel
theorem i_171_36 : aIns 171 36 = some (.iconst 0, 1, 0, 0, .int (0)) := by decide +kernel
theorem i_171_37 : aIns 171 37 = some (.aload_n 0, 1, 0, 0, .null) := by decide +kernel
theorem i_171_38 : aIns 171 38 = some (.getfield 26, 3, 12, 7, .null) := by decide +kernel
theorem i_171_41 : aIns 171 41 = some (.iconst 1, 1, 0, 0, .int (1)) := by decide +kernel
theorem i_171_42 : aIns 171 42 = some (.iaload, 1, 0, 0, .null) := by decide +kernel
theorem i_171_43 : aIns 171 43 = some (.iconst 1, 1, 0, 0, .int (1)) := by decide +kernel
theorem i_171_44 : aIns 171 44 = some (.isub, 1, 0, 0, .null) := by decide +kernel
theorem i_171_45 : aIns 171 45 = some (.invokevirtual 216, 3, 168, 3, .int 12) := by decide +kernel
theorem i_171_48 : aIns 171 48 = some (.ifCond .eq 16, 3, 0, 0, .null) := by decide +kernel
theorem i_171_51 : aIns 171 51 = some (.aload_n 0, 1, 0, 0, .null) := by decide +kernel
theorem i_171_52 : aIns 171 52 = some (.iload_n 2, 1, 0, 0, .null) := by decide +kernel
theorem i_171_53 : aIns 171 53 = some (.iconst 1, 1, 0, 0, .int (1)) := by decide +kernel
theorem i_171_54 : aIns 171 54 = some (.iadd, 1, 0, 0, .null) := by decide +kernel
theorem i_171_55 : aIns 171 55 = some (.iconst 0, 1, 0, 0, .int (0)) := by decide +kernel
theorem i_171_56 : aIns 171 56 = some (.bipush 30, 2, 0, 0, .int (30)) := by decide +kernel
theorem i_171_58 : aIns 171 58 = some (.invokevirtual 216, 3, 168, 3, .int 12) := by decide +kernel
theorem i_171_61 : aIns 171 61 = some (.ifCond .ne 5, 3, 0, 0, .null) := by decide +kernel
theorem i_171_64 : aIns 171 64 = some (.iconst 0, 1, 0, 0, .int (0)) := by decide +kernel
theorem i_171_65 : aIns 171 65 = some (.ireturn, 1, 1, 0, .null) := by decide +kernel
theorem i_171_66 : aIns 171 66 = some (.aload_n 0, 1, 0, 0, .null) := by decide +kernel
theorem i_171_67 : aIns 171 67 = some (.getfield 26, 3, 12, 7, .null) := by decide +kernel
theorem i_171_70 : aIns 171 70 = some (.iconst 2, 1, 0, 0, .int (2)) := by decide +kernel
theorem i_171_71 : aIns 171 71 = some (.dup2, 1, 0, 0, .null) := by decide +kernel
theorem i_171_72 : aIns 171 72 = some (.iaload, 1, 0, 0, .null) := by decide +kernel
theorem i_171_73 : aIns 171 73 = some (.iconst 1, 1, 0, 0, .int (1)) := by decide +kernel
theorem i_171_74 : aIns 171 74 = some (.iadd, 1, 0, 0, .null) := by decide +kernel
theorem i_171_75 : aIns 171 75 = some (.iastore, 1, 0, 0, .null) := by decide +kernel
theorem i_171_76 : aIns 171 76 = some (.iconst 1, 1, 0, 0, .int (1)) := by decide +kernel
theorem i_171_77 : aIns 171 77 = some (.ireturn, 1, 1, 0, .null) := by decide +kernel
theorem i_172_0 : aIns 172 0 = some (.aload_n 0, 1, 0, 0, .null) := by decide +kernel
theorem i_172_1 : aIns 172 1 = some (.getfield 26, 3, 12, 7, .null) := by decide +kernel
theorem i_172_4 : aIns 172 4 = some (.bipush 10, 2, 0, 0, .int (10)) := by decide +kernel
theorem i_172_6 : aIns 172 6 = some (.iaload, 1, 0, 0, .null) := by decide +kernel
theorem i_172_7 : aIns 172 7 = some (.iconst 4, 1, 0, 0, .int (4)) := by decide +kernel
theorem i_172_8 : aIns 172 8 = some (.if_icmp .ne 10, 3, 0, 0, .null) := by decide +kernel
theorem i_172_11 : aIns 172 11 = some (.aload_n 0, 1, 0, 0, .null) := by decide +kernel
theorem i_172_12 : aIns 172 12 = some (.iconst 4, 1, 0, 0, .int (4)) := by decide +kernel
theorem i_172_13 : aIns 172 13 = some (.iload_n 1, 1, 0, 0, .null) := by decide +kernel
theorem i_172_14 : aIns 172 14 = some (.invokevirtual 117, 3, 145, 2, .int 12) := by decide +kernel
theorem i_172_17 : aIns 172 17 = some (.ireturn, 1, 1, 0, .null) := by decide +kernel
theorem i_172_18 : aIns 172 18 = some (.aload_n 0, 1, 0, 0, .null) := by decide +kernel
theorem i_172_19 : aIns 172 19 = some (.invokevirtual 111, 3, 150, 0, .int 12) := by decide +kernel
theorem i_172_22 : aIns 172 22 = some (.bipush 108, 2, 0, 0, .int (108)) := by decide +kernel
theorem i_172_24 : aIns 172 24 = some (.iconst 3, 1, 0, 0, .int (3)) := by decide +kernel
theorem i_172_25 : aIns 172 25 = some (.aload_n 0, 1, 0, 0, .null) := by decide +kernel
theorem i_172_26 : aIns 172 26 = some (.getfield 26, 3, 12, 7, .null) := by decide +kernel
theorem i_172_29 : aIns 172 29 = some (.bipush 10, 2, 0, 0, .int (10)) := by decide +kernel
theorem i_172_31 : aIns 172 31 = some (.iaload, 1, 0, 0, .null) := by decide +kernel
theorem i_172_32 : aIns 172 32 = some (.imul, 1, 0, 0, .null) := by decide +kernel
theorem i_172_33 : aIns 172 33 = some (.iadd, 1, 0, 0, .null) := by decide +kernel
theorem i_172_34 : aIns 172 34 = some (.istore_n 2, 1, 0, 0, .null) := by decide +kernel
theorem i_172_35 : aIns 172 35 = some (.aload_n 0, 1, 0, 0, .null) := by decide +kernel
theorem i_172_36 : aIns 172 36 = some (.iload_n 2, 1, 0, 0, .null) := by decide +kernel
theorem i_172_37 : aIns 172 37 = some (.iconst 0, 1, 0, 0, .int (0)) := by decide +kernel
theorem i_172_38 : aIns 172 38 = some (.bipush 99, 2, 0, 0, .int (99)) := by decide +kernel
theorem i_172_40 : aIns 172 40 = some (.invokevirtual 216, 3, 168, 3, .int 12) := by decide +kernel
theorem i_172_43 : aIns 172 43 = some (.ifCond .eq 34, 3, 0, 0, .null) := by decide +kernel
theorem i_172_46 : aIns 172 46 = some (.aload_n 0, 1, 0, 0, .null) := by decide +kernel
theorem i_172_47 : aIns 172 47 = some (.iload_n 2, 1, 0, 0, .null) := by decide +kernel
theorem i_172_48 : aIns 172 48 = some (.iconst 1, 1, 0, 0, .int (1)) := by decide +kernel
theorem i_172_49 : aIns 172 49 = some (.iadd, 1, 0, 0, .null) := by decide +kernel
theorem i_172_50 : aIns 172 50 = some (.aload_n 0, 1, 0, 0, .null) := by decide +kernel
theorem i_172_51 : aIns 172 51 = some (.getfield 26, 3, 12, 7, .null) := by decide +kernel
theorem i_172_54 : aIns 172 54 = some (.iload_n 2, 1, 0, 0, .null) := by decide +kernel
theorem i_172_55 : aIns 172 55 = some (.iaload, 1, 0, 0, .null) := by decide +kernel
theorem i_172_56 : aIns 172 56 = some (.bipush 99, 2, 0, 0, .int (99)) := by decide +kernel
theorem i_172_58 : aIns 172 58 = some (.invokevirtual 216, 3, 168, 3, .int 12) := by decide +kernel
theorem i_172_61 : aIns 172 61 = some (.ifCond .eq 16, 3, 0, 0, .null) := by decide +kernel
theorem i_172_64 : aIns 172 64 = some (.aload_n 0, 1, 0, 0, .null) := by decide +kernel
theorem i_172_65 : aIns 172 65 = some (.iload_n 2, 1, 0, 0, .null) := by decide +kernel
theorem i_172_66 : aIns 172 66 = some (.iconst 2, 1, 0, 0, .int (2)) := by decide +kernel
theorem i_172_67 : aIns 172 67 = some (.iadd, 1, 0, 0, .null) := by decide +kernel
theorem i_172_68 : aIns 172 68 = some (.iconst 1, 1, 0, 0, .int (1)) := by decide +kernel
theorem i_172_69 : aIns 172 69 = some (.bipush 90, 2, 0, 0, .int (90)) := by decide +kernel
theorem i_172_71 : aIns 172 71 = some (.invokevirtual 216, 3, 168, 3, .int 12) := by decide +kernel
theorem i_172_74 : aIns 172 74 = some (.ifCond .ne 5, 3, 0, 0, .null) := by decide +kernel
theorem i_172_77 : aIns 172 77 = some (.iconst 0, 1, 0, 0, .int (0)) := by decide +kernel
theorem i_172_78 : aIns 172 78 = some (.ireturn, 1, 1, 0, .null) := by decide +kernel
theorem i_172_79 : aIns 172 79 = some (.aload_n 0, 1, 0, 0, .null) := by decide +kernel
theorem i_172_80 : aIns 172 80 = some (.getfield 26, 3, 12, 7, .null) := by decide +kernel
theorem i_172_83 : aIns 172 83 = some (.bipush 10, 2, 0, 0, .int (10)) := by decide +kernel
theorem i_172_85 : aIns 172 85 = some (.dup2, 1, 0, 0, .null) := by decide +kernel
theorem i_172_86 : aIns 172 86 = some (.iaload, 1, 0, 0, .null) := by decide +kernel
theorem i_172_87 : aIns 172 87 = some (.iconst 1, 1, 0, 0, .int (1)) := by decide +kernel
theorem i_172_88 : aIns 172 88 = some (.iadd, 1, 0, 0, .null) := by decide +kernel
theorem i_172_89 : aIns 172 89 = some (.iastore, 1, 0, 0, .null) := by decide +kernel
theorem i_172_90 : aIns 172 90 = some (.iconst 1, 1, 0, 0, .int (1)) := by decide +kernel
theorem i_172_91 : aIns 172 91 = some (.ireturn, 1, 1, 0, .null) := by decide +kernel
theorem i_173_0 : aIns 173 0 = some (.aload_n 0, 1, 0, 0, .null) := by decide +kernel
theorem i_173_1 : aIns 173 1 = some (.getfield 26, 3, 12, 7, .null) := by decide +kernel
theorem i_173_4 : aIns 173 4 = some (.iconst 3, 1, 0, 0, .int (3)) := by decide +kernel
theorem i_173_5 : aIns 173 5 = some (.iaload, 1, 0, 0, .null) := by decide +kernel
theorem i_173_6 : aIns 173 6 = some (.iconst 5, 1, 0, 0, .int (5)) := by decide +kernel
theorem i_173_7 : aIns 173 7 = some (.if_icmp .ne 10, 3, 0, 0, .null) := by decide +kernel
theorem i_173_10 : aIns 173 10 = some (.aload_n 0, 1, 0, 0, .null) := by decide +kernel
theorem i_173_11 : aIns 173 11 = some (.iconst 4, 1, 0, 0, .int (4)) := by decide +kernel
theorem i_173_12 : aIns 173 12 = some (.iload_n 2, 1, 0, 0, .null) := by decide +kernel
theorem i_173_13 : aIns 173 13 = some (.invokevirtual 117, 3, 145, 2, .int 12) := by decide +kernel
theorem i_173_16 : aIns 173 16 = some (.ireturn, 1, 1, 0, .null) := by decide +kernel
theorem i_173_17 : aIns 173 17 = some (.aload_n 0, 1, 0, 0, .null) := by decide +kernel
theorem i_173_18 : aIns 173 18 = some (.invokevirtual 111, 3, 150, 0, .int 12) := by decide +kernel
theorem i_173_21 : aIns 173 21 = some (.bipush 120, 2, 0, 0, .int (120)) := by decide +kernel
theorem i_173_23 : aIns 173 23 = some (.iconst 4, 1, 0, 0, .int (4)) := by decide +kernel
theorem i_173_24 : aIns 173 24 = some (.aload_n 0, 1, 0, 0, .null) := by decide +kernel
theorem i_173_25 : aIns 173 25 = some (.getfield 26, 3, 12, 7, .null) := by decide +kernel
theorem i_173_28 : aIns 173 28 = some (.iconst 3, 1, 0, 0, .int (3)) := by decide +kernel
theorem i_173_29 : aIns 173 29 = some (.iaload, 1, 0, 0, .null) := by decide +kernel
theorem i_173_30 : aIns 173 30 = some (.imul, 1, 0, 0, .null) := by decide +kernel
theorem i_173_31 : aIns 173 31 = some (.iadd, 1, 0, 0, .null) := by decide +kernel
theorem i_173_32 : aIns 173 32 = some (.istore_n 3, 1, 0, 0, .null) := by decide +kernel
theorem i_173_33 : aIns 173 33 = some (.aload_n 0, 1, 0, 0, .null) := by decide +kernel
theorem i_173_34 : aIns 173 34 = some (.getfield 26, 3, 12, 7, .null) := by decide +kernel
theorem i_173_37 : aIns 173 37 = some (.iload_n 3, 1, 0, 0, .null) := by decide +kernel
theorem i_173_38 : aIns 173 38 = some (.iload_n 1, 1, 0, 0, .null) := by decide +kernel
theorem i_173_39 : aIns 173 39 = some (.iastore, 1, 0, 0, .null) := by decide +kernel
theorem i_173_40 : aIns 173 40 = some (.aload_n 0, 1, 0, 0, .null) := by decide +kernel
theorem i_173_41 : aIns 173 41 = some (.getfield 26, 3, 12, 7, .null) := by decide +kernel
theorem i_173_44 : aIns 173 44 = some (.iload_n 3, 1, 0, 0, .null) := by decide +kernel
theorem i_173_45 : aIns 173 45 = some (.iconst 1, 1, 0, 0, .int (1)) := by decide +kernel
theorem i_173_46 : aIns 173 46 = some (.iadd, 1, 0, 0, .null) := by decide +kernel
theorem i_173_47 : aIns 173 47 = some (.iconst 0, 1, 0, 0, .int (0)) := by decide +kernel
theorem i_173_48 : aIns 173 48 = some (.iastore, 1, 0, 0, .null) := by decide +kernel
theorem i_173_49 : aIns 173 49 = some (.aload_n 0, 1, 0, 0, .null) := by decide +kernel
theorem i_173_50 : aIns 173 50 = some (.getfield 26, 3, 12, 7, .null) := by decide +kernel
theorem i_173_53 : aIns 173 53 = some (.iload_n 3, 1, 0, 0, .null) := by decide +kernel
theorem i_173_54 : aIns 173 54 = some (.iconst 3, 1, 0, 0, .int (3)) := by decide +kernel
theorem i_173_55 : aIns 173 55 = some (.iadd, 1, 0, 0, .null) := by decide +kernel
theorem i_173_56 : aIns 173 56 = some (.iconst 0, 1, 0, 0, .int (0)) := by decide +kernel
theorem i_173_57 : aIns 173 57 = some (.iastore, 1, 0, 0, .null) := by decide +kernel
theorem i_173_58 : aIns 173 58 = some (.iload_n 1, 1, 0, 0, .null) := by decide +kernel
theorem i_173_59 : aIns 173 59 = some (.iconst 2, 1, 0, 0, .int (2)) := by decide +kernel
theorem i_173_60 : aIns 173 60 = some (.if_icmp .eq 28, 3, 0, 0, .null) := by decide +kernel
theorem i_173_63 : aIns 173 63 = some (.aload_n 0, 1, 0, 0, .null) := by decide +kernel
theorem i_173_64 : aIns 173 64 = some (.iload_n 3, 1, 0, 0, .null) := by decide +kernel
theorem i_173_65 : aIns 173 65 = some (.iconst 1, 1, 0, 0, .int (1)) := by decide +kernel
theorem i_173_66 : aIns 173 66 = some (.iadd, 1, 0, 0, .null) := by decide +kernel
theorem i_173_67 : aIns 173 67 = some (.iconst 1, 1, 0, 0, .int (1)) := by decide +kernel
theorem i_173_68 : aIns 173 68 = some (.iload_n 1, 1, 0, 0, .null) := by decide +kernel
theorem i_173_69 : aIns 173 69 = some (.ifCond .ne 8, 3, 0, 0, .null) := by decide +kernel
theorem i_173_72 : aIns 173 72 = some (.bipush 90, 2, 0, 0, .int (90)) := by decide +kernel
theorem i_173_74 : aIns 173 74 = some (.goto 6, 3, 0, 0, .null) := by decide +kernel
theorem i_173_77 : aIns 173 77 = some (.sipush 2000, 3, 0, 0, .int (2000)) := by decide +kernel
theorem i_173_80 : aIns 173 80 = some (.invokevirtual 216, 3, 168, 3, .int 12) := by decide +kernel
theorem i_173_83 : aIns 173 83 = some (.ifCond .ne 5, 3, 0, 0, .null) := by decide +kernel
theorem i_173_86 : aIns 173 86 = some (.iconst 0, 1, 0, 0, .int (0)) := by decide +kernel
theorem i_173_87 : aIns 173 87 = some (.ireturn, 1, 1, 0, .null) := by decide +kernel
theorem i_173_88 : aIns 173 88 = some (.aload_n 0, 1, 0, 0, .null) := by decide +kernel
theorem i_173_89 : aIns 173 89 = some (.iload_n 3, 1, 0, 0, .null) := by decide +kernel
theorem i_173_90 : aIns 173 90 = some (.iconst 2, 1, 0, 0, .int (2)) := by decide +kernel
theorem i_173_91 : aIns 173 91 = some (.iadd, 1, 0, 0, .null) := by decide +kernel
theorem i_173_92 : aIns 173 92 = some (.iconst 0, 1, 0, 0, .int (0)) := by decide +kernel
theorem i_173_93 : aIns 173 93 = some (.sipush 9999, 3, 0, 0, .int (9999)) := by decide +kernel
theorem i_173_96 : aIns 173 96 = some (.invokevirtual 216, 3, 168, 3, .int 12) := by decide +kernel
theorem i_173_99 : aIns 173 99 = some (.ifCond .ne 5, 3, 0, 0, .null) := by decide +kernel
theorem i_173_102 : aIns 173 102 = some (.iconst 0, 1, 0, 0, .int (0)) := by decide +kernel
theorem i_173_103 : aIns 173 103 = some (.ireturn, 1, 1, 0, .null) := by decide +kernel
theorem i_173_104 : aIns 173 104 = some (.aload_n 0, 1, 0, 0, .null) := by decide +kernel
theorem i_173_105 : aIns 173 105 = some (.getfield 26, 3, 12, 7, .null) := by decide +kernel
theorem i_173_108 : aIns 173 108 = some (.iconst 3, 1, 0, 0, .int (3)) := by decide +kernel
theorem i_173_109 : aIns 173 109 = some (.dup2, 1, 0, 0, .null) := by decide +kernel
theorem i_173_110 : aIns 173 110 = some (.iaload, 1, 0, 0, .null) := by decide +kernel
theorem i_173_111 : aIns 173 111 = some (.iconst 1, 1, 0, 0, .int (1)) := by decide +kernel
theorem i_173_112 : aIns 173 112 = some (.iadd, 1, 0, 0, .null) := by decide +kernel
theorem i_173_113 : aIns 173 113 = some (.iastore, 1, 0, 0, .null) := by decide +kernel
theorem i_173_114 : aIns 173 114 = some (.iconst 1, 1, 0, 0, .int (1)) := by decide +kernel
theorem i_173_115 : aIns 173 115 = some (.ireturn, 1, 1, 0, .null) := by decide +kernel
theorem i_174_0 : aIns 174 0 = some (.aload_n 0, 1, 0, 0, .null) := by decide +kernel
theorem i_174_1 : aIns 174 1 = some (.invokevirtual 111, 3, 150, 0, .int 12) := by decide +kernel
theorem i_174_4 : aIns 174 4 = some (.aload_n 0, 1, 0, 0, .null) := by decide +kernel
theorem i_174_5 : aIns 174 5 = some (.iconst 0, 1, 0, 0, .int (0)) := by decide +kernel
theorem i_174_6 : aIns 174 6 = some (.aload_n 0, 1, 0, 0, .null) := by decide +kernel
theorem i_174_7 : aIns 174 7 = some (.getfield 26, 3, 12, 7, .null) := by decide +kernel
theorem i_174_10 : aIns 174 10 = some (.iconst 3, 1, 0, 0, .int (3)) := by decide +kernel
theorem i_174_11 : aIns 174 11 = some (.iaload, 1, 0, 0, .null) := by decide +kernel
theorem i_174_12 : aIns 174 12 = some (.iconst 1, 1, 0, 0, .int (1)) := by decide +kernel
theorem i_174_13 : aIns 174 13 = some (.isub, 1, 0, 0, .null) := by decide +kernel
theorem i_174_14 : aIns 174 14 = some (.invokevirtual 165, 3, 152, 2, .int 12) := by decide +kernel
theorem i_174_17 : aIns 174 17 = some (.ifCond .ne 5, 3, 0, 0, .null) := by decide +kernel
theorem i_174_20 : aIns 174 20 = some (.iconst 0, 1, 0, 0, .int (0)) := by decide +kernel
theorem i_174_21 : aIns 174 21 = some (.ireturn, 1, 1, 0, .null) := by decide +kernel
theorem i_174_22 : aIns 174 22 = some (.aload_n 0, 1, 0, 0, .null) := by decide +kernel
theorem i_174_23 : aIns 174 23 = some (.getfield 121, 3, 12, 10, .null) := by decide +kernel
theorem i_174_26 : aIns 174 26 = some (.istore_n 1, 1, 0, 0, .null) := by decide +kernel
theorem i_174_27 : aIns 174 27 = some (.aload_n 0, 1, 0, 0, .null) := by decide +kernel
theorem i_174_28 : aIns 174 28 = some (.invokevirtual 99, 3, 146, 0, .int 12) := by decide +kernel
theorem i_174_31 : aIns 174 31 = some (.pop, 1, 0, 0, .null) := by decide +kernel
theorem i_174_32 : aIns 174 32 = some (.aload_n 0, 1, 0, 0, .null) := by decide +kernel
theorem i_174_33 : aIns 174 33 = some (.getfield 96, 3, 12, 8, .null) := by decide +kernel
theorem i_174_36 : aIns 174 36 = some (.istore_n 2, 1, 0, 0, .null) := by decide +kernel
theorem i_174_37 : aIns 174 37 = some (.aload_n 0, 1, 0, 0, .null) := by decide +kernel
theorem i_174_38 : aIns 174 38 = some (.iconst 0, 1, 0, 0, .int (0)) := by decide +kernel
theorem i_174_39 : aIns 174 39 = some (.aload_n 0, 1, 0, 0, .null) := by decide +kernel
theorem i_174_40 : aIns 174 40 = some (.getfield 26, 3, 12, 7, .null) := by decide +kernel
theorem i_174_43 : aIns 174 43 = some (.iconst 3, 1, 0, 0, .int (3)) := by decide +kernel
theorem i_174_44 : aIns 174 44 = some (.iaload, 1, 0, 0, .null) := by decide +kernel
theorem i_174_45 : aIns 174 45 = some (.iconst 1, 1, 0, 0, .int (1)) := by decide +kernel
theorem i_174_46 : aIns 174 46 = some (.isub, 1, 0, 0, .null) := by decide +kernel
theorem i_174_47 : aIns 174 47 = some (.invokevirtual 165, 3, 152, 2, .int 12) := by decide +kernel
theorem i_174_50 : aIns 174 50 = some (.ifCond .ne 5, 3, 0, 0, .null) := by decide +kernel
theorem i_174_53 : aIns 174 53 = some (.iconst 0, 1, 0, 0, .int (0)) := by decide +kernel
theorem i_174_54 : aIns 174 54 = some (.ireturn, 1, 1, 0, .null) := by decide +kernel
theorem i_174_55 : aIns 174 55 = some (.aload_n 0, 1, 0, 0, .null) := by decide +kernel
theorem i_174_56 : aIns 174 56 = some (.getfield 121, 3, 12, 10, .null) := by decide +kernel
theorem i_174_59 : aIns 174 59 = some (.iload_n 1, 1, 0, 0, .null) := by decide +kernel
theorem i_174_60 : aIns 174 60 = some (.if_icmp .ne 10, 3, 0, 0, .null) := by decide +kernel
theorem i_174_63 : aIns 174 63 = some (.aload_n 0, 1, 0, 0, .null) := by decide +kernel
theorem i_174_64 : aIns 174 64 = some (.iconst 1, 1, 0, 0, .int (1)) := by decide +kernel
theorem i_174_65 : aIns 174 65 = some (.iload_n 2, 1, 0, 0, .null) := by decide +kernel
theorem i_174_66 : aIns 174 66 = some (.invokevirtual 117, 3, 145, 2, .int 12) := by decide +kernel
theorem i_174_69 : aIns 174 69 = some (.ireturn, 1, 1, 0, .null) := by decide +kernel
theorem i_174_70 : aIns 174 70 = some (.aload_n 0, 1, 0, 0, .null) := by decide +kernel
theorem i_174_71 : aIns 174 71 = some (.getfield 26, 3, 12, 7, .null) := by decide +kernel
theorem i_174_74 : aIns 174 74 = some (.bipush 120, 2, 0, 0, .int (120)) := by decide +kernel
theorem i_174_76 : aIns 174 76 = some (.iconst 4, 1, 0, 0, .int (4)) := by decide +kernel
theorem i_174_77 : aIns 174 77 = some (.iload_n 1, 1, 0, 0, .null) := by decide +kernel
theorem i_174_78 : aIns 174 78 = some (.imul, 1, 0, 0, .null) := by decide +kernel
theorem i_174_79 : aIns 174 79 = some (.iadd, 1, 0, 0, .null) := by decide +kernel
theorem i_174_80 : aIns 174 80 = some (.iconst 3, 1, 0, 0, .int (3)) := by decide +kernel
theorem i_174_81 : aIns 174 81 = some (.iadd, 1, 0, 0, .null) := by decide +kernel
theorem i_174_82 : aIns 174 82 = some (.dup2, 1, 0, 0, .null) := by decide +kernel
theorem i_174_83 : aIns 174 83 = some (.iaload, 1, 0, 0, .null) := by decide +kernel
theorem i_174_84 : aIns 174 84 = some (.iconst 1, 1, 0, 0, .int (1)) := by decide +kernel
theorem i_174_85 : aIns 174 85 = some (.aload_n 0, 1, 0, 0, .null) := by decide +kernel
theorem i_174_86 : aIns 174 86 = some (.getfield 121, 3, 12, 10, .null) := by decide +kernel
theorem i_174_89 : aIns 174 89 = some (.ishl, 1, 0, 0, .null) := by decide +kernel
theorem i_174_90 : aIns 174 90 = some (.ior, 1, 0, 0, .null) := by decide +kernel
theorem i_174_91 : aIns 174 91 = some (.iastore, 1, 0, 0, .null) := by decide +kernel
theorem i_174_92 : aIns 174 92 = some (.aload_n 0, 1, 0, 0, .null) := by decide +kernel
theorem i_174_93 : aIns 174 93 = some (.getfield 26, 3, 12, 7, .null) := by decide +kernel
theorem i_174_96 : aIns 174 96 = some (.bipush 120, 2, 0, 0, .int (120)) := by decide +kernel
theorem i_174_98 : aIns 174 98 = some (.iconst 4, 1, 0, 0, .int (4)) := by decide +kernel
theorem i_174_99 : aIns 174 99 = some (.aload_n 0, 1, 0, 0, .null) := by decide +kernel
theorem i_174_100 : aIns 174 100 = some (.getfield 121, 3, 12, 10, .null) := by decide +kernel
theorem i_174_103 : aIns 174 103 = some (.imul, 1, 0, 0, .null) := by decide +kernel
theorem i_174_104 : aIns 174 104 = some (.iadd, 1, 0, 0, .null) := by decide +kernel
theorem i_174_105 : aIns 174 105 = some (.iconst 3, 1, 0, 0, .int (3)) := by decide +kernel
theorem i_174_106 : aIns 174 106 = some (.iadd, 1, 0, 0, .null) := by decide +kernel
theorem i_174_107 : aIns 174 107 = some (.dup2, 1, 0, 0, .null) := by decide +kernel
theorem i_174_108 : aIns 174 108 = some (.iaload, 1, 0, 0, .null) := by decide +kernel
theorem i_174_109 : aIns 174 109 = some (.iconst 1, 1, 0, 0, .int (1)) := by decide +kernel
theorem i_174_110 : aIns 174 110 = some (.iload_n 1, 1, 0, 0, .null) := by decide +kernel
theorem i_174_111 : aIns 174 111 = some (.ishl, 1, 0, 0, .null) := by decide +kernel
theorem i_174_112 : aIns 174 112 = some (.ior, 1, 0, 0, .null) := by decide +kernel
theorem i_174_113 : aIns 174 113 = some (.iastore, 1, 0, 0, .null) := by decide +kernel
theorem i_174_114 : aIns 174 114 = some (.iconst 1, 1, 0, 0, .int (1)) := by decide +kernel
theorem i_174_115 : aIns 174 115 = some (.ireturn, 1, 1, 0, .null) := by decide +kernel
theorem i_175_0 : aIns 175 0 = some (.aload_n 0, 1, 0, 0, .null) := by decide +kernel
theorem i_175_1 : aIns 175 1 = some (.getfield 26, 3, 12, 7, .null) := by decide +kernel
theorem i_175_4 : aIns 175 4 = some (.bipush 6, 2, 0, 0, .int (6)) := by decide +kernel
theorem i_175_6 : aIns 175 6 = some (.iaload, 1, 0, 0, .null) := by decide +kernel
theorem i_175_7 : aIns 175 7 = some (.ifCond .le 10, 3, 0, 0, .null) := by decide +kernel
theorem i_175_10 : aIns 175 10 = some (.aload_n 0, 1, 0, 0, .null) := by decide +kernel
theorem i_175_11 : aIns 175 11 = some (.iconst 4, 1, 0, 0, .int (4)) := by decide +kernel
theorem i_175_12 : aIns 175 12 = some (.iload_n 1, 1, 0, 0, .null) := by decide +kernel
theorem i_175_13 : aIns 175 13 = some (.invokevirtual 117, 3, 145, 2, .int 12) := by decide +kernel
theorem i_175_16 : aIns 175 16 = some (.ireturn, 1, 1, 0, .null) := by decide +kernel
theorem i_175_17 : aIns 175 17 = some (.aload_n 0, 1, 0, 0, .null) := by decide +kernel
theorem i_175_18 : aIns 175 18 = some (.invokevirtual 111, 3, 150, 0, .int 12) := by decide +kernel
theorem i_175_21 : aIns 175 21 = some (.aload_n 0, 1, 0, 0, .null) := by decide +kernel
theorem i_175_22 : aIns 175 22 = some (.getfield 26, 3, 12, 7, .null) := by decide +kernel
theorem i_175_25 : aIns 175 25 = some (.bipush 6, 2, 0, 0, .int (6)) := by decide +kernel
theorem i_175_27 : aIns 175 27 = some (.iconst 1, 1, 0, 0, .int (1)) := by decide +kernel
theorem i_175_28 : aIns 175 28 = some (.iastore, 1, 0, 0, .null) := by decide +kernel
theorem i_175_29 : aIns 175 29 = some (.iconst 1, 1, 0, 0, .int (1)) := by decide +kernel
theorem i_175_30 : aIns 175 30 = some (.ireturn, 1, 1, 0, .null) := by decide +kernel
theorem i_176_0 : aIns 176 0 = some (.aload_n 0, 1, 0, 0, .null) := by decide +kernel
theorem i_176_1 : aIns 176 1 = some (.ldc2_w 220, 3, 0, 0, .long (1936224112)) := by decide +kernel
theorem i_176_4 : aIns 176 4 = some (.invokevirtual 107, 3, 149, 1, .int 12) := by decide +kernel
theorem i_176_7 : aIns 176 7 = some (.ifCond .eq 9, 3, 0, 0, .null) := by decide +kernel
theorem i_176_10 : aIns 176 10 = some (.aload_n 0, 1, 0, 0, .null) := by decide +kernel
theorem i_176_11 : aIns 176 11 = some (.iload_n 1, 1, 0, 0, .null) := by decide +kernel
theorem i_176_12 : aIns 176 12 = some (.invokevirtual 222, 3, 169, 1, .int 12) := by decide +kernel
theorem i_176_15 : aIns 176 15 = some (.ireturn, 1, 1, 0, .null) := by decide +kernel
theorem i_176_16 : aIns 176 16 = some (.aload_n 0, 1, 0, 0, .null) := by decide +kernel
theorem i_176_17 : aIns 176 17 = some (.getfield 26, 3, 12, 7, .null) := by decide +kernel
theorem i_176_20 : aIns 176 20 = some (.iconst 0, 1, 0, 0, .int (0)) := by decide +kernel
theorem i_176_21 : aIns 176 21 = some (.iaload, 1, 0, 0, .null) := by decide +kernel
theorem i_176_22 : aIns 176 22 = some (.ifCond .ne 10, 3, 0, 0, .null) := by decide +kernel
theorem i_176_25 : aIns 176 25 = some (.aload_n 0, 1, 0, 0, .null) := by decide +kernel
theorem i_176_26 : aIns 176 26 = some (.iconst 4, 1, 0, 0, .int (4)) := by decide +kernel
theorem i_176_27 : aIns 176 27 = some (.iload_n 1, 1, 0, 0, .null) := by decide +kernel
theorem i_176_28 : aIns 176 28 = some (.invokevirtual 117, 3, 145, 2, .int 12) := by decide +kernel
theorem i_176_31 : aIns 176 31 = some (.ireturn, 1, 1, 0, .null) := by decide +kernel
theorem i_176_32 : aIns 176 32 = some (.aload_n 0, 1, 0, 0, .null) := by decide +kernel
theorem i_176_33 : aIns 176 33 = some (.ldc2_w 128, 3, 0, 0, .long (499967946343)) := by decide +kernel
theorem i_176_36 : aIns 176 36 = some (.invokevirtual 107, 3, 149, 1, .int 12) := by decide +kernel
theorem i_176_39 : aIns 176 39 = some (.ifCond .eq 9, 3, 0, 0, .null) := by decide +kernel
theorem i_176_42 : aIns 176 42 = some (.aload_n 0, 1, 0, 0, .null) := by decide +kernel
theorem i_176_43 : aIns 176 43 = some (.iload_n 1, 1, 0, 0, .null) := by decide +kernel
theorem i_176_44 : aIns 176 44 = some (.invokevirtual 225, 3, 170, 1, .int 12) := by decide +kernel
theorem i_176_47 : aIns 176 47 = some (.ireturn, 1, 1, 0, .null) := by decide +kernel
theorem i_176_48 : aIns 176 48 = some (.aload_n 0, 1, 0, 0, .null) := by decide +kernel
theorem i_176_49 : aIns 176 49 = some (.ldc2_w 228, 3, 0, 0, .long (2002873972)) := by decide +kernel
theorem i_176_52 : aIns 176 52 = some (.invokevirtual 107, 3, 149, 1, .int 12) := by decide +kernel
theorem i_176_55 : aIns 176 55 = some (.ifCond .eq 9, 3, 0, 0, .null) := by decide +kernel
theorem i_176_58 : aIns 176 58 = some (.aload_n 0, 1, 0, 0, .null) := by decide +kernel
theorem i_176_59 : aIns 176 59 = some (.iload_n 1, 1, 0, 0, .null) := by decide +kernel
theorem i_176_60 : aIns 176 60 = some (.invokevirtual 230, 3, 171, 1, .int 12) := by decide +kernel
theorem i_176_63 : aIns 176 63 = some (.ireturn, 1, 1, 0, .null) := by decide +kernel
theorem i_176_64 : aIns 176 64 = some (.aload_n 0, 1, 0, 0, .null) := by decide +kernel
theorem i_176_65 : aIns 176 65 = some (.ldc2_w 132, 3, 0, 0, .long (1935764581)) := by decide +kernel
theorem i_176_68 : aIns 176 68 = some (.invokevirtual 107, 3, 149, 1, .int 12) := by decide +kernel
theorem i_176_71 : aIns 176 71 = some (.ifCond .eq 9, 3, 0, 0, .null) := by decide +kernel
theorem i_176_74 : aIns 176 74 = some (.aload_n 0, 1, 0, 0, .null) := by decide +kernel
theorem i_176_75 : aIns 176 75 = some (.iload_n 1, 1, 0, 0, .null) := by decide +kernel
theorem i_176_76 : aIns 176 76 = some (.invokevirtual 233, 3, 172, 1, .int 12) := by decide +kernel
theorem i_176_79 : aIns 176 79 = some (.ireturn, 1, 1, 0, .null) := by decide +kernel
theorem i_176_80 : aIns 176 80 = some (.aload_n 0, 1, 0, 0, .null) := by decide +kernel
theorem i_176_81 : aIns 176 81 = some (.ldc2_w 236, 3, 0, 0, .long (31636739359862388)) := by decide +kernel
theorem i_176_84 : aIns 176 84 = some (.invokevirtual 107, 3, 149, 1, .int 12) := by decide +kernel
theorem i_176_87 : aIns 176 87 = some (.ifCond .eq 10, 3, 0, 0, .null) := by decide +kernel
theorem i_176_90 : aIns 176 90 = some (.aload_n 0, 1, 0, 0, .null) := by decide +kernel
theorem i_176_91 : aIns 176 91 = some (.iconst 0, 1, 0, 0, .int (0)) := by decide +kernel
theorem i_176_92 : aIns 176 92 = some (.iload_n 1, 1, 0, 0, .null) := by decide +kernel
theorem i_176_93 : aIns 176 93 = some (.invokevirtual 238, 3, 173, 2, .int 12) := by decide +kernel
theorem i_176_96 : aIns 176 96 = some (.ireturn, 1, 1, 0, .null) := by decide +kernel
theorem i_176_97 : aIns 176 97 = some (.aload_n 0, 1, 0, 0, .null) := by decide +kernel
theorem i_176_98 : aIns 176 98 = some (.ldc2_w 241, 3, 0, 0, .long (7300710)) := by decide +kernel
theorem i_176_101 : aIns 176 101 = some (.invokevirtual 107, 3, 149, 1, .int 12) := by decide +kernel
theorem i_176_104 : aIns 176 104 = some (.ifCond .eq 10, 3, 0, 0, .null) := by decide +kernel
theorem i_176_107 : aIns 176 107 = some (.aload_n 0, 1, 0, 0, .null) := by decide +kernel
theorem i_176_108 : aIns 176 108 = some (.iconst 1, 1, 0, 0, .int (1)) := by decide +kernel
theorem i_176_109 : aIns 176 109 = some (.iload_n 1, 1, 0, 0, .null) := by decide +kernel
theorem i_176_110 : aIns 176 110 = some (.invokevirtual 238, 3, 173, 2, .int 12) := by decide +kernel
theorem i_176_113 : aIns 176 113 = some (.ireturn, 1, 1, 0, .null) := by decide +kernel
theorem i_176_114 : aIns 176 114 = some (.aload_n 0, 1, 0, 0, .null) := by decide +kernel
theorem i_176_115 : aIns 176 115 = some (.ldc2_w 243, 3, 0, 0, .long (1886352244)) := by decide +kernel
theorem i_176_118 : aIns 176 118 = some (.invokevirtual 107, 3, 149, 1, .int 12) := by decide +kernel
theorem i_176_121 : aIns 176 121 = some (.ifCond .eq 10, 3, 0, 0, .null) := by decide +kernel
theorem i_176_124 : aIns 176 124 = some (.aload_n 0, 1, 0, 0, .null) := by decide +kernel
theorem i_176_125 : aIns 176 125 = some (.iconst 2, 1, 0, 0, .int (2)) := by decide +kernel
theorem i_176_126 : aIns 176 126 = some (.iload_n 1, 1, 0, 0, .null) := by decide +kernel
theorem i_176_127 : aIns 176 127 = some (.invokevirtual 238, 3, 173, 2, .int 12) := by decide +kernel
theorem i_176_130 : aIns 176 130 = some (.ireturn, 1, 1, 0, .null) := by decide +kernel
theorem i_176_131 : aIns 176 131 = some (.aload_n 0, 1, 0, 0, .null) := by decide +kernel
theorem i_176_132 : aIns 176 132 = some (.ldc2_w 245, 3, 0, 0, .long (418431069797)) := by decide +kernel
theorem i_176_135 : aIns 176 135 = some (.invokevirtual 107, 3, 149, 1, .int 12) := by decide +kernel
theorem i_176_138 : aIns 176 138 = some (.ifCond .eq 10, 3, 0, 0, .null) := by decide +kernel
theorem i_176_141 : aIns 176 141 = some (.aload_n 0, 1, 0, 0, .null) := by decide +kernel
theorem i_176_142 : aIns 176 142 = some (.invokevirtual 247, 3, 174, 0, .int 12) := by decide +kernel
theorem i_176_145 : aIns 176 145 = some (.goto 8, 3, 0, 0, .null) := by decide +kernel
theorem i_176_148 : aIns 176 148 = some (.aload_n 0, 1, 0, 0, .null) := by decide +kernel
theorem i_176_149 : aIns 176 149 = some (.iload_n 1, 1, 0, 0, .null) := by decide +kernel
theorem i_176_150 : aIns 176 150 = some (.invokevirtual 250, 3, 175, 1, .int 12) := by decide +kernel
theorem i_176_153 : aIns 176 153 = some (.ireturn, 1, 1, 0, .null) := by decide +kernel
def l_163 (g n tag : Nat) (x1 : Int32) (x2 : Int32) (S : rS) : Option (Int32 × rS) := match n with
  | 0 => none
  | n + 1 => if tag = 0 then (if x1 = 0 then ((d_162 g  S).bind (fun z_2 => (if z_2.1 = 0 ∨ z_2.1 = 1 then some (z_2.1, z_2.2) else none))) else ((d_146 g  S).bind (fun z_8 => ((d_149 g (7237492 : Int64) z_8.2).bind (fun z_13 => (if z_13.1 = 0 then (if ¬ z_8.1 = (91 : Int32) then (l_163 g n 1 (0 : Int32) z_8.1 z_13.2) else ((d_156 g (91 : Int32) z_13.2).bind (fun z_20 => (if ¬ z_20.1 = 0 then (l_163 g n 1 (1 : Int32) z_8.1 (rF z_20.2 8 ((z_20.2.1 8) + (1 : Int32)))) else some ((0 : Int32), z_20.2))))) else ((d_156 g (11 : Int32) z_13.2).bind (fun z_28 => (if ¬ z_28.1 = 0 then ((d_150 g  z_28.2).bind (fun z_34 => (l_163 g n 1 (1 : Int32) z_8.1 z_34))) else some ((0 : Int32), z_28.2)))))))))) else if tag = 1 then (l_163 g n 0 x1 0 S) else none
set_option maxHeartbeats 4000000 in
set_option maxRecDepth 100000 in
theorem l_163_ok {X : aX} {g d : Nat} (hdp : 7 ≤ d) : ∀ n, (∀ (x1 : Int32) (x2 : Int32) (S : rS) (h0 : aH) (zz : Int32 × rS), rm h0 S → l_163 g n 0 x1 x2 S = some zz → aWp X d 163 2 [some (.ref 382), some (.int x1), none] [] h0 (fun w h' => w = some (.int zz.1) ∧ rTo h0 zz.2 h')) ∧ (∀ (x1 : Int32) (x2 : Int32) (S : rS) (h0 : aH) (zz : Int32 × rS), rm h0 S → l_163 g n 1 x1 x2 S = some zz → aWp X d 163 72 [some (.ref 382), some (.int x1), some (.int x2)] [] h0 (fun w h' => w = some (.int zz.1) ∧ rTo h0 zz.2 h')) := by
  intro n
  induction n with
  | zero => exact ⟨fun _ _ _ _ _ _ hd => by simp [l_163] at hd, fun _ _ _ _ _ _ hd => by simp [l_163] at hd⟩
  | succ n ih =>
    refine ⟨?_, ?_⟩
    · intro x1 x2 S h0 zz HS hd
      unfold l_163 at hd
      rw [if_pos rfl] at hd
      have HH := rTo.rf HS
      obtain ⟨e, rfl⟩ : ∃ e, d = e + 1 := ⟨d - 1, by omega⟩
      refine wp_s 3 [some (.ref 382), some (.int x1), none] [.int x1] h0 i_163_2 rfl ?_
      refine wp_if_eq 75 6 rfl rfl i_163_3 (fun c_1 => ?_) (fun c_1 => ?_)
      · rw [if_pos c_1] at hd
        refine wp_s 76 [some (.ref 382), some (.int x1), none] [.ref 382] h0 i_163_75 rfl ?_
        obtain ⟨z_2, q_3, hd⟩ := dk_bind hd
        refine wp_callV 79 rfl i_163_76 (by decide) rfl (vs := []) (rest := []) rfl rfl rfl (HH.1 0 (by decide)) (y := m_162) rfl (Nat.le_of_ble_eq_true rfl) (d_162_ok (d := e) (by omega) HH.1 q_3) ?_
        rintro v_6 h_4 ⟨rfl, H_5⟩
        have H_5 := HH.tr H_5
        obtain ⟨b_7, hd⟩ := dk_if hd
        obtain rfl := Option.some.inj hd
        exact wp_iretZ (z := 0) i_163_79 b_7 ⟨rfl, H_5⟩
      · rw [if_neg c_1] at hd
        refine wp_s 7 [some (.ref 382), some (.int x1), none] [.int (0 : Int32)] h0 i_163_6 rfl ?_
        refine wp_s 8 [some (.ref 382), some (.int (0 : Int32)), none] [] h0 i_163_7 rfl ?_
        refine wp_s 9 [some (.ref 382), some (.int (0 : Int32)), none] [.ref 382] h0 i_163_8 rfl ?_
        obtain ⟨z_8, q_9, hd⟩ := dk_bind hd
        refine wp_callV 12 rfl i_163_9 (by decide) rfl (vs := []) (rest := []) rfl rfl rfl (HH.1 0 (by decide)) (y := m_146) rfl (Nat.le_of_ble_eq_true rfl) (d_146_ok (d := e) (by omega) HH.1 q_9) ?_
        rintro v_12 h_10 ⟨rfl, H_11⟩
        have H_11 := HH.tr H_11
        refine wp_s 13 [some (.ref 382), some (.int (0 : Int32)), some (.int z_8.1)] [] h_10 i_163_12 rfl ?_
        refine wp_s 14 [some (.ref 382), some (.int (0 : Int32)), some (.int z_8.1)] [.ref 382] h_10 i_163_13 rfl ?_
        refine wp_s 17 [some (.ref 382), some (.int (0 : Int32)), some (.int z_8.1)] [.long (7237492 : Int64), .ref 382] h_10 i_163_14 rfl ?_
        obtain ⟨z_13, q_14, hd⟩ := dk_bind hd
        refine wp_callV 20 rfl i_163_17 (by decide) rfl (vs := [.long (7237492 : Int64)]) (rest := []) rfl rfl rfl (H_11.1 0 (by decide)) (y := m_149) rfl (Nat.le_of_ble_eq_true rfl) (d_149_ok (d := e) (by omega) H_11.1 q_14) ?_
        rintro v_17 h_15 ⟨rfl, H_16⟩
        have H_16 := H_11.tr H_16
        refine wp_if_eq 43 23 rfl rfl i_163_20 (fun c_18 => ?_) (fun c_18 => ?_)
        · rw [if_pos c_18] at hd
          refine wp_s 44 [some (.ref 382), some (.int (0 : Int32)), some (.int z_8.1)] [.int z_8.1] h_15 i_163_43 rfl ?_
          refine wp_s 46 [some (.ref 382), some (.int (0 : Int32)), some (.int z_8.1)] [.int (91 : Int32), .int z_8.1] h_15 i_163_44 rfl ?_
          refine wp_cmp_ne 72 49 rfl rfl i_163_46 (fun c_19 => ?_) (fun c_19 => ?_)
          · rw [if_pos c_19] at hd
            exact aWp.post (aWp.forget (ih.2 _ _ _ _ _ H_16.1 hd) ((lvS (lvS (lvS lvE))))) (fun _ _ hq => ⟨hq.1, H_16.tr hq.2⟩)
          · rw [if_neg c_19] at hd
            refine wp_s 50 [some (.ref 382), some (.int (0 : Int32)), some (.int z_8.1)] [.ref 382] h_15 i_163_49 rfl ?_
            refine wp_s 52 [some (.ref 382), some (.int (0 : Int32)), some (.int z_8.1)] [.int (91 : Int32), .ref 382] h_15 i_163_50 rfl ?_
            obtain ⟨z_20, q_21, hd⟩ := dk_bind hd
            refine wp_callV 55 rfl i_163_52 (by decide) rfl (vs := [.int (91 : Int32)]) (rest := []) rfl rfl rfl (H_16.1 0 (by decide)) (y := m_156) rfl (Nat.le_of_ble_eq_true rfl) (d_156_ok (d := e) (by omega) H_16.1 q_21) ?_
            rintro v_24 h_22 ⟨rfl, H_23⟩
            have H_23 := H_16.tr H_23
            refine wp_if_ne 60 58 rfl rfl i_163_55 (fun c_25 => ?_) (fun c_25 => ?_)
            · rw [if_pos c_25] at hd
              refine wp_s 61 [some (.ref 382), some (.int (0 : Int32)), some (.int z_8.1)] [.ref 382] h_22 i_163_60 rfl ?_
              refine wp_s 62 [some (.ref 382), some (.int (0 : Int32)), some (.int z_8.1)] [.ref 382, .ref 382] h_22 i_163_61 rfl ?_
              refine wp_get (v := .int (z_20.2.1 8)) 65 rfl i_163_62 (H_23.1 0 (by decide)) rfl ?_
              refine wp_s 66 [some (.ref 382), some (.int (0 : Int32)), some (.int z_8.1)] [.int (1 : Int32), .int (z_20.2.1 8), .ref 382] h_22 i_163_65 rfl ?_
              refine wp_s 67 [some (.ref 382), some (.int (0 : Int32)), some (.int z_8.1)] [.int ((z_20.2.1 8) + (1 : Int32)), .ref 382] h_22 i_163_66 rfl ?_
              refine rq_F8 70 rfl i_163_67 H_23 (fun h_26 H_27 => ?_)
              refine wp_s 71 [some (.ref 382), some (.int (0 : Int32)), some (.int z_8.1)] [.int (1 : Int32)] h_26 i_163_70 rfl ?_
              refine wp_s 72 [some (.ref 382), some (.int (1 : Int32)), some (.int z_8.1)] [] h_26 i_163_71 rfl ?_
              exact aWp.post (aWp.forget (ih.2 _ _ _ _ _ H_27.1 hd) ((lvS (lvS (lvS lvE))))) (fun _ _ hq => ⟨hq.1, H_27.tr hq.2⟩)
            · rw [if_neg c_25] at hd
              refine wp_s 59 [some (.ref 382), some (.int (0 : Int32)), some (.int z_8.1)] [.int (0 : Int32)] h_22 i_163_58 rfl ?_
              obtain rfl := Option.some.inj hd
              exact wp_iretZ (z := 0) i_163_59 (by decide) ⟨rfl, H_23⟩
        · rw [if_neg c_18] at hd
          refine wp_s 24 [some (.ref 382), some (.int (0 : Int32)), some (.int z_8.1)] [.ref 382] h_15 i_163_23 rfl ?_
          refine wp_s 26 [some (.ref 382), some (.int (0 : Int32)), some (.int z_8.1)] [.int (11 : Int32), .ref 382] h_15 i_163_24 rfl ?_
          obtain ⟨z_28, q_29, hd⟩ := dk_bind hd
          refine wp_callV 29 rfl i_163_26 (by decide) rfl (vs := [.int (11 : Int32)]) (rest := []) rfl rfl rfl (H_16.1 0 (by decide)) (y := m_156) rfl (Nat.le_of_ble_eq_true rfl) (d_156_ok (d := e) (by omega) H_16.1 q_29) ?_
          rintro v_32 h_30 ⟨rfl, H_31⟩
          have H_31 := H_16.tr H_31
          refine wp_if_ne 34 32 rfl rfl i_163_29 (fun c_33 => ?_) (fun c_33 => ?_)
          · rw [if_pos c_33] at hd
            refine wp_s 35 [some (.ref 382), some (.int (0 : Int32)), some (.int z_8.1)] [.ref 382] h_30 i_163_34 rfl ?_
            obtain ⟨z_34, q_35, hd⟩ := dk_bind hd
            refine wp_callV 38 rfl i_163_35 (by decide) rfl (vs := []) (rest := []) rfl rfl rfl (H_31.1 0 (by decide)) (y := m_150) rfl (Nat.le_of_ble_eq_true rfl) (d_150_ok (d := e) (by omega) H_31.1 q_35) ?_
            rintro v_38 h_36 ⟨rfl, H_37⟩
            have H_37 := H_31.tr H_37
            refine wp_s 39 [some (.ref 382), some (.int (0 : Int32)), some (.int z_8.1)] [.int (1 : Int32)] h_36 i_163_38 rfl ?_
            refine wp_s 40 [some (.ref 382), some (.int (1 : Int32)), some (.int z_8.1)] [] h_36 i_163_39 rfl ?_
            refine wp_s 72 [some (.ref 382), some (.int (1 : Int32)), some (.int z_8.1)] [] h_36 i_163_40 rfl ?_
            exact aWp.post (aWp.forget (ih.2 _ _ _ _ _ H_37.1 hd) ((lvS (lvS (lvS lvE))))) (fun _ _ hq => ⟨hq.1, H_37.tr hq.2⟩)
          · rw [if_neg c_33] at hd
            refine wp_s 33 [some (.ref 382), some (.int (0 : Int32)), some (.int z_8.1)] [.int (0 : Int32)] h_30 i_163_32 rfl ?_
            obtain rfl := Option.some.inj hd
            exact wp_iretZ (z := 0) i_163_33 (by decide) ⟨rfl, H_31⟩
    · intro x1 x2 S h0 zz HS hd
      unfold l_163 at hd
      rw [if_neg (by decide), if_pos rfl] at hd
      have HH := rTo.rf HS
      obtain ⟨e, rfl⟩ : ∃ e, d = e + 1 := ⟨d - 1, by omega⟩
      refine wp_s 2 [some (.ref 382), some (.int x1), some (.int x2)] [] h0 i_163_72 rfl ?_
      exact aWp.post (aWp.forget (ih.1 _ _ _ _ _ HH.1 hd) ((lvS (lvS (lvN lvE))))) (fun _ _ hq => ⟨hq.1, HH.tr hq.2⟩)
def d_163 (g : Nat)  (S : rS) : Option (Int32 × rS) := (l_163 g g 0 (1 : Int32) 0 S)
set_option maxHeartbeats 4000000 in
set_option maxRecDepth 100000 in
theorem d_163_ok {X : aX} {g d : Nat}  {S : rS} {h0 : aH} {zz : Int32 × rS} (hdp : 7 ≤ d) (HS : rm h0 S) (hd : d_163 g  S = some zz) : aWp X d 163 0 (aEntL [.ref 382] 3) [] h0 (fun w h' => w = some (.int zz.1) ∧ rTo h0 zz.2 h') := by
  unfold d_163 at hd
  have HH := rTo.rf HS
  refine wp_lv (l2 := [some (.ref 382), none, none]) rfl ?_
  obtain ⟨e, rfl⟩ : ∃ e, d = e + 1 := ⟨d - 1, by omega⟩
  refine wp_s 1 [some (.ref 382), none, none] [.int (1 : Int32)] h0 i_163_0 rfl ?_
  refine wp_s 2 [some (.ref 382), some (.int (1 : Int32)), none] [] h0 i_163_1 rfl ?_
  exact aWp.post (aWp.forget ((l_163_ok hdp g).1 _ _ _ _ _ HH.1 hd) ((lvS (lvS (lvN lvE))))) (fun _ _ hq => ⟨hq.1, HH.tr hq.2⟩)
def l_164 (g n tag : Nat) (x1 : Int32) (S : rS) : Option (Int32 × rS) := match n with
  | 0 => none
  | n + 1 => if tag = 0 then (if (S.1 16) ≤ x1 then some ((0 : Int32), S) else (if aIn x1 400 = true then (if ¬ ((S.2.1 15) x1.toNatClampNeg) = (91 : Int32) then (l_164 g n 0 (x1 + (1 : Int32)) S) else some ((1 : Int32), S)) else none)) else none
set_option maxHeartbeats 4000000 in
set_option maxRecDepth 100000 in
theorem l_164_ok {X : aX} {g d : Nat} (hdp : 0 ≤ d) : ∀ n, (∀ (x1 : Int32) (S : rS) (h0 : aH) (zz : Int32 × rS), rm h0 S → l_164 g n 0 x1 S = some zz → aWp X d 164 2 [some (.ref 382), some (.int x1)] [] h0 (fun w h' => w = some (.int zz.1) ∧ rTo h0 zz.2 h')) := by
  intro n
  induction n with
  | zero => exact fun _ _ _ _ _ hd => by simp [l_164] at hd
  | succ n ih =>
    intro x1 S h0 zz HS hd
    unfold l_164 at hd
    rw [if_pos rfl] at hd
    have HH := rTo.rf HS
    refine wp_s 3 [some (.ref 382), some (.int x1)] [.int x1] h0 i_164_2 rfl ?_
    refine wp_s 4 [some (.ref 382), some (.int x1)] [.ref 382, .int x1] h0 i_164_3 rfl ?_
    refine wp_get (v := .int (S.1 16)) 7 rfl i_164_4 (HH.1 0 (by decide)) rfl ?_
    refine wp_cmp_ge 29 10 rfl rfl i_164_7 (fun c_1 => ?_) (fun c_1 => ?_)
    · rw [if_pos c_1] at hd
      refine wp_s 30 [some (.ref 382), some (.int x1)] [.int (0 : Int32)] h0 i_164_29 rfl ?_
      obtain rfl := Option.some.inj hd
      exact wp_iretZ (z := 0) i_164_30 (by decide) ⟨rfl, HH⟩
    · rw [if_neg c_1] at hd
      refine wp_s 11 [some (.ref 382), some (.int x1)] [.ref 382] h0 i_164_10 rfl ?_
      refine wp_get (v := .ref 389) 14 rfl i_164_11 (HH.1 0 (by decide)) rfl ?_
      refine wp_s 15 [some (.ref 382), some (.int x1)] [.int x1, .ref 389] h0 i_164_14 rfl ?_
      obtain ⟨b_2, hd⟩ := dk_if hd
      refine wp_iald (f := (S.2.1 15)) 16 rfl i_164_15 (HH.1 7 (by decide)) b_2 ?_
      refine wp_s 18 [some (.ref 382), some (.int x1)] [.int (91 : Int32), .int ((S.2.1 15) x1.toNatClampNeg)] h0 i_164_16 rfl ?_
      refine wp_cmp_ne 23 21 rfl rfl i_164_18 (fun c_3 => ?_) (fun c_3 => ?_)
      · rw [if_pos c_3] at hd
        refine wp_s 26 [some (.ref 382), some (.int (x1 + (1 : Int32)))] [] h0 i_164_23 rfl ?_
        refine wp_s 2 [some (.ref 382), some (.int (x1 + (1 : Int32)))] [] h0 i_164_26 rfl ?_
        exact aWp.post (aWp.forget (ih _ _ _ _ HH.1 hd) ((lvS (lvS lvE)))) (fun _ _ hq => ⟨hq.1, HH.tr hq.2⟩)
      · rw [if_neg c_3] at hd
        refine wp_s 22 [some (.ref 382), some (.int x1)] [.int (1 : Int32)] h0 i_164_21 rfl ?_
        obtain rfl := Option.some.inj hd
        exact wp_iretZ (z := 0) i_164_22 (by decide) ⟨rfl, HH⟩
def d_164 (g : Nat)  (S : rS) : Option (Int32 × rS) := (l_164 g g 0 (0 : Int32) S)
set_option maxHeartbeats 4000000 in
set_option maxRecDepth 100000 in
theorem d_164_ok {X : aX} {g d : Nat}  {S : rS} {h0 : aH} {zz : Int32 × rS} (hdp : 0 ≤ d) (HS : rm h0 S) (hd : d_164 g  S = some zz) : aWp X d 164 0 (aEntL [.ref 382] 2) [] h0 (fun w h' => w = some (.int zz.1) ∧ rTo h0 zz.2 h') := by
  unfold d_164 at hd
  have HH := rTo.rf HS
  refine wp_lv (l2 := [some (.ref 382), none]) rfl ?_
  refine wp_s 1 [some (.ref 382), none] [.int (0 : Int32)] h0 i_164_0 rfl ?_
  refine wp_s 2 [some (.ref 382), some (.int (0 : Int32))] [] h0 i_164_1 rfl ?_
  exact aWp.post (aWp.forget ((l_164_ok hdp g) _ _ _ _ HH.1 hd) ((lvS (lvS lvE)))) (fun _ _ hq => ⟨hq.1, HH.tr hq.2⟩)
def l_165 (g n tag : Nat)  (S : rS) : Option (rS) := match n with
  | 0 => none
  | n + 1 => if tag = 0 then ((d_146 g  S).bind (fun z_1 => (if ¬ z_1.1 = (93 : Int32) then some z_1.2 else ((d_164 g  z_1.2).bind (fun z_7 => (if z_7.1 = 0 then some z_7.2 else ((d_158 g (1 : Int32) z_7.2).bind (fun z_13 => ((d_158 g (3 : Int32) (rF (rF (rF z_13 16 ((z_13.1 16) - (1 : Int32))) 13 ((z_13.1 13) - (1 : Int32))) 8 ((z_13.1 8) + (1 : Int32)))).bind (fun z_24 => (l_165 g n 0  z_24))))))))))) else none
set_option maxHeartbeats 4000000 in
set_option maxRecDepth 100000 in
theorem l_165_ok {X : aX} {g d : Nat} (hdp : 2 ≤ d) : ∀ n, (∀  (S : rS) (h0 : aH) (zz : rS), rm h0 S → l_165 g n 0  S = some zz → aWp X d 165 5 [some (.ref 382)] [] h0 (fun w h' => w = none ∧ rTo h0 zz h')) := by
  intro n
  induction n with
  | zero => exact fun _ _ _ _ hd => by simp [l_165] at hd
  | succ n ih =>
    intro  S h0 zz HS hd
    unfold l_165 at hd
    rw [if_pos rfl] at hd
    have HH := rTo.rf HS
    obtain ⟨e, rfl⟩ : ∃ e, d = e + 1 := ⟨d - 1, by omega⟩
    refine wp_s 6 [some (.ref 382)] [.ref 382] h0 i_165_5 rfl ?_
    obtain ⟨z_1, q_2, hd⟩ := dk_bind hd
    refine wp_callV 9 rfl i_165_6 (by decide) rfl (vs := []) (rest := []) rfl rfl rfl (HH.1 0 (by decide)) (y := m_146) rfl (Nat.le_of_ble_eq_true rfl) (d_146_ok (d := e) (by omega) HH.1 q_2) ?_
    rintro v_5 h_3 ⟨rfl, H_4⟩
    have H_4 := HH.tr H_4
    refine wp_s 11 [some (.ref 382)] [.int (93 : Int32), .int z_1.1] h_3 i_165_9 rfl ?_
    refine wp_cmp_ne 64 14 rfl rfl i_165_11 (fun c_6 => ?_) (fun c_6 => ?_)
    · rw [if_pos c_6] at hd
      obtain rfl := Option.some.inj hd
      exact wp_ret i_165_64 rfl ⟨rfl, H_4⟩
    · rw [if_neg c_6] at hd
      refine wp_s 15 [some (.ref 382)] [.ref 382] h_3 i_165_14 rfl ?_
      obtain ⟨z_7, q_8, hd⟩ := dk_bind hd
      refine wp_callV 18 rfl i_165_15 (by decide) rfl (vs := []) (rest := []) rfl rfl rfl (H_4.1 0 (by decide)) (y := m_164) rfl (Nat.le_of_ble_eq_true rfl) (d_164_ok (d := e) (by omega) H_4.1 q_8) ?_
      rintro v_11 h_9 ⟨rfl, H_10⟩
      have H_10 := H_4.tr H_10
      refine wp_if_eq 64 21 rfl rfl i_165_18 (fun c_12 => ?_) (fun c_12 => ?_)
      · rw [if_pos c_12] at hd
        obtain rfl := Option.some.inj hd
        exact wp_ret i_165_64 rfl ⟨rfl, H_10⟩
      · rw [if_neg c_12] at hd
        refine wp_s 22 [some (.ref 382)] [.ref 382] h_9 i_165_21 rfl ?_
        refine wp_s 23 [some (.ref 382)] [.int (1 : Int32), .ref 382] h_9 i_165_22 rfl ?_
        obtain ⟨z_13, q_14, hd⟩ := dk_bind hd
        refine wp_callV 26 rfl i_165_23 (by decide) rfl (vs := [.int (1 : Int32)]) (rest := []) rfl rfl rfl (H_10.1 0 (by decide)) (y := m_158) rfl (Nat.le_of_ble_eq_true rfl) (d_158_ok (d := e) (by omega) H_10.1 q_14) ?_
        rintro v_17 h_15 ⟨rfl, H_16⟩
        have H_16 := H_10.tr H_16
        refine wp_s 27 [some (.ref 382)] [.ref 382] h_15 i_165_26 rfl ?_
        refine wp_s 28 [some (.ref 382)] [.ref 382, .ref 382] h_15 i_165_27 rfl ?_
        refine wp_get (v := .int (z_13.1 16)) 31 rfl i_165_28 (H_16.1 0 (by decide)) rfl ?_
        refine wp_s 32 [some (.ref 382)] [.int (1 : Int32), .int (z_13.1 16), .ref 382] h_15 i_165_31 rfl ?_
        refine wp_s 33 [some (.ref 382)] [.int ((z_13.1 16) - (1 : Int32)), .ref 382] h_15 i_165_32 rfl ?_
        refine rq_F16 36 rfl i_165_33 H_16 (fun h_18 H_19 => ?_)
        refine wp_s 37 [some (.ref 382)] [.ref 382] h_18 i_165_36 rfl ?_
        refine wp_s 38 [some (.ref 382)] [.ref 382, .ref 382] h_18 i_165_37 rfl ?_
        refine wp_get (v := .int (z_13.1 13)) 41 rfl i_165_38 (H_19.1 0 (by decide)) rfl ?_
        refine wp_s 42 [some (.ref 382)] [.int (1 : Int32), .int (z_13.1 13), .ref 382] h_18 i_165_41 rfl ?_
        refine wp_s 43 [some (.ref 382)] [.int ((z_13.1 13) - (1 : Int32)), .ref 382] h_18 i_165_42 rfl ?_
        refine rq_F13 46 rfl i_165_43 H_19 (fun h_20 H_21 => ?_)
        refine wp_s 47 [some (.ref 382)] [.ref 382] h_20 i_165_46 rfl ?_
        refine wp_s 48 [some (.ref 382)] [.ref 382, .ref 382] h_20 i_165_47 rfl ?_
        refine wp_get (v := .int (z_13.1 8)) 51 rfl i_165_48 (H_21.1 0 (by decide)) rfl ?_
        refine wp_s 52 [some (.ref 382)] [.int (1 : Int32), .int (z_13.1 8), .ref 382] h_20 i_165_51 rfl ?_
        refine wp_s 53 [some (.ref 382)] [.int ((z_13.1 8) + (1 : Int32)), .ref 382] h_20 i_165_52 rfl ?_
        refine rq_F8 56 rfl i_165_53 H_21 (fun h_22 H_23 => ?_)
        refine wp_s 57 [some (.ref 382)] [.ref 382] h_22 i_165_56 rfl ?_
        refine wp_s 58 [some (.ref 382)] [.int (3 : Int32), .ref 382] h_22 i_165_57 rfl ?_
        obtain ⟨z_24, q_25, hd⟩ := dk_bind hd
        refine wp_callV 61 rfl i_165_58 (by decide) rfl (vs := [.int (3 : Int32)]) (rest := []) rfl rfl rfl (H_23.1 0 (by decide)) (y := m_158) rfl (Nat.le_of_ble_eq_true rfl) (d_158_ok (d := e) (by omega) H_23.1 q_25) ?_
        rintro v_28 h_26 ⟨rfl, H_27⟩
        have H_27 := H_23.tr H_27
        refine wp_s 5 [some (.ref 382)] [] h_26 i_165_61 rfl ?_
        exact aWp.post (aWp.forget (ih _ _ _ H_27.1 hd) ((lvS lvE))) (fun _ _ hq => ⟨hq.1, H_27.tr hq.2⟩)
def d_165 (g : Nat)  (S : rS) : Option (rS) := ((d_158 g (3 : Int32) S).bind (fun z_1001 => (l_165 g g 0  z_1001)))
set_option maxHeartbeats 4000000 in
set_option maxRecDepth 100000 in
theorem d_165_ok {X : aX} {g d : Nat}  {S : rS} {h0 : aH} {zz : rS} (hdp : 2 ≤ d) (HS : rm h0 S) (hd : d_165 g  S = some zz) : aWp X d 165 0 (aEntL [.ref 382] 1) [] h0 (fun w h' => w = none ∧ rTo h0 zz h') := by
  unfold d_165 at hd
  have HH := rTo.rf HS
  refine wp_lv (l2 := [some (.ref 382)]) rfl ?_
  obtain ⟨e, rfl⟩ : ∃ e, d = e + 1 := ⟨d - 1, by omega⟩
  refine wp_s 1 [some (.ref 382)] [.ref 382] h0 i_165_0 rfl ?_
  refine wp_s 2 [some (.ref 382)] [.int (3 : Int32), .ref 382] h0 i_165_1 rfl ?_
  obtain ⟨z_1001, q_1002, hd⟩ := dk_bind hd
  refine wp_callV 5 rfl i_165_2 (by decide) rfl (vs := [.int (3 : Int32)]) (rest := []) rfl rfl rfl (HH.1 0 (by decide)) (y := m_158) rfl (Nat.le_of_ble_eq_true rfl) (d_158_ok (d := e) (by omega) HH.1 q_1002) ?_
  rintro v_1005 h_1003 ⟨rfl, H_1004⟩
  have H_1004 := HH.tr H_1004
  exact aWp.post (aWp.forget ((l_165_ok hdp g) _ _ _ H_1004.1 hd) ((lvS lvE))) (fun _ _ hq => ⟨hq.1, H_1004.tr hq.2⟩)
def l_166 (g n tag : Nat) (x1 : Int32) (s0 : Int32) (S : rS) : Option (Int32 × rS) := match n with
  | 0 => none
  | n + 1 => if tag = 0 then (if x1 = 0 then ((d_164 g  S).bind (fun z_2 => (if z_2.1 = 0 then ((d_158 g (1 : Int32) z_2.2).bind (fun z_8 => some ((1 : Int32), z_8))) else ((d_146 g  z_2.2).bind (fun z_13 => ((d_145 g (0 : Int32) (z_13.2.1 8) z_13.2).bind (fun z_18 => (if z_18.1 = 0 ∨ z_18.1 = 1 then some (z_18.1, z_18.2) else none)))))))) else ((d_163 g  S).bind (fun z_24 => (if ¬ z_24.1 = 0 then ((d_165 g  z_24.2).bind (fun z_30 => ((d_149 g (6385252 : Int64) z_30).bind (fun z_35 => (if ¬ z_35.1 = 0 then (l_166 g n 1 x1 0 z_35.2) else ((d_149 g (28530 : Int64) z_35.2).bind (fun z_41 => (if z_41.1 = 0 then (l_166 g n 2 x1 (0 : Int32) z_41.2) else (l_166 g n 1 x1 0 z_41.2))))))))) else some ((0 : Int32), z_24.2))))) else if tag = 1 then (l_166 g n 2 x1 (1 : Int32) S) else if tag = 2 then (if s0 = 0 then (l_166 g n 0 s0 0 S) else ((d_149 g (6385252 : Int64) S).bind (fun z_48 => (if z_48.1 = 0 then (l_166 g n 3 s0 (13 : Int32) z_48.2) else (l_166 g n 3 s0 (12 : Int32) z_48.2))))) else if tag = 3 then ((d_150 g  S).bind (fun z_54 => ((d_157 g s0 z_54).bind (fun z_59 => ((d_158 g z_59.1 z_59.2).bind (fun z_64 => (if aIn (z_64.1 16) 400 = true then (l_166 g n 0 x1 0 (rF (rA z_64 15 (upd (z_64.2.1 15) (z_64.1 16).toNatClampNeg s0)) 16 ((z_64.1 16) + (1 : Int32)))) else none))))))) else none
set_option maxHeartbeats 4000000 in
set_option maxRecDepth 100000 in
theorem l_166_ok {X : aX} {g d : Nat} (hdp : 8 ≤ d) : ∀ n, (∀ (x1 : Int32) (s0 : Int32) (S : rS) (h0 : aH) (zz : Int32 × rS), rm h0 S → l_166 g n 0 x1 s0 S = some zz → aWp X d 166 12 [some (.ref 382), some (.int x1), none] [] h0 (fun w h' => w = some (.int zz.1) ∧ rTo h0 zz.2 h')) ∧ (∀ (x1 : Int32) (s0 : Int32) (S : rS) (h0 : aH) (zz : Int32 × rS), rm h0 S → l_166 g n 1 x1 s0 S = some zz → aWp X d 166 49 [some (.ref 382), some (.int x1), none] [] h0 (fun w h' => w = some (.int zz.1) ∧ rTo h0 zz.2 h')) ∧ (∀ (x1 : Int32) (s0 : Int32) (S : rS) (h0 : aH) (zz : Int32 × rS), rm h0 S → l_166 g n 2 x1 s0 S = some zz → aWp X d 166 54 [some (.ref 382), some (.int x1), none] [.int s0] h0 (fun w h' => w = some (.int zz.1) ∧ rTo h0 zz.2 h')) ∧ (∀ (x1 : Int32) (s0 : Int32) (S : rS) (h0 : aH) (zz : Int32 × rS), rm h0 S → l_166 g n 3 x1 s0 S = some zz → aWp X d 166 76 [some (.ref 382), some (.int x1), none] [.int s0] h0 (fun w h' => w = some (.int zz.1) ∧ rTo h0 zz.2 h')) := by
  intro n
  induction n with
  | zero => exact ⟨fun _ _ _ _ _ _ hd => by simp [l_166] at hd, fun _ _ _ _ _ _ hd => by simp [l_166] at hd, fun _ _ _ _ _ _ hd => by simp [l_166] at hd, fun _ _ _ _ _ _ hd => by simp [l_166] at hd⟩
  | succ n ih =>
    refine ⟨?_, ?_, ?_, ?_⟩
    · intro x1 s0 S h0 zz HS hd
      unfold l_166 at hd
      rw [if_pos rfl] at hd
      have HH := rTo.rf HS
      obtain ⟨e, rfl⟩ : ∃ e, d = e + 1 := ⟨d - 1, by omega⟩
      refine wp_s 13 [some (.ref 382), some (.int x1), none] [.int x1] h0 i_166_12 rfl ?_
      refine wp_if_eq 112 16 rfl rfl i_166_13 (fun c_1 => ?_) (fun c_1 => ?_)
      · rw [if_pos c_1] at hd
        refine wp_s 113 [some (.ref 382), some (.int x1), none] [.ref 382] h0 i_166_112 rfl ?_
        obtain ⟨z_2, q_3, hd⟩ := dk_bind hd
        refine wp_callV 116 rfl i_166_113 (by decide) rfl (vs := []) (rest := []) rfl rfl rfl (HH.1 0 (by decide)) (y := m_164) rfl (Nat.le_of_ble_eq_true rfl) (d_164_ok (d := e) (by omega) HH.1 q_3) ?_
        rintro v_6 h_4 ⟨rfl, H_5⟩
        have H_5 := HH.tr H_5
        refine wp_if_eq 134 119 rfl rfl i_166_116 (fun c_7 => ?_) (fun c_7 => ?_)
        · rw [if_pos c_7] at hd
          refine wp_s 135 [some (.ref 382), some (.int x1), none] [.ref 382] h_4 i_166_134 rfl ?_
          refine wp_s 136 [some (.ref 382), some (.int x1), none] [.int (1 : Int32), .ref 382] h_4 i_166_135 rfl ?_
          obtain ⟨z_8, q_9, hd⟩ := dk_bind hd
          refine wp_callV 139 rfl i_166_136 (by decide) rfl (vs := [.int (1 : Int32)]) (rest := []) rfl rfl rfl (H_5.1 0 (by decide)) (y := m_158) rfl (Nat.le_of_ble_eq_true rfl) (d_158_ok (d := e) (by omega) H_5.1 q_9) ?_
          rintro v_12 h_10 ⟨rfl, H_11⟩
          have H_11 := H_5.tr H_11
          refine wp_s 140 [some (.ref 382), some (.int x1), none] [.int (1 : Int32)] h_10 i_166_139 rfl ?_
          obtain rfl := Option.some.inj hd
          exact wp_iretZ (z := 0) i_166_140 (by decide) ⟨rfl, H_11⟩
        · rw [if_neg c_7] at hd
          refine wp_s 120 [some (.ref 382), some (.int x1), none] [.ref 382] h_4 i_166_119 rfl ?_
          obtain ⟨z_13, q_14, hd⟩ := dk_bind hd
          refine wp_callV 123 rfl i_166_120 (by decide) rfl (vs := []) (rest := []) rfl rfl rfl (H_5.1 0 (by decide)) (y := m_146) rfl (Nat.le_of_ble_eq_true rfl) (d_146_ok (d := e) (by omega) H_5.1 q_14) ?_
          rintro v_17 h_15 ⟨rfl, H_16⟩
          have H_16 := H_5.tr H_16
          refine wp_s 124 [some (.ref 382), some (.int x1), none] [] h_15 i_166_123 rfl ?_
          refine wp_s 125 [some (.ref 382), some (.int x1), none] [.ref 382] h_15 i_166_124 rfl ?_
          refine wp_s 126 [some (.ref 382), some (.int x1), none] [.int (0 : Int32), .ref 382] h_15 i_166_125 rfl ?_
          refine wp_s 127 [some (.ref 382), some (.int x1), none] [.ref 382, .int (0 : Int32), .ref 382] h_15 i_166_126 rfl ?_
          refine wp_get (v := .int (z_13.2.1 8)) 130 rfl i_166_127 (H_16.1 0 (by decide)) rfl ?_
          obtain ⟨z_18, q_19, hd⟩ := dk_bind hd
          refine wp_callV 133 rfl i_166_130 (by decide) rfl (vs := [.int (0 : Int32), .int (z_13.2.1 8)]) (rest := []) rfl rfl rfl (H_16.1 0 (by decide)) (y := m_145) rfl (Nat.le_of_ble_eq_true rfl) (d_145_ok (d := e) (by omega) H_16.1 q_19) ?_
          rintro v_22 h_20 ⟨rfl, H_21⟩
          have H_21 := H_16.tr H_21
          obtain ⟨b_23, hd⟩ := dk_if hd
          obtain rfl := Option.some.inj hd
          exact wp_iretZ (z := 0) i_166_133 b_23 ⟨rfl, H_21⟩
      · rw [if_neg c_1] at hd
        refine wp_s 17 [some (.ref 382), some (.int x1), none] [.ref 382] h0 i_166_16 rfl ?_
        obtain ⟨z_24, q_25, hd⟩ := dk_bind hd
        refine wp_callV 20 rfl i_166_17 (by decide) rfl (vs := []) (rest := []) rfl rfl rfl (HH.1 0 (by decide)) (y := m_163) rfl (Nat.le_of_ble_eq_true rfl) (d_163_ok (d := e) (by omega) HH.1 q_25) ?_
        rintro v_28 h_26 ⟨rfl, H_27⟩
        have H_27 := HH.tr H_27
        refine wp_if_ne 25 23 rfl rfl i_166_20 (fun c_29 => ?_) (fun c_29 => ?_)
        · rw [if_pos c_29] at hd
          refine wp_s 26 [some (.ref 382), some (.int x1), none] [.ref 382] h_26 i_166_25 rfl ?_
          obtain ⟨z_30, q_31, hd⟩ := dk_bind hd
          refine wp_callV 29 rfl i_166_26 (by decide) rfl (vs := []) (rest := []) rfl rfl rfl (H_27.1 0 (by decide)) (y := m_165) rfl (Nat.le_of_ble_eq_true rfl) (d_165_ok (d := e) (by omega) H_27.1 q_31) ?_
          rintro v_34 h_32 ⟨rfl, H_33⟩
          have H_33 := H_27.tr H_33
          refine wp_s 30 [some (.ref 382), some (.int x1), none] [.ref 382] h_32 i_166_29 rfl ?_
          refine wp_s 33 [some (.ref 382), some (.int x1), none] [.long (6385252 : Int64), .ref 382] h_32 i_166_30 rfl ?_
          obtain ⟨z_35, q_36, hd⟩ := dk_bind hd
          refine wp_callV 36 rfl i_166_33 (by decide) rfl (vs := [.long (6385252 : Int64)]) (rest := []) rfl rfl rfl (H_33.1 0 (by decide)) (y := m_149) rfl (Nat.le_of_ble_eq_true rfl) (d_149_ok (d := e) (by omega) H_33.1 q_36) ?_
          rintro v_39 h_37 ⟨rfl, H_38⟩
          have H_38 := H_33.tr H_38
          refine wp_if_ne 49 39 rfl rfl i_166_36 (fun c_40 => ?_) (fun c_40 => ?_)
          · rw [if_pos c_40] at hd
            exact aWp.post (aWp.forget (ih.2.1 _ _ _ _ _ H_38.1 hd) ((lvS (lvS (lvN lvE))))) (fun _ _ hq => ⟨hq.1, H_38.tr hq.2⟩)
          · rw [if_neg c_40] at hd
            refine wp_s 40 [some (.ref 382), some (.int x1), none] [.ref 382] h_37 i_166_39 rfl ?_
            refine wp_s 43 [some (.ref 382), some (.int x1), none] [.long (28530 : Int64), .ref 382] h_37 i_166_40 rfl ?_
            obtain ⟨z_41, q_42, hd⟩ := dk_bind hd
            refine wp_callV 46 rfl i_166_43 (by decide) rfl (vs := [.long (28530 : Int64)]) (rest := []) rfl rfl rfl (H_38.1 0 (by decide)) (y := m_149) rfl (Nat.le_of_ble_eq_true rfl) (d_149_ok (d := e) (by omega) H_38.1 q_42) ?_
            rintro v_45 h_43 ⟨rfl, H_44⟩
            have H_44 := H_38.tr H_44
            refine wp_if_eq 53 49 rfl rfl i_166_46 (fun c_46 => ?_) (fun c_46 => ?_)
            · rw [if_pos c_46] at hd
              refine wp_s 54 [some (.ref 382), some (.int x1), none] [.int (0 : Int32)] h_43 i_166_53 rfl ?_
              exact aWp.post (aWp.forget (ih.2.2.1 _ _ _ _ _ H_44.1 hd) ((lvS (lvS (lvN lvE))))) (fun _ _ hq => ⟨hq.1, H_44.tr hq.2⟩)
            · rw [if_neg c_46] at hd
              exact aWp.post (aWp.forget (ih.2.1 _ _ _ _ _ H_44.1 hd) ((lvS (lvS (lvN lvE))))) (fun _ _ hq => ⟨hq.1, H_44.tr hq.2⟩)
        · rw [if_neg c_29] at hd
          refine wp_s 24 [some (.ref 382), some (.int x1), none] [.int (0 : Int32)] h_26 i_166_23 rfl ?_
          obtain rfl := Option.some.inj hd
          exact wp_iretZ (z := 0) i_166_24 (by decide) ⟨rfl, H_27⟩
    · intro x1 s0 S h0 zz HS hd
      unfold l_166 at hd
      rw [if_neg (by decide), if_pos rfl] at hd
      have HH := rTo.rf HS
      obtain ⟨e, rfl⟩ : ∃ e, d = e + 1 := ⟨d - 1, by omega⟩
      refine wp_s 50 [some (.ref 382), some (.int x1), none] [.int (1 : Int32)] h0 i_166_49 rfl ?_
      refine wp_s 54 [some (.ref 382), some (.int x1), none] [.int (1 : Int32)] h0 i_166_50 rfl ?_
      exact aWp.post (aWp.forget (ih.2.2.1 _ _ _ _ _ HH.1 hd) ((lvS (lvS (lvN lvE))))) (fun _ _ hq => ⟨hq.1, HH.tr hq.2⟩)
    · intro x1 s0 S h0 zz HS hd
      unfold l_166 at hd
      rw [if_neg (by decide), if_neg (by decide), if_pos rfl] at hd
      have HH := rTo.rf HS
      obtain ⟨e, rfl⟩ : ∃ e, d = e + 1 := ⟨d - 1, by omega⟩
      refine wp_s 55 [some (.ref 382), some (.int s0), none] [] h0 i_166_54 rfl ?_
      refine wp_s 56 [some (.ref 382), some (.int s0), none] [.int s0] h0 i_166_55 rfl ?_
      refine wp_if_eq 12 59 rfl rfl i_166_56 (fun c_47 => ?_) (fun c_47 => ?_)
      · rw [if_pos c_47] at hd
        exact aWp.post (aWp.forget (ih.1 _ _ _ _ _ HH.1 hd) ((lvS (lvS (lvN lvE))))) (fun _ _ hq => ⟨hq.1, HH.tr hq.2⟩)
      · rw [if_neg c_47] at hd
        refine wp_s 60 [some (.ref 382), some (.int s0), none] [.ref 382] h0 i_166_59 rfl ?_
        refine wp_s 63 [some (.ref 382), some (.int s0), none] [.long (6385252 : Int64), .ref 382] h0 i_166_60 rfl ?_
        obtain ⟨z_48, q_49, hd⟩ := dk_bind hd
        refine wp_callV 66 rfl i_166_63 (by decide) rfl (vs := [.long (6385252 : Int64)]) (rest := []) rfl rfl rfl (HH.1 0 (by decide)) (y := m_149) rfl (Nat.le_of_ble_eq_true rfl) (d_149_ok (d := e) (by omega) HH.1 q_49) ?_
        rintro v_52 h_50 ⟨rfl, H_51⟩
        have H_51 := HH.tr H_51
        refine wp_if_eq 74 69 rfl rfl i_166_66 (fun c_53 => ?_) (fun c_53 => ?_)
        · rw [if_pos c_53] at hd
          refine wp_s 76 [some (.ref 382), some (.int s0), none] [.int (13 : Int32)] h_50 i_166_74 rfl ?_
          exact aWp.post (aWp.forget (ih.2.2.2 _ _ _ _ _ H_51.1 hd) ((lvS (lvS (lvN lvE))))) (fun _ _ hq => ⟨hq.1, H_51.tr hq.2⟩)
        · rw [if_neg c_53] at hd
          refine wp_s 71 [some (.ref 382), some (.int s0), none] [.int (12 : Int32)] h_50 i_166_69 rfl ?_
          refine wp_s 76 [some (.ref 382), some (.int s0), none] [.int (12 : Int32)] h_50 i_166_71 rfl ?_
          exact aWp.post (aWp.forget (ih.2.2.2 _ _ _ _ _ H_51.1 hd) ((lvS (lvS (lvN lvE))))) (fun _ _ hq => ⟨hq.1, H_51.tr hq.2⟩)
    · intro x1 s0 S h0 zz HS hd
      unfold l_166 at hd
      rw [if_neg (by decide), if_neg (by decide), if_neg (by decide), if_pos rfl] at hd
      have HH := rTo.rf HS
      obtain ⟨e, rfl⟩ : ∃ e, d = e + 1 := ⟨d - 1, by omega⟩
      refine wp_s 77 [some (.ref 382), some (.int x1), some (.int s0)] [] h0 i_166_76 rfl ?_
      refine wp_s 78 [some (.ref 382), some (.int x1), some (.int s0)] [.ref 382] h0 i_166_77 rfl ?_
      obtain ⟨z_54, q_55, hd⟩ := dk_bind hd
      refine wp_callV 81 rfl i_166_78 (by decide) rfl (vs := []) (rest := []) rfl rfl rfl (HH.1 0 (by decide)) (y := m_150) rfl (Nat.le_of_ble_eq_true rfl) (d_150_ok (d := e) (by omega) HH.1 q_55) ?_
      rintro v_58 h_56 ⟨rfl, H_57⟩
      have H_57 := HH.tr H_57
      refine wp_s 82 [some (.ref 382), some (.int x1), some (.int s0)] [.ref 382] h_56 i_166_81 rfl ?_
      refine wp_s 83 [some (.ref 382), some (.int x1), some (.int s0)] [.int s0, .ref 382] h_56 i_166_82 rfl ?_
      obtain ⟨z_59, q_60, hd⟩ := dk_bind hd
      refine wp_callS 86 rfl i_166_83 (by decide) (vs := [.int s0]) (rest := [.ref 382]) rfl rfl rfl (y := m_157) rfl (Nat.le_of_ble_eq_true rfl) (d_157_ok (d := e) (by omega) H_57.1 q_60) ?_
      rintro v_63 h_61 ⟨rfl, H_62⟩
      have H_62 := H_57.tr H_62
      obtain ⟨z_64, q_65, hd⟩ := dk_bind hd
      refine wp_callV 89 rfl i_166_86 (by decide) rfl (vs := [.int z_59.1]) (rest := []) rfl rfl rfl (H_62.1 0 (by decide)) (y := m_158) rfl (Nat.le_of_ble_eq_true rfl) (d_158_ok (d := e) (by omega) H_62.1 q_65) ?_
      rintro v_68 h_66 ⟨rfl, H_67⟩
      have H_67 := H_62.tr H_67
      refine wp_s 90 [some (.ref 382), some (.int x1), some (.int s0)] [.ref 382] h_66 i_166_89 rfl ?_
      refine wp_get (v := .ref 389) 93 rfl i_166_90 (H_67.1 0 (by decide)) rfl ?_
      refine wp_s 94 [some (.ref 382), some (.int x1), some (.int s0)] [.ref 382, .ref 389] h_66 i_166_93 rfl ?_
      refine wp_get (v := .int (z_64.1 16)) 97 rfl i_166_94 (H_67.1 0 (by decide)) rfl ?_
      refine wp_s 98 [some (.ref 382), some (.int x1), some (.int s0)] [.int s0, .int (z_64.1 16), .ref 389] h_66 i_166_97 rfl ?_
      obtain ⟨b_69, hd⟩ := dk_if hd
      refine rq_A15 99 rfl i_166_98 H_67 b_69 (fun h_70 H_71 => ?_)
      refine wp_s 100 [some (.ref 382), some (.int x1), some (.int s0)] [.ref 382] h_70 i_166_99 rfl ?_
      refine wp_s 101 [some (.ref 382), some (.int x1), some (.int s0)] [.ref 382, .ref 382] h_70 i_166_100 rfl ?_
      refine wp_get (v := .int (z_64.1 16)) 104 rfl i_166_101 (H_71.1 0 (by decide)) rfl ?_
      refine wp_s 105 [some (.ref 382), some (.int x1), some (.int s0)] [.int (1 : Int32), .int (z_64.1 16), .ref 382] h_70 i_166_104 rfl ?_
      refine wp_s 106 [some (.ref 382), some (.int x1), some (.int s0)] [.int ((z_64.1 16) + (1 : Int32)), .ref 382] h_70 i_166_105 rfl ?_
      refine rq_F16 109 rfl i_166_106 H_71 (fun h_72 H_73 => ?_)
      refine wp_s 12 [some (.ref 382), some (.int x1), some (.int s0)] [] h_72 i_166_109 rfl ?_
      exact aWp.post (aWp.forget (ih.1 _ _ _ _ _ H_73.1 hd) ((lvS (lvS (lvN lvE))))) (fun _ _ hq => ⟨hq.1, H_73.tr hq.2⟩)
def d_166 (g : Nat)  (S : rS) : Option (Int32 × rS) := (l_166 g g 0 (1 : Int32) 0 (rF (rF S 16 (0 : Int32)) 13 (0 : Int32)))
set_option maxHeartbeats 4000000 in
set_option maxRecDepth 100000 in
theorem d_166_ok {X : aX} {g d : Nat}  {S : rS} {h0 : aH} {zz : Int32 × rS} (hdp : 8 ≤ d) (HS : rm h0 S) (hd : d_166 g  S = some zz) : aWp X d 166 0 (aEntL [.ref 382] 3) [] h0 (fun w h' => w = some (.int zz.1) ∧ rTo h0 zz.2 h') := by
  unfold d_166 at hd
  have HH := rTo.rf HS
  refine wp_lv (l2 := [some (.ref 382), none, none]) rfl ?_
  obtain ⟨e, rfl⟩ : ∃ e, d = e + 1 := ⟨d - 1, by omega⟩
  refine wp_s 1 [some (.ref 382), none, none] [.ref 382] h0 i_166_0 rfl ?_
  refine wp_s 2 [some (.ref 382), none, none] [.int (0 : Int32), .ref 382] h0 i_166_1 rfl ?_
  refine rq_F16 5 rfl i_166_2 HH (fun h_1001 H_1002 => ?_)
  refine wp_s 6 [some (.ref 382), none, none] [.ref 382] h_1001 i_166_5 rfl ?_
  refine wp_s 7 [some (.ref 382), none, none] [.int (0 : Int32), .ref 382] h_1001 i_166_6 rfl ?_
  refine rq_F13 10 rfl i_166_7 H_1002 (fun h_1003 H_1004 => ?_)
  refine wp_s 11 [some (.ref 382), none, none] [.int (1 : Int32)] h_1003 i_166_10 rfl ?_
  refine wp_s 12 [some (.ref 382), some (.int (1 : Int32)), none] [] h_1003 i_166_11 rfl ?_
  exact aWp.post (aWp.forget ((l_166_ok hdp g).1 _ _ _ _ _ H_1004.1 hd) ((lvS (lvS (lvN lvE))))) (fun _ _ hq => ⟨hq.1, H_1004.tr hq.2⟩)
def j_167_110 (g : Nat) (x1 : Int32) (S : rS) : Option (Int32 × rS) := (if aIn (S.1 11) 7 = true then (if aIn (x1 + (3 : Int32)) 288 = true then (if aIn (S.1 11) 6 = true then (if aIn (S.1 11) 6 = true then some ((1 : Int32), (rA (rA S 5 (upd (S.2.1 5) (x1 + (3 : Int32)).toNatClampNeg ((S.2.1 4) (S.1 11).toNatClampNeg))) 6 (upd (S.2.1 6) (S.1 11).toNatClampNeg (((S.2.1 6) (S.1 11).toNatClampNeg) + (1 : Int32))))) else none) else none) else none) else none)
set_option maxHeartbeats 4000000 in
set_option maxRecDepth 100000 in
theorem j_167_110_ok {X : aX} {g d : Nat} {x1 : Int32} {S : rS} {h0 : aH} {zz : Int32 × rS} (hdp : 9 ≤ d) (HS : rm h0 S) (hd : j_167_110 g x1 S = some zz) : aWp X d 167 110 [some (.ref 382), some (.int x1)] [] h0 (fun w h' => w = some (.int zz.1) ∧ rTo h0 zz.2 h') := by
  unfold j_167_110 at hd
  have HH := rTo.rf HS
  obtain ⟨e, rfl⟩ : ∃ e, d = e + 1 := ⟨d - 1, by omega⟩
  refine wp_s 111 [some (.ref 382), some (.int x1)] [.ref 382] h0 i_167_110 rfl ?_
  refine wp_get (v := .ref 386) 114 rfl i_167_111 (HH.1 0 (by decide)) rfl ?_
  refine wp_s 115 [some (.ref 382), some (.int x1)] [.int x1, .ref 386] h0 i_167_114 rfl ?_
  refine wp_s 116 [some (.ref 382), some (.int x1)] [.int (3 : Int32), .int x1, .ref 386] h0 i_167_115 rfl ?_
  refine wp_s 117 [some (.ref 382), some (.int x1)] [.int (x1 + (3 : Int32)), .ref 386] h0 i_167_116 rfl ?_
  refine wp_s 118 [some (.ref 382), some (.int x1)] [.ref 382, .int (x1 + (3 : Int32)), .ref 386] h0 i_167_117 rfl ?_
  refine wp_get (v := .ref 385) 121 rfl i_167_118 (HH.1 0 (by decide)) rfl ?_
  refine wp_s 122 [some (.ref 382), some (.int x1)] [.ref 382, .ref 385, .int (x1 + (3 : Int32)), .ref 386] h0 i_167_121 rfl ?_
  refine wp_get (v := .int (S.1 11)) 125 rfl i_167_122 (HH.1 0 (by decide)) rfl ?_
  obtain ⟨b_1, hd⟩ := dk_if hd
  refine wp_iald (f := (S.2.1 4)) 126 rfl i_167_125 (HH.1 3 (by decide)) b_1 ?_
  obtain ⟨b_2, hd⟩ := dk_if hd
  refine rq_A5 127 rfl i_167_126 HH b_2 (fun h_3 H_4 => ?_)
  refine wp_s 128 [some (.ref 382), some (.int x1)] [.ref 382] h_3 i_167_127 rfl ?_
  refine wp_get (v := .ref 387) 131 rfl i_167_128 (H_4.1 0 (by decide)) rfl ?_
  refine wp_s 132 [some (.ref 382), some (.int x1)] [.ref 382, .ref 387] h_3 i_167_131 rfl ?_
  refine wp_get (v := .int (S.1 11)) 135 rfl i_167_132 (H_4.1 0 (by decide)) rfl ?_
  refine wp_s 136 [some (.ref 382), some (.int x1)] [.int (S.1 11), .ref 387, .int (S.1 11), .ref 387] h_3 i_167_135 rfl ?_
  obtain ⟨b_5, hd⟩ := dk_if hd
  refine wp_iald (f := (S.2.1 6)) 137 rfl i_167_136 (H_4.1 5 (by decide)) b_5 ?_
  refine wp_s 138 [some (.ref 382), some (.int x1)] [.int (1 : Int32), .int ((S.2.1 6) (S.1 11).toNatClampNeg), .int (S.1 11), .ref 387] h_3 i_167_137 rfl ?_
  refine wp_s 139 [some (.ref 382), some (.int x1)] [.int (((S.2.1 6) (S.1 11).toNatClampNeg) + (1 : Int32)), .int (S.1 11), .ref 387] h_3 i_167_138 rfl ?_
  obtain ⟨b_6, hd⟩ := dk_if hd
  refine rq_A6 140 rfl i_167_139 H_4 b_6 (fun h_7 H_8 => ?_)
  refine wp_s 141 [some (.ref 382), some (.int x1)] [.int (1 : Int32)] h_7 i_167_140 rfl ?_
  obtain rfl := Option.some.inj hd
  exact wp_iretZ (z := 0) i_167_141 (by decide) ⟨rfl, H_8⟩
def d_167 (g : Nat)  (S : rS) : Option (Int32 × rS) := ((d_150 g  S).bind (fun z_1 => (if aIn (z_1.1 11) 6 = true then (if aIn (z_1.1 11) 7 = true then (if aIn (((48 : Int32) * (z_1.1 11)) + ((4 : Int32) * ((z_1.2.1 6) (z_1.1 11).toNatClampNeg))) 288 = true then ((d_161 g  (rA z_1 5 (upd (z_1.2.1 5) (((48 : Int32) * (z_1.1 11)) + ((4 : Int32) * ((z_1.2.1 6) (z_1.1 11).toNatClampNeg))).toNatClampNeg ((z_1.2.1 4) (z_1.1 11).toNatClampNeg)))).bind (fun z_11 => (if ¬ z_11.1 = 0 then (if aIn (z_11.2.1 11) 7 = true then (if aIn ((((48 : Int32) * (z_1.1 11)) + ((4 : Int32) * ((z_1.2.1 6) (z_1.1 11).toNatClampNeg))) + (1 : Int32)) 288 = true then (if aIn ((((48 : Int32) * (z_1.1 11)) + ((4 : Int32) * ((z_1.2.1 6) (z_1.1 11).toNatClampNeg))) + (2 : Int32)) 288 = true then ((d_151 g (26982 : Int64) (rA (rA z_11.2 5 (upd (z_11.2.2.1 5) ((((48 : Int32) * (z_1.1 11)) + ((4 : Int32) * ((z_1.2.1 6) (z_1.1 11).toNatClampNeg))) + (1 : Int32)).toNatClampNeg ((z_11.2.2.1 4) (z_11.2.1 11).toNatClampNeg))) 5 (upd (upd (z_11.2.2.1 5) ((((48 : Int32) * (z_1.1 11)) + ((4 : Int32) * ((z_1.2.1 6) (z_1.1 11).toNatClampNeg))) + (1 : Int32)).toNatClampNeg ((z_11.2.2.1 4) (z_11.2.1 11).toNatClampNeg)) ((((48 : Int32) * (z_1.1 11)) + ((4 : Int32) * ((z_1.2.1 6) (z_1.1 11).toNatClampNeg))) + (2 : Int32)).toNatClampNeg (-1 : Int32)))).bind (fun z_24 => (if z_24.1 = 0 then (j_167_110 g (((48 : Int32) * (z_1.1 11)) + ((4 : Int32) * ((z_1.2.1 6) (z_1.1 11).toNatClampNeg))) z_24.2) else (if aIn (z_24.2.1 11) 7 = true then (if aIn ((((48 : Int32) * (z_1.1 11)) + ((4 : Int32) * ((z_1.2.1 6) (z_1.1 11).toNatClampNeg))) + (2 : Int32)) 288 = true then ((d_166 g  (rA z_24.2 5 (upd (z_24.2.2.1 5) ((((48 : Int32) * (z_1.1 11)) + ((4 : Int32) * ((z_1.2.1 6) (z_1.1 11).toNatClampNeg))) + (2 : Int32)).toNatClampNeg ((z_24.2.2.1 4) (z_24.2.1 11).toNatClampNeg)))).bind (fun z_34 => (if ¬ z_34.1 = 0 then (j_167_110 g (((48 : Int32) * (z_1.1 11)) + ((4 : Int32) * ((z_1.2.1 6) (z_1.1 11).toNatClampNeg))) z_34.2) else some ((0 : Int32), z_34.2)))) else none) else none)))) else none) else none) else none) else some ((0 : Int32), z_11.2)))) else none) else none) else none)))
set_option maxHeartbeats 4000000 in
set_option maxRecDepth 100000 in
theorem d_167_ok {X : aX} {g d : Nat}  {S : rS} {h0 : aH} {zz : Int32 × rS} (hdp : 9 ≤ d) (HS : rm h0 S) (hd : d_167 g  S = some zz) : aWp X d 167 0 (aEntL [.ref 382] 2) [] h0 (fun w h' => w = some (.int zz.1) ∧ rTo h0 zz.2 h') := by
  unfold d_167 at hd
  have HH := rTo.rf HS
  refine wp_lv (l2 := [some (.ref 382), none]) rfl ?_
  obtain ⟨e, rfl⟩ : ∃ e, d = e + 1 := ⟨d - 1, by omega⟩
  refine wp_s 1 [some (.ref 382), none] [.ref 382] h0 i_167_0 rfl ?_
  obtain ⟨z_1, q_2, hd⟩ := dk_bind hd
  refine wp_callV 4 rfl i_167_1 (by decide) rfl (vs := []) (rest := []) rfl rfl rfl (HH.1 0 (by decide)) (y := m_150) rfl (Nat.le_of_ble_eq_true rfl) (d_150_ok (d := e) (by omega) HH.1 q_2) ?_
  rintro v_5 h_3 ⟨rfl, H_4⟩
  have H_4 := HH.tr H_4
  refine wp_s 6 [some (.ref 382), none] [.int (48 : Int32)] h_3 i_167_4 rfl ?_
  refine wp_s 7 [some (.ref 382), none] [.ref 382, .int (48 : Int32)] h_3 i_167_6 rfl ?_
  refine wp_get (v := .int (z_1.1 11)) 10 rfl i_167_7 (H_4.1 0 (by decide)) rfl ?_
  refine wp_s 11 [some (.ref 382), none] [.int ((48 : Int32) * (z_1.1 11))] h_3 i_167_10 rfl ?_
  refine wp_s 12 [some (.ref 382), none] [.int (4 : Int32), .int ((48 : Int32) * (z_1.1 11))] h_3 i_167_11 rfl ?_
  refine wp_s 13 [some (.ref 382), none] [.ref 382, .int (4 : Int32), .int ((48 : Int32) * (z_1.1 11))] h_3 i_167_12 rfl ?_
  refine wp_get (v := .ref 387) 16 rfl i_167_13 (H_4.1 0 (by decide)) rfl ?_
  refine wp_s 17 [some (.ref 382), none] [.ref 382, .ref 387, .int (4 : Int32), .int ((48 : Int32) * (z_1.1 11))] h_3 i_167_16 rfl ?_
  refine wp_get (v := .int (z_1.1 11)) 20 rfl i_167_17 (H_4.1 0 (by decide)) rfl ?_
  obtain ⟨b_6, hd⟩ := dk_if hd
  refine wp_iald (f := (z_1.2.1 6)) 21 rfl i_167_20 (H_4.1 5 (by decide)) b_6 ?_
  refine wp_s 22 [some (.ref 382), none] [.int ((4 : Int32) * ((z_1.2.1 6) (z_1.1 11).toNatClampNeg)), .int ((48 : Int32) * (z_1.1 11))] h_3 i_167_21 rfl ?_
  refine wp_s 23 [some (.ref 382), none] [.int (((48 : Int32) * (z_1.1 11)) + ((4 : Int32) * ((z_1.2.1 6) (z_1.1 11).toNatClampNeg)))] h_3 i_167_22 rfl ?_
  refine wp_s 24 [some (.ref 382), some (.int (((48 : Int32) * (z_1.1 11)) + ((4 : Int32) * ((z_1.2.1 6) (z_1.1 11).toNatClampNeg))))] [] h_3 i_167_23 rfl ?_
  refine wp_s 25 [some (.ref 382), some (.int (((48 : Int32) * (z_1.1 11)) + ((4 : Int32) * ((z_1.2.1 6) (z_1.1 11).toNatClampNeg))))] [.ref 382] h_3 i_167_24 rfl ?_
  refine wp_get (v := .ref 386) 28 rfl i_167_25 (H_4.1 0 (by decide)) rfl ?_
  refine wp_s 29 [some (.ref 382), some (.int (((48 : Int32) * (z_1.1 11)) + ((4 : Int32) * ((z_1.2.1 6) (z_1.1 11).toNatClampNeg))))] [.int (((48 : Int32) * (z_1.1 11)) + ((4 : Int32) * ((z_1.2.1 6) (z_1.1 11).toNatClampNeg))), .ref 386] h_3 i_167_28 rfl ?_
  refine wp_s 30 [some (.ref 382), some (.int (((48 : Int32) * (z_1.1 11)) + ((4 : Int32) * ((z_1.2.1 6) (z_1.1 11).toNatClampNeg))))] [.ref 382, .int (((48 : Int32) * (z_1.1 11)) + ((4 : Int32) * ((z_1.2.1 6) (z_1.1 11).toNatClampNeg))), .ref 386] h_3 i_167_29 rfl ?_
  refine wp_get (v := .ref 385) 33 rfl i_167_30 (H_4.1 0 (by decide)) rfl ?_
  refine wp_s 34 [some (.ref 382), some (.int (((48 : Int32) * (z_1.1 11)) + ((4 : Int32) * ((z_1.2.1 6) (z_1.1 11).toNatClampNeg))))] [.ref 382, .ref 385, .int (((48 : Int32) * (z_1.1 11)) + ((4 : Int32) * ((z_1.2.1 6) (z_1.1 11).toNatClampNeg))), .ref 386] h_3 i_167_33 rfl ?_
  refine wp_get (v := .int (z_1.1 11)) 37 rfl i_167_34 (H_4.1 0 (by decide)) rfl ?_
  obtain ⟨b_7, hd⟩ := dk_if hd
  refine wp_iald (f := (z_1.2.1 4)) 38 rfl i_167_37 (H_4.1 3 (by decide)) b_7 ?_
  obtain ⟨b_8, hd⟩ := dk_if hd
  refine rq_A5 39 rfl i_167_38 H_4 b_8 (fun h_9 H_10 => ?_)
  refine wp_s 40 [some (.ref 382), some (.int (((48 : Int32) * (z_1.1 11)) + ((4 : Int32) * ((z_1.2.1 6) (z_1.1 11).toNatClampNeg))))] [.ref 382] h_9 i_167_39 rfl ?_
  obtain ⟨z_11, q_12, hd⟩ := dk_bind hd
  refine wp_callV 43 rfl i_167_40 (by decide) rfl (vs := []) (rest := []) rfl rfl rfl (H_10.1 0 (by decide)) (y := m_161) rfl (Nat.le_of_ble_eq_true rfl) (d_161_ok (d := e) (by omega) H_10.1 q_12) ?_
  rintro v_15 h_13 ⟨rfl, H_14⟩
  have H_14 := H_10.tr H_14
  refine wp_if_ne 48 46 rfl rfl i_167_43 (fun c_16 => ?_) (fun c_16 => ?_)
  · rw [if_pos c_16] at hd
    refine wp_s 49 [some (.ref 382), some (.int (((48 : Int32) * (z_1.1 11)) + ((4 : Int32) * ((z_1.2.1 6) (z_1.1 11).toNatClampNeg))))] [.ref 382] h_13 i_167_48 rfl ?_
    refine wp_get (v := .ref 386) 52 rfl i_167_49 (H_14.1 0 (by decide)) rfl ?_
    refine wp_s 53 [some (.ref 382), some (.int (((48 : Int32) * (z_1.1 11)) + ((4 : Int32) * ((z_1.2.1 6) (z_1.1 11).toNatClampNeg))))] [.int (((48 : Int32) * (z_1.1 11)) + ((4 : Int32) * ((z_1.2.1 6) (z_1.1 11).toNatClampNeg))), .ref 386] h_13 i_167_52 rfl ?_
    refine wp_s 54 [some (.ref 382), some (.int (((48 : Int32) * (z_1.1 11)) + ((4 : Int32) * ((z_1.2.1 6) (z_1.1 11).toNatClampNeg))))] [.int (1 : Int32), .int (((48 : Int32) * (z_1.1 11)) + ((4 : Int32) * ((z_1.2.1 6) (z_1.1 11).toNatClampNeg))), .ref 386] h_13 i_167_53 rfl ?_
    refine wp_s 55 [some (.ref 382), some (.int (((48 : Int32) * (z_1.1 11)) + ((4 : Int32) * ((z_1.2.1 6) (z_1.1 11).toNatClampNeg))))] [.int ((((48 : Int32) * (z_1.1 11)) + ((4 : Int32) * ((z_1.2.1 6) (z_1.1 11).toNatClampNeg))) + (1 : Int32)), .ref 386] h_13 i_167_54 rfl ?_
    refine wp_s 56 [some (.ref 382), some (.int (((48 : Int32) * (z_1.1 11)) + ((4 : Int32) * ((z_1.2.1 6) (z_1.1 11).toNatClampNeg))))] [.ref 382, .int ((((48 : Int32) * (z_1.1 11)) + ((4 : Int32) * ((z_1.2.1 6) (z_1.1 11).toNatClampNeg))) + (1 : Int32)), .ref 386] h_13 i_167_55 rfl ?_
    refine wp_get (v := .ref 385) 59 rfl i_167_56 (H_14.1 0 (by decide)) rfl ?_
    refine wp_s 60 [some (.ref 382), some (.int (((48 : Int32) * (z_1.1 11)) + ((4 : Int32) * ((z_1.2.1 6) (z_1.1 11).toNatClampNeg))))] [.ref 382, .ref 385, .int ((((48 : Int32) * (z_1.1 11)) + ((4 : Int32) * ((z_1.2.1 6) (z_1.1 11).toNatClampNeg))) + (1 : Int32)), .ref 386] h_13 i_167_59 rfl ?_
    refine wp_get (v := .int (z_11.2.1 11)) 63 rfl i_167_60 (H_14.1 0 (by decide)) rfl ?_
    obtain ⟨b_17, hd⟩ := dk_if hd
    refine wp_iald (f := (z_11.2.2.1 4)) 64 rfl i_167_63 (H_14.1 3 (by decide)) b_17 ?_
    obtain ⟨b_18, hd⟩ := dk_if hd
    refine rq_A5 65 rfl i_167_64 H_14 b_18 (fun h_19 H_20 => ?_)
    refine wp_s 66 [some (.ref 382), some (.int (((48 : Int32) * (z_1.1 11)) + ((4 : Int32) * ((z_1.2.1 6) (z_1.1 11).toNatClampNeg))))] [.ref 382] h_19 i_167_65 rfl ?_
    refine wp_get (v := .ref 386) 69 rfl i_167_66 (H_20.1 0 (by decide)) rfl ?_
    refine wp_s 70 [some (.ref 382), some (.int (((48 : Int32) * (z_1.1 11)) + ((4 : Int32) * ((z_1.2.1 6) (z_1.1 11).toNatClampNeg))))] [.int (((48 : Int32) * (z_1.1 11)) + ((4 : Int32) * ((z_1.2.1 6) (z_1.1 11).toNatClampNeg))), .ref 386] h_19 i_167_69 rfl ?_
    refine wp_s 71 [some (.ref 382), some (.int (((48 : Int32) * (z_1.1 11)) + ((4 : Int32) * ((z_1.2.1 6) (z_1.1 11).toNatClampNeg))))] [.int (2 : Int32), .int (((48 : Int32) * (z_1.1 11)) + ((4 : Int32) * ((z_1.2.1 6) (z_1.1 11).toNatClampNeg))), .ref 386] h_19 i_167_70 rfl ?_
    refine wp_s 72 [some (.ref 382), some (.int (((48 : Int32) * (z_1.1 11)) + ((4 : Int32) * ((z_1.2.1 6) (z_1.1 11).toNatClampNeg))))] [.int ((((48 : Int32) * (z_1.1 11)) + ((4 : Int32) * ((z_1.2.1 6) (z_1.1 11).toNatClampNeg))) + (2 : Int32)), .ref 386] h_19 i_167_71 rfl ?_
    refine wp_s 73 [some (.ref 382), some (.int (((48 : Int32) * (z_1.1 11)) + ((4 : Int32) * ((z_1.2.1 6) (z_1.1 11).toNatClampNeg))))] [.int (-1 : Int32), .int ((((48 : Int32) * (z_1.1 11)) + ((4 : Int32) * ((z_1.2.1 6) (z_1.1 11).toNatClampNeg))) + (2 : Int32)), .ref 386] h_19 i_167_72 rfl ?_
    obtain ⟨b_21, hd⟩ := dk_if hd
    refine rq_A5 74 rfl i_167_73 H_20 b_21 (fun h_22 H_23 => ?_)
    refine wp_s 75 [some (.ref 382), some (.int (((48 : Int32) * (z_1.1 11)) + ((4 : Int32) * ((z_1.2.1 6) (z_1.1 11).toNatClampNeg))))] [.ref 382] h_22 i_167_74 rfl ?_
    refine wp_s 78 [some (.ref 382), some (.int (((48 : Int32) * (z_1.1 11)) + ((4 : Int32) * ((z_1.2.1 6) (z_1.1 11).toNatClampNeg))))] [.long (26982 : Int64), .ref 382] h_22 i_167_75 rfl ?_
    obtain ⟨z_24, q_25, hd⟩ := dk_bind hd
    refine wp_callV 81 rfl i_167_78 (by decide) rfl (vs := [.long (26982 : Int64)]) (rest := []) rfl rfl rfl (H_23.1 0 (by decide)) (y := m_151) rfl (Nat.le_of_ble_eq_true rfl) (d_151_ok (d := e) (by omega) H_23.1 q_25) ?_
    rintro v_28 h_26 ⟨rfl, H_27⟩
    have H_27 := H_23.tr H_27
    refine wp_if_eq 110 84 rfl rfl i_167_81 (fun c_29 => ?_) (fun c_29 => ?_)
    · rw [if_pos c_29] at hd
      exact aWp.post (aWp.forget (j_167_110_ok hdp H_27.1 hd) ((lvS (lvS lvE)))) (fun _ _ hq => ⟨hq.1, H_27.tr hq.2⟩)
    · rw [if_neg c_29] at hd
      refine wp_s 85 [some (.ref 382), some (.int (((48 : Int32) * (z_1.1 11)) + ((4 : Int32) * ((z_1.2.1 6) (z_1.1 11).toNatClampNeg))))] [.ref 382] h_26 i_167_84 rfl ?_
      refine wp_get (v := .ref 386) 88 rfl i_167_85 (H_27.1 0 (by decide)) rfl ?_
      refine wp_s 89 [some (.ref 382), some (.int (((48 : Int32) * (z_1.1 11)) + ((4 : Int32) * ((z_1.2.1 6) (z_1.1 11).toNatClampNeg))))] [.int (((48 : Int32) * (z_1.1 11)) + ((4 : Int32) * ((z_1.2.1 6) (z_1.1 11).toNatClampNeg))), .ref 386] h_26 i_167_88 rfl ?_
      refine wp_s 90 [some (.ref 382), some (.int (((48 : Int32) * (z_1.1 11)) + ((4 : Int32) * ((z_1.2.1 6) (z_1.1 11).toNatClampNeg))))] [.int (2 : Int32), .int (((48 : Int32) * (z_1.1 11)) + ((4 : Int32) * ((z_1.2.1 6) (z_1.1 11).toNatClampNeg))), .ref 386] h_26 i_167_89 rfl ?_
      refine wp_s 91 [some (.ref 382), some (.int (((48 : Int32) * (z_1.1 11)) + ((4 : Int32) * ((z_1.2.1 6) (z_1.1 11).toNatClampNeg))))] [.int ((((48 : Int32) * (z_1.1 11)) + ((4 : Int32) * ((z_1.2.1 6) (z_1.1 11).toNatClampNeg))) + (2 : Int32)), .ref 386] h_26 i_167_90 rfl ?_
      refine wp_s 92 [some (.ref 382), some (.int (((48 : Int32) * (z_1.1 11)) + ((4 : Int32) * ((z_1.2.1 6) (z_1.1 11).toNatClampNeg))))] [.ref 382, .int ((((48 : Int32) * (z_1.1 11)) + ((4 : Int32) * ((z_1.2.1 6) (z_1.1 11).toNatClampNeg))) + (2 : Int32)), .ref 386] h_26 i_167_91 rfl ?_
      refine wp_get (v := .ref 385) 95 rfl i_167_92 (H_27.1 0 (by decide)) rfl ?_
      refine wp_s 96 [some (.ref 382), some (.int (((48 : Int32) * (z_1.1 11)) + ((4 : Int32) * ((z_1.2.1 6) (z_1.1 11).toNatClampNeg))))] [.ref 382, .ref 385, .int ((((48 : Int32) * (z_1.1 11)) + ((4 : Int32) * ((z_1.2.1 6) (z_1.1 11).toNatClampNeg))) + (2 : Int32)), .ref 386] h_26 i_167_95 rfl ?_
      refine wp_get (v := .int (z_24.2.1 11)) 99 rfl i_167_96 (H_27.1 0 (by decide)) rfl ?_
      obtain ⟨b_30, hd⟩ := dk_if hd
      refine wp_iald (f := (z_24.2.2.1 4)) 100 rfl i_167_99 (H_27.1 3 (by decide)) b_30 ?_
      obtain ⟨b_31, hd⟩ := dk_if hd
      refine rq_A5 101 rfl i_167_100 H_27 b_31 (fun h_32 H_33 => ?_)
      refine wp_s 102 [some (.ref 382), some (.int (((48 : Int32) * (z_1.1 11)) + ((4 : Int32) * ((z_1.2.1 6) (z_1.1 11).toNatClampNeg))))] [.ref 382] h_32 i_167_101 rfl ?_
      obtain ⟨z_34, q_35, hd⟩ := dk_bind hd
      refine wp_callV 105 rfl i_167_102 (by decide) rfl (vs := []) (rest := []) rfl rfl rfl (H_33.1 0 (by decide)) (y := m_166) rfl (Nat.le_of_ble_eq_true rfl) (d_166_ok (d := e) (by omega) H_33.1 q_35) ?_
      rintro v_38 h_36 ⟨rfl, H_37⟩
      have H_37 := H_33.tr H_37
      refine wp_if_ne 110 108 rfl rfl i_167_105 (fun c_39 => ?_) (fun c_39 => ?_)
      · rw [if_pos c_39] at hd
        exact aWp.post (aWp.forget (j_167_110_ok hdp H_37.1 hd) ((lvS (lvS lvE)))) (fun _ _ hq => ⟨hq.1, H_37.tr hq.2⟩)
      · rw [if_neg c_39] at hd
        refine wp_s 109 [some (.ref 382), some (.int (((48 : Int32) * (z_1.1 11)) + ((4 : Int32) * ((z_1.2.1 6) (z_1.1 11).toNatClampNeg))))] [.int (0 : Int32)] h_36 i_167_108 rfl ?_
        obtain rfl := Option.some.inj hd
        exact wp_iretZ (z := 0) i_167_109 (by decide) ⟨rfl, H_37⟩
  · rw [if_neg c_16] at hd
    refine wp_s 47 [some (.ref 382), some (.int (((48 : Int32) * (z_1.1 11)) + ((4 : Int32) * ((z_1.2.1 6) (z_1.1 11).toNatClampNeg))))] [.int (0 : Int32)] h_13 i_167_46 rfl ?_
    obtain rfl := Option.some.inj hd
    exact wp_iretZ (z := 0) i_167_47 (by decide) ⟨rfl, H_14⟩
def d_168 (g : Nat) (x1 : Int32) (x2 : Int32) (x3 : Int32) (S : rS) : Option (Int32 × rS) := ((d_152 g x2 x3 S).bind (fun z_1 => (if ¬ z_1.1 = 0 then (if aIn x1 140 = true then some ((1 : Int32), (rA z_1.2 7 (upd (z_1.2.2.1 7) x1.toNatClampNeg (z_1.2.1 10)))) else none) else some ((0 : Int32), z_1.2))))
set_option maxHeartbeats 4000000 in
set_option maxRecDepth 100000 in
theorem d_168_ok {X : aX} {g d : Nat} {x1 : Int32} {x2 : Int32} {x3 : Int32} {S : rS} {h0 : aH} {zz : Int32 × rS} (hdp : 2 ≤ d) (HS : rm h0 S) (hd : d_168 g x1 x2 x3 S = some zz) : aWp X d 168 0 (aEntL [.ref 382, .int x1, .int x2, .int x3] 4) [] h0 (fun w h' => w = some (.int zz.1) ∧ rTo h0 zz.2 h') := by
  unfold d_168 at hd
  have HH := rTo.rf HS
  refine wp_lv (l2 := [some (.ref 382), some (.int x1), some (.int x2), some (.int x3)]) rfl ?_
  obtain ⟨e, rfl⟩ : ∃ e, d = e + 1 := ⟨d - 1, by omega⟩
  refine wp_s 1 [some (.ref 382), some (.int x1), some (.int x2), some (.int x3)] [.ref 382] h0 i_168_0 rfl ?_
  refine wp_s 2 [some (.ref 382), some (.int x1), some (.int x2), some (.int x3)] [.int x2, .ref 382] h0 i_168_1 rfl ?_
  refine wp_s 3 [some (.ref 382), some (.int x1), some (.int x2), some (.int x3)] [.int x3, .int x2, .ref 382] h0 i_168_2 rfl ?_
  obtain ⟨z_1, q_2, hd⟩ := dk_bind hd
  refine wp_callV 6 rfl i_168_3 (by decide) rfl (vs := [.int x2, .int x3]) (rest := []) rfl rfl rfl (HH.1 0 (by decide)) (y := m_152) rfl (Nat.le_of_ble_eq_true rfl) (d_152_ok (d := e) (by omega) HH.1 q_2) ?_
  rintro v_5 h_3 ⟨rfl, H_4⟩
  have H_4 := HH.tr H_4
  refine wp_if_ne 11 9 rfl rfl i_168_6 (fun c_6 => ?_) (fun c_6 => ?_)
  · rw [if_pos c_6] at hd
    refine wp_s 12 [some (.ref 382), some (.int x1), some (.int x2), some (.int x3)] [.ref 382] h_3 i_168_11 rfl ?_
    refine wp_get (v := .ref 388) 15 rfl i_168_12 (H_4.1 0 (by decide)) rfl ?_
    refine wp_s 16 [some (.ref 382), some (.int x1), some (.int x2), some (.int x3)] [.int x1, .ref 388] h_3 i_168_15 rfl ?_
    refine wp_s 17 [some (.ref 382), some (.int x1), some (.int x2), some (.int x3)] [.ref 382, .int x1, .ref 388] h_3 i_168_16 rfl ?_
    refine wp_get (v := .int (z_1.2.1 10)) 20 rfl i_168_17 (H_4.1 0 (by decide)) rfl ?_
    obtain ⟨b_7, hd⟩ := dk_if hd
    refine rq_A7 21 rfl i_168_20 H_4 b_7 (fun h_8 H_9 => ?_)
    refine wp_s 22 [some (.ref 382), some (.int x1), some (.int x2), some (.int x3)] [.int (1 : Int32)] h_8 i_168_21 rfl ?_
    obtain rfl := Option.some.inj hd
    exact wp_iretZ (z := 0) i_168_22 (by decide) ⟨rfl, H_9⟩
  · rw [if_neg c_6] at hd
    refine wp_s 10 [some (.ref 382), some (.int x1), some (.int x2), some (.int x3)] [.int (0 : Int32)] h_3 i_168_9 rfl ?_
    obtain rfl := Option.some.inj hd
    exact wp_iretZ (z := 0) i_168_10 (by decide) ⟨rfl, H_4⟩
def d_169 (g : Nat) (x1 : Int32) (S : rS) : Option (Int32 × rS) := (if aIn (0 : Int32) 140 = true then (if ((S.2.1 7) (0 : Int32).toNatClampNeg) ≤ 0 then ((d_150 g  S).bind (fun z_3 => ((d_168 g (4 : Int32) (0 : Int32) (999 : Int32) z_3).bind (fun z_8 => (if z_8.1 = 0 then some ((0 : Int32), z_8.2) else ((d_168 g (5 : Int32) (0 : Int32) (9999 : Int32) z_8.2).bind (fun z_14 => (if ¬ z_14.1 = 0 then (if aIn (0 : Int32) 140 = true then some ((1 : Int32), (rA z_14.2 7 (upd (z_14.2.2.1 7) (0 : Int32).toNatClampNeg (1 : Int32)))) else none) else some ((0 : Int32), z_14.2))))))))) else ((d_145 g (4 : Int32) x1 S).bind (fun z_23 => (if z_23.1 = 0 ∨ z_23.1 = 1 then some (z_23.1, z_23.2) else none)))) else none)
set_option maxHeartbeats 4000000 in
set_option maxRecDepth 100000 in
theorem d_169_ok {X : aX} {g d : Nat} {x1 : Int32} {S : rS} {h0 : aH} {zz : Int32 × rS} (hdp : 3 ≤ d) (HS : rm h0 S) (hd : d_169 g x1 S = some zz) : aWp X d 169 0 (aEntL [.ref 382, .int x1] 2) [] h0 (fun w h' => w = some (.int zz.1) ∧ rTo h0 zz.2 h') := by
  unfold d_169 at hd
  have HH := rTo.rf HS
  refine wp_lv (l2 := [some (.ref 382), some (.int x1)]) rfl ?_
  obtain ⟨e, rfl⟩ : ∃ e, d = e + 1 := ⟨d - 1, by omega⟩
  refine wp_s 1 [some (.ref 382), some (.int x1)] [.ref 382] h0 i_169_0 rfl ?_
  refine wp_get (v := .ref 388) 4 rfl i_169_1 (HH.1 0 (by decide)) rfl ?_
  refine wp_s 5 [some (.ref 382), some (.int x1)] [.int (0 : Int32), .ref 388] h0 i_169_4 rfl ?_
  obtain ⟨b_1, hd⟩ := dk_if hd
  refine wp_iald (f := (S.2.1 7)) 6 rfl i_169_5 (HH.1 6 (by decide)) b_1 ?_
  refine wp_if_le 16 9 rfl rfl i_169_6 (fun c_2 => ?_) (fun c_2 => ?_)
  · rw [if_pos c_2] at hd
    refine wp_s 17 [some (.ref 382), some (.int x1)] [.ref 382] h0 i_169_16 rfl ?_
    obtain ⟨z_3, q_4, hd⟩ := dk_bind hd
    refine wp_callV 20 rfl i_169_17 (by decide) rfl (vs := []) (rest := []) rfl rfl rfl (HH.1 0 (by decide)) (y := m_150) rfl (Nat.le_of_ble_eq_true rfl) (d_150_ok (d := e) (by omega) HH.1 q_4) ?_
    rintro v_7 h_5 ⟨rfl, H_6⟩
    have H_6 := HH.tr H_6
    refine wp_s 21 [some (.ref 382), some (.int x1)] [.ref 382] h_5 i_169_20 rfl ?_
    refine wp_s 22 [some (.ref 382), some (.int x1)] [.int (4 : Int32), .ref 382] h_5 i_169_21 rfl ?_
    refine wp_s 23 [some (.ref 382), some (.int x1)] [.int (0 : Int32), .int (4 : Int32), .ref 382] h_5 i_169_22 rfl ?_
    refine wp_s 26 [some (.ref 382), some (.int x1)] [.int (999 : Int32), .int (0 : Int32), .int (4 : Int32), .ref 382] h_5 i_169_23 rfl ?_
    obtain ⟨z_8, q_9, hd⟩ := dk_bind hd
    refine wp_callV 29 rfl i_169_26 (by decide) rfl (vs := [.int (4 : Int32), .int (0 : Int32), .int (999 : Int32)]) (rest := []) rfl rfl rfl (H_6.1 0 (by decide)) (y := m_168) rfl (Nat.le_of_ble_eq_true rfl) (d_168_ok (d := e) (by omega) H_6.1 q_9) ?_
    rintro v_12 h_10 ⟨rfl, H_11⟩
    have H_11 := H_6.tr H_11
    refine wp_if_eq 44 32 rfl rfl i_169_29 (fun c_13 => ?_) (fun c_13 => ?_)
    · rw [if_pos c_13] at hd
      refine wp_s 45 [some (.ref 382), some (.int x1)] [.int (0 : Int32)] h_10 i_169_44 rfl ?_
      obtain rfl := Option.some.inj hd
      exact wp_iretZ (z := 0) i_169_45 (by decide) ⟨rfl, H_11⟩
    · rw [if_neg c_13] at hd
      refine wp_s 33 [some (.ref 382), some (.int x1)] [.ref 382] h_10 i_169_32 rfl ?_
      refine wp_s 34 [some (.ref 382), some (.int x1)] [.int (5 : Int32), .ref 382] h_10 i_169_33 rfl ?_
      refine wp_s 35 [some (.ref 382), some (.int x1)] [.int (0 : Int32), .int (5 : Int32), .ref 382] h_10 i_169_34 rfl ?_
      refine wp_s 38 [some (.ref 382), some (.int x1)] [.int (9999 : Int32), .int (0 : Int32), .int (5 : Int32), .ref 382] h_10 i_169_35 rfl ?_
      obtain ⟨z_14, q_15, hd⟩ := dk_bind hd
      refine wp_callV 41 rfl i_169_38 (by decide) rfl (vs := [.int (5 : Int32), .int (0 : Int32), .int (9999 : Int32)]) (rest := []) rfl rfl rfl (H_11.1 0 (by decide)) (y := m_168) rfl (Nat.le_of_ble_eq_true rfl) (d_168_ok (d := e) (by omega) H_11.1 q_15) ?_
      rintro v_18 h_16 ⟨rfl, H_17⟩
      have H_17 := H_11.tr H_17
      refine wp_if_ne 46 44 rfl rfl i_169_41 (fun c_19 => ?_) (fun c_19 => ?_)
      · rw [if_pos c_19] at hd
        refine wp_s 47 [some (.ref 382), some (.int x1)] [.ref 382] h_16 i_169_46 rfl ?_
        refine wp_get (v := .ref 388) 50 rfl i_169_47 (H_17.1 0 (by decide)) rfl ?_
        refine wp_s 51 [some (.ref 382), some (.int x1)] [.int (0 : Int32), .ref 388] h_16 i_169_50 rfl ?_
        refine wp_s 52 [some (.ref 382), some (.int x1)] [.int (1 : Int32), .int (0 : Int32), .ref 388] h_16 i_169_51 rfl ?_
        obtain ⟨b_20, hd⟩ := dk_if hd
        refine rq_A7 53 rfl i_169_52 H_17 b_20 (fun h_21 H_22 => ?_)
        refine wp_s 54 [some (.ref 382), some (.int x1)] [.int (1 : Int32)] h_21 i_169_53 rfl ?_
        obtain rfl := Option.some.inj hd
        exact wp_iretZ (z := 0) i_169_54 (by decide) ⟨rfl, H_22⟩
      · rw [if_neg c_19] at hd
        refine wp_s 45 [some (.ref 382), some (.int x1)] [.int (0 : Int32)] h_16 i_169_44 rfl ?_
        obtain rfl := Option.some.inj hd
        exact wp_iretZ (z := 0) i_169_45 (by decide) ⟨rfl, H_17⟩
  · rw [if_neg c_2] at hd
    refine wp_s 10 [some (.ref 382), some (.int x1)] [.ref 382] h0 i_169_9 rfl ?_
    refine wp_s 11 [some (.ref 382), some (.int x1)] [.int (4 : Int32), .ref 382] h0 i_169_10 rfl ?_
    refine wp_s 12 [some (.ref 382), some (.int x1)] [.int x1, .int (4 : Int32), .ref 382] h0 i_169_11 rfl ?_
    obtain ⟨z_23, q_24, hd⟩ := dk_bind hd
    refine wp_callV 15 rfl i_169_12 (by decide) rfl (vs := [.int (4 : Int32), .int x1]) (rest := []) rfl rfl rfl (HH.1 0 (by decide)) (y := m_145) rfl (Nat.le_of_ble_eq_true rfl) (d_145_ok (d := e) (by omega) HH.1 q_24) ?_
    rintro v_27 h_25 ⟨rfl, H_26⟩
    have H_26 := HH.tr H_26
    obtain ⟨b_28, hd⟩ := dk_if hd
    obtain rfl := Option.some.inj hd
    exact wp_iretZ (z := 0) i_169_15 b_28 ⟨rfl, H_26⟩
def d_170 (g : Nat) (x1 : Int32) (S : rS) : Option (Int32 × rS) := (if aIn (1 : Int32) 140 = true then (if ¬ ((S.2.1 7) (1 : Int32).toNatClampNeg) = (8 : Int32) then ((d_150 g  S).bind (fun z_3 => (if aIn (1 : Int32) 140 = true then ((d_168 g ((80 : Int32) + ((2 : Int32) * ((z_3.2.1 7) (1 : Int32).toNatClampNeg))) (1 : Int32) (5000 : Int32) z_3).bind (fun z_9 => (if z_9.1 = 0 then some ((0 : Int32), z_9.2) else ((d_168 g (((80 : Int32) + ((2 : Int32) * ((z_3.2.1 7) (1 : Int32).toNatClampNeg))) + (1 : Int32)) (0 : Int32) (5000 : Int32) z_9.2).bind (fun z_15 => (if z_15.1 = 0 then some ((0 : Int32), z_15.2) else (if aIn (1 : Int32) 140 = true then ((d_168 g ((16 : Int32) + ((5 : Int32) * ((z_15.2.2.1 7) (1 : Int32).toNatClampNeg))) (0 : Int32) (9 : Int32) z_15.2).bind (fun z_22 => (if ¬ z_22.1 = 0 then (if aIn (1 : Int32) 140 = true then (if aIn (1 : Int32) 140 = true then some ((1 : Int32), (rA z_22.2 7 (upd (z_22.2.2.1 7) (1 : Int32).toNatClampNeg (((z_22.2.2.1 7) (1 : Int32).toNatClampNeg) + (1 : Int32))))) else none) else none) else some ((0 : Int32), z_22.2)))) else none))))))) else none))) else ((d_145 g (4 : Int32) x1 S).bind (fun z_32 => (if z_32.1 = 0 ∨ z_32.1 = 1 then some (z_32.1, z_32.2) else none)))) else none)
set_option maxHeartbeats 4000000 in
set_option maxRecDepth 100000 in
theorem d_170_ok {X : aX} {g d : Nat} {x1 : Int32} {S : rS} {h0 : aH} {zz : Int32 × rS} (hdp : 3 ≤ d) (HS : rm h0 S) (hd : d_170 g x1 S = some zz) : aWp X d 170 0 (aEntL [.ref 382, .int x1] 3) [] h0 (fun w h' => w = some (.int zz.1) ∧ rTo h0 zz.2 h') := by
  unfold d_170 at hd
  have HH := rTo.rf HS
  refine wp_lv (l2 := [some (.ref 382), some (.int x1), none]) rfl ?_
  obtain ⟨e, rfl⟩ : ∃ e, d = e + 1 := ⟨d - 1, by omega⟩
  refine wp_s 1 [some (.ref 382), some (.int x1), none] [.ref 382] h0 i_170_0 rfl ?_
  refine wp_get (v := .ref 388) 4 rfl i_170_1 (HH.1 0 (by decide)) rfl ?_
  refine wp_s 5 [some (.ref 382), some (.int x1), none] [.int (1 : Int32), .ref 388] h0 i_170_4 rfl ?_
  obtain ⟨b_1, hd⟩ := dk_if hd
  refine wp_iald (f := (S.2.1 7)) 6 rfl i_170_5 (HH.1 6 (by decide)) b_1 ?_
  refine wp_s 8 [some (.ref 382), some (.int x1), none] [.int (8 : Int32), .int ((S.2.1 7) (1 : Int32).toNatClampNeg)] h0 i_170_6 rfl ?_
  refine wp_cmp_ne 18 11 rfl rfl i_170_8 (fun c_2 => ?_) (fun c_2 => ?_)
  · rw [if_pos c_2] at hd
    refine wp_s 19 [some (.ref 382), some (.int x1), none] [.ref 382] h0 i_170_18 rfl ?_
    obtain ⟨z_3, q_4, hd⟩ := dk_bind hd
    refine wp_callV 22 rfl i_170_19 (by decide) rfl (vs := []) (rest := []) rfl rfl rfl (HH.1 0 (by decide)) (y := m_150) rfl (Nat.le_of_ble_eq_true rfl) (d_150_ok (d := e) (by omega) HH.1 q_4) ?_
    rintro v_7 h_5 ⟨rfl, H_6⟩
    have H_6 := HH.tr H_6
    refine wp_s 24 [some (.ref 382), some (.int x1), none] [.int (80 : Int32)] h_5 i_170_22 rfl ?_
    refine wp_s 25 [some (.ref 382), some (.int x1), none] [.int (2 : Int32), .int (80 : Int32)] h_5 i_170_24 rfl ?_
    refine wp_s 26 [some (.ref 382), some (.int x1), none] [.ref 382, .int (2 : Int32), .int (80 : Int32)] h_5 i_170_25 rfl ?_
    refine wp_get (v := .ref 388) 29 rfl i_170_26 (H_6.1 0 (by decide)) rfl ?_
    refine wp_s 30 [some (.ref 382), some (.int x1), none] [.int (1 : Int32), .ref 388, .int (2 : Int32), .int (80 : Int32)] h_5 i_170_29 rfl ?_
    obtain ⟨b_8, hd⟩ := dk_if hd
    refine wp_iald (f := (z_3.2.1 7)) 31 rfl i_170_30 (H_6.1 6 (by decide)) b_8 ?_
    refine wp_s 32 [some (.ref 382), some (.int x1), none] [.int ((2 : Int32) * ((z_3.2.1 7) (1 : Int32).toNatClampNeg)), .int (80 : Int32)] h_5 i_170_31 rfl ?_
    refine wp_s 33 [some (.ref 382), some (.int x1), none] [.int ((80 : Int32) + ((2 : Int32) * ((z_3.2.1 7) (1 : Int32).toNatClampNeg)))] h_5 i_170_32 rfl ?_
    refine wp_s 34 [some (.ref 382), some (.int x1), some (.int ((80 : Int32) + ((2 : Int32) * ((z_3.2.1 7) (1 : Int32).toNatClampNeg))))] [] h_5 i_170_33 rfl ?_
    refine wp_s 35 [some (.ref 382), some (.int x1), some (.int ((80 : Int32) + ((2 : Int32) * ((z_3.2.1 7) (1 : Int32).toNatClampNeg))))] [.ref 382] h_5 i_170_34 rfl ?_
    refine wp_s 36 [some (.ref 382), some (.int x1), some (.int ((80 : Int32) + ((2 : Int32) * ((z_3.2.1 7) (1 : Int32).toNatClampNeg))))] [.int ((80 : Int32) + ((2 : Int32) * ((z_3.2.1 7) (1 : Int32).toNatClampNeg))), .ref 382] h_5 i_170_35 rfl ?_
    refine wp_s 37 [some (.ref 382), some (.int x1), some (.int ((80 : Int32) + ((2 : Int32) * ((z_3.2.1 7) (1 : Int32).toNatClampNeg))))] [.int (1 : Int32), .int ((80 : Int32) + ((2 : Int32) * ((z_3.2.1 7) (1 : Int32).toNatClampNeg))), .ref 382] h_5 i_170_36 rfl ?_
    refine wp_s 40 [some (.ref 382), some (.int x1), some (.int ((80 : Int32) + ((2 : Int32) * ((z_3.2.1 7) (1 : Int32).toNatClampNeg))))] [.int (5000 : Int32), .int (1 : Int32), .int ((80 : Int32) + ((2 : Int32) * ((z_3.2.1 7) (1 : Int32).toNatClampNeg))), .ref 382] h_5 i_170_37 rfl ?_
    obtain ⟨z_9, q_10, hd⟩ := dk_bind hd
    refine wp_callV 43 rfl i_170_40 (by decide) rfl (vs := [.int ((80 : Int32) + ((2 : Int32) * ((z_3.2.1 7) (1 : Int32).toNatClampNeg))), .int (1 : Int32), .int (5000 : Int32)]) (rest := []) rfl rfl rfl (H_6.1 0 (by decide)) (y := m_168) rfl (Nat.le_of_ble_eq_true rfl) (d_168_ok (d := e) (by omega) H_6.1 q_10) ?_
    rintro v_13 h_11 ⟨rfl, H_12⟩
    have H_12 := H_6.tr H_12
    refine wp_if_eq 81 46 rfl rfl i_170_43 (fun c_14 => ?_) (fun c_14 => ?_)
    · rw [if_pos c_14] at hd
      refine wp_s 82 [some (.ref 382), some (.int x1), some (.int ((80 : Int32) + ((2 : Int32) * ((z_3.2.1 7) (1 : Int32).toNatClampNeg))))] [.int (0 : Int32)] h_11 i_170_81 rfl ?_
      obtain rfl := Option.some.inj hd
      exact wp_iretZ (z := 0) i_170_82 (by decide) ⟨rfl, H_12⟩
    · rw [if_neg c_14] at hd
      refine wp_s 47 [some (.ref 382), some (.int x1), some (.int ((80 : Int32) + ((2 : Int32) * ((z_3.2.1 7) (1 : Int32).toNatClampNeg))))] [.ref 382] h_11 i_170_46 rfl ?_
      refine wp_s 48 [some (.ref 382), some (.int x1), some (.int ((80 : Int32) + ((2 : Int32) * ((z_3.2.1 7) (1 : Int32).toNatClampNeg))))] [.int ((80 : Int32) + ((2 : Int32) * ((z_3.2.1 7) (1 : Int32).toNatClampNeg))), .ref 382] h_11 i_170_47 rfl ?_
      refine wp_s 49 [some (.ref 382), some (.int x1), some (.int ((80 : Int32) + ((2 : Int32) * ((z_3.2.1 7) (1 : Int32).toNatClampNeg))))] [.int (1 : Int32), .int ((80 : Int32) + ((2 : Int32) * ((z_3.2.1 7) (1 : Int32).toNatClampNeg))), .ref 382] h_11 i_170_48 rfl ?_
      refine wp_s 50 [some (.ref 382), some (.int x1), some (.int ((80 : Int32) + ((2 : Int32) * ((z_3.2.1 7) (1 : Int32).toNatClampNeg))))] [.int (((80 : Int32) + ((2 : Int32) * ((z_3.2.1 7) (1 : Int32).toNatClampNeg))) + (1 : Int32)), .ref 382] h_11 i_170_49 rfl ?_
      refine wp_s 51 [some (.ref 382), some (.int x1), some (.int ((80 : Int32) + ((2 : Int32) * ((z_3.2.1 7) (1 : Int32).toNatClampNeg))))] [.int (0 : Int32), .int (((80 : Int32) + ((2 : Int32) * ((z_3.2.1 7) (1 : Int32).toNatClampNeg))) + (1 : Int32)), .ref 382] h_11 i_170_50 rfl ?_
      refine wp_s 54 [some (.ref 382), some (.int x1), some (.int ((80 : Int32) + ((2 : Int32) * ((z_3.2.1 7) (1 : Int32).toNatClampNeg))))] [.int (5000 : Int32), .int (0 : Int32), .int (((80 : Int32) + ((2 : Int32) * ((z_3.2.1 7) (1 : Int32).toNatClampNeg))) + (1 : Int32)), .ref 382] h_11 i_170_51 rfl ?_
      obtain ⟨z_15, q_16, hd⟩ := dk_bind hd
      refine wp_callV 57 rfl i_170_54 (by decide) rfl (vs := [.int (((80 : Int32) + ((2 : Int32) * ((z_3.2.1 7) (1 : Int32).toNatClampNeg))) + (1 : Int32)), .int (0 : Int32), .int (5000 : Int32)]) (rest := []) rfl rfl rfl (H_12.1 0 (by decide)) (y := m_168) rfl (Nat.le_of_ble_eq_true rfl) (d_168_ok (d := e) (by omega) H_12.1 q_16) ?_
      rintro v_19 h_17 ⟨rfl, H_18⟩
      have H_18 := H_12.tr H_18
      refine wp_if_eq 81 60 rfl rfl i_170_57 (fun c_20 => ?_) (fun c_20 => ?_)
      · rw [if_pos c_20] at hd
        refine wp_s 82 [some (.ref 382), some (.int x1), some (.int ((80 : Int32) + ((2 : Int32) * ((z_3.2.1 7) (1 : Int32).toNatClampNeg))))] [.int (0 : Int32)] h_17 i_170_81 rfl ?_
        obtain rfl := Option.some.inj hd
        exact wp_iretZ (z := 0) i_170_82 (by decide) ⟨rfl, H_18⟩
      · rw [if_neg c_20] at hd
        refine wp_s 61 [some (.ref 382), some (.int x1), some (.int ((80 : Int32) + ((2 : Int32) * ((z_3.2.1 7) (1 : Int32).toNatClampNeg))))] [.ref 382] h_17 i_170_60 rfl ?_
        refine wp_s 63 [some (.ref 382), some (.int x1), some (.int ((80 : Int32) + ((2 : Int32) * ((z_3.2.1 7) (1 : Int32).toNatClampNeg))))] [.int (16 : Int32), .ref 382] h_17 i_170_61 rfl ?_
        refine wp_s 64 [some (.ref 382), some (.int x1), some (.int ((80 : Int32) + ((2 : Int32) * ((z_3.2.1 7) (1 : Int32).toNatClampNeg))))] [.int (5 : Int32), .int (16 : Int32), .ref 382] h_17 i_170_63 rfl ?_
        refine wp_s 65 [some (.ref 382), some (.int x1), some (.int ((80 : Int32) + ((2 : Int32) * ((z_3.2.1 7) (1 : Int32).toNatClampNeg))))] [.ref 382, .int (5 : Int32), .int (16 : Int32), .ref 382] h_17 i_170_64 rfl ?_
        refine wp_get (v := .ref 388) 68 rfl i_170_65 (H_18.1 0 (by decide)) rfl ?_
        refine wp_s 69 [some (.ref 382), some (.int x1), some (.int ((80 : Int32) + ((2 : Int32) * ((z_3.2.1 7) (1 : Int32).toNatClampNeg))))] [.int (1 : Int32), .ref 388, .int (5 : Int32), .int (16 : Int32), .ref 382] h_17 i_170_68 rfl ?_
        obtain ⟨b_21, hd⟩ := dk_if hd
        refine wp_iald (f := (z_15.2.2.1 7)) 70 rfl i_170_69 (H_18.1 6 (by decide)) b_21 ?_
        refine wp_s 71 [some (.ref 382), some (.int x1), some (.int ((80 : Int32) + ((2 : Int32) * ((z_3.2.1 7) (1 : Int32).toNatClampNeg))))] [.int ((5 : Int32) * ((z_15.2.2.1 7) (1 : Int32).toNatClampNeg)), .int (16 : Int32), .ref 382] h_17 i_170_70 rfl ?_
        refine wp_s 72 [some (.ref 382), some (.int x1), some (.int ((80 : Int32) + ((2 : Int32) * ((z_3.2.1 7) (1 : Int32).toNatClampNeg))))] [.int ((16 : Int32) + ((5 : Int32) * ((z_15.2.2.1 7) (1 : Int32).toNatClampNeg))), .ref 382] h_17 i_170_71 rfl ?_
        refine wp_s 73 [some (.ref 382), some (.int x1), some (.int ((80 : Int32) + ((2 : Int32) * ((z_3.2.1 7) (1 : Int32).toNatClampNeg))))] [.int (0 : Int32), .int ((16 : Int32) + ((5 : Int32) * ((z_15.2.2.1 7) (1 : Int32).toNatClampNeg))), .ref 382] h_17 i_170_72 rfl ?_
        refine wp_s 75 [some (.ref 382), some (.int x1), some (.int ((80 : Int32) + ((2 : Int32) * ((z_3.2.1 7) (1 : Int32).toNatClampNeg))))] [.int (9 : Int32), .int (0 : Int32), .int ((16 : Int32) + ((5 : Int32) * ((z_15.2.2.1 7) (1 : Int32).toNatClampNeg))), .ref 382] h_17 i_170_73 rfl ?_
        obtain ⟨z_22, q_23, hd⟩ := dk_bind hd
        refine wp_callV 78 rfl i_170_75 (by decide) rfl (vs := [.int ((16 : Int32) + ((5 : Int32) * ((z_15.2.2.1 7) (1 : Int32).toNatClampNeg))), .int (0 : Int32), .int (9 : Int32)]) (rest := []) rfl rfl rfl (H_18.1 0 (by decide)) (y := m_168) rfl (Nat.le_of_ble_eq_true rfl) (d_168_ok (d := e) (by omega) H_18.1 q_23) ?_
        rintro v_26 h_24 ⟨rfl, H_25⟩
        have H_25 := H_18.tr H_25
        refine wp_if_ne 83 81 rfl rfl i_170_78 (fun c_27 => ?_) (fun c_27 => ?_)
        · rw [if_pos c_27] at hd
          refine wp_s 84 [some (.ref 382), some (.int x1), some (.int ((80 : Int32) + ((2 : Int32) * ((z_3.2.1 7) (1 : Int32).toNatClampNeg))))] [.ref 382] h_24 i_170_83 rfl ?_
          refine wp_get (v := .ref 388) 87 rfl i_170_84 (H_25.1 0 (by decide)) rfl ?_
          refine wp_s 88 [some (.ref 382), some (.int x1), some (.int ((80 : Int32) + ((2 : Int32) * ((z_3.2.1 7) (1 : Int32).toNatClampNeg))))] [.int (1 : Int32), .ref 388] h_24 i_170_87 rfl ?_
          refine wp_s 89 [some (.ref 382), some (.int x1), some (.int ((80 : Int32) + ((2 : Int32) * ((z_3.2.1 7) (1 : Int32).toNatClampNeg))))] [.int (1 : Int32), .ref 388, .int (1 : Int32), .ref 388] h_24 i_170_88 rfl ?_
          obtain ⟨b_28, hd⟩ := dk_if hd
          refine wp_iald (f := (z_22.2.2.1 7)) 90 rfl i_170_89 (H_25.1 6 (by decide)) b_28 ?_
          refine wp_s 91 [some (.ref 382), some (.int x1), some (.int ((80 : Int32) + ((2 : Int32) * ((z_3.2.1 7) (1 : Int32).toNatClampNeg))))] [.int (1 : Int32), .int ((z_22.2.2.1 7) (1 : Int32).toNatClampNeg), .int (1 : Int32), .ref 388] h_24 i_170_90 rfl ?_
          refine wp_s 92 [some (.ref 382), some (.int x1), some (.int ((80 : Int32) + ((2 : Int32) * ((z_3.2.1 7) (1 : Int32).toNatClampNeg))))] [.int (((z_22.2.2.1 7) (1 : Int32).toNatClampNeg) + (1 : Int32)), .int (1 : Int32), .ref 388] h_24 i_170_91 rfl ?_
          obtain ⟨b_29, hd⟩ := dk_if hd
          refine rq_A7 93 rfl i_170_92 H_25 b_29 (fun h_30 H_31 => ?_)
          refine wp_s 94 [some (.ref 382), some (.int x1), some (.int ((80 : Int32) + ((2 : Int32) * ((z_3.2.1 7) (1 : Int32).toNatClampNeg))))] [.int (1 : Int32)] h_30 i_170_93 rfl ?_
          obtain rfl := Option.some.inj hd
          exact wp_iretZ (z := 0) i_170_94 (by decide) ⟨rfl, H_31⟩
        · rw [if_neg c_27] at hd
          refine wp_s 82 [some (.ref 382), some (.int x1), some (.int ((80 : Int32) + ((2 : Int32) * ((z_3.2.1 7) (1 : Int32).toNatClampNeg))))] [.int (0 : Int32)] h_24 i_170_81 rfl ?_
          obtain rfl := Option.some.inj hd
          exact wp_iretZ (z := 0) i_170_82 (by decide) ⟨rfl, H_25⟩
  · rw [if_neg c_2] at hd
    refine wp_s 12 [some (.ref 382), some (.int x1), none] [.ref 382] h0 i_170_11 rfl ?_
    refine wp_s 13 [some (.ref 382), some (.int x1), none] [.int (4 : Int32), .ref 382] h0 i_170_12 rfl ?_
    refine wp_s 14 [some (.ref 382), some (.int x1), none] [.int x1, .int (4 : Int32), .ref 382] h0 i_170_13 rfl ?_
    obtain ⟨z_32, q_33, hd⟩ := dk_bind hd
    refine wp_callV 17 rfl i_170_14 (by decide) rfl (vs := [.int (4 : Int32), .int x1]) (rest := []) rfl rfl rfl (HH.1 0 (by decide)) (y := m_145) rfl (Nat.le_of_ble_eq_true rfl) (d_145_ok (d := e) (by omega) HH.1 q_33) ?_
    rintro v_36 h_34 ⟨rfl, H_35⟩
    have H_35 := HH.tr H_35
    obtain ⟨b_37, hd⟩ := dk_if hd
    obtain rfl := Option.some.inj hd
    exact wp_iretZ (z := 0) i_170_17 b_37 ⟨rfl, H_35⟩
def d_171 (g : Nat) (x1 : Int32) (S : rS) : Option (Int32 × rS) := (if aIn (2 : Int32) 140 = true then (if ¬ ((S.2.1 7) (2 : Int32).toNatClampNeg) = (6 : Int32) then ((d_150 g  S).bind (fun z_3 => (if aIn (2 : Int32) 140 = true then (if aIn (1 : Int32) 140 = true then ((d_168 g ((96 : Int32) + ((2 : Int32) * ((z_3.2.1 7) (2 : Int32).toNatClampNeg))) (0 : Int32) (((z_3.2.1 7) (1 : Int32).toNatClampNeg) - (1 : Int32)) z_3).bind (fun z_10 => (if z_10.1 = 0 then some ((0 : Int32), z_10.2) else ((d_168 g (((96 : Int32) + ((2 : Int32) * ((z_3.2.1 7) (2 : Int32).toNatClampNeg))) + (1 : Int32)) (0 : Int32) (30 : Int32) z_10.2).bind (fun z_16 => (if ¬ z_16.1 = 0 then (if aIn (2 : Int32) 140 = true then (if aIn (2 : Int32) 140 = true then some ((1 : Int32), (rA z_16.2 7 (upd (z_16.2.2.1 7) (2 : Int32).toNatClampNeg (((z_16.2.2.1 7) (2 : Int32).toNatClampNeg) + (1 : Int32))))) else none) else none) else some ((0 : Int32), z_16.2))))))) else none) else none))) else ((d_145 g (4 : Int32) x1 S).bind (fun z_26 => (if z_26.1 = 0 ∨ z_26.1 = 1 then some (z_26.1, z_26.2) else none)))) else none)
set_option maxHeartbeats 4000000 in
set_option maxRecDepth 100000 in
theorem d_171_ok {X : aX} {g d : Nat} {x1 : Int32} {S : rS} {h0 : aH} {zz : Int32 × rS} (hdp : 3 ≤ d) (HS : rm h0 S) (hd : d_171 g x1 S = some zz) : aWp X d 171 0 (aEntL [.ref 382, .int x1] 3) [] h0 (fun w h' => w = some (.int zz.1) ∧ rTo h0 zz.2 h') := by
  unfold d_171 at hd
  have HH := rTo.rf HS
  refine wp_lv (l2 := [some (.ref 382), some (.int x1), none]) rfl ?_
  obtain ⟨e, rfl⟩ : ∃ e, d = e + 1 := ⟨d - 1, by omega⟩
  refine wp_s 1 [some (.ref 382), some (.int x1), none] [.ref 382] h0 i_171_0 rfl ?_
  refine wp_get (v := .ref 388) 4 rfl i_171_1 (HH.1 0 (by decide)) rfl ?_
  refine wp_s 5 [some (.ref 382), some (.int x1), none] [.int (2 : Int32), .ref 388] h0 i_171_4 rfl ?_
  obtain ⟨b_1, hd⟩ := dk_if hd
  refine wp_iald (f := (S.2.1 7)) 6 rfl i_171_5 (HH.1 6 (by decide)) b_1 ?_
  refine wp_s 8 [some (.ref 382), some (.int x1), none] [.int (6 : Int32), .int ((S.2.1 7) (2 : Int32).toNatClampNeg)] h0 i_171_6 rfl ?_
  refine wp_cmp_ne 18 11 rfl rfl i_171_8 (fun c_2 => ?_) (fun c_2 => ?_)
  · rw [if_pos c_2] at hd
    refine wp_s 19 [some (.ref 382), some (.int x1), none] [.ref 382] h0 i_171_18 rfl ?_
    obtain ⟨z_3, q_4, hd⟩ := dk_bind hd
    refine wp_callV 22 rfl i_171_19 (by decide) rfl (vs := []) (rest := []) rfl rfl rfl (HH.1 0 (by decide)) (y := m_150) rfl (Nat.le_of_ble_eq_true rfl) (d_150_ok (d := e) (by omega) HH.1 q_4) ?_
    rintro v_7 h_5 ⟨rfl, H_6⟩
    have H_6 := HH.tr H_6
    refine wp_s 24 [some (.ref 382), some (.int x1), none] [.int (96 : Int32)] h_5 i_171_22 rfl ?_
    refine wp_s 25 [some (.ref 382), some (.int x1), none] [.int (2 : Int32), .int (96 : Int32)] h_5 i_171_24 rfl ?_
    refine wp_s 26 [some (.ref 382), some (.int x1), none] [.ref 382, .int (2 : Int32), .int (96 : Int32)] h_5 i_171_25 rfl ?_
    refine wp_get (v := .ref 388) 29 rfl i_171_26 (H_6.1 0 (by decide)) rfl ?_
    refine wp_s 30 [some (.ref 382), some (.int x1), none] [.int (2 : Int32), .ref 388, .int (2 : Int32), .int (96 : Int32)] h_5 i_171_29 rfl ?_
    obtain ⟨b_8, hd⟩ := dk_if hd
    refine wp_iald (f := (z_3.2.1 7)) 31 rfl i_171_30 (H_6.1 6 (by decide)) b_8 ?_
    refine wp_s 32 [some (.ref 382), some (.int x1), none] [.int ((2 : Int32) * ((z_3.2.1 7) (2 : Int32).toNatClampNeg)), .int (96 : Int32)] h_5 i_171_31 rfl ?_
    refine wp_s 33 [some (.ref 382), some (.int x1), none] [.int ((96 : Int32) + ((2 : Int32) * ((z_3.2.1 7) (2 : Int32).toNatClampNeg)))] h_5 i_171_32 rfl ?_
    refine wp_s 34 [some (.ref 382), some (.int x1), some (.int ((96 : Int32) + ((2 : Int32) * ((z_3.2.1 7) (2 : Int32).toNatClampNeg))))] [] h_5 i_171_33 rfl ?_
    refine wp_s 35 [some (.ref 382), some (.int x1), some (.int ((96 : Int32) + ((2 : Int32) * ((z_3.2.1 7) (2 : Int32).toNatClampNeg))))] [.ref 382] h_5 i_171_34 rfl ?_
    refine wp_s 36 [some (.ref 382), some (.int x1), some (.int ((96 : Int32) + ((2 : Int32) * ((z_3.2.1 7) (2 : Int32).toNatClampNeg))))] [.int ((96 : Int32) + ((2 : Int32) * ((z_3.2.1 7) (2 : Int32).toNatClampNeg))), .ref 382] h_5 i_171_35 rfl ?_
    refine wp_s 37 [some (.ref 382), some (.int x1), some (.int ((96 : Int32) + ((2 : Int32) * ((z_3.2.1 7) (2 : Int32).toNatClampNeg))))] [.int (0 : Int32), .int ((96 : Int32) + ((2 : Int32) * ((z_3.2.1 7) (2 : Int32).toNatClampNeg))), .ref 382] h_5 i_171_36 rfl ?_
    refine wp_s 38 [some (.ref 382), some (.int x1), some (.int ((96 : Int32) + ((2 : Int32) * ((z_3.2.1 7) (2 : Int32).toNatClampNeg))))] [.ref 382, .int (0 : Int32), .int ((96 : Int32) + ((2 : Int32) * ((z_3.2.1 7) (2 : Int32).toNatClampNeg))), .ref 382] h_5 i_171_37 rfl ?_
    refine wp_get (v := .ref 388) 41 rfl i_171_38 (H_6.1 0 (by decide)) rfl ?_
    refine wp_s 42 [some (.ref 382), some (.int x1), some (.int ((96 : Int32) + ((2 : Int32) * ((z_3.2.1 7) (2 : Int32).toNatClampNeg))))] [.int (1 : Int32), .ref 388, .int (0 : Int32), .int ((96 : Int32) + ((2 : Int32) * ((z_3.2.1 7) (2 : Int32).toNatClampNeg))), .ref 382] h_5 i_171_41 rfl ?_
    obtain ⟨b_9, hd⟩ := dk_if hd
    refine wp_iald (f := (z_3.2.1 7)) 43 rfl i_171_42 (H_6.1 6 (by decide)) b_9 ?_
    refine wp_s 44 [some (.ref 382), some (.int x1), some (.int ((96 : Int32) + ((2 : Int32) * ((z_3.2.1 7) (2 : Int32).toNatClampNeg))))] [.int (1 : Int32), .int ((z_3.2.1 7) (1 : Int32).toNatClampNeg), .int (0 : Int32), .int ((96 : Int32) + ((2 : Int32) * ((z_3.2.1 7) (2 : Int32).toNatClampNeg))), .ref 382] h_5 i_171_43 rfl ?_
    refine wp_s 45 [some (.ref 382), some (.int x1), some (.int ((96 : Int32) + ((2 : Int32) * ((z_3.2.1 7) (2 : Int32).toNatClampNeg))))] [.int (((z_3.2.1 7) (1 : Int32).toNatClampNeg) - (1 : Int32)), .int (0 : Int32), .int ((96 : Int32) + ((2 : Int32) * ((z_3.2.1 7) (2 : Int32).toNatClampNeg))), .ref 382] h_5 i_171_44 rfl ?_
    obtain ⟨z_10, q_11, hd⟩ := dk_bind hd
    refine wp_callV 48 rfl i_171_45 (by decide) rfl (vs := [.int ((96 : Int32) + ((2 : Int32) * ((z_3.2.1 7) (2 : Int32).toNatClampNeg))), .int (0 : Int32), .int (((z_3.2.1 7) (1 : Int32).toNatClampNeg) - (1 : Int32))]) (rest := []) rfl rfl rfl (H_6.1 0 (by decide)) (y := m_168) rfl (Nat.le_of_ble_eq_true rfl) (d_168_ok (d := e) (by omega) H_6.1 q_11) ?_
    rintro v_14 h_12 ⟨rfl, H_13⟩
    have H_13 := H_6.tr H_13
    refine wp_if_eq 64 51 rfl rfl i_171_48 (fun c_15 => ?_) (fun c_15 => ?_)
    · rw [if_pos c_15] at hd
      refine wp_s 65 [some (.ref 382), some (.int x1), some (.int ((96 : Int32) + ((2 : Int32) * ((z_3.2.1 7) (2 : Int32).toNatClampNeg))))] [.int (0 : Int32)] h_12 i_171_64 rfl ?_
      obtain rfl := Option.some.inj hd
      exact wp_iretZ (z := 0) i_171_65 (by decide) ⟨rfl, H_13⟩
    · rw [if_neg c_15] at hd
      refine wp_s 52 [some (.ref 382), some (.int x1), some (.int ((96 : Int32) + ((2 : Int32) * ((z_3.2.1 7) (2 : Int32).toNatClampNeg))))] [.ref 382] h_12 i_171_51 rfl ?_
      refine wp_s 53 [some (.ref 382), some (.int x1), some (.int ((96 : Int32) + ((2 : Int32) * ((z_3.2.1 7) (2 : Int32).toNatClampNeg))))] [.int ((96 : Int32) + ((2 : Int32) * ((z_3.2.1 7) (2 : Int32).toNatClampNeg))), .ref 382] h_12 i_171_52 rfl ?_
      refine wp_s 54 [some (.ref 382), some (.int x1), some (.int ((96 : Int32) + ((2 : Int32) * ((z_3.2.1 7) (2 : Int32).toNatClampNeg))))] [.int (1 : Int32), .int ((96 : Int32) + ((2 : Int32) * ((z_3.2.1 7) (2 : Int32).toNatClampNeg))), .ref 382] h_12 i_171_53 rfl ?_
      refine wp_s 55 [some (.ref 382), some (.int x1), some (.int ((96 : Int32) + ((2 : Int32) * ((z_3.2.1 7) (2 : Int32).toNatClampNeg))))] [.int (((96 : Int32) + ((2 : Int32) * ((z_3.2.1 7) (2 : Int32).toNatClampNeg))) + (1 : Int32)), .ref 382] h_12 i_171_54 rfl ?_
      refine wp_s 56 [some (.ref 382), some (.int x1), some (.int ((96 : Int32) + ((2 : Int32) * ((z_3.2.1 7) (2 : Int32).toNatClampNeg))))] [.int (0 : Int32), .int (((96 : Int32) + ((2 : Int32) * ((z_3.2.1 7) (2 : Int32).toNatClampNeg))) + (1 : Int32)), .ref 382] h_12 i_171_55 rfl ?_
      refine wp_s 58 [some (.ref 382), some (.int x1), some (.int ((96 : Int32) + ((2 : Int32) * ((z_3.2.1 7) (2 : Int32).toNatClampNeg))))] [.int (30 : Int32), .int (0 : Int32), .int (((96 : Int32) + ((2 : Int32) * ((z_3.2.1 7) (2 : Int32).toNatClampNeg))) + (1 : Int32)), .ref 382] h_12 i_171_56 rfl ?_
      obtain ⟨z_16, q_17, hd⟩ := dk_bind hd
      refine wp_callV 61 rfl i_171_58 (by decide) rfl (vs := [.int (((96 : Int32) + ((2 : Int32) * ((z_3.2.1 7) (2 : Int32).toNatClampNeg))) + (1 : Int32)), .int (0 : Int32), .int (30 : Int32)]) (rest := []) rfl rfl rfl (H_13.1 0 (by decide)) (y := m_168) rfl (Nat.le_of_ble_eq_true rfl) (d_168_ok (d := e) (by omega) H_13.1 q_17) ?_
      rintro v_20 h_18 ⟨rfl, H_19⟩
      have H_19 := H_13.tr H_19
      refine wp_if_ne 66 64 rfl rfl i_171_61 (fun c_21 => ?_) (fun c_21 => ?_)
      · rw [if_pos c_21] at hd
        refine wp_s 67 [some (.ref 382), some (.int x1), some (.int ((96 : Int32) + ((2 : Int32) * ((z_3.2.1 7) (2 : Int32).toNatClampNeg))))] [.ref 382] h_18 i_171_66 rfl ?_
        refine wp_get (v := .ref 388) 70 rfl i_171_67 (H_19.1 0 (by decide)) rfl ?_
        refine wp_s 71 [some (.ref 382), some (.int x1), some (.int ((96 : Int32) + ((2 : Int32) * ((z_3.2.1 7) (2 : Int32).toNatClampNeg))))] [.int (2 : Int32), .ref 388] h_18 i_171_70 rfl ?_
        refine wp_s 72 [some (.ref 382), some (.int x1), some (.int ((96 : Int32) + ((2 : Int32) * ((z_3.2.1 7) (2 : Int32).toNatClampNeg))))] [.int (2 : Int32), .ref 388, .int (2 : Int32), .ref 388] h_18 i_171_71 rfl ?_
        obtain ⟨b_22, hd⟩ := dk_if hd
        refine wp_iald (f := (z_16.2.2.1 7)) 73 rfl i_171_72 (H_19.1 6 (by decide)) b_22 ?_
        refine wp_s 74 [some (.ref 382), some (.int x1), some (.int ((96 : Int32) + ((2 : Int32) * ((z_3.2.1 7) (2 : Int32).toNatClampNeg))))] [.int (1 : Int32), .int ((z_16.2.2.1 7) (2 : Int32).toNatClampNeg), .int (2 : Int32), .ref 388] h_18 i_171_73 rfl ?_
        refine wp_s 75 [some (.ref 382), some (.int x1), some (.int ((96 : Int32) + ((2 : Int32) * ((z_3.2.1 7) (2 : Int32).toNatClampNeg))))] [.int (((z_16.2.2.1 7) (2 : Int32).toNatClampNeg) + (1 : Int32)), .int (2 : Int32), .ref 388] h_18 i_171_74 rfl ?_
        obtain ⟨b_23, hd⟩ := dk_if hd
        refine rq_A7 76 rfl i_171_75 H_19 b_23 (fun h_24 H_25 => ?_)
        refine wp_s 77 [some (.ref 382), some (.int x1), some (.int ((96 : Int32) + ((2 : Int32) * ((z_3.2.1 7) (2 : Int32).toNatClampNeg))))] [.int (1 : Int32)] h_24 i_171_76 rfl ?_
        obtain rfl := Option.some.inj hd
        exact wp_iretZ (z := 0) i_171_77 (by decide) ⟨rfl, H_25⟩
      · rw [if_neg c_21] at hd
        refine wp_s 65 [some (.ref 382), some (.int x1), some (.int ((96 : Int32) + ((2 : Int32) * ((z_3.2.1 7) (2 : Int32).toNatClampNeg))))] [.int (0 : Int32)] h_18 i_171_64 rfl ?_
        obtain rfl := Option.some.inj hd
        exact wp_iretZ (z := 0) i_171_65 (by decide) ⟨rfl, H_19⟩
  · rw [if_neg c_2] at hd
    refine wp_s 12 [some (.ref 382), some (.int x1), none] [.ref 382] h0 i_171_11 rfl ?_
    refine wp_s 13 [some (.ref 382), some (.int x1), none] [.int (4 : Int32), .ref 382] h0 i_171_12 rfl ?_
    refine wp_s 14 [some (.ref 382), some (.int x1), none] [.int x1, .int (4 : Int32), .ref 382] h0 i_171_13 rfl ?_
    obtain ⟨z_26, q_27, hd⟩ := dk_bind hd
    refine wp_callV 17 rfl i_171_14 (by decide) rfl (vs := [.int (4 : Int32), .int x1]) (rest := []) rfl rfl rfl (HH.1 0 (by decide)) (y := m_145) rfl (Nat.le_of_ble_eq_true rfl) (d_145_ok (d := e) (by omega) HH.1 q_27) ?_
    rintro v_30 h_28 ⟨rfl, H_29⟩
    have H_29 := HH.tr H_29
    obtain ⟨b_31, hd⟩ := dk_if hd
    obtain rfl := Option.some.inj hd
    exact wp_iretZ (z := 0) i_171_17 b_31 ⟨rfl, H_29⟩
def d_172 (g : Nat) (x1 : Int32) (S : rS) : Option (Int32 × rS) := (if aIn (10 : Int32) 140 = true then (if ¬ ((S.2.1 7) (10 : Int32).toNatClampNeg) = (4 : Int32) then ((d_150 g  S).bind (fun z_3 => (if aIn (10 : Int32) 140 = true then ((d_168 g ((108 : Int32) + ((3 : Int32) * ((z_3.2.1 7) (10 : Int32).toNatClampNeg))) (0 : Int32) (99 : Int32) z_3).bind (fun z_9 => (if z_9.1 = 0 then some ((0 : Int32), z_9.2) else (if aIn ((108 : Int32) + ((3 : Int32) * ((z_3.2.1 7) (10 : Int32).toNatClampNeg))) 140 = true then ((d_168 g (((108 : Int32) + ((3 : Int32) * ((z_3.2.1 7) (10 : Int32).toNatClampNeg))) + (1 : Int32)) ((z_9.2.2.1 7) ((108 : Int32) + ((3 : Int32) * ((z_3.2.1 7) (10 : Int32).toNatClampNeg))).toNatClampNeg) (99 : Int32) z_9.2).bind (fun z_16 => (if z_16.1 = 0 then some ((0 : Int32), z_16.2) else ((d_168 g (((108 : Int32) + ((3 : Int32) * ((z_3.2.1 7) (10 : Int32).toNatClampNeg))) + (2 : Int32)) (1 : Int32) (90 : Int32) z_16.2).bind (fun z_22 => (if ¬ z_22.1 = 0 then (if aIn (10 : Int32) 140 = true then (if aIn (10 : Int32) 140 = true then some ((1 : Int32), (rA z_22.2 7 (upd (z_22.2.2.1 7) (10 : Int32).toNatClampNeg (((z_22.2.2.1 7) (10 : Int32).toNatClampNeg) + (1 : Int32))))) else none) else none) else some ((0 : Int32), z_22.2))))))) else none)))) else none))) else ((d_145 g (4 : Int32) x1 S).bind (fun z_32 => (if z_32.1 = 0 ∨ z_32.1 = 1 then some (z_32.1, z_32.2) else none)))) else none)
set_option maxHeartbeats 4000000 in
set_option maxRecDepth 100000 in
theorem d_172_ok {X : aX} {g d : Nat} {x1 : Int32} {S : rS} {h0 : aH} {zz : Int32 × rS} (hdp : 3 ≤ d) (HS : rm h0 S) (hd : d_172 g x1 S = some zz) : aWp X d 172 0 (aEntL [.ref 382, .int x1] 3) [] h0 (fun w h' => w = some (.int zz.1) ∧ rTo h0 zz.2 h') := by
  unfold d_172 at hd
  have HH := rTo.rf HS
  refine wp_lv (l2 := [some (.ref 382), some (.int x1), none]) rfl ?_
  obtain ⟨e, rfl⟩ : ∃ e, d = e + 1 := ⟨d - 1, by omega⟩
  refine wp_s 1 [some (.ref 382), some (.int x1), none] [.ref 382] h0 i_172_0 rfl ?_
  refine wp_get (v := .ref 388) 4 rfl i_172_1 (HH.1 0 (by decide)) rfl ?_
  refine wp_s 6 [some (.ref 382), some (.int x1), none] [.int (10 : Int32), .ref 388] h0 i_172_4 rfl ?_
  obtain ⟨b_1, hd⟩ := dk_if hd
  refine wp_iald (f := (S.2.1 7)) 7 rfl i_172_6 (HH.1 6 (by decide)) b_1 ?_
  refine wp_s 8 [some (.ref 382), some (.int x1), none] [.int (4 : Int32), .int ((S.2.1 7) (10 : Int32).toNatClampNeg)] h0 i_172_7 rfl ?_
  refine wp_cmp_ne 18 11 rfl rfl i_172_8 (fun c_2 => ?_) (fun c_2 => ?_)
  · rw [if_pos c_2] at hd
    refine wp_s 19 [some (.ref 382), some (.int x1), none] [.ref 382] h0 i_172_18 rfl ?_
    obtain ⟨z_3, q_4, hd⟩ := dk_bind hd
    refine wp_callV 22 rfl i_172_19 (by decide) rfl (vs := []) (rest := []) rfl rfl rfl (HH.1 0 (by decide)) (y := m_150) rfl (Nat.le_of_ble_eq_true rfl) (d_150_ok (d := e) (by omega) HH.1 q_4) ?_
    rintro v_7 h_5 ⟨rfl, H_6⟩
    have H_6 := HH.tr H_6
    refine wp_s 24 [some (.ref 382), some (.int x1), none] [.int (108 : Int32)] h_5 i_172_22 rfl ?_
    refine wp_s 25 [some (.ref 382), some (.int x1), none] [.int (3 : Int32), .int (108 : Int32)] h_5 i_172_24 rfl ?_
    refine wp_s 26 [some (.ref 382), some (.int x1), none] [.ref 382, .int (3 : Int32), .int (108 : Int32)] h_5 i_172_25 rfl ?_
    refine wp_get (v := .ref 388) 29 rfl i_172_26 (H_6.1 0 (by decide)) rfl ?_
    refine wp_s 31 [some (.ref 382), some (.int x1), none] [.int (10 : Int32), .ref 388, .int (3 : Int32), .int (108 : Int32)] h_5 i_172_29 rfl ?_
    obtain ⟨b_8, hd⟩ := dk_if hd
    refine wp_iald (f := (z_3.2.1 7)) 32 rfl i_172_31 (H_6.1 6 (by decide)) b_8 ?_
    refine wp_s 33 [some (.ref 382), some (.int x1), none] [.int ((3 : Int32) * ((z_3.2.1 7) (10 : Int32).toNatClampNeg)), .int (108 : Int32)] h_5 i_172_32 rfl ?_
    refine wp_s 34 [some (.ref 382), some (.int x1), none] [.int ((108 : Int32) + ((3 : Int32) * ((z_3.2.1 7) (10 : Int32).toNatClampNeg)))] h_5 i_172_33 rfl ?_
    refine wp_s 35 [some (.ref 382), some (.int x1), some (.int ((108 : Int32) + ((3 : Int32) * ((z_3.2.1 7) (10 : Int32).toNatClampNeg))))] [] h_5 i_172_34 rfl ?_
    refine wp_s 36 [some (.ref 382), some (.int x1), some (.int ((108 : Int32) + ((3 : Int32) * ((z_3.2.1 7) (10 : Int32).toNatClampNeg))))] [.ref 382] h_5 i_172_35 rfl ?_
    refine wp_s 37 [some (.ref 382), some (.int x1), some (.int ((108 : Int32) + ((3 : Int32) * ((z_3.2.1 7) (10 : Int32).toNatClampNeg))))] [.int ((108 : Int32) + ((3 : Int32) * ((z_3.2.1 7) (10 : Int32).toNatClampNeg))), .ref 382] h_5 i_172_36 rfl ?_
    refine wp_s 38 [some (.ref 382), some (.int x1), some (.int ((108 : Int32) + ((3 : Int32) * ((z_3.2.1 7) (10 : Int32).toNatClampNeg))))] [.int (0 : Int32), .int ((108 : Int32) + ((3 : Int32) * ((z_3.2.1 7) (10 : Int32).toNatClampNeg))), .ref 382] h_5 i_172_37 rfl ?_
    refine wp_s 40 [some (.ref 382), some (.int x1), some (.int ((108 : Int32) + ((3 : Int32) * ((z_3.2.1 7) (10 : Int32).toNatClampNeg))))] [.int (99 : Int32), .int (0 : Int32), .int ((108 : Int32) + ((3 : Int32) * ((z_3.2.1 7) (10 : Int32).toNatClampNeg))), .ref 382] h_5 i_172_38 rfl ?_
    obtain ⟨z_9, q_10, hd⟩ := dk_bind hd
    refine wp_callV 43 rfl i_172_40 (by decide) rfl (vs := [.int ((108 : Int32) + ((3 : Int32) * ((z_3.2.1 7) (10 : Int32).toNatClampNeg))), .int (0 : Int32), .int (99 : Int32)]) (rest := []) rfl rfl rfl (H_6.1 0 (by decide)) (y := m_168) rfl (Nat.le_of_ble_eq_true rfl) (d_168_ok (d := e) (by omega) H_6.1 q_10) ?_
    rintro v_13 h_11 ⟨rfl, H_12⟩
    have H_12 := H_6.tr H_12
    refine wp_if_eq 77 46 rfl rfl i_172_43 (fun c_14 => ?_) (fun c_14 => ?_)
    · rw [if_pos c_14] at hd
      refine wp_s 78 [some (.ref 382), some (.int x1), some (.int ((108 : Int32) + ((3 : Int32) * ((z_3.2.1 7) (10 : Int32).toNatClampNeg))))] [.int (0 : Int32)] h_11 i_172_77 rfl ?_
      obtain rfl := Option.some.inj hd
      exact wp_iretZ (z := 0) i_172_78 (by decide) ⟨rfl, H_12⟩
    · rw [if_neg c_14] at hd
      refine wp_s 47 [some (.ref 382), some (.int x1), some (.int ((108 : Int32) + ((3 : Int32) * ((z_3.2.1 7) (10 : Int32).toNatClampNeg))))] [.ref 382] h_11 i_172_46 rfl ?_
      refine wp_s 48 [some (.ref 382), some (.int x1), some (.int ((108 : Int32) + ((3 : Int32) * ((z_3.2.1 7) (10 : Int32).toNatClampNeg))))] [.int ((108 : Int32) + ((3 : Int32) * ((z_3.2.1 7) (10 : Int32).toNatClampNeg))), .ref 382] h_11 i_172_47 rfl ?_
      refine wp_s 49 [some (.ref 382), some (.int x1), some (.int ((108 : Int32) + ((3 : Int32) * ((z_3.2.1 7) (10 : Int32).toNatClampNeg))))] [.int (1 : Int32), .int ((108 : Int32) + ((3 : Int32) * ((z_3.2.1 7) (10 : Int32).toNatClampNeg))), .ref 382] h_11 i_172_48 rfl ?_
      refine wp_s 50 [some (.ref 382), some (.int x1), some (.int ((108 : Int32) + ((3 : Int32) * ((z_3.2.1 7) (10 : Int32).toNatClampNeg))))] [.int (((108 : Int32) + ((3 : Int32) * ((z_3.2.1 7) (10 : Int32).toNatClampNeg))) + (1 : Int32)), .ref 382] h_11 i_172_49 rfl ?_
      refine wp_s 51 [some (.ref 382), some (.int x1), some (.int ((108 : Int32) + ((3 : Int32) * ((z_3.2.1 7) (10 : Int32).toNatClampNeg))))] [.ref 382, .int (((108 : Int32) + ((3 : Int32) * ((z_3.2.1 7) (10 : Int32).toNatClampNeg))) + (1 : Int32)), .ref 382] h_11 i_172_50 rfl ?_
      refine wp_get (v := .ref 388) 54 rfl i_172_51 (H_12.1 0 (by decide)) rfl ?_
      refine wp_s 55 [some (.ref 382), some (.int x1), some (.int ((108 : Int32) + ((3 : Int32) * ((z_3.2.1 7) (10 : Int32).toNatClampNeg))))] [.int ((108 : Int32) + ((3 : Int32) * ((z_3.2.1 7) (10 : Int32).toNatClampNeg))), .ref 388, .int (((108 : Int32) + ((3 : Int32) * ((z_3.2.1 7) (10 : Int32).toNatClampNeg))) + (1 : Int32)), .ref 382] h_11 i_172_54 rfl ?_
      obtain ⟨b_15, hd⟩ := dk_if hd
      refine wp_iald (f := (z_9.2.2.1 7)) 56 rfl i_172_55 (H_12.1 6 (by decide)) b_15 ?_
      refine wp_s 58 [some (.ref 382), some (.int x1), some (.int ((108 : Int32) + ((3 : Int32) * ((z_3.2.1 7) (10 : Int32).toNatClampNeg))))] [.int (99 : Int32), .int ((z_9.2.2.1 7) ((108 : Int32) + ((3 : Int32) * ((z_3.2.1 7) (10 : Int32).toNatClampNeg))).toNatClampNeg), .int (((108 : Int32) + ((3 : Int32) * ((z_3.2.1 7) (10 : Int32).toNatClampNeg))) + (1 : Int32)), .ref 382] h_11 i_172_56 rfl ?_
      obtain ⟨z_16, q_17, hd⟩ := dk_bind hd
      refine wp_callV 61 rfl i_172_58 (by decide) rfl (vs := [.int (((108 : Int32) + ((3 : Int32) * ((z_3.2.1 7) (10 : Int32).toNatClampNeg))) + (1 : Int32)), .int ((z_9.2.2.1 7) ((108 : Int32) + ((3 : Int32) * ((z_3.2.1 7) (10 : Int32).toNatClampNeg))).toNatClampNeg), .int (99 : Int32)]) (rest := []) rfl rfl rfl (H_12.1 0 (by decide)) (y := m_168) rfl (Nat.le_of_ble_eq_true rfl) (d_168_ok (d := e) (by omega) H_12.1 q_17) ?_
      rintro v_20 h_18 ⟨rfl, H_19⟩
      have H_19 := H_12.tr H_19
      refine wp_if_eq 77 64 rfl rfl i_172_61 (fun c_21 => ?_) (fun c_21 => ?_)
      · rw [if_pos c_21] at hd
        refine wp_s 78 [some (.ref 382), some (.int x1), some (.int ((108 : Int32) + ((3 : Int32) * ((z_3.2.1 7) (10 : Int32).toNatClampNeg))))] [.int (0 : Int32)] h_18 i_172_77 rfl ?_
        obtain rfl := Option.some.inj hd
        exact wp_iretZ (z := 0) i_172_78 (by decide) ⟨rfl, H_19⟩
      · rw [if_neg c_21] at hd
        refine wp_s 65 [some (.ref 382), some (.int x1), some (.int ((108 : Int32) + ((3 : Int32) * ((z_3.2.1 7) (10 : Int32).toNatClampNeg))))] [.ref 382] h_18 i_172_64 rfl ?_
        refine wp_s 66 [some (.ref 382), some (.int x1), some (.int ((108 : Int32) + ((3 : Int32) * ((z_3.2.1 7) (10 : Int32).toNatClampNeg))))] [.int ((108 : Int32) + ((3 : Int32) * ((z_3.2.1 7) (10 : Int32).toNatClampNeg))), .ref 382] h_18 i_172_65 rfl ?_
        refine wp_s 67 [some (.ref 382), some (.int x1), some (.int ((108 : Int32) + ((3 : Int32) * ((z_3.2.1 7) (10 : Int32).toNatClampNeg))))] [.int (2 : Int32), .int ((108 : Int32) + ((3 : Int32) * ((z_3.2.1 7) (10 : Int32).toNatClampNeg))), .ref 382] h_18 i_172_66 rfl ?_
        refine wp_s 68 [some (.ref 382), some (.int x1), some (.int ((108 : Int32) + ((3 : Int32) * ((z_3.2.1 7) (10 : Int32).toNatClampNeg))))] [.int (((108 : Int32) + ((3 : Int32) * ((z_3.2.1 7) (10 : Int32).toNatClampNeg))) + (2 : Int32)), .ref 382] h_18 i_172_67 rfl ?_
        refine wp_s 69 [some (.ref 382), some (.int x1), some (.int ((108 : Int32) + ((3 : Int32) * ((z_3.2.1 7) (10 : Int32).toNatClampNeg))))] [.int (1 : Int32), .int (((108 : Int32) + ((3 : Int32) * ((z_3.2.1 7) (10 : Int32).toNatClampNeg))) + (2 : Int32)), .ref 382] h_18 i_172_68 rfl ?_
        refine wp_s 71 [some (.ref 382), some (.int x1), some (.int ((108 : Int32) + ((3 : Int32) * ((z_3.2.1 7) (10 : Int32).toNatClampNeg))))] [.int (90 : Int32), .int (1 : Int32), .int (((108 : Int32) + ((3 : Int32) * ((z_3.2.1 7) (10 : Int32).toNatClampNeg))) + (2 : Int32)), .ref 382] h_18 i_172_69 rfl ?_
        obtain ⟨z_22, q_23, hd⟩ := dk_bind hd
        refine wp_callV 74 rfl i_172_71 (by decide) rfl (vs := [.int (((108 : Int32) + ((3 : Int32) * ((z_3.2.1 7) (10 : Int32).toNatClampNeg))) + (2 : Int32)), .int (1 : Int32), .int (90 : Int32)]) (rest := []) rfl rfl rfl (H_19.1 0 (by decide)) (y := m_168) rfl (Nat.le_of_ble_eq_true rfl) (d_168_ok (d := e) (by omega) H_19.1 q_23) ?_
        rintro v_26 h_24 ⟨rfl, H_25⟩
        have H_25 := H_19.tr H_25
        refine wp_if_ne 79 77 rfl rfl i_172_74 (fun c_27 => ?_) (fun c_27 => ?_)
        · rw [if_pos c_27] at hd
          refine wp_s 80 [some (.ref 382), some (.int x1), some (.int ((108 : Int32) + ((3 : Int32) * ((z_3.2.1 7) (10 : Int32).toNatClampNeg))))] [.ref 382] h_24 i_172_79 rfl ?_
          refine wp_get (v := .ref 388) 83 rfl i_172_80 (H_25.1 0 (by decide)) rfl ?_
          refine wp_s 85 [some (.ref 382), some (.int x1), some (.int ((108 : Int32) + ((3 : Int32) * ((z_3.2.1 7) (10 : Int32).toNatClampNeg))))] [.int (10 : Int32), .ref 388] h_24 i_172_83 rfl ?_
          refine wp_s 86 [some (.ref 382), some (.int x1), some (.int ((108 : Int32) + ((3 : Int32) * ((z_3.2.1 7) (10 : Int32).toNatClampNeg))))] [.int (10 : Int32), .ref 388, .int (10 : Int32), .ref 388] h_24 i_172_85 rfl ?_
          obtain ⟨b_28, hd⟩ := dk_if hd
          refine wp_iald (f := (z_22.2.2.1 7)) 87 rfl i_172_86 (H_25.1 6 (by decide)) b_28 ?_
          refine wp_s 88 [some (.ref 382), some (.int x1), some (.int ((108 : Int32) + ((3 : Int32) * ((z_3.2.1 7) (10 : Int32).toNatClampNeg))))] [.int (1 : Int32), .int ((z_22.2.2.1 7) (10 : Int32).toNatClampNeg), .int (10 : Int32), .ref 388] h_24 i_172_87 rfl ?_
          refine wp_s 89 [some (.ref 382), some (.int x1), some (.int ((108 : Int32) + ((3 : Int32) * ((z_3.2.1 7) (10 : Int32).toNatClampNeg))))] [.int (((z_22.2.2.1 7) (10 : Int32).toNatClampNeg) + (1 : Int32)), .int (10 : Int32), .ref 388] h_24 i_172_88 rfl ?_
          obtain ⟨b_29, hd⟩ := dk_if hd
          refine rq_A7 90 rfl i_172_89 H_25 b_29 (fun h_30 H_31 => ?_)
          refine wp_s 91 [some (.ref 382), some (.int x1), some (.int ((108 : Int32) + ((3 : Int32) * ((z_3.2.1 7) (10 : Int32).toNatClampNeg))))] [.int (1 : Int32)] h_30 i_172_90 rfl ?_
          obtain rfl := Option.some.inj hd
          exact wp_iretZ (z := 0) i_172_91 (by decide) ⟨rfl, H_31⟩
        · rw [if_neg c_27] at hd
          refine wp_s 78 [some (.ref 382), some (.int x1), some (.int ((108 : Int32) + ((3 : Int32) * ((z_3.2.1 7) (10 : Int32).toNatClampNeg))))] [.int (0 : Int32)] h_24 i_172_77 rfl ?_
          obtain rfl := Option.some.inj hd
          exact wp_iretZ (z := 0) i_172_78 (by decide) ⟨rfl, H_25⟩
  · rw [if_neg c_2] at hd
    refine wp_s 12 [some (.ref 382), some (.int x1), none] [.ref 382] h0 i_172_11 rfl ?_
    refine wp_s 13 [some (.ref 382), some (.int x1), none] [.int (4 : Int32), .ref 382] h0 i_172_12 rfl ?_
    refine wp_s 14 [some (.ref 382), some (.int x1), none] [.int x1, .int (4 : Int32), .ref 382] h0 i_172_13 rfl ?_
    obtain ⟨z_32, q_33, hd⟩ := dk_bind hd
    refine wp_callV 17 rfl i_172_14 (by decide) rfl (vs := [.int (4 : Int32), .int x1]) (rest := []) rfl rfl rfl (HH.1 0 (by decide)) (y := m_145) rfl (Nat.le_of_ble_eq_true rfl) (d_145_ok (d := e) (by omega) HH.1 q_33) ?_
    rintro v_36 h_34 ⟨rfl, H_35⟩
    have H_35 := HH.tr H_35
    obtain ⟨b_37, hd⟩ := dk_if hd
    obtain rfl := Option.some.inj hd
    exact wp_iretZ (z := 0) i_172_17 b_37 ⟨rfl, H_35⟩
def j_173_88 (g : Nat) (x1 : Int32) (x2 : Int32) (x3 : Int32) (S : rS) : Option (Int32 × rS) := ((d_168 g (x3 + (2 : Int32)) (0 : Int32) (9999 : Int32) S).bind (fun z_1 => (if ¬ z_1.1 = 0 then (if aIn (3 : Int32) 140 = true then (if aIn (3 : Int32) 140 = true then some ((1 : Int32), (rA z_1.2 7 (upd (z_1.2.2.1 7) (3 : Int32).toNatClampNeg (((z_1.2.2.1 7) (3 : Int32).toNatClampNeg) + (1 : Int32))))) else none) else none) else some ((0 : Int32), z_1.2))))
set_option maxHeartbeats 4000000 in
set_option maxRecDepth 100000 in
theorem j_173_88_ok {X : aX} {g d : Nat} {x1 : Int32} {x2 : Int32} {x3 : Int32} {S : rS} {h0 : aH} {zz : Int32 × rS} (hdp : 3 ≤ d) (HS : rm h0 S) (hd : j_173_88 g x1 x2 x3 S = some zz) : aWp X d 173 88 [some (.ref 382), some (.int x1), some (.int x2), some (.int x3)] [] h0 (fun w h' => w = some (.int zz.1) ∧ rTo h0 zz.2 h') := by
  unfold j_173_88 at hd
  have HH := rTo.rf HS
  obtain ⟨e, rfl⟩ : ∃ e, d = e + 1 := ⟨d - 1, by omega⟩
  refine wp_s 89 [some (.ref 382), some (.int x1), some (.int x2), some (.int x3)] [.ref 382] h0 i_173_88 rfl ?_
  refine wp_s 90 [some (.ref 382), some (.int x1), some (.int x2), some (.int x3)] [.int x3, .ref 382] h0 i_173_89 rfl ?_
  refine wp_s 91 [some (.ref 382), some (.int x1), some (.int x2), some (.int x3)] [.int (2 : Int32), .int x3, .ref 382] h0 i_173_90 rfl ?_
  refine wp_s 92 [some (.ref 382), some (.int x1), some (.int x2), some (.int x3)] [.int (x3 + (2 : Int32)), .ref 382] h0 i_173_91 rfl ?_
  refine wp_s 93 [some (.ref 382), some (.int x1), some (.int x2), some (.int x3)] [.int (0 : Int32), .int (x3 + (2 : Int32)), .ref 382] h0 i_173_92 rfl ?_
  refine wp_s 96 [some (.ref 382), some (.int x1), some (.int x2), some (.int x3)] [.int (9999 : Int32), .int (0 : Int32), .int (x3 + (2 : Int32)), .ref 382] h0 i_173_93 rfl ?_
  obtain ⟨z_1, q_2, hd⟩ := dk_bind hd
  refine wp_callV 99 rfl i_173_96 (by decide) rfl (vs := [.int (x3 + (2 : Int32)), .int (0 : Int32), .int (9999 : Int32)]) (rest := []) rfl rfl rfl (HH.1 0 (by decide)) (y := m_168) rfl (Nat.le_of_ble_eq_true rfl) (d_168_ok (d := e) (by omega) HH.1 q_2) ?_
  rintro v_5 h_3 ⟨rfl, H_4⟩
  have H_4 := HH.tr H_4
  refine wp_if_ne 104 102 rfl rfl i_173_99 (fun c_6 => ?_) (fun c_6 => ?_)
  · rw [if_pos c_6] at hd
    refine wp_s 105 [some (.ref 382), some (.int x1), some (.int x2), some (.int x3)] [.ref 382] h_3 i_173_104 rfl ?_
    refine wp_get (v := .ref 388) 108 rfl i_173_105 (H_4.1 0 (by decide)) rfl ?_
    refine wp_s 109 [some (.ref 382), some (.int x1), some (.int x2), some (.int x3)] [.int (3 : Int32), .ref 388] h_3 i_173_108 rfl ?_
    refine wp_s 110 [some (.ref 382), some (.int x1), some (.int x2), some (.int x3)] [.int (3 : Int32), .ref 388, .int (3 : Int32), .ref 388] h_3 i_173_109 rfl ?_
    obtain ⟨b_7, hd⟩ := dk_if hd
    refine wp_iald (f := (z_1.2.2.1 7)) 111 rfl i_173_110 (H_4.1 6 (by decide)) b_7 ?_
    refine wp_s 112 [some (.ref 382), some (.int x1), some (.int x2), some (.int x3)] [.int (1 : Int32), .int ((z_1.2.2.1 7) (3 : Int32).toNatClampNeg), .int (3 : Int32), .ref 388] h_3 i_173_111 rfl ?_
    refine wp_s 113 [some (.ref 382), some (.int x1), some (.int x2), some (.int x3)] [.int (((z_1.2.2.1 7) (3 : Int32).toNatClampNeg) + (1 : Int32)), .int (3 : Int32), .ref 388] h_3 i_173_112 rfl ?_
    obtain ⟨b_8, hd⟩ := dk_if hd
    refine rq_A7 114 rfl i_173_113 H_4 b_8 (fun h_9 H_10 => ?_)
    refine wp_s 115 [some (.ref 382), some (.int x1), some (.int x2), some (.int x3)] [.int (1 : Int32)] h_9 i_173_114 rfl ?_
    obtain rfl := Option.some.inj hd
    exact wp_iretZ (z := 0) i_173_115 (by decide) ⟨rfl, H_10⟩
  · rw [if_neg c_6] at hd
    refine wp_s 103 [some (.ref 382), some (.int x1), some (.int x2), some (.int x3)] [.int (0 : Int32)] h_3 i_173_102 rfl ?_
    obtain rfl := Option.some.inj hd
    exact wp_iretZ (z := 0) i_173_103 (by decide) ⟨rfl, H_4⟩
def j_173_80 (g : Nat) (x1 : Int32) (x2 : Int32) (x3 : Int32) (s0 : Int32) (s1 : Int32) (s2 : Int32) (S : rS) : Option (Int32 × rS) := ((d_168 g s2 s1 s0 S).bind (fun z_1 => (if ¬ z_1.1 = 0 then (j_173_88 g x1 x2 x3 z_1.2) else some ((0 : Int32), z_1.2))))
set_option maxHeartbeats 4000000 in
set_option maxRecDepth 100000 in
theorem j_173_80_ok {X : aX} {g d : Nat} {x1 : Int32} {x2 : Int32} {x3 : Int32} {s0 : Int32} {s1 : Int32} {s2 : Int32} {S : rS} {h0 : aH} {zz : Int32 × rS} (hdp : 3 ≤ d) (HS : rm h0 S) (hd : j_173_80 g x1 x2 x3 s0 s1 s2 S = some zz) : aWp X d 173 80 [some (.ref 382), some (.int x1), some (.int x2), some (.int x3)] [.int s0, .int s1, .int s2, .ref 382] h0 (fun w h' => w = some (.int zz.1) ∧ rTo h0 zz.2 h') := by
  unfold j_173_80 at hd
  have HH := rTo.rf HS
  obtain ⟨e, rfl⟩ : ∃ e, d = e + 1 := ⟨d - 1, by omega⟩
  obtain ⟨z_1, q_2, hd⟩ := dk_bind hd
  refine wp_callV 83 rfl i_173_80 (by decide) rfl (vs := [.int s2, .int s1, .int s0]) (rest := []) rfl rfl rfl (HH.1 0 (by decide)) (y := m_168) rfl (Nat.le_of_ble_eq_true rfl) (d_168_ok (d := e) (by omega) HH.1 q_2) ?_
  rintro v_5 h_3 ⟨rfl, H_4⟩
  have H_4 := HH.tr H_4
  refine wp_if_ne 88 86 rfl rfl i_173_83 (fun c_6 => ?_) (fun c_6 => ?_)
  · rw [if_pos c_6] at hd
    exact aWp.post (aWp.forget (j_173_88_ok hdp H_4.1 hd) ((lvS (lvS (lvS (lvS lvE)))))) (fun _ _ hq => ⟨hq.1, H_4.tr hq.2⟩)
  · rw [if_neg c_6] at hd
    refine wp_s 87 [some (.ref 382), some (.int x1), some (.int x2), some (.int x3)] [.int (0 : Int32)] h_3 i_173_86 rfl ?_
    obtain rfl := Option.some.inj hd
    exact wp_iretZ (z := 0) i_173_87 (by decide) ⟨rfl, H_4⟩
def d_173 (g : Nat) (x1 : Int32) (x2 : Int32) (S : rS) : Option (Int32 × rS) := (if aIn (3 : Int32) 140 = true then (if ¬ ((S.2.1 7) (3 : Int32).toNatClampNeg) = (5 : Int32) then ((d_150 g  S).bind (fun z_3 => (if aIn (3 : Int32) 140 = true then (if aIn ((120 : Int32) + ((4 : Int32) * ((z_3.2.1 7) (3 : Int32).toNatClampNeg))) 140 = true then (if aIn (((120 : Int32) + ((4 : Int32) * ((z_3.2.1 7) (3 : Int32).toNatClampNeg))) + (1 : Int32)) 140 = true then (if aIn (((120 : Int32) + ((4 : Int32) * ((z_3.2.1 7) (3 : Int32).toNatClampNeg))) + (3 : Int32)) 140 = true then (if x1 = (2 : Int32) then (j_173_88 g x1 x2 ((120 : Int32) + ((4 : Int32) * ((z_3.2.1 7) (3 : Int32).toNatClampNeg))) (rA (rA (rA z_3 7 (upd (z_3.2.1 7) ((120 : Int32) + ((4 : Int32) * ((z_3.2.1 7) (3 : Int32).toNatClampNeg))).toNatClampNeg x1)) 7 (upd (upd (z_3.2.1 7) ((120 : Int32) + ((4 : Int32) * ((z_3.2.1 7) (3 : Int32).toNatClampNeg))).toNatClampNeg x1) (((120 : Int32) + ((4 : Int32) * ((z_3.2.1 7) (3 : Int32).toNatClampNeg))) + (1 : Int32)).toNatClampNeg (0 : Int32))) 7 (upd (upd (upd (z_3.2.1 7) ((120 : Int32) + ((4 : Int32) * ((z_3.2.1 7) (3 : Int32).toNatClampNeg))).toNatClampNeg x1) (((120 : Int32) + ((4 : Int32) * ((z_3.2.1 7) (3 : Int32).toNatClampNeg))) + (1 : Int32)).toNatClampNeg (0 : Int32)) (((120 : Int32) + ((4 : Int32) * ((z_3.2.1 7) (3 : Int32).toNatClampNeg))) + (3 : Int32)).toNatClampNeg (0 : Int32)))) else (if ¬ x1 = 0 then (j_173_80 g x1 x2 ((120 : Int32) + ((4 : Int32) * ((z_3.2.1 7) (3 : Int32).toNatClampNeg))) (2000 : Int32) (1 : Int32) (((120 : Int32) + ((4 : Int32) * ((z_3.2.1 7) (3 : Int32).toNatClampNeg))) + (1 : Int32)) (rA (rA (rA z_3 7 (upd (z_3.2.1 7) ((120 : Int32) + ((4 : Int32) * ((z_3.2.1 7) (3 : Int32).toNatClampNeg))).toNatClampNeg x1)) 7 (upd (upd (z_3.2.1 7) ((120 : Int32) + ((4 : Int32) * ((z_3.2.1 7) (3 : Int32).toNatClampNeg))).toNatClampNeg x1) (((120 : Int32) + ((4 : Int32) * ((z_3.2.1 7) (3 : Int32).toNatClampNeg))) + (1 : Int32)).toNatClampNeg (0 : Int32))) 7 (upd (upd (upd (z_3.2.1 7) ((120 : Int32) + ((4 : Int32) * ((z_3.2.1 7) (3 : Int32).toNatClampNeg))).toNatClampNeg x1) (((120 : Int32) + ((4 : Int32) * ((z_3.2.1 7) (3 : Int32).toNatClampNeg))) + (1 : Int32)).toNatClampNeg (0 : Int32)) (((120 : Int32) + ((4 : Int32) * ((z_3.2.1 7) (3 : Int32).toNatClampNeg))) + (3 : Int32)).toNatClampNeg (0 : Int32)))) else (j_173_80 g x1 x2 ((120 : Int32) + ((4 : Int32) * ((z_3.2.1 7) (3 : Int32).toNatClampNeg))) (90 : Int32) (1 : Int32) (((120 : Int32) + ((4 : Int32) * ((z_3.2.1 7) (3 : Int32).toNatClampNeg))) + (1 : Int32)) (rA (rA (rA z_3 7 (upd (z_3.2.1 7) ((120 : Int32) + ((4 : Int32) * ((z_3.2.1 7) (3 : Int32).toNatClampNeg))).toNatClampNeg x1)) 7 (upd (upd (z_3.2.1 7) ((120 : Int32) + ((4 : Int32) * ((z_3.2.1 7) (3 : Int32).toNatClampNeg))).toNatClampNeg x1) (((120 : Int32) + ((4 : Int32) * ((z_3.2.1 7) (3 : Int32).toNatClampNeg))) + (1 : Int32)).toNatClampNeg (0 : Int32))) 7 (upd (upd (upd (z_3.2.1 7) ((120 : Int32) + ((4 : Int32) * ((z_3.2.1 7) (3 : Int32).toNatClampNeg))).toNatClampNeg x1) (((120 : Int32) + ((4 : Int32) * ((z_3.2.1 7) (3 : Int32).toNatClampNeg))) + (1 : Int32)).toNatClampNeg (0 : Int32)) (((120 : Int32) + ((4 : Int32) * ((z_3.2.1 7) (3 : Int32).toNatClampNeg))) + (3 : Int32)).toNatClampNeg (0 : Int32)))))) else none) else none) else none) else none))) else ((d_145 g (4 : Int32) x2 S).bind (fun z_20 => (if z_20.1 = 0 ∨ z_20.1 = 1 then some (z_20.1, z_20.2) else none)))) else none)
set_option maxHeartbeats 4000000 in
set_option maxRecDepth 100000 in
theorem d_173_ok {X : aX} {g d : Nat} {x1 : Int32} {x2 : Int32} {S : rS} {h0 : aH} {zz : Int32 × rS} (hdp : 3 ≤ d) (HS : rm h0 S) (hd : d_173 g x1 x2 S = some zz) : aWp X d 173 0 (aEntL [.ref 382, .int x1, .int x2] 4) [] h0 (fun w h' => w = some (.int zz.1) ∧ rTo h0 zz.2 h') := by
  unfold d_173 at hd
  have HH := rTo.rf HS
  refine wp_lv (l2 := [some (.ref 382), some (.int x1), some (.int x2), none]) rfl ?_
  obtain ⟨e, rfl⟩ : ∃ e, d = e + 1 := ⟨d - 1, by omega⟩
  refine wp_s 1 [some (.ref 382), some (.int x1), some (.int x2), none] [.ref 382] h0 i_173_0 rfl ?_
  refine wp_get (v := .ref 388) 4 rfl i_173_1 (HH.1 0 (by decide)) rfl ?_
  refine wp_s 5 [some (.ref 382), some (.int x1), some (.int x2), none] [.int (3 : Int32), .ref 388] h0 i_173_4 rfl ?_
  obtain ⟨b_1, hd⟩ := dk_if hd
  refine wp_iald (f := (S.2.1 7)) 6 rfl i_173_5 (HH.1 6 (by decide)) b_1 ?_
  refine wp_s 7 [some (.ref 382), some (.int x1), some (.int x2), none] [.int (5 : Int32), .int ((S.2.1 7) (3 : Int32).toNatClampNeg)] h0 i_173_6 rfl ?_
  refine wp_cmp_ne 17 10 rfl rfl i_173_7 (fun c_2 => ?_) (fun c_2 => ?_)
  · rw [if_pos c_2] at hd
    refine wp_s 18 [some (.ref 382), some (.int x1), some (.int x2), none] [.ref 382] h0 i_173_17 rfl ?_
    obtain ⟨z_3, q_4, hd⟩ := dk_bind hd
    refine wp_callV 21 rfl i_173_18 (by decide) rfl (vs := []) (rest := []) rfl rfl rfl (HH.1 0 (by decide)) (y := m_150) rfl (Nat.le_of_ble_eq_true rfl) (d_150_ok (d := e) (by omega) HH.1 q_4) ?_
    rintro v_7 h_5 ⟨rfl, H_6⟩
    have H_6 := HH.tr H_6
    refine wp_s 23 [some (.ref 382), some (.int x1), some (.int x2), none] [.int (120 : Int32)] h_5 i_173_21 rfl ?_
    refine wp_s 24 [some (.ref 382), some (.int x1), some (.int x2), none] [.int (4 : Int32), .int (120 : Int32)] h_5 i_173_23 rfl ?_
    refine wp_s 25 [some (.ref 382), some (.int x1), some (.int x2), none] [.ref 382, .int (4 : Int32), .int (120 : Int32)] h_5 i_173_24 rfl ?_
    refine wp_get (v := .ref 388) 28 rfl i_173_25 (H_6.1 0 (by decide)) rfl ?_
    refine wp_s 29 [some (.ref 382), some (.int x1), some (.int x2), none] [.int (3 : Int32), .ref 388, .int (4 : Int32), .int (120 : Int32)] h_5 i_173_28 rfl ?_
    obtain ⟨b_8, hd⟩ := dk_if hd
    refine wp_iald (f := (z_3.2.1 7)) 30 rfl i_173_29 (H_6.1 6 (by decide)) b_8 ?_
    refine wp_s 31 [some (.ref 382), some (.int x1), some (.int x2), none] [.int ((4 : Int32) * ((z_3.2.1 7) (3 : Int32).toNatClampNeg)), .int (120 : Int32)] h_5 i_173_30 rfl ?_
    refine wp_s 32 [some (.ref 382), some (.int x1), some (.int x2), none] [.int ((120 : Int32) + ((4 : Int32) * ((z_3.2.1 7) (3 : Int32).toNatClampNeg)))] h_5 i_173_31 rfl ?_
    refine wp_s 33 [some (.ref 382), some (.int x1), some (.int x2), some (.int ((120 : Int32) + ((4 : Int32) * ((z_3.2.1 7) (3 : Int32).toNatClampNeg))))] [] h_5 i_173_32 rfl ?_
    refine wp_s 34 [some (.ref 382), some (.int x1), some (.int x2), some (.int ((120 : Int32) + ((4 : Int32) * ((z_3.2.1 7) (3 : Int32).toNatClampNeg))))] [.ref 382] h_5 i_173_33 rfl ?_
    refine wp_get (v := .ref 388) 37 rfl i_173_34 (H_6.1 0 (by decide)) rfl ?_
    refine wp_s 38 [some (.ref 382), some (.int x1), some (.int x2), some (.int ((120 : Int32) + ((4 : Int32) * ((z_3.2.1 7) (3 : Int32).toNatClampNeg))))] [.int ((120 : Int32) + ((4 : Int32) * ((z_3.2.1 7) (3 : Int32).toNatClampNeg))), .ref 388] h_5 i_173_37 rfl ?_
    refine wp_s 39 [some (.ref 382), some (.int x1), some (.int x2), some (.int ((120 : Int32) + ((4 : Int32) * ((z_3.2.1 7) (3 : Int32).toNatClampNeg))))] [.int x1, .int ((120 : Int32) + ((4 : Int32) * ((z_3.2.1 7) (3 : Int32).toNatClampNeg))), .ref 388] h_5 i_173_38 rfl ?_
    obtain ⟨b_9, hd⟩ := dk_if hd
    refine rq_A7 40 rfl i_173_39 H_6 b_9 (fun h_10 H_11 => ?_)
    refine wp_s 41 [some (.ref 382), some (.int x1), some (.int x2), some (.int ((120 : Int32) + ((4 : Int32) * ((z_3.2.1 7) (3 : Int32).toNatClampNeg))))] [.ref 382] h_10 i_173_40 rfl ?_
    refine wp_get (v := .ref 388) 44 rfl i_173_41 (H_11.1 0 (by decide)) rfl ?_
    refine wp_s 45 [some (.ref 382), some (.int x1), some (.int x2), some (.int ((120 : Int32) + ((4 : Int32) * ((z_3.2.1 7) (3 : Int32).toNatClampNeg))))] [.int ((120 : Int32) + ((4 : Int32) * ((z_3.2.1 7) (3 : Int32).toNatClampNeg))), .ref 388] h_10 i_173_44 rfl ?_
    refine wp_s 46 [some (.ref 382), some (.int x1), some (.int x2), some (.int ((120 : Int32) + ((4 : Int32) * ((z_3.2.1 7) (3 : Int32).toNatClampNeg))))] [.int (1 : Int32), .int ((120 : Int32) + ((4 : Int32) * ((z_3.2.1 7) (3 : Int32).toNatClampNeg))), .ref 388] h_10 i_173_45 rfl ?_
    refine wp_s 47 [some (.ref 382), some (.int x1), some (.int x2), some (.int ((120 : Int32) + ((4 : Int32) * ((z_3.2.1 7) (3 : Int32).toNatClampNeg))))] [.int (((120 : Int32) + ((4 : Int32) * ((z_3.2.1 7) (3 : Int32).toNatClampNeg))) + (1 : Int32)), .ref 388] h_10 i_173_46 rfl ?_
    refine wp_s 48 [some (.ref 382), some (.int x1), some (.int x2), some (.int ((120 : Int32) + ((4 : Int32) * ((z_3.2.1 7) (3 : Int32).toNatClampNeg))))] [.int (0 : Int32), .int (((120 : Int32) + ((4 : Int32) * ((z_3.2.1 7) (3 : Int32).toNatClampNeg))) + (1 : Int32)), .ref 388] h_10 i_173_47 rfl ?_
    obtain ⟨b_12, hd⟩ := dk_if hd
    refine rq_A7 49 rfl i_173_48 H_11 b_12 (fun h_13 H_14 => ?_)
    refine wp_s 50 [some (.ref 382), some (.int x1), some (.int x2), some (.int ((120 : Int32) + ((4 : Int32) * ((z_3.2.1 7) (3 : Int32).toNatClampNeg))))] [.ref 382] h_13 i_173_49 rfl ?_
    refine wp_get (v := .ref 388) 53 rfl i_173_50 (H_14.1 0 (by decide)) rfl ?_
    refine wp_s 54 [some (.ref 382), some (.int x1), some (.int x2), some (.int ((120 : Int32) + ((4 : Int32) * ((z_3.2.1 7) (3 : Int32).toNatClampNeg))))] [.int ((120 : Int32) + ((4 : Int32) * ((z_3.2.1 7) (3 : Int32).toNatClampNeg))), .ref 388] h_13 i_173_53 rfl ?_
    refine wp_s 55 [some (.ref 382), some (.int x1), some (.int x2), some (.int ((120 : Int32) + ((4 : Int32) * ((z_3.2.1 7) (3 : Int32).toNatClampNeg))))] [.int (3 : Int32), .int ((120 : Int32) + ((4 : Int32) * ((z_3.2.1 7) (3 : Int32).toNatClampNeg))), .ref 388] h_13 i_173_54 rfl ?_
    refine wp_s 56 [some (.ref 382), some (.int x1), some (.int x2), some (.int ((120 : Int32) + ((4 : Int32) * ((z_3.2.1 7) (3 : Int32).toNatClampNeg))))] [.int (((120 : Int32) + ((4 : Int32) * ((z_3.2.1 7) (3 : Int32).toNatClampNeg))) + (3 : Int32)), .ref 388] h_13 i_173_55 rfl ?_
    refine wp_s 57 [some (.ref 382), some (.int x1), some (.int x2), some (.int ((120 : Int32) + ((4 : Int32) * ((z_3.2.1 7) (3 : Int32).toNatClampNeg))))] [.int (0 : Int32), .int (((120 : Int32) + ((4 : Int32) * ((z_3.2.1 7) (3 : Int32).toNatClampNeg))) + (3 : Int32)), .ref 388] h_13 i_173_56 rfl ?_
    obtain ⟨b_15, hd⟩ := dk_if hd
    refine rq_A7 58 rfl i_173_57 H_14 b_15 (fun h_16 H_17 => ?_)
    refine wp_s 59 [some (.ref 382), some (.int x1), some (.int x2), some (.int ((120 : Int32) + ((4 : Int32) * ((z_3.2.1 7) (3 : Int32).toNatClampNeg))))] [.int x1] h_16 i_173_58 rfl ?_
    refine wp_s 60 [some (.ref 382), some (.int x1), some (.int x2), some (.int ((120 : Int32) + ((4 : Int32) * ((z_3.2.1 7) (3 : Int32).toNatClampNeg))))] [.int (2 : Int32), .int x1] h_16 i_173_59 rfl ?_
    refine wp_cmp_eq 88 63 rfl rfl i_173_60 (fun c_18 => ?_) (fun c_18 => ?_)
    · rw [if_pos c_18] at hd
      exact aWp.post (aWp.forget (j_173_88_ok hdp H_17.1 hd) ((lvS (lvS (lvS (lvS lvE)))))) (fun _ _ hq => ⟨hq.1, H_17.tr hq.2⟩)
    · rw [if_neg c_18] at hd
      refine wp_s 64 [some (.ref 382), some (.int x1), some (.int x2), some (.int ((120 : Int32) + ((4 : Int32) * ((z_3.2.1 7) (3 : Int32).toNatClampNeg))))] [.ref 382] h_16 i_173_63 rfl ?_
      refine wp_s 65 [some (.ref 382), some (.int x1), some (.int x2), some (.int ((120 : Int32) + ((4 : Int32) * ((z_3.2.1 7) (3 : Int32).toNatClampNeg))))] [.int ((120 : Int32) + ((4 : Int32) * ((z_3.2.1 7) (3 : Int32).toNatClampNeg))), .ref 382] h_16 i_173_64 rfl ?_
      refine wp_s 66 [some (.ref 382), some (.int x1), some (.int x2), some (.int ((120 : Int32) + ((4 : Int32) * ((z_3.2.1 7) (3 : Int32).toNatClampNeg))))] [.int (1 : Int32), .int ((120 : Int32) + ((4 : Int32) * ((z_3.2.1 7) (3 : Int32).toNatClampNeg))), .ref 382] h_16 i_173_65 rfl ?_
      refine wp_s 67 [some (.ref 382), some (.int x1), some (.int x2), some (.int ((120 : Int32) + ((4 : Int32) * ((z_3.2.1 7) (3 : Int32).toNatClampNeg))))] [.int (((120 : Int32) + ((4 : Int32) * ((z_3.2.1 7) (3 : Int32).toNatClampNeg))) + (1 : Int32)), .ref 382] h_16 i_173_66 rfl ?_
      refine wp_s 68 [some (.ref 382), some (.int x1), some (.int x2), some (.int ((120 : Int32) + ((4 : Int32) * ((z_3.2.1 7) (3 : Int32).toNatClampNeg))))] [.int (1 : Int32), .int (((120 : Int32) + ((4 : Int32) * ((z_3.2.1 7) (3 : Int32).toNatClampNeg))) + (1 : Int32)), .ref 382] h_16 i_173_67 rfl ?_
      refine wp_s 69 [some (.ref 382), some (.int x1), some (.int x2), some (.int ((120 : Int32) + ((4 : Int32) * ((z_3.2.1 7) (3 : Int32).toNatClampNeg))))] [.int x1, .int (1 : Int32), .int (((120 : Int32) + ((4 : Int32) * ((z_3.2.1 7) (3 : Int32).toNatClampNeg))) + (1 : Int32)), .ref 382] h_16 i_173_68 rfl ?_
      refine wp_if_ne 77 72 rfl rfl i_173_69 (fun c_19 => ?_) (fun c_19 => ?_)
      · rw [if_pos c_19] at hd
        refine wp_s 80 [some (.ref 382), some (.int x1), some (.int x2), some (.int ((120 : Int32) + ((4 : Int32) * ((z_3.2.1 7) (3 : Int32).toNatClampNeg))))] [.int (2000 : Int32), .int (1 : Int32), .int (((120 : Int32) + ((4 : Int32) * ((z_3.2.1 7) (3 : Int32).toNatClampNeg))) + (1 : Int32)), .ref 382] h_16 i_173_77 rfl ?_
        exact aWp.post (aWp.forget (j_173_80_ok hdp H_17.1 hd) ((lvS (lvS (lvS (lvS lvE)))))) (fun _ _ hq => ⟨hq.1, H_17.tr hq.2⟩)
      · rw [if_neg c_19] at hd
        refine wp_s 74 [some (.ref 382), some (.int x1), some (.int x2), some (.int ((120 : Int32) + ((4 : Int32) * ((z_3.2.1 7) (3 : Int32).toNatClampNeg))))] [.int (90 : Int32), .int (1 : Int32), .int (((120 : Int32) + ((4 : Int32) * ((z_3.2.1 7) (3 : Int32).toNatClampNeg))) + (1 : Int32)), .ref 382] h_16 i_173_72 rfl ?_
        refine wp_s 80 [some (.ref 382), some (.int x1), some (.int x2), some (.int ((120 : Int32) + ((4 : Int32) * ((z_3.2.1 7) (3 : Int32).toNatClampNeg))))] [.int (90 : Int32), .int (1 : Int32), .int (((120 : Int32) + ((4 : Int32) * ((z_3.2.1 7) (3 : Int32).toNatClampNeg))) + (1 : Int32)), .ref 382] h_16 i_173_74 rfl ?_
        exact aWp.post (aWp.forget (j_173_80_ok hdp H_17.1 hd) ((lvS (lvS (lvS (lvS lvE)))))) (fun _ _ hq => ⟨hq.1, H_17.tr hq.2⟩)
  · rw [if_neg c_2] at hd
    refine wp_s 11 [some (.ref 382), some (.int x1), some (.int x2), none] [.ref 382] h0 i_173_10 rfl ?_
    refine wp_s 12 [some (.ref 382), some (.int x1), some (.int x2), none] [.int (4 : Int32), .ref 382] h0 i_173_11 rfl ?_
    refine wp_s 13 [some (.ref 382), some (.int x1), some (.int x2), none] [.int x2, .int (4 : Int32), .ref 382] h0 i_173_12 rfl ?_
    obtain ⟨z_20, q_21, hd⟩ := dk_bind hd
    refine wp_callV 16 rfl i_173_13 (by decide) rfl (vs := [.int (4 : Int32), .int x2]) (rest := []) rfl rfl rfl (HH.1 0 (by decide)) (y := m_145) rfl (Nat.le_of_ble_eq_true rfl) (d_145_ok (d := e) (by omega) HH.1 q_21) ?_
    rintro v_24 h_22 ⟨rfl, H_23⟩
    have H_23 := HH.tr H_23
    obtain ⟨b_25, hd⟩ := dk_if hd
    obtain rfl := Option.some.inj hd
    exact wp_iretZ (z := 0) i_173_16 b_25 ⟨rfl, H_23⟩
def d_174 (g : Nat)  (S : rS) : Option (Int32 × rS) := ((d_150 g  S).bind (fun z_1 => (if aIn (3 : Int32) 140 = true then ((d_152 g (0 : Int32) (((z_1.2.1 7) (3 : Int32).toNatClampNeg) - (1 : Int32)) z_1).bind (fun z_7 => (if ¬ z_7.1 = 0 then ((d_146 g  z_7.2).bind (fun z_13 => (if aIn (3 : Int32) 140 = true then ((d_152 g (0 : Int32) (((z_13.2.2.1 7) (3 : Int32).toNatClampNeg) - (1 : Int32)) z_13.2).bind (fun z_19 => (if ¬ z_19.1 = 0 then (if ¬ (z_19.2.1 10) = (z_7.2.1 10) then (if aIn (((120 : Int32) + ((4 : Int32) * (z_7.2.1 10))) + (3 : Int32)) 140 = true then (if aIn (((120 : Int32) + ((4 : Int32) * (z_7.2.1 10))) + (3 : Int32)) 140 = true then (if aIn (((120 : Int32) + ((4 : Int32) * (z_19.2.1 10))) + (3 : Int32)) 140 = true then (if aIn (((120 : Int32) + ((4 : Int32) * (z_19.2.1 10))) + (3 : Int32)) 140 = true then some ((1 : Int32), (rA (rA z_19.2 7 (upd (z_19.2.2.1 7) (((120 : Int32) + ((4 : Int32) * (z_7.2.1 10))) + (3 : Int32)).toNatClampNeg (((z_19.2.2.1 7) (((120 : Int32) + ((4 : Int32) * (z_7.2.1 10))) + (3 : Int32)).toNatClampNeg) ||| ((1 : Int32) <<< ((z_19.2.1 10) &&& 31))))) 7 (upd (upd (z_19.2.2.1 7) (((120 : Int32) + ((4 : Int32) * (z_7.2.1 10))) + (3 : Int32)).toNatClampNeg (((z_19.2.2.1 7) (((120 : Int32) + ((4 : Int32) * (z_7.2.1 10))) + (3 : Int32)).toNatClampNeg) ||| ((1 : Int32) <<< ((z_19.2.1 10) &&& 31)))) (((120 : Int32) + ((4 : Int32) * (z_19.2.1 10))) + (3 : Int32)).toNatClampNeg (((upd (z_19.2.2.1 7) (((120 : Int32) + ((4 : Int32) * (z_7.2.1 10))) + (3 : Int32)).toNatClampNeg (((z_19.2.2.1 7) (((120 : Int32) + ((4 : Int32) * (z_7.2.1 10))) + (3 : Int32)).toNatClampNeg) ||| ((1 : Int32) <<< ((z_19.2.1 10) &&& 31)))) (((120 : Int32) + ((4 : Int32) * (z_19.2.1 10))) + (3 : Int32)).toNatClampNeg) ||| ((1 : Int32) <<< ((z_7.2.1 10) &&& 31)))))) else none) else none) else none) else none) else ((d_145 g (1 : Int32) (z_13.2.1 8) z_19.2).bind (fun z_34 => (if z_34.1 = 0 ∨ z_34.1 = 1 then some (z_34.1, z_34.2) else none)))) else some ((0 : Int32), z_19.2)))) else none))) else some ((0 : Int32), z_7.2)))) else none)))
set_option maxHeartbeats 4000000 in
set_option maxRecDepth 100000 in
theorem d_174_ok {X : aX} {g d : Nat}  {S : rS} {h0 : aH} {zz : Int32 × rS} (hdp : 2 ≤ d) (HS : rm h0 S) (hd : d_174 g  S = some zz) : aWp X d 174 0 (aEntL [.ref 382] 3) [] h0 (fun w h' => w = some (.int zz.1) ∧ rTo h0 zz.2 h') := by
  unfold d_174 at hd
  have HH := rTo.rf HS
  refine wp_lv (l2 := [some (.ref 382), none, none]) rfl ?_
  obtain ⟨e, rfl⟩ : ∃ e, d = e + 1 := ⟨d - 1, by omega⟩
  refine wp_s 1 [some (.ref 382), none, none] [.ref 382] h0 i_174_0 rfl ?_
  obtain ⟨z_1, q_2, hd⟩ := dk_bind hd
  refine wp_callV 4 rfl i_174_1 (by decide) rfl (vs := []) (rest := []) rfl rfl rfl (HH.1 0 (by decide)) (y := m_150) rfl (Nat.le_of_ble_eq_true rfl) (d_150_ok (d := e) (by omega) HH.1 q_2) ?_
  rintro v_5 h_3 ⟨rfl, H_4⟩
  have H_4 := HH.tr H_4
  refine wp_s 5 [some (.ref 382), none, none] [.ref 382] h_3 i_174_4 rfl ?_
  refine wp_s 6 [some (.ref 382), none, none] [.int (0 : Int32), .ref 382] h_3 i_174_5 rfl ?_
  refine wp_s 7 [some (.ref 382), none, none] [.ref 382, .int (0 : Int32), .ref 382] h_3 i_174_6 rfl ?_
  refine wp_get (v := .ref 388) 10 rfl i_174_7 (H_4.1 0 (by decide)) rfl ?_
  refine wp_s 11 [some (.ref 382), none, none] [.int (3 : Int32), .ref 388, .int (0 : Int32), .ref 382] h_3 i_174_10 rfl ?_
  obtain ⟨b_6, hd⟩ := dk_if hd
  refine wp_iald (f := (z_1.2.1 7)) 12 rfl i_174_11 (H_4.1 6 (by decide)) b_6 ?_
  refine wp_s 13 [some (.ref 382), none, none] [.int (1 : Int32), .int ((z_1.2.1 7) (3 : Int32).toNatClampNeg), .int (0 : Int32), .ref 382] h_3 i_174_12 rfl ?_
  refine wp_s 14 [some (.ref 382), none, none] [.int (((z_1.2.1 7) (3 : Int32).toNatClampNeg) - (1 : Int32)), .int (0 : Int32), .ref 382] h_3 i_174_13 rfl ?_
  obtain ⟨z_7, q_8, hd⟩ := dk_bind hd
  refine wp_callV 17 rfl i_174_14 (by decide) rfl (vs := [.int (0 : Int32), .int (((z_1.2.1 7) (3 : Int32).toNatClampNeg) - (1 : Int32))]) (rest := []) rfl rfl rfl (H_4.1 0 (by decide)) (y := m_152) rfl (Nat.le_of_ble_eq_true rfl) (d_152_ok (d := e) (by omega) H_4.1 q_8) ?_
  rintro v_11 h_9 ⟨rfl, H_10⟩
  have H_10 := H_4.tr H_10
  refine wp_if_ne 22 20 rfl rfl i_174_17 (fun c_12 => ?_) (fun c_12 => ?_)
  · rw [if_pos c_12] at hd
    refine wp_s 23 [some (.ref 382), none, none] [.ref 382] h_9 i_174_22 rfl ?_
    refine wp_get (v := .int (z_7.2.1 10)) 26 rfl i_174_23 (H_10.1 0 (by decide)) rfl ?_
    refine wp_s 27 [some (.ref 382), some (.int (z_7.2.1 10)), none] [] h_9 i_174_26 rfl ?_
    refine wp_s 28 [some (.ref 382), some (.int (z_7.2.1 10)), none] [.ref 382] h_9 i_174_27 rfl ?_
    obtain ⟨z_13, q_14, hd⟩ := dk_bind hd
    refine wp_callV 31 rfl i_174_28 (by decide) rfl (vs := []) (rest := []) rfl rfl rfl (H_10.1 0 (by decide)) (y := m_146) rfl (Nat.le_of_ble_eq_true rfl) (d_146_ok (d := e) (by omega) H_10.1 q_14) ?_
    rintro v_17 h_15 ⟨rfl, H_16⟩
    have H_16 := H_10.tr H_16
    refine wp_s 32 [some (.ref 382), some (.int (z_7.2.1 10)), none] [] h_15 i_174_31 rfl ?_
    refine wp_s 33 [some (.ref 382), some (.int (z_7.2.1 10)), none] [.ref 382] h_15 i_174_32 rfl ?_
    refine wp_get (v := .int (z_13.2.1 8)) 36 rfl i_174_33 (H_16.1 0 (by decide)) rfl ?_
    refine wp_s 37 [some (.ref 382), some (.int (z_7.2.1 10)), some (.int (z_13.2.1 8))] [] h_15 i_174_36 rfl ?_
    refine wp_s 38 [some (.ref 382), some (.int (z_7.2.1 10)), some (.int (z_13.2.1 8))] [.ref 382] h_15 i_174_37 rfl ?_
    refine wp_s 39 [some (.ref 382), some (.int (z_7.2.1 10)), some (.int (z_13.2.1 8))] [.int (0 : Int32), .ref 382] h_15 i_174_38 rfl ?_
    refine wp_s 40 [some (.ref 382), some (.int (z_7.2.1 10)), some (.int (z_13.2.1 8))] [.ref 382, .int (0 : Int32), .ref 382] h_15 i_174_39 rfl ?_
    refine wp_get (v := .ref 388) 43 rfl i_174_40 (H_16.1 0 (by decide)) rfl ?_
    refine wp_s 44 [some (.ref 382), some (.int (z_7.2.1 10)), some (.int (z_13.2.1 8))] [.int (3 : Int32), .ref 388, .int (0 : Int32), .ref 382] h_15 i_174_43 rfl ?_
    obtain ⟨b_18, hd⟩ := dk_if hd
    refine wp_iald (f := (z_13.2.2.1 7)) 45 rfl i_174_44 (H_16.1 6 (by decide)) b_18 ?_
    refine wp_s 46 [some (.ref 382), some (.int (z_7.2.1 10)), some (.int (z_13.2.1 8))] [.int (1 : Int32), .int ((z_13.2.2.1 7) (3 : Int32).toNatClampNeg), .int (0 : Int32), .ref 382] h_15 i_174_45 rfl ?_
    refine wp_s 47 [some (.ref 382), some (.int (z_7.2.1 10)), some (.int (z_13.2.1 8))] [.int (((z_13.2.2.1 7) (3 : Int32).toNatClampNeg) - (1 : Int32)), .int (0 : Int32), .ref 382] h_15 i_174_46 rfl ?_
    obtain ⟨z_19, q_20, hd⟩ := dk_bind hd
    refine wp_callV 50 rfl i_174_47 (by decide) rfl (vs := [.int (0 : Int32), .int (((z_13.2.2.1 7) (3 : Int32).toNatClampNeg) - (1 : Int32))]) (rest := []) rfl rfl rfl (H_16.1 0 (by decide)) (y := m_152) rfl (Nat.le_of_ble_eq_true rfl) (d_152_ok (d := e) (by omega) H_16.1 q_20) ?_
    rintro v_23 h_21 ⟨rfl, H_22⟩
    have H_22 := H_16.tr H_22
    refine wp_if_ne 55 53 rfl rfl i_174_50 (fun c_24 => ?_) (fun c_24 => ?_)
    · rw [if_pos c_24] at hd
      refine wp_s 56 [some (.ref 382), some (.int (z_7.2.1 10)), some (.int (z_13.2.1 8))] [.ref 382] h_21 i_174_55 rfl ?_
      refine wp_get (v := .int (z_19.2.1 10)) 59 rfl i_174_56 (H_22.1 0 (by decide)) rfl ?_
      refine wp_s 60 [some (.ref 382), some (.int (z_7.2.1 10)), some (.int (z_13.2.1 8))] [.int (z_7.2.1 10), .int (z_19.2.1 10)] h_21 i_174_59 rfl ?_
      refine wp_cmp_ne 70 63 rfl rfl i_174_60 (fun c_25 => ?_) (fun c_25 => ?_)
      · rw [if_pos c_25] at hd
        refine wp_s 71 [some (.ref 382), some (.int (z_7.2.1 10)), some (.int (z_13.2.1 8))] [.ref 382] h_21 i_174_70 rfl ?_
        refine wp_get (v := .ref 388) 74 rfl i_174_71 (H_22.1 0 (by decide)) rfl ?_
        refine wp_s 76 [some (.ref 382), some (.int (z_7.2.1 10)), some (.int (z_13.2.1 8))] [.int (120 : Int32), .ref 388] h_21 i_174_74 rfl ?_
        refine wp_s 77 [some (.ref 382), some (.int (z_7.2.1 10)), some (.int (z_13.2.1 8))] [.int (4 : Int32), .int (120 : Int32), .ref 388] h_21 i_174_76 rfl ?_
        refine wp_s 78 [some (.ref 382), some (.int (z_7.2.1 10)), some (.int (z_13.2.1 8))] [.int (z_7.2.1 10), .int (4 : Int32), .int (120 : Int32), .ref 388] h_21 i_174_77 rfl ?_
        refine wp_s 79 [some (.ref 382), some (.int (z_7.2.1 10)), some (.int (z_13.2.1 8))] [.int ((4 : Int32) * (z_7.2.1 10)), .int (120 : Int32), .ref 388] h_21 i_174_78 rfl ?_
        refine wp_s 80 [some (.ref 382), some (.int (z_7.2.1 10)), some (.int (z_13.2.1 8))] [.int ((120 : Int32) + ((4 : Int32) * (z_7.2.1 10))), .ref 388] h_21 i_174_79 rfl ?_
        refine wp_s 81 [some (.ref 382), some (.int (z_7.2.1 10)), some (.int (z_13.2.1 8))] [.int (3 : Int32), .int ((120 : Int32) + ((4 : Int32) * (z_7.2.1 10))), .ref 388] h_21 i_174_80 rfl ?_
        refine wp_s 82 [some (.ref 382), some (.int (z_7.2.1 10)), some (.int (z_13.2.1 8))] [.int (((120 : Int32) + ((4 : Int32) * (z_7.2.1 10))) + (3 : Int32)), .ref 388] h_21 i_174_81 rfl ?_
        refine wp_s 83 [some (.ref 382), some (.int (z_7.2.1 10)), some (.int (z_13.2.1 8))] [.int (((120 : Int32) + ((4 : Int32) * (z_7.2.1 10))) + (3 : Int32)), .ref 388, .int (((120 : Int32) + ((4 : Int32) * (z_7.2.1 10))) + (3 : Int32)), .ref 388] h_21 i_174_82 rfl ?_
        obtain ⟨b_26, hd⟩ := dk_if hd
        refine wp_iald (f := (z_19.2.2.1 7)) 84 rfl i_174_83 (H_22.1 6 (by decide)) b_26 ?_
        refine wp_s 85 [some (.ref 382), some (.int (z_7.2.1 10)), some (.int (z_13.2.1 8))] [.int (1 : Int32), .int ((z_19.2.2.1 7) (((120 : Int32) + ((4 : Int32) * (z_7.2.1 10))) + (3 : Int32)).toNatClampNeg), .int (((120 : Int32) + ((4 : Int32) * (z_7.2.1 10))) + (3 : Int32)), .ref 388] h_21 i_174_84 rfl ?_
        refine wp_s 86 [some (.ref 382), some (.int (z_7.2.1 10)), some (.int (z_13.2.1 8))] [.ref 382, .int (1 : Int32), .int ((z_19.2.2.1 7) (((120 : Int32) + ((4 : Int32) * (z_7.2.1 10))) + (3 : Int32)).toNatClampNeg), .int (((120 : Int32) + ((4 : Int32) * (z_7.2.1 10))) + (3 : Int32)), .ref 388] h_21 i_174_85 rfl ?_
        refine wp_get (v := .int (z_19.2.1 10)) 89 rfl i_174_86 (H_22.1 0 (by decide)) rfl ?_
        refine wp_s 90 [some (.ref 382), some (.int (z_7.2.1 10)), some (.int (z_13.2.1 8))] [.int ((1 : Int32) <<< ((z_19.2.1 10) &&& 31)), .int ((z_19.2.2.1 7) (((120 : Int32) + ((4 : Int32) * (z_7.2.1 10))) + (3 : Int32)).toNatClampNeg), .int (((120 : Int32) + ((4 : Int32) * (z_7.2.1 10))) + (3 : Int32)), .ref 388] h_21 i_174_89 rfl ?_
        refine wp_s 91 [some (.ref 382), some (.int (z_7.2.1 10)), some (.int (z_13.2.1 8))] [.int (((z_19.2.2.1 7) (((120 : Int32) + ((4 : Int32) * (z_7.2.1 10))) + (3 : Int32)).toNatClampNeg) ||| ((1 : Int32) <<< ((z_19.2.1 10) &&& 31))), .int (((120 : Int32) + ((4 : Int32) * (z_7.2.1 10))) + (3 : Int32)), .ref 388] h_21 i_174_90 rfl ?_
        obtain ⟨b_27, hd⟩ := dk_if hd
        refine rq_A7 92 rfl i_174_91 H_22 b_27 (fun h_28 H_29 => ?_)
        refine wp_s 93 [some (.ref 382), some (.int (z_7.2.1 10)), some (.int (z_13.2.1 8))] [.ref 382] h_28 i_174_92 rfl ?_
        refine wp_get (v := .ref 388) 96 rfl i_174_93 (H_29.1 0 (by decide)) rfl ?_
        refine wp_s 98 [some (.ref 382), some (.int (z_7.2.1 10)), some (.int (z_13.2.1 8))] [.int (120 : Int32), .ref 388] h_28 i_174_96 rfl ?_
        refine wp_s 99 [some (.ref 382), some (.int (z_7.2.1 10)), some (.int (z_13.2.1 8))] [.int (4 : Int32), .int (120 : Int32), .ref 388] h_28 i_174_98 rfl ?_
        refine wp_s 100 [some (.ref 382), some (.int (z_7.2.1 10)), some (.int (z_13.2.1 8))] [.ref 382, .int (4 : Int32), .int (120 : Int32), .ref 388] h_28 i_174_99 rfl ?_
        refine wp_get (v := .int (z_19.2.1 10)) 103 rfl i_174_100 (H_29.1 0 (by decide)) rfl ?_
        refine wp_s 104 [some (.ref 382), some (.int (z_7.2.1 10)), some (.int (z_13.2.1 8))] [.int ((4 : Int32) * (z_19.2.1 10)), .int (120 : Int32), .ref 388] h_28 i_174_103 rfl ?_
        refine wp_s 105 [some (.ref 382), some (.int (z_7.2.1 10)), some (.int (z_13.2.1 8))] [.int ((120 : Int32) + ((4 : Int32) * (z_19.2.1 10))), .ref 388] h_28 i_174_104 rfl ?_
        refine wp_s 106 [some (.ref 382), some (.int (z_7.2.1 10)), some (.int (z_13.2.1 8))] [.int (3 : Int32), .int ((120 : Int32) + ((4 : Int32) * (z_19.2.1 10))), .ref 388] h_28 i_174_105 rfl ?_
        refine wp_s 107 [some (.ref 382), some (.int (z_7.2.1 10)), some (.int (z_13.2.1 8))] [.int (((120 : Int32) + ((4 : Int32) * (z_19.2.1 10))) + (3 : Int32)), .ref 388] h_28 i_174_106 rfl ?_
        refine wp_s 108 [some (.ref 382), some (.int (z_7.2.1 10)), some (.int (z_13.2.1 8))] [.int (((120 : Int32) + ((4 : Int32) * (z_19.2.1 10))) + (3 : Int32)), .ref 388, .int (((120 : Int32) + ((4 : Int32) * (z_19.2.1 10))) + (3 : Int32)), .ref 388] h_28 i_174_107 rfl ?_
        obtain ⟨b_30, hd⟩ := dk_if hd
        refine wp_iald (f := (upd (z_19.2.2.1 7) (((120 : Int32) + ((4 : Int32) * (z_7.2.1 10))) + (3 : Int32)).toNatClampNeg (((z_19.2.2.1 7) (((120 : Int32) + ((4 : Int32) * (z_7.2.1 10))) + (3 : Int32)).toNatClampNeg) ||| ((1 : Int32) <<< ((z_19.2.1 10) &&& 31))))) 109 rfl i_174_108 (H_29.1 6 (by decide)) b_30 ?_
        refine wp_s 110 [some (.ref 382), some (.int (z_7.2.1 10)), some (.int (z_13.2.1 8))] [.int (1 : Int32), .int ((upd (z_19.2.2.1 7) (((120 : Int32) + ((4 : Int32) * (z_7.2.1 10))) + (3 : Int32)).toNatClampNeg (((z_19.2.2.1 7) (((120 : Int32) + ((4 : Int32) * (z_7.2.1 10))) + (3 : Int32)).toNatClampNeg) ||| ((1 : Int32) <<< ((z_19.2.1 10) &&& 31)))) (((120 : Int32) + ((4 : Int32) * (z_19.2.1 10))) + (3 : Int32)).toNatClampNeg), .int (((120 : Int32) + ((4 : Int32) * (z_19.2.1 10))) + (3 : Int32)), .ref 388] h_28 i_174_109 rfl ?_
        refine wp_s 111 [some (.ref 382), some (.int (z_7.2.1 10)), some (.int (z_13.2.1 8))] [.int (z_7.2.1 10), .int (1 : Int32), .int ((upd (z_19.2.2.1 7) (((120 : Int32) + ((4 : Int32) * (z_7.2.1 10))) + (3 : Int32)).toNatClampNeg (((z_19.2.2.1 7) (((120 : Int32) + ((4 : Int32) * (z_7.2.1 10))) + (3 : Int32)).toNatClampNeg) ||| ((1 : Int32) <<< ((z_19.2.1 10) &&& 31)))) (((120 : Int32) + ((4 : Int32) * (z_19.2.1 10))) + (3 : Int32)).toNatClampNeg), .int (((120 : Int32) + ((4 : Int32) * (z_19.2.1 10))) + (3 : Int32)), .ref 388] h_28 i_174_110 rfl ?_
        refine wp_s 112 [some (.ref 382), some (.int (z_7.2.1 10)), some (.int (z_13.2.1 8))] [.int ((1 : Int32) <<< ((z_7.2.1 10) &&& 31)), .int ((upd (z_19.2.2.1 7) (((120 : Int32) + ((4 : Int32) * (z_7.2.1 10))) + (3 : Int32)).toNatClampNeg (((z_19.2.2.1 7) (((120 : Int32) + ((4 : Int32) * (z_7.2.1 10))) + (3 : Int32)).toNatClampNeg) ||| ((1 : Int32) <<< ((z_19.2.1 10) &&& 31)))) (((120 : Int32) + ((4 : Int32) * (z_19.2.1 10))) + (3 : Int32)).toNatClampNeg), .int (((120 : Int32) + ((4 : Int32) * (z_19.2.1 10))) + (3 : Int32)), .ref 388] h_28 i_174_111 rfl ?_
        refine wp_s 113 [some (.ref 382), some (.int (z_7.2.1 10)), some (.int (z_13.2.1 8))] [.int (((upd (z_19.2.2.1 7) (((120 : Int32) + ((4 : Int32) * (z_7.2.1 10))) + (3 : Int32)).toNatClampNeg (((z_19.2.2.1 7) (((120 : Int32) + ((4 : Int32) * (z_7.2.1 10))) + (3 : Int32)).toNatClampNeg) ||| ((1 : Int32) <<< ((z_19.2.1 10) &&& 31)))) (((120 : Int32) + ((4 : Int32) * (z_19.2.1 10))) + (3 : Int32)).toNatClampNeg) ||| ((1 : Int32) <<< ((z_7.2.1 10) &&& 31))), .int (((120 : Int32) + ((4 : Int32) * (z_19.2.1 10))) + (3 : Int32)), .ref 388] h_28 i_174_112 rfl ?_
        obtain ⟨b_31, hd⟩ := dk_if hd
        refine rq_A7 114 rfl i_174_113 H_29 b_31 (fun h_32 H_33 => ?_)
        refine wp_s 115 [some (.ref 382), some (.int (z_7.2.1 10)), some (.int (z_13.2.1 8))] [.int (1 : Int32)] h_32 i_174_114 rfl ?_
        obtain rfl := Option.some.inj hd
        exact wp_iretZ (z := 0) i_174_115 (by decide) ⟨rfl, H_33⟩
      · rw [if_neg c_25] at hd
        refine wp_s 64 [some (.ref 382), some (.int (z_7.2.1 10)), some (.int (z_13.2.1 8))] [.ref 382] h_21 i_174_63 rfl ?_
        refine wp_s 65 [some (.ref 382), some (.int (z_7.2.1 10)), some (.int (z_13.2.1 8))] [.int (1 : Int32), .ref 382] h_21 i_174_64 rfl ?_
        refine wp_s 66 [some (.ref 382), some (.int (z_7.2.1 10)), some (.int (z_13.2.1 8))] [.int (z_13.2.1 8), .int (1 : Int32), .ref 382] h_21 i_174_65 rfl ?_
        obtain ⟨z_34, q_35, hd⟩ := dk_bind hd
        refine wp_callV 69 rfl i_174_66 (by decide) rfl (vs := [.int (1 : Int32), .int (z_13.2.1 8)]) (rest := []) rfl rfl rfl (H_22.1 0 (by decide)) (y := m_145) rfl (Nat.le_of_ble_eq_true rfl) (d_145_ok (d := e) (by omega) H_22.1 q_35) ?_
        rintro v_38 h_36 ⟨rfl, H_37⟩
        have H_37 := H_22.tr H_37
        obtain ⟨b_39, hd⟩ := dk_if hd
        obtain rfl := Option.some.inj hd
        exact wp_iretZ (z := 0) i_174_69 b_39 ⟨rfl, H_37⟩
    · rw [if_neg c_24] at hd
      refine wp_s 54 [some (.ref 382), some (.int (z_7.2.1 10)), some (.int (z_13.2.1 8))] [.int (0 : Int32)] h_21 i_174_53 rfl ?_
      obtain rfl := Option.some.inj hd
      exact wp_iretZ (z := 0) i_174_54 (by decide) ⟨rfl, H_22⟩
  · rw [if_neg c_12] at hd
    refine wp_s 21 [some (.ref 382), none, none] [.int (0 : Int32)] h_9 i_174_20 rfl ?_
    obtain rfl := Option.some.inj hd
    exact wp_iretZ (z := 0) i_174_21 (by decide) ⟨rfl, H_10⟩
def d_175 (g : Nat) (x1 : Int32) (S : rS) : Option (Int32 × rS) := (if aIn (6 : Int32) 140 = true then (if ((S.2.1 7) (6 : Int32).toNatClampNeg) ≤ 0 then ((d_150 g  S).bind (fun z_3 => (if aIn (6 : Int32) 140 = true then some ((1 : Int32), (rA z_3 7 (upd (z_3.2.1 7) (6 : Int32).toNatClampNeg (1 : Int32)))) else none))) else ((d_145 g (4 : Int32) x1 S).bind (fun z_11 => (if z_11.1 = 0 ∨ z_11.1 = 1 then some (z_11.1, z_11.2) else none)))) else none)
set_option maxHeartbeats 4000000 in
set_option maxRecDepth 100000 in
theorem d_175_ok {X : aX} {g d : Nat} {x1 : Int32} {S : rS} {h0 : aH} {zz : Int32 × rS} (hdp : 2 ≤ d) (HS : rm h0 S) (hd : d_175 g x1 S = some zz) : aWp X d 175 0 (aEntL [.ref 382, .int x1] 2) [] h0 (fun w h' => w = some (.int zz.1) ∧ rTo h0 zz.2 h') := by
  unfold d_175 at hd
  have HH := rTo.rf HS
  refine wp_lv (l2 := [some (.ref 382), some (.int x1)]) rfl ?_
  obtain ⟨e, rfl⟩ : ∃ e, d = e + 1 := ⟨d - 1, by omega⟩
  refine wp_s 1 [some (.ref 382), some (.int x1)] [.ref 382] h0 i_175_0 rfl ?_
  refine wp_get (v := .ref 388) 4 rfl i_175_1 (HH.1 0 (by decide)) rfl ?_
  refine wp_s 6 [some (.ref 382), some (.int x1)] [.int (6 : Int32), .ref 388] h0 i_175_4 rfl ?_
  obtain ⟨b_1, hd⟩ := dk_if hd
  refine wp_iald (f := (S.2.1 7)) 7 rfl i_175_6 (HH.1 6 (by decide)) b_1 ?_
  refine wp_if_le 17 10 rfl rfl i_175_7 (fun c_2 => ?_) (fun c_2 => ?_)
  · rw [if_pos c_2] at hd
    refine wp_s 18 [some (.ref 382), some (.int x1)] [.ref 382] h0 i_175_17 rfl ?_
    obtain ⟨z_3, q_4, hd⟩ := dk_bind hd
    refine wp_callV 21 rfl i_175_18 (by decide) rfl (vs := []) (rest := []) rfl rfl rfl (HH.1 0 (by decide)) (y := m_150) rfl (Nat.le_of_ble_eq_true rfl) (d_150_ok (d := e) (by omega) HH.1 q_4) ?_
    rintro v_7 h_5 ⟨rfl, H_6⟩
    have H_6 := HH.tr H_6
    refine wp_s 22 [some (.ref 382), some (.int x1)] [.ref 382] h_5 i_175_21 rfl ?_
    refine wp_get (v := .ref 388) 25 rfl i_175_22 (H_6.1 0 (by decide)) rfl ?_
    refine wp_s 27 [some (.ref 382), some (.int x1)] [.int (6 : Int32), .ref 388] h_5 i_175_25 rfl ?_
    refine wp_s 28 [some (.ref 382), some (.int x1)] [.int (1 : Int32), .int (6 : Int32), .ref 388] h_5 i_175_27 rfl ?_
    obtain ⟨b_8, hd⟩ := dk_if hd
    refine rq_A7 29 rfl i_175_28 H_6 b_8 (fun h_9 H_10 => ?_)
    refine wp_s 30 [some (.ref 382), some (.int x1)] [.int (1 : Int32)] h_9 i_175_29 rfl ?_
    obtain rfl := Option.some.inj hd
    exact wp_iretZ (z := 0) i_175_30 (by decide) ⟨rfl, H_10⟩
  · rw [if_neg c_2] at hd
    refine wp_s 11 [some (.ref 382), some (.int x1)] [.ref 382] h0 i_175_10 rfl ?_
    refine wp_s 12 [some (.ref 382), some (.int x1)] [.int (4 : Int32), .ref 382] h0 i_175_11 rfl ?_
    refine wp_s 13 [some (.ref 382), some (.int x1)] [.int x1, .int (4 : Int32), .ref 382] h0 i_175_12 rfl ?_
    obtain ⟨z_11, q_12, hd⟩ := dk_bind hd
    refine wp_callV 16 rfl i_175_13 (by decide) rfl (vs := [.int (4 : Int32), .int x1]) (rest := []) rfl rfl rfl (HH.1 0 (by decide)) (y := m_145) rfl (Nat.le_of_ble_eq_true rfl) (d_145_ok (d := e) (by omega) HH.1 q_12) ?_
    rintro v_15 h_13 ⟨rfl, H_14⟩
    have H_14 := HH.tr H_14
    obtain ⟨b_16, hd⟩ := dk_if hd
    obtain rfl := Option.some.inj hd
    exact wp_iretZ (z := 0) i_175_16 b_16 ⟨rfl, H_14⟩
def d_176 (g : Nat) (x1 : Int32) (S : rS) : Option (Int32 × rS) := ((d_149 g (1936224112 : Int64) S).bind (fun z_1 => (if z_1.1 = 0 then (if aIn (0 : Int32) 140 = true then (if ¬ ((z_1.2.2.1 7) (0 : Int32).toNatClampNeg) = 0 then ((d_149 g (499967946343 : Int64) z_1.2).bind (fun z_9 => (if z_9.1 = 0 then ((d_149 g (2002873972 : Int64) z_9.2).bind (fun z_15 => (if z_15.1 = 0 then ((d_149 g (1935764581 : Int64) z_15.2).bind (fun z_21 => (if z_21.1 = 0 then ((d_149 g (31636739359862388 : Int64) z_21.2).bind (fun z_27 => (if z_27.1 = 0 then ((d_149 g (7300710 : Int64) z_27.2).bind (fun z_33 => (if z_33.1 = 0 then ((d_149 g (1886352244 : Int64) z_33.2).bind (fun z_39 => (if z_39.1 = 0 then ((d_149 g (418431069797 : Int64) z_39.2).bind (fun z_45 => (if z_45.1 = 0 then ((d_175 g x1 z_45.2).bind (fun z_51 => (if z_51.1 = 0 ∨ z_51.1 = 1 then some (z_51.1, z_51.2) else none))) else ((d_174 g  z_45.2).bind (fun z_57 => (if z_57.1 = 0 ∨ z_57.1 = 1 then some (z_57.1, z_57.2) else none)))))) else ((d_173 g (2 : Int32) x1 z_39.2).bind (fun z_63 => (if z_63.1 = 0 ∨ z_63.1 = 1 then some (z_63.1, z_63.2) else none)))))) else ((d_173 g (1 : Int32) x1 z_33.2).bind (fun z_69 => (if z_69.1 = 0 ∨ z_69.1 = 1 then some (z_69.1, z_69.2) else none)))))) else ((d_173 g (0 : Int32) x1 z_27.2).bind (fun z_75 => (if z_75.1 = 0 ∨ z_75.1 = 1 then some (z_75.1, z_75.2) else none)))))) else ((d_172 g x1 z_21.2).bind (fun z_81 => (if z_81.1 = 0 ∨ z_81.1 = 1 then some (z_81.1, z_81.2) else none)))))) else ((d_171 g x1 z_15.2).bind (fun z_87 => (if z_87.1 = 0 ∨ z_87.1 = 1 then some (z_87.1, z_87.2) else none)))))) else ((d_170 g x1 z_9.2).bind (fun z_93 => (if z_93.1 = 0 ∨ z_93.1 = 1 then some (z_93.1, z_93.2) else none)))))) else ((d_145 g (4 : Int32) x1 z_1.2).bind (fun z_99 => (if z_99.1 = 0 ∨ z_99.1 = 1 then some (z_99.1, z_99.2) else none)))) else none) else ((d_169 g x1 z_1.2).bind (fun z_105 => (if z_105.1 = 0 ∨ z_105.1 = 1 then some (z_105.1, z_105.2) else none))))))
set_option maxHeartbeats 4000000 in
set_option maxRecDepth 100000 in
theorem d_176_ok {X : aX} {g d : Nat} {x1 : Int32} {S : rS} {h0 : aH} {zz : Int32 × rS} (hdp : 4 ≤ d) (HS : rm h0 S) (hd : d_176 g x1 S = some zz) : aWp X d 176 0 (aEntL [.ref 382, .int x1] 2) [] h0 (fun w h' => w = some (.int zz.1) ∧ rTo h0 zz.2 h') := by
  unfold d_176 at hd
  have HH := rTo.rf HS
  refine wp_lv (l2 := [some (.ref 382), some (.int x1)]) rfl ?_
  obtain ⟨e, rfl⟩ : ∃ e, d = e + 1 := ⟨d - 1, by omega⟩
  refine wp_s 1 [some (.ref 382), some (.int x1)] [.ref 382] h0 i_176_0 rfl ?_
  refine wp_s 4 [some (.ref 382), some (.int x1)] [.long (1936224112 : Int64), .ref 382] h0 i_176_1 rfl ?_
  obtain ⟨z_1, q_2, hd⟩ := dk_bind hd
  refine wp_callV 7 rfl i_176_4 (by decide) rfl (vs := [.long (1936224112 : Int64)]) (rest := []) rfl rfl rfl (HH.1 0 (by decide)) (y := m_149) rfl (Nat.le_of_ble_eq_true rfl) (d_149_ok (d := e) (by omega) HH.1 q_2) ?_
  rintro v_5 h_3 ⟨rfl, H_4⟩
  have H_4 := HH.tr H_4
  refine wp_if_eq 16 10 rfl rfl i_176_7 (fun c_6 => ?_) (fun c_6 => ?_)
  · rw [if_pos c_6] at hd
    refine wp_s 17 [some (.ref 382), some (.int x1)] [.ref 382] h_3 i_176_16 rfl ?_
    refine wp_get (v := .ref 388) 20 rfl i_176_17 (H_4.1 0 (by decide)) rfl ?_
    refine wp_s 21 [some (.ref 382), some (.int x1)] [.int (0 : Int32), .ref 388] h_3 i_176_20 rfl ?_
    obtain ⟨b_7, hd⟩ := dk_if hd
    refine wp_iald (f := (z_1.2.2.1 7)) 22 rfl i_176_21 (H_4.1 6 (by decide)) b_7 ?_
    refine wp_if_ne 32 25 rfl rfl i_176_22 (fun c_8 => ?_) (fun c_8 => ?_)
    · rw [if_pos c_8] at hd
      refine wp_s 33 [some (.ref 382), some (.int x1)] [.ref 382] h_3 i_176_32 rfl ?_
      refine wp_s 36 [some (.ref 382), some (.int x1)] [.long (499967946343 : Int64), .ref 382] h_3 i_176_33 rfl ?_
      obtain ⟨z_9, q_10, hd⟩ := dk_bind hd
      refine wp_callV 39 rfl i_176_36 (by decide) rfl (vs := [.long (499967946343 : Int64)]) (rest := []) rfl rfl rfl (H_4.1 0 (by decide)) (y := m_149) rfl (Nat.le_of_ble_eq_true rfl) (d_149_ok (d := e) (by omega) H_4.1 q_10) ?_
      rintro v_13 h_11 ⟨rfl, H_12⟩
      have H_12 := H_4.tr H_12
      refine wp_if_eq 48 42 rfl rfl i_176_39 (fun c_14 => ?_) (fun c_14 => ?_)
      · rw [if_pos c_14] at hd
        refine wp_s 49 [some (.ref 382), some (.int x1)] [.ref 382] h_11 i_176_48 rfl ?_
        refine wp_s 52 [some (.ref 382), some (.int x1)] [.long (2002873972 : Int64), .ref 382] h_11 i_176_49 rfl ?_
        obtain ⟨z_15, q_16, hd⟩ := dk_bind hd
        refine wp_callV 55 rfl i_176_52 (by decide) rfl (vs := [.long (2002873972 : Int64)]) (rest := []) rfl rfl rfl (H_12.1 0 (by decide)) (y := m_149) rfl (Nat.le_of_ble_eq_true rfl) (d_149_ok (d := e) (by omega) H_12.1 q_16) ?_
        rintro v_19 h_17 ⟨rfl, H_18⟩
        have H_18 := H_12.tr H_18
        refine wp_if_eq 64 58 rfl rfl i_176_55 (fun c_20 => ?_) (fun c_20 => ?_)
        · rw [if_pos c_20] at hd
          refine wp_s 65 [some (.ref 382), some (.int x1)] [.ref 382] h_17 i_176_64 rfl ?_
          refine wp_s 68 [some (.ref 382), some (.int x1)] [.long (1935764581 : Int64), .ref 382] h_17 i_176_65 rfl ?_
          obtain ⟨z_21, q_22, hd⟩ := dk_bind hd
          refine wp_callV 71 rfl i_176_68 (by decide) rfl (vs := [.long (1935764581 : Int64)]) (rest := []) rfl rfl rfl (H_18.1 0 (by decide)) (y := m_149) rfl (Nat.le_of_ble_eq_true rfl) (d_149_ok (d := e) (by omega) H_18.1 q_22) ?_
          rintro v_25 h_23 ⟨rfl, H_24⟩
          have H_24 := H_18.tr H_24
          refine wp_if_eq 80 74 rfl rfl i_176_71 (fun c_26 => ?_) (fun c_26 => ?_)
          · rw [if_pos c_26] at hd
            refine wp_s 81 [some (.ref 382), some (.int x1)] [.ref 382] h_23 i_176_80 rfl ?_
            refine wp_s 84 [some (.ref 382), some (.int x1)] [.long (31636739359862388 : Int64), .ref 382] h_23 i_176_81 rfl ?_
            obtain ⟨z_27, q_28, hd⟩ := dk_bind hd
            refine wp_callV 87 rfl i_176_84 (by decide) rfl (vs := [.long (31636739359862388 : Int64)]) (rest := []) rfl rfl rfl (H_24.1 0 (by decide)) (y := m_149) rfl (Nat.le_of_ble_eq_true rfl) (d_149_ok (d := e) (by omega) H_24.1 q_28) ?_
            rintro v_31 h_29 ⟨rfl, H_30⟩
            have H_30 := H_24.tr H_30
            refine wp_if_eq 97 90 rfl rfl i_176_87 (fun c_32 => ?_) (fun c_32 => ?_)
            · rw [if_pos c_32] at hd
              refine wp_s 98 [some (.ref 382), some (.int x1)] [.ref 382] h_29 i_176_97 rfl ?_
              refine wp_s 101 [some (.ref 382), some (.int x1)] [.long (7300710 : Int64), .ref 382] h_29 i_176_98 rfl ?_
              obtain ⟨z_33, q_34, hd⟩ := dk_bind hd
              refine wp_callV 104 rfl i_176_101 (by decide) rfl (vs := [.long (7300710 : Int64)]) (rest := []) rfl rfl rfl (H_30.1 0 (by decide)) (y := m_149) rfl (Nat.le_of_ble_eq_true rfl) (d_149_ok (d := e) (by omega) H_30.1 q_34) ?_
              rintro v_37 h_35 ⟨rfl, H_36⟩
              have H_36 := H_30.tr H_36
              refine wp_if_eq 114 107 rfl rfl i_176_104 (fun c_38 => ?_) (fun c_38 => ?_)
              · rw [if_pos c_38] at hd
                refine wp_s 115 [some (.ref 382), some (.int x1)] [.ref 382] h_35 i_176_114 rfl ?_
                refine wp_s 118 [some (.ref 382), some (.int x1)] [.long (1886352244 : Int64), .ref 382] h_35 i_176_115 rfl ?_
                obtain ⟨z_39, q_40, hd⟩ := dk_bind hd
                refine wp_callV 121 rfl i_176_118 (by decide) rfl (vs := [.long (1886352244 : Int64)]) (rest := []) rfl rfl rfl (H_36.1 0 (by decide)) (y := m_149) rfl (Nat.le_of_ble_eq_true rfl) (d_149_ok (d := e) (by omega) H_36.1 q_40) ?_
                rintro v_43 h_41 ⟨rfl, H_42⟩
                have H_42 := H_36.tr H_42
                refine wp_if_eq 131 124 rfl rfl i_176_121 (fun c_44 => ?_) (fun c_44 => ?_)
                · rw [if_pos c_44] at hd
                  refine wp_s 132 [some (.ref 382), some (.int x1)] [.ref 382] h_41 i_176_131 rfl ?_
                  refine wp_s 135 [some (.ref 382), some (.int x1)] [.long (418431069797 : Int64), .ref 382] h_41 i_176_132 rfl ?_
                  obtain ⟨z_45, q_46, hd⟩ := dk_bind hd
                  refine wp_callV 138 rfl i_176_135 (by decide) rfl (vs := [.long (418431069797 : Int64)]) (rest := []) rfl rfl rfl (H_42.1 0 (by decide)) (y := m_149) rfl (Nat.le_of_ble_eq_true rfl) (d_149_ok (d := e) (by omega) H_42.1 q_46) ?_
                  rintro v_49 h_47 ⟨rfl, H_48⟩
                  have H_48 := H_42.tr H_48
                  refine wp_if_eq 148 141 rfl rfl i_176_138 (fun c_50 => ?_) (fun c_50 => ?_)
                  · rw [if_pos c_50] at hd
                    refine wp_s 149 [some (.ref 382), some (.int x1)] [.ref 382] h_47 i_176_148 rfl ?_
                    refine wp_s 150 [some (.ref 382), some (.int x1)] [.int x1, .ref 382] h_47 i_176_149 rfl ?_
                    obtain ⟨z_51, q_52, hd⟩ := dk_bind hd
                    refine wp_callV 153 rfl i_176_150 (by decide) rfl (vs := [.int x1]) (rest := []) rfl rfl rfl (H_48.1 0 (by decide)) (y := m_175) rfl (Nat.le_of_ble_eq_true rfl) (d_175_ok (d := e) (by omega) H_48.1 q_52) ?_
                    rintro v_55 h_53 ⟨rfl, H_54⟩
                    have H_54 := H_48.tr H_54
                    obtain ⟨b_56, hd⟩ := dk_if hd
                    obtain rfl := Option.some.inj hd
                    exact wp_iretZ (z := 0) i_176_153 b_56 ⟨rfl, H_54⟩
                  · rw [if_neg c_50] at hd
                    refine wp_s 142 [some (.ref 382), some (.int x1)] [.ref 382] h_47 i_176_141 rfl ?_
                    obtain ⟨z_57, q_58, hd⟩ := dk_bind hd
                    refine wp_callV 145 rfl i_176_142 (by decide) rfl (vs := []) (rest := []) rfl rfl rfl (H_48.1 0 (by decide)) (y := m_174) rfl (Nat.le_of_ble_eq_true rfl) (d_174_ok (d := e) (by omega) H_48.1 q_58) ?_
                    rintro v_61 h_59 ⟨rfl, H_60⟩
                    have H_60 := H_48.tr H_60
                    refine wp_s 153 [some (.ref 382), some (.int x1)] [.int z_57.1] h_59 i_176_145 rfl ?_
                    obtain ⟨b_62, hd⟩ := dk_if hd
                    obtain rfl := Option.some.inj hd
                    exact wp_iretZ (z := 0) i_176_153 b_62 ⟨rfl, H_60⟩
                · rw [if_neg c_44] at hd
                  refine wp_s 125 [some (.ref 382), some (.int x1)] [.ref 382] h_41 i_176_124 rfl ?_
                  refine wp_s 126 [some (.ref 382), some (.int x1)] [.int (2 : Int32), .ref 382] h_41 i_176_125 rfl ?_
                  refine wp_s 127 [some (.ref 382), some (.int x1)] [.int x1, .int (2 : Int32), .ref 382] h_41 i_176_126 rfl ?_
                  obtain ⟨z_63, q_64, hd⟩ := dk_bind hd
                  refine wp_callV 130 rfl i_176_127 (by decide) rfl (vs := [.int (2 : Int32), .int x1]) (rest := []) rfl rfl rfl (H_42.1 0 (by decide)) (y := m_173) rfl (Nat.le_of_ble_eq_true rfl) (d_173_ok (d := e) (by omega) H_42.1 q_64) ?_
                  rintro v_67 h_65 ⟨rfl, H_66⟩
                  have H_66 := H_42.tr H_66
                  obtain ⟨b_68, hd⟩ := dk_if hd
                  obtain rfl := Option.some.inj hd
                  exact wp_iretZ (z := 0) i_176_130 b_68 ⟨rfl, H_66⟩
              · rw [if_neg c_38] at hd
                refine wp_s 108 [some (.ref 382), some (.int x1)] [.ref 382] h_35 i_176_107 rfl ?_
                refine wp_s 109 [some (.ref 382), some (.int x1)] [.int (1 : Int32), .ref 382] h_35 i_176_108 rfl ?_
                refine wp_s 110 [some (.ref 382), some (.int x1)] [.int x1, .int (1 : Int32), .ref 382] h_35 i_176_109 rfl ?_
                obtain ⟨z_69, q_70, hd⟩ := dk_bind hd
                refine wp_callV 113 rfl i_176_110 (by decide) rfl (vs := [.int (1 : Int32), .int x1]) (rest := []) rfl rfl rfl (H_36.1 0 (by decide)) (y := m_173) rfl (Nat.le_of_ble_eq_true rfl) (d_173_ok (d := e) (by omega) H_36.1 q_70) ?_
                rintro v_73 h_71 ⟨rfl, H_72⟩
                have H_72 := H_36.tr H_72
                obtain ⟨b_74, hd⟩ := dk_if hd
                obtain rfl := Option.some.inj hd
                exact wp_iretZ (z := 0) i_176_113 b_74 ⟨rfl, H_72⟩
            · rw [if_neg c_32] at hd
              refine wp_s 91 [some (.ref 382), some (.int x1)] [.ref 382] h_29 i_176_90 rfl ?_
              refine wp_s 92 [some (.ref 382), some (.int x1)] [.int (0 : Int32), .ref 382] h_29 i_176_91 rfl ?_
              refine wp_s 93 [some (.ref 382), some (.int x1)] [.int x1, .int (0 : Int32), .ref 382] h_29 i_176_92 rfl ?_
              obtain ⟨z_75, q_76, hd⟩ := dk_bind hd
              refine wp_callV 96 rfl i_176_93 (by decide) rfl (vs := [.int (0 : Int32), .int x1]) (rest := []) rfl rfl rfl (H_30.1 0 (by decide)) (y := m_173) rfl (Nat.le_of_ble_eq_true rfl) (d_173_ok (d := e) (by omega) H_30.1 q_76) ?_
              rintro v_79 h_77 ⟨rfl, H_78⟩
              have H_78 := H_30.tr H_78
              obtain ⟨b_80, hd⟩ := dk_if hd
              obtain rfl := Option.some.inj hd
              exact wp_iretZ (z := 0) i_176_96 b_80 ⟨rfl, H_78⟩
          · rw [if_neg c_26] at hd
            refine wp_s 75 [some (.ref 382), some (.int x1)] [.ref 382] h_23 i_176_74 rfl ?_
            refine wp_s 76 [some (.ref 382), some (.int x1)] [.int x1, .ref 382] h_23 i_176_75 rfl ?_
            obtain ⟨z_81, q_82, hd⟩ := dk_bind hd
            refine wp_callV 79 rfl i_176_76 (by decide) rfl (vs := [.int x1]) (rest := []) rfl rfl rfl (H_24.1 0 (by decide)) (y := m_172) rfl (Nat.le_of_ble_eq_true rfl) (d_172_ok (d := e) (by omega) H_24.1 q_82) ?_
            rintro v_85 h_83 ⟨rfl, H_84⟩
            have H_84 := H_24.tr H_84
            obtain ⟨b_86, hd⟩ := dk_if hd
            obtain rfl := Option.some.inj hd
            exact wp_iretZ (z := 0) i_176_79 b_86 ⟨rfl, H_84⟩
        · rw [if_neg c_20] at hd
          refine wp_s 59 [some (.ref 382), some (.int x1)] [.ref 382] h_17 i_176_58 rfl ?_
          refine wp_s 60 [some (.ref 382), some (.int x1)] [.int x1, .ref 382] h_17 i_176_59 rfl ?_
          obtain ⟨z_87, q_88, hd⟩ := dk_bind hd
          refine wp_callV 63 rfl i_176_60 (by decide) rfl (vs := [.int x1]) (rest := []) rfl rfl rfl (H_18.1 0 (by decide)) (y := m_171) rfl (Nat.le_of_ble_eq_true rfl) (d_171_ok (d := e) (by omega) H_18.1 q_88) ?_
          rintro v_91 h_89 ⟨rfl, H_90⟩
          have H_90 := H_18.tr H_90
          obtain ⟨b_92, hd⟩ := dk_if hd
          obtain rfl := Option.some.inj hd
          exact wp_iretZ (z := 0) i_176_63 b_92 ⟨rfl, H_90⟩
      · rw [if_neg c_14] at hd
        refine wp_s 43 [some (.ref 382), some (.int x1)] [.ref 382] h_11 i_176_42 rfl ?_
        refine wp_s 44 [some (.ref 382), some (.int x1)] [.int x1, .ref 382] h_11 i_176_43 rfl ?_
        obtain ⟨z_93, q_94, hd⟩ := dk_bind hd
        refine wp_callV 47 rfl i_176_44 (by decide) rfl (vs := [.int x1]) (rest := []) rfl rfl rfl (H_12.1 0 (by decide)) (y := m_170) rfl (Nat.le_of_ble_eq_true rfl) (d_170_ok (d := e) (by omega) H_12.1 q_94) ?_
        rintro v_97 h_95 ⟨rfl, H_96⟩
        have H_96 := H_12.tr H_96
        obtain ⟨b_98, hd⟩ := dk_if hd
        obtain rfl := Option.some.inj hd
        exact wp_iretZ (z := 0) i_176_47 b_98 ⟨rfl, H_96⟩
    · rw [if_neg c_8] at hd
      refine wp_s 26 [some (.ref 382), some (.int x1)] [.ref 382] h_3 i_176_25 rfl ?_
      refine wp_s 27 [some (.ref 382), some (.int x1)] [.int (4 : Int32), .ref 382] h_3 i_176_26 rfl ?_
      refine wp_s 28 [some (.ref 382), some (.int x1)] [.int x1, .int (4 : Int32), .ref 382] h_3 i_176_27 rfl ?_
      obtain ⟨z_99, q_100, hd⟩ := dk_bind hd
      refine wp_callV 31 rfl i_176_28 (by decide) rfl (vs := [.int (4 : Int32), .int x1]) (rest := []) rfl rfl rfl (H_4.1 0 (by decide)) (y := m_145) rfl (Nat.le_of_ble_eq_true rfl) (d_145_ok (d := e) (by omega) H_4.1 q_100) ?_
      rintro v_103 h_101 ⟨rfl, H_102⟩
      have H_102 := H_4.tr H_102
      obtain ⟨b_104, hd⟩ := dk_if hd
      obtain rfl := Option.some.inj hd
      exact wp_iretZ (z := 0) i_176_31 b_104 ⟨rfl, H_102⟩
  · rw [if_neg c_6] at hd
    refine wp_s 11 [some (.ref 382), some (.int x1)] [.ref 382] h_3 i_176_10 rfl ?_
    refine wp_s 12 [some (.ref 382), some (.int x1)] [.int x1, .ref 382] h_3 i_176_11 rfl ?_
    obtain ⟨z_105, q_106, hd⟩ := dk_bind hd
    refine wp_callV 15 rfl i_176_12 (by decide) rfl (vs := [.int x1]) (rest := []) rfl rfl rfl (H_4.1 0 (by decide)) (y := m_169) rfl (Nat.le_of_ble_eq_true rfl) (d_169_ok (d := e) (by omega) H_4.1 q_106) ?_
    rintro v_109 h_107 ⟨rfl, H_108⟩
    have H_108 := H_4.tr H_108
    obtain ⟨b_110, hd⟩ := dk_if hd
    obtain rfl := Option.some.inj hd
    exact wp_iretZ (z := 0) i_176_15 b_110 ⟨rfl, H_108⟩
