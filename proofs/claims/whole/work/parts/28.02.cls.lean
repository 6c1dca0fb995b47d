theorem i_26_0 : aIns 26 0 = some (.aload_n 0, 1, 0, 0, .null) := by decide +kernel
theorem i_26_1 : aIns 26 1 = some (.getfield 12, 3, 2, 2, .null) := by decide +kernel
theorem i_26_4 : aIns 26 4 = some (.invokevirtual 89, 3, 1, 0, .int 0) := by decide +kernel
theorem i_26_7 : aIns 26 7 = some (.aload_n 0, 1, 0, 0, .null) := by decide +kernel
theorem i_26_8 : aIns 26 8 = some (.getfield 25, 3, 2, 5, .null) := by decide +kernel
theorem i_26_11 : aIns 26 11 = some (.iconst 0, 1, 0, 0, .int (0)) := by decide +kernel
theorem i_26_12 : aIns 26 12 = some (.invokestatic 141, 3, 273, 2, .null) := by decide +kernel
theorem i_26_15 : aIns 26 15 = some (.iconst 0, 1, 0, 0, .int (0)) := by decide +kernel
theorem i_26_16 : aIns 26 16 = some (.istore_n 1, 1, 0, 0, .null) := by decide +kernel
theorem i_26_17 : aIns 26 17 = some (.iload_n 1, 1, 0, 0, .null) := by decide +kernel
theorem i_26_18 : aIns 26 18 = some (.aload_n 0, 1, 0, 0, .null) := by decide +kernel
theorem i_26_19 : aIns 26 19 = some (.getfield 47, 3, 2, 0, .null) := by decide +kernel
theorem i_26_22 : aIns 26 22 = some (.getfield 59, 3, 10, 0, .null) := by decide +kernel
theorem i_26_25 : aIns 26 25 = some (.getfield 183, 3, 5, 8, .null) := by decide +kernel
theorem i_26_28 : aIns 26 28 = some (.if_icmp .ge 63, 3, 0, 0, .null) := by decide +kernel
theorem i_26_31 : aIns 26 31 = some (.iconst 0, 1, 0, 0, .int (0)) := by decide +kernel
theorem i_26_32 : aIns 26 32 = some (.istore_n 2, 1, 0, 0, .null) := by decide +kernel
theorem i_26_33 : aIns 26 33 = some (.iload_n 2, 1, 0, 0, .null) := by decide +kernel
theorem i_26_34 : aIns 26 34 = some (.iconst 4, 1, 0, 0, .int (4)) := by decide +kernel
theorem i_26_35 : aIns 26 35 = some (.if_icmp .gt 50, 3, 0, 0, .null) := by decide +kernel
theorem i_26_38 : aIns 26 38 = some (.aload_n 0, 1, 0, 0, .null) := by decide +kernel
theorem i_26_39 : aIns 26 39 = some (.getfield 28, 3, 2, 6, .null) := by decide +kernel
theorem i_26_42 : aIns 26 42 = some (.iload_n 1, 1, 0, 0, .null) := by decide +kernel
theorem i_26_43 : aIns 26 43 = some (.iconst 5, 1, 0, 0, .int (5)) := by decide +kernel
theorem i_26_44 : aIns 26 44 = some (.imul, 1, 0, 0, .null) := by decide +kernel
theorem i_26_45 : aIns 26 45 = some (.iload_n 2, 1, 0, 0, .null) := by decide +kernel
theorem i_26_46 : aIns 26 46 = some (.iadd, 1, 0, 0, .null) := by decide +kernel
theorem i_26_47 : aIns 26 47 = some (.aload_n 0, 1, 0, 0, .null) := by decide +kernel
theorem i_26_48 : aIns 26 48 = some (.getfield 51, 3, 2, 1, .null) := by decide +kernel
theorem i_26_51 : aIns 26 51 = some (.aload_n 0, 1, 0, 0, .null) := by decide +kernel
theorem i_26_52 : aIns 26 52 = some (.getfield 47, 3, 2, 0, .null) := by decide +kernel
theorem i_26_55 : aIns 26 55 = some (.getfield 59, 3, 10, 0, .null) := by decide +kernel
theorem i_26_58 : aIns 26 58 = some (.getfield 189, 3, 5, 9, .null) := by decide +kernel
theorem i_26_61 : aIns 26 61 = some (.iload_n 1, 1, 0, 0, .null) := by decide +kernel
theorem i_26_62 : aIns 26 62 = some (.iaload, 1, 0, 0, .null) := by decide +kernel
theorem i_26_63 : aIns 26 63 = some (.aload_n 0, 1, 0, 0, .null) := by decide +kernel
theorem i_26_64 : aIns 26 64 = some (.getfield 47, 3, 2, 0, .null) := by decide +kernel
theorem i_26_67 : aIns 26 67 = some (.getfield 76, 3, 10, 1, .null) := by decide +kernel
theorem i_26_70 : aIns 26 70 = some (.getfield 92, 3, 7, 13, .null) := by decide +kernel
theorem i_26_73 : aIns 26 73 = some (.iload_n 2, 1, 0, 0, .null) := by decide +kernel
theorem i_26_74 : aIns 26 74 = some (.iadd, 1, 0, 0, .null) := by decide +kernel
theorem i_26_75 : aIns 26 75 = some (.invokevirtual 70, 3, 90, 2, .int 9) := by decide +kernel
theorem i_26_78 : aIns 26 78 = some (.iastore, 1, 0, 0, .null) := by decide +kernel
theorem i_26_79 : aIns 26 79 = some (.iinc 2 1, 3, 0, 0, .null) := by decide +kernel
theorem i_26_82 : aIns 26 82 = some (.goto (-49), 3, 0, 0, .null) := by decide +kernel
theorem i_26_85 : aIns 26 85 = some (.iinc 1 1, 3, 0, 0, .null) := by decide +kernel
theorem i_26_88 : aIns 26 88 = some (.goto (-71), 3, 0, 0, .null) := by decide +kernel
theorem i_26_91 : aIns 26 91 = some (.aload_n 0, 1, 0, 0, .null) := by decide +kernel
theorem i_26_92 : aIns 26 92 = some (.iconst 0, 1, 0, 0, .int (0)) := by decide +kernel
theorem i_26_93 : aIns 26 93 = some (.iconst 0, 1, 0, 0, .int (0)) := by decide +kernel
theorem i_26_94 : aIns 26 94 = some (.iconst 0, 1, 0, 0, .int (0)) := by decide +kernel
theorem i_26_95 : aIns 26 95 = some (.invokevirtual 200, 3, 27, 3, .int 2) := by decide +kernel
theorem i_26_98 : aIns 26 98 = some (.return_, 1, 0, 0, .null) := by decide +kernel
theorem i_27_0 : aIns 27 0 = some (.aload_n 0, 1, 0, 0, .null) := by decide +kernel
theorem i_27_1 : aIns 27 1 = some (.getfield 12, 3, 2, 2, .null) := by decide +kernel
theorem i_27_4 : aIns 27 4 = some (.getfield 204, 3, 0, 0, .null) := by decide +kernel
theorem i_27_7 : aIns 27 7 = some (.ifCond .eq 15, 3, 0, 0, .null) := by decide +kernel
theorem i_27_10 : aIns 27 10 = some (.iload_n 2, 1, 0, 0, .null) := by decide +kernel
theorem i_27_11 : aIns 27 11 = some (.aload_n 0, 1, 0, 0, .null) := by decide +kernel
theorem i_27_12 : aIns 27 12 = some (.getfield 12, 3, 2, 2, .null) := by decide +kernel
theorem i_27_15 : aIns 27 15 = some (.getfield 173, 3, 0, 1, .null) := by decide +kernel
theorem i_27_18 : aIns 27 18 = some (.if_icmp .lt 4, 3, 0, 0, .null) := by decide +kernel
theorem i_27_21 : aIns 27 21 = some (.return_, 1, 0, 0, .null) := by decide +kernel
theorem i_27_22 : aIns 27 22 = some (.iload_n 1, 1, 0, 0, .null) := by decide +kernel
theorem i_27_23 : aIns 27 23 = some (.aload_n 0, 1, 0, 0, .null) := by decide +kernel
theorem i_27_24 : aIns 27 24 = some (.getfield 47, 3, 2, 0, .null) := by decide +kernel
theorem i_27_27 : aIns 27 27 = some (.getfield 59, 3, 10, 0, .null) := by decide +kernel
theorem i_27_30 : aIns 27 30 = some (.getfield 183, 3, 5, 8, .null) := by decide +kernel
theorem i_27_33 : aIns 27 33 = some (.if_icmp .lt 17, 3, 0, 0, .null) := by decide +kernel
theorem i_27_36 : aIns 27 36 = some (.aload_n 0, 1, 0, 0, .null) := by decide +kernel
theorem i_27_37 : aIns 27 37 = some (.getfield 12, 3, 2, 2, .null) := by decide +kernel
theorem i_27_40 : aIns 27 40 = some (.iload_n 3, 1, 0, 0, .null) := by decide +kernel
theorem i_27_41 : aIns 27 41 = some (.aload_n 0, 1, 0, 0, .null) := by decide +kernel
theorem i_27_42 : aIns 27 42 = some (.getfield 18, 3, 2, 3, .null) := by decide +kernel
theorem i_27_45 : aIns 27 45 = some (.iload_n 1, 1, 0, 0, .null) := by decide +kernel
theorem i_27_46 : aIns 27 46 = some (.invokevirtual 109, 3, 2, 3, .int 0) := by decide +kernel
theorem i_27_49 : aIns 27 49 = some (.return_, 1, 0, 0, .null) := by decide +kernel
theorem i_27_50 : aIns 27 50 = some (.iconst 0, 1, 0, 0, .int (0)) := by decide +kernel
theorem i_27_51 : aIns 27 51 = some (.iconst 4, 1, 0, 0, .int (4)) := by decide +kernel
theorem i_27_52 : aIns 27 52 = some (.aload_n 0, 1, 0, 0, .null) := by decide +kernel
theorem i_27_53 : aIns 27 53 = some (.getfield 47, 3, 2, 0, .null) := by decide +kernel
theorem i_27_56 : aIns 27 56 = some (.getfield 59, 3, 10, 0, .null) := by decide +kernel
theorem i_27_59 : aIns 27 59 = some (.getfield 208, 3, 5, 10, .null) := by decide +kernel
theorem i_27_62 : aIns 27 62 = some (.iload_n 1, 1, 0, 0, .null) := by decide +kernel
theorem i_27_63 : aIns 27 63 = some (.iaload, 1, 0, 0, .null) := by decide +kernel
theorem i_27_64 : aIns 27 64 = some (.aload_n 0, 1, 0, 0, .null) := by decide +kernel
theorem i_27_65 : aIns 27 65 = some (.getfield 47, 3, 2, 0, .null) := by decide +kernel
theorem i_27_68 : aIns 27 68 = some (.getfield 76, 3, 10, 1, .null) := by decide +kernel
theorem i_27_71 : aIns 27 71 = some (.getfield 92, 3, 7, 13, .null) := by decide +kernel
theorem i_27_74 : aIns 27 74 = some (.isub, 1, 0, 0, .null) := by decide +kernel
theorem i_27_75 : aIns 27 75 = some (.invokestatic 211, 3, 1002, 0, .null) := by decide +kernel
theorem i_27_78 : aIns 27 78 = some (.invokestatic 192, 3, 1001, 0, .null) := by decide +kernel
theorem i_27_81 : aIns 27 81 = some (.istore 4, 2, 0, 0, .null) := by decide +kernel
theorem i_27_83 : aIns 27 83 = some (.iconst 0, 1, 0, 0, .int (0)) := by decide +kernel
theorem i_27_84 : aIns 27 84 = some (.istore 5, 2, 0, 0, .null) := by decide +kernel
theorem i_27_86 : aIns 27 86 = some (.iload 5, 2, 0, 0, .null) := by decide +kernel
theorem i_27_88 : aIns 27 88 = some (.iload 4, 2, 0, 0, .null) := by decide +kernel
theorem i_27_90 : aIns 27 90 = some (.if_icmp .gt 100, 3, 0, 0, .null) := by decide +kernel
theorem i_27_93 : aIns 27 93 = some (.aload_n 0, 1, 0, 0, .null) := by decide +kernel
theorem i_27_94 : aIns 27 94 = some (.getfield 28, 3, 2, 6, .null) := by decide +kernel
theorem i_27_97 : aIns 27 97 = some (.iload_n 1, 1, 0, 0, .null) := by decide +kernel
theorem i_27_98 : aIns 27 98 = some (.iconst 5, 1, 0, 0, .int (5)) := by decide +kernel
theorem i_27_99 : aIns 27 99 = some (.imul, 1, 0, 0, .null) := by decide +kernel
theorem i_27_100 : aIns 27 100 = some (.iload 5, 2, 0, 0, .null) := by decide +kernel
theorem i_27_102 : aIns 27 102 = some (.iadd, 1, 0, 0, .null) := by decide +kernel
theorem i_27_103 : aIns 27 103 = some (.iaload, 1, 0, 0, .null) := by decide +kernel
theorem i_27_104 : aIns 27 104 = some (.istore 6, 2, 0, 0, .null) := by decide +kernel
theorem i_27_106 : aIns 27 106 = some (.aload_n 0, 1, 0, 0, .null) := by decide +kernel
theorem i_27_107 : aIns 27 107 = some (.getfield 51, 3, 2, 1, .null) := by decide +kernel
theorem i_27_110 : aIns 27 110 = some (.aload_n 0, 1, 0, 0, .null) := by decide +kernel
theorem i_27_111 : aIns 27 111 = some (.getfield 25, 3, 2, 5, .null) := by decide +kernel
theorem i_27_114 : aIns 27 114 = some (.iload 5, 2, 0, 0, .null) := by decide +kernel
theorem i_27_116 : aIns 27 116 = some (.iaload, 1, 0, 0, .null) := by decide +kernel
theorem i_27_117 : aIns 27 117 = some (.invokevirtual 197, 3, 95, 1, .int 9) := by decide +kernel
theorem i_27_120 : aIns 27 120 = some (.istore 7, 2, 0, 0, .null) := by decide +kernel
theorem i_27_122 : aIns 27 122 = some (.aload_n 0, 1, 0, 0, .null) := by decide +kernel
theorem i_27_123 : aIns 27 123 = some (.getfield 18, 3, 2, 3, .null) := by decide +kernel
theorem i_27_126 : aIns 27 126 = some (.iload_n 1, 1, 0, 0, .null) := by decide +kernel
theorem i_27_127 : aIns 27 127 = some (.iload 5, 2, 0, 0, .null) := by decide +kernel
theorem i_27_129 : aIns 27 129 = some (.iastore, 1, 0, 0, .null) := by decide +kernel
theorem i_27_130 : aIns 27 130 = some (.aload_n 0, 1, 0, 0, .null) := by decide +kernel
theorem i_27_131 : aIns 27 131 = some (.getfield 25, 3, 2, 5, .null) := by decide +kernel
theorem i_27_134 : aIns 27 134 = some (.iload 5, 2, 0, 0, .null) := by decide +kernel
theorem i_27_136 : aIns 27 136 = some (.dup2, 1, 0, 0, .null) := by decide +kernel
theorem i_27_137 : aIns 27 137 = some (.iaload, 1, 0, 0, .null) := by decide +kernel
theorem i_27_138 : aIns 27 138 = some (.iload 6, 2, 0, 0, .null) := by decide +kernel
theorem i_27_140 : aIns 27 140 = some (.iadd, 1, 0, 0, .null) := by decide +kernel
theorem i_27_141 : aIns 27 141 = some (.iastore, 1, 0, 0, .null) := by decide +kernel
theorem i_27_142 : aIns 27 142 = some (.aload_n 0, 1, 0, 0, .null) := by decide +kernel
theorem i_27_143 : aIns 27 143 = some (.iload_n 1, 1, 0, 0, .null) := by decide +kernel
theorem i_27_144 : aIns 27 144 = some (.iconst 1, 1, 0, 0, .int (1)) := by decide +kernel
theorem i_27_145 : aIns 27 145 = some (.iadd, 1, 0, 0, .null) := by decide +kernel
theorem i_27_146 : aIns 27 146 = some (.iload_n 2, 1, 0, 0, .null) := by decide +kernel
theorem i_27_147 : aIns 27 147 = some (.iload 6, 2, 0, 0, .null) := by decide +kernel
theorem i_27_149 : aIns 27 149 = some (.iadd, 1, 0, 0, .null) := by decide +kernel
theorem i_27_150 : aIns 27 150 = some (.iload_n 3, 1, 0, 0, .null) := by decide +kernel
theorem i_27_151 : aIns 27 151 = some (.iload 7, 2, 0, 0, .null) := by decide +kernel
theorem i_27_153 : aIns 27 153 = some (.isub, 1, 0, 0, .null) := by decide +kernel
theorem i_27_154 : aIns 27 154 = some (.aload_n 0, 1, 0, 0, .null) := by decide +kernel
theorem i_27_155 : aIns 27 155 = some (.getfield 51, 3, 2, 1, .null) := by decide +kernel
theorem i_27_158 : aIns 27 158 = some (.aload_n 0, 1, 0, 0, .null) := by decide +kernel
theorem i_27_159 : aIns 27 159 = some (.getfield 25, 3, 2, 5, .null) := by decide +kernel
theorem i_27_162 : aIns 27 162 = some (.iload 5, 2, 0, 0, .null) := by decide +kernel
theorem i_27_164 : aIns 27 164 = some (.iaload, 1, 0, 0, .null) := by decide +kernel
theorem i_27_165 : aIns 27 165 = some (.invokevirtual 197, 3, 95, 1, .int 9) := by decide +kernel
theorem i_27_168 : aIns 27 168 = some (.iadd, 1, 0, 0, .null) := by decide +kernel
theorem i_27_169 : aIns 27 169 = some (.invokevirtual 200, 3, 27, 3, .int 2) := by decide +kernel
theorem i_27_172 : aIns 27 172 = some (.aload_n 0, 1, 0, 0, .null) := by decide +kernel
theorem i_27_173 : aIns 27 173 = some (.getfield 25, 3, 2, 5, .null) := by decide +kernel
theorem i_27_176 : aIns 27 176 = some (.iload 5, 2, 0, 0, .null) := by decide +kernel
theorem i_27_178 : aIns 27 178 = some (.dup2, 1, 0, 0, .null) := by decide +kernel
theorem i_27_179 : aIns 27 179 = some (.iaload, 1, 0, 0, .null) := by decide +kernel
theorem i_27_180 : aIns 27 180 = some (.iload 6, 2, 0, 0, .null) := by decide +kernel
theorem i_27_182 : aIns 27 182 = some (.isub, 1, 0, 0, .null) := by decide +kernel
theorem i_27_183 : aIns 27 183 = some (.iastore, 1, 0, 0, .null) := by decide +kernel
theorem i_27_184 : aIns 27 184 = some (.iinc 5 1, 3, 0, 0, .null) := by decide +kernel
theorem i_27_187 : aIns 27 187 = some (.goto (-101), 3, 0, 0, .null) := by decide +kernel
theorem i_27_190 : aIns 27 190 = some (.return_, 1, 0, 0, .null) := by decide +kernel
theorem i_28_0 : aIns 28 0 = some (.aload_n 0, 1, 0, 0, .null) := by decide +kernel
theorem i_28_1 : aIns 28 1 = some (.getfield 12, 3, 2, 2, .null) := by decide +kernel
theorem i_28_4 : aIns 28 4 = some (.invokevirtual 89, 3, 1, 0, .int 0) := by decide +kernel
theorem i_28_7 : aIns 28 7 = some (.aload_n 0, 1, 0, 0, .null) := by decide +kernel
theorem i_28_8 : aIns 28 8 = some (.getfield 47, 3, 2, 0, .null) := by decide +kernel
theorem i_28_11 : aIns 28 11 = some (.getfield 76, 3, 10, 1, .null) := by decide +kernel
theorem i_28_14 : aIns 28 14 = some (.getfield 214, 3, 7, 4, .null) := by decide +kernel
theorem i_28_17 : aIns 28 17 = some (.iconst 0, 1, 0, 0, .int (0)) := by decide +kernel
theorem i_28_18 : aIns 28 18 = some (.aload_n 0, 1, 0, 0, .null) := by decide +kernel
theorem i_28_19 : aIns 28 19 = some (.getfield 31, 3, 2, 7, .null) := by decide +kernel
theorem i_28_22 : aIns 28 22 = some (.iconst 0, 1, 0, 0, .int (0)) := by decide +kernel
theorem i_28_23 : aIns 28 23 = some (.bipush 8, 2, 0, 0, .int (8)) := by decide +kernel
theorem i_28_25 : aIns 28 25 = some (.invokestatic 217, 3, 1000, 0, .null) := by decide +kernel
theorem i_28_28 : aIns 28 28 = some (.aload_n 0, 1, 0, 0, .null) := by decide +kernel
theorem i_28_29 : aIns 28 29 = some (.iconst 0, 1, 0, 0, .int (0)) := by decide +kernel
theorem i_28_30 : aIns 28 30 = some (.aload_n 0, 1, 0, 0, .null) := by decide +kernel
theorem i_28_31 : aIns 28 31 = some (.getfield 47, 3, 2, 0, .null) := by decide +kernel
theorem i_28_34 : aIns 28 34 = some (.getfield 76, 3, 10, 1, .null) := by decide +kernel
theorem i_28_37 : aIns 28 37 = some (.getfield 223, 3, 7, 12, .null) := by decide +kernel
theorem i_28_40 : aIns 28 40 = some (.iconst 0, 1, 0, 0, .int (0)) := by decide +kernel
theorem i_28_41 : aIns 28 41 = some (.iconst 0, 1, 0, 0, .int (0)) := by decide +kernel
theorem i_28_42 : aIns 28 42 = some (.invokevirtual 226, 3, 29, 4, .int 2) := by decide +kernel
theorem i_28_45 : aIns 28 45 = some (.return_, 1, 0, 0, .null) := by decide +kernel
theorem i_29_0 : aIns 29 0 = some (.iload_n 1, 1, 0, 0, .null) := by decide +kernel
theorem i_29_1 : aIns 29 1 = some (.aload_n 0, 1, 0, 0, .null) := by decide +kernel
theorem i_29_2 : aIns 29 2 = some (.getfield 47, 3, 2, 0, .null) := by decide +kernel
theorem i_29_5 : aIns 29 5 = some (.getfield 59, 3, 10, 0, .null) := by decide +kernel
theorem i_29_8 : aIns 29 8 = some (.getfield 65, 3, 5, 4, .null) := by decide +kernel
theorem i_29_11 : aIns 29 11 = some (.if_icmp .lt 64, 3, 0, 0, .null) := by decide +kernel
theorem i_29_14 : aIns 29 14 = some (.aload_n 0, 1, 0, 0, .null) := by decide +kernel
theorem i_29_15 : aIns 29 15 = some (.getfield 12, 3, 2, 2, .null) := by decide +kernel
theorem i_29_18 : aIns 29 18 = some (.getfield 204, 3, 0, 0, .null) := by decide +kernel
theorem i_29_21 : aIns 29 21 = some (.ifCond .eq 39, 3, 0, 0, .null) := by decide +kernel
theorem i_29_24 : aIns 29 24 = some (.iload_n 3, 1, 0, 0, .null) := by decide +kernel
theorem i_29_25 : aIns 29 25 = some (.ineg, 1, 0, 0, .null) := by decide +kernel
theorem i_29_26 : aIns 29 26 = some (.aload_n 0, 1, 0, 0, .null) := by decide +kernel
theorem i_29_27 : aIns 29 27 = some (.getfield 12, 3, 2, 2, .null) := by decide +kernel
theorem i_29_30 : aIns 29 30 = some (.getfield 173, 3, 0, 1, .null) := by decide +kernel
theorem i_29_33 : aIns 29 33 = some (.if_icmp .lt 27, 3, 0, 0, .null) := by decide +kernel
theorem i_29_36 : aIns 29 36 = some (.iload_n 3, 1, 0, 0, .null) := by decide +kernel
theorem i_29_37 : aIns 29 37 = some (.ineg, 1, 0, 0, .null) := by decide +kernel
theorem i_29_38 : aIns 29 38 = some (.aload_n 0, 1, 0, 0, .null) := by decide +kernel
theorem i_29_39 : aIns 29 39 = some (.getfield 12, 3, 2, 2, .null) := by decide +kernel
theorem i_29_42 : aIns 29 42 = some (.getfield 173, 3, 0, 1, .null) := by decide +kernel
theorem i_29_45 : aIns 29 45 = some (.if_icmp .ne 29, 3, 0, 0, .null) := by decide +kernel
theorem i_29_48 : aIns 29 48 = some (.iload 4, 2, 0, 0, .null) := by decide +kernel
theorem i_29_50 : aIns 29 50 = some (.aload_n 0, 1, 0, 0, .null) := by decide +kernel
theorem i_29_51 : aIns 29 51 = some (.getfield 12, 3, 2, 2, .null) := by decide +kernel
theorem i_29_54 : aIns 29 54 = some (.invokevirtual 230, 3, 5, 0, .int 0) := by decide +kernel
theorem i_29_57 : aIns 29 57 = some (.if_icmp .ge 17, 3, 0, 0, .null) := by decide +kernel
theorem i_29_60 : aIns 29 60 = some (.aload_n 0, 1, 0, 0, .null) := by decide +kernel
theorem i_29_61 : aIns 29 61 = some (.getfield 12, 3, 2, 2, .null) := by decide +kernel
theorem i_29_64 : aIns 29 64 = some (.iload_n 3, 1, 0, 0, .null) := by decide +kernel
theorem i_29_65 : aIns 29 65 = some (.ineg, 1, 0, 0, .null) := by decide +kernel
theorem i_29_66 : aIns 29 66 = some (.aload_n 0, 1, 0, 0, .null) := by decide +kernel
theorem i_29_67 : aIns 29 67 = some (.getfield 18, 3, 2, 3, .null) := by decide +kernel
theorem i_29_70 : aIns 29 70 = some (.iload_n 1, 1, 0, 0, .null) := by decide +kernel
theorem i_29_71 : aIns 29 71 = some (.invokevirtual 233, 3, 3, 3, .int 0) := by decide +kernel
theorem i_29_74 : aIns 29 74 = some (.return_, 1, 0, 0, .null) := by decide +kernel
theorem i_29_75 : aIns 29 75 = some (.iload_n 2, 1, 0, 0, .null) := by decide +kernel
theorem i_29_76 : aIns 29 76 = some (.istore 5, 2, 0, 0, .null) := by decide +kernel
theorem i_29_78 : aIns 29 78 = some (.iload_n 3, 1, 0, 0, .null) := by decide +kernel
theorem i_29_79 : aIns 29 79 = some (.istore 6, 2, 0, 0, .null) := by decide +kernel
theorem i_29_81 : aIns 29 81 = some (.iconst 0, 1, 0, 0, .int (0)) := by decide +kernel
theorem i_29_82 : aIns 29 82 = some (.istore 7, 2, 0, 0, .null) := by decide +kernel
theorem i_29_84 : aIns 29 84 = some (.iload 7, 2, 0, 0, .null) := by decide +kernel
theorem i_29_86 : aIns 29 86 = some (.aload_n 0, 1, 0, 0, .null) := by decide +kernel
theorem i_29_87 : aIns 29 87 = some (.getfield 47, 3, 2, 0, .null) := by decide +kernel
theorem i_29_90 : aIns 29 90 = some (.getfield 76, 3, 10, 1, .null) := by decide +kernel
theorem i_29_93 : aIns 29 93 = some (.getfield 214, 3, 7, 4, .null) := by decide +kernel
theorem i_29_96 : aIns 29 96 = some (.iload_n 1, 1, 0, 0, .null) := by decide +kernel
theorem i_29_97 : aIns 29 97 = some (.iaload, 1, 0, 0, .null) := by decide +kernel
theorem i_29_98 : aIns 29 98 = some (.if_icmp .gt 91, 3, 0, 0, .null) := by decide +kernel
theorem i_29_101 : aIns 29 101 = some (.iload 7, 2, 0, 0, .null) := by decide +kernel
theorem i_29_103 : aIns 29 103 = some (.ifCond .le 56, 3, 0, 0, .null) := by decide +kernel
theorem i_29_106 : aIns 29 106 = some (.aload_n 0, 1, 0, 0, .null) := by decide +kernel
theorem i_29_107 : aIns 29 107 = some (.getfield 31, 3, 2, 7, .null) := by decide +kernel
theorem i_29_110 : aIns 29 110 = some (.iload_n 1, 1, 0, 0, .null) := by decide +kernel
theorem i_29_111 : aIns 29 111 = some (.dup2, 1, 0, 0, .null) := by decide +kernel
theorem i_29_112 : aIns 29 112 = some (.iaload, 1, 0, 0, .null) := by decide +kernel
theorem i_29_113 : aIns 29 113 = some (.iconst 1, 1, 0, 0, .int (1)) := by decide +kernel
theorem i_29_114 : aIns 29 114 = some (.isub, 1, 0, 0, .null) := by decide +kernel
theorem i_29_115 : aIns 29 115 = some (.iastore, 1, 0, 0, .null) := by decide +kernel
theorem i_29_116 : aIns 29 116 = some (.aload_n 0, 1, 0, 0, .null) := by decide +kernel
theorem i_29_117 : aIns 29 117 = some (.getfield 51, 3, 2, 1, .null) := by decide +kernel
theorem i_29_120 : aIns 29 120 = some (.iload_n 1, 1, 0, 0, .null) := by decide +kernel
theorem i_29_121 : aIns 29 121 = some (.aload_n 0, 1, 0, 0, .null) := by decide +kernel
theorem i_29_122 : aIns 29 122 = some (.getfield 31, 3, 2, 7, .null) := by decide +kernel
theorem i_29_125 : aIns 29 125 = some (.iload 5, 2, 0, 0, .null) := by decide +kernel
theorem i_29_127 : aIns 29 127 = some (.invokevirtual 236, 3, 96, 3, .int 9) := by decide +kernel
theorem i_29_130 : aIns 29 130 = some (.istore 8, 2, 0, 0, .null) := by decide +kernel
theorem i_29_132 : aIns 29 132 = some (.iload 5, 2, 0, 0, .null) := by decide +kernel
theorem i_29_134 : aIns 29 134 = some (.iload 8, 2, 0, 0, .null) := by decide +kernel
theorem i_29_136 : aIns 29 136 = some (.isub, 1, 0, 0, .null) := by decide +kernel
theorem i_29_137 : aIns 29 137 = some (.istore 5, 2, 0, 0, .null) := by decide +kernel
theorem i_29_139 : aIns 29 139 = some (.iload 6, 2, 0, 0, .null) := by decide +kernel
theorem i_29_141 : aIns 29 141 = some (.iload 8, 2, 0, 0, .null) := by decide +kernel
theorem i_29_143 : aIns 29 143 = some (.aload_n 0, 1, 0, 0, .null) := by decide +kernel
theorem i_29_144 : aIns 29 144 = some (.getfield 47, 3, 2, 0, .null) := by decide +kernel
theorem i_29_147 : aIns 29 147 = some (.getfield 59, 3, 10, 0, .null) := by decide +kernel
theorem i_29_150 : aIns 29 150 = some (.getfield 160, 3, 5, 6, .null) := by decide +kernel
theorem i_29_153 : aIns 29 153 = some (.iload_n 1, 1, 0, 0, .null) := by decide +kernel
theorem i_29_154 : aIns 29 154 = some (.iaload, 1, 0, 0, .null) := by decide +kernel
theorem i_29_155 : aIns 29 155 = some (.isub, 1, 0, 0, .null) := by decide +kernel
theorem i_29_156 : aIns 29 156 = some (.iadd, 1, 0, 0, .null) := by decide +kernel
theorem i_29_157 : aIns 29 157 = some (.istore 6, 2, 0, 0, .null) := by decide +kernel
theorem i_29_159 : aIns 29 159 = some (.aload_n 0, 1, 0, 0, .null) := by decide +kernel
theorem i_29_160 : aIns 29 160 = some (.getfield 18, 3, 2, 3, .null) := by decide +kernel
theorem i_29_163 : aIns 29 163 = some (.iload_n 1, 1, 0, 0, .null) := by decide +kernel
theorem i_29_164 : aIns 29 164 = some (.iload 7, 2, 0, 0, .null) := by decide +kernel
theorem i_29_166 : aIns 29 166 = some (.iastore, 1, 0, 0, .null) := by decide +kernel
theorem i_29_167 : aIns 29 167 = some (.aload_n 0, 1, 0, 0, .null) := by decide +kernel
theorem i_29_168 : aIns 29 168 = some (.iload_n 1, 1, 0, 0, .null) := by decide +kernel
theorem i_29_169 : aIns 29 169 = some (.iconst 1, 1, 0, 0, .int (1)) := by decide +kernel
theorem i_29_170 : aIns 29 170 = some (.iadd, 1, 0, 0, .null) := by decide +kernel
theorem i_29_171 : aIns 29 171 = some (.iload 5, 2, 0, 0, .null) := by decide +kernel
theorem i_29_173 : aIns 29 173 = some (.iload 6, 2, 0, 0, .null) := by decide +kernel
theorem i_29_175 : aIns 29 175 = some (.iload 4, 2, 0, 0, .null) := by decide +kernel
theorem i_29_177 : aIns 29 177 = some (.iload 7, 2, 0, 0, .null) := by decide +kernel
theorem i_29_179 : aIns 29 179 = some (.iadd, 1, 0, 0, .null) := by decide +kernel
theorem i_29_180 : aIns 29 180 = some (.invokevirtual 226, 3, 29, 4, .int 2) := by decide +kernel
theorem i_29_183 : aIns 29 183 = some (.iinc 7 1, 3, 0, 0, .null) := by decide +kernel
theorem i_29_186 : aIns 29 186 = some (.goto (-102), 3, 0, 0, .null) := by decide +kernel
theorem i_29_189 : aIns 29 189 = some (.aload_n 0, 1, 0, 0, .null) := by decide +kernel
theorem i_29_190 : aIns 29 190 = some (.getfield 31, 3, 2, 7, .null) := by decide +kernel
theorem i_29_193 : aIns 29 193 = some (.iload_n 1, 1, 0, 0, .null) := by decide +kernel
theorem i_29_194 : aIns 29 194 = some (.aload_n 0, 1, 0, 0, .null) := by decide +kernel
theorem i_29_195 : aIns 29 195 = some (.getfield 47, 3, 2, 0, .null) := by decide +kernel
theorem i_29_198 : aIns 29 198 = some (.getfield 76, 3, 10, 1, .null) := by decide +kernel
theorem i_29_201 : aIns 29 201 = some (.getfield 214, 3, 7, 4, .null) := by decide +kernel
theorem i_29_204 : aIns 29 204 = some (.iload_n 1, 1, 0, 0, .null) := by decide +kernel
theorem i_29_205 : aIns 29 205 = some (.iaload, 1, 0, 0, .null) := by decide +kernel
theorem i_29_206 : aIns 29 206 = some (.iastore, 1, 0, 0, .null) := by decide +kernel
theorem i_29_207 : aIns 29 207 = some (.return_, 1, 0, 0, .null) := by decide +kernel
theorem i_30_0 : aIns 30 0 = some (.aload_n 0, 1, 0, 0, .null) := by decide +kernel
theorem i_30_1 : aIns 30 1 = some (.getfield 12, 3, 2, 2, .null) := by decide +kernel
theorem i_30_4 : aIns 30 4 = some (.invokevirtual 89, 3, 1, 0, .int 0) := by decide +kernel
theorem i_30_7 : aIns 30 7 = some (.aload_n 0, 1, 0, 0, .null) := by decide +kernel
theorem i_30_8 : aIns 30 8 = some (.iload_n 2, 1, 0, 0, .null) := by decide +kernel
theorem i_30_9 : aIns 30 9 = some (.invokevirtual 95, 3, 12, 1, .int 2) := by decide +kernel
theorem i_30_12 : aIns 30 12 = some (.aload_n 0, 1, 0, 0, .null) := by decide +kernel
theorem i_30_13 : aIns 30 13 = some (.iconst 0, 1, 0, 0, .int (0)) := by decide +kernel
theorem i_30_14 : aIns 30 14 = some (.putfield 240, 3, 2, 15, .null) := by decide +kernel
theorem i_30_17 : aIns 30 17 = some (.aload_n 0, 1, 0, 0, .null) := by decide +kernel
theorem i_30_18 : aIns 30 18 = some (.sipush 255, 3, 0, 0, .int (255)) := by decide +kernel
theorem i_30_21 : aIns 30 21 = some (.putfield 243, 3, 2, 16, .null) := by decide +kernel
theorem i_30_24 : aIns 30 24 = some (.iconst 1, 1, 0, 0, .int (1)) := by decide +kernel
theorem i_30_25 : aIns 30 25 = some (.istore_n 3, 1, 0, 0, .null) := by decide +kernel
theorem i_30_26 : aIns 30 26 = some (.iload_n 3, 1, 0, 0, .null) := by decide +kernel
theorem i_30_27 : aIns 30 27 = some (.iconst 4, 1, 0, 0, .int (4)) := by decide +kernel
theorem i_30_28 : aIns 30 28 = some (.if_icmp .gt 97, 3, 0, 0, .null) := by decide +kernel
theorem i_30_31 : aIns 30 31 = some (.aload_n 0, 1, 0, 0, .null) := by decide +kernel
theorem i_30_32 : aIns 30 32 = some (.iload_n 3, 1, 0, 0, .null) := by decide +kernel
theorem i_30_33 : aIns 30 33 = some (.invokevirtual 124, 3, 16, 1, .int 2) := by decide +kernel
theorem i_30_36 : aIns 30 36 = some (.istore 4, 2, 0, 0, .null) := by decide +kernel
theorem i_30_38 : aIns 30 38 = some (.iconst 0, 1, 0, 0, .int (0)) := by decide +kernel
theorem i_30_39 : aIns 30 39 = some (.istore 5, 2, 0, 0, .null) := by decide +kernel
theorem i_30_41 : aIns 30 41 = some (.iload 4, 2, 0, 0, .null) := by decide +kernel
theorem i_30_43 : aIns 30 43 = some (.ifCond .eq 76, 3, 0, 0, .null) := by decide +kernel
theorem i_30_46 : aIns 30 46 = some (.iload 5, 2, 0, 0, .null) := by decide +kernel
theorem i_30_48 : aIns 30 48 = some (.ldc 127, 2, 0, 0, .int (1000000)) := by decide +kernel
theorem i_30_50 : aIns 30 50 = some (.if_icmp .ge 69, 3, 0, 0, .null) := by decide +kernel
theorem i_30_53 : aIns 30 53 = some (.aload_n 0, 1, 0, 0, .null) := by decide +kernel
theorem i_30_54 : aIns 30 54 = some (.getfield 51, 3, 2, 1, .null) := by decide +kernel
theorem i_30_57 : aIns 30 57 = some (.aload_n 0, 1, 0, 0, .null) := by decide +kernel
theorem i_30_58 : aIns 30 58 = some (.iload_n 3, 1, 0, 0, .null) := by decide +kernel
theorem i_30_59 : aIns 30 59 = some (.invokevirtual 150, 3, 20, 1, .int 2) := by decide +kernel
theorem i_30_62 : aIns 30 62 = some (.invokevirtual 197, 3, 95, 1, .int 9) := by decide +kernel
theorem i_30_65 : aIns 30 65 = some (.iload_n 1, 1, 0, 0, .null) := by decide +kernel
theorem i_30_66 : aIns 30 66 = some (.if_icmp .ne 40, 3, 0, 0, .null) := by decide +kernel
theorem i_30_69 : aIns 30 69 = some (.aload_n 0, 1, 0, 0, .null) := by decide +kernel
theorem i_30_70 : aIns 30 70 = some (.getfield 12, 3, 2, 2, .null) := by decide +kernel
theorem i_30_73 : aIns 30 73 = some (.iload_n 1, 1, 0, 0, .null) := by decide +kernel
theorem i_30_74 : aIns 30 74 = some (.aload_n 0, 1, 0, 0, .null) := by decide +kernel
theorem i_30_75 : aIns 30 75 = some (.getfield 18, 3, 2, 3, .null) := by decide +kernel
theorem i_30_78 : aIns 30 78 = some (.iload_n 3, 1, 0, 0, .null) := by decide +kernel
theorem i_30_79 : aIns 30 79 = some (.invokevirtual 109, 3, 2, 3, .int 0) := by decide +kernel
theorem i_30_82 : aIns 30 82 = some (.aload_n 0, 1, 0, 0, .null) := by decide +kernel
theorem i_30_83 : aIns 30 83 = some (.dup, 1, 0, 0, .null) := by decide +kernel
theorem i_30_84 : aIns 30 84 = some (.getfield 240, 3, 2, 15, .null) := by decide +kernel
theorem i_30_87 : aIns 30 87 = some (.iconst 1, 1, 0, 0, .int (1)) := by decide +kernel
theorem i_30_88 : aIns 30 88 = some (.iadd, 1, 0, 0, .null) := by decide +kernel
theorem i_30_89 : aIns 30 89 = some (.putfield 240, 3, 2, 15, .null) := by decide +kernel
theorem i_30_92 : aIns 30 92 = some (.aload_n 0, 1, 0, 0, .null) := by decide +kernel
theorem i_30_93 : aIns 30 93 = some (.dup, 1, 0, 0, .null) := by decide +kernel
theorem i_30_94 : aIns 30 94 = some (.getfield 243, 3, 2, 16, .null) := by decide +kernel
theorem i_30_97 : aIns 30 97 = some (.aload_n 0, 1, 0, 0, .null) := by decide +kernel
theorem i_30_98 : aIns 30 98 = some (.iload_n 3, 1, 0, 0, .null) := by decide +kernel
theorem i_30_99 : aIns 30 99 = some (.invokevirtual 246, 3, 31, 1, .int 2) := by decide +kernel
theorem i_30_102 : aIns 30 102 = some (.iand, 1, 0, 0, .null) := by decide +kernel
theorem i_30_103 : aIns 30 103 = some (.putfield 243, 3, 2, 16, .null) := by decide +kernel
theorem i_30_106 : aIns 30 106 = some (.aload_n 0, 1, 0, 0, .null) := by decide +kernel
theorem i_30_107 : aIns 30 107 = some (.iload_n 3, 1, 0, 0, .null) := by decide +kernel
theorem i_30_108 : aIns 30 108 = some (.invokevirtual 138, 3, 17, 1, .int 2) := by decide +kernel
theorem i_30_111 : aIns 30 111 = some (.istore 4, 2, 0, 0, .null) := by decide +kernel
theorem i_30_113 : aIns 30 113 = some (.iinc 5 1, 3, 0, 0, .null) := by decide +kernel
theorem i_30_116 : aIns 30 116 = some (.goto (-75), 3, 0, 0, .null) := by decide +kernel
theorem i_30_119 : aIns 30 119 = some (.iinc 3 1, 3, 0, 0, .null) := by decide +kernel
theorem i_30_122 : aIns 30 122 = some (.goto (-96), 3, 0, 0, .null) := by decide +kernel
theorem i_30_125 : aIns 30 125 = some (.aload_n 0, 1, 0, 0, .null) := by decide +kernel
theorem i_30_126 : aIns 30 126 = some (.getfield 240, 3, 2, 15, .null) := by decide +kernel
theorem i_30_129 : aIns 30 129 = some (.ifCond .ne 8, 3, 0, 0, .null) := by decide +kernel
theorem i_30_132 : aIns 30 132 = some (.aload_n 0, 1, 0, 0, .null) := by decide +kernel
theorem i_30_133 : aIns 30 133 = some (.iconst 0, 1, 0, 0, .int (0)) := by decide +kernel
theorem i_30_134 : aIns 30 134 = some (.putfield 243, 3, 2, 16, .null) := by decide +kernel
theorem i_30_137 : aIns 30 137 = some (.return_, 1, 0, 0, .null) := by decide +kernel
theorem i_31_0 : aIns 31 0 = some (.iconst 0, 1, 0, 0, .int (0)) := by decide +kernel
theorem i_31_1 : aIns 31 1 = some (.istore_n 2, 1, 0, 0, .null) := by decide +kernel
theorem i_31_2 : aIns 31 2 = some (.iconst 0, 1, 0, 0, .int (0)) := by decide +kernel
theorem i_31_3 : aIns 31 3 = some (.istore_n 3, 1, 0, 0, .null) := by decide +kernel
theorem i_31_4 : aIns 31 4 = some (.iload_n 3, 1, 0, 0, .null) := by decide +kernel
theorem i_31_5 : aIns 31 5 = some (.iload_n 1, 1, 0, 0, .null) := by decide +kernel
theorem i_31_6 : aIns 31 6 = some (.if_icmp .ge 20, 3, 0, 0, .null) := by decide +kernel
theorem i_31_9 : aIns 31 9 = some (.iload_n 2, 1, 0, 0, .null) := by decide +kernel
theorem i_31_10 : aIns 31 10 = some (.iconst 1, 1, 0, 0, .int (1)) := by decide +kernel
theorem i_31_11 : aIns 31 11 = some (.aload_n 0, 1, 0, 0, .null) := by decide +kernel
theorem i_31_12 : aIns 31 12 = some (.getfield 18, 3, 2, 3, .null) := by decide +kernel
theorem i_31_15 : aIns 31 15 = some (.iload_n 3, 1, 0, 0, .null) := by decide +kernel
theorem i_31_16 : aIns 31 16 = some (.iaload, 1, 0, 0, .null) := by decide +kernel
theorem i_31_17 : aIns 31 17 = some (.ishl, 1, 0, 0, .null) := by decide +kernel
theorem i_31_18 : aIns 31 18 = some (.ior, 1, 0, 0, .null) := by decide +kernel
theorem i_31_19 : aIns 31 19 = some (.istore_n 2, 1, 0, 0, .null) := by decide +kernel
theorem i_31_20 : aIns 31 20 = some (.iinc 3 1, 3, 0, 0, .null) := by decide +kernel
theorem i_31_23 : aIns 31 23 = some (.goto (-19), 3, 0, 0, .null) := by decide +kernel
theorem i_31_26 : aIns 31 26 = some (.iload_n 2, 1, 0, 0, .null) := by decide +kernel
theorem i_31_27 : aIns 31 27 = some (.ireturn, 1, 0, 0, .null) := by decide +kernel
theorem i_32_0 : aIns 32 0 = some (.aload_n 0, 1, 0, 0, .null) := by decide +kernel
theorem i_32_1 : aIns 32 1 = some (.iconst 0, 1, 0, 0, .int (0)) := by decide +kernel
theorem i_32_2 : aIns 32 2 = some (.putfield 249, 3, 2, 17, .null) := by decide +kernel
theorem i_32_5 : aIns 32 5 = some (.iconst (-1), 1, 0, 0, .int (-1)) := by decide +kernel
theorem i_32_6 : aIns 32 6 = some (.istore_n 1, 1, 0, 0, .null) := by decide +kernel
theorem i_32_7 : aIns 32 7 = some (.iload_n 1, 1, 0, 0, .null) := by decide +kernel
theorem i_32_8 : aIns 32 8 = some (.aload_n 0, 1, 0, 0, .null) := by decide +kernel
theorem i_32_9 : aIns 32 9 = some (.getfield 51, 3, 2, 1, .null) := by decide +kernel
theorem i_32_12 : aIns 32 12 = some (.getfield 252, 3, 9, 2, .null) := by decide +kernel
theorem i_32_15 : aIns 32 15 = some (.if_icmp .ge 37, 3, 0, 0, .null) := by decide +kernel
theorem i_32_18 : aIns 32 18 = some (.aload_n 0, 1, 0, 0, .null) := by decide +kernel
theorem i_32_19 : aIns 32 19 = some (.iload_n 1, 1, 0, 0, .null) := by decide +kernel
theorem i_32_20 : aIns 32 20 = some (.invokevirtual 255, 3, 33, 1, .int 2) := by decide +kernel
theorem i_32_23 : aIns 32 23 = some (.ifCond .eq 23, 3, 0, 0, .null) := by decide +kernel
theorem i_32_26 : aIns 32 26 = some (.aload_n 0, 1, 0, 0, .null) := by decide +kernel
theorem i_32_27 : aIns 32 27 = some (.getfield 34, 3, 2, 8, .null) := by decide +kernel
theorem i_32_30 : aIns 32 30 = some (.aload_n 0, 1, 0, 0, .null) := by decide +kernel
theorem i_32_31 : aIns 32 31 = some (.getfield 249, 3, 2, 17, .null) := by decide +kernel
theorem i_32_34 : aIns 32 34 = some (.iload_n 1, 1, 0, 0, .null) := by decide +kernel
theorem i_32_35 : aIns 32 35 = some (.iastore, 1, 0, 0, .null) := by decide +kernel
theorem i_32_36 : aIns 32 36 = some (.aload_n 0, 1, 0, 0, .null) := by decide +kernel
theorem i_32_37 : aIns 32 37 = some (.dup, 1, 0, 0, .null) := by decide +kernel
theorem i_32_38 : aIns 32 38 = some (.getfield 249, 3, 2, 17, .null) := by decide +kernel
theorem i_32_41 : aIns 32 41 = some (.iconst 1, 1, 0, 0, .int (1)) := by decide +kernel
theorem i_32_42 : aIns 32 42 = some (.iadd, 1, 0, 0, .null) := by decide +kernel
theorem i_32_43 : aIns 32 43 = some (.putfield 249, 3, 2, 17, .null) := by decide +kernel
theorem i_32_46 : aIns 32 46 = some (.iinc 1 1, 3, 0, 0, .null) := by decide +kernel
theorem i_32_49 : aIns 32 49 = some (.goto (-42), 3, 0, 0, .null) := by decide +kernel
theorem i_32_52 : aIns 32 52 = some (.return_, 1, 0, 0, .null) := by decide +kernel
theorem i_33_0 : aIns 33 0 = some (.iconst 0, 1, 0, 0, .int (0)) := by decide +kernel
theorem i_33_1 : aIns 33 1 = some (.istore_n 2, 1, 0, 0, .null) := by decide +kernel
theorem i_33_2 : aIns 33 2 = some (.iload_n 2, 1, 0, 0, .null) := by decide +kernel
theorem i_33_3 : aIns 33 3 = some (.aload_n 0, 1, 0, 0, .null) := by decide +kernel
theorem i_33_4 : aIns 33 4 = some (.getfield 47, 3, 2, 0, .null) := by decide +kernel
theorem i_33_7 : aIns 33 7 = some (.getfield 258, 3, 10, 8, .null) := by decide +kernel
theorem i_33_10 : aIns 33 10 = some (.if_icmp .ge 67, 3, 0, 0, .null) := by decide +kernel
theorem i_33_13 : aIns 33 13 = some (.aload_n 0, 1, 0, 0, .null) := by decide +kernel
theorem i_33_14 : aIns 33 14 = some (.getfield 51, 3, 2, 1, .null) := by decide +kernel
theorem i_33_17 : aIns 33 17 = some (.aload_n 0, 1, 0, 0, .null) := by decide +kernel
theorem i_33_18 : aIns 33 18 = some (.getfield 47, 3, 2, 0, .null) := by decide +kernel
theorem i_33_21 : aIns 33 21 = some (.getfield 76, 3, 10, 1, .null) := by decide +kernel
theorem i_33_24 : aIns 33 24 = some (.iload_n 1, 1, 0, 0, .null) := by decide +kernel
theorem i_33_25 : aIns 33 25 = some (.aload_n 0, 1, 0, 0, .null) := by decide +kernel
theorem i_33_26 : aIns 33 26 = some (.getfield 47, 3, 2, 0, .null) := by decide +kernel
theorem i_33_29 : aIns 33 29 = some (.getfield 261, 3, 10, 4, .null) := by decide +kernel
theorem i_33_32 : aIns 33 32 = some (.iload_n 2, 1, 0, 0, .null) := by decide +kernel
theorem i_33_33 : aIns 33 33 = some (.iaload, 1, 0, 0, .null) := by decide +kernel
theorem i_33_34 : aIns 33 34 = some (.aload_n 0, 1, 0, 0, .null) := by decide +kernel
theorem i_33_35 : aIns 33 35 = some (.getfield 47, 3, 2, 0, .null) := by decide +kernel
theorem i_33_38 : aIns 33 38 = some (.getfield 264, 3, 10, 5, .null) := by decide +kernel
theorem i_33_41 : aIns 33 41 = some (.iload_n 2, 1, 0, 0, .null) := by decide +kernel
theorem i_33_42 : aIns 33 42 = some (.iaload, 1, 0, 0, .null) := by decide +kernel
theorem i_33_43 : aIns 33 43 = some (.aload_n 0, 1, 0, 0, .null) := by decide +kernel
theorem i_33_44 : aIns 33 44 = some (.getfield 47, 3, 2, 0, .null) := by decide +kernel
theorem i_33_47 : aIns 33 47 = some (.getfield 267, 3, 10, 6, .null) := by decide +kernel
theorem i_33_50 : aIns 33 50 = some (.iload_n 2, 1, 0, 0, .null) := by decide +kernel
theorem i_33_51 : aIns 33 51 = some (.iaload, 1, 0, 0, .null) := by decide +kernel
theorem i_33_52 : aIns 33 52 = some (.invokevirtual 270, 3, 89, 5, .int 9) := by decide +kernel
theorem i_33_55 : aIns 33 55 = some (.istore_n 3, 1, 0, 0, .null) := by decide +kernel
theorem i_33_56 : aIns 33 56 = some (.iload_n 3, 1, 0, 0, .null) := by decide +kernel
theorem i_33_57 : aIns 33 57 = some (.aload_n 0, 1, 0, 0, .null) := by decide +kernel
theorem i_33_58 : aIns 33 58 = some (.getfield 47, 3, 2, 0, .null) := by decide +kernel
theorem i_33_61 : aIns 33 61 = some (.getfield 274, 3, 10, 7, .null) := by decide +kernel
theorem i_33_64 : aIns 33 64 = some (.iload_n 2, 1, 0, 0, .null) := by decide +kernel
theorem i_33_65 : aIns 33 65 = some (.iaload, 1, 0, 0, .null) := by decide +kernel
theorem i_33_66 : aIns 33 66 = some (.if_icmp .eq 5, 3, 0, 0, .null) := by decide +kernel
theorem i_33_69 : aIns 33 69 = some (.iconst 0, 1, 0, 0, .int (0)) := by decide +kernel
theorem i_33_70 : aIns 33 70 = some (.ireturn, 1, 1, 0, .null) := by decide +kernel
theorem i_33_71 : aIns 33 71 = some (.iinc 2 1, 3, 0, 0, .null) := by decide +kernel
theorem i_33_74 : aIns 33 74 = some (.goto (-72), 3, 0, 0, .null) := by decide +kernel
theorem i_33_77 : aIns 33 77 = some (.iconst 1, 1, 0, 0, .int (1)) := by decide +kernel
theorem i_33_78 : aIns 33 78 = some (.ireturn, 1, 1, 0, .null) := by decide +kernel
theorem i_34_0 : aIns 34 0 = some (.aload_n 0, 1, 0, 0, .null) := by decide +kernel
theorem i_34_1 : aIns 34 1 = some (.getfield 12, 3, 2, 2, .null) := by decide +kernel
theorem i_34_4 : aIns 34 4 = some (.invokevirtual 89, 3, 1, 0, .int 0) := by decide +kernel
theorem i_34_7 : aIns 34 7 = some (.iconst 0, 1, 0, 0, .int (0)) := by decide +kernel
theorem i_34_8 : aIns 34 8 = some (.istore_n 3, 1, 0, 0, .null) := by decide +kernel
theorem i_34_9 : aIns 34 9 = some (.iload_n 3, 1, 0, 0, .null) := by decide +kernel
theorem i_34_10 : aIns 34 10 = some (.bipush 9, 2, 0, 0, .int (9)) := by decide +kernel
theorem i_34_12 : aIns 34 12 = some (.if_icmp .gt 81, 3, 0, 0, .null) := by decide +kernel
theorem i_34_15 : aIns 34 15 = some (.iconst 0, 1, 0, 0, .int (0)) := by decide +kernel
theorem i_34_16 : aIns 34 16 = some (.istore 4, 2, 0, 0, .null) := by decide +kernel
theorem i_34_18 : aIns 34 18 = some (.iload 4, 2, 0, 0, .null) := by decide +kernel
theorem i_34_20 : aIns 34 20 = some (.aload_n 0, 1, 0, 0, .null) := by decide +kernel
theorem i_34_21 : aIns 34 21 = some (.getfield 249, 3, 2, 17, .null) := by decide +kernel
theorem i_34_24 : aIns 34 24 = some (.if_icmp .ge 40, 3, 0, 0, .null) := by decide +kernel
theorem i_34_27 : aIns 34 27 = some (.aload_n 0, 1, 0, 0, .null) := by decide +kernel
theorem i_34_28 : aIns 34 28 = some (.getfield 37, 3, 2, 9, .null) := by decide +kernel
theorem i_34_31 : aIns 34 31 = some (.iload 4, 2, 0, 0, .null) := by decide +kernel
theorem i_34_33 : aIns 34 33 = some (.aload_n 0, 1, 0, 0, .null) := by decide +kernel
theorem i_34_34 : aIns 34 34 = some (.getfield 51, 3, 2, 1, .null) := by decide +kernel
theorem i_34_37 : aIns 34 37 = some (.aload_n 0, 1, 0, 0, .null) := by decide +kernel
theorem i_34_38 : aIns 34 38 = some (.getfield 47, 3, 2, 0, .null) := by decide +kernel
theorem i_34_41 : aIns 34 41 = some (.getfield 76, 3, 10, 1, .null) := by decide +kernel
theorem i_34_44 : aIns 34 44 = some (.aload_n 0, 1, 0, 0, .null) := by decide +kernel
theorem i_34_45 : aIns 34 45 = some (.getfield 34, 3, 2, 8, .null) := by decide +kernel
theorem i_34_48 : aIns 34 48 = some (.iload 4, 2, 0, 0, .null) := by decide +kernel
theorem i_34_50 : aIns 34 50 = some (.iaload, 1, 0, 0, .null) := by decide +kernel
theorem i_34_51 : aIns 34 51 = some (.iload_n 1, 1, 0, 0, .null) := by decide +kernel
theorem i_34_52 : aIns 34 52 = some (.iload_n 2, 1, 0, 0, .null) := by decide +kernel
theorem i_34_53 : aIns 34 53 = some (.iload_n 3, 1, 0, 0, .null) := by decide +kernel
theorem i_34_54 : aIns 34 54 = some (.invokevirtual 270, 3, 89, 5, .int 9) := by decide +kernel
theorem i_34_57 : aIns 34 57 = some (.iastore, 1, 0, 0, .null) := by decide +kernel
theorem i_34_58 : aIns 34 58 = some (.iinc 4 1, 3, 0, 0, .null) := by decide +kernel
theorem i_34_61 : aIns 34 61 = some (.goto (-43), 3, 0, 0, .null) := by decide +kernel
theorem i_34_64 : aIns 34 64 = some (.aload_n 0, 1, 0, 0, .null) := by decide +kernel
theorem i_34_65 : aIns 34 65 = some (.getfield 18, 3, 2, 3, .null) := by decide +kernel
theorem i_34_68 : aIns 34 68 = some (.iconst 0, 1, 0, 0, .int (0)) := by decide +kernel
theorem i_34_69 : aIns 34 69 = some (.iload_n 3, 1, 0, 0, .null) := by decide +kernel
theorem i_34_70 : aIns 34 70 = some (.iastore, 1, 0, 0, .null) := by decide +kernel
theorem i_34_71 : aIns 34 71 = some (.aload_n 0, 1, 0, 0, .null) := by decide +kernel
theorem i_34_72 : aIns 34 72 = some (.getfield 12, 3, 2, 2, .null) := by decide +kernel
theorem i_34_75 : aIns 34 75 = some (.aload_n 0, 1, 0, 0, .null) := by decide +kernel
theorem i_34_76 : aIns 34 76 = some (.invokevirtual 277, 3, 35, 0, .int 2) := by decide +kernel
theorem i_34_79 : aIns 34 79 = some (.aload_n 0, 1, 0, 0, .null) := by decide +kernel
theorem i_34_80 : aIns 34 80 = some (.getfield 18, 3, 2, 3, .null) := by decide +kernel
theorem i_34_83 : aIns 34 83 = some (.iconst 1, 1, 0, 0, .int (1)) := by decide +kernel
theorem i_34_84 : aIns 34 84 = some (.invokevirtual 109, 3, 2, 3, .int 0) := by decide +kernel
theorem i_34_87 : aIns 34 87 = some (.iinc 3 1, 3, 0, 0, .null) := by decide +kernel
theorem i_34_90 : aIns 34 90 = some (.goto (-81), 3, 0, 0, .null) := by decide +kernel
theorem i_34_93 : aIns 34 93 = some (.return_, 1, 0, 0, .null) := by decide +kernel
theorem i_35_0 : aIns 35 0 = some (.iconst 0, 1, 0, 0, .int (0)) := by decide +kernel
theorem i_35_1 : aIns 35 1 = some (.istore_n 1, 1, 0, 0, .null) := by decide +kernel
theorem i_35_2 : aIns 35 2 = some (.iconst 0, 1, 0, 0, .int (0)) := by decide +kernel
theorem i_35_3 : aIns 35 3 = some (.istore_n 2, 1, 0, 0, .null) := by decide +kernel
theorem i_35_4 : aIns 35 4 = some (.iload_n 2, 1, 0, 0, .null) := by decide +kernel
theorem i_35_5 : aIns 35 5 = some (.aload_n 0, 1, 0, 0, .null) := by decide +kernel
theorem i_35_6 : aIns 35 6 = some (.getfield 249, 3, 2, 17, .null) := by decide +kernel
theorem i_35_9 : aIns 35 9 = some (.if_icmp .ge 54, 3, 0, 0, .null) := by decide +kernel
theorem i_35_12 : aIns 35 12 = some (.iconst 0, 1, 0, 0, .int (0)) := by decide +kernel
theorem i_35_13 : aIns 35 13 = some (.istore_n 3, 1, 0, 0, .null) := by decide +kernel
theorem i_35_14 : aIns 35 14 = some (.iconst 0, 1, 0, 0, .int (0)) := by decide +kernel
theorem i_35_15 : aIns 35 15 = some (.istore 4, 2, 0, 0, .null) := by decide +kernel
theorem i_35_17 : aIns 35 17 = some (.iload 4, 2, 0, 0, .null) := by decide +kernel
theorem i_35_19 : aIns 35 19 = some (.aload_n 0, 1, 0, 0, .null) := by decide +kernel
theorem i_35_20 : aIns 35 20 = some (.getfield 249, 3, 2, 17, .null) := by decide +kernel
theorem i_35_23 : aIns 35 23 = some (.if_icmp .ge 28, 3, 0, 0, .null) := by decide +kernel
theorem i_35_26 : aIns 35 26 = some (.aload_n 0, 1, 0, 0, .null) := by decide +kernel
theorem i_35_27 : aIns 35 27 = some (.getfield 37, 3, 2, 9, .null) := by decide +kernel
theorem i_35_30 : aIns 35 30 = some (.iload 4, 2, 0, 0, .null) := by decide +kernel
theorem i_35_32 : aIns 35 32 = some (.iaload, 1, 0, 0, .null) := by decide +kernel
theorem i_35_33 : aIns 35 33 = some (.aload_n 0, 1, 0, 0, .null) := by decide +kernel
theorem i_35_34 : aIns 35 34 = some (.getfield 37, 3, 2, 9, .null) := by decide +kernel
theorem i_35_37 : aIns 35 37 = some (.iload_n 2, 1, 0, 0, .null) := by decide +kernel
theorem i_35_38 : aIns 35 38 = some (.iaload, 1, 0, 0, .null) := by decide +kernel
theorem i_35_39 : aIns 35 39 = some (.if_icmp .ne 6, 3, 0, 0, .null) := by decide +kernel
theorem i_35_42 : aIns 35 42 = some (.iinc 3 1, 3, 0, 0, .null) := by decide +kernel
theorem i_35_45 : aIns 35 45 = some (.iinc 4 1, 3, 0, 0, .null) := by decide +kernel
theorem i_35_48 : aIns 35 48 = some (.goto (-31), 3, 0, 0, .null) := by decide +kernel
theorem i_35_51 : aIns 35 51 = some (.iload_n 1, 1, 0, 0, .null) := by decide +kernel
theorem i_35_52 : aIns 35 52 = some (.iload_n 3, 1, 0, 0, .null) := by decide +kernel
theorem i_35_53 : aIns 35 53 = some (.invokestatic 192, 3, 1001, 0, .null) := by decide +kernel
theorem i_35_56 : aIns 35 56 = some (.istore_n 1, 1, 0, 0, .null) := by decide +kernel
theorem i_35_57 : aIns 35 57 = some (.iinc 2 1, 3, 0, 0, .null) := by decide +kernel
theorem i_35_60 : aIns 35 60 = some (.goto (-56), 3, 0, 0, .null) := by decide +kernel
theorem i_35_63 : aIns 35 63 = some (.iload_n 1, 1, 0, 0, .null) := by decide +kernel
theorem i_35_64 : aIns 35 64 = some (.ireturn, 1, 0, 0, .null) := by decide +kernel
theorem i_36_0 : aIns 36 0 = some (.aload_n 0, 1, 0, 0, .null) := by decide +kernel
theorem i_36_1 : aIns 36 1 = some (.getfield 12, 3, 2, 2, .null) := by decide +kernel
theorem i_36_4 : aIns 36 4 = some (.invokevirtual 89, 3, 1, 0, .int 0) := by decide +kernel
theorem i_36_7 : aIns 36 7 = some (.iconst 0, 1, 0, 0, .int (0)) := by decide +kernel
theorem i_36_8 : aIns 36 8 = some (.istore_n 2, 1, 0, 0, .null) := by decide +kernel
theorem i_36_9 : aIns 36 9 = some (.iload_n 2, 1, 0, 0, .null) := by decide +kernel
theorem i_36_10 : aIns 36 10 = some (.bipush 30, 2, 0, 0, .int (30)) := by decide +kernel
theorem i_36_12 : aIns 36 12 = some (.if_icmp .gt 53, 3, 0, 0, .null) := by decide +kernel
theorem i_36_15 : aIns 36 15 = some (.aload_n 0, 1, 0, 0, .null) := by decide +kernel
theorem i_36_16 : aIns 36 16 = some (.getfield 18, 3, 2, 3, .null) := by decide +kernel
theorem i_36_19 : aIns 36 19 = some (.iconst 0, 1, 0, 0, .int (0)) := by decide +kernel
theorem i_36_20 : aIns 36 20 = some (.aload_n 0, 1, 0, 0, .null) := by decide +kernel
theorem i_36_21 : aIns 36 21 = some (.getfield 47, 3, 2, 0, .null) := by decide +kernel
theorem i_36_24 : aIns 36 24 = some (.getfield 76, 3, 10, 1, .null) := by decide +kernel
theorem i_36_27 : aIns 36 27 = some (.getfield 92, 3, 7, 13, .null) := by decide +kernel
theorem i_36_30 : aIns 36 30 = some (.iload_n 2, 1, 0, 0, .null) := by decide +kernel
theorem i_36_31 : aIns 36 31 = some (.iadd, 1, 0, 0, .null) := by decide +kernel
theorem i_36_32 : aIns 36 32 = some (.iastore, 1, 0, 0, .null) := by decide +kernel
theorem i_36_33 : aIns 36 33 = some (.aload_n 0, 1, 0, 0, .null) := by decide +kernel
theorem i_36_34 : aIns 36 34 = some (.getfield 12, 3, 2, 2, .null) := by decide +kernel
theorem i_36_37 : aIns 36 37 = some (.aload_n 0, 1, 0, 0, .null) := by decide +kernel
theorem i_36_38 : aIns 36 38 = some (.getfield 51, 3, 2, 1, .null) := by decide +kernel
theorem i_36_41 : aIns 36 41 = some (.iload_n 1, 1, 0, 0, .null) := by decide +kernel
theorem i_36_42 : aIns 36 42 = some (.aload_n 0, 1, 0, 0, .null) := by decide +kernel
theorem i_36_43 : aIns 36 43 = some (.getfield 18, 3, 2, 3, .null) := by decide +kernel
theorem i_36_46 : aIns 36 46 = some (.iconst 0, 1, 0, 0, .int (0)) := by decide +kernel
theorem i_36_47 : aIns 36 47 = some (.iaload, 1, 0, 0, .null) := by decide +kernel
theorem i_36_48 : aIns 36 48 = some (.invokevirtual 70, 3, 90, 2, .int 9) := by decide +kernel
theorem i_36_51 : aIns 36 51 = some (.aload_n 0, 1, 0, 0, .null) := by decide +kernel
theorem i_36_52 : aIns 36 52 = some (.getfield 18, 3, 2, 3, .null) := by decide +kernel
theorem i_36_55 : aIns 36 55 = some (.iconst 1, 1, 0, 0, .int (1)) := by decide +kernel
theorem i_36_56 : aIns 36 56 = some (.invokevirtual 109, 3, 2, 3, .int 0) := by decide +kernel
theorem i_36_59 : aIns 36 59 = some (.iinc 2 1, 3, 0, 0, .null) := by decide +kernel
theorem i_36_62 : aIns 36 62 = some (.goto (-53), 3, 0, 0, .null) := by decide +kernel
theorem i_36_65 : aIns 36 65 = some (.return_, 1, 0, 0, .null) := by decide +kernel
theorem i_79_0 : aIns 79 0 = some (.iconst 0, 1, 0, 0, .int (0)) := by decide +kernel
theorem i_79_1 : aIns 79 1 = some (.istore_n 1, 1, 0, 0, .null) := by decide +kernel
theorem i_79_2 : aIns 79 2 = some (.iload_n 1, 1, 0, 0, .null) := by decide +kernel
theorem i_79_3 : aIns 79 3 = some (.bipush 8, 2, 0, 0, .int (8)) := by decide +kernel
theorem i_79_5 : aIns 79 5 = some (.if_icmp .ge 46, 3, 0, 0, .null) := by decide +kernel
theorem i_79_8 : aIns 79 8 = some (.aload_n 0, 1, 0, 0, .null) := by decide +kernel
theorem i_79_9 : aIns 79 9 = some (.getfield 15, 3, 7, 1, .null) := by decide +kernel
theorem i_79_12 : aIns 79 12 = some (.iload_n 1, 1, 0, 0, .null) := by decide +kernel
theorem i_79_13 : aIns 79 13 = some (.dup2, 1, 0, 0, .null) := by decide +kernel
theorem i_79_14 : aIns 79 14 = some (.iaload, 1, 0, 0, .null) := by decide +kernel
theorem i_79_15 : aIns 79 15 = some (.aload_n 0, 1, 0, 0, .null) := by decide +kernel
theorem i_79_16 : aIns 79 16 = some (.getfield 9, 3, 7, 0, .null) := by decide +kernel
theorem i_79_19 : aIns 79 19 = some (.iload_n 1, 1, 0, 0, .null) := by decide +kernel
theorem i_79_20 : aIns 79 20 = some (.iaload, 1, 0, 0, .null) := by decide +kernel
theorem i_79_21 : aIns 79 21 = some (.isub, 1, 0, 0, .null) := by decide +kernel
theorem i_79_22 : aIns 79 22 = some (.iastore, 1, 0, 0, .null) := by decide +kernel
theorem i_79_23 : aIns 79 23 = some (.aload_n 0, 1, 0, 0, .null) := by decide +kernel
theorem i_79_24 : aIns 79 24 = some (.getfield 18, 3, 7, 2, .null) := by decide +kernel
theorem i_79_27 : aIns 79 27 = some (.iload_n 1, 1, 0, 0, .null) := by decide +kernel
theorem i_79_28 : aIns 79 28 = some (.dup2, 1, 0, 0, .null) := by decide +kernel
theorem i_79_29 : aIns 79 29 = some (.iaload, 1, 0, 0, .null) := by decide +kernel
theorem i_79_30 : aIns 79 30 = some (.aload_n 0, 1, 0, 0, .null) := by decide +kernel
theorem i_79_31 : aIns 79 31 = some (.getfield 9, 3, 7, 0, .null) := by decide +kernel
theorem i_79_34 : aIns 79 34 = some (.iload_n 1, 1, 0, 0, .null) := by decide +kernel
theorem i_79_35 : aIns 79 35 = some (.iaload, 1, 0, 0, .null) := by decide +kernel
theorem i_79_36 : aIns 79 36 = some (.iadd, 1, 0, 0, .null) := by decide +kernel
theorem i_79_37 : aIns 79 37 = some (.iastore, 1, 0, 0, .null) := by decide +kernel
theorem i_79_38 : aIns 79 38 = some (.aload_n 0, 1, 0, 0, .null) := by decide +kernel
theorem i_79_39 : aIns 79 39 = some (.getfield 9, 3, 7, 0, .null) := by decide +kernel
theorem i_79_42 : aIns 79 42 = some (.iload_n 1, 1, 0, 0, .null) := by decide +kernel
theorem i_79_43 : aIns 79 43 = some (.iconst 0, 1, 0, 0, .int (0)) := by decide +kernel
theorem i_79_44 : aIns 79 44 = some (.iastore, 1, 0, 0, .null) := by decide +kernel
theorem i_79_45 : aIns 79 45 = some (.iinc 1 1, 3, 0, 0, .null) := by decide +kernel
theorem i_79_48 : aIns 79 48 = some (.goto (-46), 3, 0, 0, .null) := by decide +kernel
theorem i_79_51 : aIns 79 51 = some (.return_, 1, 0, 0, .null) := by decide +kernel
theorem i_96_0 : aIns 96 0 = some (.aload_n 0, 1, 0, 0, .null) := by decide +kernel
theorem i_96_1 : aIns 96 1 = some (.getfield 21, 3, 9, 0, .null) := by decide +kernel
theorem i_96_4 : aIns 96 4 = some (.getfield 67, 3, 10, 1, .null) := by decide +kernel
theorem i_96_7 : aIns 96 7 = some (.astore 4, 2, 0, 0, .null) := by decide +kernel
theorem i_96_9 : aIns 96 9 = some (.aload_n 0, 1, 0, 0, .null) := by decide +kernel
theorem i_96_10 : aIns 96 10 = some (.getfield 21, 3, 9, 0, .null) := by decide +kernel
theorem i_96_13 : aIns 96 13 = some (.getfield 26, 3, 10, 0, .null) := by decide +kernel
theorem i_96_16 : aIns 96 16 = some (.getfield 126, 3, 5, 3, .null) := by decide +kernel
theorem i_96_19 : aIns 96 19 = some (.ifCond .ne 11, 3, 0, 0, .null) := by decide +kernel
theorem i_96_22 : aIns 96 22 = some (.aload 4, 2, 0, 0, .null) := by decide +kernel
theorem i_96_24 : aIns 96 24 = some (.getfield 130, 3, 7, 5, .null) := by decide +kernel
theorem i_96_27 : aIns 96 27 = some (.iload_n 1, 1, 0, 0, .null) := by decide +kernel
theorem i_96_28 : aIns 96 28 = some (.iaload, 1, 0, 0, .null) := by decide +kernel
theorem i_96_29 : aIns 96 29 = some (.ireturn, 1, 0, 0, .null) := by decide +kernel
theorem i_96_30 : aIns 96 30 = some (.iconst 0, 1, 0, 0, .int (0)) := by decide +kernel
theorem i_96_31 : aIns 96 31 = some (.istore 5, 2, 0, 0, .null) := by decide +kernel
theorem i_96_33 : aIns 96 33 = some (.iconst 0, 1, 0, 0, .int (0)) := by decide +kernel
theorem i_96_34 : aIns 96 34 = some (.istore 6, 2, 0, 0, .null) := by decide +kernel
theorem i_96_36 : aIns 96 36 = some (.iconst 0, 1, 0, 0, .int (0)) := by decide +kernel
theorem i_96_37 : aIns 96 37 = some (.istore 7, 2, 0, 0, .null) := by decide +kernel
theorem i_96_39 : aIns 96 39 = some (.iload 7, 2, 0, 0, .null) := by decide +kernel
theorem i_96_41 : aIns 96 41 = some (.bipush 8, 2, 0, 0, .int (8)) := by decide +kernel
theorem i_96_43 : aIns 96 43 = some (.if_icmp .ge 36, 3, 0, 0, .null) := by decide +kernel
theorem i_96_46 : aIns 96 46 = some (.iload 5, 2, 0, 0, .null) := by decide +kernel
theorem i_96_48 : aIns 96 48 = some (.aload_n 2, 1, 0, 0, .null) := by decide +kernel
theorem i_96_49 : aIns 96 49 = some (.iload 7, 2, 0, 0, .null) := by decide +kernel
theorem i_96_51 : aIns 96 51 = some (.iaload, 1, 0, 0, .null) := by decide +kernel
theorem i_96_52 : aIns 96 52 = some (.iadd, 1, 0, 0, .null) := by decide +kernel
theorem i_96_53 : aIns 96 53 = some (.istore 5, 2, 0, 0, .null) := by decide +kernel
theorem i_96_55 : aIns 96 55 = some (.iload 6, 2, 0, 0, .null) := by decide +kernel
theorem i_96_57 : aIns 96 57 = some (.aload_n 2, 1, 0, 0, .null) := by decide +kernel
theorem i_96_58 : aIns 96 58 = some (.iload 7, 2, 0, 0, .null) := by decide +kernel
theorem i_96_60 : aIns 96 60 = some (.iaload, 1, 0, 0, .null) := by decide +kernel
theorem i_96_61 : aIns 96 61 = some (.aload 4, 2, 0, 0, .null) := by decide +kernel
theorem i_96_63 : aIns 96 63 = some (.getfield 130, 3, 7, 5, .null) := by decide +kernel
theorem i_96_66 : aIns 96 66 = some (.iload 7, 2, 0, 0, .null) := by decide +kernel
theorem i_96_68 : aIns 96 68 = some (.iaload, 1, 0, 0, .null) := by decide +kernel
theorem i_96_69 : aIns 96 69 = some (.imul, 1, 0, 0, .null) := by decide +kernel
theorem i_96_70 : aIns 96 70 = some (.iadd, 1, 0, 0, .null) := by decide +kernel
theorem i_96_71 : aIns 96 71 = some (.istore 6, 2, 0, 0, .null) := by decide +kernel
theorem i_96_73 : aIns 96 73 = some (.iinc 7 1, 3, 0, 0, .null) := by decide +kernel
theorem i_96_76 : aIns 96 76 = some (.goto (-37), 3, 0, 0, .null) := by decide +kernel
theorem i_96_79 : aIns 96 79 = some (.iconst 0, 1, 0, 0, .int (0)) := by decide +kernel
theorem i_96_80 : aIns 96 80 = some (.iload_n 3, 1, 0, 0, .null) := by decide +kernel
theorem i_96_81 : aIns 96 81 = some (.aload_n 0, 1, 0, 0, .null) := by decide +kernel
theorem i_96_82 : aIns 96 82 = some (.iload 5, 2, 0, 0, .null) := by decide +kernel
theorem i_96_84 : aIns 96 84 = some (.iload 6, 2, 0, 0, .null) := by decide +kernel
theorem i_96_86 : aIns 96 86 = some (.aload 4, 2, 0, 0, .null) := by decide +kernel
theorem i_96_88 : aIns 96 88 = some (.getfield 133, 3, 7, 7, .null) := by decide +kernel
theorem i_96_91 : aIns 96 91 = some (.aload 4, 2, 0, 0, .null) := by decide +kernel
theorem i_96_93 : aIns 96 93 = some (.getfield 136, 3, 7, 9, .null) := by decide +kernel
theorem i_96_96 : aIns 96 96 = some (.aload_n 0, 1, 0, 0, .null) := by decide +kernel
theorem i_96_97 : aIns 96 97 = some (.getfield 21, 3, 9, 0, .null) := by decide +kernel
theorem i_96_100 : aIns 96 100 = some (.getfield 26, 3, 10, 0, .null) := by decide +kernel
theorem i_96_103 : aIns 96 103 = some (.getfield 106, 3, 5, 2, .null) := by decide +kernel
theorem i_96_106 : aIns 96 106 = some (.invokevirtual 109, 3, 94, 5, .int 9) := by decide +kernel
theorem i_96_109 : aIns 96 109 = some (.isub, 1, 0, 0, .null) := by decide +kernel
theorem i_96_110 : aIns 96 110 = some (.invokestatic 46, 3, 1001, 0, .null) := by decide +kernel
theorem i_96_113 : aIns 96 113 = some (.ireturn, 1, 0, 0, .null) := by decide +kernel
def l_27 (sf27 : Nat → Int32 → Int32 → Int32 → aH → Option aH) (g n tag : Nat) (a0 : Nat) (x1 : Int32) (x2 : Int32) (x3 : Int32) (x4 : Int32) (x5 : Int32) (h0 : aH) : Option (aH) := match n with
  | 0 => none
  | n + 1 => if tag = 0 then ((gR h0 a0 2 0).bind (fun f_1 => ((gR h0 f_1 10 0).bind (fun f_3 => ((gI h0 f_3 5 8).bind (fun f_5 => (if x1 < f_5 then ((gR h0 a0 2 0).bind (fun f_8 => ((gR h0 f_8 10 0).bind (fun f_10 => ((gR h0 f_10 5 10).bind (fun f_12 => ((gA h0 f_12 x1).bind (fun f_14 => ((gR h0 a0 2 0).bind (fun f_16 => ((gR h0 f_16 10 1).bind (fun f_18 => ((gI h0 f_18 7 13).bind (fun f_20 => (l_27 sf27 g n 1 a0 x1 x2 x3 (if (0 : Int32) < (if (f_14 - f_20) < (4 : Int32) then (f_14 - f_20) else (4 : Int32)) then (if (f_14 - f_20) < (4 : Int32) then (f_14 - f_20) else (4 : Int32)) else (0 : Int32)) (0 : Int32) h0))))))))))))))) else ((gR h0 a0 2 2).bind (fun f_22 => ((gR h0 a0 2 3).bind (fun f_24 => (if isO h0 f_22 0 = true then ((d_2 g f_22 x3 f_24 x1 h0).bind (fun z_29 => some z_29)) else none)))))))))))) else if tag = 1 then (if x4 < x5 then some h0 else ((gR h0 a0 2 6).bind (fun f_34 => ((gA h0 f_34 ((x1 * (5 : Int32)) + x5)).bind (fun f_36 => ((gR h0 a0 2 1).bind (fun f_38 => ((gR h0 a0 2 5).bind (fun f_40 => ((gA h0 f_40 x5).bind (fun f_42 => (if isO h0 f_38 9 = true then ((d_95 g f_38 f_42 h0).bind (fun z_47 => ((gR z_47.2 a0 2 3).bind (fun f_51 => ((sA z_47.2 f_51 x1 x5).bind (fun h_53 => ((gR h_53 a0 2 5).bind (fun f_55 => ((gA h_53 f_55 x5).bind (fun f_57 => ((sA h_53 f_55 x5 (f_57 + f_36)).bind (fun h_59 => ((gR h_59 a0 2 1).bind (fun f_61 => ((gR h_59 a0 2 5).bind (fun f_63 => ((gA h_59 f_63 x5).bind (fun f_65 => (if isO h_59 f_61 9 = true then ((d_95 g f_61 f_65 h_59).bind (fun z_70 => (if isO z_70.2 a0 2 = true then ((sf27 a0 (x1 + (1 : Int32)) (x2 + f_36) ((x3 - z_47.1) + z_70.1) z_70.2).bind (fun z_77 => ((gR z_77 a0 2 5).bind (fun f_81 => ((gA z_77 f_81 x5).bind (fun f_83 => ((sA z_77 f_81 x5 (f_83 - f_36)).bind (fun h_85 => (l_27 sf27 g n 1 a0 x1 x2 x3 x4 (x5 + (1 : Int32)) h_85))))))))) else none))) else none))))))))))))))))))) else none)))))))))))) else none
set_option maxHeartbeats 4000000 in
set_option maxRecDepth 100000 in
theorem l_27_ok {X : aX} {g : Nat} {sf27 : Nat → Int32 → Int32 → Int32 → aH → Option aH} {e : Nat} (hdp : 1 ≤ e) (hs27 : ∀ (a0 : Nat) (x1 : Int32) (x2 : Int32) (x3 : Int32) (h0 zz : aH), sf27 a0 x1 x2 x3 h0 = some zz → aWp X e 27 0 (aEntL [.ref a0, .int x1, .int x2, .int x3] 8) [] h0 (fun w h' => w = none ∧ h' = zz)) : ∀ n, (∀ (a0 : Nat) (x1 : Int32) (x2 : Int32) (x3 : Int32) (x4 : Int32) (x5 : Int32) (h0 : aH) (zz : aH), l_27 sf27 g n 0 a0 x1 x2 x3 x4 x5 h0 = some zz → aWp X (e + 1) 27 22 [some (.ref a0), some (.int x1), some (.int x2), some (.int x3), none, none, none, none] [] h0 (fun w h' => w = none ∧ h' = zz)) ∧ (∀ (a0 : Nat) (x1 : Int32) (x2 : Int32) (x3 : Int32) (x4 : Int32) (x5 : Int32) (h0 : aH) (zz : aH), l_27 sf27 g n 1 a0 x1 x2 x3 x4 x5 h0 = some zz → aWp X (e + 1) 27 86 [some (.ref a0), some (.int x1), some (.int x2), some (.int x3), some (.int x4), some (.int x5), none, none] [] h0 (fun w h' => w = none ∧ h' = zz)) := by
  intro n
  induction n with
  | zero => exact ⟨fun _ _ _ _ _ _ _ _ hd => by simp [l_27] at hd, fun _ _ _ _ _ _ _ _ hd => by simp [l_27] at hd⟩
  | succ n ih =>
    refine ⟨?_, ?_⟩
    · intro a0 x1 x2 x3 x4 x5 h0 zz hd
      unfold l_27 at hd
      rw [if_pos rfl] at hd
      refine wp_s 23 [some (.ref a0), some (.int x1), some (.int x2), some (.int x3), none, none, none, none] [.int x1] h0 i_27_22 rfl ?_
      refine wp_s 24 [some (.ref a0), some (.int x1), some (.int x2), some (.int x3), none, none, none, none] [.ref a0, .int x1] h0 i_27_23 rfl ?_
      obtain ⟨f_1, q_2, hd⟩ := dk_bind hd
      refine hp_gR 27 rfl i_27_24 q_2 ?_
      obtain ⟨f_3, q_4, hd⟩ := dk_bind hd
      refine hp_gR 30 rfl i_27_27 q_4 ?_
      obtain ⟨f_5, q_6, hd⟩ := dk_bind hd
      refine hp_gI 33 rfl i_27_30 q_6 ?_
      refine wp_cmp_lt 50 36 rfl rfl i_27_33 (fun c_7 => ?_) (fun c_7 => ?_)
      · rw [if_pos c_7] at hd
        refine wp_s 51 [some (.ref a0), some (.int x1), some (.int x2), some (.int x3), none, none, none, none] [.int (0 : Int32)] h0 i_27_50 rfl ?_
        refine wp_s 52 [some (.ref a0), some (.int x1), some (.int x2), some (.int x3), none, none, none, none] [.int (4 : Int32), .int (0 : Int32)] h0 i_27_51 rfl ?_
        refine wp_s 53 [some (.ref a0), some (.int x1), some (.int x2), some (.int x3), none, none, none, none] [.ref a0, .int (4 : Int32), .int (0 : Int32)] h0 i_27_52 rfl ?_
        obtain ⟨f_8, q_9, hd⟩ := dk_bind hd
        refine hp_gR 56 rfl i_27_53 q_9 ?_
        obtain ⟨f_10, q_11, hd⟩ := dk_bind hd
        refine hp_gR 59 rfl i_27_56 q_11 ?_
        obtain ⟨f_12, q_13, hd⟩ := dk_bind hd
        refine hp_gR 62 rfl i_27_59 q_13 ?_
        refine wp_s 63 [some (.ref a0), some (.int x1), some (.int x2), some (.int x3), none, none, none, none] [.int x1, .ref f_12, .int (4 : Int32), .int (0 : Int32)] h0 i_27_62 rfl ?_
        obtain ⟨f_14, q_15, hd⟩ := dk_bind hd
        refine hp_gA 64 rfl i_27_63 q_15 ?_
        refine wp_s 65 [some (.ref a0), some (.int x1), some (.int x2), some (.int x3), none, none, none, none] [.ref a0, .int f_14, .int (4 : Int32), .int (0 : Int32)] h0 i_27_64 rfl ?_
        obtain ⟨f_16, q_17, hd⟩ := dk_bind hd
        refine hp_gR 68 rfl i_27_65 q_17 ?_
        obtain ⟨f_18, q_19, hd⟩ := dk_bind hd
        refine hp_gR 71 rfl i_27_68 q_19 ?_
        obtain ⟨f_20, q_21, hd⟩ := dk_bind hd
        refine hp_gI 74 rfl i_27_71 q_21 ?_
        refine wp_s 75 [some (.ref a0), some (.int x1), some (.int x2), some (.int x3), none, none, none, none] [.int (f_14 - f_20), .int (4 : Int32), .int (0 : Int32)] h0 i_27_74 rfl ?_
        refine hp_min 78 rfl i_27_75 rfl ?_
        refine hp_max 81 rfl i_27_78 rfl ?_
        refine wp_s 83 [some (.ref a0), some (.int x1), some (.int x2), some (.int x3), some (.int (if (0 : Int32) < (if (f_14 - f_20) < (4 : Int32) then (f_14 - f_20) else (4 : Int32)) then (if (f_14 - f_20) < (4 : Int32) then (f_14 - f_20) else (4 : Int32)) else (0 : Int32))), none, none, none] [] h0 i_27_81 rfl ?_
        refine wp_s 84 [some (.ref a0), some (.int x1), some (.int x2), some (.int x3), some (.int (if (0 : Int32) < (if (f_14 - f_20) < (4 : Int32) then (f_14 - f_20) else (4 : Int32)) then (if (f_14 - f_20) < (4 : Int32) then (f_14 - f_20) else (4 : Int32)) else (0 : Int32))), none, none, none] [.int (0 : Int32)] h0 i_27_83 rfl ?_
        refine wp_s 86 [some (.ref a0), some (.int x1), some (.int x2), some (.int x3), some (.int (if (0 : Int32) < (if (f_14 - f_20) < (4 : Int32) then (f_14 - f_20) else (4 : Int32)) then (if (f_14 - f_20) < (4 : Int32) then (f_14 - f_20) else (4 : Int32)) else (0 : Int32))), some (.int (0 : Int32)), none, none] [] h0 i_27_84 rfl ?_
        exact aWp.forget (ih.2 _ _ _ _ _ _ _ _ hd) (lvS (lvS (lvS (lvS (lvS (lvS (lvN (lvN lvE))))))))
      · rw [if_neg c_7] at hd
        refine wp_s 37 [some (.ref a0), some (.int x1), some (.int x2), some (.int x3), none, none, none, none] [.ref a0] h0 i_27_36 rfl ?_
        obtain ⟨f_22, q_23, hd⟩ := dk_bind hd
        refine hp_gR 40 rfl i_27_37 q_23 ?_
        refine wp_s 41 [some (.ref a0), some (.int x1), some (.int x2), some (.int x3), none, none, none, none] [.int x3, .ref f_22] h0 i_27_40 rfl ?_
        refine wp_s 42 [some (.ref a0), some (.int x1), some (.int x2), some (.int x3), none, none, none, none] [.ref a0, .int x3, .ref f_22] h0 i_27_41 rfl ?_
        obtain ⟨f_24, q_25, hd⟩ := dk_bind hd
        refine hp_gR 45 rfl i_27_42 q_25 ?_
        refine wp_s 46 [some (.ref a0), some (.int x1), some (.int x2), some (.int x3), none, none, none, none] [.int x1, .ref f_24, .int x3, .ref f_22] h0 i_27_45 rfl ?_
        obtain ⟨k_26, hd⟩ := dk_if hd
        obtain ⟨fs_27, o_28⟩ := isO_of k_26
        obtain ⟨z_29, q_30, hd⟩ := dk_bind hd
        refine wp_callV 49 rfl i_27_46 (by decide) rfl (vs := [.int x3, .ref f_24, .int x1]) (rest := []) rfl rfl rfl o_28 (y := m_2) rfl (Nat.le_of_ble_eq_true rfl) (d_2_ok (d := e) (by omega) q_30) ?_
        rintro v_31 h_32 ⟨rfl, hz⟩
        have hz := hz.symm
        subst hz
        obtain rfl := Option.some.inj hd
        exact wp_ret i_27_49 rfl ⟨rfl, rfl⟩
    · intro a0 x1 x2 x3 x4 x5 h0 zz hd
      unfold l_27 at hd
      rw [if_neg (by decide), if_pos rfl] at hd
      refine wp_s 88 [some (.ref a0), some (.int x1), some (.int x2), some (.int x3), some (.int x4), some (.int x5), none, none] [.int x5] h0 i_27_86 rfl ?_
      refine wp_s 90 [some (.ref a0), some (.int x1), some (.int x2), some (.int x3), some (.int x4), some (.int x5), none, none] [.int x4, .int x5] h0 i_27_88 rfl ?_
      refine wp_cmp_gt 190 93 rfl rfl i_27_90 (fun c_33 => ?_) (fun c_33 => ?_)
      · rw [if_pos c_33] at hd
        obtain rfl := Option.some.inj hd
        exact wp_ret i_27_190 rfl ⟨rfl, rfl⟩
      · rw [if_neg c_33] at hd
        refine wp_s 94 [some (.ref a0), some (.int x1), some (.int x2), some (.int x3), some (.int x4), some (.int x5), none, none] [.ref a0] h0 i_27_93 rfl ?_
        obtain ⟨f_34, q_35, hd⟩ := dk_bind hd
        refine hp_gR 97 rfl i_27_94 q_35 ?_
        refine wp_s 98 [some (.ref a0), some (.int x1), some (.int x2), some (.int x3), some (.int x4), some (.int x5), none, none] [.int x1, .ref f_34] h0 i_27_97 rfl ?_
        refine wp_s 99 [some (.ref a0), some (.int x1), some (.int x2), some (.int x3), some (.int x4), some (.int x5), none, none] [.int (5 : Int32), .int x1, .ref f_34] h0 i_27_98 rfl ?_
        refine wp_s 100 [some (.ref a0), some (.int x1), some (.int x2), some (.int x3), some (.int x4), some (.int x5), none, none] [.int (x1 * (5 : Int32)), .ref f_34] h0 i_27_99 rfl ?_
        refine wp_s 102 [some (.ref a0), some (.int x1), some (.int x2), some (.int x3), some (.int x4), some (.int x5), none, none] [.int x5, .int (x1 * (5 : Int32)), .ref f_34] h0 i_27_100 rfl ?_
        refine wp_s 103 [some (.ref a0), some (.int x1), some (.int x2), some (.int x3), some (.int x4), some (.int x5), none, none] [.int ((x1 * (5 : Int32)) + x5), .ref f_34] h0 i_27_102 rfl ?_
        obtain ⟨f_36, q_37, hd⟩ := dk_bind hd
        refine hp_gA 104 rfl i_27_103 q_37 ?_
        refine wp_s 106 [some (.ref a0), some (.int x1), some (.int x2), some (.int x3), some (.int x4), some (.int x5), some (.int f_36), none] [] h0 i_27_104 rfl ?_
        refine wp_s 107 [some (.ref a0), some (.int x1), some (.int x2), some (.int x3), some (.int x4), some (.int x5), some (.int f_36), none] [.ref a0] h0 i_27_106 rfl ?_
        obtain ⟨f_38, q_39, hd⟩ := dk_bind hd
        refine hp_gR 110 rfl i_27_107 q_39 ?_
        refine wp_s 111 [some (.ref a0), some (.int x1), some (.int x2), some (.int x3), some (.int x4), some (.int x5), some (.int f_36), none] [.ref a0, .ref f_38] h0 i_27_110 rfl ?_
        obtain ⟨f_40, q_41, hd⟩ := dk_bind hd
        refine hp_gR 114 rfl i_27_111 q_41 ?_
        refine wp_s 116 [some (.ref a0), some (.int x1), some (.int x2), some (.int x3), some (.int x4), some (.int x5), some (.int f_36), none] [.int x5, .ref f_40, .ref f_38] h0 i_27_114 rfl ?_
        obtain ⟨f_42, q_43, hd⟩ := dk_bind hd
        refine hp_gA 117 rfl i_27_116 q_43 ?_
        obtain ⟨k_44, hd⟩ := dk_if hd
        obtain ⟨fs_45, o_46⟩ := isO_of k_44
        obtain ⟨z_47, q_48, hd⟩ := dk_bind hd
        refine wp_callV 120 rfl i_27_117 (by decide) rfl (vs := [.int f_42]) (rest := []) rfl rfl rfl o_46 (y := m_95) rfl (Nat.le_of_ble_eq_true rfl) (d_95_ok (d := e) (by omega) q_48) ?_
        rintro v_49 h_50 ⟨rfl, rfl⟩
        refine wp_s 122 [some (.ref a0), some (.int x1), some (.int x2), some (.int x3), some (.int x4), some (.int x5), some (.int f_36), some (.int z_47.1)] [] z_47.2 i_27_120 rfl ?_
        refine wp_s 123 [some (.ref a0), some (.int x1), some (.int x2), some (.int x3), some (.int x4), some (.int x5), some (.int f_36), some (.int z_47.1)] [.ref a0] z_47.2 i_27_122 rfl ?_
        obtain ⟨f_51, q_52, hd⟩ := dk_bind hd
        refine hp_gR 126 rfl i_27_123 q_52 ?_
        refine wp_s 127 [some (.ref a0), some (.int x1), some (.int x2), some (.int x3), some (.int x4), some (.int x5), some (.int f_36), some (.int z_47.1)] [.int x1, .ref f_51] z_47.2 i_27_126 rfl ?_
        refine wp_s 129 [some (.ref a0), some (.int x1), some (.int x2), some (.int x3), some (.int x4), some (.int x5), some (.int f_36), some (.int z_47.1)] [.int x5, .int x1, .ref f_51] z_47.2 i_27_127 rfl ?_
        obtain ⟨h_53, q_54, hd⟩ := dk_bind hd
        refine hp_sA 130 rfl i_27_129 q_54 ?_
        refine wp_s 131 [some (.ref a0), some (.int x1), some (.int x2), some (.int x3), some (.int x4), some (.int x5), some (.int f_36), some (.int z_47.1)] [.ref a0] h_53 i_27_130 rfl ?_
        obtain ⟨f_55, q_56, hd⟩ := dk_bind hd
        refine hp_gR 134 rfl i_27_131 q_56 ?_
        refine wp_s 136 [some (.ref a0), some (.int x1), some (.int x2), some (.int x3), some (.int x4), some (.int x5), some (.int f_36), some (.int z_47.1)] [.int x5, .ref f_55] h_53 i_27_134 rfl ?_
        refine wp_s 137 [some (.ref a0), some (.int x1), some (.int x2), some (.int x3), some (.int x4), some (.int x5), some (.int f_36), some (.int z_47.1)] [.int x5, .ref f_55, .int x5, .ref f_55] h_53 i_27_136 rfl ?_
        obtain ⟨f_57, q_58, hd⟩ := dk_bind hd
        refine hp_gA 138 rfl i_27_137 q_58 ?_
        refine wp_s 140 [some (.ref a0), some (.int x1), some (.int x2), some (.int x3), some (.int x4), some (.int x5), some (.int f_36), some (.int z_47.1)] [.int f_36, .int f_57, .int x5, .ref f_55] h_53 i_27_138 rfl ?_
        refine wp_s 141 [some (.ref a0), some (.int x1), some (.int x2), some (.int x3), some (.int x4), some (.int x5), some (.int f_36), some (.int z_47.1)] [.int (f_57 + f_36), .int x5, .ref f_55] h_53 i_27_140 rfl ?_
        obtain ⟨h_59, q_60, hd⟩ := dk_bind hd
        refine hp_sA 142 rfl i_27_141 q_60 ?_
        refine wp_s 143 [some (.ref a0), some (.int x1), some (.int x2), some (.int x3), some (.int x4), some (.int x5), some (.int f_36), some (.int z_47.1)] [.ref a0] h_59 i_27_142 rfl ?_
        refine wp_s 144 [some (.ref a0), some (.int x1), some (.int x2), some (.int x3), some (.int x4), some (.int x5), some (.int f_36), some (.int z_47.1)] [.int x1, .ref a0] h_59 i_27_143 rfl ?_
        refine wp_s 145 [some (.ref a0), some (.int x1), some (.int x2), some (.int x3), some (.int x4), some (.int x5), some (.int f_36), some (.int z_47.1)] [.int (1 : Int32), .int x1, .ref a0] h_59 i_27_144 rfl ?_
        refine wp_s 146 [some (.ref a0), some (.int x1), some (.int x2), some (.int x3), some (.int x4), some (.int x5), some (.int f_36), some (.int z_47.1)] [.int (x1 + (1 : Int32)), .ref a0] h_59 i_27_145 rfl ?_
        refine wp_s 147 [some (.ref a0), some (.int x1), some (.int x2), some (.int x3), some (.int x4), some (.int x5), some (.int f_36), some (.int z_47.1)] [.int x2, .int (x1 + (1 : Int32)), .ref a0] h_59 i_27_146 rfl ?_
        refine wp_s 149 [some (.ref a0), some (.int x1), some (.int x2), some (.int x3), some (.int x4), some (.int x5), some (.int f_36), some (.int z_47.1)] [.int f_36, .int x2, .int (x1 + (1 : Int32)), .ref a0] h_59 i_27_147 rfl ?_
        refine wp_s 150 [some (.ref a0), some (.int x1), some (.int x2), some (.int x3), some (.int x4), some (.int x5), some (.int f_36), some (.int z_47.1)] [.int (x2 + f_36), .int (x1 + (1 : Int32)), .ref a0] h_59 i_27_149 rfl ?_
        refine wp_s 151 [some (.ref a0), some (.int x1), some (.int x2), some (.int x3), some (.int x4), some (.int x5), some (.int f_36), some (.int z_47.1)] [.int x3, .int (x2 + f_36), .int (x1 + (1 : Int32)), .ref a0] h_59 i_27_150 rfl ?_
        refine wp_s 153 [some (.ref a0), some (.int x1), some (.int x2), some (.int x3), some (.int x4), some (.int x5), some (.int f_36), some (.int z_47.1)] [.int z_47.1, .int x3, .int (x2 + f_36), .int (x1 + (1 : Int32)), .ref a0] h_59 i_27_151 rfl ?_
        refine wp_s 154 [some (.ref a0), some (.int x1), some (.int x2), some (.int x3), some (.int x4), some (.int x5), some (.int f_36), some (.int z_47.1)] [.int (x3 - z_47.1), .int (x2 + f_36), .int (x1 + (1 : Int32)), .ref a0] h_59 i_27_153 rfl ?_
        refine wp_s 155 [some (.ref a0), some (.int x1), some (.int x2), some (.int x3), some (.int x4), some (.int x5), some (.int f_36), some (.int z_47.1)] [.ref a0, .int (x3 - z_47.1), .int (x2 + f_36), .int (x1 + (1 : Int32)), .ref a0] h_59 i_27_154 rfl ?_
        obtain ⟨f_61, q_62, hd⟩ := dk_bind hd
        refine hp_gR 158 rfl i_27_155 q_62 ?_
        refine wp_s 159 [some (.ref a0), some (.int x1), some (.int x2), some (.int x3), some (.int x4), some (.int x5), some (.int f_36), some (.int z_47.1)] [.ref a0, .ref f_61, .int (x3 - z_47.1), .int (x2 + f_36), .int (x1 + (1 : Int32)), .ref a0] h_59 i_27_158 rfl ?_
        obtain ⟨f_63, q_64, hd⟩ := dk_bind hd
        refine hp_gR 162 rfl i_27_159 q_64 ?_
        refine wp_s 164 [some (.ref a0), some (.int x1), some (.int x2), some (.int x3), some (.int x4), some (.int x5), some (.int f_36), some (.int z_47.1)] [.int x5, .ref f_63, .ref f_61, .int (x3 - z_47.1), .int (x2 + f_36), .int (x1 + (1 : Int32)), .ref a0] h_59 i_27_162 rfl ?_
        obtain ⟨f_65, q_66, hd⟩ := dk_bind hd
        refine hp_gA 165 rfl i_27_164 q_66 ?_
        obtain ⟨k_67, hd⟩ := dk_if hd
        obtain ⟨fs_68, o_69⟩ := isO_of k_67
        obtain ⟨z_70, q_71, hd⟩ := dk_bind hd
        refine wp_callV 168 rfl i_27_165 (by decide) rfl (vs := [.int f_65]) (rest := [.int (x3 - z_47.1), .int (x2 + f_36), .int (x1 + (1 : Int32)), .ref a0]) rfl rfl rfl o_69 (y := m_95) rfl (Nat.le_of_ble_eq_true rfl) (d_95_ok (d := e) (by omega) q_71) ?_
        rintro v_72 h_73 ⟨rfl, rfl⟩
        refine wp_s 169 [some (.ref a0), some (.int x1), some (.int x2), some (.int x3), some (.int x4), some (.int x5), some (.int f_36), some (.int z_47.1)] [.int ((x3 - z_47.1) + z_70.1), .int (x2 + f_36), .int (x1 + (1 : Int32)), .ref a0] z_70.2 i_27_168 rfl ?_
        obtain ⟨k_74, hd⟩ := dk_if hd
        obtain ⟨fs_75, o_76⟩ := isO_of k_74
        obtain ⟨z_77, q_78, hd⟩ := dk_bind hd
        refine wp_callV 172 rfl i_27_169 (by decide) rfl (vs := [.int (x1 + (1 : Int32)), .int (x2 + f_36), .int ((x3 - z_47.1) + z_70.1)]) (rest := []) rfl rfl rfl o_76 (y := m_27) rfl (Nat.le_of_ble_eq_true rfl) (hs27 _ _ _ _ _ _ q_78) ?_
        rintro v_79 h_80 ⟨rfl, hz⟩
        have hz := hz.symm
        subst hz
        refine wp_s 173 [some (.ref a0), some (.int x1), some (.int x2), some (.int x3), some (.int x4), some (.int x5), some (.int f_36), some (.int z_47.1)] [.ref a0] z_77 i_27_172 rfl ?_
        obtain ⟨f_81, q_82, hd⟩ := dk_bind hd
        refine hp_gR 176 rfl i_27_173 q_82 ?_
        refine wp_s 178 [some (.ref a0), some (.int x1), some (.int x2), some (.int x3), some (.int x4), some (.int x5), some (.int f_36), some (.int z_47.1)] [.int x5, .ref f_81] z_77 i_27_176 rfl ?_
        refine wp_s 179 [some (.ref a0), some (.int x1), some (.int x2), some (.int x3), some (.int x4), some (.int x5), some (.int f_36), some (.int z_47.1)] [.int x5, .ref f_81, .int x5, .ref f_81] z_77 i_27_178 rfl ?_
        obtain ⟨f_83, q_84, hd⟩ := dk_bind hd
        refine hp_gA 180 rfl i_27_179 q_84 ?_
        refine wp_s 182 [some (.ref a0), some (.int x1), some (.int x2), some (.int x3), some (.int x4), some (.int x5), some (.int f_36), some (.int z_47.1)] [.int f_36, .int f_83, .int x5, .ref f_81] z_77 i_27_180 rfl ?_
        refine wp_s 183 [some (.ref a0), some (.int x1), some (.int x2), some (.int x3), some (.int x4), some (.int x5), some (.int f_36), some (.int z_47.1)] [.int (f_83 - f_36), .int x5, .ref f_81] z_77 i_27_182 rfl ?_
        obtain ⟨h_85, q_86, hd⟩ := dk_bind hd
        refine hp_sA 184 rfl i_27_183 q_86 ?_
        refine wp_s 187 [some (.ref a0), some (.int x1), some (.int x2), some (.int x3), some (.int x4), some (.int (x5 + (1 : Int32))), some (.int f_36), some (.int z_47.1)] [] h_85 i_27_184 rfl ?_
        refine wp_s 86 [some (.ref a0), some (.int x1), some (.int x2), some (.int x3), some (.int x4), some (.int (x5 + (1 : Int32))), some (.int f_36), some (.int z_47.1)] [] h_85 i_27_187 rfl ?_
        exact aWp.forget (ih.2 _ _ _ _ _ _ _ _ hd) (lvS (lvS (lvS (lvS (lvS (lvS (lvN (lvN lvE))))))))
def t_27 (sf27 : Nat → Int32 → Int32 → Int32 → aH → Option aH) (g : Nat) (a0 : Nat) (x1 : Int32) (x2 : Int32) (x3 : Int32) (h0 : aH) : Option (aH) := ((gR h0 a0 2 2).bind (fun f_1001 => ((gI h0 f_1001 0 0).bind (fun f_1003 => (if f_1003 = 0 then (l_27 sf27 g g 0 a0 x1 x2 x3 0 0 h0) else ((gR h0 a0 2 2).bind (fun f_1006 => ((gI h0 f_1006 0 1).bind (fun f_1008 => (if x2 < f_1008 then (l_27 sf27 g g 0 a0 x1 x2 x3 0 0 h0) else some h0))))))))))
set_option maxHeartbeats 4000000 in
set_option maxRecDepth 100000 in
theorem t_27_ok {X : aX} {g : Nat} {sf27 : Nat → Int32 → Int32 → Int32 → aH → Option aH} {a0 : Nat} {x1 : Int32} {x2 : Int32} {x3 : Int32} {h0 : aH} {zz : aH} {e : Nat} (hdp : 1 ≤ e) (hs27 : ∀ (a0 : Nat) (x1 : Int32) (x2 : Int32) (x3 : Int32) (h0 zz : aH), sf27 a0 x1 x2 x3 h0 = some zz → aWp X e 27 0 (aEntL [.ref a0, .int x1, .int x2, .int x3] 8) [] h0 (fun w h' => w = none ∧ h' = zz)) (hd : t_27 sf27 g a0 x1 x2 x3 h0 = some zz) : aWp X (e + 1) 27 0 (aEntL [.ref a0, .int x1, .int x2, .int x3] 8) [] h0 (fun w h' => w = none ∧ h' = zz) := by
  unfold t_27 at hd
  refine wp_lv (l2 := [some (.ref a0), some (.int x1), some (.int x2), some (.int x3), none, none, none, none]) rfl ?_
  refine wp_s 1 [some (.ref a0), some (.int x1), some (.int x2), some (.int x3), none, none, none, none] [.ref a0] h0 i_27_0 rfl ?_
  obtain ⟨f_1001, q_1002, hd⟩ := dk_bind hd
  refine hp_gR 4 rfl i_27_1 q_1002 ?_
  obtain ⟨f_1003, q_1004, hd⟩ := dk_bind hd
  refine hp_gI 7 rfl i_27_4 q_1004 ?_
  refine wp_if_eq 22 10 rfl rfl i_27_7 (fun c_1005 => ?_) (fun c_1005 => ?_)
  · rw [if_pos c_1005] at hd
    exact aWp.forget ((l_27_ok hdp hs27 g).1 _ _ _ _ _ _ _ _ hd) (lvS (lvS (lvS (lvS (lvN (lvN (lvN (lvN lvE))))))))
  · rw [if_neg c_1005] at hd
    refine wp_s 11 [some (.ref a0), some (.int x1), some (.int x2), some (.int x3), none, none, none, none] [.int x2] h0 i_27_10 rfl ?_
    refine wp_s 12 [some (.ref a0), some (.int x1), some (.int x2), some (.int x3), none, none, none, none] [.ref a0, .int x2] h0 i_27_11 rfl ?_
    obtain ⟨f_1006, q_1007, hd⟩ := dk_bind hd
    refine hp_gR 15 rfl i_27_12 q_1007 ?_
    obtain ⟨f_1008, q_1009, hd⟩ := dk_bind hd
    refine hp_gI 18 rfl i_27_15 q_1009 ?_
    refine wp_cmp_lt 22 21 rfl rfl i_27_18 (fun c_1010 => ?_) (fun c_1010 => ?_)
    · rw [if_pos c_1010] at hd
      exact aWp.forget ((l_27_ok hdp hs27 g).1 _ _ _ _ _ _ _ _ hd) (lvS (lvS (lvS (lvS (lvN (lvN (lvN (lvN lvE))))))))
    · rw [if_neg c_1010] at hd
      obtain rfl := Option.some.inj hd
      exact wp_ret i_27_21 rfl ⟨rfl, rfl⟩
def R_27 (g n tag : Nat) (a0 : Nat) (x1 : Int32) (x2 : Int32) (x3 : Int32) (h0 : aH) : Option aH := match n with
  | 0 => none
  | n + 1 => if tag = 0 then t_27 (fun a0 x1 x2 x3 h => R_27 g n 0 a0 x1 x2 x3 h) g a0 x1 x2 x3 h0 else none
theorem R_27_ok {X : aX} {g : Nat} : ∀ n, (∀ (a0 : Nat) (x1 : Int32) (x2 : Int32) (x3 : Int32) (h0 zz : aH), R_27 g n 0 a0 x1 x2 x3 h0 = some zz → aWp X (1 + n) 27 0 (aEntL [.ref a0, .int x1, .int x2, .int x3] 8) [] h0 (fun w h' => w = none ∧ h' = zz)) := by
  intro n
  induction n with
  | zero => exact fun _ _ _ _ _ _ hd => by simp [R_27] at hd
  | succ n ih =>
    intro a0 x1 x2 x3 h0 zz hd
    unfold R_27 at hd
    rw [if_pos rfl] at hd
    exact t_27_ok (e := 1 + n) (by omega) ih hd
def d_27 (g : Nat) (a0 : Nat) (x1 : Int32) (x2 : Int32) (x3 : Int32) (h0 : aH) : Option aH := R_27 g 9 0 a0 x1 x2 x3 h0
theorem d_27_ok {X : aX} {g : Nat} {a0 : Nat} {x1 : Int32} {x2 : Int32} {x3 : Int32} {h0 zz : aH} {d : Nat} (hdp : 10 ≤ d) (hd : d_27 g a0 x1 x2 x3 h0 = some zz) : aWp X d 27 0 (aEntL [.ref a0, .int x1, .int x2, .int x3] 8) [] h0 (fun w h' => w = none ∧ h' = zz) := ((R_27_ok 9) _ _ _ _ _ _ hd).deep hdp
def l_26 (g n tag : Nat) (a0 : Nat) (x1 : Int32) (x2 : Int32) (h0 : aH) : Option (aH) := match n with
  | 0 => none
  | n + 1 => if tag = 0 then ((gR h0 a0 2 0).bind (fun f_1 => ((gR h0 f_1 10 0).bind (fun f_3 => ((gI h0 f_3 5 8).bind (fun f_5 => (if f_5 ≤ x1 then (if isO h0 a0 2 = true then ((d_27 g a0 (0 : Int32) (0 : Int32) (0 : Int32) h0).bind (fun z_11 => some z_11)) else none) else (l_26 g n 1 a0 x1 (0 : Int32) h0)))))))) else if tag = 1 then (if (4 : Int32) < x2 then (l_26 g n 0 a0 (x1 + (1 : Int32)) 0 h0) else ((gR h0 a0 2 6).bind (fun f_16 => ((gR h0 a0 2 1).bind (fun f_18 => ((gR h0 a0 2 0).bind (fun f_20 => ((gR h0 f_20 10 0).bind (fun f_22 => ((gR h0 f_22 5 9).bind (fun f_24 => ((gA h0 f_24 x1).bind (fun f_26 => ((gR h0 a0 2 0).bind (fun f_28 => ((gR h0 f_28 10 1).bind (fun f_30 => ((gI h0 f_30 7 13).bind (fun f_32 => (if isO h0 f_18 9 = true then ((d_90 g f_18 f_26 (f_32 + x2) h0).bind (fun z_37 => ((sA z_37.2 f_16 ((x1 * (5 : Int32)) + x2) z_37.1).bind (fun h_41 => (l_26 g n 1 a0 x1 (x2 + (1 : Int32)) h_41))))) else none)))))))))))))))))))) else none
set_option maxHeartbeats 4000000 in
set_option maxRecDepth 100000 in
theorem l_26_ok {X : aX} {g : Nat} {d : Nat} (hdp : 11 ≤ d) : ∀ n, (∀ (a0 : Nat) (x1 : Int32) (x2 : Int32) (h0 : aH) (zz : aH), l_26 g n 0 a0 x1 x2 h0 = some zz → aWp X d 26 17 [some (.ref a0), some (.int x1), none] [] h0 (fun w h' => w = none ∧ h' = zz)) ∧ (∀ (a0 : Nat) (x1 : Int32) (x2 : Int32) (h0 : aH) (zz : aH), l_26 g n 1 a0 x1 x2 h0 = some zz → aWp X d 26 33 [some (.ref a0), some (.int x1), some (.int x2)] [] h0 (fun w h' => w = none ∧ h' = zz)) := by
  intro n
  induction n with
  | zero => exact ⟨fun _ _ _ _ _ hd => by simp [l_26] at hd, fun _ _ _ _ _ hd => by simp [l_26] at hd⟩
  | succ n ih =>
    refine ⟨?_, ?_⟩
    · intro a0 x1 x2 h0 zz hd
      unfold l_26 at hd
      rw [if_pos rfl] at hd
      obtain ⟨e, rfl⟩ : ∃ e, d = e + 1 := ⟨d - 1, by omega⟩
      refine wp_s 18 [some (.ref a0), some (.int x1), none] [.int x1] h0 i_26_17 rfl ?_
      refine wp_s 19 [some (.ref a0), some (.int x1), none] [.ref a0, .int x1] h0 i_26_18 rfl ?_
      obtain ⟨f_1, q_2, hd⟩ := dk_bind hd
      refine hp_gR 22 rfl i_26_19 q_2 ?_
      obtain ⟨f_3, q_4, hd⟩ := dk_bind hd
      refine hp_gR 25 rfl i_26_22 q_4 ?_
      obtain ⟨f_5, q_6, hd⟩ := dk_bind hd
      refine hp_gI 28 rfl i_26_25 q_6 ?_
      refine wp_cmp_ge 91 31 rfl rfl i_26_28 (fun c_7 => ?_) (fun c_7 => ?_)
      · rw [if_pos c_7] at hd
        refine wp_s 92 [some (.ref a0), some (.int x1), none] [.ref a0] h0 i_26_91 rfl ?_
        refine wp_s 93 [some (.ref a0), some (.int x1), none] [.int (0 : Int32), .ref a0] h0 i_26_92 rfl ?_
        refine wp_s 94 [some (.ref a0), some (.int x1), none] [.int (0 : Int32), .int (0 : Int32), .ref a0] h0 i_26_93 rfl ?_
        refine wp_s 95 [some (.ref a0), some (.int x1), none] [.int (0 : Int32), .int (0 : Int32), .int (0 : Int32), .ref a0] h0 i_26_94 rfl ?_
        obtain ⟨k_8, hd⟩ := dk_if hd
        obtain ⟨fs_9, o_10⟩ := isO_of k_8
        obtain ⟨z_11, q_12, hd⟩ := dk_bind hd
        refine wp_callV 98 rfl i_26_95 (by decide) rfl (vs := [.int (0 : Int32), .int (0 : Int32), .int (0 : Int32)]) (rest := []) rfl rfl rfl o_10 (y := m_27) rfl (Nat.le_of_ble_eq_true rfl) (d_27_ok (d := e) (by omega) q_12) ?_
        rintro v_13 h_14 ⟨rfl, hz⟩
        have hz := hz.symm
        subst hz
        obtain rfl := Option.some.inj hd
        exact wp_ret i_26_98 rfl ⟨rfl, rfl⟩
      · rw [if_neg c_7] at hd
        refine wp_s 32 [some (.ref a0), some (.int x1), none] [.int (0 : Int32)] h0 i_26_31 rfl ?_
        refine wp_s 33 [some (.ref a0), some (.int x1), some (.int (0 : Int32))] [] h0 i_26_32 rfl ?_
        exact aWp.forget (ih.2 _ _ _ _ _ hd) (lvS (lvS (lvS lvE)))
    · intro a0 x1 x2 h0 zz hd
      unfold l_26 at hd
      rw [if_neg (by decide), if_pos rfl] at hd
      obtain ⟨e, rfl⟩ : ∃ e, d = e + 1 := ⟨d - 1, by omega⟩
      refine wp_s 34 [some (.ref a0), some (.int x1), some (.int x2)] [.int x2] h0 i_26_33 rfl ?_
      refine wp_s 35 [some (.ref a0), some (.int x1), some (.int x2)] [.int (4 : Int32), .int x2] h0 i_26_34 rfl ?_
      refine wp_cmp_gt 85 38 rfl rfl i_26_35 (fun c_15 => ?_) (fun c_15 => ?_)
      · rw [if_pos c_15] at hd
        refine wp_s 88 [some (.ref a0), some (.int (x1 + (1 : Int32))), some (.int x2)] [] h0 i_26_85 rfl ?_
        refine wp_s 17 [some (.ref a0), some (.int (x1 + (1 : Int32))), some (.int x2)] [] h0 i_26_88 rfl ?_
        exact aWp.forget (ih.1 _ _ _ _ _ hd) (lvS (lvS (lvN lvE)))
      · rw [if_neg c_15] at hd
        refine wp_s 39 [some (.ref a0), some (.int x1), some (.int x2)] [.ref a0] h0 i_26_38 rfl ?_
        obtain ⟨f_16, q_17, hd⟩ := dk_bind hd
        refine hp_gR 42 rfl i_26_39 q_17 ?_
        refine wp_s 43 [some (.ref a0), some (.int x1), some (.int x2)] [.int x1, .ref f_16] h0 i_26_42 rfl ?_
        refine wp_s 44 [some (.ref a0), some (.int x1), some (.int x2)] [.int (5 : Int32), .int x1, .ref f_16] h0 i_26_43 rfl ?_
        refine wp_s 45 [some (.ref a0), some (.int x1), some (.int x2)] [.int (x1 * (5 : Int32)), .ref f_16] h0 i_26_44 rfl ?_
        refine wp_s 46 [some (.ref a0), some (.int x1), some (.int x2)] [.int x2, .int (x1 * (5 : Int32)), .ref f_16] h0 i_26_45 rfl ?_
        refine wp_s 47 [some (.ref a0), some (.int x1), some (.int x2)] [.int ((x1 * (5 : Int32)) + x2), .ref f_16] h0 i_26_46 rfl ?_
        refine wp_s 48 [some (.ref a0), some (.int x1), some (.int x2)] [.ref a0, .int ((x1 * (5 : Int32)) + x2), .ref f_16] h0 i_26_47 rfl ?_
        obtain ⟨f_18, q_19, hd⟩ := dk_bind hd
        refine hp_gR 51 rfl i_26_48 q_19 ?_
        refine wp_s 52 [some (.ref a0), some (.int x1), some (.int x2)] [.ref a0, .ref f_18, .int ((x1 * (5 : Int32)) + x2), .ref f_16] h0 i_26_51 rfl ?_
        obtain ⟨f_20, q_21, hd⟩ := dk_bind hd
        refine hp_gR 55 rfl i_26_52 q_21 ?_
        obtain ⟨f_22, q_23, hd⟩ := dk_bind hd
        refine hp_gR 58 rfl i_26_55 q_23 ?_
        obtain ⟨f_24, q_25, hd⟩ := dk_bind hd
        refine hp_gR 61 rfl i_26_58 q_25 ?_
        refine wp_s 62 [some (.ref a0), some (.int x1), some (.int x2)] [.int x1, .ref f_24, .ref f_18, .int ((x1 * (5 : Int32)) + x2), .ref f_16] h0 i_26_61 rfl ?_
        obtain ⟨f_26, q_27, hd⟩ := dk_bind hd
        refine hp_gA 63 rfl i_26_62 q_27 ?_
        refine wp_s 64 [some (.ref a0), some (.int x1), some (.int x2)] [.ref a0, .int f_26, .ref f_18, .int ((x1 * (5 : Int32)) + x2), .ref f_16] h0 i_26_63 rfl ?_
        obtain ⟨f_28, q_29, hd⟩ := dk_bind hd
        refine hp_gR 67 rfl i_26_64 q_29 ?_
        obtain ⟨f_30, q_31, hd⟩ := dk_bind hd
        refine hp_gR 70 rfl i_26_67 q_31 ?_
        obtain ⟨f_32, q_33, hd⟩ := dk_bind hd
        refine hp_gI 73 rfl i_26_70 q_33 ?_
        refine wp_s 74 [some (.ref a0), some (.int x1), some (.int x2)] [.int x2, .int f_32, .int f_26, .ref f_18, .int ((x1 * (5 : Int32)) + x2), .ref f_16] h0 i_26_73 rfl ?_
        refine wp_s 75 [some (.ref a0), some (.int x1), some (.int x2)] [.int (f_32 + x2), .int f_26, .ref f_18, .int ((x1 * (5 : Int32)) + x2), .ref f_16] h0 i_26_74 rfl ?_
        obtain ⟨k_34, hd⟩ := dk_if hd
        obtain ⟨fs_35, o_36⟩ := isO_of k_34
        obtain ⟨z_37, q_38, hd⟩ := dk_bind hd
        refine wp_callV 78 rfl i_26_75 (by decide) rfl (vs := [.int f_26, .int (f_32 + x2)]) (rest := [.int ((x1 * (5 : Int32)) + x2), .ref f_16]) rfl rfl rfl o_36 (y := m_90) rfl (Nat.le_of_ble_eq_true rfl) (d_90_ok (d := e) (by omega) q_38) ?_
        rintro v_39 h_40 ⟨rfl, rfl⟩
        obtain ⟨h_41, q_42, hd⟩ := dk_bind hd
        refine hp_sA 79 rfl i_26_78 q_42 ?_
        refine wp_s 82 [some (.ref a0), some (.int x1), some (.int (x2 + (1 : Int32)))] [] h_41 i_26_79 rfl ?_
        refine wp_s 33 [some (.ref a0), some (.int x1), some (.int (x2 + (1 : Int32)))] [] h_41 i_26_82 rfl ?_
        exact aWp.forget (ih.2 _ _ _ _ _ hd) (lvS (lvS (lvS lvE)))
def d_26 (g : Nat) (a0 : Nat) (h0 : aH) : Option (aH) := ((gR h0 a0 2 2).bind (fun f_1001 => (if isO h0 f_1001 0 = true then ((d_1 g f_1001 h0).bind (fun z_1006 => ((gR z_1006 a0 2 5).bind (fun f_1010 => ((d_273 g f_1010 (0 : Int32) z_1006).bind (fun z_1012 => (l_26 g g 0 a0 (0 : Int32) 0 z_1012))))))) else none)))
set_option maxHeartbeats 4000000 in
set_option maxRecDepth 100000 in
theorem d_26_ok {X : aX} {g : Nat} {a0 : Nat} {h0 : aH} {zz : aH} {d : Nat} (hdp : 11 ≤ d) (hd : d_26 g a0 h0 = some zz) : aWp X d 26 0 (aEntL [.ref a0] 3) [] h0 (fun w h' => w = none ∧ h' = zz) := by
  unfold d_26 at hd
  refine wp_lv (l2 := [some (.ref a0), none, none]) rfl ?_
  obtain ⟨e, rfl⟩ : ∃ e, d = e + 1 := ⟨d - 1, by omega⟩
  refine wp_s 1 [some (.ref a0), none, none] [.ref a0] h0 i_26_0 rfl ?_
  obtain ⟨f_1001, q_1002, hd⟩ := dk_bind hd
  refine hp_gR 4 rfl i_26_1 q_1002 ?_
  obtain ⟨k_1003, hd⟩ := dk_if hd
  obtain ⟨fs_1004, o_1005⟩ := isO_of k_1003
  obtain ⟨z_1006, q_1007, hd⟩ := dk_bind hd
  refine wp_callV 7 rfl i_26_4 (by decide) rfl (vs := []) (rest := []) rfl rfl rfl o_1005 (y := m_1) rfl (Nat.le_of_ble_eq_true rfl) (d_1_ok (d := e) (by omega) q_1007) ?_
  rintro v_1008 h_1009 ⟨rfl, hz⟩
  have hz := hz.symm
  subst hz
  refine wp_s 8 [some (.ref a0), none, none] [.ref a0] z_1006 i_26_7 rfl ?_
  obtain ⟨f_1010, q_1011, hd⟩ := dk_bind hd
  refine hp_gR 11 rfl i_26_8 q_1011 ?_
  refine wp_s 12 [some (.ref a0), none, none] [.int (0 : Int32), .ref f_1010] z_1006 i_26_11 rfl ?_
  obtain ⟨z_1012, q_1013, hd⟩ := dk_bind hd
  refine wp_callS 15 rfl i_26_12 (by decide) (vs := [.ref f_1010, .int (0 : Int32)]) (rest := []) rfl rfl rfl (y := m_273) rfl (Nat.le_of_ble_eq_true rfl) (d_273_ok (d := e) (by omega) q_1013) ?_
  rintro v_1014 h_1015 ⟨rfl, hz⟩
  have hz := hz.symm
  subst hz
  refine wp_s 16 [some (.ref a0), none, none] [.int (0 : Int32)] z_1012 i_26_15 rfl ?_
  refine wp_s 17 [some (.ref a0), some (.int (0 : Int32)), none] [] z_1012 i_26_16 rfl ?_
  exact aWp.forget ((l_26_ok hdp g).1 _ _ _ _ _ hd) (lvS (lvS (lvN lvE)))
def l_96 (g n tag : Nat) (a0 : Nat) (x1 : Int32) (a2 : Nat) (x3 : Int32) (a4 : Nat) (x5 : Int32) (x6 : Int32) (x7 : Int32) (h0 : aH) : Option (Int32 × aH) := match n with
  | 0 => none
  | n + 1 => if tag = 0 then (if (8 : Int32) ≤ x7 then ((gR h0 a4 7 7).bind (fun f_2 => ((gI h0 a4 7 9).bind (fun f_4 => ((gR h0 a0 9 0).bind (fun f_6 => ((gR h0 f_6 10 0).bind (fun f_8 => ((gI h0 f_8 5 2).bind (fun f_10 => (if isO h0 a0 9 = true then ((d_94 g a0 x5 x6 f_2 f_4 f_10 h0).bind (fun z_15 => some ((if (0 : Int32) < (x3 - z_15.1) then (x3 - z_15.1) else (0 : Int32)), z_15.2))) else none))))))))))) else ((gA h0 a2 x7).bind (fun f_19 => ((gA h0 a2 x7).bind (fun f_21 => ((gR h0 a4 7 5).bind (fun f_23 => ((gA h0 f_23 x7).bind (fun f_25 => (l_96 g n 0 a0 x1 a2 x3 a4 (x5 + f_19) (x6 + (f_21 * f_25)) (x7 + (1 : Int32)) h0)))))))))) else none
set_option maxHeartbeats 4000000 in
set_option maxRecDepth 100000 in
theorem l_96_ok {X : aX} {g : Nat} {d : Nat} (hdp : 1 ≤ d) : ∀ n, (∀ (a0 : Nat) (x1 : Int32) (a2 : Nat) (x3 : Int32) (a4 : Nat) (x5 : Int32) (x6 : Int32) (x7 : Int32) (h0 : aH) (zz : Int32 × aH), l_96 g n 0 a0 x1 a2 x3 a4 x5 x6 x7 h0 = some zz → aWp X d 96 39 [some (.ref a0), some (.int x1), some (.ref a2), some (.int x3), some (.ref a4), some (.int x5), some (.int x6), some (.int x7)] [] h0 (fun w h' => w = some (.int zz.1) ∧ h' = zz.2)) := by
  intro n
  induction n with
  | zero => exact fun _ _ _ _ _ _ _ _ _ _ hd => by simp [l_96] at hd
  | succ n ih =>
    intro a0 x1 a2 x3 a4 x5 x6 x7 h0 zz hd
    unfold l_96 at hd
    rw [if_pos rfl] at hd
    obtain ⟨e, rfl⟩ : ∃ e, d = e + 1 := ⟨d - 1, by omega⟩
    refine wp_s 41 [some (.ref a0), some (.int x1), some (.ref a2), some (.int x3), some (.ref a4), some (.int x5), some (.int x6), some (.int x7)] [.int x7] h0 i_96_39 rfl ?_
    refine wp_s 43 [some (.ref a0), some (.int x1), some (.ref a2), some (.int x3), some (.ref a4), some (.int x5), some (.int x6), some (.int x7)] [.int (8 : Int32), .int x7] h0 i_96_41 rfl ?_
    refine wp_cmp_ge 79 46 rfl rfl i_96_43 (fun c_1 => ?_) (fun c_1 => ?_)
    · rw [if_pos c_1] at hd
      refine wp_s 80 [some (.ref a0), some (.int x1), some (.ref a2), some (.int x3), some (.ref a4), some (.int x5), some (.int x6), some (.int x7)] [.int (0 : Int32)] h0 i_96_79 rfl ?_
      refine wp_s 81 [some (.ref a0), some (.int x1), some (.ref a2), some (.int x3), some (.ref a4), some (.int x5), some (.int x6), some (.int x7)] [.int x3, .int (0 : Int32)] h0 i_96_80 rfl ?_
      refine wp_s 82 [some (.ref a0), some (.int x1), some (.ref a2), some (.int x3), some (.ref a4), some (.int x5), some (.int x6), some (.int x7)] [.ref a0, .int x3, .int (0 : Int32)] h0 i_96_81 rfl ?_
      refine wp_s 84 [some (.ref a0), some (.int x1), some (.ref a2), some (.int x3), some (.ref a4), some (.int x5), some (.int x6), some (.int x7)] [.int x5, .ref a0, .int x3, .int (0 : Int32)] h0 i_96_82 rfl ?_
      refine wp_s 86 [some (.ref a0), some (.int x1), some (.ref a2), some (.int x3), some (.ref a4), some (.int x5), some (.int x6), some (.int x7)] [.int x6, .int x5, .ref a0, .int x3, .int (0 : Int32)] h0 i_96_84 rfl ?_
      refine wp_s 88 [some (.ref a0), some (.int x1), some (.ref a2), some (.int x3), some (.ref a4), some (.int x5), some (.int x6), some (.int x7)] [.ref a4, .int x6, .int x5, .ref a0, .int x3, .int (0 : Int32)] h0 i_96_86 rfl ?_
      obtain ⟨f_2, q_3, hd⟩ := dk_bind hd
      refine hp_gR 91 rfl i_96_88 q_3 ?_
      refine wp_s 93 [some (.ref a0), some (.int x1), some (.ref a2), some (.int x3), some (.ref a4), some (.int x5), some (.int x6), some (.int x7)] [.ref a4, .ref f_2, .int x6, .int x5, .ref a0, .int x3, .int (0 : Int32)] h0 i_96_91 rfl ?_
      obtain ⟨f_4, q_5, hd⟩ := dk_bind hd
      refine hp_gI 96 rfl i_96_93 q_5 ?_
      refine wp_s 97 [some (.ref a0), some (.int x1), some (.ref a2), some (.int x3), some (.ref a4), some (.int x5), some (.int x6), some (.int x7)] [.ref a0, .int f_4, .ref f_2, .int x6, .int x5, .ref a0, .int x3, .int (0 : Int32)] h0 i_96_96 rfl ?_
      obtain ⟨f_6, q_7, hd⟩ := dk_bind hd
      refine hp_gR 100 rfl i_96_97 q_7 ?_
      obtain ⟨f_8, q_9, hd⟩ := dk_bind hd
      refine hp_gR 103 rfl i_96_100 q_9 ?_
      obtain ⟨f_10, q_11, hd⟩ := dk_bind hd
      refine hp_gI 106 rfl i_96_103 q_11 ?_
      obtain ⟨k_12, hd⟩ := dk_if hd
      obtain ⟨fs_13, o_14⟩ := isO_of k_12
      obtain ⟨z_15, q_16, hd⟩ := dk_bind hd
      refine wp_callV 109 rfl i_96_106 (by decide) rfl (vs := [.int x5, .int x6, .ref f_2, .int f_4, .int f_10]) (rest := [.int x3, .int (0 : Int32)]) rfl rfl rfl o_14 (y := m_94) rfl (Nat.le_of_ble_eq_true rfl) (d_94_ok (d := e) (by omega) q_16) ?_
      rintro v_17 h_18 ⟨rfl, rfl⟩
      refine wp_s 110 [some (.ref a0), some (.int x1), some (.ref a2), some (.int x3), some (.ref a4), some (.int x5), some (.int x6), some (.int x7)] [.int (x3 - z_15.1), .int (0 : Int32)] z_15.2 i_96_109 rfl ?_
      refine hp_max 113 rfl i_96_110 rfl ?_
      obtain rfl := Option.some.inj hd
      exact wp_iret i_96_113 ⟨rfl, rfl⟩
    · rw [if_neg c_1] at hd
      refine wp_s 48 [some (.ref a0), some (.int x1), some (.ref a2), some (.int x3), some (.ref a4), some (.int x5), some (.int x6), some (.int x7)] [.int x5] h0 i_96_46 rfl ?_
      refine wp_s 49 [some (.ref a0), some (.int x1), some (.ref a2), some (.int x3), some (.ref a4), some (.int x5), some (.int x6), some (.int x7)] [.ref a2, .int x5] h0 i_96_48 rfl ?_
      refine wp_s 51 [some (.ref a0), some (.int x1), some (.ref a2), some (.int x3), some (.ref a4), some (.int x5), some (.int x6), some (.int x7)] [.int x7, .ref a2, .int x5] h0 i_96_49 rfl ?_
      obtain ⟨f_19, q_20, hd⟩ := dk_bind hd
      refine hp_gA 52 rfl i_96_51 q_20 ?_
      refine wp_s 53 [some (.ref a0), some (.int x1), some (.ref a2), some (.int x3), some (.ref a4), some (.int x5), some (.int x6), some (.int x7)] [.int (x5 + f_19)] h0 i_96_52 rfl ?_
      refine wp_s 55 [some (.ref a0), some (.int x1), some (.ref a2), some (.int x3), some (.ref a4), some (.int (x5 + f_19)), some (.int x6), some (.int x7)] [] h0 i_96_53 rfl ?_
      refine wp_s 57 [some (.ref a0), some (.int x1), some (.ref a2), some (.int x3), some (.ref a4), some (.int (x5 + f_19)), some (.int x6), some (.int x7)] [.int x6] h0 i_96_55 rfl ?_
      refine wp_s 58 [some (.ref a0), some (.int x1), some (.ref a2), some (.int x3), some (.ref a4), some (.int (x5 + f_19)), some (.int x6), some (.int x7)] [.ref a2, .int x6] h0 i_96_57 rfl ?_
      refine wp_s 60 [some (.ref a0), some (.int x1), some (.ref a2), some (.int x3), some (.ref a4), some (.int (x5 + f_19)), some (.int x6), some (.int x7)] [.int x7, .ref a2, .int x6] h0 i_96_58 rfl ?_
      obtain ⟨f_21, q_22, hd⟩ := dk_bind hd
      refine hp_gA 61 rfl i_96_60 q_22 ?_
      refine wp_s 63 [some (.ref a0), some (.int x1), some (.ref a2), some (.int x3), some (.ref a4), some (.int (x5 + f_19)), some (.int x6), some (.int x7)] [.ref a4, .int f_21, .int x6] h0 i_96_61 rfl ?_
      obtain ⟨f_23, q_24, hd⟩ := dk_bind hd
      refine hp_gR 66 rfl i_96_63 q_24 ?_
      refine wp_s 68 [some (.ref a0), some (.int x1), some (.ref a2), some (.int x3), some (.ref a4), some (.int (x5 + f_19)), some (.int x6), some (.int x7)] [.int x7, .ref f_23, .int f_21, .int x6] h0 i_96_66 rfl ?_
      obtain ⟨f_25, q_26, hd⟩ := dk_bind hd
      refine hp_gA 69 rfl i_96_68 q_26 ?_
      refine wp_s 70 [some (.ref a0), some (.int x1), some (.ref a2), some (.int x3), some (.ref a4), some (.int (x5 + f_19)), some (.int x6), some (.int x7)] [.int (f_21 * f_25), .int x6] h0 i_96_69 rfl ?_
      refine wp_s 71 [some (.ref a0), some (.int x1), some (.ref a2), some (.int x3), some (.ref a4), some (.int (x5 + f_19)), some (.int x6), some (.int x7)] [.int (x6 + (f_21 * f_25))] h0 i_96_70 rfl ?_
      refine wp_s 73 [some (.ref a0), some (.int x1), some (.ref a2), some (.int x3), some (.ref a4), some (.int (x5 + f_19)), some (.int (x6 + (f_21 * f_25))), some (.int x7)] [] h0 i_96_71 rfl ?_
      refine wp_s 76 [some (.ref a0), some (.int x1), some (.ref a2), some (.int x3), some (.ref a4), some (.int (x5 + f_19)), some (.int (x6 + (f_21 * f_25))), some (.int (x7 + (1 : Int32)))] [] h0 i_96_73 rfl ?_
      refine wp_s 39 [some (.ref a0), some (.int x1), some (.ref a2), some (.int x3), some (.ref a4), some (.int (x5 + f_19)), some (.int (x6 + (f_21 * f_25))), some (.int (x7 + (1 : Int32)))] [] h0 i_96_76 rfl ?_
      exact aWp.forget (ih _ _ _ _ _ _ _ _ _ _ hd) (lvS (lvS (lvS (lvS (lvS (lvS (lvS (lvS lvE))))))))
def d_96 (g : Nat) (a0 : Nat) (x1 : Int32) (a2 : Nat) (x3 : Int32) (h0 : aH) : Option (Int32 × aH) := ((gR h0 a0 9 0).bind (fun f_1001 => ((gR h0 f_1001 10 1).bind (fun f_1003 => ((gR h0 a0 9 0).bind (fun f_1005 => ((gR h0 f_1005 10 0).bind (fun f_1007 => ((gI h0 f_1007 5 3).bind (fun f_1009 => (if ¬ f_1009 = 0 then (l_96 g g 0 a0 x1 a2 x3 f_1003 (0 : Int32) (0 : Int32) (0 : Int32) h0) else ((gR h0 f_1003 7 5).bind (fun f_1012 => ((gA h0 f_1012 x1).bind (fun f_1014 => some (f_1014, h0))))))))))))))))
set_option maxHeartbeats 4000000 in
set_option maxRecDepth 100000 in
theorem d_96_ok {X : aX} {g : Nat} {a0 : Nat} {x1 : Int32} {a2 : Nat} {x3 : Int32} {h0 : aH} {zz : Int32 × aH} {d : Nat} (hdp : 1 ≤ d) (hd : d_96 g a0 x1 a2 x3 h0 = some zz) : aWp X d 96 0 (aEntL [.ref a0, .int x1, .ref a2, .int x3] 8) [] h0 (fun w h' => w = some (.int zz.1) ∧ h' = zz.2) := by
  unfold d_96 at hd
  refine wp_lv (l2 := [some (.ref a0), some (.int x1), some (.ref a2), some (.int x3), none, none, none, none]) rfl ?_
  obtain ⟨e, rfl⟩ : ∃ e, d = e + 1 := ⟨d - 1, by omega⟩
  refine wp_s 1 [some (.ref a0), some (.int x1), some (.ref a2), some (.int x3), none, none, none, none] [.ref a0] h0 i_96_0 rfl ?_
  obtain ⟨f_1001, q_1002, hd⟩ := dk_bind hd
  refine hp_gR 4 rfl i_96_1 q_1002 ?_
  obtain ⟨f_1003, q_1004, hd⟩ := dk_bind hd
  refine hp_gR 7 rfl i_96_4 q_1004 ?_
  refine wp_s 9 [some (.ref a0), some (.int x1), some (.ref a2), some (.int x3), some (.ref f_1003), none, none, none] [] h0 i_96_7 rfl ?_
  refine wp_s 10 [some (.ref a0), some (.int x1), some (.ref a2), some (.int x3), some (.ref f_1003), none, none, none] [.ref a0] h0 i_96_9 rfl ?_
  obtain ⟨f_1005, q_1006, hd⟩ := dk_bind hd
  refine hp_gR 13 rfl i_96_10 q_1006 ?_
  obtain ⟨f_1007, q_1008, hd⟩ := dk_bind hd
  refine hp_gR 16 rfl i_96_13 q_1008 ?_
  obtain ⟨f_1009, q_1010, hd⟩ := dk_bind hd
  refine hp_gI 19 rfl i_96_16 q_1010 ?_
  refine wp_if_ne 30 22 rfl rfl i_96_19 (fun c_1011 => ?_) (fun c_1011 => ?_)
  · rw [if_pos c_1011] at hd
    refine wp_s 31 [some (.ref a0), some (.int x1), some (.ref a2), some (.int x3), some (.ref f_1003), none, none, none] [.int (0 : Int32)] h0 i_96_30 rfl ?_
    refine wp_s 33 [some (.ref a0), some (.int x1), some (.ref a2), some (.int x3), some (.ref f_1003), some (.int (0 : Int32)), none, none] [] h0 i_96_31 rfl ?_
    refine wp_s 34 [some (.ref a0), some (.int x1), some (.ref a2), some (.int x3), some (.ref f_1003), some (.int (0 : Int32)), none, none] [.int (0 : Int32)] h0 i_96_33 rfl ?_
    refine wp_s 36 [some (.ref a0), some (.int x1), some (.ref a2), some (.int x3), some (.ref f_1003), some (.int (0 : Int32)), some (.int (0 : Int32)), none] [] h0 i_96_34 rfl ?_
    refine wp_s 37 [some (.ref a0), some (.int x1), some (.ref a2), some (.int x3), some (.ref f_1003), some (.int (0 : Int32)), some (.int (0 : Int32)), none] [.int (0 : Int32)] h0 i_96_36 rfl ?_
    refine wp_s 39 [some (.ref a0), some (.int x1), some (.ref a2), some (.int x3), some (.ref f_1003), some (.int (0 : Int32)), some (.int (0 : Int32)), some (.int (0 : Int32))] [] h0 i_96_37 rfl ?_
    exact aWp.forget ((l_96_ok hdp g) _ _ _ _ _ _ _ _ _ _ hd) (lvS (lvS (lvS (lvS (lvS (lvS (lvS (lvS lvE))))))))
  · rw [if_neg c_1011] at hd
    refine wp_s 24 [some (.ref a0), some (.int x1), some (.ref a2), some (.int x3), some (.ref f_1003), none, none, none] [.ref f_1003] h0 i_96_22 rfl ?_
    obtain ⟨f_1012, q_1013, hd⟩ := dk_bind hd
    refine hp_gR 27 rfl i_96_24 q_1013 ?_
    refine wp_s 28 [some (.ref a0), some (.int x1), some (.ref a2), some (.int x3), some (.ref f_1003), none, none, none] [.int x1, .ref f_1012] h0 i_96_27 rfl ?_
    obtain ⟨f_1014, q_1015, hd⟩ := dk_bind hd
    refine hp_gA 29 rfl i_96_28 q_1015 ?_
    obtain rfl := Option.some.inj hd
    exact wp_iret i_96_29 ⟨rfl, rfl⟩
def l_29 (sf29 : Nat → Int32 → Int32 → Int32 → Int32 → aH → Option aH) (g n tag : Nat) (a0 : Nat) (x1 : Int32) (x2 : Int32) (x3 : Int32) (x4 : Int32) (x5 : Int32) (x6 : Int32) (x7 : Int32) (h0 : aH) : Option (aH) := match n with
  | 0 => none
  | n + 1 => if tag = 0 then ((gR h0 a0 2 2).bind (fun f_1 => ((gR h0 a0 2 3).bind (fun f_3 => (if isO h0 f_1 0 = true then ((d_3 g f_1 (-x3) f_3 x1 h0).bind (fun z_8 => some z_8)) else none))))) else if tag = 1 then ((gR h0 a0 2 0).bind (fun f_12 => ((gR h0 f_12 10 1).bind (fun f_14 => ((gR h0 f_14 7 4).bind (fun f_16 => ((gA h0 f_16 x1).bind (fun f_18 => (if f_18 < x7 then ((gR h0 a0 2 7).bind (fun f_21 => ((gR h0 a0 2 0).bind (fun f_23 => ((gR h0 f_23 10 1).bind (fun f_25 => ((gR h0 f_25 7 4).bind (fun f_27 => ((gA h0 f_27 x1).bind (fun f_29 => ((sA h0 f_21 x1 f_29).bind (fun h_31 => some h_31)))))))))))) else (if x7 ≤ 0 then (l_29 sf29 g n 2 a0 x1 x2 x3 x4 x5 x6 x7 h0) else ((gR h0 a0 2 7).bind (fun f_34 => ((gA h0 f_34 x1).bind (fun f_36 => ((sA h0 f_34 x1 (f_36 - (1 : Int32))).bind (fun h_38 => ((gR h_38 a0 2 1).bind (fun f_40 => ((gR h_38 a0 2 7).bind (fun f_42 => (if isO h_38 f_40 9 = true then ((d_96 g f_40 x1 f_42 x5 h_38).bind (fun z_47 => ((gR z_47.2 a0 2 0).bind (fun f_51 => ((gR z_47.2 f_51 10 0).bind (fun f_53 => ((gR z_47.2 f_53 5 6).bind (fun f_55 => ((gA z_47.2 f_55 x1).bind (fun f_57 => (l_29 sf29 g n 2 a0 x1 x2 x3 x4 (x5 - z_47.1) (x6 + (z_47.1 - f_57)) x7 z_47.2))))))))))) else none))))))))))))))))))))) else if tag = 2 then ((gR h0 a0 2 3).bind (fun f_59 => ((sA h0 f_59 x1 x7).bind (fun h_61 => (if isO h_61 a0 2 = true then ((sf29 a0 (x1 + (1 : Int32)) x5 x6 (x4 + x7) h_61).bind (fun z_66 => (l_29 sf29 g n 1 a0 x1 x2 x3 x4 x5 x6 (x7 + (1 : Int32)) z_66))) else none))))) else none
set_option maxHeartbeats 4000000 in
set_option maxRecDepth 100000 in
theorem l_29_ok {X : aX} {g : Nat} {sf29 : Nat → Int32 → Int32 → Int32 → Int32 → aH → Option aH} {e : Nat} (hdp : 1 ≤ e) (hs29 : ∀ (a0 : Nat) (x1 : Int32) (x2 : Int32) (x3 : Int32) (x4 : Int32) (h0 zz : aH), sf29 a0 x1 x2 x3 x4 h0 = some zz → aWp X e 29 0 (aEntL [.ref a0, .int x1, .int x2, .int x3, .int x4] 9) [] h0 (fun w h' => w = none ∧ h' = zz)) : ∀ n, (∀ (a0 : Nat) (x1 : Int32) (x2 : Int32) (x3 : Int32) (x4 : Int32) (x5 : Int32) (x6 : Int32) (x7 : Int32) (h0 : aH) (zz : aH), l_29 sf29 g n 0 a0 x1 x2 x3 x4 x5 x6 x7 h0 = some zz → aWp X (e + 1) 29 60 [some (.ref a0), some (.int x1), some (.int x2), some (.int x3), some (.int x4), none, none, none, none] [] h0 (fun w h' => w = none ∧ h' = zz)) ∧ (∀ (a0 : Nat) (x1 : Int32) (x2 : Int32) (x3 : Int32) (x4 : Int32) (x5 : Int32) (x6 : Int32) (x7 : Int32) (h0 : aH) (zz : aH), l_29 sf29 g n 1 a0 x1 x2 x3 x4 x5 x6 x7 h0 = some zz → aWp X (e + 1) 29 84 [some (.ref a0), some (.int x1), some (.int x2), some (.int x3), some (.int x4), some (.int x5), some (.int x6), some (.int x7), none] [] h0 (fun w h' => w = none ∧ h' = zz)) ∧ (∀ (a0 : Nat) (x1 : Int32) (x2 : Int32) (x3 : Int32) (x4 : Int32) (x5 : Int32) (x6 : Int32) (x7 : Int32) (h0 : aH) (zz : aH), l_29 sf29 g n 2 a0 x1 x2 x3 x4 x5 x6 x7 h0 = some zz → aWp X (e + 1) 29 159 [some (.ref a0), some (.int x1), some (.int x2), some (.int x3), some (.int x4), some (.int x5), some (.int x6), some (.int x7), none] [] h0 (fun w h' => w = none ∧ h' = zz)) := by
  intro n
  induction n with
  | zero => exact ⟨fun _ _ _ _ _ _ _ _ _ _ hd => by simp [l_29] at hd, fun _ _ _ _ _ _ _ _ _ _ hd => by simp [l_29] at hd, fun _ _ _ _ _ _ _ _ _ _ hd => by simp [l_29] at hd⟩
  | succ n ih =>
    refine ⟨?_, ?_, ?_⟩
    · intro a0 x1 x2 x3 x4 x5 x6 x7 h0 zz hd
      unfold l_29 at hd
      rw [if_pos rfl] at hd
      refine wp_s 61 [some (.ref a0), some (.int x1), some (.int x2), some (.int x3), some (.int x4), none, none, none, none] [.ref a0] h0 i_29_60 rfl ?_
      obtain ⟨f_1, q_2, hd⟩ := dk_bind hd
      refine hp_gR 64 rfl i_29_61 q_2 ?_
      refine wp_s 65 [some (.ref a0), some (.int x1), some (.int x2), some (.int x3), some (.int x4), none, none, none, none] [.int x3, .ref f_1] h0 i_29_64 rfl ?_
      refine wp_s 66 [some (.ref a0), some (.int x1), some (.int x2), some (.int x3), some (.int x4), none, none, none, none] [.int (-x3), .ref f_1] h0 i_29_65 rfl ?_
      refine wp_s 67 [some (.ref a0), some (.int x1), some (.int x2), some (.int x3), some (.int x4), none, none, none, none] [.ref a0, .int (-x3), .ref f_1] h0 i_29_66 rfl ?_
      obtain ⟨f_3, q_4, hd⟩ := dk_bind hd
      refine hp_gR 70 rfl i_29_67 q_4 ?_
      refine wp_s 71 [some (.ref a0), some (.int x1), some (.int x2), some (.int x3), some (.int x4), none, none, none, none] [.int x1, .ref f_3, .int (-x3), .ref f_1] h0 i_29_70 rfl ?_
      obtain ⟨k_5, hd⟩ := dk_if hd
      obtain ⟨fs_6, o_7⟩ := isO_of k_5
      obtain ⟨z_8, q_9, hd⟩ := dk_bind hd
      refine wp_callV 74 rfl i_29_71 (by decide) rfl (vs := [.int (-x3), .ref f_3, .int x1]) (rest := []) rfl rfl rfl o_7 (y := m_3) rfl (Nat.le_of_ble_eq_true rfl) (d_3_ok (d := e) (by omega) q_9) ?_
      rintro v_10 h_11 ⟨rfl, hz⟩
      have hz := hz.symm
      subst hz
      obtain rfl := Option.some.inj hd
      exact wp_ret i_29_74 rfl ⟨rfl, rfl⟩
    · intro a0 x1 x2 x3 x4 x5 x6 x7 h0 zz hd
      unfold l_29 at hd
      rw [if_neg (by decide), if_pos rfl] at hd
      refine wp_s 86 [some (.ref a0), some (.int x1), some (.int x2), some (.int x3), some (.int x4), some (.int x5), some (.int x6), some (.int x7), none] [.int x7] h0 i_29_84 rfl ?_
      refine wp_s 87 [some (.ref a0), some (.int x1), some (.int x2), some (.int x3), some (.int x4), some (.int x5), some (.int x6), some (.int x7), none] [.ref a0, .int x7] h0 i_29_86 rfl ?_
      obtain ⟨f_12, q_13, hd⟩ := dk_bind hd
      refine hp_gR 90 rfl i_29_87 q_13 ?_
      obtain ⟨f_14, q_15, hd⟩ := dk_bind hd
      refine hp_gR 93 rfl i_29_90 q_15 ?_
      obtain ⟨f_16, q_17, hd⟩ := dk_bind hd
      refine hp_gR 96 rfl i_29_93 q_17 ?_
      refine wp_s 97 [some (.ref a0), some (.int x1), some (.int x2), some (.int x3), some (.int x4), some (.int x5), some (.int x6), some (.int x7), none] [.int x1, .ref f_16, .int x7] h0 i_29_96 rfl ?_
      obtain ⟨f_18, q_19, hd⟩ := dk_bind hd
      refine hp_gA 98 rfl i_29_97 q_19 ?_
      refine wp_cmp_gt 189 101 rfl rfl i_29_98 (fun c_20 => ?_) (fun c_20 => ?_)
      · rw [if_pos c_20] at hd
        refine wp_s 190 [some (.ref a0), some (.int x1), some (.int x2), some (.int x3), some (.int x4), some (.int x5), some (.int x6), some (.int x7), none] [.ref a0] h0 i_29_189 rfl ?_
        obtain ⟨f_21, q_22, hd⟩ := dk_bind hd
        refine hp_gR 193 rfl i_29_190 q_22 ?_
        refine wp_s 194 [some (.ref a0), some (.int x1), some (.int x2), some (.int x3), some (.int x4), some (.int x5), some (.int x6), some (.int x7), none] [.int x1, .ref f_21] h0 i_29_193 rfl ?_
        refine wp_s 195 [some (.ref a0), some (.int x1), some (.int x2), some (.int x3), some (.int x4), some (.int x5), some (.int x6), some (.int x7), none] [.ref a0, .int x1, .ref f_21] h0 i_29_194 rfl ?_
        obtain ⟨f_23, q_24, hd⟩ := dk_bind hd
        refine hp_gR 198 rfl i_29_195 q_24 ?_
        obtain ⟨f_25, q_26, hd⟩ := dk_bind hd
        refine hp_gR 201 rfl i_29_198 q_26 ?_
        obtain ⟨f_27, q_28, hd⟩ := dk_bind hd
        refine hp_gR 204 rfl i_29_201 q_28 ?_
        refine wp_s 205 [some (.ref a0), some (.int x1), some (.int x2), some (.int x3), some (.int x4), some (.int x5), some (.int x6), some (.int x7), none] [.int x1, .ref f_27, .int x1, .ref f_21] h0 i_29_204 rfl ?_
        obtain ⟨f_29, q_30, hd⟩ := dk_bind hd
        refine hp_gA 206 rfl i_29_205 q_30 ?_
        obtain ⟨h_31, q_32, hd⟩ := dk_bind hd
        refine hp_sA 207 rfl i_29_206 q_32 ?_
        obtain rfl := Option.some.inj hd
        exact wp_ret i_29_207 rfl ⟨rfl, rfl⟩
      · rw [if_neg c_20] at hd
        refine wp_s 103 [some (.ref a0), some (.int x1), some (.int x2), some (.int x3), some (.int x4), some (.int x5), some (.int x6), some (.int x7), none] [.int x7] h0 i_29_101 rfl ?_
        refine wp_if_le 159 106 rfl rfl i_29_103 (fun c_33 => ?_) (fun c_33 => ?_)
        · rw [if_pos c_33] at hd
          exact aWp.forget (ih.2.2 _ _ _ _ _ _ _ _ _ _ hd) (lvS (lvS (lvS (lvS (lvS (lvS (lvS (lvS (lvN lvE)))))))))
        · rw [if_neg c_33] at hd
          refine wp_s 107 [some (.ref a0), some (.int x1), some (.int x2), some (.int x3), some (.int x4), some (.int x5), some (.int x6), some (.int x7), none] [.ref a0] h0 i_29_106 rfl ?_
          obtain ⟨f_34, q_35, hd⟩ := dk_bind hd
          refine hp_gR 110 rfl i_29_107 q_35 ?_
          refine wp_s 111 [some (.ref a0), some (.int x1), some (.int x2), some (.int x3), some (.int x4), some (.int x5), some (.int x6), some (.int x7), none] [.int x1, .ref f_34] h0 i_29_110 rfl ?_
          refine wp_s 112 [some (.ref a0), some (.int x1), some (.int x2), some (.int x3), some (.int x4), some (.int x5), some (.int x6), some (.int x7), none] [.int x1, .ref f_34, .int x1, .ref f_34] h0 i_29_111 rfl ?_
          obtain ⟨f_36, q_37, hd⟩ := dk_bind hd
          refine hp_gA 113 rfl i_29_112 q_37 ?_
          refine wp_s 114 [some (.ref a0), some (.int x1), some (.int x2), some (.int x3), some (.int x4), some (.int x5), some (.int x6), some (.int x7), none] [.int (1 : Int32), .int f_36, .int x1, .ref f_34] h0 i_29_113 rfl ?_
          refine wp_s 115 [some (.ref a0), some (.int x1), some (.int x2), some (.int x3), some (.int x4), some (.int x5), some (.int x6), some (.int x7), none] [.int (f_36 - (1 : Int32)), .int x1, .ref f_34] h0 i_29_114 rfl ?_
          obtain ⟨h_38, q_39, hd⟩ := dk_bind hd
          refine hp_sA 116 rfl i_29_115 q_39 ?_
          refine wp_s 117 [some (.ref a0), some (.int x1), some (.int x2), some (.int x3), some (.int x4), some (.int x5), some (.int x6), some (.int x7), none] [.ref a0] h_38 i_29_116 rfl ?_
          obtain ⟨f_40, q_41, hd⟩ := dk_bind hd
          refine hp_gR 120 rfl i_29_117 q_41 ?_
          refine wp_s 121 [some (.ref a0), some (.int x1), some (.int x2), some (.int x3), some (.int x4), some (.int x5), some (.int x6), some (.int x7), none] [.int x1, .ref f_40] h_38 i_29_120 rfl ?_
          refine wp_s 122 [some (.ref a0), some (.int x1), some (.int x2), some (.int x3), some (.int x4), some (.int x5), some (.int x6), some (.int x7), none] [.ref a0, .int x1, .ref f_40] h_38 i_29_121 rfl ?_
          obtain ⟨f_42, q_43, hd⟩ := dk_bind hd
          refine hp_gR 125 rfl i_29_122 q_43 ?_
          refine wp_s 127 [some (.ref a0), some (.int x1), some (.int x2), some (.int x3), some (.int x4), some (.int x5), some (.int x6), some (.int x7), none] [.int x5, .ref f_42, .int x1, .ref f_40] h_38 i_29_125 rfl ?_
          obtain ⟨k_44, hd⟩ := dk_if hd
          obtain ⟨fs_45, o_46⟩ := isO_of k_44
          obtain ⟨z_47, q_48, hd⟩ := dk_bind hd
          refine wp_callV 130 rfl i_29_127 (by decide) rfl (vs := [.int x1, .ref f_42, .int x5]) (rest := []) rfl rfl rfl o_46 (y := m_96) rfl (Nat.le_of_ble_eq_true rfl) (d_96_ok (d := e) (by omega) q_48) ?_
          rintro v_49 h_50 ⟨rfl, rfl⟩
          refine wp_s 132 [some (.ref a0), some (.int x1), some (.int x2), some (.int x3), some (.int x4), some (.int x5), some (.int x6), some (.int x7), some (.int z_47.1)] [] z_47.2 i_29_130 rfl ?_
          refine wp_s 134 [some (.ref a0), some (.int x1), some (.int x2), some (.int x3), some (.int x4), some (.int x5), some (.int x6), some (.int x7), some (.int z_47.1)] [.int x5] z_47.2 i_29_132 rfl ?_
          refine wp_s 136 [some (.ref a0), some (.int x1), some (.int x2), some (.int x3), some (.int x4), some (.int x5), some (.int x6), some (.int x7), some (.int z_47.1)] [.int z_47.1, .int x5] z_47.2 i_29_134 rfl ?_
          refine wp_s 137 [some (.ref a0), some (.int x1), some (.int x2), some (.int x3), some (.int x4), some (.int x5), some (.int x6), some (.int x7), some (.int z_47.1)] [.int (x5 - z_47.1)] z_47.2 i_29_136 rfl ?_
          refine wp_s 139 [some (.ref a0), some (.int x1), some (.int x2), some (.int x3), some (.int x4), some (.int (x5 - z_47.1)), some (.int x6), some (.int x7), some (.int z_47.1)] [] z_47.2 i_29_137 rfl ?_
          refine wp_s 141 [some (.ref a0), some (.int x1), some (.int x2), some (.int x3), some (.int x4), some (.int (x5 - z_47.1)), some (.int x6), some (.int x7), some (.int z_47.1)] [.int x6] z_47.2 i_29_139 rfl ?_
          refine wp_s 143 [some (.ref a0), some (.int x1), some (.int x2), some (.int x3), some (.int x4), some (.int (x5 - z_47.1)), some (.int x6), some (.int x7), some (.int z_47.1)] [.int z_47.1, .int x6] z_47.2 i_29_141 rfl ?_
          refine wp_s 144 [some (.ref a0), some (.int x1), some (.int x2), some (.int x3), some (.int x4), some (.int (x5 - z_47.1)), some (.int x6), some (.int x7), some (.int z_47.1)] [.ref a0, .int z_47.1, .int x6] z_47.2 i_29_143 rfl ?_
          obtain ⟨f_51, q_52, hd⟩ := dk_bind hd
          refine hp_gR 147 rfl i_29_144 q_52 ?_
          obtain ⟨f_53, q_54, hd⟩ := dk_bind hd
          refine hp_gR 150 rfl i_29_147 q_54 ?_
          obtain ⟨f_55, q_56, hd⟩ := dk_bind hd
          refine hp_gR 153 rfl i_29_150 q_56 ?_
          refine wp_s 154 [some (.ref a0), some (.int x1), some (.int x2), some (.int x3), some (.int x4), some (.int (x5 - z_47.1)), some (.int x6), some (.int x7), some (.int z_47.1)] [.int x1, .ref f_55, .int z_47.1, .int x6] z_47.2 i_29_153 rfl ?_
          obtain ⟨f_57, q_58, hd⟩ := dk_bind hd
          refine hp_gA 155 rfl i_29_154 q_58 ?_
          refine wp_s 156 [some (.ref a0), some (.int x1), some (.int x2), some (.int x3), some (.int x4), some (.int (x5 - z_47.1)), some (.int x6), some (.int x7), some (.int z_47.1)] [.int (z_47.1 - f_57), .int x6] z_47.2 i_29_155 rfl ?_
          refine wp_s 157 [some (.ref a0), some (.int x1), some (.int x2), some (.int x3), some (.int x4), some (.int (x5 - z_47.1)), some (.int x6), some (.int x7), some (.int z_47.1)] [.int (x6 + (z_47.1 - f_57))] z_47.2 i_29_156 rfl ?_
          refine wp_s 159 [some (.ref a0), some (.int x1), some (.int x2), some (.int x3), some (.int x4), some (.int (x5 - z_47.1)), some (.int (x6 + (z_47.1 - f_57))), some (.int x7), some (.int z_47.1)] [] z_47.2 i_29_157 rfl ?_
          exact aWp.forget (ih.2.2 _ _ _ _ _ _ _ _ _ _ hd) (lvS (lvS (lvS (lvS (lvS (lvS (lvS (lvS (lvN lvE)))))))))
    · intro a0 x1 x2 x3 x4 x5 x6 x7 h0 zz hd
      unfold l_29 at hd
      rw [if_neg (by decide), if_neg (by decide), if_pos rfl] at hd
      refine wp_s 160 [some (.ref a0), some (.int x1), some (.int x2), some (.int x3), some (.int x4), some (.int x5), some (.int x6), some (.int x7), none] [.ref a0] h0 i_29_159 rfl ?_
      obtain ⟨f_59, q_60, hd⟩ := dk_bind hd
      refine hp_gR 163 rfl i_29_160 q_60 ?_
      refine wp_s 164 [some (.ref a0), some (.int x1), some (.int x2), some (.int x3), some (.int x4), some (.int x5), some (.int x6), some (.int x7), none] [.int x1, .ref f_59] h0 i_29_163 rfl ?_
      refine wp_s 166 [some (.ref a0), some (.int x1), some (.int x2), some (.int x3), some (.int x4), some (.int x5), some (.int x6), some (.int x7), none] [.int x7, .int x1, .ref f_59] h0 i_29_164 rfl ?_
      obtain ⟨h_61, q_62, hd⟩ := dk_bind hd
      refine hp_sA 167 rfl i_29_166 q_62 ?_
      refine wp_s 168 [some (.ref a0), some (.int x1), some (.int x2), some (.int x3), some (.int x4), some (.int x5), some (.int x6), some (.int x7), none] [.ref a0] h_61 i_29_167 rfl ?_
      refine wp_s 169 [some (.ref a0), some (.int x1), some (.int x2), some (.int x3), some (.int x4), some (.int x5), some (.int x6), some (.int x7), none] [.int x1, .ref a0] h_61 i_29_168 rfl ?_
      refine wp_s 170 [some (.ref a0), some (.int x1), some (.int x2), some (.int x3), some (.int x4), some (.int x5), some (.int x6), some (.int x7), none] [.int (1 : Int32), .int x1, .ref a0] h_61 i_29_169 rfl ?_
      refine wp_s 171 [some (.ref a0), some (.int x1), some (.int x2), some (.int x3), some (.int x4), some (.int x5), some (.int x6), some (.int x7), none] [.int (x1 + (1 : Int32)), .ref a0] h_61 i_29_170 rfl ?_
      refine wp_s 173 [some (.ref a0), some (.int x1), some (.int x2), some (.int x3), some (.int x4), some (.int x5), some (.int x6), some (.int x7), none] [.int x5, .int (x1 + (1 : Int32)), .ref a0] h_61 i_29_171 rfl ?_
      refine wp_s 175 [some (.ref a0), some (.int x1), some (.int x2), some (.int x3), some (.int x4), some (.int x5), some (.int x6), some (.int x7), none] [.int x6, .int x5, .int (x1 + (1 : Int32)), .ref a0] h_61 i_29_173 rfl ?_
      refine wp_s 177 [some (.ref a0), some (.int x1), some (.int x2), some (.int x3), some (.int x4), some (.int x5), some (.int x6), some (.int x7), none] [.int x4, .int x6, .int x5, .int (x1 + (1 : Int32)), .ref a0] h_61 i_29_175 rfl ?_
      refine wp_s 179 [some (.ref a0), some (.int x1), some (.int x2), some (.int x3), some (.int x4), some (.int x5), some (.int x6), some (.int x7), none] [.int x7, .int x4, .int x6, .int x5, .int (x1 + (1 : Int32)), .ref a0] h_61 i_29_177 rfl ?_
      refine wp_s 180 [some (.ref a0), some (.int x1), some (.int x2), some (.int x3), some (.int x4), some (.int x5), some (.int x6), some (.int x7), none] [.int (x4 + x7), .int x6, .int x5, .int (x1 + (1 : Int32)), .ref a0] h_61 i_29_179 rfl ?_
      obtain ⟨k_63, hd⟩ := dk_if hd
      obtain ⟨fs_64, o_65⟩ := isO_of k_63
      obtain ⟨z_66, q_67, hd⟩ := dk_bind hd
      refine wp_callV 183 rfl i_29_180 (by decide) rfl (vs := [.int (x1 + (1 : Int32)), .int x5, .int x6, .int (x4 + x7)]) (rest := []) rfl rfl rfl o_65 (y := m_29) rfl (Nat.le_of_ble_eq_true rfl) (hs29 _ _ _ _ _ _ _ q_67) ?_
      rintro v_68 h_69 ⟨rfl, hz⟩
      have hz := hz.symm
      subst hz
      refine wp_s 186 [some (.ref a0), some (.int x1), some (.int x2), some (.int x3), some (.int x4), some (.int x5), some (.int x6), some (.int (x7 + (1 : Int32))), none] [] z_66 i_29_183 rfl ?_
      refine wp_s 84 [some (.ref a0), some (.int x1), some (.int x2), some (.int x3), some (.int x4), some (.int x5), some (.int x6), some (.int (x7 + (1 : Int32))), none] [] z_66 i_29_186 rfl ?_
      exact aWp.forget (ih.2.1 _ _ _ _ _ _ _ _ _ _ hd) (lvS (lvS (lvS (lvS (lvS (lvS (lvS (lvS (lvN lvE)))))))))
def t_29 (sf29 : Nat → Int32 → Int32 → Int32 → Int32 → aH → Option aH) (g : Nat) (a0 : Nat) (x1 : Int32) (x2 : Int32) (x3 : Int32) (x4 : Int32) (h0 : aH) : Option (aH) := ((gR h0 a0 2 0).bind (fun f_1001 => ((gR h0 f_1001 10 0).bind (fun f_1003 => ((gI h0 f_1003 5 4).bind (fun f_1005 => (if x1 < f_1005 then (l_29 sf29 g g 1 a0 x1 x2 x3 x4 x2 x3 (0 : Int32) h0) else ((gR h0 a0 2 2).bind (fun f_1008 => ((gI h0 f_1008 0 0).bind (fun f_1010 => (if f_1010 = 0 then (l_29 sf29 g g 0 a0 x1 x2 x3 x4 0 0 0 h0) else ((gR h0 a0 2 2).bind (fun f_1013 => ((gI h0 f_1013 0 1).bind (fun f_1015 => (if (-x3) < f_1015 then (l_29 sf29 g g 0 a0 x1 x2 x3 x4 0 0 0 h0) else ((gR h0 a0 2 2).bind (fun f_1018 => ((gI h0 f_1018 0 1).bind (fun f_1020 => (if ¬ (-x3) = f_1020 then some h0 else ((gR h0 a0 2 2).bind (fun f_1023 => (if isO h0 f_1023 0 = true then ((d_5 g f_1023 h0).bind (fun z_1028 => (if z_1028.1 ≤ x4 then some z_1028.2 else (l_29 sf29 g g 0 a0 x1 x2 x3 x4 0 0 0 z_1028.2)))) else none)))))))))))))))))))))))))
set_option maxHeartbeats 4000000 in
set_option maxRecDepth 100000 in
theorem t_29_ok {X : aX} {g : Nat} {sf29 : Nat → Int32 → Int32 → Int32 → Int32 → aH → Option aH} {a0 : Nat} {x1 : Int32} {x2 : Int32} {x3 : Int32} {x4 : Int32} {h0 : aH} {zz : aH} {e : Nat} (hdp : 1 ≤ e) (hs29 : ∀ (a0 : Nat) (x1 : Int32) (x2 : Int32) (x3 : Int32) (x4 : Int32) (h0 zz : aH), sf29 a0 x1 x2 x3 x4 h0 = some zz → aWp X e 29 0 (aEntL [.ref a0, .int x1, .int x2, .int x3, .int x4] 9) [] h0 (fun w h' => w = none ∧ h' = zz)) (hd : t_29 sf29 g a0 x1 x2 x3 x4 h0 = some zz) : aWp X (e + 1) 29 0 (aEntL [.ref a0, .int x1, .int x2, .int x3, .int x4] 9) [] h0 (fun w h' => w = none ∧ h' = zz) := by
  unfold t_29 at hd
  refine wp_lv (l2 := [some (.ref a0), some (.int x1), some (.int x2), some (.int x3), some (.int x4), none, none, none, none]) rfl ?_
  refine wp_s 1 [some (.ref a0), some (.int x1), some (.int x2), some (.int x3), some (.int x4), none, none, none, none] [.int x1] h0 i_29_0 rfl ?_
  refine wp_s 2 [some (.ref a0), some (.int x1), some (.int x2), some (.int x3), some (.int x4), none, none, none, none] [.ref a0, .int x1] h0 i_29_1 rfl ?_
  obtain ⟨f_1001, q_1002, hd⟩ := dk_bind hd
  refine hp_gR 5 rfl i_29_2 q_1002 ?_
  obtain ⟨f_1003, q_1004, hd⟩ := dk_bind hd
  refine hp_gR 8 rfl i_29_5 q_1004 ?_
  obtain ⟨f_1005, q_1006, hd⟩ := dk_bind hd
  refine hp_gI 11 rfl i_29_8 q_1006 ?_
  refine wp_cmp_lt 75 14 rfl rfl i_29_11 (fun c_1007 => ?_) (fun c_1007 => ?_)
  · rw [if_pos c_1007] at hd
    refine wp_s 76 [some (.ref a0), some (.int x1), some (.int x2), some (.int x3), some (.int x4), none, none, none, none] [.int x2] h0 i_29_75 rfl ?_
    refine wp_s 78 [some (.ref a0), some (.int x1), some (.int x2), some (.int x3), some (.int x4), some (.int x2), none, none, none] [] h0 i_29_76 rfl ?_
    refine wp_s 79 [some (.ref a0), some (.int x1), some (.int x2), some (.int x3), some (.int x4), some (.int x2), none, none, none] [.int x3] h0 i_29_78 rfl ?_
    refine wp_s 81 [some (.ref a0), some (.int x1), some (.int x2), some (.int x3), some (.int x4), some (.int x2), some (.int x3), none, none] [] h0 i_29_79 rfl ?_
    refine wp_s 82 [some (.ref a0), some (.int x1), some (.int x2), some (.int x3), some (.int x4), some (.int x2), some (.int x3), none, none] [.int (0 : Int32)] h0 i_29_81 rfl ?_
    refine wp_s 84 [some (.ref a0), some (.int x1), some (.int x2), some (.int x3), some (.int x4), some (.int x2), some (.int x3), some (.int (0 : Int32)), none] [] h0 i_29_82 rfl ?_
    exact aWp.forget ((l_29_ok hdp hs29 g).2.1 _ _ _ _ _ _ _ _ _ _ hd) (lvS (lvS (lvS (lvS (lvS (lvS (lvS (lvS (lvN lvE)))))))))
  · rw [if_neg c_1007] at hd
    refine wp_s 15 [some (.ref a0), some (.int x1), some (.int x2), some (.int x3), some (.int x4), none, none, none, none] [.ref a0] h0 i_29_14 rfl ?_
    obtain ⟨f_1008, q_1009, hd⟩ := dk_bind hd
    refine hp_gR 18 rfl i_29_15 q_1009 ?_
    obtain ⟨f_1010, q_1011, hd⟩ := dk_bind hd
    refine hp_gI 21 rfl i_29_18 q_1011 ?_
    refine wp_if_eq 60 24 rfl rfl i_29_21 (fun c_1012 => ?_) (fun c_1012 => ?_)
    · rw [if_pos c_1012] at hd
      exact aWp.forget ((l_29_ok hdp hs29 g).1 _ _ _ _ _ _ _ _ _ _ hd) (lvS (lvS (lvS (lvS (lvS (lvN (lvN (lvN (lvN lvE)))))))))
    · rw [if_neg c_1012] at hd
      refine wp_s 25 [some (.ref a0), some (.int x1), some (.int x2), some (.int x3), some (.int x4), none, none, none, none] [.int x3] h0 i_29_24 rfl ?_
      refine wp_s 26 [some (.ref a0), some (.int x1), some (.int x2), some (.int x3), some (.int x4), none, none, none, none] [.int (-x3)] h0 i_29_25 rfl ?_
      refine wp_s 27 [some (.ref a0), some (.int x1), some (.int x2), some (.int x3), some (.int x4), none, none, none, none] [.ref a0, .int (-x3)] h0 i_29_26 rfl ?_
      obtain ⟨f_1013, q_1014, hd⟩ := dk_bind hd
      refine hp_gR 30 rfl i_29_27 q_1014 ?_
      obtain ⟨f_1015, q_1016, hd⟩ := dk_bind hd
      refine hp_gI 33 rfl i_29_30 q_1016 ?_
      refine wp_cmp_lt 60 36 rfl rfl i_29_33 (fun c_1017 => ?_) (fun c_1017 => ?_)
      · rw [if_pos c_1017] at hd
        exact aWp.forget ((l_29_ok hdp hs29 g).1 _ _ _ _ _ _ _ _ _ _ hd) (lvS (lvS (lvS (lvS (lvS (lvN (lvN (lvN (lvN lvE)))))))))
      · rw [if_neg c_1017] at hd
        refine wp_s 37 [some (.ref a0), some (.int x1), some (.int x2), some (.int x3), some (.int x4), none, none, none, none] [.int x3] h0 i_29_36 rfl ?_
        refine wp_s 38 [some (.ref a0), some (.int x1), some (.int x2), some (.int x3), some (.int x4), none, none, none, none] [.int (-x3)] h0 i_29_37 rfl ?_
        refine wp_s 39 [some (.ref a0), some (.int x1), some (.int x2), some (.int x3), some (.int x4), none, none, none, none] [.ref a0, .int (-x3)] h0 i_29_38 rfl ?_
        obtain ⟨f_1018, q_1019, hd⟩ := dk_bind hd
        refine hp_gR 42 rfl i_29_39 q_1019 ?_
        obtain ⟨f_1020, q_1021, hd⟩ := dk_bind hd
        refine hp_gI 45 rfl i_29_42 q_1021 ?_
        refine wp_cmp_ne 74 48 rfl rfl i_29_45 (fun c_1022 => ?_) (fun c_1022 => ?_)
        · rw [if_pos c_1022] at hd
          obtain rfl := Option.some.inj hd
          exact wp_ret i_29_74 rfl ⟨rfl, rfl⟩
        · rw [if_neg c_1022] at hd
          refine wp_s 50 [some (.ref a0), some (.int x1), some (.int x2), some (.int x3), some (.int x4), none, none, none, none] [.int x4] h0 i_29_48 rfl ?_
          refine wp_s 51 [some (.ref a0), some (.int x1), some (.int x2), some (.int x3), some (.int x4), none, none, none, none] [.ref a0, .int x4] h0 i_29_50 rfl ?_
          obtain ⟨f_1023, q_1024, hd⟩ := dk_bind hd
          refine hp_gR 54 rfl i_29_51 q_1024 ?_
          obtain ⟨k_1025, hd⟩ := dk_if hd
          obtain ⟨fs_1026, o_1027⟩ := isO_of k_1025
          obtain ⟨z_1028, q_1029, hd⟩ := dk_bind hd
          refine wp_callV 57 rfl i_29_54 (by decide) rfl (vs := []) (rest := [.int x4]) rfl rfl rfl o_1027 (y := m_5) rfl (Nat.le_of_ble_eq_true rfl) (d_5_ok (d := e) (by omega) q_1029) ?_
          rintro v_1030 h_1031 ⟨rfl, rfl⟩
          refine wp_cmp_ge 74 60 rfl rfl i_29_57 (fun c_1032 => ?_) (fun c_1032 => ?_)
          · rw [if_pos c_1032] at hd
            obtain rfl := Option.some.inj hd
            exact wp_ret i_29_74 rfl ⟨rfl, rfl⟩
          · rw [if_neg c_1032] at hd
            exact aWp.forget ((l_29_ok hdp hs29 g).1 _ _ _ _ _ _ _ _ _ _ hd) (lvS (lvS (lvS (lvS (lvS (lvN (lvN (lvN (lvN lvE)))))))))
def R_29 (g n tag : Nat) (a0 : Nat) (x1 : Int32) (x2 : Int32) (x3 : Int32) (x4 : Int32) (h0 : aH) : Option aH := match n with
  | 0 => none
  | n + 1 => if tag = 0 then t_29 (fun a0 x1 x2 x3 x4 h => R_29 g n 0 a0 x1 x2 x3 x4 h) g a0 x1 x2 x3 x4 h0 else none
theorem R_29_ok {X : aX} {g : Nat} : ∀ n, (∀ (a0 : Nat) (x1 : Int32) (x2 : Int32) (x3 : Int32) (x4 : Int32) (h0 zz : aH), R_29 g n 0 a0 x1 x2 x3 x4 h0 = some zz → aWp X (1 + n) 29 0 (aEntL [.ref a0, .int x1, .int x2, .int x3, .int x4] 9) [] h0 (fun w h' => w = none ∧ h' = zz)) := by
  intro n
  induction n with
  | zero => exact fun _ _ _ _ _ _ _ hd => by simp [R_29] at hd
  | succ n ih =>
    intro a0 x1 x2 x3 x4 h0 zz hd
    unfold R_29 at hd
    rw [if_pos rfl] at hd
    exact t_29_ok (e := 1 + n) (by omega) ih hd
def d_29 (g : Nat) (a0 : Nat) (x1 : Int32) (x2 : Int32) (x3 : Int32) (x4 : Int32) (h0 : aH) : Option aH := R_29 g 10 0 a0 x1 x2 x3 x4 h0
theorem d_29_ok {X : aX} {g : Nat} {a0 : Nat} {x1 : Int32} {x2 : Int32} {x3 : Int32} {x4 : Int32} {h0 zz : aH} {d : Nat} (hdp : 11 ≤ d) (hd : d_29 g a0 x1 x2 x3 x4 h0 = some zz) : aWp X d 29 0 (aEntL [.ref a0, .int x1, .int x2, .int x3, .int x4] 9) [] h0 (fun w h' => w = none ∧ h' = zz) := ((R_29_ok 10) _ _ _ _ _ _ _ hd).deep hdp
def d_28 (g : Nat) (a0 : Nat) (h0 : aH) : Option (aH) := ((gR h0 a0 2 2).bind (fun f_1 => (if isO h0 f_1 0 = true then ((d_1 g f_1 h0).bind (fun z_6 => ((gR z_6 a0 2 0).bind (fun f_10 => ((gR z_6 f_10 10 1).bind (fun f_12 => ((gR z_6 f_12 7 4).bind (fun f_14 => ((gR z_6 a0 2 7).bind (fun f_16 => ((sC z_6 f_14 (0 : Int32) f_16 (0 : Int32) (8 : Int32)).bind (fun h_18 => ((gR h_18 a0 2 0).bind (fun f_20 => ((gR h_18 f_20 10 1).bind (fun f_22 => ((gI h_18 f_22 7 12).bind (fun f_24 => (if isO h_18 a0 2 = true then ((d_29 g a0 (0 : Int32) f_24 (0 : Int32) (0 : Int32) h_18).bind (fun z_29 => some z_29)) else none))))))))))))))))))) else none)))
set_option maxHeartbeats 4000000 in
set_option maxRecDepth 100000 in
theorem d_28_ok {X : aX} {g : Nat} {a0 : Nat} {h0 : aH} {zz : aH} {d : Nat} (hdp : 12 ≤ d) (hd : d_28 g a0 h0 = some zz) : aWp X d 28 0 (aEntL [.ref a0] 1) [] h0 (fun w h' => w = none ∧ h' = zz) := by
  unfold d_28 at hd
  refine wp_lv (l2 := [some (.ref a0)]) rfl ?_
  obtain ⟨e, rfl⟩ : ∃ e, d = e + 1 := ⟨d - 1, by omega⟩
  refine wp_s 1 [some (.ref a0)] [.ref a0] h0 i_28_0 rfl ?_
  obtain ⟨f_1, q_2, hd⟩ := dk_bind hd
  refine hp_gR 4 rfl i_28_1 q_2 ?_
  obtain ⟨k_3, hd⟩ := dk_if hd
  obtain ⟨fs_4, o_5⟩ := isO_of k_3
  obtain ⟨z_6, q_7, hd⟩ := dk_bind hd
  refine wp_callV 7 rfl i_28_4 (by decide) rfl (vs := []) (rest := []) rfl rfl rfl o_5 (y := m_1) rfl (Nat.le_of_ble_eq_true rfl) (d_1_ok (d := e) (by omega) q_7) ?_
  rintro v_8 h_9 ⟨rfl, hz⟩
  have hz := hz.symm
  subst hz
  refine wp_s 8 [some (.ref a0)] [.ref a0] z_6 i_28_7 rfl ?_
  obtain ⟨f_10, q_11, hd⟩ := dk_bind hd
  refine hp_gR 11 rfl i_28_8 q_11 ?_
  obtain ⟨f_12, q_13, hd⟩ := dk_bind hd
  refine hp_gR 14 rfl i_28_11 q_13 ?_
  obtain ⟨f_14, q_15, hd⟩ := dk_bind hd
  refine hp_gR 17 rfl i_28_14 q_15 ?_
  refine wp_s 18 [some (.ref a0)] [.int (0 : Int32), .ref f_14] z_6 i_28_17 rfl ?_
  refine wp_s 19 [some (.ref a0)] [.ref a0, .int (0 : Int32), .ref f_14] z_6 i_28_18 rfl ?_
  obtain ⟨f_16, q_17, hd⟩ := dk_bind hd
  refine hp_gR 22 rfl i_28_19 q_17 ?_
  refine wp_s 23 [some (.ref a0)] [.int (0 : Int32), .ref f_16, .int (0 : Int32), .ref f_14] z_6 i_28_22 rfl ?_
  refine wp_s 25 [some (.ref a0)] [.int (8 : Int32), .int (0 : Int32), .ref f_16, .int (0 : Int32), .ref f_14] z_6 i_28_23 rfl ?_
  obtain ⟨h_18, q_19, hd⟩ := dk_bind hd
  refine hp_sC 28 rfl i_28_25 rfl q_19 ?_
  refine wp_s 29 [some (.ref a0)] [.ref a0] h_18 i_28_28 rfl ?_
  refine wp_s 30 [some (.ref a0)] [.int (0 : Int32), .ref a0] h_18 i_28_29 rfl ?_
  refine wp_s 31 [some (.ref a0)] [.ref a0, .int (0 : Int32), .ref a0] h_18 i_28_30 rfl ?_
  obtain ⟨f_20, q_21, hd⟩ := dk_bind hd
  refine hp_gR 34 rfl i_28_31 q_21 ?_
  obtain ⟨f_22, q_23, hd⟩ := dk_bind hd
  refine hp_gR 37 rfl i_28_34 q_23 ?_
  obtain ⟨f_24, q_25, hd⟩ := dk_bind hd
  refine hp_gI 40 rfl i_28_37 q_25 ?_
  refine wp_s 41 [some (.ref a0)] [.int (0 : Int32), .int f_24, .int (0 : Int32), .ref a0] h_18 i_28_40 rfl ?_
  refine wp_s 42 [some (.ref a0)] [.int (0 : Int32), .int (0 : Int32), .int f_24, .int (0 : Int32), .ref a0] h_18 i_28_41 rfl ?_
  obtain ⟨k_26, hd⟩ := dk_if hd
  obtain ⟨fs_27, o_28⟩ := isO_of k_26
  obtain ⟨z_29, q_30, hd⟩ := dk_bind hd
  refine wp_callV 45 rfl i_28_42 (by decide) rfl (vs := [.int (0 : Int32), .int f_24, .int (0 : Int32), .int (0 : Int32)]) (rest := []) rfl rfl rfl o_28 (y := m_29) rfl (Nat.le_of_ble_eq_true rfl) (d_29_ok (d := e) (by omega) q_30) ?_
  rintro v_31 h_32 ⟨rfl, hz⟩
  have hz := hz.symm
  subst hz
  obtain rfl := Option.some.inj hd
  exact wp_ret i_28_45 rfl ⟨rfl, rfl⟩
def l_31 (g n tag : Nat) (a0 : Nat) (x1 : Int32) (x2 : Int32) (x3 : Int32) (h0 : aH) : Option (Int32 × aH) := match n with
  | 0 => none
  | n + 1 => if tag = 0 then (if x1 ≤ x3 then some (x2, h0) else ((gR h0 a0 2 3).bind (fun f_2 => ((gA h0 f_2 x3).bind (fun f_4 => (l_31 g n 0 a0 x1 (x2 ||| ((1 : Int32) <<< (f_4 &&& 31))) (x3 + (1 : Int32)) h0)))))) else none
set_option maxHeartbeats 4000000 in
set_option maxRecDepth 100000 in
theorem l_31_ok {X : aX} {g : Nat} {d : Nat} (hdp : 0 ≤ d) : ∀ n, (∀ (a0 : Nat) (x1 : Int32) (x2 : Int32) (x3 : Int32) (h0 : aH) (zz : Int32 × aH), l_31 g n 0 a0 x1 x2 x3 h0 = some zz → aWp X d 31 4 [some (.ref a0), some (.int x1), some (.int x2), some (.int x3)] [] h0 (fun w h' => w = some (.int zz.1) ∧ h' = zz.2)) := by
  intro n
  induction n with
  | zero => exact fun _ _ _ _ _ _ hd => by simp [l_31] at hd
  | succ n ih =>
    intro a0 x1 x2 x3 h0 zz hd
    unfold l_31 at hd
    rw [if_pos rfl] at hd
    refine wp_s 5 [some (.ref a0), some (.int x1), some (.int x2), some (.int x3)] [.int x3] h0 i_31_4 rfl ?_
    refine wp_s 6 [some (.ref a0), some (.int x1), some (.int x2), some (.int x3)] [.int x1, .int x3] h0 i_31_5 rfl ?_
    refine wp_cmp_ge 26 9 rfl rfl i_31_6 (fun c_1 => ?_) (fun c_1 => ?_)
    · rw [if_pos c_1] at hd
      refine wp_s 27 [some (.ref a0), some (.int x1), some (.int x2), some (.int x3)] [.int x2] h0 i_31_26 rfl ?_
      obtain rfl := Option.some.inj hd
      exact wp_iret i_31_27 ⟨rfl, rfl⟩
    · rw [if_neg c_1] at hd
      refine wp_s 10 [some (.ref a0), some (.int x1), some (.int x2), some (.int x3)] [.int x2] h0 i_31_9 rfl ?_
      refine wp_s 11 [some (.ref a0), some (.int x1), some (.int x2), some (.int x3)] [.int (1 : Int32), .int x2] h0 i_31_10 rfl ?_
      refine wp_s 12 [some (.ref a0), some (.int x1), some (.int x2), some (.int x3)] [.ref a0, .int (1 : Int32), .int x2] h0 i_31_11 rfl ?_
      obtain ⟨f_2, q_3, hd⟩ := dk_bind hd
      refine hp_gR 15 rfl i_31_12 q_3 ?_
      refine wp_s 16 [some (.ref a0), some (.int x1), some (.int x2), some (.int x3)] [.int x3, .ref f_2, .int (1 : Int32), .int x2] h0 i_31_15 rfl ?_
      obtain ⟨f_4, q_5, hd⟩ := dk_bind hd
      refine hp_gA 17 rfl i_31_16 q_5 ?_
      refine wp_s 18 [some (.ref a0), some (.int x1), some (.int x2), some (.int x3)] [.int ((1 : Int32) <<< (f_4 &&& 31)), .int x2] h0 i_31_17 rfl ?_
      refine wp_s 19 [some (.ref a0), some (.int x1), some (.int x2), some (.int x3)] [.int (x2 ||| ((1 : Int32) <<< (f_4 &&& 31)))] h0 i_31_18 rfl ?_
      refine wp_s 20 [some (.ref a0), some (.int x1), some (.int (x2 ||| ((1 : Int32) <<< (f_4 &&& 31)))), some (.int x3)] [] h0 i_31_19 rfl ?_
      refine wp_s 23 [some (.ref a0), some (.int x1), some (.int (x2 ||| ((1 : Int32) <<< (f_4 &&& 31)))), some (.int (x3 + (1 : Int32)))] [] h0 i_31_20 rfl ?_
      refine wp_s 4 [some (.ref a0), some (.int x1), some (.int (x2 ||| ((1 : Int32) <<< (f_4 &&& 31)))), some (.int (x3 + (1 : Int32)))] [] h0 i_31_23 rfl ?_
      exact aWp.forget (ih _ _ _ _ _ _ hd) (lvS (lvS (lvS (lvS lvE))))
def d_31 (g : Nat) (a0 : Nat) (x1 : Int32) (h0 : aH) : Option (Int32 × aH) := (l_31 g g 0 a0 x1 (0 : Int32) (0 : Int32) h0)
set_option maxHeartbeats 4000000 in
set_option maxRecDepth 100000 in
theorem d_31_ok {X : aX} {g : Nat} {a0 : Nat} {x1 : Int32} {h0 : aH} {zz : Int32 × aH} {d : Nat} (hdp : 0 ≤ d) (hd : d_31 g a0 x1 h0 = some zz) : aWp X d 31 0 (aEntL [.ref a0, .int x1] 4) [] h0 (fun w h' => w = some (.int zz.1) ∧ h' = zz.2) := by
  unfold d_31 at hd
  refine wp_lv (l2 := [some (.ref a0), some (.int x1), none, none]) rfl ?_
  refine wp_s 1 [some (.ref a0), some (.int x1), none, none] [.int (0 : Int32)] h0 i_31_0 rfl ?_
  refine wp_s 2 [some (.ref a0), some (.int x1), some (.int (0 : Int32)), none] [] h0 i_31_1 rfl ?_
  refine wp_s 3 [some (.ref a0), some (.int x1), some (.int (0 : Int32)), none] [.int (0 : Int32)] h0 i_31_2 rfl ?_
  refine wp_s 4 [some (.ref a0), some (.int x1), some (.int (0 : Int32)), some (.int (0 : Int32))] [] h0 i_31_3 rfl ?_
  exact aWp.forget ((l_31_ok hdp g) _ _ _ _ _ _ hd) (lvS (lvS (lvS (lvS lvE))))
def l_30 (g n tag : Nat) (a0 : Nat) (x1 : Int32) (x2 : Int32) (x3 : Int32) (x4 : Int32) (x5 : Int32) (h0 : aH) : Option (aH) := match n with
  | 0 => none
  | n + 1 => if tag = 0 then (if (4 : Int32) < x3 then ((gI h0 a0 2 15).bind (fun f_2 => (if ¬ f_2 = 0 then some h0 else ((sF h0 a0 2 16 (.int (0 : Int32))).bind (fun h_5 => some h_5))))) else (if isO h0 a0 2 = true then ((d_16 g a0 x3 h0).bind (fun z_10 => (l_30 g n 1 a0 x1 x2 x3 z_10.1 (0 : Int32) z_10.2))) else none)) else if tag = 1 then (if x4 = 0 then (l_30 g n 3 a0 x1 x2 x3 x4 x5 h0) else (if (1000000 : Int32) ≤ x5 then (l_30 g n 3 a0 x1 x2 x3 x4 x5 h0) else ((gR h0 a0 2 1).bind (fun f_16 => (if isO h0 a0 2 = true then ((d_20 g a0 x3 h0).bind (fun z_21 => (if isO z_21.2 f_16 9 = true then ((d_95 g f_16 z_21.1 z_21.2).bind (fun z_28 => (if ¬ z_28.1 = x1 then (l_30 g n 2 a0 x1 x2 x3 x4 x5 z_28.2) else ((gR z_28.2 a0 2 2).bind (fun f_33 => ((gR z_28.2 a0 2 3).bind (fun f_35 => (if isO z_28.2 f_33 0 = true then ((d_2 g f_33 x1 f_35 x3 z_28.2).bind (fun z_40 => ((gI z_40 a0 2 15).bind (fun f_44 => ((sF z_40 a0 2 15 (.int (f_44 + (1 : Int32)))).bind (fun h_46 => ((gI h_46 a0 2 16).bind (fun f_48 => (if isO h_46 a0 2 = true then ((d_31 g a0 x3 h_46).bind (fun z_53 => ((sF z_53.2 a0 2 16 (.int (f_48 &&& z_53.1))).bind (fun h_57 => (l_30 g n 2 a0 x1 x2 x3 x4 x5 h_57))))) else none))))))))) else none)))))))) else none))) else none))))) else if tag = 2 then (if isO h0 a0 2 = true then ((d_17 g a0 x3 h0).bind (fun z_62 => (l_30 g n 1 a0 x1 x2 x3 z_62.1 (x5 + (1 : Int32)) z_62.2))) else none) else if tag = 3 then (l_30 g n 0 a0 x1 x2 (x3 + (1 : Int32)) 0 0 h0) else none
set_option maxHeartbeats 4000000 in
set_option maxRecDepth 100000 in
theorem l_30_ok {X : aX} {g : Nat} {d : Nat} (hdp : 6 ≤ d) : ∀ n, (∀ (a0 : Nat) (x1 : Int32) (x2 : Int32) (x3 : Int32) (x4 : Int32) (x5 : Int32) (h0 : aH) (zz : aH), l_30 g n 0 a0 x1 x2 x3 x4 x5 h0 = some zz → aWp X d 30 26 [some (.ref a0), some (.int x1), some (.int x2), some (.int x3), none, none] [] h0 (fun w h' => w = none ∧ h' = zz)) ∧ (∀ (a0 : Nat) (x1 : Int32) (x2 : Int32) (x3 : Int32) (x4 : Int32) (x5 : Int32) (h0 : aH) (zz : aH), l_30 g n 1 a0 x1 x2 x3 x4 x5 h0 = some zz → aWp X d 30 41 [some (.ref a0), some (.int x1), some (.int x2), some (.int x3), some (.int x4), some (.int x5)] [] h0 (fun w h' => w = none ∧ h' = zz)) ∧ (∀ (a0 : Nat) (x1 : Int32) (x2 : Int32) (x3 : Int32) (x4 : Int32) (x5 : Int32) (h0 : aH) (zz : aH), l_30 g n 2 a0 x1 x2 x3 x4 x5 h0 = some zz → aWp X d 30 106 [some (.ref a0), some (.int x1), some (.int x2), some (.int x3), some (.int x4), some (.int x5)] [] h0 (fun w h' => w = none ∧ h' = zz)) ∧ (∀ (a0 : Nat) (x1 : Int32) (x2 : Int32) (x3 : Int32) (x4 : Int32) (x5 : Int32) (h0 : aH) (zz : aH), l_30 g n 3 a0 x1 x2 x3 x4 x5 h0 = some zz → aWp X d 30 119 [some (.ref a0), some (.int x1), some (.int x2), some (.int x3), some (.int x4), some (.int x5)] [] h0 (fun w h' => w = none ∧ h' = zz)) := by
  intro n
  induction n with
  | zero => exact ⟨fun _ _ _ _ _ _ _ _ hd => by simp [l_30] at hd, fun _ _ _ _ _ _ _ _ hd => by simp [l_30] at hd, fun _ _ _ _ _ _ _ _ hd => by simp [l_30] at hd, fun _ _ _ _ _ _ _ _ hd => by simp [l_30] at hd⟩
  | succ n ih =>
    refine ⟨?_, ?_, ?_, ?_⟩
    · intro a0 x1 x2 x3 x4 x5 h0 zz hd
      unfold l_30 at hd
      rw [if_pos rfl] at hd
      obtain ⟨e, rfl⟩ : ∃ e, d = e + 1 := ⟨d - 1, by omega⟩
      refine wp_s 27 [some (.ref a0), some (.int x1), some (.int x2), some (.int x3), none, none] [.int x3] h0 i_30_26 rfl ?_
      refine wp_s 28 [some (.ref a0), some (.int x1), some (.int x2), some (.int x3), none, none] [.int (4 : Int32), .int x3] h0 i_30_27 rfl ?_
      refine wp_cmp_gt 125 31 rfl rfl i_30_28 (fun c_1 => ?_) (fun c_1 => ?_)
      · rw [if_pos c_1] at hd
        refine wp_s 126 [some (.ref a0), some (.int x1), some (.int x2), some (.int x3), none, none] [.ref a0] h0 i_30_125 rfl ?_
        obtain ⟨f_2, q_3, hd⟩ := dk_bind hd
        refine hp_gI 129 rfl i_30_126 q_3 ?_
        refine wp_if_ne 137 132 rfl rfl i_30_129 (fun c_4 => ?_) (fun c_4 => ?_)
        · rw [if_pos c_4] at hd
          obtain rfl := Option.some.inj hd
          exact wp_ret i_30_137 rfl ⟨rfl, rfl⟩
        · rw [if_neg c_4] at hd
          refine wp_s 133 [some (.ref a0), some (.int x1), some (.int x2), some (.int x3), none, none] [.ref a0] h0 i_30_132 rfl ?_
          refine wp_s 134 [some (.ref a0), some (.int x1), some (.int x2), some (.int x3), none, none] [.int (0 : Int32), .ref a0] h0 i_30_133 rfl ?_
          obtain ⟨h_5, q_6, hd⟩ := dk_bind hd
          refine hp_sF 137 rfl i_30_134 q_6 ?_
          obtain rfl := Option.some.inj hd
          exact wp_ret i_30_137 rfl ⟨rfl, rfl⟩
      · rw [if_neg c_1] at hd
        refine wp_s 32 [some (.ref a0), some (.int x1), some (.int x2), some (.int x3), none, none] [.ref a0] h0 i_30_31 rfl ?_
        refine wp_s 33 [some (.ref a0), some (.int x1), some (.int x2), some (.int x3), none, none] [.int x3, .ref a0] h0 i_30_32 rfl ?_
        obtain ⟨k_7, hd⟩ := dk_if hd
        obtain ⟨fs_8, o_9⟩ := isO_of k_7
        obtain ⟨z_10, q_11, hd⟩ := dk_bind hd
        refine wp_callV 36 rfl i_30_33 (by decide) rfl (vs := [.int x3]) (rest := []) rfl rfl rfl o_9 (y := m_16) rfl (Nat.le_of_ble_eq_true rfl) (d_16_ok (d := e) (by omega) q_11) ?_
        rintro v_12 h_13 ⟨rfl, rfl⟩
        refine wp_s 38 [some (.ref a0), some (.int x1), some (.int x2), some (.int x3), some (.int z_10.1), none] [] z_10.2 i_30_36 rfl ?_
        refine wp_s 39 [some (.ref a0), some (.int x1), some (.int x2), some (.int x3), some (.int z_10.1), none] [.int (0 : Int32)] z_10.2 i_30_38 rfl ?_
        refine wp_s 41 [some (.ref a0), some (.int x1), some (.int x2), some (.int x3), some (.int z_10.1), some (.int (0 : Int32))] [] z_10.2 i_30_39 rfl ?_
        exact aWp.forget (ih.2.1 _ _ _ _ _ _ _ _ hd) (lvS (lvS (lvS (lvS (lvS (lvS lvE))))))
    · intro a0 x1 x2 x3 x4 x5 h0 zz hd
      unfold l_30 at hd
      rw [if_neg (by decide), if_pos rfl] at hd
      obtain ⟨e, rfl⟩ : ∃ e, d = e + 1 := ⟨d - 1, by omega⟩
      refine wp_s 43 [some (.ref a0), some (.int x1), some (.int x2), some (.int x3), some (.int x4), some (.int x5)] [.int x4] h0 i_30_41 rfl ?_
      refine wp_if_eq 119 46 rfl rfl i_30_43 (fun c_14 => ?_) (fun c_14 => ?_)
      · rw [if_pos c_14] at hd
        exact aWp.forget (ih.2.2.2 _ _ _ _ _ _ _ _ hd) (lvS (lvS (lvS (lvS (lvS (lvS lvE))))))
      · rw [if_neg c_14] at hd
        refine wp_s 48 [some (.ref a0), some (.int x1), some (.int x2), some (.int x3), some (.int x4), some (.int x5)] [.int x5] h0 i_30_46 rfl ?_
        refine wp_s 50 [some (.ref a0), some (.int x1), some (.int x2), some (.int x3), some (.int x4), some (.int x5)] [.int (1000000 : Int32), .int x5] h0 i_30_48 rfl ?_
        refine wp_cmp_ge 119 53 rfl rfl i_30_50 (fun c_15 => ?_) (fun c_15 => ?_)
        · rw [if_pos c_15] at hd
          exact aWp.forget (ih.2.2.2 _ _ _ _ _ _ _ _ hd) (lvS (lvS (lvS (lvS (lvS (lvS lvE))))))
        · rw [if_neg c_15] at hd
          refine wp_s 54 [some (.ref a0), some (.int x1), some (.int x2), some (.int x3), some (.int x4), some (.int x5)] [.ref a0] h0 i_30_53 rfl ?_
          obtain ⟨f_16, q_17, hd⟩ := dk_bind hd
          refine hp_gR 57 rfl i_30_54 q_17 ?_
          refine wp_s 58 [some (.ref a0), some (.int x1), some (.int x2), some (.int x3), some (.int x4), some (.int x5)] [.ref a0, .ref f_16] h0 i_30_57 rfl ?_
          refine wp_s 59 [some (.ref a0), some (.int x1), some (.int x2), some (.int x3), some (.int x4), some (.int x5)] [.int x3, .ref a0, .ref f_16] h0 i_30_58 rfl ?_
          obtain ⟨k_18, hd⟩ := dk_if hd
          obtain ⟨fs_19, o_20⟩ := isO_of k_18
          obtain ⟨z_21, q_22, hd⟩ := dk_bind hd
          refine wp_callV 62 rfl i_30_59 (by decide) rfl (vs := [.int x3]) (rest := [.ref f_16]) rfl rfl rfl o_20 (y := m_20) rfl (Nat.le_of_ble_eq_true rfl) (d_20_ok (d := e) (by omega) q_22) ?_
          rintro v_23 h_24 ⟨rfl, rfl⟩
          obtain ⟨k_25, hd⟩ := dk_if hd
          obtain ⟨fs_26, o_27⟩ := isO_of k_25
          obtain ⟨z_28, q_29, hd⟩ := dk_bind hd
          refine wp_callV 65 rfl i_30_62 (by decide) rfl (vs := [.int z_21.1]) (rest := []) rfl rfl rfl o_27 (y := m_95) rfl (Nat.le_of_ble_eq_true rfl) (d_95_ok (d := e) (by omega) q_29) ?_
          rintro v_30 h_31 ⟨rfl, rfl⟩
          refine wp_s 66 [some (.ref a0), some (.int x1), some (.int x2), some (.int x3), some (.int x4), some (.int x5)] [.int x1, .int z_28.1] z_28.2 i_30_65 rfl ?_
          refine wp_cmp_ne 106 69 rfl rfl i_30_66 (fun c_32 => ?_) (fun c_32 => ?_)
          · rw [if_pos c_32] at hd
            exact aWp.forget (ih.2.2.1 _ _ _ _ _ _ _ _ hd) (lvS (lvS (lvS (lvS (lvS (lvS lvE))))))
          · rw [if_neg c_32] at hd
            refine wp_s 70 [some (.ref a0), some (.int x1), some (.int x2), some (.int x3), some (.int x4), some (.int x5)] [.ref a0] z_28.2 i_30_69 rfl ?_
            obtain ⟨f_33, q_34, hd⟩ := dk_bind hd
            refine hp_gR 73 rfl i_30_70 q_34 ?_
            refine wp_s 74 [some (.ref a0), some (.int x1), some (.int x2), some (.int x3), some (.int x4), some (.int x5)] [.int x1, .ref f_33] z_28.2 i_30_73 rfl ?_
            refine wp_s 75 [some (.ref a0), some (.int x1), some (.int x2), some (.int x3), some (.int x4), some (.int x5)] [.ref a0, .int x1, .ref f_33] z_28.2 i_30_74 rfl ?_
            obtain ⟨f_35, q_36, hd⟩ := dk_bind hd
            refine hp_gR 78 rfl i_30_75 q_36 ?_
            refine wp_s 79 [some (.ref a0), some (.int x1), some (.int x2), some (.int x3), some (.int x4), some (.int x5)] [.int x3, .ref f_35, .int x1, .ref f_33] z_28.2 i_30_78 rfl ?_
            obtain ⟨k_37, hd⟩ := dk_if hd
            obtain ⟨fs_38, o_39⟩ := isO_of k_37
            obtain ⟨z_40, q_41, hd⟩ := dk_bind hd
            refine wp_callV 82 rfl i_30_79 (by decide) rfl (vs := [.int x1, .ref f_35, .int x3]) (rest := []) rfl rfl rfl o_39 (y := m_2) rfl (Nat.le_of_ble_eq_true rfl) (d_2_ok (d := e) (by omega) q_41) ?_
            rintro v_42 h_43 ⟨rfl, hz⟩
            have hz := hz.symm
            subst hz
            refine wp_s 83 [some (.ref a0), some (.int x1), some (.int x2), some (.int x3), some (.int x4), some (.int x5)] [.ref a0] z_40 i_30_82 rfl ?_
            refine wp_s 84 [some (.ref a0), some (.int x1), some (.int x2), some (.int x3), some (.int x4), some (.int x5)] [.ref a0, .ref a0] z_40 i_30_83 rfl ?_
            obtain ⟨f_44, q_45, hd⟩ := dk_bind hd
            refine hp_gI 87 rfl i_30_84 q_45 ?_
            refine wp_s 88 [some (.ref a0), some (.int x1), some (.int x2), some (.int x3), some (.int x4), some (.int x5)] [.int (1 : Int32), .int f_44, .ref a0] z_40 i_30_87 rfl ?_
            refine wp_s 89 [some (.ref a0), some (.int x1), some (.int x2), some (.int x3), some (.int x4), some (.int x5)] [.int (f_44 + (1 : Int32)), .ref a0] z_40 i_30_88 rfl ?_
            obtain ⟨h_46, q_47, hd⟩ := dk_bind hd
            refine hp_sF 92 rfl i_30_89 q_47 ?_
            refine wp_s 93 [some (.ref a0), some (.int x1), some (.int x2), some (.int x3), some (.int x4), some (.int x5)] [.ref a0] h_46 i_30_92 rfl ?_
            refine wp_s 94 [some (.ref a0), some (.int x1), some (.int x2), some (.int x3), some (.int x4), some (.int x5)] [.ref a0, .ref a0] h_46 i_30_93 rfl ?_
            obtain ⟨f_48, q_49, hd⟩ := dk_bind hd
            refine hp_gI 97 rfl i_30_94 q_49 ?_
            refine wp_s 98 [some (.ref a0), some (.int x1), some (.int x2), some (.int x3), some (.int x4), some (.int x5)] [.ref a0, .int f_48, .ref a0] h_46 i_30_97 rfl ?_
            refine wp_s 99 [some (.ref a0), some (.int x1), some (.int x2), some (.int x3), some (.int x4), some (.int x5)] [.int x3, .ref a0, .int f_48, .ref a0] h_46 i_30_98 rfl ?_
            obtain ⟨k_50, hd⟩ := dk_if hd
            obtain ⟨fs_51, o_52⟩ := isO_of k_50
            obtain ⟨z_53, q_54, hd⟩ := dk_bind hd
            refine wp_callV 102 rfl i_30_99 (by decide) rfl (vs := [.int x3]) (rest := [.int f_48, .ref a0]) rfl rfl rfl o_52 (y := m_31) rfl (Nat.le_of_ble_eq_true rfl) (d_31_ok (d := e) (by omega) q_54) ?_
            rintro v_55 h_56 ⟨rfl, rfl⟩
            refine wp_s 103 [some (.ref a0), some (.int x1), some (.int x2), some (.int x3), some (.int x4), some (.int x5)] [.int (f_48 &&& z_53.1), .ref a0] z_53.2 i_30_102 rfl ?_
            obtain ⟨h_57, q_58, hd⟩ := dk_bind hd
            refine hp_sF 106 rfl i_30_103 q_58 ?_
            exact aWp.forget (ih.2.2.1 _ _ _ _ _ _ _ _ hd) (lvS (lvS (lvS (lvS (lvS (lvS lvE))))))
    · intro a0 x1 x2 x3 x4 x5 h0 zz hd
      unfold l_30 at hd
      rw [if_neg (by decide), if_neg (by decide), if_pos rfl] at hd
      obtain ⟨e, rfl⟩ : ∃ e, d = e + 1 := ⟨d - 1, by omega⟩
      refine wp_s 107 [some (.ref a0), some (.int x1), some (.int x2), some (.int x3), some (.int x4), some (.int x5)] [.ref a0] h0 i_30_106 rfl ?_
      refine wp_s 108 [some (.ref a0), some (.int x1), some (.int x2), some (.int x3), some (.int x4), some (.int x5)] [.int x3, .ref a0] h0 i_30_107 rfl ?_
      obtain ⟨k_59, hd⟩ := dk_if hd
      obtain ⟨fs_60, o_61⟩ := isO_of k_59
      obtain ⟨z_62, q_63, hd⟩ := dk_bind hd
      refine wp_callV 111 rfl i_30_108 (by decide) rfl (vs := [.int x3]) (rest := []) rfl rfl rfl o_61 (y := m_17) rfl (Nat.le_of_ble_eq_true rfl) (d_17_ok (d := e) (by omega) q_63) ?_
      rintro v_64 h_65 ⟨rfl, rfl⟩
      refine wp_s 113 [some (.ref a0), some (.int x1), some (.int x2), some (.int x3), some (.int z_62.1), some (.int x5)] [] z_62.2 i_30_111 rfl ?_
      refine wp_s 116 [some (.ref a0), some (.int x1), some (.int x2), some (.int x3), some (.int z_62.1), some (.int (x5 + (1 : Int32)))] [] z_62.2 i_30_113 rfl ?_
      refine wp_s 41 [some (.ref a0), some (.int x1), some (.int x2), some (.int x3), some (.int z_62.1), some (.int (x5 + (1 : Int32)))] [] z_62.2 i_30_116 rfl ?_
      exact aWp.forget (ih.2.1 _ _ _ _ _ _ _ _ hd) (lvS (lvS (lvS (lvS (lvS (lvS lvE))))))
    · intro a0 x1 x2 x3 x4 x5 h0 zz hd
      unfold l_30 at hd
      rw [if_neg (by decide), if_neg (by decide), if_neg (by decide), if_pos rfl] at hd
      obtain ⟨e, rfl⟩ : ∃ e, d = e + 1 := ⟨d - 1, by omega⟩
      refine wp_s 122 [some (.ref a0), some (.int x1), some (.int x2), some (.int (x3 + (1 : Int32))), some (.int x4), some (.int x5)] [] h0 i_30_119 rfl ?_
      refine wp_s 26 [some (.ref a0), some (.int x1), some (.int x2), some (.int (x3 + (1 : Int32))), some (.int x4), some (.int x5)] [] h0 i_30_122 rfl ?_
      exact aWp.forget (ih.1 _ _ _ _ _ _ _ _ hd) (lvS (lvS (lvS (lvS (lvN (lvN lvE))))))
def d_30 (g : Nat) (a0 : Nat) (x1 : Int32) (x2 : Int32) (h0 : aH) : Option (aH) := ((gR h0 a0 2 2).bind (fun f_1001 => (if isO h0 f_1001 0 = true then ((d_1 g f_1001 h0).bind (fun z_1006 => (if isO z_1006 a0 2 = true then ((d_12 g a0 x2 z_1006).bind (fun z_1013 => ((sF z_1013 a0 2 15 (.int (0 : Int32))).bind (fun h_1017 => ((sF h_1017 a0 2 16 (.int (255 : Int32))).bind (fun h_1019 => (l_30 g g 0 a0 x1 x2 (1 : Int32) 0 0 h_1019))))))) else none))) else none)))
set_option maxHeartbeats 4000000 in
set_option maxRecDepth 100000 in
theorem d_30_ok {X : aX} {g : Nat} {a0 : Nat} {x1 : Int32} {x2 : Int32} {h0 : aH} {zz : aH} {d : Nat} (hdp : 6 ≤ d) (hd : d_30 g a0 x1 x2 h0 = some zz) : aWp X d 30 0 (aEntL [.ref a0, .int x1, .int x2] 6) [] h0 (fun w h' => w = none ∧ h' = zz) := by
  unfold d_30 at hd
  refine wp_lv (l2 := [some (.ref a0), some (.int x1), some (.int x2), none, none, none]) rfl ?_
  obtain ⟨e, rfl⟩ : ∃ e, d = e + 1 := ⟨d - 1, by omega⟩
  refine wp_s 1 [some (.ref a0), some (.int x1), some (.int x2), none, none, none] [.ref a0] h0 i_30_0 rfl ?_
  obtain ⟨f_1001, q_1002, hd⟩ := dk_bind hd
  refine hp_gR 4 rfl i_30_1 q_1002 ?_
  obtain ⟨k_1003, hd⟩ := dk_if hd
  obtain ⟨fs_1004, o_1005⟩ := isO_of k_1003
  obtain ⟨z_1006, q_1007, hd⟩ := dk_bind hd
  refine wp_callV 7 rfl i_30_4 (by decide) rfl (vs := []) (rest := []) rfl rfl rfl o_1005 (y := m_1) rfl (Nat.le_of_ble_eq_true rfl) (d_1_ok (d := e) (by omega) q_1007) ?_
  rintro v_1008 h_1009 ⟨rfl, hz⟩
  have hz := hz.symm
  subst hz
  refine wp_s 8 [some (.ref a0), some (.int x1), some (.int x2), none, none, none] [.ref a0] z_1006 i_30_7 rfl ?_
  refine wp_s 9 [some (.ref a0), some (.int x1), some (.int x2), none, none, none] [.int x2, .ref a0] z_1006 i_30_8 rfl ?_
  obtain ⟨k_1010, hd⟩ := dk_if hd
  obtain ⟨fs_1011, o_1012⟩ := isO_of k_1010
  obtain ⟨z_1013, q_1014, hd⟩ := dk_bind hd
  refine wp_callV 12 rfl i_30_9 (by decide) rfl (vs := [.int x2]) (rest := []) rfl rfl rfl o_1012 (y := m_12) rfl (Nat.le_of_ble_eq_true rfl) (d_12_ok (d := e) (by omega) q_1014) ?_
  rintro v_1015 h_1016 ⟨rfl, hz⟩
  have hz := hz.symm
  subst hz
  refine wp_s 13 [some (.ref a0), some (.int x1), some (.int x2), none, none, none] [.ref a0] z_1013 i_30_12 rfl ?_
  refine wp_s 14 [some (.ref a0), some (.int x1), some (.int x2), none, none, none] [.int (0 : Int32), .ref a0] z_1013 i_30_13 rfl ?_
  obtain ⟨h_1017, q_1018, hd⟩ := dk_bind hd
  refine hp_sF 17 rfl i_30_14 q_1018 ?_
  refine wp_s 18 [some (.ref a0), some (.int x1), some (.int x2), none, none, none] [.ref a0] h_1017 i_30_17 rfl ?_
  refine wp_s 21 [some (.ref a0), some (.int x1), some (.int x2), none, none, none] [.int (255 : Int32), .ref a0] h_1017 i_30_18 rfl ?_
  obtain ⟨h_1019, q_1020, hd⟩ := dk_bind hd
  refine hp_sF 24 rfl i_30_21 q_1020 ?_
  refine wp_s 25 [some (.ref a0), some (.int x1), some (.int x2), none, none, none] [.int (1 : Int32)] h_1019 i_30_24 rfl ?_
  refine wp_s 26 [some (.ref a0), some (.int x1), some (.int x2), some (.int (1 : Int32)), none, none] [] h_1019 i_30_25 rfl ?_
  exact aWp.forget ((l_30_ok hdp g).1 _ _ _ _ _ _ _ _ hd) (lvS (lvS (lvS (lvS (lvN (lvN lvE))))))
def l_33 (g n tag : Nat) (a0 : Nat) (x1 : Int32) (x2 : Int32) (h0 : aH) : Option (Int32 × aH) := match n with
  | 0 => none
  | n + 1 => if tag = 0 then ((gR h0 a0 2 0).bind (fun f_1 => ((gI h0 f_1 10 8).bind (fun f_3 => (if f_3 ≤ x2 then some ((1 : Int32), h0) else ((gR h0 a0 2 1).bind (fun f_6 => ((gR h0 a0 2 0).bind (fun f_8 => ((gR h0 f_8 10 1).bind (fun f_10 => ((gR h0 a0 2 0).bind (fun f_12 => ((gR h0 f_12 10 4).bind (fun f_14 => ((gA h0 f_14 x2).bind (fun f_16 => ((gR h0 a0 2 0).bind (fun f_18 => ((gR h0 f_18 10 5).bind (fun f_20 => ((gA h0 f_20 x2).bind (fun f_22 => ((gR h0 a0 2 0).bind (fun f_24 => ((gR h0 f_24 10 6).bind (fun f_26 => ((gA h0 f_26 x2).bind (fun f_28 => (if isO h0 f_6 9 = true then ((d_89 g f_6 f_10 x1 f_16 f_22 f_28 h0).bind (fun z_33 => ((gR z_33.2 a0 2 0).bind (fun f_37 => ((gR z_33.2 f_37 10 7).bind (fun f_39 => ((gA z_33.2 f_39 x2).bind (fun f_41 => (if z_33.1 = f_41 then (l_33 g n 0 a0 x1 (x2 + (1 : Int32)) z_33.2) else some ((0 : Int32), z_33.2)))))))))) else none)))))))))))))))))))))))))))))) else none
set_option maxHeartbeats 4000000 in
set_option maxRecDepth 100000 in
theorem l_33_ok {X : aX} {g : Nat} {d : Nat} (hdp : 4 ≤ d) : ∀ n, (∀ (a0 : Nat) (x1 : Int32) (x2 : Int32) (h0 : aH) (zz : Int32 × aH), l_33 g n 0 a0 x1 x2 h0 = some zz → aWp X d 33 2 [some (.ref a0), some (.int x1), some (.int x2), none] [] h0 (fun w h' => w = some (.int zz.1) ∧ h' = zz.2)) := by
  intro n
  induction n with
  | zero => exact fun _ _ _ _ _ hd => by simp [l_33] at hd
  | succ n ih =>
    intro a0 x1 x2 h0 zz hd
    unfold l_33 at hd
    rw [if_pos rfl] at hd
    obtain ⟨e, rfl⟩ : ∃ e, d = e + 1 := ⟨d - 1, by omega⟩
    refine wp_s 3 [some (.ref a0), some (.int x1), some (.int x2), none] [.int x2] h0 i_33_2 rfl ?_
    refine wp_s 4 [some (.ref a0), some (.int x1), some (.int x2), none] [.ref a0, .int x2] h0 i_33_3 rfl ?_
    obtain ⟨f_1, q_2, hd⟩ := dk_bind hd
    refine hp_gR 7 rfl i_33_4 q_2 ?_
    obtain ⟨f_3, q_4, hd⟩ := dk_bind hd
    refine hp_gI 10 rfl i_33_7 q_4 ?_
    refine wp_cmp_ge 77 13 rfl rfl i_33_10 (fun c_5 => ?_) (fun c_5 => ?_)
    · rw [if_pos c_5] at hd
      refine wp_s 78 [some (.ref a0), some (.int x1), some (.int x2), none] [.int (1 : Int32)] h0 i_33_77 rfl ?_
      obtain rfl := Option.some.inj hd
      exact wp_iretZ (z := 0) i_33_78 (by decide) ⟨rfl, rfl⟩
    · rw [if_neg c_5] at hd
      refine wp_s 14 [some (.ref a0), some (.int x1), some (.int x2), none] [.ref a0] h0 i_33_13 rfl ?_
      obtain ⟨f_6, q_7, hd⟩ := dk_bind hd
      refine hp_gR 17 rfl i_33_14 q_7 ?_
      refine wp_s 18 [some (.ref a0), some (.int x1), some (.int x2), none] [.ref a0, .ref f_6] h0 i_33_17 rfl ?_
      obtain ⟨f_8, q_9, hd⟩ := dk_bind hd
      refine hp_gR 21 rfl i_33_18 q_9 ?_
      obtain ⟨f_10, q_11, hd⟩ := dk_bind hd
      refine hp_gR 24 rfl i_33_21 q_11 ?_
      refine wp_s 25 [some (.ref a0), some (.int x1), some (.int x2), none] [.int x1, .ref f_10, .ref f_6] h0 i_33_24 rfl ?_
      refine wp_s 26 [some (.ref a0), some (.int x1), some (.int x2), none] [.ref a0, .int x1, .ref f_10, .ref f_6] h0 i_33_25 rfl ?_
      obtain ⟨f_12, q_13, hd⟩ := dk_bind hd
      refine hp_gR 29 rfl i_33_26 q_13 ?_
      obtain ⟨f_14, q_15, hd⟩ := dk_bind hd
      refine hp_gR 32 rfl i_33_29 q_15 ?_
      refine wp_s 33 [some (.ref a0), some (.int x1), some (.int x2), none] [.int x2, .ref f_14, .int x1, .ref f_10, .ref f_6] h0 i_33_32 rfl ?_
      obtain ⟨f_16, q_17, hd⟩ := dk_bind hd
      refine hp_gA 34 rfl i_33_33 q_17 ?_
      refine wp_s 35 [some (.ref a0), some (.int x1), some (.int x2), none] [.ref a0, .int f_16, .int x1, .ref f_10, .ref f_6] h0 i_33_34 rfl ?_
      obtain ⟨f_18, q_19, hd⟩ := dk_bind hd
      refine hp_gR 38 rfl i_33_35 q_19 ?_
      obtain ⟨f_20, q_21, hd⟩ := dk_bind hd
      refine hp_gR 41 rfl i_33_38 q_21 ?_
      refine wp_s 42 [some (.ref a0), some (.int x1), some (.int x2), none] [.int x2, .ref f_20, .int f_16, .int x1, .ref f_10, .ref f_6] h0 i_33_41 rfl ?_
      obtain ⟨f_22, q_23, hd⟩ := dk_bind hd
      refine hp_gA 43 rfl i_33_42 q_23 ?_
      refine wp_s 44 [some (.ref a0), some (.int x1), some (.int x2), none] [.ref a0, .int f_22, .int f_16, .int x1, .ref f_10, .ref f_6] h0 i_33_43 rfl ?_
      obtain ⟨f_24, q_25, hd⟩ := dk_bind hd
      refine hp_gR 47 rfl i_33_44 q_25 ?_
      obtain ⟨f_26, q_27, hd⟩ := dk_bind hd
      refine hp_gR 50 rfl i_33_47 q_27 ?_
      refine wp_s 51 [some (.ref a0), some (.int x1), some (.int x2), none] [.int x2, .ref f_26, .int f_22, .int f_16, .int x1, .ref f_10, .ref f_6] h0 i_33_50 rfl ?_
      obtain ⟨f_28, q_29, hd⟩ := dk_bind hd
      refine hp_gA 52 rfl i_33_51 q_29 ?_
      obtain ⟨k_30, hd⟩ := dk_if hd
      obtain ⟨fs_31, o_32⟩ := isO_of k_30
      obtain ⟨z_33, q_34, hd⟩ := dk_bind hd
      refine wp_callV 55 rfl i_33_52 (by decide) rfl (vs := [.ref f_10, .int x1, .int f_16, .int f_22, .int f_28]) (rest := []) rfl rfl rfl o_32 (y := m_89) rfl (Nat.le_of_ble_eq_true rfl) (d_89_ok (d := e) (by omega) q_34) ?_
      rintro v_35 h_36 ⟨rfl, rfl⟩
      refine wp_s 56 [some (.ref a0), some (.int x1), some (.int x2), some (.int z_33.1)] [] z_33.2 i_33_55 rfl ?_
      refine wp_s 57 [some (.ref a0), some (.int x1), some (.int x2), some (.int z_33.1)] [.int z_33.1] z_33.2 i_33_56 rfl ?_
      refine wp_s 58 [some (.ref a0), some (.int x1), some (.int x2), some (.int z_33.1)] [.ref a0, .int z_33.1] z_33.2 i_33_57 rfl ?_
      obtain ⟨f_37, q_38, hd⟩ := dk_bind hd
      refine hp_gR 61 rfl i_33_58 q_38 ?_
      obtain ⟨f_39, q_40, hd⟩ := dk_bind hd
      refine hp_gR 64 rfl i_33_61 q_40 ?_
      refine wp_s 65 [some (.ref a0), some (.int x1), some (.int x2), some (.int z_33.1)] [.int x2, .ref f_39, .int z_33.1] z_33.2 i_33_64 rfl ?_
      obtain ⟨f_41, q_42, hd⟩ := dk_bind hd
      refine hp_gA 66 rfl i_33_65 q_42 ?_
      refine wp_cmp_eq 71 69 rfl rfl i_33_66 (fun c_43 => ?_) (fun c_43 => ?_)
      · rw [if_pos c_43] at hd
        refine wp_s 74 [some (.ref a0), some (.int x1), some (.int (x2 + (1 : Int32))), some (.int z_33.1)] [] z_33.2 i_33_71 rfl ?_
        refine wp_s 2 [some (.ref a0), some (.int x1), some (.int (x2 + (1 : Int32))), some (.int z_33.1)] [] z_33.2 i_33_74 rfl ?_
        exact aWp.forget (ih _ _ _ _ _ hd) (lvS (lvS (lvS (lvN lvE))))
      · rw [if_neg c_43] at hd
        refine wp_s 70 [some (.ref a0), some (.int x1), some (.int x2), some (.int z_33.1)] [.int (0 : Int32)] z_33.2 i_33_69 rfl ?_
        obtain rfl := Option.some.inj hd
        exact wp_iretZ (z := 0) i_33_70 (by decide) ⟨rfl, rfl⟩
def d_33 (g : Nat) (a0 : Nat) (x1 : Int32) (h0 : aH) : Option (Int32 × aH) := (l_33 g g 0 a0 x1 (0 : Int32) h0)
set_option maxHeartbeats 4000000 in
set_option maxRecDepth 100000 in
theorem d_33_ok {X : aX} {g : Nat} {a0 : Nat} {x1 : Int32} {h0 : aH} {zz : Int32 × aH} {d : Nat} (hdp : 4 ≤ d) (hd : d_33 g a0 x1 h0 = some zz) : aWp X d 33 0 (aEntL [.ref a0, .int x1] 4) [] h0 (fun w h' => w = some (.int zz.1) ∧ h' = zz.2) := by
  unfold d_33 at hd
  refine wp_lv (l2 := [some (.ref a0), some (.int x1), none, none]) rfl ?_
  obtain ⟨e, rfl⟩ : ∃ e, d = e + 1 := ⟨d - 1, by omega⟩
  refine wp_s 1 [some (.ref a0), some (.int x1), none, none] [.int (0 : Int32)] h0 i_33_0 rfl ?_
  refine wp_s 2 [some (.ref a0), some (.int x1), some (.int (0 : Int32)), none] [] h0 i_33_1 rfl ?_
  exact aWp.forget ((l_33_ok hdp g) _ _ _ _ _ hd) (lvS (lvS (lvS (lvN lvE))))
def l_32 (g n tag : Nat) (a0 : Nat) (x1 : Int32) (h0 : aH) : Option (aH) := match n with
  | 0 => none
  | n + 1 => if tag = 0 then ((gR h0 a0 2 1).bind (fun f_1 => ((gI h0 f_1 9 2).bind (fun f_3 => (if f_3 ≤ x1 then some h0 else (if isO h0 a0 2 = true then ((d_33 g a0 x1 h0).bind (fun z_9 => (if z_9.1 = 0 then (l_32 g n 1 a0 x1 z_9.2) else ((gR z_9.2 a0 2 8).bind (fun f_14 => ((gI z_9.2 a0 2 17).bind (fun f_16 => ((sA z_9.2 f_14 f_16 x1).bind (fun h_18 => ((gI h_18 a0 2 17).bind (fun f_20 => ((sF h_18 a0 2 17 (.int (f_20 + (1 : Int32)))).bind (fun h_22 => (l_32 g n 1 a0 x1 h_22)))))))))))))) else none)))))) else if tag = 1 then (l_32 g n 0 a0 (x1 + (1 : Int32)) h0) else none
set_option maxHeartbeats 4000000 in
set_option maxRecDepth 100000 in
theorem l_32_ok {X : aX} {g : Nat} {d : Nat} (hdp : 5 ≤ d) : ∀ n, (∀ (a0 : Nat) (x1 : Int32) (h0 : aH) (zz : aH), l_32 g n 0 a0 x1 h0 = some zz → aWp X d 32 7 [some (.ref a0), some (.int x1)] [] h0 (fun w h' => w = none ∧ h' = zz)) ∧ (∀ (a0 : Nat) (x1 : Int32) (h0 : aH) (zz : aH), l_32 g n 1 a0 x1 h0 = some zz → aWp X d 32 46 [some (.ref a0), some (.int x1)] [] h0 (fun w h' => w = none ∧ h' = zz)) := by
  intro n
  induction n with
  | zero => exact ⟨fun _ _ _ _ hd => by simp [l_32] at hd, fun _ _ _ _ hd => by simp [l_32] at hd⟩
  | succ n ih =>
    refine ⟨?_, ?_⟩
    · intro a0 x1 h0 zz hd
      unfold l_32 at hd
      rw [if_pos rfl] at hd
      obtain ⟨e, rfl⟩ : ∃ e, d = e + 1 := ⟨d - 1, by omega⟩
      refine wp_s 8 [some (.ref a0), some (.int x1)] [.int x1] h0 i_32_7 rfl ?_
      refine wp_s 9 [some (.ref a0), some (.int x1)] [.ref a0, .int x1] h0 i_32_8 rfl ?_
      obtain ⟨f_1, q_2, hd⟩ := dk_bind hd
      refine hp_gR 12 rfl i_32_9 q_2 ?_
      obtain ⟨f_3, q_4, hd⟩ := dk_bind hd
      refine hp_gI 15 rfl i_32_12 q_4 ?_
      refine wp_cmp_ge 52 18 rfl rfl i_32_15 (fun c_5 => ?_) (fun c_5 => ?_)
      · rw [if_pos c_5] at hd
        obtain rfl := Option.some.inj hd
        exact wp_ret i_32_52 rfl ⟨rfl, rfl⟩
      · rw [if_neg c_5] at hd
        refine wp_s 19 [some (.ref a0), some (.int x1)] [.ref a0] h0 i_32_18 rfl ?_
        refine wp_s 20 [some (.ref a0), some (.int x1)] [.int x1, .ref a0] h0 i_32_19 rfl ?_
        obtain ⟨k_6, hd⟩ := dk_if hd
        obtain ⟨fs_7, o_8⟩ := isO_of k_6
        obtain ⟨z_9, q_10, hd⟩ := dk_bind hd
        refine wp_callV 23 rfl i_32_20 (by decide) rfl (vs := [.int x1]) (rest := []) rfl rfl rfl o_8 (y := m_33) rfl (Nat.le_of_ble_eq_true rfl) (d_33_ok (d := e) (by omega) q_10) ?_
        rintro v_11 h_12 ⟨rfl, rfl⟩
        refine wp_if_eq 46 26 rfl rfl i_32_23 (fun c_13 => ?_) (fun c_13 => ?_)
        · rw [if_pos c_13] at hd
          exact aWp.forget (ih.2 _ _ _ _ hd) (lvS (lvS lvE))
        · rw [if_neg c_13] at hd
          refine wp_s 27 [some (.ref a0), some (.int x1)] [.ref a0] z_9.2 i_32_26 rfl ?_
          obtain ⟨f_14, q_15, hd⟩ := dk_bind hd
          refine hp_gR 30 rfl i_32_27 q_15 ?_
          refine wp_s 31 [some (.ref a0), some (.int x1)] [.ref a0, .ref f_14] z_9.2 i_32_30 rfl ?_
          obtain ⟨f_16, q_17, hd⟩ := dk_bind hd
          refine hp_gI 34 rfl i_32_31 q_17 ?_
          refine wp_s 35 [some (.ref a0), some (.int x1)] [.int x1, .int f_16, .ref f_14] z_9.2 i_32_34 rfl ?_
          obtain ⟨h_18, q_19, hd⟩ := dk_bind hd
          refine hp_sA 36 rfl i_32_35 q_19 ?_
          refine wp_s 37 [some (.ref a0), some (.int x1)] [.ref a0] h_18 i_32_36 rfl ?_
          refine wp_s 38 [some (.ref a0), some (.int x1)] [.ref a0, .ref a0] h_18 i_32_37 rfl ?_
          obtain ⟨f_20, q_21, hd⟩ := dk_bind hd
          refine hp_gI 41 rfl i_32_38 q_21 ?_
          refine wp_s 42 [some (.ref a0), some (.int x1)] [.int (1 : Int32), .int f_20, .ref a0] h_18 i_32_41 rfl ?_
          refine wp_s 43 [some (.ref a0), some (.int x1)] [.int (f_20 + (1 : Int32)), .ref a0] h_18 i_32_42 rfl ?_
          obtain ⟨h_22, q_23, hd⟩ := dk_bind hd
          refine hp_sF 46 rfl i_32_43 q_23 ?_
          exact aWp.forget (ih.2 _ _ _ _ hd) (lvS (lvS lvE))
    · intro a0 x1 h0 zz hd
      unfold l_32 at hd
      rw [if_neg (by decide), if_pos rfl] at hd
      obtain ⟨e, rfl⟩ : ∃ e, d = e + 1 := ⟨d - 1, by omega⟩
      refine wp_s 49 [some (.ref a0), some (.int (x1 + (1 : Int32)))] [] h0 i_32_46 rfl ?_
      refine wp_s 7 [some (.ref a0), some (.int (x1 + (1 : Int32)))] [] h0 i_32_49 rfl ?_
      exact aWp.forget (ih.1 _ _ _ _ hd) (lvS (lvS lvE))
def d_32 (g : Nat) (a0 : Nat) (h0 : aH) : Option (aH) := ((sF h0 a0 2 17 (.int (0 : Int32))).bind (fun h_1001 => (l_32 g g 0 a0 (-1 : Int32) h_1001)))
set_option maxHeartbeats 4000000 in
set_option maxRecDepth 100000 in
theorem d_32_ok {X : aX} {g : Nat} {a0 : Nat} {h0 : aH} {zz : aH} {d : Nat} (hdp : 5 ≤ d) (hd : d_32 g a0 h0 = some zz) : aWp X d 32 0 (aEntL [.ref a0] 2) [] h0 (fun w h' => w = none ∧ h' = zz) := by
  unfold d_32 at hd
  refine wp_lv (l2 := [some (.ref a0), none]) rfl ?_
  obtain ⟨e, rfl⟩ : ∃ e, d = e + 1 := ⟨d - 1, by omega⟩
  refine wp_s 1 [some (.ref a0), none] [.ref a0] h0 i_32_0 rfl ?_
  refine wp_s 2 [some (.ref a0), none] [.int (0 : Int32), .ref a0] h0 i_32_1 rfl ?_
  obtain ⟨h_1001, q_1002, hd⟩ := dk_bind hd
  refine hp_sF 5 rfl i_32_2 q_1002 ?_
  refine wp_s 6 [some (.ref a0), none] [.int (-1 : Int32)] h_1001 i_32_5 rfl ?_
  refine wp_s 7 [some (.ref a0), some (.int (-1 : Int32))] [] h_1001 i_32_6 rfl ?_
  exact aWp.forget ((l_32_ok hdp g).1 _ _ _ _ hd) (lvS (lvS lvE))
def l_35 (g n tag : Nat) (a0 : Nat) (x1 : Int32) (x2 : Int32) (x3 : Int32) (x4 : Int32) (h0 : aH) : Option (Int32 × aH) := match n with
  | 0 => none
  | n + 1 => if tag = 0 then ((gI h0 a0 2 17).bind (fun f_1 => (if f_1 ≤ x2 then some (x1, h0) else (l_35 g n 1 a0 x1 x2 (0 : Int32) (0 : Int32) h0)))) else if tag = 1 then ((gI h0 a0 2 17).bind (fun f_4 => (if f_4 ≤ x4 then (l_35 g n 0 a0 (if x1 < x3 then x3 else x1) (x2 + (1 : Int32)) 0 0 h0) else ((gR h0 a0 2 9).bind (fun f_7 => ((gA h0 f_7 x4).bind (fun f_9 => ((gR h0 a0 2 9).bind (fun f_11 => ((gA h0 f_11 x2).bind (fun f_13 => (if ¬ f_9 = f_13 then (l_35 g n 2 a0 x1 x2 x3 x4 h0) else (l_35 g n 2 a0 x1 x2 (x3 + (1 : Int32)) x4 h0))))))))))))) else if tag = 2 then (l_35 g n 1 a0 x1 x2 x3 (x4 + (1 : Int32)) h0) else none
set_option maxHeartbeats 4000000 in
set_option maxRecDepth 100000 in
theorem l_35_ok {X : aX} {g : Nat} {d : Nat} (hdp : 0 ≤ d) : ∀ n, (∀ (a0 : Nat) (x1 : Int32) (x2 : Int32) (x3 : Int32) (x4 : Int32) (h0 : aH) (zz : Int32 × aH), l_35 g n 0 a0 x1 x2 x3 x4 h0 = some zz → aWp X d 35 4 [some (.ref a0), some (.int x1), some (.int x2), none, none] [] h0 (fun w h' => w = some (.int zz.1) ∧ h' = zz.2)) ∧ (∀ (a0 : Nat) (x1 : Int32) (x2 : Int32) (x3 : Int32) (x4 : Int32) (h0 : aH) (zz : Int32 × aH), l_35 g n 1 a0 x1 x2 x3 x4 h0 = some zz → aWp X d 35 17 [some (.ref a0), some (.int x1), some (.int x2), some (.int x3), some (.int x4)] [] h0 (fun w h' => w = some (.int zz.1) ∧ h' = zz.2)) ∧ (∀ (a0 : Nat) (x1 : Int32) (x2 : Int32) (x3 : Int32) (x4 : Int32) (h0 : aH) (zz : Int32 × aH), l_35 g n 2 a0 x1 x2 x3 x4 h0 = some zz → aWp X d 35 45 [some (.ref a0), some (.int x1), some (.int x2), some (.int x3), some (.int x4)] [] h0 (fun w h' => w = some (.int zz.1) ∧ h' = zz.2)) := by
  intro n
  induction n with
  | zero => exact ⟨fun _ _ _ _ _ _ _ hd => by simp [l_35] at hd, fun _ _ _ _ _ _ _ hd => by simp [l_35] at hd, fun _ _ _ _ _ _ _ hd => by simp [l_35] at hd⟩
  | succ n ih =>
    refine ⟨?_, ?_, ?_⟩
    · intro a0 x1 x2 x3 x4 h0 zz hd
      unfold l_35 at hd
      rw [if_pos rfl] at hd
      refine wp_s 5 [some (.ref a0), some (.int x1), some (.int x2), none, none] [.int x2] h0 i_35_4 rfl ?_
      refine wp_s 6 [some (.ref a0), some (.int x1), some (.int x2), none, none] [.ref a0, .int x2] h0 i_35_5 rfl ?_
      obtain ⟨f_1, q_2, hd⟩ := dk_bind hd
      refine hp_gI 9 rfl i_35_6 q_2 ?_
      refine wp_cmp_ge 63 12 rfl rfl i_35_9 (fun c_3 => ?_) (fun c_3 => ?_)
      · rw [if_pos c_3] at hd
        refine wp_s 64 [some (.ref a0), some (.int x1), some (.int x2), none, none] [.int x1] h0 i_35_63 rfl ?_
        obtain rfl := Option.some.inj hd
        exact wp_iret i_35_64 ⟨rfl, rfl⟩
      · rw [if_neg c_3] at hd
        refine wp_s 13 [some (.ref a0), some (.int x1), some (.int x2), none, none] [.int (0 : Int32)] h0 i_35_12 rfl ?_
        refine wp_s 14 [some (.ref a0), some (.int x1), some (.int x2), some (.int (0 : Int32)), none] [] h0 i_35_13 rfl ?_
        refine wp_s 15 [some (.ref a0), some (.int x1), some (.int x2), some (.int (0 : Int32)), none] [.int (0 : Int32)] h0 i_35_14 rfl ?_
        refine wp_s 17 [some (.ref a0), some (.int x1), some (.int x2), some (.int (0 : Int32)), some (.int (0 : Int32))] [] h0 i_35_15 rfl ?_
        exact aWp.forget (ih.2.1 _ _ _ _ _ _ _ hd) (lvS (lvS (lvS (lvS (lvS lvE)))))
    · intro a0 x1 x2 x3 x4 h0 zz hd
      unfold l_35 at hd
      rw [if_neg (by decide), if_pos rfl] at hd
      refine wp_s 19 [some (.ref a0), some (.int x1), some (.int x2), some (.int x3), some (.int x4)] [.int x4] h0 i_35_17 rfl ?_
      refine wp_s 20 [some (.ref a0), some (.int x1), some (.int x2), some (.int x3), some (.int x4)] [.ref a0, .int x4] h0 i_35_19 rfl ?_
      obtain ⟨f_4, q_5, hd⟩ := dk_bind hd
      refine hp_gI 23 rfl i_35_20 q_5 ?_
      refine wp_cmp_ge 51 26 rfl rfl i_35_23 (fun c_6 => ?_) (fun c_6 => ?_)
      · rw [if_pos c_6] at hd
        refine wp_s 52 [some (.ref a0), some (.int x1), some (.int x2), some (.int x3), some (.int x4)] [.int x1] h0 i_35_51 rfl ?_
        refine wp_s 53 [some (.ref a0), some (.int x1), some (.int x2), some (.int x3), some (.int x4)] [.int x3, .int x1] h0 i_35_52 rfl ?_
        refine hp_max 56 rfl i_35_53 rfl ?_
        refine wp_s 57 [some (.ref a0), some (.int (if x1 < x3 then x3 else x1)), some (.int x2), some (.int x3), some (.int x4)] [] h0 i_35_56 rfl ?_
        refine wp_s 60 [some (.ref a0), some (.int (if x1 < x3 then x3 else x1)), some (.int (x2 + (1 : Int32))), some (.int x3), some (.int x4)] [] h0 i_35_57 rfl ?_
        refine wp_s 4 [some (.ref a0), some (.int (if x1 < x3 then x3 else x1)), some (.int (x2 + (1 : Int32))), some (.int x3), some (.int x4)] [] h0 i_35_60 rfl ?_
        exact aWp.forget (ih.1 _ _ _ _ _ _ _ hd) (lvS (lvS (lvS (lvN (lvN lvE)))))
      · rw [if_neg c_6] at hd
        refine wp_s 27 [some (.ref a0), some (.int x1), some (.int x2), some (.int x3), some (.int x4)] [.ref a0] h0 i_35_26 rfl ?_
        obtain ⟨f_7, q_8, hd⟩ := dk_bind hd
        refine hp_gR 30 rfl i_35_27 q_8 ?_
        refine wp_s 32 [some (.ref a0), some (.int x1), some (.int x2), some (.int x3), some (.int x4)] [.int x4, .ref f_7] h0 i_35_30 rfl ?_
        obtain ⟨f_9, q_10, hd⟩ := dk_bind hd
        refine hp_gA 33 rfl i_35_32 q_10 ?_
        refine wp_s 34 [some (.ref a0), some (.int x1), some (.int x2), some (.int x3), some (.int x4)] [.ref a0, .int f_9] h0 i_35_33 rfl ?_
        obtain ⟨f_11, q_12, hd⟩ := dk_bind hd
        refine hp_gR 37 rfl i_35_34 q_12 ?_
        refine wp_s 38 [some (.ref a0), some (.int x1), some (.int x2), some (.int x3), some (.int x4)] [.int x2, .ref f_11, .int f_9] h0 i_35_37 rfl ?_
        obtain ⟨f_13, q_14, hd⟩ := dk_bind hd
        refine hp_gA 39 rfl i_35_38 q_14 ?_
        refine wp_cmp_ne 45 42 rfl rfl i_35_39 (fun c_15 => ?_) (fun c_15 => ?_)
        · rw [if_pos c_15] at hd
          exact aWp.forget (ih.2.2 _ _ _ _ _ _ _ hd) (lvS (lvS (lvS (lvS (lvS lvE)))))
        · rw [if_neg c_15] at hd
          refine wp_s 45 [some (.ref a0), some (.int x1), some (.int x2), some (.int (x3 + (1 : Int32))), some (.int x4)] [] h0 i_35_42 rfl ?_
          exact aWp.forget (ih.2.2 _ _ _ _ _ _ _ hd) (lvS (lvS (lvS (lvS (lvS lvE)))))
    · intro a0 x1 x2 x3 x4 h0 zz hd
      unfold l_35 at hd
      rw [if_neg (by decide), if_neg (by decide), if_pos rfl] at hd
      refine wp_s 48 [some (.ref a0), some (.int x1), some (.int x2), some (.int x3), some (.int (x4 + (1 : Int32)))] [] h0 i_35_45 rfl ?_
      refine wp_s 17 [some (.ref a0), some (.int x1), some (.int x2), some (.int x3), some (.int (x4 + (1 : Int32)))] [] h0 i_35_48 rfl ?_
      exact aWp.forget (ih.2.1 _ _ _ _ _ _ _ hd) (lvS (lvS (lvS (lvS (lvS lvE)))))
def d_35 (g : Nat) (a0 : Nat) (h0 : aH) : Option (Int32 × aH) := (l_35 g g 0 a0 (0 : Int32) (0 : Int32) 0 0 h0)
set_option maxHeartbeats 4000000 in
set_option maxRecDepth 100000 in
theorem d_35_ok {X : aX} {g : Nat} {a0 : Nat} {h0 : aH} {zz : Int32 × aH} {d : Nat} (hdp : 0 ≤ d) (hd : d_35 g a0 h0 = some zz) : aWp X d 35 0 (aEntL [.ref a0] 5) [] h0 (fun w h' => w = some (.int zz.1) ∧ h' = zz.2) := by
  unfold d_35 at hd
  refine wp_lv (l2 := [some (.ref a0), none, none, none, none]) rfl ?_
  refine wp_s 1 [some (.ref a0), none, none, none, none] [.int (0 : Int32)] h0 i_35_0 rfl ?_
  refine wp_s 2 [some (.ref a0), some (.int (0 : Int32)), none, none, none] [] h0 i_35_1 rfl ?_
  refine wp_s 3 [some (.ref a0), some (.int (0 : Int32)), none, none, none] [.int (0 : Int32)] h0 i_35_2 rfl ?_
  refine wp_s 4 [some (.ref a0), some (.int (0 : Int32)), some (.int (0 : Int32)), none, none] [] h0 i_35_3 rfl ?_
  exact aWp.forget ((l_35_ok hdp g).1 _ _ _ _ _ _ _ hd) (lvS (lvS (lvS (lvN (lvN lvE)))))
def l_34 (g n tag : Nat) (a0 : Nat) (x1 : Int32) (x2 : Int32) (x3 : Int32) (x4 : Int32) (h0 : aH) : Option (aH) := match n with
  | 0 => none
  | n + 1 => if tag = 0 then (if (9 : Int32) < x3 then some h0 else (l_34 g n 1 a0 x1 x2 x3 (0 : Int32) h0)) else if tag = 1 then ((gI h0 a0 2 17).bind (fun f_2 => (if f_2 ≤ x4 then ((gR h0 a0 2 3).bind (fun f_5 => ((sA h0 f_5 (0 : Int32) x3).bind (fun h_7 => ((gR h_7 a0 2 2).bind (fun f_9 => (if isO h_7 a0 2 = true then ((d_35 g a0 h_7).bind (fun z_14 => ((gR z_14.2 a0 2 3).bind (fun f_18 => (if isO z_14.2 f_9 0 = true then ((d_2 g f_9 z_14.1 f_18 (1 : Int32) z_14.2).bind (fun z_23 => (l_34 g n 0 a0 x1 x2 (x3 + (1 : Int32)) 0 z_23))) else none))))) else none))))))) else ((gR h0 a0 2 9).bind (fun f_27 => ((gR h0 a0 2 1).bind (fun f_29 => ((gR h0 a0 2 0).bind (fun f_31 => ((gR h0 f_31 10 1).bind (fun f_33 => ((gR h0 a0 2 8).bind (fun f_35 => ((gA h0 f_35 x4).bind (fun f_37 => (if isO h0 f_29 9 = true then ((d_89 g f_29 f_33 f_37 x1 x2 x3 h0).bind (fun z_42 => ((sA z_42.2 f_27 x4 z_42.1).bind (fun h_46 => (l_34 g n 1 a0 x1 x2 x3 (x4 + (1 : Int32)) h_46))))) else none)))))))))))))))) else none
set_option maxHeartbeats 4000000 in
set_option maxRecDepth 100000 in
theorem l_34_ok {X : aX} {g : Nat} {d : Nat} (hdp : 4 ≤ d) : ∀ n, (∀ (a0 : Nat) (x1 : Int32) (x2 : Int32) (x3 : Int32) (x4 : Int32) (h0 : aH) (zz : aH), l_34 g n 0 a0 x1 x2 x3 x4 h0 = some zz → aWp X d 34 9 [some (.ref a0), some (.int x1), some (.int x2), some (.int x3), none] [] h0 (fun w h' => w = none ∧ h' = zz)) ∧ (∀ (a0 : Nat) (x1 : Int32) (x2 : Int32) (x3 : Int32) (x4 : Int32) (h0 : aH) (zz : aH), l_34 g n 1 a0 x1 x2 x3 x4 h0 = some zz → aWp X d 34 18 [some (.ref a0), some (.int x1), some (.int x2), some (.int x3), some (.int x4)] [] h0 (fun w h' => w = none ∧ h' = zz)) := by
  intro n
  induction n with
  | zero => exact ⟨fun _ _ _ _ _ _ _ hd => by simp [l_34] at hd, fun _ _ _ _ _ _ _ hd => by simp [l_34] at hd⟩
  | succ n ih =>
    refine ⟨?_, ?_⟩
    · intro a0 x1 x2 x3 x4 h0 zz hd
      unfold l_34 at hd
      rw [if_pos rfl] at hd
      obtain ⟨e, rfl⟩ : ∃ e, d = e + 1 := ⟨d - 1, by omega⟩
      refine wp_s 10 [some (.ref a0), some (.int x1), some (.int x2), some (.int x3), none] [.int x3] h0 i_34_9 rfl ?_
      refine wp_s 12 [some (.ref a0), some (.int x1), some (.int x2), some (.int x3), none] [.int (9 : Int32), .int x3] h0 i_34_10 rfl ?_
      refine wp_cmp_gt 93 15 rfl rfl i_34_12 (fun c_1 => ?_) (fun c_1 => ?_)
      · rw [if_pos c_1] at hd
        obtain rfl := Option.some.inj hd
        exact wp_ret i_34_93 rfl ⟨rfl, rfl⟩
      · rw [if_neg c_1] at hd
        refine wp_s 16 [some (.ref a0), some (.int x1), some (.int x2), some (.int x3), none] [.int (0 : Int32)] h0 i_34_15 rfl ?_
        refine wp_s 18 [some (.ref a0), some (.int x1), some (.int x2), some (.int x3), some (.int (0 : Int32))] [] h0 i_34_16 rfl ?_
        exact aWp.forget (ih.2 _ _ _ _ _ _ _ hd) (lvS (lvS (lvS (lvS (lvS lvE)))))
    · intro a0 x1 x2 x3 x4 h0 zz hd
      unfold l_34 at hd
      rw [if_neg (by decide), if_pos rfl] at hd
      obtain ⟨e, rfl⟩ : ∃ e, d = e + 1 := ⟨d - 1, by omega⟩
      refine wp_s 20 [some (.ref a0), some (.int x1), some (.int x2), some (.int x3), some (.int x4)] [.int x4] h0 i_34_18 rfl ?_
      refine wp_s 21 [some (.ref a0), some (.int x1), some (.int x2), some (.int x3), some (.int x4)] [.ref a0, .int x4] h0 i_34_20 rfl ?_
      obtain ⟨f_2, q_3, hd⟩ := dk_bind hd
      refine hp_gI 24 rfl i_34_21 q_3 ?_
      refine wp_cmp_ge 64 27 rfl rfl i_34_24 (fun c_4 => ?_) (fun c_4 => ?_)
      · rw [if_pos c_4] at hd
        refine wp_s 65 [some (.ref a0), some (.int x1), some (.int x2), some (.int x3), some (.int x4)] [.ref a0] h0 i_34_64 rfl ?_
        obtain ⟨f_5, q_6, hd⟩ := dk_bind hd
        refine hp_gR 68 rfl i_34_65 q_6 ?_
        refine wp_s 69 [some (.ref a0), some (.int x1), some (.int x2), some (.int x3), some (.int x4)] [.int (0 : Int32), .ref f_5] h0 i_34_68 rfl ?_
        refine wp_s 70 [some (.ref a0), some (.int x1), some (.int x2), some (.int x3), some (.int x4)] [.int x3, .int (0 : Int32), .ref f_5] h0 i_34_69 rfl ?_
        obtain ⟨h_7, q_8, hd⟩ := dk_bind hd
        refine hp_sA 71 rfl i_34_70 q_8 ?_
        refine wp_s 72 [some (.ref a0), some (.int x1), some (.int x2), some (.int x3), some (.int x4)] [.ref a0] h_7 i_34_71 rfl ?_
        obtain ⟨f_9, q_10, hd⟩ := dk_bind hd
        refine hp_gR 75 rfl i_34_72 q_10 ?_
        refine wp_s 76 [some (.ref a0), some (.int x1), some (.int x2), some (.int x3), some (.int x4)] [.ref a0, .ref f_9] h_7 i_34_75 rfl ?_
        obtain ⟨k_11, hd⟩ := dk_if hd
        obtain ⟨fs_12, o_13⟩ := isO_of k_11
        obtain ⟨z_14, q_15, hd⟩ := dk_bind hd
        refine wp_callV 79 rfl i_34_76 (by decide) rfl (vs := []) (rest := [.ref f_9]) rfl rfl rfl o_13 (y := m_35) rfl (Nat.le_of_ble_eq_true rfl) (d_35_ok (d := e) (by omega) q_15) ?_
        rintro v_16 h_17 ⟨rfl, rfl⟩
        refine wp_s 80 [some (.ref a0), some (.int x1), some (.int x2), some (.int x3), some (.int x4)] [.ref a0, .int z_14.1, .ref f_9] z_14.2 i_34_79 rfl ?_
        obtain ⟨f_18, q_19, hd⟩ := dk_bind hd
        refine hp_gR 83 rfl i_34_80 q_19 ?_
        refine wp_s 84 [some (.ref a0), some (.int x1), some (.int x2), some (.int x3), some (.int x4)] [.int (1 : Int32), .ref f_18, .int z_14.1, .ref f_9] z_14.2 i_34_83 rfl ?_
        obtain ⟨k_20, hd⟩ := dk_if hd
        obtain ⟨fs_21, o_22⟩ := isO_of k_20
        obtain ⟨z_23, q_24, hd⟩ := dk_bind hd
        refine wp_callV 87 rfl i_34_84 (by decide) rfl (vs := [.int z_14.1, .ref f_18, .int (1 : Int32)]) (rest := []) rfl rfl rfl o_22 (y := m_2) rfl (Nat.le_of_ble_eq_true rfl) (d_2_ok (d := e) (by omega) q_24) ?_
        rintro v_25 h_26 ⟨rfl, hz⟩
        have hz := hz.symm
        subst hz
        refine wp_s 90 [some (.ref a0), some (.int x1), some (.int x2), some (.int (x3 + (1 : Int32))), some (.int x4)] [] z_23 i_34_87 rfl ?_
        refine wp_s 9 [some (.ref a0), some (.int x1), some (.int x2), some (.int (x3 + (1 : Int32))), some (.int x4)] [] z_23 i_34_90 rfl ?_
        exact aWp.forget (ih.1 _ _ _ _ _ _ _ hd) (lvS (lvS (lvS (lvS (lvN lvE)))))
      · rw [if_neg c_4] at hd
        refine wp_s 28 [some (.ref a0), some (.int x1), some (.int x2), some (.int x3), some (.int x4)] [.ref a0] h0 i_34_27 rfl ?_
        obtain ⟨f_27, q_28, hd⟩ := dk_bind hd
        refine hp_gR 31 rfl i_34_28 q_28 ?_
        refine wp_s 33 [some (.ref a0), some (.int x1), some (.int x2), some (.int x3), some (.int x4)] [.int x4, .ref f_27] h0 i_34_31 rfl ?_
        refine wp_s 34 [some (.ref a0), some (.int x1), some (.int x2), some (.int x3), some (.int x4)] [.ref a0, .int x4, .ref f_27] h0 i_34_33 rfl ?_
        obtain ⟨f_29, q_30, hd⟩ := dk_bind hd
        refine hp_gR 37 rfl i_34_34 q_30 ?_
        refine wp_s 38 [some (.ref a0), some (.int x1), some (.int x2), some (.int x3), some (.int x4)] [.ref a0, .ref f_29, .int x4, .ref f_27] h0 i_34_37 rfl ?_
        obtain ⟨f_31, q_32, hd⟩ := dk_bind hd
        refine hp_gR 41 rfl i_34_38 q_32 ?_
        obtain ⟨f_33, q_34, hd⟩ := dk_bind hd
        refine hp_gR 44 rfl i_34_41 q_34 ?_
        refine wp_s 45 [some (.ref a0), some (.int x1), some (.int x2), some (.int x3), some (.int x4)] [.ref a0, .ref f_33, .ref f_29, .int x4, .ref f_27] h0 i_34_44 rfl ?_
        obtain ⟨f_35, q_36, hd⟩ := dk_bind hd
        refine hp_gR 48 rfl i_34_45 q_36 ?_
        refine wp_s 50 [some (.ref a0), some (.int x1), some (.int x2), some (.int x3), some (.int x4)] [.int x4, .ref f_35, .ref f_33, .ref f_29, .int x4, .ref f_27] h0 i_34_48 rfl ?_
        obtain ⟨f_37, q_38, hd⟩ := dk_bind hd
        refine hp_gA 51 rfl i_34_50 q_38 ?_
        refine wp_s 52 [some (.ref a0), some (.int x1), some (.int x2), some (.int x3), some (.int x4)] [.int x1, .int f_37, .ref f_33, .ref f_29, .int x4, .ref f_27] h0 i_34_51 rfl ?_
        refine wp_s 53 [some (.ref a0), some (.int x1), some (.int x2), some (.int x3), some (.int x4)] [.int x2, .int x1, .int f_37, .ref f_33, .ref f_29, .int x4, .ref f_27] h0 i_34_52 rfl ?_
        refine wp_s 54 [some (.ref a0), some (.int x1), some (.int x2), some (.int x3), some (.int x4)] [.int x3, .int x2, .int x1, .int f_37, .ref f_33, .ref f_29, .int x4, .ref f_27] h0 i_34_53 rfl ?_
        obtain ⟨k_39, hd⟩ := dk_if hd
        obtain ⟨fs_40, o_41⟩ := isO_of k_39
        obtain ⟨z_42, q_43, hd⟩ := dk_bind hd
        refine wp_callV 57 rfl i_34_54 (by decide) rfl (vs := [.ref f_33, .int f_37, .int x1, .int x2, .int x3]) (rest := [.int x4, .ref f_27]) rfl rfl rfl o_41 (y := m_89) rfl (Nat.le_of_ble_eq_true rfl) (d_89_ok (d := e) (by omega) q_43) ?_
        rintro v_44 h_45 ⟨rfl, rfl⟩
        obtain ⟨h_46, q_47, hd⟩ := dk_bind hd
        refine hp_sA 58 rfl i_34_57 q_47 ?_
        refine wp_s 61 [some (.ref a0), some (.int x1), some (.int x2), some (.int x3), some (.int (x4 + (1 : Int32)))] [] h_46 i_34_58 rfl ?_
        refine wp_s 18 [some (.ref a0), some (.int x1), some (.int x2), some (.int x3), some (.int (x4 + (1 : Int32)))] [] h_46 i_34_61 rfl ?_
        exact aWp.forget (ih.2 _ _ _ _ _ _ _ hd) (lvS (lvS (lvS (lvS (lvS lvE)))))
def d_34 (g : Nat) (a0 : Nat) (x1 : Int32) (x2 : Int32) (h0 : aH) : Option (aH) := ((gR h0 a0 2 2).bind (fun f_1001 => (if isO h0 f_1001 0 = true then ((d_1 g f_1001 h0).bind (fun z_1006 => (l_34 g g 0 a0 x1 x2 (0 : Int32) 0 z_1006))) else none)))
set_option maxHeartbeats 4000000 in
set_option maxRecDepth 100000 in
theorem d_34_ok {X : aX} {g : Nat} {a0 : Nat} {x1 : Int32} {x2 : Int32} {h0 : aH} {zz : aH} {d : Nat} (hdp : 4 ≤ d) (hd : d_34 g a0 x1 x2 h0 = some zz) : aWp X d 34 0 (aEntL [.ref a0, .int x1, .int x2] 5) [] h0 (fun w h' => w = none ∧ h' = zz) := by
  unfold d_34 at hd
  refine wp_lv (l2 := [some (.ref a0), some (.int x1), some (.int x2), none, none]) rfl ?_
  obtain ⟨e, rfl⟩ : ∃ e, d = e + 1 := ⟨d - 1, by omega⟩
  refine wp_s 1 [some (.ref a0), some (.int x1), some (.int x2), none, none] [.ref a0] h0 i_34_0 rfl ?_
  obtain ⟨f_1001, q_1002, hd⟩ := dk_bind hd
  refine hp_gR 4 rfl i_34_1 q_1002 ?_
  obtain ⟨k_1003, hd⟩ := dk_if hd
  obtain ⟨fs_1004, o_1005⟩ := isO_of k_1003
  obtain ⟨z_1006, q_1007, hd⟩ := dk_bind hd
  refine wp_callV 7 rfl i_34_4 (by decide) rfl (vs := []) (rest := []) rfl rfl rfl o_1005 (y := m_1) rfl (Nat.le_of_ble_eq_true rfl) (d_1_ok (d := e) (by omega) q_1007) ?_
  rintro v_1008 h_1009 ⟨rfl, hz⟩
  have hz := hz.symm
  subst hz
  refine wp_s 8 [some (.ref a0), some (.int x1), some (.int x2), none, none] [.int (0 : Int32)] z_1006 i_34_7 rfl ?_
  refine wp_s 9 [some (.ref a0), some (.int x1), some (.int x2), some (.int (0 : Int32)), none] [] z_1006 i_34_8 rfl ?_
  exact aWp.forget ((l_34_ok hdp g).1 _ _ _ _ _ _ _ hd) (lvS (lvS (lvS (lvS (lvN lvE)))))
def l_36 (g n tag : Nat) (a0 : Nat) (x1 : Int32) (x2 : Int32) (h0 : aH) : Option (aH) := match n with
  | 0 => none
  | n + 1 => if tag = 0 then (if (30 : Int32) < x2 then some h0 else ((gR h0 a0 2 3).bind (fun f_2 => ((gR h0 a0 2 0).bind (fun f_4 => ((gR h0 f_4 10 1).bind (fun f_6 => ((gI h0 f_6 7 13).bind (fun f_8 => ((sA h0 f_2 (0 : Int32) (f_8 + x2)).bind (fun h_10 => ((gR h_10 a0 2 2).bind (fun f_12 => ((gR h_10 a0 2 1).bind (fun f_14 => ((gR h_10 a0 2 3).bind (fun f_16 => ((gA h_10 f_16 (0 : Int32)).bind (fun f_18 => (if isO h_10 f_14 9 = true then ((d_90 g f_14 x1 f_18 h_10).bind (fun z_23 => ((gR z_23.2 a0 2 3).bind (fun f_27 => (if isO z_23.2 f_12 0 = true then ((d_2 g f_12 z_23.1 f_27 (1 : Int32) z_23.2).bind (fun z_32 => (l_36 g n 0 a0 x1 (x2 + (1 : Int32)) z_32))) else none))))) else none)))))))))))))))))))) else none
set_option maxHeartbeats 4000000 in
set_option maxRecDepth 100000 in
theorem l_36_ok {X : aX} {g : Nat} {d : Nat} (hdp : 5 ≤ d) : ∀ n, (∀ (a0 : Nat) (x1 : Int32) (x2 : Int32) (h0 : aH) (zz : aH), l_36 g n 0 a0 x1 x2 h0 = some zz → aWp X d 36 9 [some (.ref a0), some (.int x1), some (.int x2)] [] h0 (fun w h' => w = none ∧ h' = zz)) := by
  intro n
  induction n with
  | zero => exact fun _ _ _ _ _ hd => by simp [l_36] at hd
  | succ n ih =>
    intro a0 x1 x2 h0 zz hd
    unfold l_36 at hd
    rw [if_pos rfl] at hd
    obtain ⟨e, rfl⟩ : ∃ e, d = e + 1 := ⟨d - 1, by omega⟩
    refine wp_s 10 [some (.ref a0), some (.int x1), some (.int x2)] [.int x2] h0 i_36_9 rfl ?_
    refine wp_s 12 [some (.ref a0), some (.int x1), some (.int x2)] [.int (30 : Int32), .int x2] h0 i_36_10 rfl ?_
    refine wp_cmp_gt 65 15 rfl rfl i_36_12 (fun c_1 => ?_) (fun c_1 => ?_)
    · rw [if_pos c_1] at hd
      obtain rfl := Option.some.inj hd
      exact wp_ret i_36_65 rfl ⟨rfl, rfl⟩
    · rw [if_neg c_1] at hd
      refine wp_s 16 [some (.ref a0), some (.int x1), some (.int x2)] [.ref a0] h0 i_36_15 rfl ?_
      obtain ⟨f_2, q_3, hd⟩ := dk_bind hd
      refine hp_gR 19 rfl i_36_16 q_3 ?_
      refine wp_s 20 [some (.ref a0), some (.int x1), some (.int x2)] [.int (0 : Int32), .ref f_2] h0 i_36_19 rfl ?_
      refine wp_s 21 [some (.ref a0), some (.int x1), some (.int x2)] [.ref a0, .int (0 : Int32), .ref f_2] h0 i_36_20 rfl ?_
      obtain ⟨f_4, q_5, hd⟩ := dk_bind hd
      refine hp_gR 24 rfl i_36_21 q_5 ?_
      obtain ⟨f_6, q_7, hd⟩ := dk_bind hd
      refine hp_gR 27 rfl i_36_24 q_7 ?_
      obtain ⟨f_8, q_9, hd⟩ := dk_bind hd
      refine hp_gI 30 rfl i_36_27 q_9 ?_
      refine wp_s 31 [some (.ref a0), some (.int x1), some (.int x2)] [.int x2, .int f_8, .int (0 : Int32), .ref f_2] h0 i_36_30 rfl ?_
      refine wp_s 32 [some (.ref a0), some (.int x1), some (.int x2)] [.int (f_8 + x2), .int (0 : Int32), .ref f_2] h0 i_36_31 rfl ?_
      obtain ⟨h_10, q_11, hd⟩ := dk_bind hd
      refine hp_sA 33 rfl i_36_32 q_11 ?_
      refine wp_s 34 [some (.ref a0), some (.int x1), some (.int x2)] [.ref a0] h_10 i_36_33 rfl ?_
      obtain ⟨f_12, q_13, hd⟩ := dk_bind hd
      refine hp_gR 37 rfl i_36_34 q_13 ?_
      refine wp_s 38 [some (.ref a0), some (.int x1), some (.int x2)] [.ref a0, .ref f_12] h_10 i_36_37 rfl ?_
      obtain ⟨f_14, q_15, hd⟩ := dk_bind hd
      refine hp_gR 41 rfl i_36_38 q_15 ?_
      refine wp_s 42 [some (.ref a0), some (.int x1), some (.int x2)] [.int x1, .ref f_14, .ref f_12] h_10 i_36_41 rfl ?_
      refine wp_s 43 [some (.ref a0), some (.int x1), some (.int x2)] [.ref a0, .int x1, .ref f_14, .ref f_12] h_10 i_36_42 rfl ?_
      obtain ⟨f_16, q_17, hd⟩ := dk_bind hd
      refine hp_gR 46 rfl i_36_43 q_17 ?_
      refine wp_s 47 [some (.ref a0), some (.int x1), some (.int x2)] [.int (0 : Int32), .ref f_16, .int x1, .ref f_14, .ref f_12] h_10 i_36_46 rfl ?_
      obtain ⟨f_18, q_19, hd⟩ := dk_bind hd
      refine hp_gA 48 rfl i_36_47 q_19 ?_
      obtain ⟨k_20, hd⟩ := dk_if hd
      obtain ⟨fs_21, o_22⟩ := isO_of k_20
      obtain ⟨z_23, q_24, hd⟩ := dk_bind hd
      refine wp_callV 51 rfl i_36_48 (by decide) rfl (vs := [.int x1, .int f_18]) (rest := [.ref f_12]) rfl rfl rfl o_22 (y := m_90) rfl (Nat.le_of_ble_eq_true rfl) (d_90_ok (d := e) (by omega) q_24) ?_
      rintro v_25 h_26 ⟨rfl, rfl⟩
      refine wp_s 52 [some (.ref a0), some (.int x1), some (.int x2)] [.ref a0, .int z_23.1, .ref f_12] z_23.2 i_36_51 rfl ?_
      obtain ⟨f_27, q_28, hd⟩ := dk_bind hd
      refine hp_gR 55 rfl i_36_52 q_28 ?_
      refine wp_s 56 [some (.ref a0), some (.int x1), some (.int x2)] [.int (1 : Int32), .ref f_27, .int z_23.1, .ref f_12] z_23.2 i_36_55 rfl ?_
      obtain ⟨k_29, hd⟩ := dk_if hd
      obtain ⟨fs_30, o_31⟩ := isO_of k_29
      obtain ⟨z_32, q_33, hd⟩ := dk_bind hd
      refine wp_callV 59 rfl i_36_56 (by decide) rfl (vs := [.int z_23.1, .ref f_27, .int (1 : Int32)]) (rest := []) rfl rfl rfl o_31 (y := m_2) rfl (Nat.le_of_ble_eq_true rfl) (d_2_ok (d := e) (by omega) q_33) ?_
      rintro v_34 h_35 ⟨rfl, hz⟩
      have hz := hz.symm
      subst hz
      refine wp_s 62 [some (.ref a0), some (.int x1), some (.int (x2 + (1 : Int32)))] [] z_32 i_36_59 rfl ?_
      refine wp_s 9 [some (.ref a0), some (.int x1), some (.int (x2 + (1 : Int32)))] [] z_32 i_36_62 rfl ?_
      exact aWp.forget (ih _ _ _ _ _ hd) (lvS (lvS (lvS lvE)))
def d_36 (g : Nat) (a0 : Nat) (x1 : Int32) (h0 : aH) : Option (aH) := ((gR h0 a0 2 2).bind (fun f_1001 => (if isO h0 f_1001 0 = true then ((d_1 g f_1001 h0).bind (fun z_1006 => (l_36 g g 0 a0 x1 (0 : Int32) z_1006))) else none)))
set_option maxHeartbeats 4000000 in
set_option maxRecDepth 100000 in
theorem d_36_ok {X : aX} {g : Nat} {a0 : Nat} {x1 : Int32} {h0 : aH} {zz : aH} {d : Nat} (hdp : 5 ≤ d) (hd : d_36 g a0 x1 h0 = some zz) : aWp X d 36 0 (aEntL [.ref a0, .int x1] 3) [] h0 (fun w h' => w = none ∧ h' = zz) := by
  unfold d_36 at hd
  refine wp_lv (l2 := [some (.ref a0), some (.int x1), none]) rfl ?_
  obtain ⟨e, rfl⟩ : ∃ e, d = e + 1 := ⟨d - 1, by omega⟩
  refine wp_s 1 [some (.ref a0), some (.int x1), none] [.ref a0] h0 i_36_0 rfl ?_
  obtain ⟨f_1001, q_1002, hd⟩ := dk_bind hd
  refine hp_gR 4 rfl i_36_1 q_1002 ?_
  obtain ⟨k_1003, hd⟩ := dk_if hd
  obtain ⟨fs_1004, o_1005⟩ := isO_of k_1003
  obtain ⟨z_1006, q_1007, hd⟩ := dk_bind hd
  refine wp_callV 7 rfl i_36_4 (by decide) rfl (vs := []) (rest := []) rfl rfl rfl o_1005 (y := m_1) rfl (Nat.le_of_ble_eq_true rfl) (d_1_ok (d := e) (by omega) q_1007) ?_
  rintro v_1008 h_1009 ⟨rfl, hz⟩
  have hz := hz.symm
  subst hz
  refine wp_s 8 [some (.ref a0), some (.int x1), none] [.int (0 : Int32)] z_1006 i_36_7 rfl ?_
  refine wp_s 9 [some (.ref a0), some (.int x1), some (.int (0 : Int32))] [] z_1006 i_36_8 rfl ?_
  exact aWp.forget ((l_36_ok hdp g) _ _ _ _ _ hd) (lvS (lvS (lvS lvE)))
def l_79 (g n tag : Nat) (a0 : Nat) (x1 : Int32) (h0 : aH) : Option (aH) := match n with
  | 0 => none
  | n + 1 => if tag = 0 then (if (8 : Int32) ≤ x1 then some h0 else ((gR h0 a0 7 1).bind (fun f_2 => ((gA h0 f_2 x1).bind (fun f_4 => ((gR h0 a0 7 0).bind (fun f_6 => ((gA h0 f_6 x1).bind (fun f_8 => ((sA h0 f_2 x1 (f_4 - f_8)).bind (fun h_10 => ((gR h_10 a0 7 2).bind (fun f_12 => ((gA h_10 f_12 x1).bind (fun f_14 => ((gR h_10 a0 7 0).bind (fun f_16 => ((gA h_10 f_16 x1).bind (fun f_18 => ((sA h_10 f_12 x1 (f_14 + f_18)).bind (fun h_20 => ((gR h_20 a0 7 0).bind (fun f_22 => ((sA h_20 f_22 x1 (0 : Int32)).bind (fun h_24 => (l_79 g n 0 a0 (x1 + (1 : Int32)) h_24)))))))))))))))))))))))))) else none
set_option maxHeartbeats 4000000 in
set_option maxRecDepth 100000 in
theorem l_79_ok {X : aX} {g : Nat} {d : Nat} (hdp : 0 ≤ d) : ∀ n, (∀ (a0 : Nat) (x1 : Int32) (h0 : aH) (zz : aH), l_79 g n 0 a0 x1 h0 = some zz → aWp X d 79 2 [some (.ref a0), some (.int x1)] [] h0 (fun w h' => w = none ∧ h' = zz)) := by
  intro n
  induction n with
  | zero => exact fun _ _ _ _ hd => by simp [l_79] at hd
  | succ n ih =>
    intro a0 x1 h0 zz hd
    unfold l_79 at hd
    rw [if_pos rfl] at hd
    refine wp_s 3 [some (.ref a0), some (.int x1)] [.int x1] h0 i_79_2 rfl ?_
    refine wp_s 5 [some (.ref a0), some (.int x1)] [.int (8 : Int32), .int x1] h0 i_79_3 rfl ?_
    refine wp_cmp_ge 51 8 rfl rfl i_79_5 (fun c_1 => ?_) (fun c_1 => ?_)
    · rw [if_pos c_1] at hd
      obtain rfl := Option.some.inj hd
      exact wp_ret i_79_51 rfl ⟨rfl, rfl⟩
    · rw [if_neg c_1] at hd
      refine wp_s 9 [some (.ref a0), some (.int x1)] [.ref a0] h0 i_79_8 rfl ?_
      obtain ⟨f_2, q_3, hd⟩ := dk_bind hd
      refine hp_gR 12 rfl i_79_9 q_3 ?_
      refine wp_s 13 [some (.ref a0), some (.int x1)] [.int x1, .ref f_2] h0 i_79_12 rfl ?_
      refine wp_s 14 [some (.ref a0), some (.int x1)] [.int x1, .ref f_2, .int x1, .ref f_2] h0 i_79_13 rfl ?_
      obtain ⟨f_4, q_5, hd⟩ := dk_bind hd
      refine hp_gA 15 rfl i_79_14 q_5 ?_
      refine wp_s 16 [some (.ref a0), some (.int x1)] [.ref a0, .int f_4, .int x1, .ref f_2] h0 i_79_15 rfl ?_
      obtain ⟨f_6, q_7, hd⟩ := dk_bind hd
      refine hp_gR 19 rfl i_79_16 q_7 ?_
      refine wp_s 20 [some (.ref a0), some (.int x1)] [.int x1, .ref f_6, .int f_4, .int x1, .ref f_2] h0 i_79_19 rfl ?_
      obtain ⟨f_8, q_9, hd⟩ := dk_bind hd
      refine hp_gA 21 rfl i_79_20 q_9 ?_
      refine wp_s 22 [some (.ref a0), some (.int x1)] [.int (f_4 - f_8), .int x1, .ref f_2] h0 i_79_21 rfl ?_
      obtain ⟨h_10, q_11, hd⟩ := dk_bind hd
      refine hp_sA 23 rfl i_79_22 q_11 ?_
      refine wp_s 24 [some (.ref a0), some (.int x1)] [.ref a0] h_10 i_79_23 rfl ?_
      obtain ⟨f_12, q_13, hd⟩ := dk_bind hd
      refine hp_gR 27 rfl i_79_24 q_13 ?_
      refine wp_s 28 [some (.ref a0), some (.int x1)] [.int x1, .ref f_12] h_10 i_79_27 rfl ?_
      refine wp_s 29 [some (.ref a0), some (.int x1)] [.int x1, .ref f_12, .int x1, .ref f_12] h_10 i_79_28 rfl ?_
      obtain ⟨f_14, q_15, hd⟩ := dk_bind hd
      refine hp_gA 30 rfl i_79_29 q_15 ?_
      refine wp_s 31 [some (.ref a0), some (.int x1)] [.ref a0, .int f_14, .int x1, .ref f_12] h_10 i_79_30 rfl ?_
      obtain ⟨f_16, q_17, hd⟩ := dk_bind hd
      refine hp_gR 34 rfl i_79_31 q_17 ?_
      refine wp_s 35 [some (.ref a0), some (.int x1)] [.int x1, .ref f_16, .int f_14, .int x1, .ref f_12] h_10 i_79_34 rfl ?_
      obtain ⟨f_18, q_19, hd⟩ := dk_bind hd
      refine hp_gA 36 rfl i_79_35 q_19 ?_
      refine wp_s 37 [some (.ref a0), some (.int x1)] [.int (f_14 + f_18), .int x1, .ref f_12] h_10 i_79_36 rfl ?_
      obtain ⟨h_20, q_21, hd⟩ := dk_bind hd
      refine hp_sA 38 rfl i_79_37 q_21 ?_
      refine wp_s 39 [some (.ref a0), some (.int x1)] [.ref a0] h_20 i_79_38 rfl ?_
      obtain ⟨f_22, q_23, hd⟩ := dk_bind hd
      refine hp_gR 42 rfl i_79_39 q_23 ?_
      refine wp_s 43 [some (.ref a0), some (.int x1)] [.int x1, .ref f_22] h_20 i_79_42 rfl ?_
      refine wp_s 44 [some (.ref a0), some (.int x1)] [.int (0 : Int32), .int x1, .ref f_22] h_20 i_79_43 rfl ?_
      obtain ⟨h_24, q_25, hd⟩ := dk_bind hd
      refine hp_sA 45 rfl i_79_44 q_25 ?_
      refine wp_s 48 [some (.ref a0), some (.int (x1 + (1 : Int32)))] [] h_24 i_79_45 rfl ?_
      refine wp_s 2 [some (.ref a0), some (.int (x1 + (1 : Int32)))] [] h_24 i_79_48 rfl ?_
      exact aWp.forget (ih _ _ _ _ hd) (lvS (lvS lvE))
def d_79 (g : Nat) (a0 : Nat) (h0 : aH) : Option (aH) := (l_79 g g 0 a0 (0 : Int32) h0)
set_option maxHeartbeats 4000000 in
set_option maxRecDepth 100000 in
theorem d_79_ok {X : aX} {g : Nat} {a0 : Nat} {h0 : aH} {zz : aH} {d : Nat} (hdp : 0 ≤ d) (hd : d_79 g a0 h0 = some zz) : aWp X d 79 0 (aEntL [.ref a0] 2) [] h0 (fun w h' => w = none ∧ h' = zz) := by
  unfold d_79 at hd
  refine wp_lv (l2 := [some (.ref a0), none]) rfl ?_
  refine wp_s 1 [some (.ref a0), none] [.int (0 : Int32)] h0 i_79_0 rfl ?_
  refine wp_s 2 [some (.ref a0), some (.int (0 : Int32))] [] h0 i_79_1 rfl ?_
  exact aWp.forget ((l_79_ok hdp g) _ _ _ _ hd) (lvS (lvS lvE))
