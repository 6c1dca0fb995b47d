theorem i_26_0 : aIns 26 0 = some (.aload_n 0, 1, 0, 0, .null) := by decide +kernel
theorem i_26_1 : aIns 26 1 = some (.getfield 12, 3, 2, 2, .null) := by decide +kernel
theorem i_26_4 : aIns 26 4 = some (.invokevirtual 89, 3, 1, 0, .int 0) := by decide +kernel
theorem i_26_7 : aIns 26 7 = some (.aload_n 0, 1, 0, 0, .null) := by decide +kernel
theorem i_26_8 : aIns 26 8 = some (.getfield 25, 3, 2, 5, .null) := by decide +kernel
theorem i_26_11 : aIns 26 11 = some (.iconst 0, 1, 0, 0, .int (0)) := by decide +kernel
theorem i_26_12 : aIns 26 12 = some (.invokestatic 141, 3, 273, 2, .null) := by decide +kernel
theorem i_26_15 : aIns 26 15 = some (.iconst 0, 1, 0, 0, .int (0)) := by decide +kernel
theorem i_26_16 : aIns 26 16 = some (.istore_n 1, 1, 0, 0, .null) := by decide +kernel
theorem i_26_17 : aIns 26 17 = some (.iload_n 1, 1, 0, 0, .null) := by decide +kernel
theorem i_26_18 : aIns 26 18 = some (.aload_n 0, 1, 0, 0, .null) := by decide +kernel
theorem i_26_19 : aIns 26 19 = some (.getfield 47, 3, 2, 0, .null) := by decide +kernel
theorem i_26_22 : aIns 26 22 = some (.getfield 59, 3, 10, 0, .null) := by decide +kernel
theorem i_26_25 : aIns 26 25 = some (.getfield 183, 3, 5, 8, .null) := by decide +kernel
theorem i_26_28 : aIns 26 28 = some (.if_icmp .ge 63, 3, 0, 0, .null) := by decide +kernel
theorem i_26_31 : aIns 26 31 = some (.iconst 0, 1, 0, 0, .int (0)) := by decide +kernel
theorem i_26_32 : aIns 26 32 = some (.istore_n 2, 1, 0, 0, .null) := by decide +kernel
theorem i_26_33 : aIns 26 33 = some (.iload_n 2, 1, 0, 0, .null) := by decide +kernel
theorem i_26_34 : aIns 26 34 = some (.iconst 4, 1, 0, 0, .int (4)) := by decide +kernel
theorem i_26_35 : aIns 26 35 = some (.if_icmp .gt 50, 3, 0, 0, .null) := by decide +kernel
theorem i_26_38 : aIns 26 38 = some (.aload_n 0, 1, 0, 0, .null) := by decide +kernel
theorem i_26_39 : aIns 26 39 = some (.getfield 28, 3, 2, 6, .null) := by decide +kernel
theorem i_26_42 : aIns 26 42 = some (.iload_n 1, 1, 0, 0, .null) := by decide +kernel
theorem i_26_43 : aIns 26 43 = some (.iconst 5, 1, 0, 0, .int (5)) := by decide +kernel
theorem i_26_44 : aIns 26 44 = some (.imul, 1, 0, 0, .null) := by decide +kernel
theorem i_26_45 : aIns 26 45 = some (.iload_n 2, 1, 0, 0, .null) := by decide +kernel
theorem i_26_46 : aIns 26 46 = some (.iadd, 1, 0, 0, .null) := by decide +kernel
theorem i_26_47 : aIns 26 47 = some (.aload_n 0, 1, 0, 0, .null) := by decide +kernel
theorem i_26_48 : aIns 26 48 = some (.getfield 51, 3, 2, 1, .null) := by decide +kernel
theorem i_26_51 : aIns 26 51 = some (.aload_n 0, 1, 0, 0, .null) := by decide +kernel
theorem i_26_52 : aIns 26 52 = some (.getfield 47, 3, 2, 0, .null) := by decide +kernel
theorem i_26_55 : aIns 26 55 = some (.getfield 59, 3, 10, 0, .null) := by decide +kernel
theorem i_26_58 : aIns 26 58 = some (.getfield 189, 3, 5, 9, .null) := by decide +kernel
theorem i_26_61 : aIns 26 61 = some (.iload_n 1, 1, 0, 0, .null) := by decide +kernel
theorem i_26_62 : aIns 26 62 = some (.iaload, 1, 0, 0, .null) := by decide +kernel
theorem i_26_63 : aIns 26 63 = some (.aload_n 0, 1, 0, 0, .null) := by decide +kernel
theorem i_26_64 : aIns 26 64 = some (.getfield 47, 3, 2, 0, .null) := by decide +kernel
theorem i_26_67 : aIns 26 67 = some (.getfield 76, 3, 10, 1, .null) := by decide +kernel
theorem i_26_70 : aIns 26 70 = some (.getfield 92, 3, 7, 13, .null) := by decide +kernel
theorem i_26_73 : aIns 26 73 = some (.iload_n 2, 1, 0, 0, .null) := by decide +kernel
theorem i_26_74 : aIns 26 74 = some (.iadd, 1, 0, 0, .null) := by decide +kernel
theorem i_26_75 : aIns 26 75 = some (.invokevirtual 70, 3, 90, 2, .int 9) := by decide +kernel
theorem i_26_78 : aIns 26 78 = some (.iastore, 1, 0, 0, .null) := by decide +kernel
theorem i_26_79 : aIns 26 79 = some (.iinc 2 1, 3, 0, 0, .null) := by decide +kernel
theorem i_26_82 : aIns 26 82 = some (.goto (-49), 3, 0, 0, .null) := by decide +kernel
theorem i_26_85 : aIns 26 85 = some (.iinc 1 1, 3, 0, 0, .null) := by decide +kernel
theorem i_26_88 : aIns 26 88 = some (.goto (-71), 3, 0, 0, .null) := by decide +kernel
theorem i_26_91 : aIns 26 91 = some (.aload_n 0, 1, 0, 0, .null) := by decide +kernel
theorem i_26_92 : aIns 26 92 = some (.iconst 0, 1, 0, 0, .int (0)) := by decide +kernel
theorem i_26_93 : aIns 26 93 = some (.iconst 0, 1, 0, 0, .int (0)) := by decide +kernel
theorem i_26_94 : aIns 26 94 = some (.iconst 0, 1, 0, 0, .int (0)) := by decide +kernel
theorem i_26_95 : aIns 26 95 = some (.invokevirtual 200, 3, 27, 3, .int 2) := by decide +kernel
theorem i_26_98 : aIns 26 98 = some (.return_, 1, 0, 0, .null) := by decide +kernel
theorem i_28_0 : aIns 28 0 = some (.aload_n 0, 1, 0, 0, .null) := by decide +kernel
theorem i_28_1 : aIns 28 1 = some (.getfield 12, 3, 2, 2, .null) := by decide +kernel
theorem i_28_4 : aIns 28 4 = some (.invokevirtual 89, 3, 1, 0, .int 0) := by decide +kernel
theorem i_28_7 : aIns 28 7 = some (.aload_n 0, 1, 0, 0, .null) := by decide +kernel
theorem i_28_8 : aIns 28 8 = some (.getfield 47, 3, 2, 0, .null) := by decide +kernel
theorem i_28_11 : aIns 28 11 = some (.getfield 76, 3, 10, 1, .null) := by decide +kernel
theorem i_28_14 : aIns 28 14 = some (.getfield 214, 3, 7, 4, .null) := by decide +kernel
theorem i_28_17 : aIns 28 17 = some (.iconst 0, 1, 0, 0, .int (0)) := by decide +kernel
theorem i_28_18 : aIns 28 18 = some (.aload_n 0, 1, 0, 0, .null) := by decide +kernel
theorem i_28_19 : aIns 28 19 = some (.getfield 31, 3, 2, 7, .null) := by decide +kernel
theorem i_28_22 : aIns 28 22 = some (.iconst 0, 1, 0, 0, .int (0)) := by decide +kernel
theorem i_28_23 : aIns 28 23 = some (.bipush 8, 2, 0, 0, .int (8)) := by decide +kernel
theorem i_28_25 : aIns 28 25 = some (.invokestatic 217, 3, 1000, 0, .null) := by decide +kernel
theorem i_28_28 : aIns 28 28 = some (.aload_n 0, 1, 0, 0, .null) := by decide +kernel
theorem i_28_29 : aIns 28 29 = some (.iconst 0, 1, 0, 0, .int (0)) := by decide +kernel
theorem i_28_30 : aIns 28 30 = some (.aload_n 0, 1, 0, 0, .null) := by decide +kernel
theorem i_28_31 : aIns 28 31 = some (.getfield 47, 3, 2, 0, .null) := by decide +kernel
theorem i_28_34 : aIns 28 34 = some (.getfield 76, 3, 10, 1, .null) := by decide +kernel
theorem i_28_37 : aIns 28 37 = some (.getfield 223, 3, 7, 12, .null) := by decide +kernel
theorem i_28_40 : aIns 28 40 = some (.iconst 0, 1, 0, 0, .int (0)) := by decide +kernel
theorem i_28_41 : aIns 28 41 = some (.iconst 0, 1, 0, 0, .int (0)) := by decide +kernel
theorem i_28_42 : aIns 28 42 = some (.invokevirtual 226, 3, 29, 4, .int 2) := by decide +kernel
theorem i_28_45 : aIns 28 45 = some (.return_, 1, 0, 0, .null) := by decide +kernel
theorem i_29_0 : aIns 29 0 = some (.iload_n 1, 1, 0, 0, .null) := by decide +kernel
theorem i_29_1 : aIns 29 1 = some (.aload_n 0, 1, 0, 0, .null) := by decide +kernel
theorem i_29_2 : aIns 29 2 = some (.getfield 47, 3, 2, 0, .null) := by decide +kernel
theorem i_29_5 : aIns 29 5 = some (.getfield 59, 3, 10, 0, .null) := by decide +kernel
theorem i_29_8 : aIns 29 8 = some (.getfield 65, 3, 5, 4, .null) := by decide +kernel
theorem i_29_11 : aIns 29 11 = some (.if_icmp .lt 64, 3, 0, 0, .null) := by decide +kernel
theorem i_29_14 : aIns 29 14 = some (.aload_n 0, 1, 0, 0, .null) := by decide +kernel
theorem i_29_15 : aIns 29 15 = some (.getfield 12, 3, 2, 2, .null) := by decide +kernel
theorem i_29_18 : aIns 29 18 = some (.getfield 204, 3, 0, 0, .null) := by decide +kernel
theorem i_29_21 : aIns 29 21 = some (.ifCond .eq 39, 3, 0, 0, .null) := by decide +kernel
theorem i_29_24 : aIns 29 24 = some (.iload_n 3, 1, 0, 0, .null) := by decide +kernel
theorem i_29_25 : aIns 29 25 = some (.ineg, 1, 0, 0, .null) := by decide +kernel
theorem i_29_26 : aIns 29 26 = some (.aload_n 0, 1, 0, 0, .null) := by decide +kernel
theorem i_29_27 : aIns 29 27 = some (.getfield 12, 3, 2, 2, .null) := by decide +kernel
theorem i_29_30 : aIns 29 30 = some (.getfield 173, 3, 0, 1, .null) := by decide +kernel
theorem i_29_33 : aIns 29 33 = some (.if_icmp .lt 27, 3, 0, 0, .null) := by decide +kernel
theorem i_29_36 : aIns 29 36 = some (.iload_n 3, 1, 0, 0, .null) := by decide +kernel
theorem i_29_37 : aIns 29 37 = some (.ineg, 1, 0, 0, .null) := by decide +kernel
theorem i_29_38 : aIns 29 38 = some (.aload_n 0, 1, 0, 0, .null) := by decide +kernel
theorem i_29_39 : aIns 29 39 = some (.getfield 12, 3, 2, 2, .null) := by decide +kernel
theorem i_29_42 : aIns 29 42 = some (.getfield 173, 3, 0, 1, .null) := by decide +kernel
theorem i_29_45 : aIns 29 45 = some (.if_icmp .ne 29, 3, 0, 0, .null) := by decide +kernel
theorem i_29_48 : aIns 29 48 = some (.iload 4, 2, 0, 0, .null) := by decide +kernel
theorem i_29_50 : aIns 29 50 = some (.aload_n 0, 1, 0, 0, .null) := by decide +kernel
theorem i_29_51 : aIns 29 51 = some (.getfield 12, 3, 2, 2, .null) := by decide +kernel
theorem i_29_54 : aIns 29 54 = some (.invokevirtual 230, 3, 5, 0, .int 0) := by decide +kernel
theorem i_29_57 : aIns 29 57 = some (.if_icmp .ge 17, 3, 0, 0, .null) := by decide +kernel
theorem i_29_60 : aIns 29 60 = some (.aload_n 0, 1, 0, 0, .null) := by decide +kernel
theorem i_29_61 : aIns 29 61 = some (.getfield 12, 3, 2, 2, .null) := by decide +kernel
theorem i_29_64 : aIns 29 64 = some (.iload_n 3, 1, 0, 0, .null) := by decide +kernel
theorem i_29_65 : aIns 29 65 = some (.ineg, 1, 0, 0, .null) := by decide +kernel
theorem i_29_66 : aIns 29 66 = some (.aload_n 0, 1, 0, 0, .null) := by decide +kernel
theorem i_29_67 : aIns 29 67 = some (.getfield 18, 3, 2, 3, .null) := by decide +kernel
theorem i_29_70 : aIns 29 70 = some (.iload_n 1, 1, 0, 0, .null) := by decide +kernel
theorem i_29_71 : aIns 29 71 = some (.invokevirtual 233, 3, 3, 3, .int 0) := by decide +kernel
theorem i_29_74 : aIns 29 74 = some (.return_, 1, 0, 0, .null) := by decide +kernel
theorem i_29_75 : aIns 29 75 = some (.iload_n 2, 1, 0, 0, .null) := by decide +kernel
theorem i_29_76 : aIns 29 76 = some (.istore 5, 2, 0, 0, .null) := by decide +kernel
theorem i_29_78 : aIns 29 78 = some (.iload_n 3, 1, 0, 0, .null) := by decide +kernel
theorem i_29_79 : aIns 29 79 = some (.istore 6, 2, 0, 0, .null) := by decide +kernel
theorem i_29_81 : aIns 29 81 = some (.iconst 0, 1, 0, 0, .int (0)) := by decide +kernel
theorem i_29_82 : aIns 29 82 = some (.istore 7, 2, 0, 0, .null) := by decide +kernel
theorem i_29_84 : aIns 29 84 = some (.iload 7, 2, 0, 0, .null) := by decide +kernel
theorem i_29_86 : aIns 29 86 = some (.aload_n 0, 1, 0, 0, .null) := by decide +kernel
theorem i_29_87 : aIns 29 87 = some (.getfield 47, 3, 2, 0, .null) := by decide +kernel
theorem i_29_90 : aIns 29 90 = some (.getfield 76, 3, 10, 1, .null) := by decide +kernel
theorem i_29_93 : aIns 29 93 = some (.getfield 214, 3, 7, 4, .null) := by decide +kernel
theorem i_29_96 : aIns 29 96 = some (.iload_n 1, 1, 0, 0, .null) := by decide +kernel
theorem i_29_97 : aIns 29 97 = some (.iaload, 1, 0, 0, .null) := by decide +kernel
theorem i_29_98 : aIns 29 98 = some (.if_icmp .gt 91, 3, 0, 0, .null) := by decide +kernel
theorem i_29_101 : aIns 29 101 = some (.iload 7, 2, 0, 0, .null) := by decide +kernel
theorem i_29_103 : aIns 29 103 = some (.ifCond .le 56, 3, 0, 0, .null) := by decide +kernel
theorem i_29_106 : aIns 29 106 = some (.aload_n 0, 1, 0, 0, .null) := by decide +kernel
theorem i_29_107 : aIns 29 107 = some (.getfield 31, 3, 2, 7, .null) := by decide +kernel
theorem i_29_110 : aIns 29 110 = some (.iload_n 1, 1, 0, 0, .null) := by decide +kernel
theorem i_29_111 : aIns 29 111 = some (.dup2, 1, 0, 0, .null) := by decide +kernel
theorem i_29_112 : aIns 29 112 = some (.iaload, 1, 0, 0, .null) := by decide +kernel
theorem i_29_113 : aIns 29 113 = some (.iconst 1, 1, 0, 0, .int (1)) := by decide +kernel
theorem i_29_114 : aIns 29 114 = some (.isub, 1, 0, 0, .null) := by decide +kernel
theorem i_29_115 : aIns 29 115 = some (.iastore, 1, 0, 0, .null) := by decide +kernel
theorem i_29_116 : aIns 29 116 = some (.aload_n 0, 1, 0, 0, .null) := by decide +kernel
theorem i_29_117 : aIns 29 117 = some (.getfield 51, 3, 2, 1, .null) := by decide +kernel
theorem i_29_120 : aIns 29 120 = some (.iload_n 1, 1, 0, 0, .null) := by decide +kernel
theorem i_29_121 : aIns 29 121 = some (.aload_n 0, 1, 0, 0, .null) := by decide +kernel
theorem i_29_122 : aIns 29 122 = some (.getfield 31, 3, 2, 7, .null) := by decide +kernel
theorem i_29_125 : aIns 29 125 = some (.iload 5, 2, 0, 0, .null) := by decide +kernel
theorem i_29_127 : aIns 29 127 = some (.invokevirtual 236, 3, 96, 3, .int 9) := by decide +kernel
theorem i_29_130 : aIns 29 130 = some (.istore 8, 2, 0, 0, .null) := by decide +kernel
theorem i_29_132 : aIns 29 132 = some (.iload 5, 2, 0, 0, .null) := by decide +kernel
theorem i_29_134 : aIns 29 134 = some (.iload 8, 2, 0, 0, .null) := by decide +kernel
theorem i_29_136 : aIns 29 136 = some (.isub, 1, 0, 0, .null) := by decide +kernel
theorem i_29_137 : aIns 29 137 = some (.istore 5, 2, 0, 0, .null) := by decide +kernel
theorem i_29_139 : aIns 29 139 = some (.iload 6, 2, 0, 0, .null) := by decide +kernel
theorem i_29_141 : aIns 29 141 = some (.iload 8, 2, 0, 0, .null) := by decide +kernel
theorem i_29_143 : aIns 29 143 = some (.aload_n 0, 1, 0, 0, .null) := by decide +kernel
theorem i_29_144 : aIns 29 144 = some (.getfield 47, 3, 2, 0, .null) := by decide +kernel
theorem i_29_147 : aIns 29 147 = some (.getfield 59, 3, 10, 0, .null) := by decide +kernel
theorem i_29_150 : aIns 29 150 = some (.getfield 160, 3, 5, 6, .null) := by decide +kernel
theorem i_29_153 : aIns 29 153 = some (.iload_n 1, 1, 0, 0, .null) := by decide +kernel
theorem i_29_154 : aIns 29 154 = some (.iaload, 1, 0, 0, .null) := by decide +kernel
theorem i_29_155 : aIns 29 155 = some (.isub, 1, 0, 0, .null) := by decide +kernel
theorem i_29_156 : aIns 29 156 = some (.iadd, 1, 0, 0, .null) := by decide +kernel
theorem i_29_157 : aIns 29 157 = some (.istore 6, 2, 0, 0, .null) := by decide +kernel
theorem i_29_159 : aIns 29 159 = some (.aload_n 0, 1, 0, 0, .null) := by decide +kernel
theorem i_29_160 : aIns 29 160 = some (.getfield 18, 3, 2, 3, .null) := by decide +kernel
theorem i_29_163 : aIns 29 163 = some (.iload_n 1, 1, 0, 0, .null) := by decide +kernel
theorem i_29_164 : aIns 29 164 = some (.iload 7, 2, 0, 0, .null) := by decide +kernel
theorem i_29_166 : aIns 29 166 = some (.iastore, 1, 0, 0, .null) := by decide +kernel
theorem i_29_167 : aIns 29 167 = some (.aload_n 0, 1, 0, 0, .null) := by decide +kernel
theorem i_29_168 : aIns 29 168 = some (.iload_n 1, 1, 0, 0, .null) := by decide +kernel
theorem i_29_169 : aIns 29 169 = some (.iconst 1, 1, 0, 0, .int (1)) := by decide +kernel
theorem i_29_170 : aIns 29 170 = some (.iadd, 1, 0, 0, .null) := by decide +kernel
theorem i_29_171 : aIns 29 171 = some (.iload 5, 2, 0, 0, .null) := by decide +kernel
theorem i_29_173 : aIns 29 173 = some (.iload 6, 2, 0, 0, .null) := by decide +kernel
theorem i_29_175 : aIns 29 175 = some (.iload 4, 2, 0, 0, .null) := by decide +kernel
theorem i_29_177 : aIns 29 177 = some (.iload 7, 2, 0, 0, .null) := by decide +kernel
theorem i_29_179 : aIns 29 179 = some (.iadd, 1, 0, 0, .null) := by decide +kernel
theorem i_29_180 : aIns 29 180 = some (.invokevirtual 226, 3, 29, 4, .int 2) := by decide +kernel
theorem i_29_183 : aIns 29 183 = some (.iinc 7 1, 3, 0, 0, .null) := by decide +kernel
theorem i_29_186 : aIns 29 186 = some (.goto (-102), 3, 0, 0, .null) := by decide +kernel
theorem i_29_189 : aIns 29 189 = some (.aload_n 0, 1, 0, 0, .null) := by decide +kernel
theorem i_29_190 : aIns 29 190 = some (.getfield 31, 3, 2, 7, .null) := by decide +kernel
theorem i_29_193 : aIns 29 193 = some (.iload_n 1, 1, 0, 0, .null) := by decide +kernel
theorem i_29_194 : aIns 29 194 = some (.aload_n 0, 1, 0, 0, .null) := by decide +kernel
theorem i_29_195 : aIns 29 195 = some (.getfield 47, 3, 2, 0, .null) := by decide +kernel
theorem i_29_198 : aIns 29 198 = some (.getfield 76, 3, 10, 1, .null) := by decide +kernel
theorem i_29_201 : aIns 29 201 = some (.getfield 214, 3, 7, 4, .null) := by decide +kernel
theorem i_29_204 : aIns 29 204 = some (.iload_n 1, 1, 0, 0, .null) := by decide +kernel
theorem i_29_205 : aIns 29 205 = some (.iaload, 1, 0, 0, .null) := by decide +kernel
theorem i_29_206 : aIns 29 206 = some (.iastore, 1, 0, 0, .null) := by decide +kernel
theorem i_29_207 : aIns 29 207 = some (.return_, 1, 0, 0, .null) := by decide +kernel
theorem i_30_0 : aIns 30 0 = some (.aload_n 0, 1, 0, 0, .null) := by decide +kernel
theorem i_30_1 : aIns 30 1 = some (.getfield 12, 3, 2, 2, .null) := by decide +kernel
theorem i_30_4 : aIns 30 4 = some (.invokevirtual 89, 3, 1, 0, .int 0) := by decide +kernel
theorem i_30_7 : aIns 30 7 = some (.aload_n 0, 1, 0, 0, .null) := by decide +kernel
theorem i_30_8 : aIns 30 8 = some (.iload_n 2, 1, 0, 0, .null) := by decide +kernel
theorem i_30_9 : aIns 30 9 = some (.invokevirtual 95, 3, 12, 1, .int 2) := by decide +kernel
theorem i_30_12 : aIns 30 12 = some (.aload_n 0, 1, 0, 0, .null) := by decide +kernel
theorem i_30_13 : aIns 30 13 = some (.iconst 0, 1, 0, 0, .int (0)) := by decide +kernel
theorem i_30_14 : aIns 30 14 = some (.putfield 240, 3, 2, 15, .null) := by decide +kernel
theorem i_30_17 : aIns 30 17 = some (.aload_n 0, 1, 0, 0, .null) := by decide +kernel
theorem i_30_18 : aIns 30 18 = some (.sipush 255, 3, 0, 0, .int (255)) := by decide +kernel
theorem i_30_21 : aIns 30 21 = some (.putfield 243, 3, 2, 16, .null) := by decide +kernel
theorem i_30_24 : aIns 30 24 = some (.iconst 1, 1, 0, 0, .int (1)) := by decide +kernel
theorem i_30_25 : aIns 30 25 = some (.istore_n 3, 1, 0, 0, .null) := by decide +kernel
theorem i_30_26 : aIns 30 26 = some (.iload_n 3, 1, 0, 0, .null) := by decide +kernel
theorem i_30_27 : aIns 30 27 = some (.iconst 4, 1, 0, 0, .int (4)) := by decide +kernel
theorem i_30_28 : aIns 30 28 = some (.if_icmp .gt 97, 3, 0, 0, .null) := by decide +kernel
theorem i_30_31 : aIns 30 31 = some (.aload_n 0, 1, 0, 0, .null) := by decide +kernel
theorem i_30_32 : aIns 30 32 = some (.iload_n 3, 1, 0, 0, .null) := by decide +kernel
theorem i_30_33 : aIns 30 33 = some (.invokevirtual 124, 3, 16, 1, .int 2) := by decide +kernel
theorem i_30_36 : aIns 30 36 = some (.istore 4, 2, 0, 0, .null) := by decide +kernel
theorem i_30_38 : aIns 30 38 = some (.iconst 0, 1, 0, 0, .int (0)) := by decide +kernel
theorem i_30_39 : aIns 30 39 = some (.istore 5, 2, 0, 0, .null) := by decide +kernel
theorem i_30_41 : aIns 30 41 = some (.iload 4, 2, 0, 0, .null) := by decide +kernel
theorem i_30_43 : aIns 30 43 = some (.ifCond .eq 76, 3, 0, 0, .null) := by decide +kernel
theorem i_30_46 : aIns 30 46 = some (.iload 5, 2, 0, 0, .null) := by decide +kernel
theorem i_30_48 : aIns 30 48 = some (.ldc 127, 2, 0, 0, .int (1000000)) := by decide +kernel
theorem i_30_50 : aIns 30 50 = some (.if_icmp .ge 69, 3, 0, 0, .null) := by decide +kernel
theorem i_30_53 : aIns 30 53 = some (.aload_n 0, 1, 0, 0, .null) := by decide +kernel
theorem i_30_54 : aIns 30 54 = some (.getfield 51, 3, 2, 1, .null) := by decide +kernel
theorem i_30_57 : aIns 30 57 = some (.aload_n 0, 1, 0, 0, .null) := by decide +kernel
theorem i_30_58 : aIns 30 58 = some (.iload_n 3, 1, 0, 0, .null) := by decide +kernel
theorem i_30_59 : aIns 30 59 = some (.invokevirtual 150, 3, 20, 1, .int 2) := by decide +kernel
theorem i_30_62 : aIns 30 62 = some (.invokevirtual 197, 3, 95, 1, .int 9) := by decide +kernel
theorem i_30_65 : aIns 30 65 = some (.iload_n 1, 1, 0, 0, .null) := by decide +kernel
theorem i_30_66 : aIns 30 66 = some (.if_icmp .ne 40, 3, 0, 0, .null) := by decide +kernel
theorem i_30_69 : aIns 30 69 = some (.aload_n 0, 1, 0, 0, .null) := by decide +kernel
theorem i_30_70 : aIns 30 70 = some (.getfield 12, 3, 2, 2, .null) := by decide +kernel
theorem i_30_73 : aIns 30 73 = some (.iload_n 1, 1, 0, 0, .null) := by decide +kernel
theorem i_30_74 : aIns 30 74 = some (.aload_n 0, 1, 0, 0, .null) := by decide +kernel
theorem i_30_75 : aIns 30 75 = some (.getfield 18, 3, 2, 3, .null) := by decide +kernel
theorem i_30_78 : aIns 30 78 = some (.iload_n 3, 1, 0, 0, .null) := by decide +kernel
theorem i_30_79 : aIns 30 79 = some (.invokevirtual 109, 3, 2, 3, .int 0) := by decide +kernel
theorem i_30_82 : aIns 30 82 = some (.aload_n 0, 1, 0, 0, .null) := by decide +kernel
theorem i_30_83 : aIns 30 83 = some (.dup, 1, 0, 0, .null) := by decide +kernel
theorem i_30_84 : aIns 30 84 = some (.getfield 240, 3, 2, 15, .null) := by decide +kernel
theorem i_30_87 : aIns 30 87 = some (.iconst 1, 1, 0, 0, .int (1)) := by decide +kernel
theorem i_30_88 : aIns 30 88 = some (.iadd, 1, 0, 0, .null) := by decide +kernel
theorem i_30_89 : aIns 30 89 = some (.putfield 240, 3, 2, 15, .null) := by decide +kernel
theorem i_30_92 : aIns 30 92 = some (.aload_n 0, 1, 0, 0, .null) := by decide +kernel
theorem i_30_93 : aIns 30 93 = some (.dup, 1, 0, 0, .null) := by decide +kernel
theorem i_30_94 : aIns 30 94 = some (.getfield 243, 3, 2, 16, .null) := by decide +kernel
theorem i_30_97 : aIns 30 97 = some (.aload_n 0, 1, 0, 0, .null) := by decide +kernel
theorem i_30_98 : aIns 30 98 = some (.iload_n 3, 1, 0, 0, .null) := by decide +kernel
theorem i_30_99 : aIns 30 99 = some (.invokevirtual 246, 3, 31, 1, .int 2) := by decide +kernel
theorem i_30_102 : aIns 30 102 = some (.iand, 1, 0, 0, .null) := by decide +kernel
theorem i_30_103 : aIns 30 103 = some (.putfield 243, 3, 2, 16, .null) := by decide +kernel
theorem i_30_106 : aIns 30 106 = some (.aload_n 0, 1, 0, 0, .null) := by decide +kernel
theorem i_30_107 : aIns 30 107 = some (.iload_n 3, 1, 0, 0, .null) := by decide +kernel
theorem i_30_108 : aIns 30 108 = some (.invokevirtual 138, 3, 17, 1, .int 2) := by decide +kernel
theorem i_30_111 : aIns 30 111 = some (.istore 4, 2, 0, 0, .null) := by decide +kernel
theorem i_30_113 : aIns 30 113 = some (.iinc 5 1, 3, 0, 0, .null) := by decide +kernel
theorem i_30_116 : aIns 30 116 = some (.goto (-75), 3, 0, 0, .null) := by decide +kernel
theorem i_30_119 : aIns 30 119 = some (.iinc 3 1, 3, 0, 0, .null) := by decide +kernel
theorem i_30_122 : aIns 30 122 = some (.goto (-96), 3, 0, 0, .null) := by decide +kernel
theorem i_30_125 : aIns 30 125 = some (.aload_n 0, 1, 0, 0, .null) := by decide +kernel
theorem i_30_126 : aIns 30 126 = some (.getfield 240, 3, 2, 15, .null) := by decide +kernel
theorem i_30_129 : aIns 30 129 = some (.ifCond .ne 8, 3, 0, 0, .null) := by decide +kernel
theorem i_30_132 : aIns 30 132 = some (.aload_n 0, 1, 0, 0, .null) := by decide +kernel
theorem i_30_133 : aIns 30 133 = some (.iconst 0, 1, 0, 0, .int (0)) := by decide +kernel
theorem i_30_134 : aIns 30 134 = some (.putfield 243, 3, 2, 16, .null) := by decide +kernel
theorem i_30_137 : aIns 30 137 = some (.return_, 1, 0, 0, .null) := by decide +kernel
theorem i_31_0 : aIns 31 0 = some (.iconst 0, 1, 0, 0, .int (0)) := by decide +kernel
theorem i_31_1 : aIns 31 1 = some (.istore_n 2, 1, 0, 0, .null) := by decide +kernel
theorem i_31_2 : aIns 31 2 = some (.iconst 0, 1, 0, 0, .int (0)) := by decide +kernel
theorem i_31_3 : aIns 31 3 = some (.istore_n 3, 1, 0, 0, .null) := by decide +kernel
theorem i_31_4 : aIns 31 4 = some (.iload_n 3, 1, 0, 0, .null) := by decide +kernel
theorem i_31_5 : aIns 31 5 = some (.iload_n 1, 1, 0, 0, .null) := by decide +kernel
theorem i_31_6 : aIns 31 6 = some (.if_icmp .ge 20, 3, 0, 0, .null) := by decide +kernel
theorem i_31_9 : aIns 31 9 = some (.iload_n 2, 1, 0, 0, .null) := by decide +kernel
theorem i_31_10 : aIns 31 10 = some (.iconst 1, 1, 0, 0, .int (1)) := by decide +kernel
theorem i_31_11 : aIns 31 11 = some (.aload_n 0, 1, 0, 0, .null) := by decide +kernel
theorem i_31_12 : aIns 31 12 = some (.getfield 18, 3, 2, 3, .null) := by decide +kernel
theorem i_31_15 : aIns 31 15 = some (.iload_n 3, 1, 0, 0, .null) := by decide +kernel
theorem i_31_16 : aIns 31 16 = some (.iaload, 1, 0, 0, .null) := by decide +kernel
theorem i_31_17 : aIns 31 17 = some (.ishl, 1, 0, 0, .null) := by decide +kernel
theorem i_31_18 : aIns 31 18 = some (.ior, 1, 0, 0, .null) := by decide +kernel
theorem i_31_19 : aIns 31 19 = some (.istore_n 2, 1, 0, 0, .null) := by decide +kernel
theorem i_31_20 : aIns 31 20 = some (.iinc 3 1, 3, 0, 0, .null) := by decide +kernel
theorem i_31_23 : aIns 31 23 = some (.goto (-19), 3, 0, 0, .null) := by decide +kernel
theorem i_31_26 : aIns 31 26 = some (.iload_n 2, 1, 0, 0, .null) := by decide +kernel
theorem i_31_27 : aIns 31 27 = some (.ireturn, 1, 0, 0, .null) := by decide +kernel
theorem i_32_0 : aIns 32 0 = some (.aload_n 0, 1, 0, 0, .null) := by decide +kernel
theorem i_32_1 : aIns 32 1 = some (.iconst 0, 1, 0, 0, .int (0)) := by decide +kernel
theorem i_32_2 : aIns 32 2 = some (.putfield 249, 3, 2, 17, .null) := by decide +kernel
theorem i_32_5 : aIns 32 5 = some (.iconst (-1), 1, 0, 0, .int (-1)) := by decide +kernel
theorem i_32_6 : aIns 32 6 = some (.istore_n 1, 1, 0, 0, .null) := by decide +kernel
theorem i_32_7 : aIns 32 7 = some (.iload_n 1, 1, 0, 0, .null) := by decide +kernel
theorem i_32_8 : aIns 32 8 = some (.aload_n 0, 1, 0, 0, .null) := by decide +kernel
theorem i_32_9 : aIns 32 9 = some (.getfield 51, 3, 2, 1, .null) := by decide +kernel
theorem i_32_12 : aIns 32 12 = some (.getfield 252, 3, 9, 2, .null) := by decide +kernel
theorem i_32_15 : aIns 32 15 = some (.if_icmp .ge 37, 3, 0, 0, .null) := by decide +kernel
theorem i_32_18 : aIns 32 18 = some (.aload_n 0, 1, 0, 0, .null) := by decide +kernel
theorem i_32_19 : aIns 32 19 = some (.iload_n 1, 1, 0, 0, .null) := by decide +kernel
theorem i_32_20 : aIns 32 20 = some (.invokevirtual 255, 3, 33, 1, .int 2) := by decide +kernel
theorem i_32_23 : aIns 32 23 = some (.ifCond .eq 23, 3, 0, 0, .null) := by decide +kernel
theorem i_32_26 : aIns 32 26 = some (.aload_n 0, 1, 0, 0, .null) := by decide +kernel
theorem i_32_27 : aIns 32 27 = some (.getfield 34, 3, 2, 8, .null) := by decide +kernel
theorem i_32_30 : aIns 32 30 = some (.aload_n 0, 1, 0, 0, .null) := by decide +kernel
theorem i_32_31 : aIns 32 31 = some (.getfield 249, 3, 2, 17, .null) := by decide +kernel
theorem i_32_34 : aIns 32 34 = some (.iload_n 1, 1, 0, 0, .null) := by decide +kernel
theorem i_32_35 : aIns 32 35 = some (.iastore, 1, 0, 0, .null) := by decide +kernel
theorem i_32_36 : aIns 32 36 = some (.aload_n 0, 1, 0, 0, .null) := by decide +kernel
theorem i_32_37 : aIns 32 37 = some (.dup, 1, 0, 0, .null) := by decide +kernel
theorem i_32_38 : aIns 32 38 = some (.getfield 249, 3, 2, 17, .null) := by decide +kernel
theorem i_32_41 : aIns 32 41 = some (.iconst 1, 1, 0, 0, .int (1)) := by decide +kernel
theorem i_32_42 : aIns 32 42 = some (.iadd, 1, 0, 0, .null) := by decide +kernel
theorem i_32_43 : aIns 32 43 = some (.putfield 249, 3, 2, 17, .null) := by decide +kernel
theorem i_32_46 : aIns 32 46 = some (.iinc 1 1, 3, 0, 0, .null) := by decide +kernel
theorem i_32_49 : aIns 32 49 = some (.goto (-42), 3, 0, 0, .null) := by decide +kernel
theorem i_32_52 : aIns 32 52 = some (.return_, 1, 0, 0, .null) := by decide +kernel
theorem i_33_0 : aIns 33 0 = some (.iconst 0, 1, 0, 0, .int (0)) := by decide +kernel
theorem i_33_1 : aIns 33 1 = some (.istore_n 2, 1, 0, 0, .null) := by decide +kernel
theorem i_33_2 : aIns 33 2 = some (.iload_n 2, 1, 0, 0, .null) := by decide +kernel
theorem i_33_3 : aIns 33 3 = some (.aload_n 0, 1, 0, 0, .null) := by decide +kernel
theorem i_33_4 : aIns 33 4 = some (.getfield 47, 3, 2, 0, .null) := by decide +kernel
theorem i_33_7 : aIns 33 7 = some (.getfield 258, 3, 10, 8, .null) := by decide +kernel
theorem i_33_10 : aIns 33 10 = some (.if_icmp .ge 67, 3, 0, 0, .null) := by decide +kernel
theorem i_33_13 : aIns 33 13 = some (.aload_n 0, 1, 0, 0, .null) := by decide +kernel
theorem i_33_14 : aIns 33 14 = some (.getfield 51, 3, 2, 1, .null) := by decide +kernel
theorem i_33_17 : aIns 33 17 = some (.aload_n 0, 1, 0, 0, .null) := by decide +kernel
theorem i_33_18 : aIns 33 18 = some (.getfield 47, 3, 2, 0, .null) := by decide +kernel
theorem i_33_21 : aIns 33 21 = some (.getfield 76, 3, 10, 1, .null) := by decide +kernel
theorem i_33_24 : aIns 33 24 = some (.iload_n 1, 1, 0, 0, .null) := by decide +kernel
theorem i_33_25 : aIns 33 25 = some (.aload_n 0, 1, 0, 0, .null) := by decide +kernel
theorem i_33_26 : aIns 33 26 = some (.getfield 47, 3, 2, 0, .null) := by decide +kernel
theorem i_33_29 : aIns 33 29 = some (.getfield 261, 3, 10, 4, .null) := by decide +kernel
theorem i_33_32 : aIns 33 32 = some (.iload_n 2, 1, 0, 0, .null) := by decide +kernel
theorem i_33_33 : aIns 33 33 = some (.iaload, 1, 0, 0, .null) := by decide +kernel
theorem i_33_34 : aIns 33 34 = some (.aload_n 0, 1, 0, 0, .null) := by decide +kernel
theorem i_33_35 : aIns 33 35 = some (.getfield 47, 3, 2, 0, .null) := by decide +kernel
theorem i_33_38 : aIns 33 38 = some (.getfield 264, 3, 10, 5, .null) := by decide +kernel
theorem i_33_41 : aIns 33 41 = some (.iload_n 2, 1, 0, 0, .null) := by decide +kernel
theorem i_33_42 : aIns 33 42 = some (.iaload, 1, 0, 0, .null) := by decide +kernel
theorem i_33_43 : aIns 33 43 = some (.aload_n 0, 1, 0, 0, .null) := by decide +kernel
theorem i_33_44 : aIns 33 44 = some (.getfield 47, 3, 2, 0, .null) := by decide +kernel
theorem i_33_47 : aIns 33 47 = some (.getfield 267, 3, 10, 6, .null) := by decide +kernel
theorem i_33_50 : aIns 33 50 = some (.iload_n 2, 1, 0, 0, .null) := by decide +kernel
theorem i_33_51 : aIns 33 51 = some (.iaload, 1, 0, 0, .null) := by decide +kernel
theorem i_33_52 : aIns 33 52 = some (.invokevirtual 270, 3, 89, 5, .int 9) := by decide +kernel
theorem i_33_55 : aIns 33 55 = some (.istore_n 3, 1, 0, 0, .null) := by decide +kernel
theorem i_33_56 : aIns 33 56 = some (.iload_n 3, 1, 0, 0, .null) := by decide +kernel
theorem i_33_57 : aIns 33 57 = some (.aload_n 0, 1, 0, 0, .null) := by decide +kernel
theorem i_33_58 : aIns 33 58 = some (.getfield 47, 3, 2, 0, .null) := by decide +kernel
theorem i_33_61 : aIns 33 61 = some (.getfield 274, 3, 10, 7, .null) := by decide +kernel
theorem i_33_64 : aIns 33 64 = some (.iload_n 2, 1, 0, 0, .null) := by decide +kernel
theorem i_33_65 : aIns 33 65 = some (.iaload, 1, 0, 0, .null) := by decide +kernel
theorem i_33_66 : aIns 33 66 = some (.if_icmp .eq 5, 3, 0, 0, .null) := by decide +kernel
theorem i_33_69 : aIns 33 69 = some (.iconst 0, 1, 0, 0, .int (0)) := by decide +kernel
theorem i_33_70 : aIns 33 70 = some (.ireturn, 1, 1, 0, .null) := by decide +kernel
theorem i_33_71 : aIns 33 71 = some (.iinc 2 1, 3, 0, 0, .null) := by decide +kernel
theorem i_33_74 : aIns 33 74 = some (.goto (-72), 3, 0, 0, .null) := by decide +kernel
theorem i_33_77 : aIns 33 77 = some (.iconst 1, 1, 0, 0, .int (1)) := by decide +kernel
theorem i_33_78 : aIns 33 78 = some (.ireturn, 1, 1, 0, .null) := by decide +kernel
theorem i_34_0 : aIns 34 0 = some (.aload_n 0, 1, 0, 0, .null) := by decide +kernel
theorem i_34_1 : aIns 34 1 = some (.getfield 12, 3, 2, 2, .null) := by decide +kernel
theorem i_34_4 : aIns 34 4 = some (.invokevirtual 89, 3, 1, 0, .int 0) := by decide +kernel
theorem i_34_7 : aIns 34 7 = some (.iconst 0, 1, 0, 0, .int (0)) := by decide +kernel
theorem i_34_8 : aIns 34 8 = some (.istore_n 3, 1, 0, 0, .null) := by decide +kernel
theorem i_34_9 : aIns 34 9 = some (.iload_n 3, 1, 0, 0, .null) := by decide +kernel
theorem i_34_10 : aIns 34 10 = some (.bipush 9, 2, 0, 0, .int (9)) := by decide +kernel
theorem i_34_12 : aIns 34 12 = some (.if_icmp .gt 81, 3, 0, 0, .null) := by decide +kernel
theorem i_34_15 : aIns 34 15 = some (.iconst 0, 1, 0, 0, .int (0)) := by decide +kernel
theorem i_34_16 : aIns 34 16 = some (.istore 4, 2, 0, 0, .null) := by decide +kernel
theorem i_34_18 : aIns 34 18 = some (.iload 4, 2, 0, 0, .null) := by decide +kernel
theorem i_34_20 : aIns 34 20 = some (.aload_n 0, 1, 0, 0, .null) := by decide +kernel
theorem i_34_21 : aIns 34 21 = some (.getfield 249, 3, 2, 17, .null) := by decide +kernel
theorem i_34_24 : aIns 34 24 = some (.if_icmp .ge 40, 3, 0, 0, .null) := by decide +kernel
theorem i_34_27 : aIns 34 27 = some (.aload_n 0, 1, 0, 0, .null) := by decide +kernel
theorem i_34_28 : aIns 34 28 = some (.getfield 37, 3, 2, 9, .null) := by decide +kernel
theorem i_34_31 : aIns 34 31 = some (.iload 4, 2, 0, 0, .null) := by decide +kernel
theorem i_34_33 : aIns 34 33 = some (.aload_n 0, 1, 0, 0, .null) := by decide +kernel
theorem i_34_34 : aIns 34 34 = some (.getfield 51, 3, 2, 1, .null) := by decide +kernel
theorem i_34_37 : aIns 34 37 = some (.aload_n 0, 1, 0, 0, .null) := by decide +kernel
theorem i_34_38 : aIns 34 38 = some (.getfield 47, 3, 2, 0, .null) := by decide +kernel
theorem i_34_41 : aIns 34 41 = some (.getfield 76, 3, 10, 1, .null) := by decide +kernel
theorem i_34_44 : aIns 34 44 = some (.aload_n 0, 1, 0, 0, .null) := by decide +kernel
theorem i_34_45 : aIns 34 45 = some (.getfield 34, 3, 2, 8, .null) := by decide +kernel
theorem i_34_48 : aIns 34 48 = some (.iload 4, 2, 0, 0, .null) := by decide +kernel
theorem i_34_50 : aIns 34 50 = some (.iaload, 1, 0, 0, .null) := by decide +kernel
theorem i_34_51 : aIns 34 51 = some (.iload_n 1, 1, 0, 0, .null) := by decide +kernel
theorem i_34_52 : aIns 34 52 = some (.iload_n 2, 1, 0, 0, .null) := by decide +kernel
theorem i_34_53 : aIns 34 53 = some (.iload_n 3, 1, 0, 0, .null) := by decide +kernel
theorem i_34_54 : aIns 34 54 = some (.invokevirtual 270, 3, 89, 5, .int 9) := by decide +kernel
theorem i_34_57 : aIns 34 57 = some (.iastore, 1, 0, 0, .null) := by decide +kernel
theorem i_34_58 : aIns 34 58 = some (.iinc 4 1, 3, 0, 0, .null) := by decide +kernel
theorem i_34_61 : aIns 34 61 = some (.goto (-43), 3, 0, 0, .null) := by decide +kernel
theorem i_34_64 : aIns 34 64 = some (.aload_n 0, 1, 0, 0, .null) := by decide +kernel
theorem i_34_65 : aIns 34 65 = some (.getfield 18, 3, 2, 3, .null) := by decide +kernel
theorem i_34_68 : aIns 34 68 = some (.iconst 0, 1, 0, 0, .int (0)) := by decide +kernel
theorem i_34_69 : aIns 34 69 = some (.iload_n 3, 1, 0, 0, .null) := by decide +kernel
theorem i_34_70 : aIns 34 70 = some (.iastore, 1, 0, 0, .null) := by decide +kernel
theorem i_34_71 : aIns 34 71 = some (.aload_n 0, 1, 0, 0, .null) := by decide +kernel
theorem i_34_72 : aIns 34 72 = some (.getfield 12, 3, 2, 2, .null) := by decide +kernel
theorem i_34_75 : aIns 34 75 = some (.aload_n 0, 1, 0, 0, .null) := by decide +kernel
theorem i_34_76 : aIns 34 76 = some (.invokevirtual 277, 3, 35, 0, .int 2) := by decide +kernel
theorem i_34_79 : aIns 34 79 = some (.aload_n 0, 1, 0, 0, .null) := by decide +kernel
theorem i_34_80 : aIns 34 80 = some (.getfield 18, 3, 2, 3, .null) := by decide +kernel
theorem i_34_83 : aIns 34 83 = some (.iconst 1, 1, 0, 0, .int (1)) := by decide +kernel
theorem i_34_84 : aIns 34 84 = some (.invokevirtual 109, 3, 2, 3, .int 0) := by decide +kernel
theorem i_34_87 : aIns 34 87 = some (.iinc 3 1, 3, 0, 0, .null) := by decide +kernel
theorem i_34_90 : aIns 34 90 = some (.goto (-81), 3, 0, 0, .null) := by decide +kernel
theorem i_34_93 : aIns 34 93 = some (.return_, 1, 0, 0, .null) := by decide +kernel
theorem i_35_0 : aIns 35 0 = some (.iconst 0, 1, 0, 0, .int (0)) := by decide +kernel
theorem i_35_1 : aIns 35 1 = some (.istore_n 1, 1, 0, 0, .null) := by decide +kernel
theorem i_35_2 : aIns 35 2 = some (.iconst 0, 1, 0, 0, .int (0)) := by decide +kernel
theorem i_35_3 : aIns 35 3 = some (.istore_n 2, 1, 0, 0, .null) := by decide +kernel
theorem i_35_4 : aIns 35 4 = some (.iload_n 2, 1, 0, 0, .null) := by decide +kernel
theorem i_35_5 : aIns 35 5 = some (.aload_n 0, 1, 0, 0, .null) := by decide +kernel
theorem i_35_6 : aIns 35 6 = some (.getfield 249, 3, 2, 17, .null) := by decide +kernel
theorem i_35_9 : aIns 35 9 = some (.if_icmp .ge 54, 3, 0, 0, .null) := by decide +kernel
theorem i_35_12 : aIns 35 12 = some (.iconst 0, 1, 0, 0, .int (0)) := by decide +kernel
theorem i_35_13 : aIns 35 13 = some (.istore_n 3, 1, 0, 0, .null) := by decide +kernel
theorem i_35_14 : aIns 35 14 = some (.iconst 0, 1, 0, 0, .int (0)) := by decide +kernel
theorem i_35_15 : aIns 35 15 = some (.istore 4, 2, 0, 0, .null) := by decide +kernel
theorem i_35_17 : aIns 35 17 = some (.iload 4, 2, 0, 0, .null) := by decide +kernel
theorem i_35_19 : aIns 35 19 = some (.aload_n 0, 1, 0, 0, .null) := by decide +kernel
theorem i_35_20 : aIns 35 20 = some (.getfield 249, 3, 2, 17, .null) := by decide +kernel
theorem i_35_23 : aIns 35 23 = some (.if_icmp .ge 28, 3, 0, 0, .null) := by decide +kernel
theorem i_35_26 : aIns 35 26 = some (.aload_n 0, 1, 0, 0, .null) := by decide +kernel
theorem i_35_27 : aIns 35 27 = some (.getfield 37, 3, 2, 9, .null) := by decide +kernel
theorem i_35_30 : aIns 35 30 = some (.iload 4, 2, 0, 0, .null) := by decide +kernel
theorem i_35_32 : aIns 35 32 = some (.iaload, 1, 0, 0, .null) := by decide +kernel
theorem i_35_33 : aIns 35 33 = some (.aload_n 0, 1, 0, 0, .null) := by decide +kernel
theorem i_35_34 : aIns 35 34 = some (.getfield 37, 3, 2, 9, .null) := by decide +kernel
theorem i_35_37 : aIns 35 37 = some (.iload_n 2, 1, 0, 0, .null) := by decide +kernel
theorem i_35_38 : aIns 35 38 = some (.iaload, 1, 0, 0, .null) := by decide +kernel
theorem i_35_39 : aIns 35 39 = some (.if_icmp .ne 6, 3, 0, 0, .null) := by decide +kernel
theorem i_35_42 : aIns 35 42 = some (.iinc 3 1, 3, 0, 0, .null) := by decide +kernel
theorem i_35_45 : aIns 35 45 = some (.iinc 4 1, 3, 0, 0, .null) := by decide +kernel
theorem i_35_48 : aIns 35 48 = some (.goto (-31), 3, 0, 0, .null) := by decide +kernel
theorem i_35_51 : aIns 35 51 = some (.iload_n 1, 1, 0, 0, .null) := by decide +kernel
theorem i_35_52 : aIns 35 52 = some (.iload_n 3, 1, 0, 0, .null) := by decide +kernel
theorem i_35_53 : aIns 35 53 = some (.invokestatic 192, 3, 1001, 0, .null) := by decide +kernel
theorem i_35_56 : aIns 35 56 = some (.istore_n 1, 1, 0, 0, .null) := by decide +kernel
theorem i_35_57 : aIns 35 57 = some (.iinc 2 1, 3, 0, 0, .null) := by decide +kernel
theorem i_35_60 : aIns 35 60 = some (.goto (-56), 3, 0, 0, .null) := by decide +kernel
theorem i_35_63 : aIns 35 63 = some (.iload_n 1, 1, 0, 0, .null) := by decide +kernel
theorem i_35_64 : aIns 35 64 = some (.ireturn, 1, 0, 0, .null) := by decide +kernel
theorem i_36_0 : aIns 36 0 = some (.aload_n 0, 1, 0, 0, .null) := by decide +kernel
theorem i_36_1 : aIns 36 1 = some (.getfield 12, 3, 2, 2, .null) := by decide +kernel
theorem i_36_4 : aIns 36 4 = some (.invokevirtual 89, 3, 1, 0, .int 0) := by decide +kernel
theorem i_36_7 : aIns 36 7 = some (.iconst 0, 1, 0, 0, .int (0)) := by decide +kernel
theorem i_36_8 : aIns 36 8 = some (.istore_n 2, 1, 0, 0, .null) := by decide +kernel
theorem i_36_9 : aIns 36 9 = some (.iload_n 2, 1, 0, 0, .null) := by decide +kernel
theorem i_36_10 : aIns 36 10 = some (.bipush 30, 2, 0, 0, .int (30)) := by decide +kernel
theorem i_36_12 : aIns 36 12 = some (.if_icmp .gt 53, 3, 0, 0, .null) := by decide +kernel
theorem i_36_15 : aIns 36 15 = some (.aload_n 0, 1, 0, 0, .null) := by decide +kernel
theorem i_36_16 : aIns 36 16 = some (.getfield 18, 3, 2, 3, .null) := by decide +kernel
theorem i_36_19 : aIns 36 19 = some (.iconst 0, 1, 0, 0, .int (0)) := by decide +kernel
theorem i_36_20 : aIns 36 20 = some (.aload_n 0, 1, 0, 0, .null) := by decide +kernel
theorem i_36_21 : aIns 36 21 = some (.getfield 47, 3, 2, 0, .null) := by decide +kernel
theorem i_36_24 : aIns 36 24 = some (.getfield 76, 3, 10, 1, .null) := by decide +kernel
theorem i_36_27 : aIns 36 27 = some (.getfield 92, 3, 7, 13, .null) := by decide +kernel
theorem i_36_30 : aIns 36 30 = some (.iload_n 2, 1, 0, 0, .null) := by decide +kernel
theorem i_36_31 : aIns 36 31 = some (.iadd, 1, 0, 0, .null) := by decide +kernel
theorem i_36_32 : aIns 36 32 = some (.iastore, 1, 0, 0, .null) := by decide +kernel
theorem i_36_33 : aIns 36 33 = some (.aload_n 0, 1, 0, 0, .null) := by decide +kernel
theorem i_36_34 : aIns 36 34 = some (.getfield 12, 3, 2, 2, .null) := by decide +kernel
theorem i_36_37 : aIns 36 37 = some (.aload_n 0, 1, 0, 0, .null) := by decide +kernel
theorem i_36_38 : aIns 36 38 = some (.getfield 51, 3, 2, 1, .null) := by decide +kernel
theorem i_36_41 : aIns 36 41 = some (.iload_n 1, 1, 0, 0, .null) := by decide +kernel
theorem i_36_42 : aIns 36 42 = some (.aload_n 0, 1, 0, 0, .null) := by decide +kernel
theorem i_36_43 : aIns 36 43 = some (.getfield 18, 3, 2, 3, .null) := by decide +kernel
theorem i_36_46 : aIns 36 46 = some (.iconst 0, 1, 0, 0, .int (0)) := by decide +kernel
theorem i_36_47 : aIns 36 47 = some (.iaload, 1, 0, 0, .null) := by decide +kernel
theorem i_36_48 : aIns 36 48 = some (.invokevirtual 70, 3, 90, 2, .int 9) := by decide +kernel
theorem i_36_51 : aIns 36 51 = some (.aload_n 0, 1, 0, 0, .null) := by decide +kernel
theorem i_36_52 : aIns 36 52 = some (.getfield 18, 3, 2, 3, .null) := by decide +kernel
theorem i_36_55 : aIns 36 55 = some (.iconst 1, 1, 0, 0, .int (1)) := by decide +kernel
theorem i_36_56 : aIns 36 56 = some (.invokevirtual 109, 3, 2, 3, .int 0) := by decide +kernel
theorem i_36_59 : aIns 36 59 = some (.iinc 2 1, 3, 0, 0, .null) := by decide +kernel
theorem i_36_62 : aIns 36 62 = some (.goto (-53), 3, 0, 0, .null) := by decide +kernel
theorem i_36_65 : aIns 36 65 = some (.return_, 1, 0, 0, .null) := by decide +kernel
theorem i_39_0 : aIns 39 0 = some (.iconst 0, 1, 0, 0, .int (0)) := by decide +kernel
theorem i_39_1 : aIns 39 1 = some (.istore_n 1, 1, 0, 0, .null) := by decide +kernel
theorem i_39_2 : aIns 39 2 = some (.iconst 0, 1, 0, 0, .int (0)) := by decide +kernel
theorem i_39_3 : aIns 39 3 = some (.istore_n 2, 1, 0, 0, .null) := by decide +kernel
theorem i_39_4 : aIns 39 4 = some (.iload_n 2, 1, 0, 0, .null) := by decide +kernel
theorem i_39_5 : aIns 39 5 = some (.aload_n 0, 1, 0, 0, .null) := by decide +kernel
theorem i_39_6 : aIns 39 6 = some (.getfield 47, 3, 2, 0, .null) := by decide +kernel
theorem i_39_9 : aIns 39 9 = some (.getfield 59, 3, 10, 0, .null) := by decide +kernel
theorem i_39_12 : aIns 39 12 = some (.getfield 65, 3, 5, 4, .null) := by decide +kernel
theorem i_39_15 : aIns 39 15 = some (.if_icmp .ge 69, 3, 0, 0, .null) := by decide +kernel
theorem i_39_18 : aIns 39 18 = some (.aload_n 0, 1, 0, 0, .null) := by decide +kernel
theorem i_39_19 : aIns 39 19 = some (.getfield 43, 3, 2, 10, .null) := by decide +kernel
theorem i_39_22 : aIns 39 22 = some (.getfield 79, 3, 7, 0, .null) := by decide +kernel
theorem i_39_25 : aIns 39 25 = some (.iload_n 2, 1, 0, 0, .null) := by decide +kernel
theorem i_39_26 : aIns 39 26 = some (.iaload, 1, 0, 0, .null) := by decide +kernel
theorem i_39_27 : aIns 39 27 = some (.ifCond .le 51, 3, 0, 0, .null) := by decide +kernel
theorem i_39_30 : aIns 39 30 = some (.iload_n 1, 1, 0, 0, .null) := by decide +kernel
theorem i_39_31 : aIns 39 31 = some (.aload_n 0, 1, 0, 0, .null) := by decide +kernel
theorem i_39_32 : aIns 39 32 = some (.getfield 43, 3, 2, 10, .null) := by decide +kernel
theorem i_39_35 : aIns 39 35 = some (.getfield 79, 3, 7, 0, .null) := by decide +kernel
theorem i_39_38 : aIns 39 38 = some (.iload_n 2, 1, 0, 0, .null) := by decide +kernel
theorem i_39_39 : aIns 39 39 = some (.iaload, 1, 0, 0, .null) := by decide +kernel
theorem i_39_40 : aIns 39 40 = some (.aload_n 0, 1, 0, 0, .null) := by decide +kernel
theorem i_39_41 : aIns 39 41 = some (.getfield 51, 3, 2, 1, .null) := by decide +kernel
theorem i_39_44 : aIns 39 44 = some (.aload_n 0, 1, 0, 0, .null) := by decide +kernel
theorem i_39_45 : aIns 39 45 = some (.getfield 43, 3, 2, 10, .null) := by decide +kernel
theorem i_39_48 : aIns 39 48 = some (.aload_n 0, 1, 0, 0, .null) := by decide +kernel
theorem i_39_49 : aIns 39 49 = some (.getfield 47, 3, 2, 0, .null) := by decide +kernel
theorem i_39_52 : aIns 39 52 = some (.getfield 313, 3, 10, 2, .null) := by decide +kernel
theorem i_39_55 : aIns 39 55 = some (.iload_n 2, 1, 0, 0, .null) := by decide +kernel
theorem i_39_56 : aIns 39 56 = some (.aload_n 0, 1, 0, 0, .null) := by decide +kernel
theorem i_39_57 : aIns 39 57 = some (.getfield 43, 3, 2, 10, .null) := by decide +kernel
theorem i_39_60 : aIns 39 60 = some (.getfield 92, 3, 7, 13, .null) := by decide +kernel
theorem i_39_63 : aIns 39 63 = some (.aload_n 0, 1, 0, 0, .null) := by decide +kernel
theorem i_39_64 : aIns 39 64 = some (.getfield 43, 3, 2, 10, .null) := by decide +kernel
theorem i_39_67 : aIns 39 67 = some (.getfield 316, 3, 7, 3, .null) := by decide +kernel
theorem i_39_70 : aIns 39 70 = some (.iload_n 2, 1, 0, 0, .null) := by decide +kernel
theorem i_39_71 : aIns 39 71 = some (.iaload, 1, 0, 0, .null) := by decide +kernel
theorem i_39_72 : aIns 39 72 = some (.invokevirtual 270, 3, 89, 5, .int 9) := by decide +kernel
theorem i_39_75 : aIns 39 75 = some (.imul, 1, 0, 0, .null) := by decide +kernel
theorem i_39_76 : aIns 39 76 = some (.iadd, 1, 0, 0, .null) := by decide +kernel
theorem i_39_77 : aIns 39 77 = some (.istore_n 1, 1, 0, 0, .null) := by decide +kernel
theorem i_39_78 : aIns 39 78 = some (.iinc 2 1, 3, 0, 0, .null) := by decide +kernel
theorem i_39_81 : aIns 39 81 = some (.goto (-77), 3, 0, 0, .null) := by decide +kernel
theorem i_39_84 : aIns 39 84 = some (.aload_n 0, 1, 0, 0, .null) := by decide +kernel
theorem i_39_85 : aIns 39 85 = some (.dup, 1, 0, 0, .null) := by decide +kernel
theorem i_39_86 : aIns 39 86 = some (.getfield 280, 3, 2, 18, .null) := by decide +kernel
theorem i_39_89 : aIns 39 89 = some (.aload_n 0, 1, 0, 0, .null) := by decide +kernel
theorem i_39_90 : aIns 39 90 = some (.getfield 51, 3, 2, 1, .null) := by decide +kernel
theorem i_39_93 : aIns 39 93 = some (.iload_n 1, 1, 0, 0, .null) := by decide +kernel
theorem i_39_94 : aIns 39 94 = some (.invokevirtual 197, 3, 95, 1, .int 9) := by decide +kernel
theorem i_39_97 : aIns 39 97 = some (.iadd, 1, 0, 0, .null) := by decide +kernel
theorem i_39_98 : aIns 39 98 = some (.putfield 280, 3, 2, 18, .null) := by decide +kernel
theorem i_39_101 : aIns 39 101 = some (.aload_n 0, 1, 0, 0, .null) := by decide +kernel
theorem i_39_102 : aIns 39 102 = some (.dup, 1, 0, 0, .null) := by decide +kernel
theorem i_39_103 : aIns 39 103 = some (.getfield 283, 3, 2, 19, .null) := by decide +kernel
theorem i_39_106 : aIns 39 106 = some (.aload_n 0, 1, 0, 0, .null) := by decide +kernel
theorem i_39_107 : aIns 39 107 = some (.getfield 43, 3, 2, 10, .null) := by decide +kernel
theorem i_39_110 : aIns 39 110 = some (.invokevirtual 82, 3, 73, 0, .int 7) := by decide +kernel
theorem i_39_113 : aIns 39 113 = some (.iadd, 1, 0, 0, .null) := by decide +kernel
theorem i_39_114 : aIns 39 114 = some (.putfield 283, 3, 2, 19, .null) := by decide +kernel
theorem i_39_117 : aIns 39 117 = some (.aload_n 0, 1, 0, 0, .null) := by decide +kernel
theorem i_39_118 : aIns 39 118 = some (.getfield 43, 3, 2, 10, .null) := by decide +kernel
theorem i_39_121 : aIns 39 121 = some (.invokevirtual 319, 3, 79, 0, .int 7) := by decide +kernel
theorem i_39_124 : aIns 39 124 = some (.return_, 1, 0, 0, .null) := by decide +kernel
theorem i_74_0 : aIns 74 0 = some (.aload_n 0, 1, 0, 0, .null) := by decide +kernel
theorem i_74_1 : aIns 74 1 = some (.getfield 9, 3, 7, 0, .null) := by decide +kernel
theorem i_74_4 : aIns 74 4 = some (.iload_n 1, 1, 0, 0, .null) := by decide +kernel
theorem i_74_5 : aIns 74 5 = some (.iaload, 1, 0, 0, .null) := by decide +kernel
theorem i_74_6 : aIns 74 6 = some (.aload_n 0, 1, 0, 0, .null) := by decide +kernel
theorem i_74_7 : aIns 74 7 = some (.getfield 15, 3, 7, 1, .null) := by decide +kernel
theorem i_74_10 : aIns 74 10 = some (.iload_n 1, 1, 0, 0, .null) := by decide +kernel
theorem i_74_11 : aIns 74 11 = some (.iaload, 1, 0, 0, .null) := by decide +kernel
theorem i_74_12 : aIns 74 12 = some (.if_icmp .ge 16, 3, 0, 0, .null) := by decide +kernel
theorem i_74_15 : aIns 74 15 = some (.aload_n 0, 1, 0, 0, .null) := by decide +kernel
theorem i_74_16 : aIns 74 16 = some (.invokevirtual 70, 3, 73, 0, .int 7) := by decide +kernel
theorem i_74_19 : aIns 74 19 = some (.bipush 12, 2, 0, 0, .int (12)) := by decide +kernel
theorem i_74_21 : aIns 74 21 = some (.if_icmp .ge 7, 3, 0, 0, .null) := by decide +kernel
theorem i_74_24 : aIns 74 24 = some (.iconst 1, 1, 0, 0, .int (1)) := by decide +kernel
theorem i_74_25 : aIns 74 25 = some (.goto 4, 3, 0, 0, .null) := by decide +kernel
theorem i_74_28 : aIns 74 28 = some (.iconst 0, 1, 0, 0, .int (0)) := by decide +kernel
theorem i_74_29 : aIns 74 29 = some (.ireturn, 1, 1, 0, .null) := by decide +kernel
theorem i_75_0 : aIns 75 0 = some (.aload_n 0, 1, 0, 0, .null) := by decide +kernel
theorem i_75_1 : aIns 75 1 = some (.getfield 21, 3, 7, 3, .null) := by decide +kernel
theorem i_75_4 : aIns 75 4 = some (.iload_n 1, 1, 0, 0, .null) := by decide +kernel
theorem i_75_5 : aIns 75 5 = some (.bipush 99, 2, 0, 0, .int (99)) := by decide +kernel
theorem i_75_7 : aIns 75 7 = some (.aload_n 0, 1, 0, 0, .null) := by decide +kernel
theorem i_75_8 : aIns 75 8 = some (.getfield 21, 3, 7, 3, .null) := by decide +kernel
theorem i_75_11 : aIns 75 11 = some (.iload_n 1, 1, 0, 0, .null) := by decide +kernel
theorem i_75_12 : aIns 75 12 = some (.iaload, 1, 0, 0, .null) := by decide +kernel
theorem i_75_13 : aIns 75 13 = some (.iconst 1, 1, 0, 0, .int (1)) := by decide +kernel
theorem i_75_14 : aIns 75 14 = some (.iadd, 1, 0, 0, .null) := by decide +kernel
theorem i_75_15 : aIns 75 15 = some (.invokestatic 74, 3, 1002, 0, .null) := by decide +kernel
theorem i_75_18 : aIns 75 18 = some (.iastore, 1, 0, 0, .null) := by decide +kernel
theorem i_75_19 : aIns 75 19 = some (.return_, 1, 0, 0, .null) := by decide +kernel
theorem i_79_0 : aIns 79 0 = some (.iconst 0, 1, 0, 0, .int (0)) := by decide +kernel
theorem i_79_1 : aIns 79 1 = some (.istore_n 1, 1, 0, 0, .null) := by decide +kernel
theorem i_79_2 : aIns 79 2 = some (.iload_n 1, 1, 0, 0, .null) := by decide +kernel
theorem i_79_3 : aIns 79 3 = some (.bipush 8, 2, 0, 0, .int (8)) := by decide +kernel
theorem i_79_5 : aIns 79 5 = some (.if_icmp .ge 46, 3, 0, 0, .null) := by decide +kernel
theorem i_79_8 : aIns 79 8 = some (.aload_n 0, 1, 0, 0, .null) := by decide +kernel
theorem i_79_9 : aIns 79 9 = some (.getfield 15, 3, 7, 1, .null) := by decide +kernel
theorem i_79_12 : aIns 79 12 = some (.iload_n 1, 1, 0, 0, .null) := by decide +kernel
theorem i_79_13 : aIns 79 13 = some (.dup2, 1, 0, 0, .null) := by decide +kernel
theorem i_79_14 : aIns 79 14 = some (.iaload, 1, 0, 0, .null) := by decide +kernel
theorem i_79_15 : aIns 79 15 = some (.aload_n 0, 1, 0, 0, .null) := by decide +kernel
theorem i_79_16 : aIns 79 16 = some (.getfield 9, 3, 7, 0, .null) := by decide +kernel
theorem i_79_19 : aIns 79 19 = some (.iload_n 1, 1, 0, 0, .null) := by decide +kernel
theorem i_79_20 : aIns 79 20 = some (.iaload, 1, 0, 0, .null) := by decide +kernel
theorem i_79_21 : aIns 79 21 = some (.isub, 1, 0, 0, .null) := by decide +kernel
theorem i_79_22 : aIns 79 22 = some (.iastore, 1, 0, 0, .null) := by decide +kernel
theorem i_79_23 : aIns 79 23 = some (.aload_n 0, 1, 0, 0, .null) := by decide +kernel
theorem i_79_24 : aIns 79 24 = some (.getfield 18, 3, 7, 2, .null) := by decide +kernel
theorem i_79_27 : aIns 79 27 = some (.iload_n 1, 1, 0, 0, .null) := by decide +kernel
theorem i_79_28 : aIns 79 28 = some (.dup2, 1, 0, 0, .null) := by decide +kernel
theorem i_79_29 : aIns 79 29 = some (.iaload, 1, 0, 0, .null) := by decide +kernel
theorem i_79_30 : aIns 79 30 = some (.aload_n 0, 1, 0, 0, .null) := by decide +kernel
theorem i_79_31 : aIns 79 31 = some (.getfield 9, 3, 7, 0, .null) := by decide +kernel
theorem i_79_34 : aIns 79 34 = some (.iload_n 1, 1, 0, 0, .null) := by decide +kernel
theorem i_79_35 : aIns 79 35 = some (.iaload, 1, 0, 0, .null) := by decide +kernel
theorem i_79_36 : aIns 79 36 = some (.iadd, 1, 0, 0, .null) := by decide +kernel
theorem i_79_37 : aIns 79 37 = some (.iastore, 1, 0, 0, .null) := by decide +kernel
theorem i_79_38 : aIns 79 38 = some (.aload_n 0, 1, 0, 0, .null) := by decide +kernel
theorem i_79_39 : aIns 79 39 = some (.getfield 9, 3, 7, 0, .null) := by decide +kernel
theorem i_79_42 : aIns 79 42 = some (.iload_n 1, 1, 0, 0, .null) := by decide +kernel
theorem i_79_43 : aIns 79 43 = some (.iconst 0, 1, 0, 0, .int (0)) := by decide +kernel
theorem i_79_44 : aIns 79 44 = some (.iastore, 1, 0, 0, .null) := by decide +kernel
theorem i_79_45 : aIns 79 45 = some (.iinc 1 1, 3, 0, 0, .null) := by decide +kernel
theorem i_79_48 : aIns 79 48 = some (.goto (-46), 3, 0, 0, .null) := by decide +kernel
theorem i_79_51 : aIns 79 51 = some (.return_, 1, 0, 0, .null) := by decide +kernel
theorem i_96_0 : aIns 96 0 = some (.aload_n 0, 1, 0, 0, .null) := by decide +kernel
theorem i_96_1 : aIns 96 1 = some (.getfield 21, 3, 9, 0, .null) := by decide +kernel
theorem i_96_4 : aIns 96 4 = some (.getfield 67, 3, 10, 1, .null) := by decide +kernel
theorem i_96_7 : aIns 96 7 = some (.astore 4, 2, 0, 0, .null) := by decide +kernel
theorem i_96_9 : aIns 96 9 = some (.aload_n 0, 1, 0, 0, .null) := by decide +kernel
theorem i_96_10 : aIns 96 10 = some (.getfield 21, 3, 9, 0, .null) := by decide +kernel
theorem i_96_13 : aIns 96 13 = some (.getfield 26, 3, 10, 0, .null) := by decide +kernel
theorem i_96_16 : aIns 96 16 = some (.getfield 126, 3, 5, 3, .null) := by decide +kernel
theorem i_96_19 : aIns 96 19 = some (.ifCond .ne 11, 3, 0, 0, .null) := by decide +kernel
theorem i_96_22 : aIns 96 22 = some (.aload 4, 2, 0, 0, .null) := by decide +kernel
theorem i_96_24 : aIns 96 24 = some (.getfield 130, 3, 7, 5, .null) := by decide +kernel
theorem i_96_27 : aIns 96 27 = some (.iload_n 1, 1, 0, 0, .null) := by decide +kernel
theorem i_96_28 : aIns 96 28 = some (.iaload, 1, 0, 0, .null) := by decide +kernel
theorem i_96_29 : aIns 96 29 = some (.ireturn, 1, 0, 0, .null) := by decide +kernel
theorem i_96_30 : aIns 96 30 = some (.iconst 0, 1, 0, 0, .int (0)) := by decide +kernel
theorem i_96_31 : aIns 96 31 = some (.istore 5, 2, 0, 0, .null) := by decide +kernel
theorem i_96_33 : aIns 96 33 = some (.iconst 0, 1, 0, 0, .int (0)) := by decide +kernel
theorem i_96_34 : aIns 96 34 = some (.istore 6, 2, 0, 0, .null) := by decide +kernel
theorem i_96_36 : aIns 96 36 = some (.iconst 0, 1, 0, 0, .int (0)) := by decide +kernel
theorem i_96_37 : aIns 96 37 = some (.istore 7, 2, 0, 0, .null) := by decide +kernel
theorem i_96_39 : aIns 96 39 = some (.iload 7, 2, 0, 0, .null) := by decide +kernel
theorem i_96_41 : aIns 96 41 = some (.bipush 8, 2, 0, 0, .int (8)) := by decide +kernel
theorem i_96_43 : aIns 96 43 = some (.if_icmp .ge 36, 3, 0, 0, .null) := by decide +kernel
theorem i_96_46 : aIns 96 46 = some (.iload 5, 2, 0, 0, .null) := by decide +kernel
theorem i_96_48 : aIns 96 48 = some (.aload_n 2, 1, 0, 0, .null) := by decide +kernel
theorem i_96_49 : aIns 96 49 = some (.iload 7, 2, 0, 0, .null) := by decide +kernel
theorem i_96_51 : aIns 96 51 = some (.iaload, 1, 0, 0, .null) := by decide +kernel
theorem i_96_52 : aIns 96 52 = some (.iadd, 1, 0, 0, .null) := by decide +kernel
theorem i_96_53 : aIns 96 53 = some (.istore 5, 2, 0, 0, .null) := by decide +kernel
theorem i_96_55 : aIns 96 55 = some (.iload 6, 2, 0, 0, .null) := by decide +kernel
theorem i_96_57 : aIns 96 57 = some (.aload_n 2, 1, 0, 0, .null) := by decide +kernel
theorem i_96_58 : aIns 96 58 = some (.iload 7, 2, 0, 0, .null) := by decide +kernel
theorem i_96_60 : aIns 96 60 = some (.iaload, 1, 0, 0, .null) := by decide +kernel
theorem i_96_61 : aIns 96 61 = some (.aload 4, 2, 0, 0, .null) := by decide +kernel
theorem i_96_63 : aIns 96 63 = some (.getfield 130, 3, 7, 5, .null) := by decide +kernel
theorem i_96_66 : aIns 96 66 = some (.iload 7, 2, 0, 0, .null) := by decide +kernel
theorem i_96_68 : aIns 96 68 = some (.iaload, 1, 0, 0, .null) := by decide +kernel
theorem i_96_69 : aIns 96 69 = some (.imul, 1, 0, 0, .null) := by decide +kernel
theorem i_96_70 : aIns 96 70 = some (.iadd, 1, 0, 0, .null) := by decide +kernel
theorem i_96_71 : aIns 96 71 = some (.istore 6, 2, 0, 0, .null) := by decide +kernel
theorem i_96_73 : aIns 96 73 = some (.iinc 7 1, 3, 0, 0, .null) := by decide +kernel
theorem i_96_76 : aIns 96 76 = some (.goto (-37), 3, 0, 0, .null) := by decide +kernel
theorem i_96_79 : aIns 96 79 = some (.iconst 0, 1, 0, 0, .int (0)) := by decide +kernel
theorem i_96_80 : aIns 96 80 = some (.iload_n 3, 1, 0, 0, .null) := by decide +kernel
theorem i_96_81 : aIns 96 81 = some (.aload_n 0, 1, 0, 0, .null) := by decide +kernel
theorem i_96_82 : aIns 96 82 = some (.iload 5, 2, 0, 0, .null) := by decide +kernel
theorem i_96_84 : aIns 96 84 = some (.iload 6, 2, 0, 0, .null) := by decide +kernel
theorem i_96_86 : aIns 96 86 = some (.aload 4, 2, 0, 0, .null) := by decide +kernel
theorem i_96_88 : aIns 96 88 = some (.getfield 133, 3, 7, 7, .null) := by decide +kernel
theorem i_96_91 : aIns 96 91 = some (.aload 4, 2, 0, 0, .null) := by decide +kernel
theorem i_96_93 : aIns 96 93 = some (.getfield 136, 3, 7, 9, .null) := by decide +kernel
theorem i_96_96 : aIns 96 96 = some (.aload_n 0, 1, 0, 0, .null) := by decide +kernel
theorem i_96_97 : aIns 96 97 = some (.getfield 21, 3, 9, 0, .null) := by decide +kernel
theorem i_96_100 : aIns 96 100 = some (.getfield 26, 3, 10, 0, .null) := by decide +kernel
theorem i_96_103 : aIns 96 103 = some (.getfield 106, 3, 5, 2, .null) := by decide +kernel
theorem i_96_106 : aIns 96 106 = some (.invokevirtual 109, 3, 94, 5, .int 9) := by decide +kernel
theorem i_96_109 : aIns 96 109 = some (.isub, 1, 0, 0, .null) := by decide +kernel
theorem i_96_110 : aIns 96 110 = some (.invokestatic 46, 3, 1001, 0, .null) := by decide +kernel
theorem i_96_113 : aIns 96 113 = some (.ireturn, 1, 0, 0, .null) := by decide +kernel
set_option maxHeartbeats 4000000 in
set_option maxRecDepth 100000 in
theorem l_26_ok {X : aX} {S : rS} {g : Nat} {d : Nat} (hdp : 11 ≤ d) : ∀ n, (∀ (x1 : Int32) (x2 : Int32) (m : cM) (zz : cM), l_26 g n 0 x1 x2 m = some zz → aWp X d 26 17 [some (.ref 71), some (.int x1), none] [] (hr m S) (fun w h' => w = none ∧ h' = hr zz S)) ∧ (∀ (x1 : Int32) (x2 : Int32) (m : cM) (zz : cM), l_26 g n 1 x1 x2 m = some zz → aWp X d 26 33 [some (.ref 71), some (.int x1), some (.int x2)] [] (hr m S) (fun w h' => w = none ∧ h' = hr zz S)) := by
  intro n
  induction n with
  | zero => exact ⟨fun _ _ _ _ hd => by simp [l_26] at hd, fun _ _ _ _ hd => by simp [l_26] at hd⟩
  | succ n ih =>
    refine ⟨?_, ?_⟩
    · intro x1 x2 m zz hd
      unfold l_26 at hd
      rw [if_pos rfl] at hd
      obtain ⟨e, rfl⟩ : ∃ e, d = e + 1 := ⟨d - 1, by omega⟩
      refine wp_s 18 [some (.ref 71), some (.int x1), none] [.int x1] _ i_26_17 rfl ?_
      refine wp_s 19 [some (.ref 71), some (.int x1), none] [.ref 71, .int x1] _ i_26_18 rfl ?_
      refine hm_get (w := .ref 5) 22 rfl i_26_19 (cb rfl) kk_71 rfl ?_
      obtain ⟨k_1, hd⟩ := dk_if hd
      refine hm_dyn 25 rfl i_26_22 (cb rfl) kk_5 (fun _ _ => rfl) (kd_ne0 (cO_iff k_1).2 (by decide)) ?_
      refine hm_get (w := .int (m.1 (m.2.2.1 5) 8)) 28 rfl i_26_25 (cO_iff k_1).1 (cO_iff k_1).2 rfl ?_
      refine wp_cmp_ge 91 31 rfl rfl i_26_28 (fun c_2 => ?_) (fun c_2 => ?_)
      · rw [if_pos c_2] at hd
        refine wp_s 92 [some (.ref 71), some (.int x1), none] [.ref 71] _ i_26_91 rfl ?_
        refine wp_s 93 [some (.ref 71), some (.int x1), none] [.int (0 : Int32), .ref 71] _ i_26_92 rfl ?_
        refine wp_s 94 [some (.ref 71), some (.int x1), none] [.int (0 : Int32), .int (0 : Int32), .ref 71] _ i_26_93 rfl ?_
        refine wp_s 95 [some (.ref 71), some (.int x1), none] [.int (0 : Int32), .int (0 : Int32), .int (0 : Int32), .ref 71] _ i_26_94 rfl ?_
        obtain ⟨z_3, q_4, hd⟩ := dk_bind hd
        refine wp_callV 98 rfl i_26_95 (by decide) rfl (vs := [.int (0 : Int32), .int (0 : Int32), .int (0 : Int32)]) (rest := []) rfl rfl rfl (hm_isO (cb rfl) kk_71) (y := m_27) rfl (Nat.le_of_ble_eq_true rfl) (d_27_ok (S := S) (d := e) (by omega) q_4) ?_
        rintro v_5 h_6 ⟨rfl, rfl⟩
        obtain rfl := Option.some.inj hd
        exact wp_ret i_26_98 rfl ⟨rfl, rfl⟩
      · rw [if_neg c_2] at hd
        refine wp_s 32 [some (.ref 71), some (.int x1), none] [.int (0 : Int32)] _ i_26_31 rfl ?_
        refine wp_s 33 [some (.ref 71), some (.int x1), some (.int (0 : Int32))] [] _ i_26_32 rfl ?_
        exact aWp.forget (ih.2 _ _ _ _ hd) (lvS (lvS (lvS lvE)))
    · intro x1 x2 m zz hd
      unfold l_26 at hd
      rw [if_neg (by decide), if_pos rfl] at hd
      obtain ⟨e, rfl⟩ : ∃ e, d = e + 1 := ⟨d - 1, by omega⟩
      refine wp_s 34 [some (.ref 71), some (.int x1), some (.int x2)] [.int x2] _ i_26_33 rfl ?_
      refine wp_s 35 [some (.ref 71), some (.int x1), some (.int x2)] [.int (4 : Int32), .int x2] _ i_26_34 rfl ?_
      refine wp_cmp_gt 85 38 rfl rfl i_26_35 (fun c_7 => ?_) (fun c_7 => ?_)
      · rw [if_pos c_7] at hd
        refine wp_s 88 [some (.ref 71), some (.int (x1 + (1 : Int32))), some (.int x2)] [] _ i_26_85 rfl ?_
        refine wp_s 17 [some (.ref 71), some (.int (x1 + (1 : Int32))), some (.int x2)] [] _ i_26_88 rfl ?_
        exact aWp.forget (ih.1 _ _ _ _ hd) (lvS (lvS (lvN lvE)))
      · rw [if_neg c_7] at hd
        refine wp_s 39 [some (.ref 71), some (.int x1), some (.int x2)] [.ref 71] _ i_26_38 rfl ?_
        refine hm_get (w := .ref 77) 42 rfl i_26_39 (cb rfl) kk_71 rfl ?_
        refine wp_s 43 [some (.ref 71), some (.int x1), some (.int x2)] [.int x1, .ref 77] _ i_26_42 rfl ?_
        refine wp_s 44 [some (.ref 71), some (.int x1), some (.int x2)] [.int (5 : Int32), .int x1, .ref 77] _ i_26_43 rfl ?_
        refine wp_s 45 [some (.ref 71), some (.int x1), some (.int x2)] [.int (x1 * (5 : Int32)), .ref 77] _ i_26_44 rfl ?_
        refine wp_s 46 [some (.ref 71), some (.int x1), some (.int x2)] [.int x2, .int (x1 * (5 : Int32)), .ref 77] _ i_26_45 rfl ?_
        refine wp_s 47 [some (.ref 71), some (.int x1), some (.int x2)] [.int ((x1 * (5 : Int32)) + x2), .ref 77] _ i_26_46 rfl ?_
        refine wp_s 48 [some (.ref 71), some (.int x1), some (.int x2)] [.ref 71, .int ((x1 * (5 : Int32)) + x2), .ref 77] _ i_26_47 rfl ?_
        refine hm_get (w := .ref 32) 51 rfl i_26_48 (cb rfl) kk_71 rfl ?_
        refine wp_s 52 [some (.ref 71), some (.int x1), some (.int x2)] [.ref 71, .ref 32, .int ((x1 * (5 : Int32)) + x2), .ref 77] _ i_26_51 rfl ?_
        refine hm_get (w := .ref 5) 55 rfl i_26_52 (cb rfl) kk_71 rfl ?_
        obtain ⟨k_8, hd⟩ := dk_if hd
        refine hm_dyn 58 rfl i_26_55 (cb rfl) kk_5 (fun _ _ => rfl) (kd_ne0 (cO_iff k_8).2 (by decide)) ?_
        refine hm_get (w := .ref ((m.2.2.1 5) + 4)) 61 rfl i_26_58 (cO_iff k_8).1 (cO_iff k_8).2 rfl ?_
        refine wp_s 62 [some (.ref 71), some (.int x1), some (.int x2)] [.int x1, .ref ((m.2.2.1 5) + 4), .ref 32, .int ((x1 * (5 : Int32)) + x2), .ref 77] _ i_26_61 rfl ?_
        obtain ⟨k_9, hd⟩ := dk_if hd
        refine hm_iald 63 rfl i_26_62 (kb_5_4 (cO_iff k_8).1 (cO_iff k_8).2) (kr_5_4 (cO_iff k_8).2) k_9 ?_
        refine wp_s 64 [some (.ref 71), some (.int x1), some (.int x2)] [.ref 71, .int (m.1 ((m.2.2.1 5) + 4) x1.toNatClampNeg), .ref 32, .int ((x1 * (5 : Int32)) + x2), .ref 77] _ i_26_63 rfl ?_
        refine hm_get (w := .ref 5) 67 rfl i_26_64 (cb rfl) kk_71 rfl ?_
        refine hm_get (w := .ref 19) 70 rfl i_26_67 (cb rfl) kk_5 rfl ?_
        refine hm_get (w := .int (m.1 19 13)) 73 rfl i_26_70 (cb rfl) kk_19 rfl ?_
        refine wp_s 74 [some (.ref 71), some (.int x1), some (.int x2)] [.int x2, .int (m.1 19 13), .int (m.1 ((m.2.2.1 5) + 4) x1.toNatClampNeg), .ref 32, .int ((x1 * (5 : Int32)) + x2), .ref 77] _ i_26_73 rfl ?_
        refine wp_s 75 [some (.ref 71), some (.int x1), some (.int x2)] [.int ((m.1 19 13) + x2), .int (m.1 ((m.2.2.1 5) + 4) x1.toNatClampNeg), .ref 32, .int ((x1 * (5 : Int32)) + x2), .ref 77] _ i_26_74 rfl ?_
        obtain ⟨z_10, q_11, hd⟩ := dk_bind hd
        refine wp_callV 78 rfl i_26_75 (by decide) rfl (vs := [.int (m.1 ((m.2.2.1 5) + 4) x1.toNatClampNeg), .int ((m.1 19 13) + x2)]) (rest := [.int ((x1 * (5 : Int32)) + x2), .ref 77]) rfl rfl rfl (hm_isO (cb rfl) kk_32) (y := m_90) rfl (Nat.le_of_ble_eq_true rfl) (d_90_ok (S := S) (d := e) (by omega) q_11) ?_
        rintro v_12 h_13 ⟨rfl, rfl⟩
        obtain ⟨k_14, hd⟩ := dk_if hd
        obtain ⟨mm_15, q_16, hd⟩ := dk_bind hd
        refine hm_iast 79 rfl i_26_78 (cb rfl) kk_77 k_14 ?_
        rw [Option.some.inj q_16]
        refine wp_s 82 [some (.ref 71), some (.int x1), some (.int (x2 + (1 : Int32)))] [] _ i_26_79 rfl ?_
        refine wp_s 33 [some (.ref 71), some (.int x1), some (.int (x2 + (1 : Int32)))] [] _ i_26_82 rfl ?_
        exact aWp.forget (ih.2 _ _ _ _ hd) (lvS (lvS (lvS lvE)))
set_option maxHeartbeats 4000000 in
set_option maxRecDepth 100000 in
theorem d_26_ok {X : aX} {S : rS} {g : Nat}  {m : cM} {zz : cM} {d : Nat} (hdp : 11 ≤ d) (hd : d_26 g  m = some zz) : aWp X d 26 0 (aEntL [.ref 71] 3) [] (hr m S) (fun w h' => w = none ∧ h' = hr zz S) := by
  unfold d_26 at hd
  refine wp_lv (l2 := [some (.ref 71), none, none]) rfl ?_
  obtain ⟨e, rfl⟩ : ∃ e, d = e + 1 := ⟨d - 1, by omega⟩
  refine wp_s 1 [some (.ref 71), none, none] [.ref 71] _ i_26_0 rfl ?_
  refine hm_get (w := .ref 72) 4 rfl i_26_1 (cb rfl) kk_71 rfl ?_
  obtain ⟨z_1001, q_1002, hd⟩ := dk_bind hd
  refine wp_callV 7 rfl i_26_4 (by decide) rfl (vs := []) (rest := []) rfl rfl rfl (hm_isO (cb rfl) kk_72) (y := m_1) rfl (Nat.le_of_ble_eq_true rfl) (d_1_ok (S := S) (d := e) (by omega) q_1002) ?_
  rintro v_1003 h_1004 ⟨rfl, rfl⟩
  refine wp_s 8 [some (.ref 71), none, none] [.ref 71] _ i_26_7 rfl ?_
  refine hm_get (w := .ref 76) 11 rfl i_26_8 (cb rfl) kk_71 rfl ?_
  refine wp_s 12 [some (.ref 71), none, none] [.int (0 : Int32), .ref 76] _ i_26_11 rfl ?_
  obtain ⟨z_1005, q_1006, hd⟩ := dk_bind hd
  refine wp_callS 15 rfl i_26_12 (by decide) (vs := [.ref 76, .int (0 : Int32)]) (rest := []) rfl rfl rfl (y := m_273) rfl (Nat.le_of_ble_eq_true rfl) (d_273_ok (S := S) (d := e) (by omega) q_1006) ?_
  rintro v_1007 h_1008 ⟨rfl, rfl⟩
  refine wp_s 16 [some (.ref 71), none, none] [.int (0 : Int32)] _ i_26_15 rfl ?_
  refine wp_s 17 [some (.ref 71), some (.int (0 : Int32)), none] [] _ i_26_16 rfl ?_
  exact aWp.forget ((l_26_ok hdp g).1 _ _ _ _ hd) (lvS (lvS (lvN lvE)))
set_option maxHeartbeats 4000000 in
set_option maxRecDepth 100000 in
theorem l_96_ok {X : aX} {S : rS} {g : Nat} {d : Nat} (hdp : 1 ≤ d) : ∀ n, (∀ (a2 : Nat) (x1 : Int32) (x3 : Int32) (x5 : Int32) (x6 : Int32) (x7 : Int32) (m : cM) (zz : Int32 × cM), l_96 g n 0 a2 x1 x3 x5 x6 x7 m = some zz → aWp X d 96 39 [some (.ref 32), some (.int x1), some (.ref a2), some (.int x3), some (.ref 19), some (.int x5), some (.int x6), some (.int x7)] [] (hr m S) (fun w h' => w = some (.int zz.1) ∧ h' = hr zz.2 S)) := by
  intro n
  induction n with
  | zero => exact fun _ _ _ _ _ _ _ _ hd => by simp [l_96] at hd
  | succ n ih =>
    intro a2 x1 x3 x5 x6 x7 m zz hd
    unfold l_96 at hd
    rw [if_pos rfl] at hd
    obtain ⟨e, rfl⟩ : ∃ e, d = e + 1 := ⟨d - 1, by omega⟩
    refine wp_s 41 [some (.ref 32), some (.int x1), some (.ref a2), some (.int x3), some (.ref 19), some (.int x5), some (.int x6), some (.int x7)] [.int x7] _ i_96_39 rfl ?_
    refine wp_s 43 [some (.ref 32), some (.int x1), some (.ref a2), some (.int x3), some (.ref 19), some (.int x5), some (.int x6), some (.int x7)] [.int (8 : Int32), .int x7] _ i_96_41 rfl ?_
    refine wp_cmp_ge 79 46 rfl rfl i_96_43 (fun c_1 => ?_) (fun c_1 => ?_)
    · rw [if_pos c_1] at hd
      refine wp_s 80 [some (.ref 32), some (.int x1), some (.ref a2), some (.int x3), some (.ref 19), some (.int x5), some (.int x6), some (.int x7)] [.int (0 : Int32)] _ i_96_79 rfl ?_
      refine wp_s 81 [some (.ref 32), some (.int x1), some (.ref a2), some (.int x3), some (.ref 19), some (.int x5), some (.int x6), some (.int x7)] [.int x3, .int (0 : Int32)] _ i_96_80 rfl ?_
      refine wp_s 82 [some (.ref 32), some (.int x1), some (.ref a2), some (.int x3), some (.ref 19), some (.int x5), some (.int x6), some (.int x7)] [.ref 32, .int x3, .int (0 : Int32)] _ i_96_81 rfl ?_
      refine wp_s 84 [some (.ref 32), some (.int x1), some (.ref a2), some (.int x3), some (.ref 19), some (.int x5), some (.int x6), some (.int x7)] [.int x5, .ref 32, .int x3, .int (0 : Int32)] _ i_96_82 rfl ?_
      refine wp_s 86 [some (.ref 32), some (.int x1), some (.ref a2), some (.int x3), some (.ref 19), some (.int x5), some (.int x6), some (.int x7)] [.int x6, .int x5, .ref 32, .int x3, .int (0 : Int32)] _ i_96_84 rfl ?_
      refine wp_s 88 [some (.ref 32), some (.int x1), some (.ref a2), some (.int x3), some (.ref 19), some (.int x5), some (.int x6), some (.int x7)] [.ref 19, .int x6, .int x5, .ref 32, .int x3, .int (0 : Int32)] _ i_96_86 rfl ?_
      refine hm_get (w := .ref 27) 91 rfl i_96_88 (cb rfl) kk_19 rfl ?_
      refine wp_s 93 [some (.ref 32), some (.int x1), some (.ref a2), some (.int x3), some (.ref 19), some (.int x5), some (.int x6), some (.int x7)] [.ref 19, .ref 27, .int x6, .int x5, .ref 32, .int x3, .int (0 : Int32)] _ i_96_91 rfl ?_
      refine hm_get (w := .int (m.1 19 9)) 96 rfl i_96_93 (cb rfl) kk_19 rfl ?_
      refine wp_s 97 [some (.ref 32), some (.int x1), some (.ref a2), some (.int x3), some (.ref 19), some (.int x5), some (.int x6), some (.int x7)] [.ref 32, .int (m.1 19 9), .ref 27, .int x6, .int x5, .ref 32, .int x3, .int (0 : Int32)] _ i_96_96 rfl ?_
      refine hm_get (w := .ref 5) 100 rfl i_96_97 (cb rfl) kk_32 rfl ?_
      obtain ⟨k_2, hd⟩ := dk_if hd
      refine hm_dyn 103 rfl i_96_100 (cb rfl) kk_5 (fun _ _ => rfl) (kd_ne0 (cO_iff k_2).2 (by decide)) ?_
      refine hm_get (w := .int (m.1 (m.2.2.1 5) 2)) 106 rfl i_96_103 (cO_iff k_2).1 (cO_iff k_2).2 rfl ?_
      obtain ⟨z_3, q_4, hd⟩ := dk_bind hd
      refine wp_callV 109 rfl i_96_106 (by decide) rfl (vs := [.int x5, .int x6, .ref 27, .int (m.1 19 9), .int (m.1 (m.2.2.1 5) 2)]) (rest := [.int x3, .int (0 : Int32)]) rfl rfl rfl (hm_isO (cb rfl) kk_32) (y := m_94) rfl (Nat.le_of_ble_eq_true rfl) (d_94_ok (S := S) (d := e) (by omega) q_4) ?_
      rintro v_5 h_6 ⟨rfl, rfl⟩
      refine wp_s 110 [some (.ref 32), some (.int x1), some (.ref a2), some (.int x3), some (.ref 19), some (.int x5), some (.int x6), some (.int x7)] [.int (x3 - z_3.1), .int (0 : Int32)] _ i_96_109 rfl ?_
      refine hp_max 113 rfl i_96_110 rfl ?_
      obtain rfl := Option.some.inj hd
      exact wp_iret i_96_113 ⟨rfl, rfl⟩
    · rw [if_neg c_1] at hd
      refine wp_s 48 [some (.ref 32), some (.int x1), some (.ref a2), some (.int x3), some (.ref 19), some (.int x5), some (.int x6), some (.int x7)] [.int x5] _ i_96_46 rfl ?_
      refine wp_s 49 [some (.ref 32), some (.int x1), some (.ref a2), some (.int x3), some (.ref 19), some (.int x5), some (.int x6), some (.int x7)] [.ref a2, .int x5] _ i_96_48 rfl ?_
      refine wp_s 51 [some (.ref 32), some (.int x1), some (.ref a2), some (.int x3), some (.ref 19), some (.int x5), some (.int x6), some (.int x7)] [.int x7, .ref a2, .int x5] _ i_96_49 rfl ?_
      obtain ⟨k_7, hd⟩ := dk_if hd
      refine hm_iald 52 rfl i_96_51 (cA_iff k_7).1 (cA_iff k_7).2.1 (cA_iff k_7).2.2 ?_
      refine wp_s 53 [some (.ref 32), some (.int x1), some (.ref a2), some (.int x3), some (.ref 19), some (.int x5), some (.int x6), some (.int x7)] [.int (x5 + (m.1 a2 x7.toNatClampNeg))] _ i_96_52 rfl ?_
      refine wp_s 55 [some (.ref 32), some (.int x1), some (.ref a2), some (.int x3), some (.ref 19), some (.int (x5 + (m.1 a2 x7.toNatClampNeg))), some (.int x6), some (.int x7)] [] _ i_96_53 rfl ?_
      refine wp_s 57 [some (.ref 32), some (.int x1), some (.ref a2), some (.int x3), some (.ref 19), some (.int (x5 + (m.1 a2 x7.toNatClampNeg))), some (.int x6), some (.int x7)] [.int x6] _ i_96_55 rfl ?_
      refine wp_s 58 [some (.ref 32), some (.int x1), some (.ref a2), some (.int x3), some (.ref 19), some (.int (x5 + (m.1 a2 x7.toNatClampNeg))), some (.int x6), some (.int x7)] [.ref a2, .int x6] _ i_96_57 rfl ?_
      refine wp_s 60 [some (.ref 32), some (.int x1), some (.ref a2), some (.int x3), some (.ref 19), some (.int (x5 + (m.1 a2 x7.toNatClampNeg))), some (.int x6), some (.int x7)] [.int x7, .ref a2, .int x6] _ i_96_58 rfl ?_
      obtain ⟨k_8, hd⟩ := dk_if hd
      refine hm_iald 61 rfl i_96_60 (cA_iff k_8).1 (cA_iff k_8).2.1 (cA_iff k_8).2.2 ?_
      refine wp_s 63 [some (.ref 32), some (.int x1), some (.ref a2), some (.int x3), some (.ref 19), some (.int (x5 + (m.1 a2 x7.toNatClampNeg))), some (.int x6), some (.int x7)] [.ref 19, .int (m.1 a2 x7.toNatClampNeg), .int x6] _ i_96_61 rfl ?_
      refine hm_get (w := .ref 25) 66 rfl i_96_63 (cb rfl) kk_19 rfl ?_
      refine wp_s 68 [some (.ref 32), some (.int x1), some (.ref a2), some (.int x3), some (.ref 19), some (.int (x5 + (m.1 a2 x7.toNatClampNeg))), some (.int x6), some (.int x7)] [.int x7, .ref 25, .int (m.1 a2 x7.toNatClampNeg), .int x6] _ i_96_66 rfl ?_
      obtain ⟨k_9, hd⟩ := dk_if hd
      refine hm_iald 69 rfl i_96_68 (cb rfl) kk_25 k_9 ?_
      refine wp_s 70 [some (.ref 32), some (.int x1), some (.ref a2), some (.int x3), some (.ref 19), some (.int (x5 + (m.1 a2 x7.toNatClampNeg))), some (.int x6), some (.int x7)] [.int ((m.1 a2 x7.toNatClampNeg) * (m.1 25 x7.toNatClampNeg)), .int x6] _ i_96_69 rfl ?_
      refine wp_s 71 [some (.ref 32), some (.int x1), some (.ref a2), some (.int x3), some (.ref 19), some (.int (x5 + (m.1 a2 x7.toNatClampNeg))), some (.int x6), some (.int x7)] [.int (x6 + ((m.1 a2 x7.toNatClampNeg) * (m.1 25 x7.toNatClampNeg)))] _ i_96_70 rfl ?_
      refine wp_s 73 [some (.ref 32), some (.int x1), some (.ref a2), some (.int x3), some (.ref 19), some (.int (x5 + (m.1 a2 x7.toNatClampNeg))), some (.int (x6 + ((m.1 a2 x7.toNatClampNeg) * (m.1 25 x7.toNatClampNeg)))), some (.int x7)] [] _ i_96_71 rfl ?_
      refine wp_s 76 [some (.ref 32), some (.int x1), some (.ref a2), some (.int x3), some (.ref 19), some (.int (x5 + (m.1 a2 x7.toNatClampNeg))), some (.int (x6 + ((m.1 a2 x7.toNatClampNeg) * (m.1 25 x7.toNatClampNeg)))), some (.int (x7 + (1 : Int32)))] [] _ i_96_73 rfl ?_
      refine wp_s 39 [some (.ref 32), some (.int x1), some (.ref a2), some (.int x3), some (.ref 19), some (.int (x5 + (m.1 a2 x7.toNatClampNeg))), some (.int (x6 + ((m.1 a2 x7.toNatClampNeg) * (m.1 25 x7.toNatClampNeg)))), some (.int (x7 + (1 : Int32)))] [] _ i_96_76 rfl ?_
      exact aWp.forget (ih _ _ _ _ _ _ _ _ hd) (lvS (lvS (lvS (lvS (lvS (lvS (lvS (lvS lvE))))))))
set_option maxHeartbeats 4000000 in
set_option maxRecDepth 100000 in
theorem d_96_ok {X : aX} {S : rS} {g : Nat} {x1 : Int32} {a2 : Nat} {x3 : Int32} {m : cM} {zz : Int32 × cM} {d : Nat} (hdp : 1 ≤ d) (hd : d_96 g x1 a2 x3 m = some zz) : aWp X d 96 0 (aEntL [.ref 32, .int x1, .ref a2, .int x3] 8) [] (hr m S) (fun w h' => w = some (.int zz.1) ∧ h' = hr zz.2 S) := by
  unfold d_96 at hd
  refine wp_lv (l2 := [some (.ref 32), some (.int x1), some (.ref a2), some (.int x3), none, none, none, none]) rfl ?_
  obtain ⟨e, rfl⟩ : ∃ e, d = e + 1 := ⟨d - 1, by omega⟩
  refine wp_s 1 [some (.ref 32), some (.int x1), some (.ref a2), some (.int x3), none, none, none, none] [.ref 32] _ i_96_0 rfl ?_
  refine hm_get (w := .ref 5) 4 rfl i_96_1 (cb rfl) kk_32 rfl ?_
  refine hm_get (w := .ref 19) 7 rfl i_96_4 (cb rfl) kk_5 rfl ?_
  refine wp_s 9 [some (.ref 32), some (.int x1), some (.ref a2), some (.int x3), some (.ref 19), none, none, none] [] _ i_96_7 rfl ?_
  refine wp_s 10 [some (.ref 32), some (.int x1), some (.ref a2), some (.int x3), some (.ref 19), none, none, none] [.ref 32] _ i_96_9 rfl ?_
  refine hm_get (w := .ref 5) 13 rfl i_96_10 (cb rfl) kk_32 rfl ?_
  obtain ⟨k_1001, hd⟩ := dk_if hd
  refine hm_dyn 16 rfl i_96_13 (cb rfl) kk_5 (fun _ _ => rfl) (kd_ne0 (cO_iff k_1001).2 (by decide)) ?_
  refine hm_get (w := .int (m.1 (m.2.2.1 5) 3)) 19 rfl i_96_16 (cO_iff k_1001).1 (cO_iff k_1001).2 rfl ?_
  refine wp_if_ne 30 22 rfl rfl i_96_19 (fun c_1002 => ?_) (fun c_1002 => ?_)
  · rw [if_pos c_1002] at hd
    refine wp_s 31 [some (.ref 32), some (.int x1), some (.ref a2), some (.int x3), some (.ref 19), none, none, none] [.int (0 : Int32)] _ i_96_30 rfl ?_
    refine wp_s 33 [some (.ref 32), some (.int x1), some (.ref a2), some (.int x3), some (.ref 19), some (.int (0 : Int32)), none, none] [] _ i_96_31 rfl ?_
    refine wp_s 34 [some (.ref 32), some (.int x1), some (.ref a2), some (.int x3), some (.ref 19), some (.int (0 : Int32)), none, none] [.int (0 : Int32)] _ i_96_33 rfl ?_
    refine wp_s 36 [some (.ref 32), some (.int x1), some (.ref a2), some (.int x3), some (.ref 19), some (.int (0 : Int32)), some (.int (0 : Int32)), none] [] _ i_96_34 rfl ?_
    refine wp_s 37 [some (.ref 32), some (.int x1), some (.ref a2), some (.int x3), some (.ref 19), some (.int (0 : Int32)), some (.int (0 : Int32)), none] [.int (0 : Int32)] _ i_96_36 rfl ?_
    refine wp_s 39 [some (.ref 32), some (.int x1), some (.ref a2), some (.int x3), some (.ref 19), some (.int (0 : Int32)), some (.int (0 : Int32)), some (.int (0 : Int32))] [] _ i_96_37 rfl ?_
    exact aWp.forget ((l_96_ok hdp g) _ _ _ _ _ _ _ _ hd) (lvS (lvS (lvS (lvS (lvS (lvS (lvS (lvS lvE))))))))
  · rw [if_neg c_1002] at hd
    refine wp_s 24 [some (.ref 32), some (.int x1), some (.ref a2), some (.int x3), some (.ref 19), none, none, none] [.ref 19] _ i_96_22 rfl ?_
    refine hm_get (w := .ref 25) 27 rfl i_96_24 (cb rfl) kk_19 rfl ?_
    refine wp_s 28 [some (.ref 32), some (.int x1), some (.ref a2), some (.int x3), some (.ref 19), none, none, none] [.int x1, .ref 25] _ i_96_27 rfl ?_
    obtain ⟨k_1003, hd⟩ := dk_if hd
    refine hm_iald 29 rfl i_96_28 (cb rfl) kk_25 k_1003 ?_
    obtain rfl := Option.some.inj hd
    exact wp_iret i_96_29 ⟨rfl, rfl⟩
set_option maxHeartbeats 4000000 in
set_option maxRecDepth 100000 in
theorem l_29_ok {X : aX} {S : rS} {g : Nat} {sf29 : Int32 → Int32 → Int32 → Int32 → cM → Option cM} {e : Nat} (hdp : 1 ≤ e) (hs29 : ∀ (x1 : Int32) (x2 : Int32) (x3 : Int32) (x4 : Int32) (m zz : cM), sf29 x1 x2 x3 x4 m = some zz → aWp X e 29 0 (aEntL [.ref 71, .int x1, .int x2, .int x3, .int x4] 9) [] (hr m S) (fun w h' => w = none ∧ h' = hr zz S)) : ∀ n, (∀ (x1 : Int32) (x2 : Int32) (x3 : Int32) (x4 : Int32) (x5 : Int32) (x6 : Int32) (x7 : Int32) (m : cM) (zz : cM), l_29 sf29 g n 0 x1 x2 x3 x4 x5 x6 x7 m = some zz → aWp X (e + 1) 29 60 [some (.ref 71), some (.int x1), some (.int x2), some (.int x3), some (.int x4), none, none, none, none] [] (hr m S) (fun w h' => w = none ∧ h' = hr zz S)) ∧ (∀ (x1 : Int32) (x2 : Int32) (x3 : Int32) (x4 : Int32) (x5 : Int32) (x6 : Int32) (x7 : Int32) (m : cM) (zz : cM), l_29 sf29 g n 1 x1 x2 x3 x4 x5 x6 x7 m = some zz → aWp X (e + 1) 29 84 [some (.ref 71), some (.int x1), some (.int x2), some (.int x3), some (.int x4), some (.int x5), some (.int x6), some (.int x7), none] [] (hr m S) (fun w h' => w = none ∧ h' = hr zz S)) ∧ (∀ (x1 : Int32) (x2 : Int32) (x3 : Int32) (x4 : Int32) (x5 : Int32) (x6 : Int32) (x7 : Int32) (m : cM) (zz : cM), l_29 sf29 g n 2 x1 x2 x3 x4 x5 x6 x7 m = some zz → aWp X (e + 1) 29 159 [some (.ref 71), some (.int x1), some (.int x2), some (.int x3), some (.int x4), some (.int x5), some (.int x6), some (.int x7), none] [] (hr m S) (fun w h' => w = none ∧ h' = hr zz S)) := by
  intro n
  induction n with
  | zero => exact ⟨fun _ _ _ _ _ _ _ _ _ hd => by simp [l_29] at hd, fun _ _ _ _ _ _ _ _ _ hd => by simp [l_29] at hd, fun _ _ _ _ _ _ _ _ _ hd => by simp [l_29] at hd⟩
  | succ n ih =>
    refine ⟨?_, ?_, ?_⟩
    · intro x1 x2 x3 x4 x5 x6 x7 m zz hd
      unfold l_29 at hd
      rw [if_pos rfl] at hd
      refine wp_s 61 [some (.ref 71), some (.int x1), some (.int x2), some (.int x3), some (.int x4), none, none, none, none] [.ref 71] _ i_29_60 rfl ?_
      refine hm_get (w := .ref 72) 64 rfl i_29_61 (cb rfl) kk_71 rfl ?_
      refine wp_s 65 [some (.ref 71), some (.int x1), some (.int x2), some (.int x3), some (.int x4), none, none, none, none] [.int x3, .ref 72] _ i_29_64 rfl ?_
      refine wp_s 66 [some (.ref 71), some (.int x1), some (.int x2), some (.int x3), some (.int x4), none, none, none, none] [.int (-x3), .ref 72] _ i_29_65 rfl ?_
      refine wp_s 67 [some (.ref 71), some (.int x1), some (.int x2), some (.int x3), some (.int x4), none, none, none, none] [.ref 71, .int (-x3), .ref 72] _ i_29_66 rfl ?_
      refine hm_get (w := .ref 74) 70 rfl i_29_67 (cb rfl) kk_71 rfl ?_
      refine wp_s 71 [some (.ref 71), some (.int x1), some (.int x2), some (.int x3), some (.int x4), none, none, none, none] [.int x1, .ref 74, .int (-x3), .ref 72] _ i_29_70 rfl ?_
      obtain ⟨z_1, q_2, hd⟩ := dk_bind hd
      refine wp_callV 74 rfl i_29_71 (by decide) rfl (vs := [.int (-x3), .ref 74, .int x1]) (rest := []) rfl rfl rfl (hm_isO (cb rfl) kk_72) (y := m_3) rfl (Nat.le_of_ble_eq_true rfl) (d_3_ok (S := S) (d := e) (by omega) q_2) ?_
      rintro v_3 h_4 ⟨rfl, rfl⟩
      obtain rfl := Option.some.inj hd
      exact wp_ret i_29_74 rfl ⟨rfl, rfl⟩
    · intro x1 x2 x3 x4 x5 x6 x7 m zz hd
      unfold l_29 at hd
      rw [if_neg (by decide), if_pos rfl] at hd
      refine wp_s 86 [some (.ref 71), some (.int x1), some (.int x2), some (.int x3), some (.int x4), some (.int x5), some (.int x6), some (.int x7), none] [.int x7] _ i_29_84 rfl ?_
      refine wp_s 87 [some (.ref 71), some (.int x1), some (.int x2), some (.int x3), some (.int x4), some (.int x5), some (.int x6), some (.int x7), none] [.ref 71, .int x7] _ i_29_86 rfl ?_
      refine hm_get (w := .ref 5) 90 rfl i_29_87 (cb rfl) kk_71 rfl ?_
      refine hm_get (w := .ref 19) 93 rfl i_29_90 (cb rfl) kk_5 rfl ?_
      refine hm_get (w := .ref 24) 96 rfl i_29_93 (cb rfl) kk_19 rfl ?_
      refine wp_s 97 [some (.ref 71), some (.int x1), some (.int x2), some (.int x3), some (.int x4), some (.int x5), some (.int x6), some (.int x7), none] [.int x1, .ref 24, .int x7] _ i_29_96 rfl ?_
      obtain ⟨k_5, hd⟩ := dk_if hd
      refine hm_iald 98 rfl i_29_97 (cb rfl) kk_24 k_5 ?_
      refine wp_cmp_gt 189 101 rfl rfl i_29_98 (fun c_6 => ?_) (fun c_6 => ?_)
      · rw [if_pos c_6] at hd
        refine wp_s 190 [some (.ref 71), some (.int x1), some (.int x2), some (.int x3), some (.int x4), some (.int x5), some (.int x6), some (.int x7), none] [.ref 71] _ i_29_189 rfl ?_
        refine hm_get (w := .ref 78) 193 rfl i_29_190 (cb rfl) kk_71 rfl ?_
        refine wp_s 194 [some (.ref 71), some (.int x1), some (.int x2), some (.int x3), some (.int x4), some (.int x5), some (.int x6), some (.int x7), none] [.int x1, .ref 78] _ i_29_193 rfl ?_
        refine wp_s 195 [some (.ref 71), some (.int x1), some (.int x2), some (.int x3), some (.int x4), some (.int x5), some (.int x6), some (.int x7), none] [.ref 71, .int x1, .ref 78] _ i_29_194 rfl ?_
        refine hm_get (w := .ref 5) 198 rfl i_29_195 (cb rfl) kk_71 rfl ?_
        refine hm_get (w := .ref 19) 201 rfl i_29_198 (cb rfl) kk_5 rfl ?_
        refine hm_get (w := .ref 24) 204 rfl i_29_201 (cb rfl) kk_19 rfl ?_
        refine wp_s 205 [some (.ref 71), some (.int x1), some (.int x2), some (.int x3), some (.int x4), some (.int x5), some (.int x6), some (.int x7), none] [.int x1, .ref 24, .int x1, .ref 78] _ i_29_204 rfl ?_
        obtain ⟨k_7, hd⟩ := dk_if hd
        refine hm_iald 206 rfl i_29_205 (cb rfl) kk_24 k_7 ?_
        obtain ⟨k_8, hd⟩ := dk_if hd
        obtain ⟨mm_9, q_10, hd⟩ := dk_bind hd
        refine hm_iast 207 rfl i_29_206 (cb rfl) kk_78 k_8 ?_
        rw [Option.some.inj q_10]
        obtain rfl := Option.some.inj hd
        exact wp_ret i_29_207 rfl ⟨rfl, rfl⟩
      · rw [if_neg c_6] at hd
        refine wp_s 103 [some (.ref 71), some (.int x1), some (.int x2), some (.int x3), some (.int x4), some (.int x5), some (.int x6), some (.int x7), none] [.int x7] _ i_29_101 rfl ?_
        refine wp_if_le 159 106 rfl rfl i_29_103 (fun c_11 => ?_) (fun c_11 => ?_)
        · rw [if_pos c_11] at hd
          exact aWp.forget (ih.2.2 _ _ _ _ _ _ _ _ _ hd) (lvS (lvS (lvS (lvS (lvS (lvS (lvS (lvS (lvN lvE)))))))))
        · rw [if_neg c_11] at hd
          refine wp_s 107 [some (.ref 71), some (.int x1), some (.int x2), some (.int x3), some (.int x4), some (.int x5), some (.int x6), some (.int x7), none] [.ref 71] _ i_29_106 rfl ?_
          refine hm_get (w := .ref 78) 110 rfl i_29_107 (cb rfl) kk_71 rfl ?_
          refine wp_s 111 [some (.ref 71), some (.int x1), some (.int x2), some (.int x3), some (.int x4), some (.int x5), some (.int x6), some (.int x7), none] [.int x1, .ref 78] _ i_29_110 rfl ?_
          refine wp_s 112 [some (.ref 71), some (.int x1), some (.int x2), some (.int x3), some (.int x4), some (.int x5), some (.int x6), some (.int x7), none] [.int x1, .ref 78, .int x1, .ref 78] _ i_29_111 rfl ?_
          obtain ⟨k_12, hd⟩ := dk_if hd
          refine hm_iald 113 rfl i_29_112 (cb rfl) kk_78 k_12 ?_
          refine wp_s 114 [some (.ref 71), some (.int x1), some (.int x2), some (.int x3), some (.int x4), some (.int x5), some (.int x6), some (.int x7), none] [.int (1 : Int32), .int (m.1 78 x1.toNatClampNeg), .int x1, .ref 78] _ i_29_113 rfl ?_
          refine wp_s 115 [some (.ref 71), some (.int x1), some (.int x2), some (.int x3), some (.int x4), some (.int x5), some (.int x6), some (.int x7), none] [.int ((m.1 78 x1.toNatClampNeg) - (1 : Int32)), .int x1, .ref 78] _ i_29_114 rfl ?_
          obtain ⟨k_13, hd⟩ := dk_if hd
          obtain ⟨mm_14, q_15, hd⟩ := dk_bind hd
          refine hm_iast 116 rfl i_29_115 (cb rfl) kk_78 k_13 ?_
          rw [Option.some.inj q_15]
          refine wp_s 117 [some (.ref 71), some (.int x1), some (.int x2), some (.int x3), some (.int x4), some (.int x5), some (.int x6), some (.int x7), none] [.ref 71] _ i_29_116 rfl ?_
          refine hm_get (w := .ref 32) 120 rfl i_29_117 (cb rfl) kk_71 rfl ?_
          refine wp_s 121 [some (.ref 71), some (.int x1), some (.int x2), some (.int x3), some (.int x4), some (.int x5), some (.int x6), some (.int x7), none] [.int x1, .ref 32] _ i_29_120 rfl ?_
          refine wp_s 122 [some (.ref 71), some (.int x1), some (.int x2), some (.int x3), some (.int x4), some (.int x5), some (.int x6), some (.int x7), none] [.ref 71, .int x1, .ref 32] _ i_29_121 rfl ?_
          refine hm_get (w := .ref 78) 125 rfl i_29_122 (cb rfl) kk_71 rfl ?_
          refine wp_s 127 [some (.ref 71), some (.int x1), some (.int x2), some (.int x3), some (.int x4), some (.int x5), some (.int x6), some (.int x7), none] [.int x5, .ref 78, .int x1, .ref 32] _ i_29_125 rfl ?_
          obtain ⟨z_16, q_17, hd⟩ := dk_bind hd
          refine wp_callV 130 rfl i_29_127 (by decide) rfl (vs := [.int x1, .ref 78, .int x5]) (rest := []) rfl rfl rfl (hm_isO (cb rfl) kk_32) (y := m_96) rfl (Nat.le_of_ble_eq_true rfl) (d_96_ok (S := S) (d := e) (by omega) q_17) ?_
          rintro v_18 h_19 ⟨rfl, rfl⟩
          refine wp_s 132 [some (.ref 71), some (.int x1), some (.int x2), some (.int x3), some (.int x4), some (.int x5), some (.int x6), some (.int x7), some (.int z_16.1)] [] _ i_29_130 rfl ?_
          refine wp_s 134 [some (.ref 71), some (.int x1), some (.int x2), some (.int x3), some (.int x4), some (.int x5), some (.int x6), some (.int x7), some (.int z_16.1)] [.int x5] _ i_29_132 rfl ?_
          refine wp_s 136 [some (.ref 71), some (.int x1), some (.int x2), some (.int x3), some (.int x4), some (.int x5), some (.int x6), some (.int x7), some (.int z_16.1)] [.int z_16.1, .int x5] _ i_29_134 rfl ?_
          refine wp_s 137 [some (.ref 71), some (.int x1), some (.int x2), some (.int x3), some (.int x4), some (.int x5), some (.int x6), some (.int x7), some (.int z_16.1)] [.int (x5 - z_16.1)] _ i_29_136 rfl ?_
          refine wp_s 139 [some (.ref 71), some (.int x1), some (.int x2), some (.int x3), some (.int x4), some (.int (x5 - z_16.1)), some (.int x6), some (.int x7), some (.int z_16.1)] [] _ i_29_137 rfl ?_
          refine wp_s 141 [some (.ref 71), some (.int x1), some (.int x2), some (.int x3), some (.int x4), some (.int (x5 - z_16.1)), some (.int x6), some (.int x7), some (.int z_16.1)] [.int x6] _ i_29_139 rfl ?_
          refine wp_s 143 [some (.ref 71), some (.int x1), some (.int x2), some (.int x3), some (.int x4), some (.int (x5 - z_16.1)), some (.int x6), some (.int x7), some (.int z_16.1)] [.int z_16.1, .int x6] _ i_29_141 rfl ?_
          refine wp_s 144 [some (.ref 71), some (.int x1), some (.int x2), some (.int x3), some (.int x4), some (.int (x5 - z_16.1)), some (.int x6), some (.int x7), some (.int z_16.1)] [.ref 71, .int z_16.1, .int x6] _ i_29_143 rfl ?_
          refine hm_get (w := .ref 5) 147 rfl i_29_144 (cb rfl) kk_71 rfl ?_
          obtain ⟨k_20, hd⟩ := dk_if hd
          refine hm_dyn 150 rfl i_29_147 (cb rfl) kk_5 (fun _ _ => rfl) (kd_ne0 (cO_iff k_20).2 (by decide)) ?_
          refine hm_get (w := .ref ((z_16.2.2.2.1 5) + 2)) 153 rfl i_29_150 (cO_iff k_20).1 (cO_iff k_20).2 rfl ?_
          refine wp_s 154 [some (.ref 71), some (.int x1), some (.int x2), some (.int x3), some (.int x4), some (.int (x5 - z_16.1)), some (.int x6), some (.int x7), some (.int z_16.1)] [.int x1, .ref ((z_16.2.2.2.1 5) + 2), .int z_16.1, .int x6] _ i_29_153 rfl ?_
          obtain ⟨k_21, hd⟩ := dk_if hd
          refine hm_iald 155 rfl i_29_154 (kb_5_2 (cO_iff k_20).1 (cO_iff k_20).2) (kr_5_2 (cO_iff k_20).2) k_21 ?_
          refine wp_s 156 [some (.ref 71), some (.int x1), some (.int x2), some (.int x3), some (.int x4), some (.int (x5 - z_16.1)), some (.int x6), some (.int x7), some (.int z_16.1)] [.int (z_16.1 - (z_16.2.1 ((z_16.2.2.2.1 5) + 2) x1.toNatClampNeg)), .int x6] _ i_29_155 rfl ?_
          refine wp_s 157 [some (.ref 71), some (.int x1), some (.int x2), some (.int x3), some (.int x4), some (.int (x5 - z_16.1)), some (.int x6), some (.int x7), some (.int z_16.1)] [.int (x6 + (z_16.1 - (z_16.2.1 ((z_16.2.2.2.1 5) + 2) x1.toNatClampNeg)))] _ i_29_156 rfl ?_
          refine wp_s 159 [some (.ref 71), some (.int x1), some (.int x2), some (.int x3), some (.int x4), some (.int (x5 - z_16.1)), some (.int (x6 + (z_16.1 - (z_16.2.1 ((z_16.2.2.2.1 5) + 2) x1.toNatClampNeg)))), some (.int x7), some (.int z_16.1)] [] _ i_29_157 rfl ?_
          exact aWp.forget (ih.2.2 _ _ _ _ _ _ _ _ _ hd) (lvS (lvS (lvS (lvS (lvS (lvS (lvS (lvS (lvN lvE)))))))))
    · intro x1 x2 x3 x4 x5 x6 x7 m zz hd
      unfold l_29 at hd
      rw [if_neg (by decide), if_neg (by decide), if_pos rfl] at hd
      refine wp_s 160 [some (.ref 71), some (.int x1), some (.int x2), some (.int x3), some (.int x4), some (.int x5), some (.int x6), some (.int x7), none] [.ref 71] _ i_29_159 rfl ?_
      refine hm_get (w := .ref 74) 163 rfl i_29_160 (cb rfl) kk_71 rfl ?_
      refine wp_s 164 [some (.ref 71), some (.int x1), some (.int x2), some (.int x3), some (.int x4), some (.int x5), some (.int x6), some (.int x7), none] [.int x1, .ref 74] _ i_29_163 rfl ?_
      refine wp_s 166 [some (.ref 71), some (.int x1), some (.int x2), some (.int x3), some (.int x4), some (.int x5), some (.int x6), some (.int x7), none] [.int x7, .int x1, .ref 74] _ i_29_164 rfl ?_
      obtain ⟨k_22, hd⟩ := dk_if hd
      obtain ⟨mm_23, q_24, hd⟩ := dk_bind hd
      refine hm_iast 167 rfl i_29_166 (cb rfl) kk_74 k_22 ?_
      rw [Option.some.inj q_24]
      refine wp_s 168 [some (.ref 71), some (.int x1), some (.int x2), some (.int x3), some (.int x4), some (.int x5), some (.int x6), some (.int x7), none] [.ref 71] _ i_29_167 rfl ?_
      refine wp_s 169 [some (.ref 71), some (.int x1), some (.int x2), some (.int x3), some (.int x4), some (.int x5), some (.int x6), some (.int x7), none] [.int x1, .ref 71] _ i_29_168 rfl ?_
      refine wp_s 170 [some (.ref 71), some (.int x1), some (.int x2), some (.int x3), some (.int x4), some (.int x5), some (.int x6), some (.int x7), none] [.int (1 : Int32), .int x1, .ref 71] _ i_29_169 rfl ?_
      refine wp_s 171 [some (.ref 71), some (.int x1), some (.int x2), some (.int x3), some (.int x4), some (.int x5), some (.int x6), some (.int x7), none] [.int (x1 + (1 : Int32)), .ref 71] _ i_29_170 rfl ?_
      refine wp_s 173 [some (.ref 71), some (.int x1), some (.int x2), some (.int x3), some (.int x4), some (.int x5), some (.int x6), some (.int x7), none] [.int x5, .int (x1 + (1 : Int32)), .ref 71] _ i_29_171 rfl ?_
      refine wp_s 175 [some (.ref 71), some (.int x1), some (.int x2), some (.int x3), some (.int x4), some (.int x5), some (.int x6), some (.int x7), none] [.int x6, .int x5, .int (x1 + (1 : Int32)), .ref 71] _ i_29_173 rfl ?_
      refine wp_s 177 [some (.ref 71), some (.int x1), some (.int x2), some (.int x3), some (.int x4), some (.int x5), some (.int x6), some (.int x7), none] [.int x4, .int x6, .int x5, .int (x1 + (1 : Int32)), .ref 71] _ i_29_175 rfl ?_
      refine wp_s 179 [some (.ref 71), some (.int x1), some (.int x2), some (.int x3), some (.int x4), some (.int x5), some (.int x6), some (.int x7), none] [.int x7, .int x4, .int x6, .int x5, .int (x1 + (1 : Int32)), .ref 71] _ i_29_177 rfl ?_
      refine wp_s 180 [some (.ref 71), some (.int x1), some (.int x2), some (.int x3), some (.int x4), some (.int x5), some (.int x6), some (.int x7), none] [.int (x4 + x7), .int x6, .int x5, .int (x1 + (1 : Int32)), .ref 71] _ i_29_179 rfl ?_
      obtain ⟨z_25, q_26, hd⟩ := dk_bind hd
      refine wp_callV 183 rfl i_29_180 (by decide) rfl (vs := [.int (x1 + (1 : Int32)), .int x5, .int x6, .int (x4 + x7)]) (rest := []) rfl rfl rfl (hm_isO (cb rfl) kk_71) (y := m_29) rfl (Nat.le_of_ble_eq_true rfl) (hs29 _ _ _ _ _ _ q_26) ?_
      rintro v_27 h_28 ⟨rfl, rfl⟩
      refine wp_s 186 [some (.ref 71), some (.int x1), some (.int x2), some (.int x3), some (.int x4), some (.int x5), some (.int x6), some (.int (x7 + (1 : Int32))), none] [] _ i_29_183 rfl ?_
      refine wp_s 84 [some (.ref 71), some (.int x1), some (.int x2), some (.int x3), some (.int x4), some (.int x5), some (.int x6), some (.int (x7 + (1 : Int32))), none] [] _ i_29_186 rfl ?_
      exact aWp.forget (ih.2.1 _ _ _ _ _ _ _ _ _ hd) (lvS (lvS (lvS (lvS (lvS (lvS (lvS (lvS (lvN lvE)))))))))
set_option maxHeartbeats 4000000 in
set_option maxRecDepth 100000 in
theorem t_29_ok {X : aX} {S : rS} {g : Nat} {sf29 : Int32 → Int32 → Int32 → Int32 → cM → Option cM} {x1 : Int32} {x2 : Int32} {x3 : Int32} {x4 : Int32} {m : cM} {zz : cM} {e : Nat} (hdp : 1 ≤ e) (hs29 : ∀ (x1 : Int32) (x2 : Int32) (x3 : Int32) (x4 : Int32) (m zz : cM), sf29 x1 x2 x3 x4 m = some zz → aWp X e 29 0 (aEntL [.ref 71, .int x1, .int x2, .int x3, .int x4] 9) [] (hr m S) (fun w h' => w = none ∧ h' = hr zz S)) (hd : t_29 sf29 g x1 x2 x3 x4 m = some zz) : aWp X (e + 1) 29 0 (aEntL [.ref 71, .int x1, .int x2, .int x3, .int x4] 9) [] (hr m S) (fun w h' => w = none ∧ h' = hr zz S) := by
  unfold t_29 at hd
  refine wp_lv (l2 := [some (.ref 71), some (.int x1), some (.int x2), some (.int x3), some (.int x4), none, none, none, none]) rfl ?_
  refine wp_s 1 [some (.ref 71), some (.int x1), some (.int x2), some (.int x3), some (.int x4), none, none, none, none] [.int x1] _ i_29_0 rfl ?_
  refine wp_s 2 [some (.ref 71), some (.int x1), some (.int x2), some (.int x3), some (.int x4), none, none, none, none] [.ref 71, .int x1] _ i_29_1 rfl ?_
  refine hm_get (w := .ref 5) 5 rfl i_29_2 (cb rfl) kk_71 rfl ?_
  obtain ⟨k_1001, hd⟩ := dk_if hd
  refine hm_dyn 8 rfl i_29_5 (cb rfl) kk_5 (fun _ _ => rfl) (kd_ne0 (cO_iff k_1001).2 (by decide)) ?_
  refine hm_get (w := .int (m.1 (m.2.2.1 5) 4)) 11 rfl i_29_8 (cO_iff k_1001).1 (cO_iff k_1001).2 rfl ?_
  refine wp_cmp_lt 75 14 rfl rfl i_29_11 (fun c_1002 => ?_) (fun c_1002 => ?_)
  · rw [if_pos c_1002] at hd
    refine wp_s 76 [some (.ref 71), some (.int x1), some (.int x2), some (.int x3), some (.int x4), none, none, none, none] [.int x2] _ i_29_75 rfl ?_
    refine wp_s 78 [some (.ref 71), some (.int x1), some (.int x2), some (.int x3), some (.int x4), some (.int x2), none, none, none] [] _ i_29_76 rfl ?_
    refine wp_s 79 [some (.ref 71), some (.int x1), some (.int x2), some (.int x3), some (.int x4), some (.int x2), none, none, none] [.int x3] _ i_29_78 rfl ?_
    refine wp_s 81 [some (.ref 71), some (.int x1), some (.int x2), some (.int x3), some (.int x4), some (.int x2), some (.int x3), none, none] [] _ i_29_79 rfl ?_
    refine wp_s 82 [some (.ref 71), some (.int x1), some (.int x2), some (.int x3), some (.int x4), some (.int x2), some (.int x3), none, none] [.int (0 : Int32)] _ i_29_81 rfl ?_
    refine wp_s 84 [some (.ref 71), some (.int x1), some (.int x2), some (.int x3), some (.int x4), some (.int x2), some (.int x3), some (.int (0 : Int32)), none] [] _ i_29_82 rfl ?_
    exact aWp.forget ((l_29_ok hdp hs29 g).2.1 _ _ _ _ _ _ _ _ _ hd) (lvS (lvS (lvS (lvS (lvS (lvS (lvS (lvS (lvN lvE)))))))))
  · rw [if_neg c_1002] at hd
    refine wp_s 15 [some (.ref 71), some (.int x1), some (.int x2), some (.int x3), some (.int x4), none, none, none, none] [.ref 71] _ i_29_14 rfl ?_
    refine hm_get (w := .ref 72) 18 rfl i_29_15 (cb rfl) kk_71 rfl ?_
    refine hm_get (w := .int (m.1 72 0)) 21 rfl i_29_18 (cb rfl) kk_72 rfl ?_
    refine wp_if_eq 60 24 rfl rfl i_29_21 (fun c_1003 => ?_) (fun c_1003 => ?_)
    · rw [if_pos c_1003] at hd
      exact aWp.forget ((l_29_ok hdp hs29 g).1 _ _ _ _ _ _ _ _ _ hd) (lvS (lvS (lvS (lvS (lvS (lvN (lvN (lvN (lvN lvE)))))))))
    · rw [if_neg c_1003] at hd
      refine wp_s 25 [some (.ref 71), some (.int x1), some (.int x2), some (.int x3), some (.int x4), none, none, none, none] [.int x3] _ i_29_24 rfl ?_
      refine wp_s 26 [some (.ref 71), some (.int x1), some (.int x2), some (.int x3), some (.int x4), none, none, none, none] [.int (-x3)] _ i_29_25 rfl ?_
      refine wp_s 27 [some (.ref 71), some (.int x1), some (.int x2), some (.int x3), some (.int x4), none, none, none, none] [.ref 71, .int (-x3)] _ i_29_26 rfl ?_
      refine hm_get (w := .ref 72) 30 rfl i_29_27 (cb rfl) kk_71 rfl ?_
      refine hm_get (w := .int (m.1 72 1)) 33 rfl i_29_30 (cb rfl) kk_72 rfl ?_
      refine wp_cmp_lt 60 36 rfl rfl i_29_33 (fun c_1004 => ?_) (fun c_1004 => ?_)
      · rw [if_pos c_1004] at hd
        exact aWp.forget ((l_29_ok hdp hs29 g).1 _ _ _ _ _ _ _ _ _ hd) (lvS (lvS (lvS (lvS (lvS (lvN (lvN (lvN (lvN lvE)))))))))
      · rw [if_neg c_1004] at hd
        refine wp_s 37 [some (.ref 71), some (.int x1), some (.int x2), some (.int x3), some (.int x4), none, none, none, none] [.int x3] _ i_29_36 rfl ?_
        refine wp_s 38 [some (.ref 71), some (.int x1), some (.int x2), some (.int x3), some (.int x4), none, none, none, none] [.int (-x3)] _ i_29_37 rfl ?_
        refine wp_s 39 [some (.ref 71), some (.int x1), some (.int x2), some (.int x3), some (.int x4), none, none, none, none] [.ref 71, .int (-x3)] _ i_29_38 rfl ?_
        refine hm_get (w := .ref 72) 42 rfl i_29_39 (cb rfl) kk_71 rfl ?_
        refine hm_get (w := .int (m.1 72 1)) 45 rfl i_29_42 (cb rfl) kk_72 rfl ?_
        refine wp_cmp_ne 74 48 rfl rfl i_29_45 (fun c_1005 => ?_) (fun c_1005 => ?_)
        · rw [if_pos c_1005] at hd
          obtain rfl := Option.some.inj hd
          exact wp_ret i_29_74 rfl ⟨rfl, rfl⟩
        · rw [if_neg c_1005] at hd
          refine wp_s 50 [some (.ref 71), some (.int x1), some (.int x2), some (.int x3), some (.int x4), none, none, none, none] [.int x4] _ i_29_48 rfl ?_
          refine wp_s 51 [some (.ref 71), some (.int x1), some (.int x2), some (.int x3), some (.int x4), none, none, none, none] [.ref 71, .int x4] _ i_29_50 rfl ?_
          refine hm_get (w := .ref 72) 54 rfl i_29_51 (cb rfl) kk_71 rfl ?_
          obtain ⟨z_1006, q_1007, hd⟩ := dk_bind hd
          refine wp_callV 57 rfl i_29_54 (by decide) rfl (vs := []) (rest := [.int x4]) rfl rfl rfl (hm_isO (cb rfl) kk_72) (y := m_5) rfl (Nat.le_of_ble_eq_true rfl) (d_5_ok (S := S) (d := e) (by omega) q_1007) ?_
          rintro v_1008 h_1009 ⟨rfl, rfl⟩
          refine wp_cmp_ge 74 60 rfl rfl i_29_57 (fun c_1010 => ?_) (fun c_1010 => ?_)
          · rw [if_pos c_1010] at hd
            obtain rfl := Option.some.inj hd
            exact wp_ret i_29_74 rfl ⟨rfl, rfl⟩
          · rw [if_neg c_1010] at hd
            exact aWp.forget ((l_29_ok hdp hs29 g).1 _ _ _ _ _ _ _ _ _ hd) (lvS (lvS (lvS (lvS (lvS (lvN (lvN (lvN (lvN lvE)))))))))
theorem R_29_ok {X : aX} {S : rS} {g : Nat} : ∀ n, (∀ (x1 : Int32) (x2 : Int32) (x3 : Int32) (x4 : Int32) (m zz : cM), R_29 g n 0 x1 x2 x3 x4 m = some zz → aWp X (1 + n) 29 0 (aEntL [.ref 71, .int x1, .int x2, .int x3, .int x4] 9) [] (hr m S) (fun w h' => w = none ∧ h' = hr zz S)) := by
  intro n
  induction n with
  | zero => exact fun _ _ _ _ _ _ hd => by simp [R_29] at hd
  | succ n ih =>
    intro x1 x2 x3 x4 m zz hd
    unfold R_29 at hd
    rw [if_pos rfl] at hd
    exact t_29_ok (e := 1 + n) (by omega) ih hd
theorem d_29_ok {X : aX} {S : rS} {g : Nat} {x1 : Int32} {x2 : Int32} {x3 : Int32} {x4 : Int32} {m zz : cM} {d : Nat} (hdp : 11 ≤ d) (hd : d_29 g x1 x2 x3 x4 m = some zz) : aWp X d 29 0 (aEntL [.ref 71, .int x1, .int x2, .int x3, .int x4] 9) [] (hr m S) (fun w h' => w = none ∧ h' = hr zz S) := ((R_29_ok 10) _ _ _ _ _ _ hd).deep hdp
set_option maxHeartbeats 4000000 in
set_option maxRecDepth 100000 in
theorem d_28_ok {X : aX} {S : rS} {g : Nat}  {m : cM} {zz : cM} {d : Nat} (hdp : 12 ≤ d) (hd : d_28 g  m = some zz) : aWp X d 28 0 (aEntL [.ref 71] 1) [] (hr m S) (fun w h' => w = none ∧ h' = hr zz S) := by
  unfold d_28 at hd
  refine wp_lv (l2 := [some (.ref 71)]) rfl ?_
  obtain ⟨e, rfl⟩ : ∃ e, d = e + 1 := ⟨d - 1, by omega⟩
  refine wp_s 1 [some (.ref 71)] [.ref 71] _ i_28_0 rfl ?_
  refine hm_get (w := .ref 72) 4 rfl i_28_1 (cb rfl) kk_71 rfl ?_
  obtain ⟨z_1, q_2, hd⟩ := dk_bind hd
  refine wp_callV 7 rfl i_28_4 (by decide) rfl (vs := []) (rest := []) rfl rfl rfl (hm_isO (cb rfl) kk_72) (y := m_1) rfl (Nat.le_of_ble_eq_true rfl) (d_1_ok (S := S) (d := e) (by omega) q_2) ?_
  rintro v_3 h_4 ⟨rfl, rfl⟩
  refine wp_s 8 [some (.ref 71)] [.ref 71] _ i_28_7 rfl ?_
  refine hm_get (w := .ref 5) 11 rfl i_28_8 (cb rfl) kk_71 rfl ?_
  refine hm_get (w := .ref 19) 14 rfl i_28_11 (cb rfl) kk_5 rfl ?_
  refine hm_get (w := .ref 24) 17 rfl i_28_14 (cb rfl) kk_19 rfl ?_
  refine wp_s 18 [some (.ref 71)] [.int (0 : Int32), .ref 24] _ i_28_17 rfl ?_
  refine wp_s 19 [some (.ref 71)] [.ref 71, .int (0 : Int32), .ref 24] _ i_28_18 rfl ?_
  refine hm_get (w := .ref 78) 22 rfl i_28_19 (cb rfl) kk_71 rfl ?_
  refine wp_s 23 [some (.ref 71)] [.int (0 : Int32), .ref 78, .int (0 : Int32), .ref 24] _ i_28_22 rfl ?_
  refine wp_s 25 [some (.ref 71)] [.int (8 : Int32), .int (0 : Int32), .ref 78, .int (0 : Int32), .ref 24] _ i_28_23 rfl ?_
  obtain ⟨mm_5, q_6, hd⟩ := dk_bind hd
  refine hm_copy 28 rfl i_28_25 rfl (cb rfl) kk_24 (cb rfl) kk_78 (by decide) (by decide) (by decide) (by decide) (by decide) ?_
  rw [Option.some.inj q_6]
  refine wp_s 29 [some (.ref 71)] [.ref 71] _ i_28_28 rfl ?_
  refine wp_s 30 [some (.ref 71)] [.int (0 : Int32), .ref 71] _ i_28_29 rfl ?_
  refine wp_s 31 [some (.ref 71)] [.ref 71, .int (0 : Int32), .ref 71] _ i_28_30 rfl ?_
  refine hm_get (w := .ref 5) 34 rfl i_28_31 (cb rfl) kk_71 rfl ?_
  refine hm_get (w := .ref 19) 37 rfl i_28_34 (cb rfl) kk_5 rfl ?_
  refine hm_get (w := .int (mm_5.1 19 12)) 40 rfl i_28_37 (cb rfl) kk_19 rfl ?_
  refine wp_s 41 [some (.ref 71)] [.int (0 : Int32), .int (mm_5.1 19 12), .int (0 : Int32), .ref 71] _ i_28_40 rfl ?_
  refine wp_s 42 [some (.ref 71)] [.int (0 : Int32), .int (0 : Int32), .int (mm_5.1 19 12), .int (0 : Int32), .ref 71] _ i_28_41 rfl ?_
  obtain ⟨z_7, q_8, hd⟩ := dk_bind hd
  refine wp_callV 45 rfl i_28_42 (by decide) rfl (vs := [.int (0 : Int32), .int (mm_5.1 19 12), .int (0 : Int32), .int (0 : Int32)]) (rest := []) rfl rfl rfl (hm_isO (cb rfl) kk_71) (y := m_29) rfl (Nat.le_of_ble_eq_true rfl) (d_29_ok (S := S) (d := e) (by omega) q_8) ?_
  rintro v_9 h_10 ⟨rfl, rfl⟩
  obtain rfl := Option.some.inj hd
  exact wp_ret i_28_45 rfl ⟨rfl, rfl⟩
set_option maxHeartbeats 4000000 in
set_option maxRecDepth 100000 in
theorem l_31_ok {X : aX} {S : rS} {g : Nat} {d : Nat} (hdp : 0 ≤ d) : ∀ n, (∀ (x1 : Int32) (x2 : Int32) (x3 : Int32) (m : cM) (zz : Int32), l_31 g n 0 x1 x2 x3 m = some zz → aWp X d 31 4 [some (.ref 71), some (.int x1), some (.int x2), some (.int x3)] [] (hr m S) (fun w h' => w = some (.int zz) ∧ h' = hr m S)) := by
  intro n
  induction n with
  | zero => exact fun _ _ _ _ _ hd => by simp [l_31] at hd
  | succ n ih =>
    intro x1 x2 x3 m zz hd
    unfold l_31 at hd
    rw [if_pos rfl] at hd
    refine wp_s 5 [some (.ref 71), some (.int x1), some (.int x2), some (.int x3)] [.int x3] _ i_31_4 rfl ?_
    refine wp_s 6 [some (.ref 71), some (.int x1), some (.int x2), some (.int x3)] [.int x1, .int x3] _ i_31_5 rfl ?_
    refine wp_cmp_ge 26 9 rfl rfl i_31_6 (fun c_1 => ?_) (fun c_1 => ?_)
    · rw [if_pos c_1] at hd
      refine wp_s 27 [some (.ref 71), some (.int x1), some (.int x2), some (.int x3)] [.int x2] _ i_31_26 rfl ?_
      obtain rfl := Option.some.inj hd
      exact wp_iret i_31_27 ⟨rfl, rfl⟩
    · rw [if_neg c_1] at hd
      refine wp_s 10 [some (.ref 71), some (.int x1), some (.int x2), some (.int x3)] [.int x2] _ i_31_9 rfl ?_
      refine wp_s 11 [some (.ref 71), some (.int x1), some (.int x2), some (.int x3)] [.int (1 : Int32), .int x2] _ i_31_10 rfl ?_
      refine wp_s 12 [some (.ref 71), some (.int x1), some (.int x2), some (.int x3)] [.ref 71, .int (1 : Int32), .int x2] _ i_31_11 rfl ?_
      refine hm_get (w := .ref 74) 15 rfl i_31_12 (cb rfl) kk_71 rfl ?_
      refine wp_s 16 [some (.ref 71), some (.int x1), some (.int x2), some (.int x3)] [.int x3, .ref 74, .int (1 : Int32), .int x2] _ i_31_15 rfl ?_
      obtain ⟨k_2, hd⟩ := dk_if hd
      refine hm_iald 17 rfl i_31_16 (cb rfl) kk_74 k_2 ?_
      refine wp_s 18 [some (.ref 71), some (.int x1), some (.int x2), some (.int x3)] [.int ((1 : Int32) <<< ((m.1 74 x3.toNatClampNeg) &&& 31)), .int x2] _ i_31_17 rfl ?_
      refine wp_s 19 [some (.ref 71), some (.int x1), some (.int x2), some (.int x3)] [.int (x2 ||| ((1 : Int32) <<< ((m.1 74 x3.toNatClampNeg) &&& 31)))] _ i_31_18 rfl ?_
      refine wp_s 20 [some (.ref 71), some (.int x1), some (.int (x2 ||| ((1 : Int32) <<< ((m.1 74 x3.toNatClampNeg) &&& 31)))), some (.int x3)] [] _ i_31_19 rfl ?_
      refine wp_s 23 [some (.ref 71), some (.int x1), some (.int (x2 ||| ((1 : Int32) <<< ((m.1 74 x3.toNatClampNeg) &&& 31)))), some (.int (x3 + (1 : Int32)))] [] _ i_31_20 rfl ?_
      refine wp_s 4 [some (.ref 71), some (.int x1), some (.int (x2 ||| ((1 : Int32) <<< ((m.1 74 x3.toNatClampNeg) &&& 31)))), some (.int (x3 + (1 : Int32)))] [] _ i_31_23 rfl ?_
      exact aWp.forget (ih _ _ _ _ _ hd) (lvS (lvS (lvS (lvS lvE))))
set_option maxHeartbeats 4000000 in
set_option maxRecDepth 100000 in
theorem d_31_ok {X : aX} {S : rS} {g : Nat} {x1 : Int32} {m : cM} {zz : Int32} {d : Nat} (hdp : 0 ≤ d) (hd : d_31 g x1 m = some zz) : aWp X d 31 0 (aEntL [.ref 71, .int x1] 4) [] (hr m S) (fun w h' => w = some (.int zz) ∧ h' = hr m S) := by
  unfold d_31 at hd
  refine wp_lv (l2 := [some (.ref 71), some (.int x1), none, none]) rfl ?_
  refine wp_s 1 [some (.ref 71), some (.int x1), none, none] [.int (0 : Int32)] _ i_31_0 rfl ?_
  refine wp_s 2 [some (.ref 71), some (.int x1), some (.int (0 : Int32)), none] [] _ i_31_1 rfl ?_
  refine wp_s 3 [some (.ref 71), some (.int x1), some (.int (0 : Int32)), none] [.int (0 : Int32)] _ i_31_2 rfl ?_
  refine wp_s 4 [some (.ref 71), some (.int x1), some (.int (0 : Int32)), some (.int (0 : Int32))] [] _ i_31_3 rfl ?_
  exact aWp.forget ((l_31_ok hdp g) _ _ _ _ _ hd) (lvS (lvS (lvS (lvS lvE))))
set_option maxHeartbeats 4000000 in
set_option maxRecDepth 100000 in
theorem l_30_ok {X : aX} {S : rS} {g : Nat} {d : Nat} (hdp : 6 ≤ d) : ∀ n, (∀ (x1 : Int32) (x2 : Int32) (x3 : Int32) (x4 : Int32) (x5 : Int32) (m : cM) (zz : cM), l_30 g n 0 x1 x2 x3 x4 x5 m = some zz → aWp X d 30 26 [some (.ref 71), some (.int x1), some (.int x2), some (.int x3), none, none] [] (hr m S) (fun w h' => w = none ∧ h' = hr zz S)) ∧ (∀ (x1 : Int32) (x2 : Int32) (x3 : Int32) (x4 : Int32) (x5 : Int32) (m : cM) (zz : cM), l_30 g n 1 x1 x2 x3 x4 x5 m = some zz → aWp X d 30 41 [some (.ref 71), some (.int x1), some (.int x2), some (.int x3), some (.int x4), some (.int x5)] [] (hr m S) (fun w h' => w = none ∧ h' = hr zz S)) ∧ (∀ (x1 : Int32) (x2 : Int32) (x3 : Int32) (x4 : Int32) (x5 : Int32) (m : cM) (zz : cM), l_30 g n 2 x1 x2 x3 x4 x5 m = some zz → aWp X d 30 106 [some (.ref 71), some (.int x1), some (.int x2), some (.int x3), some (.int x4), some (.int x5)] [] (hr m S) (fun w h' => w = none ∧ h' = hr zz S)) ∧ (∀ (x1 : Int32) (x2 : Int32) (x3 : Int32) (x4 : Int32) (x5 : Int32) (m : cM) (zz : cM), l_30 g n 3 x1 x2 x3 x4 x5 m = some zz → aWp X d 30 119 [some (.ref 71), some (.int x1), some (.int x2), some (.int x3), some (.int x4), some (.int x5)] [] (hr m S) (fun w h' => w = none ∧ h' = hr zz S)) := by
  intro n
  induction n with
  | zero => exact ⟨fun _ _ _ _ _ _ _ hd => by simp [l_30] at hd, fun _ _ _ _ _ _ _ hd => by simp [l_30] at hd, fun _ _ _ _ _ _ _ hd => by simp [l_30] at hd, fun _ _ _ _ _ _ _ hd => by simp [l_30] at hd⟩
  | succ n ih =>
    refine ⟨?_, ?_, ?_, ?_⟩
    · intro x1 x2 x3 x4 x5 m zz hd
      unfold l_30 at hd
      rw [if_pos rfl] at hd
      obtain ⟨e, rfl⟩ : ∃ e, d = e + 1 := ⟨d - 1, by omega⟩
      refine wp_s 27 [some (.ref 71), some (.int x1), some (.int x2), some (.int x3), none, none] [.int x3] _ i_30_26 rfl ?_
      refine wp_s 28 [some (.ref 71), some (.int x1), some (.int x2), some (.int x3), none, none] [.int (4 : Int32), .int x3] _ i_30_27 rfl ?_
      refine wp_cmp_gt 125 31 rfl rfl i_30_28 (fun c_1 => ?_) (fun c_1 => ?_)
      · rw [if_pos c_1] at hd
        refine wp_s 126 [some (.ref 71), some (.int x1), some (.int x2), some (.int x3), none, none] [.ref 71] _ i_30_125 rfl ?_
        refine hm_get (w := .int (m.1 71 15)) 129 rfl i_30_126 (cb rfl) kk_71 rfl ?_
        refine wp_if_ne 137 132 rfl rfl i_30_129 (fun c_2 => ?_) (fun c_2 => ?_)
        · rw [if_pos c_2] at hd
          obtain rfl := Option.some.inj hd
          exact wp_ret i_30_137 rfl ⟨rfl, rfl⟩
        · rw [if_neg c_2] at hd
          refine wp_s 133 [some (.ref 71), some (.int x1), some (.int x2), some (.int x3), none, none] [.ref 71] _ i_30_132 rfl ?_
          refine wp_s 134 [some (.ref 71), some (.int x1), some (.int x2), some (.int x3), none, none] [.int (0 : Int32), .ref 71] _ i_30_133 rfl ?_
          obtain ⟨mm_3, q_4, hd⟩ := dk_bind hd
          refine hm_put 137 rfl i_30_134 (cb rfl) kk_71 (fun _ _ => rfl) (fun _ _ => Nat.le_of_ble_eq_true rfl) rfl ?_
          rw [Option.some.inj q_4]
          obtain rfl := Option.some.inj hd
          exact wp_ret i_30_137 rfl ⟨rfl, rfl⟩
      · rw [if_neg c_1] at hd
        refine wp_s 32 [some (.ref 71), some (.int x1), some (.int x2), some (.int x3), none, none] [.ref 71] _ i_30_31 rfl ?_
        refine wp_s 33 [some (.ref 71), some (.int x1), some (.int x2), some (.int x3), none, none] [.int x3, .ref 71] _ i_30_32 rfl ?_
        obtain ⟨z_5, q_6, hd⟩ := dk_bind hd
        refine wp_callV 36 rfl i_30_33 (by decide) rfl (vs := [.int x3]) (rest := []) rfl rfl rfl (hm_isO (cb rfl) kk_71) (y := m_16) rfl (Nat.le_of_ble_eq_true rfl) (d_16_ok (S := S) (d := e) (by omega) q_6) ?_
        rintro v_7 h_8 ⟨rfl, rfl⟩
        refine wp_s 38 [some (.ref 71), some (.int x1), some (.int x2), some (.int x3), some (.int z_5.1), none] [] _ i_30_36 rfl ?_
        refine wp_s 39 [some (.ref 71), some (.int x1), some (.int x2), some (.int x3), some (.int z_5.1), none] [.int (0 : Int32)] _ i_30_38 rfl ?_
        refine wp_s 41 [some (.ref 71), some (.int x1), some (.int x2), some (.int x3), some (.int z_5.1), some (.int (0 : Int32))] [] _ i_30_39 rfl ?_
        exact aWp.forget (ih.2.1 _ _ _ _ _ _ _ hd) (lvS (lvS (lvS (lvS (lvS (lvS lvE))))))
    · intro x1 x2 x3 x4 x5 m zz hd
      unfold l_30 at hd
      rw [if_neg (by decide), if_pos rfl] at hd
      obtain ⟨e, rfl⟩ : ∃ e, d = e + 1 := ⟨d - 1, by omega⟩
      refine wp_s 43 [some (.ref 71), some (.int x1), some (.int x2), some (.int x3), some (.int x4), some (.int x5)] [.int x4] _ i_30_41 rfl ?_
      refine wp_if_eq 119 46 rfl rfl i_30_43 (fun c_9 => ?_) (fun c_9 => ?_)
      · rw [if_pos c_9] at hd
        exact aWp.forget (ih.2.2.2 _ _ _ _ _ _ _ hd) (lvS (lvS (lvS (lvS (lvS (lvS lvE))))))
      · rw [if_neg c_9] at hd
        refine wp_s 48 [some (.ref 71), some (.int x1), some (.int x2), some (.int x3), some (.int x4), some (.int x5)] [.int x5] _ i_30_46 rfl ?_
        refine wp_s 50 [some (.ref 71), some (.int x1), some (.int x2), some (.int x3), some (.int x4), some (.int x5)] [.int (1000000 : Int32), .int x5] _ i_30_48 rfl ?_
        refine wp_cmp_ge 119 53 rfl rfl i_30_50 (fun c_10 => ?_) (fun c_10 => ?_)
        · rw [if_pos c_10] at hd
          exact aWp.forget (ih.2.2.2 _ _ _ _ _ _ _ hd) (lvS (lvS (lvS (lvS (lvS (lvS lvE))))))
        · rw [if_neg c_10] at hd
          refine wp_s 54 [some (.ref 71), some (.int x1), some (.int x2), some (.int x3), some (.int x4), some (.int x5)] [.ref 71] _ i_30_53 rfl ?_
          refine hm_get (w := .ref 32) 57 rfl i_30_54 (cb rfl) kk_71 rfl ?_
          refine wp_s 58 [some (.ref 71), some (.int x1), some (.int x2), some (.int x3), some (.int x4), some (.int x5)] [.ref 71, .ref 32] _ i_30_57 rfl ?_
          refine wp_s 59 [some (.ref 71), some (.int x1), some (.int x2), some (.int x3), some (.int x4), some (.int x5)] [.int x3, .ref 71, .ref 32] _ i_30_58 rfl ?_
          obtain ⟨z_11, q_12, hd⟩ := dk_bind hd
          refine wp_callV 62 rfl i_30_59 (by decide) rfl (vs := [.int x3]) (rest := [.ref 32]) rfl rfl rfl (hm_isO (cb rfl) kk_71) (y := m_20) rfl (Nat.le_of_ble_eq_true rfl) (d_20_ok (S := S) (d := e) (by omega) q_12) ?_
          rintro v_13 h_14 ⟨rfl, rfl⟩
          obtain ⟨z_15, q_16, hd⟩ := dk_bind hd
          refine wp_callV 65 rfl i_30_62 (by decide) rfl (vs := [.int z_11]) (rest := []) rfl rfl rfl (hm_isO (cb rfl) kk_32) (y := m_95) rfl (Nat.le_of_ble_eq_true rfl) (d_95_ok (S := S) (d := e) (by omega) q_16) ?_
          rintro v_17 h_18 ⟨rfl, rfl⟩
          refine wp_s 66 [some (.ref 71), some (.int x1), some (.int x2), some (.int x3), some (.int x4), some (.int x5)] [.int x1, .int z_15] _ i_30_65 rfl ?_
          refine wp_cmp_ne 106 69 rfl rfl i_30_66 (fun c_19 => ?_) (fun c_19 => ?_)
          · rw [if_pos c_19] at hd
            exact aWp.forget (ih.2.2.1 _ _ _ _ _ _ _ hd) (lvS (lvS (lvS (lvS (lvS (lvS lvE))))))
          · rw [if_neg c_19] at hd
            refine wp_s 70 [some (.ref 71), some (.int x1), some (.int x2), some (.int x3), some (.int x4), some (.int x5)] [.ref 71] _ i_30_69 rfl ?_
            refine hm_get (w := .ref 72) 73 rfl i_30_70 (cb rfl) kk_71 rfl ?_
            refine wp_s 74 [some (.ref 71), some (.int x1), some (.int x2), some (.int x3), some (.int x4), some (.int x5)] [.int x1, .ref 72] _ i_30_73 rfl ?_
            refine wp_s 75 [some (.ref 71), some (.int x1), some (.int x2), some (.int x3), some (.int x4), some (.int x5)] [.ref 71, .int x1, .ref 72] _ i_30_74 rfl ?_
            refine hm_get (w := .ref 74) 78 rfl i_30_75 (cb rfl) kk_71 rfl ?_
            refine wp_s 79 [some (.ref 71), some (.int x1), some (.int x2), some (.int x3), some (.int x4), some (.int x5)] [.int x3, .ref 74, .int x1, .ref 72] _ i_30_78 rfl ?_
            obtain ⟨z_20, q_21, hd⟩ := dk_bind hd
            refine wp_callV 82 rfl i_30_79 (by decide) rfl (vs := [.int x1, .ref 74, .int x3]) (rest := []) rfl rfl rfl (hm_isO (cb rfl) kk_72) (y := m_2) rfl (Nat.le_of_ble_eq_true rfl) (d_2_ok (S := S) (d := e) (by omega) q_21) ?_
            rintro v_22 h_23 ⟨rfl, rfl⟩
            refine wp_s 83 [some (.ref 71), some (.int x1), some (.int x2), some (.int x3), some (.int x4), some (.int x5)] [.ref 71] _ i_30_82 rfl ?_
            refine wp_s 84 [some (.ref 71), some (.int x1), some (.int x2), some (.int x3), some (.int x4), some (.int x5)] [.ref 71, .ref 71] _ i_30_83 rfl ?_
            refine hm_get (w := .int (z_20.1 71 15)) 87 rfl i_30_84 (cb rfl) kk_71 rfl ?_
            refine wp_s 88 [some (.ref 71), some (.int x1), some (.int x2), some (.int x3), some (.int x4), some (.int x5)] [.int (1 : Int32), .int (z_20.1 71 15), .ref 71] _ i_30_87 rfl ?_
            refine wp_s 89 [some (.ref 71), some (.int x1), some (.int x2), some (.int x3), some (.int x4), some (.int x5)] [.int ((z_20.1 71 15) + (1 : Int32)), .ref 71] _ i_30_88 rfl ?_
            obtain ⟨mm_24, q_25, hd⟩ := dk_bind hd
            refine hm_put 92 rfl i_30_89 (cb rfl) kk_71 (fun _ _ => rfl) (fun _ _ => Nat.le_of_ble_eq_true rfl) rfl ?_
            rw [Option.some.inj q_25]
            refine wp_s 93 [some (.ref 71), some (.int x1), some (.int x2), some (.int x3), some (.int x4), some (.int x5)] [.ref 71] _ i_30_92 rfl ?_
            refine wp_s 94 [some (.ref 71), some (.int x1), some (.int x2), some (.int x3), some (.int x4), some (.int x5)] [.ref 71, .ref 71] _ i_30_93 rfl ?_
            refine hm_get (w := .int (mm_24.1 71 16)) 97 rfl i_30_94 (cb rfl) kk_71 rfl ?_
            refine wp_s 98 [some (.ref 71), some (.int x1), some (.int x2), some (.int x3), some (.int x4), some (.int x5)] [.ref 71, .int (mm_24.1 71 16), .ref 71] _ i_30_97 rfl ?_
            refine wp_s 99 [some (.ref 71), some (.int x1), some (.int x2), some (.int x3), some (.int x4), some (.int x5)] [.int x3, .ref 71, .int (mm_24.1 71 16), .ref 71] _ i_30_98 rfl ?_
            obtain ⟨z_26, q_27, hd⟩ := dk_bind hd
            refine wp_callV 102 rfl i_30_99 (by decide) rfl (vs := [.int x3]) (rest := [.int (mm_24.1 71 16), .ref 71]) rfl rfl rfl (hm_isO (cb rfl) kk_71) (y := m_31) rfl (Nat.le_of_ble_eq_true rfl) (d_31_ok (S := S) (d := e) (by omega) q_27) ?_
            rintro v_28 h_29 ⟨rfl, rfl⟩
            refine wp_s 103 [some (.ref 71), some (.int x1), some (.int x2), some (.int x3), some (.int x4), some (.int x5)] [.int ((mm_24.1 71 16) &&& z_26), .ref 71] _ i_30_102 rfl ?_
            obtain ⟨mm_30, q_31, hd⟩ := dk_bind hd
            refine hm_put 106 rfl i_30_103 (cb rfl) kk_71 (fun _ _ => rfl) (fun _ _ => Nat.le_of_ble_eq_true rfl) rfl ?_
            rw [Option.some.inj q_31]
            exact aWp.forget (ih.2.2.1 _ _ _ _ _ _ _ hd) (lvS (lvS (lvS (lvS (lvS (lvS lvE))))))
    · intro x1 x2 x3 x4 x5 m zz hd
      unfold l_30 at hd
      rw [if_neg (by decide), if_neg (by decide), if_pos rfl] at hd
      obtain ⟨e, rfl⟩ : ∃ e, d = e + 1 := ⟨d - 1, by omega⟩
      refine wp_s 107 [some (.ref 71), some (.int x1), some (.int x2), some (.int x3), some (.int x4), some (.int x5)] [.ref 71] _ i_30_106 rfl ?_
      refine wp_s 108 [some (.ref 71), some (.int x1), some (.int x2), some (.int x3), some (.int x4), some (.int x5)] [.int x3, .ref 71] _ i_30_107 rfl ?_
      obtain ⟨z_32, q_33, hd⟩ := dk_bind hd
      refine wp_callV 111 rfl i_30_108 (by decide) rfl (vs := [.int x3]) (rest := []) rfl rfl rfl (hm_isO (cb rfl) kk_71) (y := m_17) rfl (Nat.le_of_ble_eq_true rfl) (d_17_ok (S := S) (d := e) (by omega) q_33) ?_
      rintro v_34 h_35 ⟨rfl, rfl⟩
      refine wp_s 113 [some (.ref 71), some (.int x1), some (.int x2), some (.int x3), some (.int z_32.1), some (.int x5)] [] _ i_30_111 rfl ?_
      refine wp_s 116 [some (.ref 71), some (.int x1), some (.int x2), some (.int x3), some (.int z_32.1), some (.int (x5 + (1 : Int32)))] [] _ i_30_113 rfl ?_
      refine wp_s 41 [some (.ref 71), some (.int x1), some (.int x2), some (.int x3), some (.int z_32.1), some (.int (x5 + (1 : Int32)))] [] _ i_30_116 rfl ?_
      exact aWp.forget (ih.2.1 _ _ _ _ _ _ _ hd) (lvS (lvS (lvS (lvS (lvS (lvS lvE))))))
    · intro x1 x2 x3 x4 x5 m zz hd
      unfold l_30 at hd
      rw [if_neg (by decide), if_neg (by decide), if_neg (by decide), if_pos rfl] at hd
      obtain ⟨e, rfl⟩ : ∃ e, d = e + 1 := ⟨d - 1, by omega⟩
      refine wp_s 122 [some (.ref 71), some (.int x1), some (.int x2), some (.int (x3 + (1 : Int32))), some (.int x4), some (.int x5)] [] _ i_30_119 rfl ?_
      refine wp_s 26 [some (.ref 71), some (.int x1), some (.int x2), some (.int (x3 + (1 : Int32))), some (.int x4), some (.int x5)] [] _ i_30_122 rfl ?_
      exact aWp.forget (ih.1 _ _ _ _ _ _ _ hd) (lvS (lvS (lvS (lvS (lvN (lvN lvE))))))
set_option maxHeartbeats 4000000 in
set_option maxRecDepth 100000 in
theorem d_30_ok {X : aX} {S : rS} {g : Nat} {x1 : Int32} {x2 : Int32} {m : cM} {zz : cM} {d : Nat} (hdp : 6 ≤ d) (hd : d_30 g x1 x2 m = some zz) : aWp X d 30 0 (aEntL [.ref 71, .int x1, .int x2] 6) [] (hr m S) (fun w h' => w = none ∧ h' = hr zz S) := by
  unfold d_30 at hd
  refine wp_lv (l2 := [some (.ref 71), some (.int x1), some (.int x2), none, none, none]) rfl ?_
  obtain ⟨e, rfl⟩ : ∃ e, d = e + 1 := ⟨d - 1, by omega⟩
  refine wp_s 1 [some (.ref 71), some (.int x1), some (.int x2), none, none, none] [.ref 71] _ i_30_0 rfl ?_
  refine hm_get (w := .ref 72) 4 rfl i_30_1 (cb rfl) kk_71 rfl ?_
  obtain ⟨z_1001, q_1002, hd⟩ := dk_bind hd
  refine wp_callV 7 rfl i_30_4 (by decide) rfl (vs := []) (rest := []) rfl rfl rfl (hm_isO (cb rfl) kk_72) (y := m_1) rfl (Nat.le_of_ble_eq_true rfl) (d_1_ok (S := S) (d := e) (by omega) q_1002) ?_
  rintro v_1003 h_1004 ⟨rfl, rfl⟩
  refine wp_s 8 [some (.ref 71), some (.int x1), some (.int x2), none, none, none] [.ref 71] _ i_30_7 rfl ?_
  refine wp_s 9 [some (.ref 71), some (.int x1), some (.int x2), none, none, none] [.int x2, .ref 71] _ i_30_8 rfl ?_
  obtain ⟨z_1005, q_1006, hd⟩ := dk_bind hd
  refine wp_callV 12 rfl i_30_9 (by decide) rfl (vs := [.int x2]) (rest := []) rfl rfl rfl (hm_isO (cb rfl) kk_71) (y := m_12) rfl (Nat.le_of_ble_eq_true rfl) (d_12_ok (S := S) (d := e) (by omega) q_1006) ?_
  rintro v_1007 h_1008 ⟨rfl, rfl⟩
  refine wp_s 13 [some (.ref 71), some (.int x1), some (.int x2), none, none, none] [.ref 71] _ i_30_12 rfl ?_
  refine wp_s 14 [some (.ref 71), some (.int x1), some (.int x2), none, none, none] [.int (0 : Int32), .ref 71] _ i_30_13 rfl ?_
  obtain ⟨mm_1009, q_1010, hd⟩ := dk_bind hd
  refine hm_put 17 rfl i_30_14 (cb rfl) kk_71 (fun _ _ => rfl) (fun _ _ => Nat.le_of_ble_eq_true rfl) rfl ?_
  rw [Option.some.inj q_1010]
  refine wp_s 18 [some (.ref 71), some (.int x1), some (.int x2), none, none, none] [.ref 71] _ i_30_17 rfl ?_
  refine wp_s 21 [some (.ref 71), some (.int x1), some (.int x2), none, none, none] [.int (255 : Int32), .ref 71] _ i_30_18 rfl ?_
  obtain ⟨mm_1011, q_1012, hd⟩ := dk_bind hd
  refine hm_put 24 rfl i_30_21 (cb rfl) kk_71 (fun _ _ => rfl) (fun _ _ => Nat.le_of_ble_eq_true rfl) rfl ?_
  rw [Option.some.inj q_1012]
  refine wp_s 25 [some (.ref 71), some (.int x1), some (.int x2), none, none, none] [.int (1 : Int32)] _ i_30_24 rfl ?_
  refine wp_s 26 [some (.ref 71), some (.int x1), some (.int x2), some (.int (1 : Int32)), none, none] [] _ i_30_25 rfl ?_
  exact aWp.forget ((l_30_ok hdp g).1 _ _ _ _ _ _ _ hd) (lvS (lvS (lvS (lvS (lvN (lvN lvE))))))
set_option maxHeartbeats 4000000 in
set_option maxRecDepth 100000 in
theorem l_33_ok {X : aX} {S : rS} {g : Nat} {d : Nat} (hdp : 4 ≤ d) : ∀ n, (∀ (x1 : Int32) (x2 : Int32) (m : cM) (zz : Int32 × cM), l_33 g n 0 x1 x2 m = some zz → aWp X d 33 2 [some (.ref 71), some (.int x1), some (.int x2), none] [] (hr m S) (fun w h' => w = some (.int zz.1) ∧ h' = hr zz.2 S)) := by
  intro n
  induction n with
  | zero => exact fun _ _ _ _ hd => by simp [l_33] at hd
  | succ n ih =>
    intro x1 x2 m zz hd
    unfold l_33 at hd
    rw [if_pos rfl] at hd
    obtain ⟨e, rfl⟩ : ∃ e, d = e + 1 := ⟨d - 1, by omega⟩
    refine wp_s 3 [some (.ref 71), some (.int x1), some (.int x2), none] [.int x2] _ i_33_2 rfl ?_
    refine wp_s 4 [some (.ref 71), some (.int x1), some (.int x2), none] [.ref 71, .int x2] _ i_33_3 rfl ?_
    refine hm_get (w := .ref 5) 7 rfl i_33_4 (cb rfl) kk_71 rfl ?_
    refine hm_get (w := .int (m.1 5 8)) 10 rfl i_33_7 (cb rfl) kk_5 rfl ?_
    refine wp_cmp_ge 77 13 rfl rfl i_33_10 (fun c_1 => ?_) (fun c_1 => ?_)
    · rw [if_pos c_1] at hd
      refine wp_s 78 [some (.ref 71), some (.int x1), some (.int x2), none] [.int (1 : Int32)] _ i_33_77 rfl ?_
      obtain rfl := Option.some.inj hd
      exact wp_iretZ (z := 0) i_33_78 (by decide) ⟨rfl, rfl⟩
    · rw [if_neg c_1] at hd
      refine wp_s 14 [some (.ref 71), some (.int x1), some (.int x2), none] [.ref 71] _ i_33_13 rfl ?_
      refine hm_get (w := .ref 32) 17 rfl i_33_14 (cb rfl) kk_71 rfl ?_
      refine wp_s 18 [some (.ref 71), some (.int x1), some (.int x2), none] [.ref 71, .ref 32] _ i_33_17 rfl ?_
      refine hm_get (w := .ref 5) 21 rfl i_33_18 (cb rfl) kk_71 rfl ?_
      refine hm_get (w := .ref 19) 24 rfl i_33_21 (cb rfl) kk_5 rfl ?_
      refine wp_s 25 [some (.ref 71), some (.int x1), some (.int x2), none] [.int x1, .ref 19, .ref 32] _ i_33_24 rfl ?_
      refine wp_s 26 [some (.ref 71), some (.int x1), some (.int x2), none] [.ref 71, .int x1, .ref 19, .ref 32] _ i_33_25 rfl ?_
      refine hm_get (w := .ref 5) 29 rfl i_33_26 (cb rfl) kk_71 rfl ?_
      refine hm_get (w := .ref 28) 32 rfl i_33_29 (cb rfl) kk_5 rfl ?_
      refine wp_s 33 [some (.ref 71), some (.int x1), some (.int x2), none] [.int x2, .ref 28, .int x1, .ref 19, .ref 32] _ i_33_32 rfl ?_
      obtain ⟨k_2, hd⟩ := dk_if hd
      refine hm_iald 34 rfl i_33_33 (cb rfl) kk_28 k_2 ?_
      refine wp_s 35 [some (.ref 71), some (.int x1), some (.int x2), none] [.ref 71, .int (m.1 28 x2.toNatClampNeg), .int x1, .ref 19, .ref 32] _ i_33_34 rfl ?_
      refine hm_get (w := .ref 5) 38 rfl i_33_35 (cb rfl) kk_71 rfl ?_
      refine hm_get (w := .ref 29) 41 rfl i_33_38 (cb rfl) kk_5 rfl ?_
      refine wp_s 42 [some (.ref 71), some (.int x1), some (.int x2), none] [.int x2, .ref 29, .int (m.1 28 x2.toNatClampNeg), .int x1, .ref 19, .ref 32] _ i_33_41 rfl ?_
      obtain ⟨k_3, hd⟩ := dk_if hd
      refine hm_iald 43 rfl i_33_42 (cb rfl) kk_29 k_3 ?_
      refine wp_s 44 [some (.ref 71), some (.int x1), some (.int x2), none] [.ref 71, .int (m.1 29 x2.toNatClampNeg), .int (m.1 28 x2.toNatClampNeg), .int x1, .ref 19, .ref 32] _ i_33_43 rfl ?_
      refine hm_get (w := .ref 5) 47 rfl i_33_44 (cb rfl) kk_71 rfl ?_
      refine hm_get (w := .ref 30) 50 rfl i_33_47 (cb rfl) kk_5 rfl ?_
      refine wp_s 51 [some (.ref 71), some (.int x1), some (.int x2), none] [.int x2, .ref 30, .int (m.1 29 x2.toNatClampNeg), .int (m.1 28 x2.toNatClampNeg), .int x1, .ref 19, .ref 32] _ i_33_50 rfl ?_
      obtain ⟨k_4, hd⟩ := dk_if hd
      refine hm_iald 52 rfl i_33_51 (cb rfl) kk_30 k_4 ?_
      obtain ⟨z_5, q_6, hd⟩ := dk_bind hd
      refine wp_callV 55 rfl i_33_52 (by decide) rfl (vs := [.ref 19, .int x1, .int (m.1 28 x2.toNatClampNeg), .int (m.1 29 x2.toNatClampNeg), .int (m.1 30 x2.toNatClampNeg)]) (rest := []) rfl rfl rfl (hm_isO (cb rfl) kk_32) (y := m_89) rfl (Nat.le_of_ble_eq_true rfl) (d_89_ok (S := S) (d := e) (by omega) q_6) ?_
      rintro v_7 h_8 ⟨rfl, rfl⟩
      refine wp_s 56 [some (.ref 71), some (.int x1), some (.int x2), some (.int z_5.1)] [] _ i_33_55 rfl ?_
      refine wp_s 57 [some (.ref 71), some (.int x1), some (.int x2), some (.int z_5.1)] [.int z_5.1] _ i_33_56 rfl ?_
      refine wp_s 58 [some (.ref 71), some (.int x1), some (.int x2), some (.int z_5.1)] [.ref 71, .int z_5.1] _ i_33_57 rfl ?_
      refine hm_get (w := .ref 5) 61 rfl i_33_58 (cb rfl) kk_71 rfl ?_
      refine hm_get (w := .ref 31) 64 rfl i_33_61 (cb rfl) kk_5 rfl ?_
      refine wp_s 65 [some (.ref 71), some (.int x1), some (.int x2), some (.int z_5.1)] [.int x2, .ref 31, .int z_5.1] _ i_33_64 rfl ?_
      obtain ⟨k_9, hd⟩ := dk_if hd
      refine hm_iald 66 rfl i_33_65 (cb rfl) kk_31 k_9 ?_
      refine wp_cmp_eq 71 69 rfl rfl i_33_66 (fun c_10 => ?_) (fun c_10 => ?_)
      · rw [if_pos c_10] at hd
        refine wp_s 74 [some (.ref 71), some (.int x1), some (.int (x2 + (1 : Int32))), some (.int z_5.1)] [] _ i_33_71 rfl ?_
        refine wp_s 2 [some (.ref 71), some (.int x1), some (.int (x2 + (1 : Int32))), some (.int z_5.1)] [] _ i_33_74 rfl ?_
        exact aWp.forget (ih _ _ _ _ hd) (lvS (lvS (lvS (lvN lvE))))
      · rw [if_neg c_10] at hd
        refine wp_s 70 [some (.ref 71), some (.int x1), some (.int x2), some (.int z_5.1)] [.int (0 : Int32)] _ i_33_69 rfl ?_
        obtain rfl := Option.some.inj hd
        exact wp_iretZ (z := 0) i_33_70 (by decide) ⟨rfl, rfl⟩
set_option maxHeartbeats 4000000 in
set_option maxRecDepth 100000 in
theorem d_33_ok {X : aX} {S : rS} {g : Nat} {x1 : Int32} {m : cM} {zz : Int32 × cM} {d : Nat} (hdp : 4 ≤ d) (hd : d_33 g x1 m = some zz) : aWp X d 33 0 (aEntL [.ref 71, .int x1] 4) [] (hr m S) (fun w h' => w = some (.int zz.1) ∧ h' = hr zz.2 S) := by
  unfold d_33 at hd
  refine wp_lv (l2 := [some (.ref 71), some (.int x1), none, none]) rfl ?_
  obtain ⟨e, rfl⟩ : ∃ e, d = e + 1 := ⟨d - 1, by omega⟩
  refine wp_s 1 [some (.ref 71), some (.int x1), none, none] [.int (0 : Int32)] _ i_33_0 rfl ?_
  refine wp_s 2 [some (.ref 71), some (.int x1), some (.int (0 : Int32)), none] [] _ i_33_1 rfl ?_
  exact aWp.forget ((l_33_ok hdp g) _ _ _ _ hd) (lvS (lvS (lvS (lvN lvE))))
set_option maxHeartbeats 4000000 in
set_option maxRecDepth 100000 in
theorem l_32_ok {X : aX} {S : rS} {g : Nat} {d : Nat} (hdp : 5 ≤ d) : ∀ n, (∀ (x1 : Int32) (m : cM) (zz : cM), l_32 g n 0 x1 m = some zz → aWp X d 32 7 [some (.ref 71), some (.int x1)] [] (hr m S) (fun w h' => w = none ∧ h' = hr zz S)) ∧ (∀ (x1 : Int32) (m : cM) (zz : cM), l_32 g n 1 x1 m = some zz → aWp X d 32 46 [some (.ref 71), some (.int x1)] [] (hr m S) (fun w h' => w = none ∧ h' = hr zz S)) := by
  intro n
  induction n with
  | zero => exact ⟨fun _ _ _ hd => by simp [l_32] at hd, fun _ _ _ hd => by simp [l_32] at hd⟩
  | succ n ih =>
    refine ⟨?_, ?_⟩
    · intro x1 m zz hd
      unfold l_32 at hd
      rw [if_pos rfl] at hd
      obtain ⟨e, rfl⟩ : ∃ e, d = e + 1 := ⟨d - 1, by omega⟩
      refine wp_s 8 [some (.ref 71), some (.int x1)] [.int x1] _ i_32_7 rfl ?_
      refine wp_s 9 [some (.ref 71), some (.int x1)] [.ref 71, .int x1] _ i_32_8 rfl ?_
      refine hm_get (w := .ref 32) 12 rfl i_32_9 (cb rfl) kk_71 rfl ?_
      refine hm_get (w := .int (m.1 32 2)) 15 rfl i_32_12 (cb rfl) kk_32 rfl ?_
      refine wp_cmp_ge 52 18 rfl rfl i_32_15 (fun c_1 => ?_) (fun c_1 => ?_)
      · rw [if_pos c_1] at hd
        obtain rfl := Option.some.inj hd
        exact wp_ret i_32_52 rfl ⟨rfl, rfl⟩
      · rw [if_neg c_1] at hd
        refine wp_s 19 [some (.ref 71), some (.int x1)] [.ref 71] _ i_32_18 rfl ?_
        refine wp_s 20 [some (.ref 71), some (.int x1)] [.int x1, .ref 71] _ i_32_19 rfl ?_
        obtain ⟨z_2, q_3, hd⟩ := dk_bind hd
        refine wp_callV 23 rfl i_32_20 (by decide) rfl (vs := [.int x1]) (rest := []) rfl rfl rfl (hm_isO (cb rfl) kk_71) (y := m_33) rfl (Nat.le_of_ble_eq_true rfl) (d_33_ok (S := S) (d := e) (by omega) q_3) ?_
        rintro v_4 h_5 ⟨rfl, rfl⟩
        refine wp_if_eq 46 26 rfl rfl i_32_23 (fun c_6 => ?_) (fun c_6 => ?_)
        · rw [if_pos c_6] at hd
          exact aWp.forget (ih.2 _ _ _ hd) (lvS (lvS lvE))
        · rw [if_neg c_6] at hd
          refine wp_s 27 [some (.ref 71), some (.int x1)] [.ref 71] _ i_32_26 rfl ?_
          refine hm_get (w := .ref 79) 30 rfl i_32_27 (cb rfl) kk_71 rfl ?_
          refine wp_s 31 [some (.ref 71), some (.int x1)] [.ref 71, .ref 79] _ i_32_30 rfl ?_
          refine hm_get (w := .int (z_2.2.1 71 17)) 34 rfl i_32_31 (cb rfl) kk_71 rfl ?_
          refine wp_s 35 [some (.ref 71), some (.int x1)] [.int x1, .int (z_2.2.1 71 17), .ref 79] _ i_32_34 rfl ?_
          obtain ⟨k_7, hd⟩ := dk_if hd
          obtain ⟨mm_8, q_9, hd⟩ := dk_bind hd
          refine hm_iast 36 rfl i_32_35 (cb rfl) kk_79 k_7 ?_
          rw [Option.some.inj q_9]
          refine wp_s 37 [some (.ref 71), some (.int x1)] [.ref 71] _ i_32_36 rfl ?_
          refine wp_s 38 [some (.ref 71), some (.int x1)] [.ref 71, .ref 71] _ i_32_37 rfl ?_
          refine hm_get (w := .int (mm_8.1 71 17)) 41 rfl i_32_38 (cb rfl) kk_71 rfl ?_
          refine wp_s 42 [some (.ref 71), some (.int x1)] [.int (1 : Int32), .int (mm_8.1 71 17), .ref 71] _ i_32_41 rfl ?_
          refine wp_s 43 [some (.ref 71), some (.int x1)] [.int ((mm_8.1 71 17) + (1 : Int32)), .ref 71] _ i_32_42 rfl ?_
          obtain ⟨mm_10, q_11, hd⟩ := dk_bind hd
          refine hm_put 46 rfl i_32_43 (cb rfl) kk_71 (fun _ _ => rfl) (fun _ _ => Nat.le_of_ble_eq_true rfl) rfl ?_
          rw [Option.some.inj q_11]
          exact aWp.forget (ih.2 _ _ _ hd) (lvS (lvS lvE))
    · intro x1 m zz hd
      unfold l_32 at hd
      rw [if_neg (by decide), if_pos rfl] at hd
      obtain ⟨e, rfl⟩ : ∃ e, d = e + 1 := ⟨d - 1, by omega⟩
      refine wp_s 49 [some (.ref 71), some (.int (x1 + (1 : Int32)))] [] _ i_32_46 rfl ?_
      refine wp_s 7 [some (.ref 71), some (.int (x1 + (1 : Int32)))] [] _ i_32_49 rfl ?_
      exact aWp.forget (ih.1 _ _ _ hd) (lvS (lvS lvE))
set_option maxHeartbeats 4000000 in
set_option maxRecDepth 100000 in
theorem d_32_ok {X : aX} {S : rS} {g : Nat}  {m : cM} {zz : cM} {d : Nat} (hdp : 5 ≤ d) (hd : d_32 g  m = some zz) : aWp X d 32 0 (aEntL [.ref 71] 2) [] (hr m S) (fun w h' => w = none ∧ h' = hr zz S) := by
  unfold d_32 at hd
  refine wp_lv (l2 := [some (.ref 71), none]) rfl ?_
  obtain ⟨e, rfl⟩ : ∃ e, d = e + 1 := ⟨d - 1, by omega⟩
  refine wp_s 1 [some (.ref 71), none] [.ref 71] _ i_32_0 rfl ?_
  refine wp_s 2 [some (.ref 71), none] [.int (0 : Int32), .ref 71] _ i_32_1 rfl ?_
  obtain ⟨mm_1001, q_1002, hd⟩ := dk_bind hd
  refine hm_put 5 rfl i_32_2 (cb rfl) kk_71 (fun _ _ => rfl) (fun _ _ => Nat.le_of_ble_eq_true rfl) rfl ?_
  rw [Option.some.inj q_1002]
  refine wp_s 6 [some (.ref 71), none] [.int (-1 : Int32)] _ i_32_5 rfl ?_
  refine wp_s 7 [some (.ref 71), some (.int (-1 : Int32))] [] _ i_32_6 rfl ?_
  exact aWp.forget ((l_32_ok hdp g).1 _ _ _ hd) (lvS (lvS lvE))
set_option maxHeartbeats 4000000 in
set_option maxRecDepth 100000 in
theorem l_35_ok {X : aX} {S : rS} {g : Nat} {d : Nat} (hdp : 0 ≤ d) : ∀ n, (∀ (x1 : Int32) (x2 : Int32) (x3 : Int32) (x4 : Int32) (m : cM) (zz : Int32), l_35 g n 0 x1 x2 x3 x4 m = some zz → aWp X d 35 4 [some (.ref 71), some (.int x1), some (.int x2), none, none] [] (hr m S) (fun w h' => w = some (.int zz) ∧ h' = hr m S)) ∧ (∀ (x1 : Int32) (x2 : Int32) (x3 : Int32) (x4 : Int32) (m : cM) (zz : Int32), l_35 g n 1 x1 x2 x3 x4 m = some zz → aWp X d 35 17 [some (.ref 71), some (.int x1), some (.int x2), some (.int x3), some (.int x4)] [] (hr m S) (fun w h' => w = some (.int zz) ∧ h' = hr m S)) ∧ (∀ (x1 : Int32) (x2 : Int32) (x3 : Int32) (x4 : Int32) (m : cM) (zz : Int32), l_35 g n 2 x1 x2 x3 x4 m = some zz → aWp X d 35 45 [some (.ref 71), some (.int x1), some (.int x2), some (.int x3), some (.int x4)] [] (hr m S) (fun w h' => w = some (.int zz) ∧ h' = hr m S)) := by
  intro n
  induction n with
  | zero => exact ⟨fun _ _ _ _ _ _ hd => by simp [l_35] at hd, fun _ _ _ _ _ _ hd => by simp [l_35] at hd, fun _ _ _ _ _ _ hd => by simp [l_35] at hd⟩
  | succ n ih =>
    refine ⟨?_, ?_, ?_⟩
    · intro x1 x2 x3 x4 m zz hd
      unfold l_35 at hd
      rw [if_pos rfl] at hd
      refine wp_s 5 [some (.ref 71), some (.int x1), some (.int x2), none, none] [.int x2] _ i_35_4 rfl ?_
      refine wp_s 6 [some (.ref 71), some (.int x1), some (.int x2), none, none] [.ref 71, .int x2] _ i_35_5 rfl ?_
      refine hm_get (w := .int (m.1 71 17)) 9 rfl i_35_6 (cb rfl) kk_71 rfl ?_
      refine wp_cmp_ge 63 12 rfl rfl i_35_9 (fun c_1 => ?_) (fun c_1 => ?_)
      · rw [if_pos c_1] at hd
        refine wp_s 64 [some (.ref 71), some (.int x1), some (.int x2), none, none] [.int x1] _ i_35_63 rfl ?_
        obtain rfl := Option.some.inj hd
        exact wp_iret i_35_64 ⟨rfl, rfl⟩
      · rw [if_neg c_1] at hd
        refine wp_s 13 [some (.ref 71), some (.int x1), some (.int x2), none, none] [.int (0 : Int32)] _ i_35_12 rfl ?_
        refine wp_s 14 [some (.ref 71), some (.int x1), some (.int x2), some (.int (0 : Int32)), none] [] _ i_35_13 rfl ?_
        refine wp_s 15 [some (.ref 71), some (.int x1), some (.int x2), some (.int (0 : Int32)), none] [.int (0 : Int32)] _ i_35_14 rfl ?_
        refine wp_s 17 [some (.ref 71), some (.int x1), some (.int x2), some (.int (0 : Int32)), some (.int (0 : Int32))] [] _ i_35_15 rfl ?_
        exact aWp.forget (ih.2.1 _ _ _ _ _ _ hd) (lvS (lvS (lvS (lvS (lvS lvE)))))
    · intro x1 x2 x3 x4 m zz hd
      unfold l_35 at hd
      rw [if_neg (by decide), if_pos rfl] at hd
      refine wp_s 19 [some (.ref 71), some (.int x1), some (.int x2), some (.int x3), some (.int x4)] [.int x4] _ i_35_17 rfl ?_
      refine wp_s 20 [some (.ref 71), some (.int x1), some (.int x2), some (.int x3), some (.int x4)] [.ref 71, .int x4] _ i_35_19 rfl ?_
      refine hm_get (w := .int (m.1 71 17)) 23 rfl i_35_20 (cb rfl) kk_71 rfl ?_
      refine wp_cmp_ge 51 26 rfl rfl i_35_23 (fun c_2 => ?_) (fun c_2 => ?_)
      · rw [if_pos c_2] at hd
        refine wp_s 52 [some (.ref 71), some (.int x1), some (.int x2), some (.int x3), some (.int x4)] [.int x1] _ i_35_51 rfl ?_
        refine wp_s 53 [some (.ref 71), some (.int x1), some (.int x2), some (.int x3), some (.int x4)] [.int x3, .int x1] _ i_35_52 rfl ?_
        refine hp_max 56 rfl i_35_53 rfl ?_
        refine wp_s 57 [some (.ref 71), some (.int (if x1 < x3 then x3 else x1)), some (.int x2), some (.int x3), some (.int x4)] [] _ i_35_56 rfl ?_
        refine wp_s 60 [some (.ref 71), some (.int (if x1 < x3 then x3 else x1)), some (.int (x2 + (1 : Int32))), some (.int x3), some (.int x4)] [] _ i_35_57 rfl ?_
        refine wp_s 4 [some (.ref 71), some (.int (if x1 < x3 then x3 else x1)), some (.int (x2 + (1 : Int32))), some (.int x3), some (.int x4)] [] _ i_35_60 rfl ?_
        exact aWp.forget (ih.1 _ _ _ _ _ _ hd) (lvS (lvS (lvS (lvN (lvN lvE)))))
      · rw [if_neg c_2] at hd
        refine wp_s 27 [some (.ref 71), some (.int x1), some (.int x2), some (.int x3), some (.int x4)] [.ref 71] _ i_35_26 rfl ?_
        refine hm_get (w := .ref 80) 30 rfl i_35_27 (cb rfl) kk_71 rfl ?_
        refine wp_s 32 [some (.ref 71), some (.int x1), some (.int x2), some (.int x3), some (.int x4)] [.int x4, .ref 80] _ i_35_30 rfl ?_
        obtain ⟨k_3, hd⟩ := dk_if hd
        refine hm_iald 33 rfl i_35_32 (cb rfl) kk_80 k_3 ?_
        refine wp_s 34 [some (.ref 71), some (.int x1), some (.int x2), some (.int x3), some (.int x4)] [.ref 71, .int (m.1 80 x4.toNatClampNeg)] _ i_35_33 rfl ?_
        refine hm_get (w := .ref 80) 37 rfl i_35_34 (cb rfl) kk_71 rfl ?_
        refine wp_s 38 [some (.ref 71), some (.int x1), some (.int x2), some (.int x3), some (.int x4)] [.int x2, .ref 80, .int (m.1 80 x4.toNatClampNeg)] _ i_35_37 rfl ?_
        obtain ⟨k_4, hd⟩ := dk_if hd
        refine hm_iald 39 rfl i_35_38 (cb rfl) kk_80 k_4 ?_
        refine wp_cmp_ne 45 42 rfl rfl i_35_39 (fun c_5 => ?_) (fun c_5 => ?_)
        · rw [if_pos c_5] at hd
          exact aWp.forget (ih.2.2 _ _ _ _ _ _ hd) (lvS (lvS (lvS (lvS (lvS lvE)))))
        · rw [if_neg c_5] at hd
          refine wp_s 45 [some (.ref 71), some (.int x1), some (.int x2), some (.int (x3 + (1 : Int32))), some (.int x4)] [] _ i_35_42 rfl ?_
          exact aWp.forget (ih.2.2 _ _ _ _ _ _ hd) (lvS (lvS (lvS (lvS (lvS lvE)))))
    · intro x1 x2 x3 x4 m zz hd
      unfold l_35 at hd
      rw [if_neg (by decide), if_neg (by decide), if_pos rfl] at hd
      refine wp_s 48 [some (.ref 71), some (.int x1), some (.int x2), some (.int x3), some (.int (x4 + (1 : Int32)))] [] _ i_35_45 rfl ?_
      refine wp_s 17 [some (.ref 71), some (.int x1), some (.int x2), some (.int x3), some (.int (x4 + (1 : Int32)))] [] _ i_35_48 rfl ?_
      exact aWp.forget (ih.2.1 _ _ _ _ _ _ hd) (lvS (lvS (lvS (lvS (lvS lvE)))))
set_option maxHeartbeats 4000000 in
set_option maxRecDepth 100000 in
theorem d_35_ok {X : aX} {S : rS} {g : Nat}  {m : cM} {zz : Int32} {d : Nat} (hdp : 0 ≤ d) (hd : d_35 g  m = some zz) : aWp X d 35 0 (aEntL [.ref 71] 5) [] (hr m S) (fun w h' => w = some (.int zz) ∧ h' = hr m S) := by
  unfold d_35 at hd
  refine wp_lv (l2 := [some (.ref 71), none, none, none, none]) rfl ?_
  refine wp_s 1 [some (.ref 71), none, none, none, none] [.int (0 : Int32)] _ i_35_0 rfl ?_
  refine wp_s 2 [some (.ref 71), some (.int (0 : Int32)), none, none, none] [] _ i_35_1 rfl ?_
  refine wp_s 3 [some (.ref 71), some (.int (0 : Int32)), none, none, none] [.int (0 : Int32)] _ i_35_2 rfl ?_
  refine wp_s 4 [some (.ref 71), some (.int (0 : Int32)), some (.int (0 : Int32)), none, none] [] _ i_35_3 rfl ?_
  exact aWp.forget ((l_35_ok hdp g).1 _ _ _ _ _ _ hd) (lvS (lvS (lvS (lvN (lvN lvE)))))
set_option maxHeartbeats 4000000 in
set_option maxRecDepth 100000 in
theorem l_34_ok {X : aX} {S : rS} {g : Nat} {d : Nat} (hdp : 4 ≤ d) : ∀ n, (∀ (x1 : Int32) (x2 : Int32) (x3 : Int32) (x4 : Int32) (m : cM) (zz : cM), l_34 g n 0 x1 x2 x3 x4 m = some zz → aWp X d 34 9 [some (.ref 71), some (.int x1), some (.int x2), some (.int x3), none] [] (hr m S) (fun w h' => w = none ∧ h' = hr zz S)) ∧ (∀ (x1 : Int32) (x2 : Int32) (x3 : Int32) (x4 : Int32) (m : cM) (zz : cM), l_34 g n 1 x1 x2 x3 x4 m = some zz → aWp X d 34 18 [some (.ref 71), some (.int x1), some (.int x2), some (.int x3), some (.int x4)] [] (hr m S) (fun w h' => w = none ∧ h' = hr zz S)) := by
  intro n
  induction n with
  | zero => exact ⟨fun _ _ _ _ _ _ hd => by simp [l_34] at hd, fun _ _ _ _ _ _ hd => by simp [l_34] at hd⟩
  | succ n ih =>
    refine ⟨?_, ?_⟩
    · intro x1 x2 x3 x4 m zz hd
      unfold l_34 at hd
      rw [if_pos rfl] at hd
      obtain ⟨e, rfl⟩ : ∃ e, d = e + 1 := ⟨d - 1, by omega⟩
      refine wp_s 10 [some (.ref 71), some (.int x1), some (.int x2), some (.int x3), none] [.int x3] _ i_34_9 rfl ?_
      refine wp_s 12 [some (.ref 71), some (.int x1), some (.int x2), some (.int x3), none] [.int (9 : Int32), .int x3] _ i_34_10 rfl ?_
      refine wp_cmp_gt 93 15 rfl rfl i_34_12 (fun c_1 => ?_) (fun c_1 => ?_)
      · rw [if_pos c_1] at hd
        obtain rfl := Option.some.inj hd
        exact wp_ret i_34_93 rfl ⟨rfl, rfl⟩
      · rw [if_neg c_1] at hd
        refine wp_s 16 [some (.ref 71), some (.int x1), some (.int x2), some (.int x3), none] [.int (0 : Int32)] _ i_34_15 rfl ?_
        refine wp_s 18 [some (.ref 71), some (.int x1), some (.int x2), some (.int x3), some (.int (0 : Int32))] [] _ i_34_16 rfl ?_
        exact aWp.forget (ih.2 _ _ _ _ _ _ hd) (lvS (lvS (lvS (lvS (lvS lvE)))))
    · intro x1 x2 x3 x4 m zz hd
      unfold l_34 at hd
      rw [if_neg (by decide), if_pos rfl] at hd
      obtain ⟨e, rfl⟩ : ∃ e, d = e + 1 := ⟨d - 1, by omega⟩
      refine wp_s 20 [some (.ref 71), some (.int x1), some (.int x2), some (.int x3), some (.int x4)] [.int x4] _ i_34_18 rfl ?_
      refine wp_s 21 [some (.ref 71), some (.int x1), some (.int x2), some (.int x3), some (.int x4)] [.ref 71, .int x4] _ i_34_20 rfl ?_
      refine hm_get (w := .int (m.1 71 17)) 24 rfl i_34_21 (cb rfl) kk_71 rfl ?_
      refine wp_cmp_ge 64 27 rfl rfl i_34_24 (fun c_2 => ?_) (fun c_2 => ?_)
      · rw [if_pos c_2] at hd
        refine wp_s 65 [some (.ref 71), some (.int x1), some (.int x2), some (.int x3), some (.int x4)] [.ref 71] _ i_34_64 rfl ?_
        refine hm_get (w := .ref 74) 68 rfl i_34_65 (cb rfl) kk_71 rfl ?_
        refine wp_s 69 [some (.ref 71), some (.int x1), some (.int x2), some (.int x3), some (.int x4)] [.int (0 : Int32), .ref 74] _ i_34_68 rfl ?_
        refine wp_s 70 [some (.ref 71), some (.int x1), some (.int x2), some (.int x3), some (.int x4)] [.int x3, .int (0 : Int32), .ref 74] _ i_34_69 rfl ?_
        obtain ⟨k_3, hd⟩ := dk_if hd
        obtain ⟨mm_4, q_5, hd⟩ := dk_bind hd
        refine hm_iast 71 rfl i_34_70 (cb rfl) kk_74 k_3 ?_
        rw [Option.some.inj q_5]
        refine wp_s 72 [some (.ref 71), some (.int x1), some (.int x2), some (.int x3), some (.int x4)] [.ref 71] _ i_34_71 rfl ?_
        refine hm_get (w := .ref 72) 75 rfl i_34_72 (cb rfl) kk_71 rfl ?_
        refine wp_s 76 [some (.ref 71), some (.int x1), some (.int x2), some (.int x3), some (.int x4)] [.ref 71, .ref 72] _ i_34_75 rfl ?_
        obtain ⟨z_6, q_7, hd⟩ := dk_bind hd
        refine wp_callV 79 rfl i_34_76 (by decide) rfl (vs := []) (rest := [.ref 72]) rfl rfl rfl (hm_isO (cb rfl) kk_71) (y := m_35) rfl (Nat.le_of_ble_eq_true rfl) (d_35_ok (S := S) (d := e) (by omega) q_7) ?_
        rintro v_8 h_9 ⟨rfl, rfl⟩
        refine wp_s 80 [some (.ref 71), some (.int x1), some (.int x2), some (.int x3), some (.int x4)] [.ref 71, .int z_6, .ref 72] _ i_34_79 rfl ?_
        refine hm_get (w := .ref 74) 83 rfl i_34_80 (cb rfl) kk_71 rfl ?_
        refine wp_s 84 [some (.ref 71), some (.int x1), some (.int x2), some (.int x3), some (.int x4)] [.int (1 : Int32), .ref 74, .int z_6, .ref 72] _ i_34_83 rfl ?_
        obtain ⟨z_10, q_11, hd⟩ := dk_bind hd
        refine wp_callV 87 rfl i_34_84 (by decide) rfl (vs := [.int z_6, .ref 74, .int (1 : Int32)]) (rest := []) rfl rfl rfl (hm_isO (cb rfl) kk_72) (y := m_2) rfl (Nat.le_of_ble_eq_true rfl) (d_2_ok (S := S) (d := e) (by omega) q_11) ?_
        rintro v_12 h_13 ⟨rfl, rfl⟩
        refine wp_s 90 [some (.ref 71), some (.int x1), some (.int x2), some (.int (x3 + (1 : Int32))), some (.int x4)] [] _ i_34_87 rfl ?_
        refine wp_s 9 [some (.ref 71), some (.int x1), some (.int x2), some (.int (x3 + (1 : Int32))), some (.int x4)] [] _ i_34_90 rfl ?_
        exact aWp.forget (ih.1 _ _ _ _ _ _ hd) (lvS (lvS (lvS (lvS (lvN lvE)))))
      · rw [if_neg c_2] at hd
        refine wp_s 28 [some (.ref 71), some (.int x1), some (.int x2), some (.int x3), some (.int x4)] [.ref 71] _ i_34_27 rfl ?_
        refine hm_get (w := .ref 80) 31 rfl i_34_28 (cb rfl) kk_71 rfl ?_
        refine wp_s 33 [some (.ref 71), some (.int x1), some (.int x2), some (.int x3), some (.int x4)] [.int x4, .ref 80] _ i_34_31 rfl ?_
        refine wp_s 34 [some (.ref 71), some (.int x1), some (.int x2), some (.int x3), some (.int x4)] [.ref 71, .int x4, .ref 80] _ i_34_33 rfl ?_
        refine hm_get (w := .ref 32) 37 rfl i_34_34 (cb rfl) kk_71 rfl ?_
        refine wp_s 38 [some (.ref 71), some (.int x1), some (.int x2), some (.int x3), some (.int x4)] [.ref 71, .ref 32, .int x4, .ref 80] _ i_34_37 rfl ?_
        refine hm_get (w := .ref 5) 41 rfl i_34_38 (cb rfl) kk_71 rfl ?_
        refine hm_get (w := .ref 19) 44 rfl i_34_41 (cb rfl) kk_5 rfl ?_
        refine wp_s 45 [some (.ref 71), some (.int x1), some (.int x2), some (.int x3), some (.int x4)] [.ref 71, .ref 19, .ref 32, .int x4, .ref 80] _ i_34_44 rfl ?_
        refine hm_get (w := .ref 79) 48 rfl i_34_45 (cb rfl) kk_71 rfl ?_
        refine wp_s 50 [some (.ref 71), some (.int x1), some (.int x2), some (.int x3), some (.int x4)] [.int x4, .ref 79, .ref 19, .ref 32, .int x4, .ref 80] _ i_34_48 rfl ?_
        obtain ⟨k_14, hd⟩ := dk_if hd
        refine hm_iald 51 rfl i_34_50 (cb rfl) kk_79 k_14 ?_
        refine wp_s 52 [some (.ref 71), some (.int x1), some (.int x2), some (.int x3), some (.int x4)] [.int x1, .int (m.1 79 x4.toNatClampNeg), .ref 19, .ref 32, .int x4, .ref 80] _ i_34_51 rfl ?_
        refine wp_s 53 [some (.ref 71), some (.int x1), some (.int x2), some (.int x3), some (.int x4)] [.int x2, .int x1, .int (m.1 79 x4.toNatClampNeg), .ref 19, .ref 32, .int x4, .ref 80] _ i_34_52 rfl ?_
        refine wp_s 54 [some (.ref 71), some (.int x1), some (.int x2), some (.int x3), some (.int x4)] [.int x3, .int x2, .int x1, .int (m.1 79 x4.toNatClampNeg), .ref 19, .ref 32, .int x4, .ref 80] _ i_34_53 rfl ?_
        obtain ⟨z_15, q_16, hd⟩ := dk_bind hd
        refine wp_callV 57 rfl i_34_54 (by decide) rfl (vs := [.ref 19, .int (m.1 79 x4.toNatClampNeg), .int x1, .int x2, .int x3]) (rest := [.int x4, .ref 80]) rfl rfl rfl (hm_isO (cb rfl) kk_32) (y := m_89) rfl (Nat.le_of_ble_eq_true rfl) (d_89_ok (S := S) (d := e) (by omega) q_16) ?_
        rintro v_17 h_18 ⟨rfl, rfl⟩
        obtain ⟨k_19, hd⟩ := dk_if hd
        obtain ⟨mm_20, q_21, hd⟩ := dk_bind hd
        refine hm_iast 58 rfl i_34_57 (cb rfl) kk_80 k_19 ?_
        rw [Option.some.inj q_21]
        refine wp_s 61 [some (.ref 71), some (.int x1), some (.int x2), some (.int x3), some (.int (x4 + (1 : Int32)))] [] _ i_34_58 rfl ?_
        refine wp_s 18 [some (.ref 71), some (.int x1), some (.int x2), some (.int x3), some (.int (x4 + (1 : Int32)))] [] _ i_34_61 rfl ?_
        exact aWp.forget (ih.2 _ _ _ _ _ _ hd) (lvS (lvS (lvS (lvS (lvS lvE)))))
set_option maxHeartbeats 4000000 in
set_option maxRecDepth 100000 in
theorem d_34_ok {X : aX} {S : rS} {g : Nat} {x1 : Int32} {x2 : Int32} {m : cM} {zz : cM} {d : Nat} (hdp : 4 ≤ d) (hd : d_34 g x1 x2 m = some zz) : aWp X d 34 0 (aEntL [.ref 71, .int x1, .int x2] 5) [] (hr m S) (fun w h' => w = none ∧ h' = hr zz S) := by
  unfold d_34 at hd
  refine wp_lv (l2 := [some (.ref 71), some (.int x1), some (.int x2), none, none]) rfl ?_
  obtain ⟨e, rfl⟩ : ∃ e, d = e + 1 := ⟨d - 1, by omega⟩
  refine wp_s 1 [some (.ref 71), some (.int x1), some (.int x2), none, none] [.ref 71] _ i_34_0 rfl ?_
  refine hm_get (w := .ref 72) 4 rfl i_34_1 (cb rfl) kk_71 rfl ?_
  obtain ⟨z_1001, q_1002, hd⟩ := dk_bind hd
  refine wp_callV 7 rfl i_34_4 (by decide) rfl (vs := []) (rest := []) rfl rfl rfl (hm_isO (cb rfl) kk_72) (y := m_1) rfl (Nat.le_of_ble_eq_true rfl) (d_1_ok (S := S) (d := e) (by omega) q_1002) ?_
  rintro v_1003 h_1004 ⟨rfl, rfl⟩
  refine wp_s 8 [some (.ref 71), some (.int x1), some (.int x2), none, none] [.int (0 : Int32)] _ i_34_7 rfl ?_
  refine wp_s 9 [some (.ref 71), some (.int x1), some (.int x2), some (.int (0 : Int32)), none] [] _ i_34_8 rfl ?_
  exact aWp.forget ((l_34_ok hdp g).1 _ _ _ _ _ _ hd) (lvS (lvS (lvS (lvS (lvN lvE)))))
set_option maxHeartbeats 4000000 in
set_option maxRecDepth 100000 in
theorem l_36_ok {X : aX} {S : rS} {g : Nat} {d : Nat} (hdp : 5 ≤ d) : ∀ n, (∀ (x1 : Int32) (x2 : Int32) (m : cM) (zz : cM), l_36 g n 0 x1 x2 m = some zz → aWp X d 36 9 [some (.ref 71), some (.int x1), some (.int x2)] [] (hr m S) (fun w h' => w = none ∧ h' = hr zz S)) := by
  intro n
  induction n with
  | zero => exact fun _ _ _ _ hd => by simp [l_36] at hd
  | succ n ih =>
    intro x1 x2 m zz hd
    unfold l_36 at hd
    rw [if_pos rfl] at hd
    obtain ⟨e, rfl⟩ : ∃ e, d = e + 1 := ⟨d - 1, by omega⟩
    refine wp_s 10 [some (.ref 71), some (.int x1), some (.int x2)] [.int x2] _ i_36_9 rfl ?_
    refine wp_s 12 [some (.ref 71), some (.int x1), some (.int x2)] [.int (30 : Int32), .int x2] _ i_36_10 rfl ?_
    refine wp_cmp_gt 65 15 rfl rfl i_36_12 (fun c_1 => ?_) (fun c_1 => ?_)
    · rw [if_pos c_1] at hd
      obtain rfl := Option.some.inj hd
      exact wp_ret i_36_65 rfl ⟨rfl, rfl⟩
    · rw [if_neg c_1] at hd
      refine wp_s 16 [some (.ref 71), some (.int x1), some (.int x2)] [.ref 71] _ i_36_15 rfl ?_
      refine hm_get (w := .ref 74) 19 rfl i_36_16 (cb rfl) kk_71 rfl ?_
      refine wp_s 20 [some (.ref 71), some (.int x1), some (.int x2)] [.int (0 : Int32), .ref 74] _ i_36_19 rfl ?_
      refine wp_s 21 [some (.ref 71), some (.int x1), some (.int x2)] [.ref 71, .int (0 : Int32), .ref 74] _ i_36_20 rfl ?_
      refine hm_get (w := .ref 5) 24 rfl i_36_21 (cb rfl) kk_71 rfl ?_
      refine hm_get (w := .ref 19) 27 rfl i_36_24 (cb rfl) kk_5 rfl ?_
      refine hm_get (w := .int (m.1 19 13)) 30 rfl i_36_27 (cb rfl) kk_19 rfl ?_
      refine wp_s 31 [some (.ref 71), some (.int x1), some (.int x2)] [.int x2, .int (m.1 19 13), .int (0 : Int32), .ref 74] _ i_36_30 rfl ?_
      refine wp_s 32 [some (.ref 71), some (.int x1), some (.int x2)] [.int ((m.1 19 13) + x2), .int (0 : Int32), .ref 74] _ i_36_31 rfl ?_
      obtain ⟨k_2, hd⟩ := dk_if hd
      obtain ⟨mm_3, q_4, hd⟩ := dk_bind hd
      refine hm_iast 33 rfl i_36_32 (cb rfl) kk_74 k_2 ?_
      rw [Option.some.inj q_4]
      refine wp_s 34 [some (.ref 71), some (.int x1), some (.int x2)] [.ref 71] _ i_36_33 rfl ?_
      refine hm_get (w := .ref 72) 37 rfl i_36_34 (cb rfl) kk_71 rfl ?_
      refine wp_s 38 [some (.ref 71), some (.int x1), some (.int x2)] [.ref 71, .ref 72] _ i_36_37 rfl ?_
      refine hm_get (w := .ref 32) 41 rfl i_36_38 (cb rfl) kk_71 rfl ?_
      refine wp_s 42 [some (.ref 71), some (.int x1), some (.int x2)] [.int x1, .ref 32, .ref 72] _ i_36_41 rfl ?_
      refine wp_s 43 [some (.ref 71), some (.int x1), some (.int x2)] [.ref 71, .int x1, .ref 32, .ref 72] _ i_36_42 rfl ?_
      refine hm_get (w := .ref 74) 46 rfl i_36_43 (cb rfl) kk_71 rfl ?_
      refine wp_s 47 [some (.ref 71), some (.int x1), some (.int x2)] [.int (0 : Int32), .ref 74, .int x1, .ref 32, .ref 72] _ i_36_46 rfl ?_
      obtain ⟨k_5, hd⟩ := dk_if hd
      refine hm_iald 48 rfl i_36_47 (cb rfl) kk_74 k_5 ?_
      obtain ⟨z_6, q_7, hd⟩ := dk_bind hd
      refine wp_callV 51 rfl i_36_48 (by decide) rfl (vs := [.int x1, .int (mm_3.1 74 (0 : Int32).toNatClampNeg)]) (rest := [.ref 72]) rfl rfl rfl (hm_isO (cb rfl) kk_32) (y := m_90) rfl (Nat.le_of_ble_eq_true rfl) (d_90_ok (S := S) (d := e) (by omega) q_7) ?_
      rintro v_8 h_9 ⟨rfl, rfl⟩
      refine wp_s 52 [some (.ref 71), some (.int x1), some (.int x2)] [.ref 71, .int z_6.1, .ref 72] _ i_36_51 rfl ?_
      refine hm_get (w := .ref 74) 55 rfl i_36_52 (cb rfl) kk_71 rfl ?_
      refine wp_s 56 [some (.ref 71), some (.int x1), some (.int x2)] [.int (1 : Int32), .ref 74, .int z_6.1, .ref 72] _ i_36_55 rfl ?_
      obtain ⟨z_10, q_11, hd⟩ := dk_bind hd
      refine wp_callV 59 rfl i_36_56 (by decide) rfl (vs := [.int z_6.1, .ref 74, .int (1 : Int32)]) (rest := []) rfl rfl rfl (hm_isO (cb rfl) kk_72) (y := m_2) rfl (Nat.le_of_ble_eq_true rfl) (d_2_ok (S := S) (d := e) (by omega) q_11) ?_
      rintro v_12 h_13 ⟨rfl, rfl⟩
      refine wp_s 62 [some (.ref 71), some (.int x1), some (.int (x2 + (1 : Int32)))] [] _ i_36_59 rfl ?_
      refine wp_s 9 [some (.ref 71), some (.int x1), some (.int (x2 + (1 : Int32)))] [] _ i_36_62 rfl ?_
      exact aWp.forget (ih _ _ _ _ hd) (lvS (lvS (lvS lvE)))
set_option maxHeartbeats 4000000 in
set_option maxRecDepth 100000 in
theorem d_36_ok {X : aX} {S : rS} {g : Nat} {x1 : Int32} {m : cM} {zz : cM} {d : Nat} (hdp : 5 ≤ d) (hd : d_36 g x1 m = some zz) : aWp X d 36 0 (aEntL [.ref 71, .int x1] 3) [] (hr m S) (fun w h' => w = none ∧ h' = hr zz S) := by
  unfold d_36 at hd
  refine wp_lv (l2 := [some (.ref 71), some (.int x1), none]) rfl ?_
  obtain ⟨e, rfl⟩ : ∃ e, d = e + 1 := ⟨d - 1, by omega⟩
  refine wp_s 1 [some (.ref 71), some (.int x1), none] [.ref 71] _ i_36_0 rfl ?_
  refine hm_get (w := .ref 72) 4 rfl i_36_1 (cb rfl) kk_71 rfl ?_
  obtain ⟨z_1001, q_1002, hd⟩ := dk_bind hd
  refine wp_callV 7 rfl i_36_4 (by decide) rfl (vs := []) (rest := []) rfl rfl rfl (hm_isO (cb rfl) kk_72) (y := m_1) rfl (Nat.le_of_ble_eq_true rfl) (d_1_ok (S := S) (d := e) (by omega) q_1002) ?_
  rintro v_1003 h_1004 ⟨rfl, rfl⟩
  refine wp_s 8 [some (.ref 71), some (.int x1), none] [.int (0 : Int32)] _ i_36_7 rfl ?_
  refine wp_s 9 [some (.ref 71), some (.int x1), some (.int (0 : Int32))] [] _ i_36_8 rfl ?_
  exact aWp.forget ((l_36_ok hdp g) _ _ _ _ hd) (lvS (lvS (lvS lvE)))
set_option maxHeartbeats 4000000 in
set_option maxRecDepth 100000 in
theorem l_79_ok {X : aX} {S : rS} {g : Nat} {d : Nat} (hdp : 0 ≤ d) : ∀ n, (∀ (a0 : Nat) (x1 : Int32) (m : cM) (zz : cM), l_79 g n 0 a0 x1 m = some zz → aWp X d 79 2 [some (.ref a0), some (.int x1)] [] (hr m S) (fun w h' => w = none ∧ h' = hr zz S)) := by
  intro n
  induction n with
  | zero => exact fun _ _ _ _ hd => by simp [l_79] at hd
  | succ n ih =>
    intro a0 x1 m zz hd
    unfold l_79 at hd
    rw [if_pos rfl] at hd
    refine wp_s 3 [some (.ref a0), some (.int x1)] [.int x1] _ i_79_2 rfl ?_
    refine wp_s 5 [some (.ref a0), some (.int x1)] [.int (8 : Int32), .int x1] _ i_79_3 rfl ?_
    refine wp_cmp_ge 51 8 rfl rfl i_79_5 (fun c_1 => ?_) (fun c_1 => ?_)
    · rw [if_pos c_1] at hd
      obtain rfl := Option.some.inj hd
      exact wp_ret i_79_51 rfl ⟨rfl, rfl⟩
    · rw [if_neg c_1] at hd
      refine wp_s 9 [some (.ref a0), some (.int x1)] [.ref a0] _ i_79_8 rfl ?_
      obtain ⟨k_2, hd⟩ := dk_if hd
      refine hm_get (w := .ref (a0 + 2)) 12 rfl i_79_9 (cU_lt k_2) (cU_kd k_2) rfl ?_
      refine wp_s 13 [some (.ref a0), some (.int x1)] [.int x1, .ref (a0 + 2)] _ i_79_12 rfl ?_
      refine wp_s 14 [some (.ref a0), some (.int x1)] [.int x1, .ref (a0 + 2), .int x1, .ref (a0 + 2)] _ i_79_13 rfl ?_
      obtain ⟨k_3, hd⟩ := dk_if hd
      refine hm_iald 15 rfl i_79_14 (kb_7_2 (cU_lt k_2) (cU_kd k_2)) (kr_7_2 (cU_kd k_2)) k_3 ?_
      refine wp_s 16 [some (.ref a0), some (.int x1)] [.ref a0, .int (m.1 (a0 + 2) x1.toNatClampNeg), .int x1, .ref (a0 + 2)] _ i_79_15 rfl ?_
      refine hm_get (w := .ref (a0 + 1)) 19 rfl i_79_16 (cU_lt k_2) (cU_kd k_2) rfl ?_
      refine wp_s 20 [some (.ref a0), some (.int x1)] [.int x1, .ref (a0 + 1), .int (m.1 (a0 + 2) x1.toNatClampNeg), .int x1, .ref (a0 + 2)] _ i_79_19 rfl ?_
      obtain ⟨k_4, hd⟩ := dk_if hd
      refine hm_iald 21 rfl i_79_20 (kb_7_1 (cU_lt k_2) (cU_kd k_2)) (kr_7_1 (cU_kd k_2)) k_4 ?_
      refine wp_s 22 [some (.ref a0), some (.int x1)] [.int ((m.1 (a0 + 2) x1.toNatClampNeg) - (m.1 (a0 + 1) x1.toNatClampNeg)), .int x1, .ref (a0 + 2)] _ i_79_21 rfl ?_
      obtain ⟨k_5, hd⟩ := dk_if hd
      obtain ⟨mm_6, q_7, hd⟩ := dk_bind hd
      refine hm_iast 23 rfl i_79_22 (kb_7_2 (cU_lt k_2) (cU_kd k_2)) (kr_7_2 (cU_kd k_2)) k_5 ?_
      rw [Option.some.inj q_7]
      refine wp_s 24 [some (.ref a0), some (.int x1)] [.ref a0] _ i_79_23 rfl ?_
      refine hm_get (w := .ref (a0 + 3)) 27 rfl i_79_24 (cU_lt k_2) (cU_kd k_2) rfl ?_
      refine wp_s 28 [some (.ref a0), some (.int x1)] [.int x1, .ref (a0 + 3)] _ i_79_27 rfl ?_
      refine wp_s 29 [some (.ref a0), some (.int x1)] [.int x1, .ref (a0 + 3), .int x1, .ref (a0 + 3)] _ i_79_28 rfl ?_
      obtain ⟨k_8, hd⟩ := dk_if hd
      refine hm_iald 30 rfl i_79_29 (kb_7_3 (cU_lt k_2) (cU_kd k_2)) (kr_7_3 (cU_kd k_2)) k_8 ?_
      refine wp_s 31 [some (.ref a0), some (.int x1)] [.ref a0, .int (mm_6.1 (a0 + 3) x1.toNatClampNeg), .int x1, .ref (a0 + 3)] _ i_79_30 rfl ?_
      refine hm_get (w := .ref (a0 + 1)) 34 rfl i_79_31 (cU_lt k_2) (cU_kd k_2) rfl ?_
      refine wp_s 35 [some (.ref a0), some (.int x1)] [.int x1, .ref (a0 + 1), .int (mm_6.1 (a0 + 3) x1.toNatClampNeg), .int x1, .ref (a0 + 3)] _ i_79_34 rfl ?_
      obtain ⟨k_9, hd⟩ := dk_if hd
      refine hm_iald 36 rfl i_79_35 (kb_7_1 (cU_lt k_2) (cU_kd k_2)) (kr_7_1 (cU_kd k_2)) k_9 ?_
      refine wp_s 37 [some (.ref a0), some (.int x1)] [.int ((mm_6.1 (a0 + 3) x1.toNatClampNeg) + (mm_6.1 (a0 + 1) x1.toNatClampNeg)), .int x1, .ref (a0 + 3)] _ i_79_36 rfl ?_
      obtain ⟨k_10, hd⟩ := dk_if hd
      obtain ⟨mm_11, q_12, hd⟩ := dk_bind hd
      refine hm_iast 38 rfl i_79_37 (kb_7_3 (cU_lt k_2) (cU_kd k_2)) (kr_7_3 (cU_kd k_2)) k_10 ?_
      rw [Option.some.inj q_12]
      refine wp_s 39 [some (.ref a0), some (.int x1)] [.ref a0] _ i_79_38 rfl ?_
      refine hm_get (w := .ref (a0 + 1)) 42 rfl i_79_39 (cU_lt k_2) (cU_kd k_2) rfl ?_
      refine wp_s 43 [some (.ref a0), some (.int x1)] [.int x1, .ref (a0 + 1)] _ i_79_42 rfl ?_
      refine wp_s 44 [some (.ref a0), some (.int x1)] [.int (0 : Int32), .int x1, .ref (a0 + 1)] _ i_79_43 rfl ?_
      obtain ⟨k_13, hd⟩ := dk_if hd
      obtain ⟨mm_14, q_15, hd⟩ := dk_bind hd
      refine hm_iast 45 rfl i_79_44 (kb_7_1 (cU_lt k_2) (cU_kd k_2)) (kr_7_1 (cU_kd k_2)) k_13 ?_
      rw [Option.some.inj q_15]
      refine wp_s 48 [some (.ref a0), some (.int (x1 + (1 : Int32)))] [] _ i_79_45 rfl ?_
      refine wp_s 2 [some (.ref a0), some (.int (x1 + (1 : Int32)))] [] _ i_79_48 rfl ?_
      exact aWp.forget (ih _ _ _ _ hd) (lvS (lvS lvE))
set_option maxHeartbeats 4000000 in
set_option maxRecDepth 100000 in
theorem d_79_ok {X : aX} {S : rS} {g : Nat} {a0 : Nat} {m : cM} {zz : cM} {d : Nat} (hdp : 0 ≤ d) (hd : d_79 g a0 m = some zz) : aWp X d 79 0 (aEntL [.ref a0] 2) [] (hr m S) (fun w h' => w = none ∧ h' = hr zz S) := by
  unfold d_79 at hd
  refine wp_lv (l2 := [some (.ref a0), none]) rfl ?_
  refine wp_s 1 [some (.ref a0), none] [.int (0 : Int32)] _ i_79_0 rfl ?_
  refine wp_s 2 [some (.ref a0), some (.int (0 : Int32))] [] _ i_79_1 rfl ?_
  exact aWp.forget ((l_79_ok hdp g) _ _ _ _ hd) (lvS (lvS lvE))
set_option maxHeartbeats 4000000 in
set_option maxRecDepth 100000 in
theorem l_39_ok {X : aX} {S : rS} {g : Nat} {d : Nat} (hdp : 4 ≤ d) : ∀ n, (∀ (x1 : Int32) (x2 : Int32) (m : cM) (zz : cM), l_39 g n 0 x1 x2 m = some zz → aWp X d 39 4 [some (.ref 71), some (.int x1), some (.int x2)] [] (hr m S) (fun w h' => w = none ∧ h' = hr zz S)) ∧ (∀ (x1 : Int32) (x2 : Int32) (m : cM) (zz : cM), l_39 g n 1 x1 x2 m = some zz → aWp X d 39 78 [some (.ref 71), some (.int x1), some (.int x2)] [] (hr m S) (fun w h' => w = none ∧ h' = hr zz S)) := by
  intro n
  induction n with
  | zero => exact ⟨fun _ _ _ _ hd => by simp [l_39] at hd, fun _ _ _ _ hd => by simp [l_39] at hd⟩
  | succ n ih =>
    refine ⟨?_, ?_⟩
    · intro x1 x2 m zz hd
      unfold l_39 at hd
      rw [if_pos rfl] at hd
      obtain ⟨e, rfl⟩ : ∃ e, d = e + 1 := ⟨d - 1, by omega⟩
      refine wp_s 5 [some (.ref 71), some (.int x1), some (.int x2)] [.int x2] _ i_39_4 rfl ?_
      refine wp_s 6 [some (.ref 71), some (.int x1), some (.int x2)] [.ref 71, .int x2] _ i_39_5 rfl ?_
      refine hm_get (w := .ref 5) 9 rfl i_39_6 (cb rfl) kk_71 rfl ?_
      obtain ⟨k_1, hd⟩ := dk_if hd
      refine hm_dyn 12 rfl i_39_9 (cb rfl) kk_5 (fun _ _ => rfl) (kd_ne0 (cO_iff k_1).2 (by decide)) ?_
      refine hm_get (w := .int (m.1 (m.2.2.1 5) 4)) 15 rfl i_39_12 (cO_iff k_1).1 (cO_iff k_1).2 rfl ?_
      refine wp_cmp_ge 84 18 rfl rfl i_39_15 (fun c_2 => ?_) (fun c_2 => ?_)
      · rw [if_pos c_2] at hd
        refine wp_s 85 [some (.ref 71), some (.int x1), some (.int x2)] [.ref 71] _ i_39_84 rfl ?_
        refine wp_s 86 [some (.ref 71), some (.int x1), some (.int x2)] [.ref 71, .ref 71] _ i_39_85 rfl ?_
        refine hm_get (w := .int (m.1 71 18)) 89 rfl i_39_86 (cb rfl) kk_71 rfl ?_
        refine wp_s 90 [some (.ref 71), some (.int x1), some (.int x2)] [.ref 71, .int (m.1 71 18), .ref 71] _ i_39_89 rfl ?_
        refine hm_get (w := .ref 32) 93 rfl i_39_90 (cb rfl) kk_71 rfl ?_
        refine wp_s 94 [some (.ref 71), some (.int x1), some (.int x2)] [.int x1, .ref 32, .int (m.1 71 18), .ref 71] _ i_39_93 rfl ?_
        obtain ⟨z_3, q_4, hd⟩ := dk_bind hd
        refine wp_callV 97 rfl i_39_94 (by decide) rfl (vs := [.int x1]) (rest := [.int (m.1 71 18), .ref 71]) rfl rfl rfl (hm_isO (cb rfl) kk_32) (y := m_95) rfl (Nat.le_of_ble_eq_true rfl) (d_95_ok (S := S) (d := e) (by omega) q_4) ?_
        rintro v_5 h_6 ⟨rfl, rfl⟩
        refine wp_s 98 [some (.ref 71), some (.int x1), some (.int x2)] [.int ((m.1 71 18) + z_3), .ref 71] _ i_39_97 rfl ?_
        obtain ⟨mm_7, q_8, hd⟩ := dk_bind hd
        refine hm_put 101 rfl i_39_98 (cb rfl) kk_71 (fun _ _ => rfl) (fun _ _ => Nat.le_of_ble_eq_true rfl) rfl ?_
        rw [Option.some.inj q_8]
        refine wp_s 102 [some (.ref 71), some (.int x1), some (.int x2)] [.ref 71] _ i_39_101 rfl ?_
        refine wp_s 103 [some (.ref 71), some (.int x1), some (.int x2)] [.ref 71, .ref 71] _ i_39_102 rfl ?_
        refine hm_get (w := .int (mm_7.1 71 19)) 106 rfl i_39_103 (cb rfl) kk_71 rfl ?_
        refine wp_s 107 [some (.ref 71), some (.int x1), some (.int x2)] [.ref 71, .int (mm_7.1 71 19), .ref 71] _ i_39_106 rfl ?_
        refine hm_get (w := .ref 81) 110 rfl i_39_107 (cb rfl) kk_71 rfl ?_
        obtain ⟨z_9, q_10, hd⟩ := dk_bind hd
        refine wp_callV 113 rfl i_39_110 (by decide) rfl (vs := []) (rest := [.int (mm_7.1 71 19), .ref 71]) rfl rfl rfl (hm_isO (cb rfl) kk_81) (y := m_73) rfl (Nat.le_of_ble_eq_true rfl) (d_73_ok (S := S) (d := e) (by omega) q_10) ?_
        rintro v_11 h_12 ⟨rfl, rfl⟩
        refine wp_s 114 [some (.ref 71), some (.int x1), some (.int x2)] [.int ((mm_7.1 71 19) + z_9), .ref 71] _ i_39_113 rfl ?_
        obtain ⟨mm_13, q_14, hd⟩ := dk_bind hd
        refine hm_put 117 rfl i_39_114 (cb rfl) kk_71 (fun _ _ => rfl) (fun _ _ => Nat.le_of_ble_eq_true rfl) rfl ?_
        rw [Option.some.inj q_14]
        refine wp_s 118 [some (.ref 71), some (.int x1), some (.int x2)] [.ref 71] _ i_39_117 rfl ?_
        refine hm_get (w := .ref 81) 121 rfl i_39_118 (cb rfl) kk_71 rfl ?_
        obtain ⟨z_15, q_16, hd⟩ := dk_bind hd
        refine wp_callV 124 rfl i_39_121 (by decide) rfl (vs := []) (rest := []) rfl rfl rfl (hm_isO (cb rfl) kk_81) (y := m_79) rfl (Nat.le_of_ble_eq_true rfl) (d_79_ok (S := S) (d := e) (by omega) q_16) ?_
        rintro v_17 h_18 ⟨rfl, rfl⟩
        obtain rfl := Option.some.inj hd
        exact wp_ret i_39_124 rfl ⟨rfl, rfl⟩
      · rw [if_neg c_2] at hd
        refine wp_s 19 [some (.ref 71), some (.int x1), some (.int x2)] [.ref 71] _ i_39_18 rfl ?_
        refine hm_get (w := .ref 81) 22 rfl i_39_19 (cb rfl) kk_71 rfl ?_
        refine hm_get (w := .ref 82) 25 rfl i_39_22 (cb rfl) kk_81 rfl ?_
        refine wp_s 26 [some (.ref 71), some (.int x1), some (.int x2)] [.int x2, .ref 82] _ i_39_25 rfl ?_
        obtain ⟨k_19, hd⟩ := dk_if hd
        refine hm_iald 27 rfl i_39_26 (cb rfl) kk_82 k_19 ?_
        refine wp_if_le 78 30 rfl rfl i_39_27 (fun c_20 => ?_) (fun c_20 => ?_)
        · rw [if_pos c_20] at hd
          exact aWp.forget (ih.2 _ _ _ _ hd) (lvS (lvS (lvS lvE)))
        · rw [if_neg c_20] at hd
          refine wp_s 31 [some (.ref 71), some (.int x1), some (.int x2)] [.int x1] _ i_39_30 rfl ?_
          refine wp_s 32 [some (.ref 71), some (.int x1), some (.int x2)] [.ref 71, .int x1] _ i_39_31 rfl ?_
          refine hm_get (w := .ref 81) 35 rfl i_39_32 (cb rfl) kk_71 rfl ?_
          refine hm_get (w := .ref 82) 38 rfl i_39_35 (cb rfl) kk_81 rfl ?_
          refine wp_s 39 [some (.ref 71), some (.int x1), some (.int x2)] [.int x2, .ref 82, .int x1] _ i_39_38 rfl ?_
          obtain ⟨k_21, hd⟩ := dk_if hd
          refine hm_iald 40 rfl i_39_39 (cb rfl) kk_82 k_21 ?_
          refine wp_s 41 [some (.ref 71), some (.int x1), some (.int x2)] [.ref 71, .int (m.1 82 x2.toNatClampNeg), .int x1] _ i_39_40 rfl ?_
          refine hm_get (w := .ref 32) 44 rfl i_39_41 (cb rfl) kk_71 rfl ?_
          refine wp_s 45 [some (.ref 71), some (.int x1), some (.int x2)] [.ref 71, .ref 32, .int (m.1 82 x2.toNatClampNeg), .int x1] _ i_39_44 rfl ?_
          refine hm_get (w := .ref 81) 48 rfl i_39_45 (cb rfl) kk_71 rfl ?_
          refine wp_s 49 [some (.ref 71), some (.int x1), some (.int x2)] [.ref 71, .ref 81, .ref 32, .int (m.1 82 x2.toNatClampNeg), .int x1] _ i_39_48 rfl ?_
          refine hm_get (w := .ref 5) 52 rfl i_39_49 (cb rfl) kk_71 rfl ?_
          refine hm_get (w := .int (m.1 5 2)) 55 rfl i_39_52 (cb rfl) kk_5 rfl ?_
          refine wp_s 56 [some (.ref 71), some (.int x1), some (.int x2)] [.int x2, .int (m.1 5 2), .ref 81, .ref 32, .int (m.1 82 x2.toNatClampNeg), .int x1] _ i_39_55 rfl ?_
          refine wp_s 57 [some (.ref 71), some (.int x1), some (.int x2)] [.ref 71, .int x2, .int (m.1 5 2), .ref 81, .ref 32, .int (m.1 82 x2.toNatClampNeg), .int x1] _ i_39_56 rfl ?_
          refine hm_get (w := .ref 81) 60 rfl i_39_57 (cb rfl) kk_71 rfl ?_
          refine hm_get (w := .int (m.1 81 13)) 63 rfl i_39_60 (cb rfl) kk_81 rfl ?_
          refine wp_s 64 [some (.ref 71), some (.int x1), some (.int x2)] [.ref 71, .int (m.1 81 13), .int x2, .int (m.1 5 2), .ref 81, .ref 32, .int (m.1 82 x2.toNatClampNeg), .int x1] _ i_39_63 rfl ?_
          refine hm_get (w := .ref 81) 67 rfl i_39_64 (cb rfl) kk_71 rfl ?_
          refine hm_get (w := .ref 85) 70 rfl i_39_67 (cb rfl) kk_81 rfl ?_
          refine wp_s 71 [some (.ref 71), some (.int x1), some (.int x2)] [.int x2, .ref 85, .int (m.1 81 13), .int x2, .int (m.1 5 2), .ref 81, .ref 32, .int (m.1 82 x2.toNatClampNeg), .int x1] _ i_39_70 rfl ?_
          obtain ⟨k_22, hd⟩ := dk_if hd
          refine hm_iald 72 rfl i_39_71 (cb rfl) kk_85 k_22 ?_
          obtain ⟨z_23, q_24, hd⟩ := dk_bind hd
          refine wp_callV 75 rfl i_39_72 (by decide) rfl (vs := [.ref 81, .int (m.1 5 2), .int x2, .int (m.1 81 13), .int (m.1 85 x2.toNatClampNeg)]) (rest := [.int (m.1 82 x2.toNatClampNeg), .int x1]) rfl rfl rfl (hm_isO (cb rfl) kk_32) (y := m_89) rfl (Nat.le_of_ble_eq_true rfl) (d_89_ok (S := S) (d := e) (by omega) q_24) ?_
          rintro v_25 h_26 ⟨rfl, rfl⟩
          refine wp_s 76 [some (.ref 71), some (.int x1), some (.int x2)] [.int ((m.1 82 x2.toNatClampNeg) * z_23.1), .int x1] _ i_39_75 rfl ?_
          refine wp_s 77 [some (.ref 71), some (.int x1), some (.int x2)] [.int (x1 + ((m.1 82 x2.toNatClampNeg) * z_23.1))] _ i_39_76 rfl ?_
          refine wp_s 78 [some (.ref 71), some (.int (x1 + ((m.1 82 x2.toNatClampNeg) * z_23.1))), some (.int x2)] [] _ i_39_77 rfl ?_
          exact aWp.forget (ih.2 _ _ _ _ hd) (lvS (lvS (lvS lvE)))
    · intro x1 x2 m zz hd
      unfold l_39 at hd
      rw [if_neg (by decide), if_pos rfl] at hd
      obtain ⟨e, rfl⟩ : ∃ e, d = e + 1 := ⟨d - 1, by omega⟩
      refine wp_s 81 [some (.ref 71), some (.int x1), some (.int (x2 + (1 : Int32)))] [] _ i_39_78 rfl ?_
      refine wp_s 4 [some (.ref 71), some (.int x1), some (.int (x2 + (1 : Int32)))] [] _ i_39_81 rfl ?_
      exact aWp.forget (ih.1 _ _ _ _ hd) (lvS (lvS (lvS lvE)))
set_option maxHeartbeats 4000000 in
set_option maxRecDepth 100000 in
theorem d_39_ok {X : aX} {S : rS} {g : Nat}  {m : cM} {zz : cM} {d : Nat} (hdp : 4 ≤ d) (hd : d_39 g  m = some zz) : aWp X d 39 0 (aEntL [.ref 71] 3) [] (hr m S) (fun w h' => w = none ∧ h' = hr zz S) := by
  unfold d_39 at hd
  refine wp_lv (l2 := [some (.ref 71), none, none]) rfl ?_
  obtain ⟨e, rfl⟩ : ∃ e, d = e + 1 := ⟨d - 1, by omega⟩
  refine wp_s 1 [some (.ref 71), none, none] [.int (0 : Int32)] _ i_39_0 rfl ?_
  refine wp_s 2 [some (.ref 71), some (.int (0 : Int32)), none] [] _ i_39_1 rfl ?_
  refine wp_s 3 [some (.ref 71), some (.int (0 : Int32)), none] [.int (0 : Int32)] _ i_39_2 rfl ?_
  refine wp_s 4 [some (.ref 71), some (.int (0 : Int32)), some (.int (0 : Int32))] [] _ i_39_3 rfl ?_
  exact aWp.forget ((l_39_ok hdp g).1 _ _ _ _ hd) (lvS (lvS (lvS lvE)))
set_option maxHeartbeats 4000000 in
set_option maxRecDepth 100000 in
theorem d_74_ok {X : aX} {S : rS} {g : Nat} {a0 : Nat} {x1 : Int32} {m : cM} {zz : Int32} {d : Nat} (hdp : 1 ≤ d) (hd : d_74 g a0 x1 m = some zz) : aWp X d 74 0 (aEntL [.ref a0, .int x1] 2) [] (hr m S) (fun w h' => w = some (.int zz) ∧ h' = hr m S) := by
  unfold d_74 at hd
  refine wp_lv (l2 := [some (.ref a0), some (.int x1)]) rfl ?_
  obtain ⟨e, rfl⟩ : ∃ e, d = e + 1 := ⟨d - 1, by omega⟩
  refine wp_s 1 [some (.ref a0), some (.int x1)] [.ref a0] _ i_74_0 rfl ?_
  obtain ⟨k_1, hd⟩ := dk_if hd
  refine hm_get (w := .ref (a0 + 1)) 4 rfl i_74_1 (cU_lt k_1) (cU_kd k_1) rfl ?_
  refine wp_s 5 [some (.ref a0), some (.int x1)] [.int x1, .ref (a0 + 1)] _ i_74_4 rfl ?_
  obtain ⟨k_2, hd⟩ := dk_if hd
  refine hm_iald 6 rfl i_74_5 (kb_7_1 (cU_lt k_1) (cU_kd k_1)) (kr_7_1 (cU_kd k_1)) k_2 ?_
  refine wp_s 7 [some (.ref a0), some (.int x1)] [.ref a0, .int (m.1 (a0 + 1) x1.toNatClampNeg)] _ i_74_6 rfl ?_
  refine hm_get (w := .ref (a0 + 2)) 10 rfl i_74_7 (cU_lt k_1) (cU_kd k_1) rfl ?_
  refine wp_s 11 [some (.ref a0), some (.int x1)] [.int x1, .ref (a0 + 2), .int (m.1 (a0 + 1) x1.toNatClampNeg)] _ i_74_10 rfl ?_
  obtain ⟨k_3, hd⟩ := dk_if hd
  refine hm_iald 12 rfl i_74_11 (kb_7_2 (cU_lt k_1) (cU_kd k_1)) (kr_7_2 (cU_kd k_1)) k_3 ?_
  refine wp_cmp_ge 28 15 rfl rfl i_74_12 (fun c_4 => ?_) (fun c_4 => ?_)
  · rw [if_pos c_4] at hd
    refine wp_s 29 [some (.ref a0), some (.int x1)] [.int (0 : Int32)] _ i_74_28 rfl ?_
    obtain rfl := Option.some.inj hd
    exact wp_iretZ (z := 0) i_74_29 (by decide) ⟨rfl, rfl⟩
  · rw [if_neg c_4] at hd
    refine wp_s 16 [some (.ref a0), some (.int x1)] [.ref a0] _ i_74_15 rfl ?_
    obtain ⟨z_5, q_6, hd⟩ := dk_bind hd
    refine wp_callV 19 rfl i_74_16 (by decide) rfl (vs := []) (rest := []) rfl rfl rfl (hm_isO (cU_lt k_1) (cU_kd k_1)) (y := m_73) rfl (Nat.le_of_ble_eq_true rfl) (d_73_ok (S := S) (d := e) (by omega) q_6) ?_
    rintro v_7 h_8 ⟨rfl, rfl⟩
    refine wp_s 21 [some (.ref a0), some (.int x1)] [.int (12 : Int32), .int z_5] _ i_74_19 rfl ?_
    refine wp_cmp_ge 28 24 rfl rfl i_74_21 (fun c_9 => ?_) (fun c_9 => ?_)
    · rw [if_pos c_9] at hd
      refine wp_s 29 [some (.ref a0), some (.int x1)] [.int (0 : Int32)] _ i_74_28 rfl ?_
      obtain rfl := Option.some.inj hd
      exact wp_iretZ (z := 0) i_74_29 (by decide) ⟨rfl, rfl⟩
    · rw [if_neg c_9] at hd
      refine wp_s 25 [some (.ref a0), some (.int x1)] [.int (1 : Int32)] _ i_74_24 rfl ?_
      refine wp_s 29 [some (.ref a0), some (.int x1)] [.int (1 : Int32)] _ i_74_25 rfl ?_
      obtain rfl := Option.some.inj hd
      exact wp_iretZ (z := 0) i_74_29 (by decide) ⟨rfl, rfl⟩
set_option maxHeartbeats 4000000 in
set_option maxRecDepth 100000 in
theorem d_75_ok {X : aX} {S : rS} {g : Nat} {a0 : Nat} {x1 : Int32} {m : cM} {zz : cM} {d : Nat} (hdp : 0 ≤ d) (hd : d_75 g a0 x1 m = some zz) : aWp X d 75 0 (aEntL [.ref a0, .int x1] 2) [] (hr m S) (fun w h' => w = none ∧ h' = hr zz S) := by
  unfold d_75 at hd
  refine wp_lv (l2 := [some (.ref a0), some (.int x1)]) rfl ?_
  refine wp_s 1 [some (.ref a0), some (.int x1)] [.ref a0] _ i_75_0 rfl ?_
  obtain ⟨k_1, hd⟩ := dk_if hd
  refine hm_get (w := .ref (a0 + 4)) 4 rfl i_75_1 (cU_lt k_1) (cU_kd k_1) rfl ?_
  refine wp_s 5 [some (.ref a0), some (.int x1)] [.int x1, .ref (a0 + 4)] _ i_75_4 rfl ?_
  refine wp_s 7 [some (.ref a0), some (.int x1)] [.int (99 : Int32), .int x1, .ref (a0 + 4)] _ i_75_5 rfl ?_
  refine wp_s 8 [some (.ref a0), some (.int x1)] [.ref a0, .int (99 : Int32), .int x1, .ref (a0 + 4)] _ i_75_7 rfl ?_
  refine hm_get (w := .ref (a0 + 4)) 11 rfl i_75_8 (cU_lt k_1) (cU_kd k_1) rfl ?_
  refine wp_s 12 [some (.ref a0), some (.int x1)] [.int x1, .ref (a0 + 4), .int (99 : Int32), .int x1, .ref (a0 + 4)] _ i_75_11 rfl ?_
  obtain ⟨k_2, hd⟩ := dk_if hd
  refine hm_iald 13 rfl i_75_12 (kb_7_4 (cU_lt k_1) (cU_kd k_1)) (kr_7_4 (cU_kd k_1)) k_2 ?_
  refine wp_s 14 [some (.ref a0), some (.int x1)] [.int (1 : Int32), .int (m.1 (a0 + 4) x1.toNatClampNeg), .int (99 : Int32), .int x1, .ref (a0 + 4)] _ i_75_13 rfl ?_
  refine wp_s 15 [some (.ref a0), some (.int x1)] [.int ((m.1 (a0 + 4) x1.toNatClampNeg) + (1 : Int32)), .int (99 : Int32), .int x1, .ref (a0 + 4)] _ i_75_14 rfl ?_
  refine hp_min 18 rfl i_75_15 rfl ?_
  obtain ⟨k_3, hd⟩ := dk_if hd
  obtain ⟨mm_4, q_5, hd⟩ := dk_bind hd
  refine hm_iast 19 rfl i_75_18 (kb_7_4 (cU_lt k_1) (cU_kd k_1)) (kr_7_4 (cU_kd k_1)) k_3 ?_
  rw [Option.some.inj q_5]
  obtain rfl := Option.some.inj hd
  exact wp_ret i_75_19 rfl ⟨rfl, rfl⟩
