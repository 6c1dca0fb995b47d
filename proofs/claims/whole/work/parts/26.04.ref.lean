theorem i_225_0 : aIns 225 0 = some (.aload_n 0, 1, 0, 0, .null) := by decide +kernel
theorem i_225_1 : aIns 225 1 = some (.invokevirtual 374, 3, 187, 0, .int 12) := by decide +kernel
theorem i_225_4 : aIns 225 4 = some (.ifCond .eq 10, 3, 0, 0, .null) := by decide +kernel
theorem i_225_7 : aIns 225 7 = some (.aload_n 0, 1, 0, 0, .null) := by decide +kernel
theorem i_225_8 : aIns 225 8 = some (.invokevirtual 362, 3, 209, 0, .int 12) := by decide +kernel
theorem i_225_11 : aIns 225 11 = some (.ifCond .ne 5, 3, 0, 0, .null) := by decide +kernel
theorem i_225_14 : aIns 225 14 = some (.iconst (-1), 1, 0, 0, .int (-1)) := by decide +kernel
theorem i_225_15 : aIns 225 15 = some (.ireturn, 1, 0, 0, .null) := by decide +kernel
theorem i_225_16 : aIns 225 16 = some (.aload_n 0, 1, 0, 0, .null) := by decide +kernel
theorem i_225_17 : aIns 225 17 = some (.invokevirtual 383, 3, 214, 0, .int 12) := by decide +kernel
theorem i_225_20 : aIns 225 20 = some (.aload_n 0, 1, 0, 0, .null) := by decide +kernel
theorem i_225_21 : aIns 225 21 = some (.aload_n 0, 1, 0, 0, .null) := by decide +kernel
theorem i_225_22 : aIns 225 22 = some (.getfield 39, 3, 12, 20, .null) := by decide +kernel
theorem i_225_25 : aIns 225 25 = some (.iconst 5, 1, 0, 0, .int (5)) := by decide +kernel
theorem i_225_26 : aIns 225 26 = some (.iaload, 1, 0, 0, .null) := by decide +kernel
theorem i_225_27 : aIns 225 27 = some (.invokevirtual 377, 3, 212, 1, .int 12) := by decide +kernel
theorem i_225_30 : aIns 225 30 = some (.istore_n 1, 1, 0, 0, .null) := by decide +kernel
theorem i_225_31 : aIns 225 31 = some (.iconst 0, 1, 0, 0, .int (0)) := by decide +kernel
theorem i_225_32 : aIns 225 32 = some (.istore_n 2, 1, 0, 0, .null) := by decide +kernel
theorem i_225_33 : aIns 225 33 = some (.iload_n 2, 1, 0, 0, .null) := by decide +kernel
theorem i_225_34 : aIns 225 34 = some (.aload_n 0, 1, 0, 0, .null) := by decide +kernel
theorem i_225_35 : aIns 225 35 = some (.getfield 39, 3, 12, 20, .null) := by decide +kernel
theorem i_225_38 : aIns 225 38 = some (.iconst 1, 1, 0, 0, .int (1)) := by decide +kernel
theorem i_225_39 : aIns 225 39 = some (.iaload, 1, 0, 0, .null) := by decide +kernel
theorem i_225_40 : aIns 225 40 = some (.if_icmp .ge 23, 3, 0, 0, .null) := by decide +kernel
theorem i_225_43 : aIns 225 43 = some (.aload_n 0, 1, 0, 0, .null) := by decide +kernel
theorem i_225_44 : aIns 225 44 = some (.getfield 39, 3, 12, 20, .null) := by decide +kernel
theorem i_225_47 : aIns 225 47 = some (.bipush 56, 2, 0, 0, .int (56)) := by decide +kernel
theorem i_225_49 : aIns 225 49 = some (.iload_n 2, 1, 0, 0, .null) := by decide +kernel
theorem i_225_50 : aIns 225 50 = some (.iadd, 1, 0, 0, .null) := by decide +kernel
theorem i_225_51 : aIns 225 51 = some (.aload_n 0, 1, 0, 0, .null) := by decide +kernel
theorem i_225_52 : aIns 225 52 = some (.iload_n 2, 1, 0, 0, .null) := by decide +kernel
theorem i_225_53 : aIns 225 53 = some (.invokevirtual 332, 3, 200, 1, .int 12) := by decide +kernel
theorem i_225_56 : aIns 225 56 = some (.iastore, 1, 0, 0, .null) := by decide +kernel
theorem i_225_57 : aIns 225 57 = some (.iinc 2 1, 3, 0, 0, .null) := by decide +kernel
theorem i_225_60 : aIns 225 60 = some (.goto (-27), 3, 0, 0, .null) := by decide +kernel
theorem i_225_63 : aIns 225 63 = some (.iconst 0, 1, 0, 0, .int (0)) := by decide +kernel
theorem i_225_64 : aIns 225 64 = some (.istore_n 2, 1, 0, 0, .null) := by decide +kernel
theorem i_225_65 : aIns 225 65 = some (.iload_n 2, 1, 0, 0, .null) := by decide +kernel
theorem i_225_66 : aIns 225 66 = some (.aload_n 0, 1, 0, 0, .null) := by decide +kernel
theorem i_225_67 : aIns 225 67 = some (.getfield 39, 3, 12, 20, .null) := by decide +kernel
theorem i_225_70 : aIns 225 70 = some (.iconst 1, 1, 0, 0, .int (1)) := by decide +kernel
theorem i_225_71 : aIns 225 71 = some (.iaload, 1, 0, 0, .null) := by decide +kernel
theorem i_225_72 : aIns 225 72 = some (.if_icmp .ge 14, 3, 0, 0, .null) := by decide +kernel
theorem i_225_75 : aIns 225 75 = some (.aload_n 0, 1, 0, 0, .null) := by decide +kernel
theorem i_225_76 : aIns 225 76 = some (.iload_n 2, 1, 0, 0, .null) := by decide +kernel
theorem i_225_77 : aIns 225 77 = some (.invokevirtual 396, 3, 226, 1, .int 12) := by decide +kernel
theorem i_225_80 : aIns 225 80 = some (.iinc 2 1, 3, 0, 0, .null) := by decide +kernel
theorem i_225_83 : aIns 225 83 = some (.goto (-18), 3, 0, 0, .null) := by decide +kernel
theorem i_225_86 : aIns 225 86 = some (.iconst 0, 1, 0, 0, .int (0)) := by decide +kernel
theorem i_225_87 : aIns 225 87 = some (.istore_n 2, 1, 0, 0, .null) := by decide +kernel
theorem i_225_88 : aIns 225 88 = some (.iload_n 2, 1, 0, 0, .null) := by decide +kernel
theorem i_225_89 : aIns 225 89 = some (.aload_n 0, 1, 0, 0, .null) := by decide +kernel
theorem i_225_90 : aIns 225 90 = some (.getfield 39, 3, 12, 20, .null) := by decide +kernel
theorem i_225_93 : aIns 225 93 = some (.bipush 9, 2, 0, 0, .int (9)) := by decide +kernel
theorem i_225_95 : aIns 225 95 = some (.iaload, 1, 0, 0, .null) := by decide +kernel
theorem i_225_96 : aIns 225 96 = some (.if_icmp .ge 45, 3, 0, 0, .null) := by decide +kernel
theorem i_225_99 : aIns 225 99 = some (.aload_n 0, 1, 0, 0, .null) := by decide +kernel
theorem i_225_100 : aIns 225 100 = some (.getfield 39, 3, 12, 20, .null) := by decide +kernel
theorem i_225_103 : aIns 225 103 = some (.bipush 74, 2, 0, 0, .int (74)) := by decide +kernel
theorem i_225_105 : aIns 225 105 = some (.iload_n 2, 1, 0, 0, .null) := by decide +kernel
theorem i_225_106 : aIns 225 106 = some (.iadd, 1, 0, 0, .null) := by decide +kernel
theorem i_225_107 : aIns 225 107 = some (.aload_n 0, 1, 0, 0, .null) := by decide +kernel
theorem i_225_108 : aIns 225 108 = some (.getfield 39, 3, 12, 20, .null) := by decide +kernel
theorem i_225_111 : aIns 225 111 = some (.bipush 64, 2, 0, 0, .int (64)) := by decide +kernel
theorem i_225_113 : aIns 225 113 = some (.iload_n 2, 1, 0, 0, .null) := by decide +kernel
theorem i_225_114 : aIns 225 114 = some (.iadd, 1, 0, 0, .null) := by decide +kernel
theorem i_225_115 : aIns 225 115 = some (.iaload, 1, 0, 0, .null) := by decide +kernel
theorem i_225_116 : aIns 225 116 = some (.iastore, 1, 0, 0, .null) := by decide +kernel
theorem i_225_117 : aIns 225 117 = some (.aload_n 0, 1, 0, 0, .null) := by decide +kernel
theorem i_225_118 : aIns 225 118 = some (.getfield 39, 3, 12, 20, .null) := by decide +kernel
theorem i_225_121 : aIns 225 121 = some (.bipush 69, 2, 0, 0, .int (69)) := by decide +kernel
theorem i_225_123 : aIns 225 123 = some (.aload_n 0, 1, 0, 0, .null) := by decide +kernel
theorem i_225_124 : aIns 225 124 = some (.getfield 39, 3, 12, 20, .null) := by decide +kernel
theorem i_225_127 : aIns 225 127 = some (.bipush 64, 2, 0, 0, .int (64)) := by decide +kernel
theorem i_225_129 : aIns 225 129 = some (.iload_n 2, 1, 0, 0, .null) := by decide +kernel
theorem i_225_130 : aIns 225 130 = some (.iadd, 1, 0, 0, .null) := by decide +kernel
theorem i_225_131 : aIns 225 131 = some (.iaload, 1, 0, 0, .null) := by decide +kernel
theorem i_225_132 : aIns 225 132 = some (.iadd, 1, 0, 0, .null) := by decide +kernel
theorem i_225_133 : aIns 225 133 = some (.iconst 1, 1, 0, 0, .int (1)) := by decide +kernel
theorem i_225_134 : aIns 225 134 = some (.iastore, 1, 0, 0, .null) := by decide +kernel
theorem i_225_135 : aIns 225 135 = some (.iinc 2 1, 3, 0, 0, .null) := by decide +kernel
theorem i_225_138 : aIns 225 138 = some (.goto (-50), 3, 0, 0, .null) := by decide +kernel
theorem i_225_141 : aIns 225 141 = some (.aload_n 0, 1, 0, 0, .null) := by decide +kernel
theorem i_225_142 : aIns 225 142 = some (.getfield 39, 3, 12, 20, .null) := by decide +kernel
theorem i_225_145 : aIns 225 145 = some (.bipush 79, 2, 0, 0, .int (79)) := by decide +kernel
theorem i_225_147 : aIns 225 147 = some (.aload_n 0, 1, 0, 0, .null) := by decide +kernel
theorem i_225_148 : aIns 225 148 = some (.getfield 39, 3, 12, 20, .null) := by decide +kernel
theorem i_225_151 : aIns 225 151 = some (.bipush 9, 2, 0, 0, .int (9)) := by decide +kernel
theorem i_225_153 : aIns 225 153 = some (.iaload, 1, 0, 0, .null) := by decide +kernel
theorem i_225_154 : aIns 225 154 = some (.iastore, 1, 0, 0, .null) := by decide +kernel
theorem i_225_155 : aIns 225 155 = some (.aload_n 0, 1, 0, 0, .null) := by decide +kernel
theorem i_225_156 : aIns 225 156 = some (.getfield 39, 3, 12, 20, .null) := by decide +kernel
theorem i_225_159 : aIns 225 159 = some (.bipush 9, 2, 0, 0, .int (9)) := by decide +kernel
theorem i_225_161 : aIns 225 161 = some (.iconst 0, 1, 0, 0, .int (0)) := by decide +kernel
theorem i_225_162 : aIns 225 162 = some (.iastore, 1, 0, 0, .null) := by decide +kernel
theorem i_225_163 : aIns 225 163 = some (.aload_n 0, 1, 0, 0, .null) := by decide +kernel
theorem i_225_164 : aIns 225 164 = some (.getfield 39, 3, 12, 20, .null) := by decide +kernel
theorem i_225_167 : aIns 225 167 = some (.bipush 8, 2, 0, 0, .int (8)) := by decide +kernel
theorem i_225_169 : aIns 225 169 = some (.dup2, 1, 0, 0, .null) := by decide +kernel
theorem i_225_170 : aIns 225 170 = some (.iaload, 1, 0, 0, .null) := by decide +kernel
theorem i_225_171 : aIns 225 171 = some (.iload_n 1, 1, 0, 0, .null) := by decide +kernel
theorem i_225_172 : aIns 225 172 = some (.iadd, 1, 0, 0, .null) := by decide +kernel
theorem i_225_173 : aIns 225 173 = some (.iastore, 1, 0, 0, .null) := by decide +kernel
theorem i_225_174 : aIns 225 174 = some (.aload_n 0, 1, 0, 0, .null) := by decide +kernel
theorem i_225_175 : aIns 225 175 = some (.getfield 39, 3, 12, 20, .null) := by decide +kernel
theorem i_225_178 : aIns 225 178 = some (.bipush 11, 2, 0, 0, .int (11)) := by decide +kernel
theorem i_225_180 : aIns 225 180 = some (.iload_n 1, 1, 0, 0, .null) := by decide +kernel
theorem i_225_181 : aIns 225 181 = some (.iastore, 1, 0, 0, .null) := by decide +kernel
theorem i_225_182 : aIns 225 182 = some (.iload_n 1, 1, 0, 0, .null) := by decide +kernel
theorem i_225_183 : aIns 225 183 = some (.ireturn, 1, 0, 0, .null) := by decide +kernel
theorem i_227_0 : aIns 227 0 = some (.iconst 0, 1, 0, 0, .int (0)) := by decide +kernel
theorem i_227_1 : aIns 227 1 = some (.istore_n 1, 1, 0, 0, .null) := by decide +kernel
theorem i_227_2 : aIns 227 2 = some (.iconst 0, 1, 0, 0, .int (0)) := by decide +kernel
theorem i_227_3 : aIns 227 3 = some (.istore_n 2, 1, 0, 0, .null) := by decide +kernel
theorem i_227_4 : aIns 227 4 = some (.iconst 0, 1, 0, 0, .int (0)) := by decide +kernel
theorem i_227_5 : aIns 227 5 = some (.istore_n 3, 1, 0, 0, .null) := by decide +kernel
theorem i_227_6 : aIns 227 6 = some (.iload_n 3, 1, 0, 0, .null) := by decide +kernel
theorem i_227_7 : aIns 227 7 = some (.aload_n 0, 1, 0, 0, .null) := by decide +kernel
theorem i_227_8 : aIns 227 8 = some (.getfield 39, 3, 12, 20, .null) := by decide +kernel
theorem i_227_11 : aIns 227 11 = some (.iconst 1, 1, 0, 0, .int (1)) := by decide +kernel
theorem i_227_12 : aIns 227 12 = some (.iaload, 1, 0, 0, .null) := by decide +kernel
theorem i_227_13 : aIns 227 13 = some (.if_icmp .ge 37, 3, 0, 0, .null) := by decide +kernel
theorem i_227_16 : aIns 227 16 = some (.iload_n 1, 1, 0, 0, .null) := by decide +kernel
theorem i_227_17 : aIns 227 17 = some (.aload_n 0, 1, 0, 0, .null) := by decide +kernel
theorem i_227_18 : aIns 227 18 = some (.iload_n 3, 1, 0, 0, .null) := by decide +kernel
theorem i_227_19 : aIns 227 19 = some (.iconst 4, 1, 0, 0, .int (4)) := by decide +kernel
theorem i_227_20 : aIns 227 20 = some (.invokevirtual 309, 3, 191, 2, .int 12) := by decide +kernel
theorem i_227_23 : aIns 227 23 = some (.iadd, 1, 0, 0, .null) := by decide +kernel
theorem i_227_24 : aIns 227 24 = some (.istore_n 1, 1, 0, 0, .null) := by decide +kernel
theorem i_227_25 : aIns 227 25 = some (.iload_n 2, 1, 0, 0, .null) := by decide +kernel
theorem i_227_26 : aIns 227 26 = some (.aload_n 0, 1, 0, 0, .null) := by decide +kernel
theorem i_227_27 : aIns 227 27 = some (.iload_n 3, 1, 0, 0, .null) := by decide +kernel
theorem i_227_28 : aIns 227 28 = some (.iconst 4, 1, 0, 0, .int (4)) := by decide +kernel
theorem i_227_29 : aIns 227 29 = some (.invokevirtual 309, 3, 191, 2, .int 12) := by decide +kernel
theorem i_227_32 : aIns 227 32 = some (.aload_n 0, 1, 0, 0, .null) := by decide +kernel
theorem i_227_33 : aIns 227 33 = some (.getfield 39, 3, 12, 20, .null) := by decide +kernel
theorem i_227_36 : aIns 227 36 = some (.bipush 56, 2, 0, 0, .int (56)) := by decide +kernel
theorem i_227_38 : aIns 227 38 = some (.iload_n 3, 1, 0, 0, .null) := by decide +kernel
theorem i_227_39 : aIns 227 39 = some (.iadd, 1, 0, 0, .null) := by decide +kernel
theorem i_227_40 : aIns 227 40 = some (.iaload, 1, 0, 0, .null) := by decide +kernel
theorem i_227_41 : aIns 227 41 = some (.imul, 1, 0, 0, .null) := by decide +kernel
theorem i_227_42 : aIns 227 42 = some (.iadd, 1, 0, 0, .null) := by decide +kernel
theorem i_227_43 : aIns 227 43 = some (.istore_n 2, 1, 0, 0, .null) := by decide +kernel
theorem i_227_44 : aIns 227 44 = some (.iinc 3 1, 3, 0, 0, .null) := by decide +kernel
theorem i_227_47 : aIns 227 47 = some (.goto (-41), 3, 0, 0, .null) := by decide +kernel
theorem i_227_50 : aIns 227 50 = some (.iload_n 1, 1, 0, 0, .null) := by decide +kernel
theorem i_227_51 : aIns 227 51 = some (.ifCond .ne 5, 3, 0, 0, .null) := by decide +kernel
theorem i_227_54 : aIns 227 54 = some (.iconst 0, 1, 0, 0, .int (0)) := by decide +kernel
theorem i_227_55 : aIns 227 55 = some (.ireturn, 1, 0, 0, .null) := by decide +kernel
theorem i_227_56 : aIns 227 56 = some (.aload_n 0, 1, 0, 0, .null) := by decide +kernel
theorem i_227_57 : aIns 227 57 = some (.bipush 74, 2, 0, 0, .int (74)) := by decide +kernel
theorem i_227_59 : aIns 227 59 = some (.aload_n 0, 1, 0, 0, .null) := by decide +kernel
theorem i_227_60 : aIns 227 60 = some (.getfield 39, 3, 12, 20, .null) := by decide +kernel
theorem i_227_63 : aIns 227 63 = some (.bipush 79, 2, 0, 0, .int (79)) := by decide +kernel
theorem i_227_65 : aIns 227 65 = some (.iaload, 1, 0, 0, .null) := by decide +kernel
theorem i_227_66 : aIns 227 66 = some (.invokevirtual 368, 3, 206, 2, .int 12) := by decide +kernel
theorem i_227_69 : aIns 227 69 = some (.aload_n 0, 1, 0, 0, .null) := by decide +kernel
theorem i_227_70 : aIns 227 70 = some (.iload_n 2, 1, 0, 0, .null) := by decide +kernel
theorem i_227_71 : aIns 227 71 = some (.aload_n 0, 1, 0, 0, .null) := by decide +kernel
theorem i_227_72 : aIns 227 72 = some (.getfield 39, 3, 12, 20, .null) := by decide +kernel
theorem i_227_75 : aIns 227 75 = some (.iconst 5, 1, 0, 0, .int (5)) := by decide +kernel
theorem i_227_76 : aIns 227 76 = some (.iaload, 1, 0, 0, .null) := by decide +kernel
theorem i_227_77 : aIns 227 77 = some (.invokevirtual 359, 3, 207, 2, .int 12) := by decide +kernel
theorem i_227_80 : aIns 227 80 = some (.ireturn, 1, 0, 0, .null) := by decide +kernel
theorem i_228_0 : aIns 228 0 = some (.aload_n 0, 1, 0, 0, .null) := by decide +kernel
theorem i_228_1 : aIns 228 1 = some (.iload_n 1, 1, 0, 0, .null) := by decide +kernel
theorem i_228_2 : aIns 228 2 = some (.iconst 4, 1, 0, 0, .int (4)) := by decide +kernel
theorem i_228_3 : aIns 228 3 = some (.iconst (-1), 1, 0, 0, .int (-1)) := by decide +kernel
theorem i_228_4 : aIns 228 4 = some (.invokevirtual 386, 3, 217, 3, .int 12) := by decide +kernel
theorem i_228_7 : aIns 228 7 = some (.aload_n 0, 1, 0, 0, .null) := by decide +kernel
theorem i_228_8 : aIns 228 8 = some (.iload_n 1, 1, 0, 0, .null) := by decide +kernel
theorem i_228_9 : aIns 228 9 = some (.iconst 2, 1, 0, 0, .int (2)) := by decide +kernel
theorem i_228_10 : aIns 228 10 = some (.iconst (-1), 1, 0, 0, .int (-1)) := by decide +kernel
theorem i_228_11 : aIns 228 11 = some (.invokevirtual 386, 3, 217, 3, .int 12) := by decide +kernel
theorem i_228_14 : aIns 228 14 = some (.aload_n 0, 1, 0, 0, .null) := by decide +kernel
theorem i_228_15 : aIns 228 15 = some (.iload_n 1, 1, 0, 0, .null) := by decide +kernel
theorem i_228_16 : aIns 228 16 = some (.iconst 0, 1, 0, 0, .int (0)) := by decide +kernel
theorem i_228_17 : aIns 228 17 = some (.invokevirtual 309, 3, 191, 2, .int 12) := by decide +kernel
theorem i_228_20 : aIns 228 20 = some (.bipush 9, 2, 0, 0, .int (9)) := by decide +kernel
theorem i_228_22 : aIns 228 22 = some (.if_icmp .ge 10, 3, 0, 0, .null) := by decide +kernel
theorem i_228_25 : aIns 228 25 = some (.aload_n 0, 1, 0, 0, .null) := by decide +kernel
theorem i_228_26 : aIns 228 26 = some (.iload_n 1, 1, 0, 0, .null) := by decide +kernel
theorem i_228_27 : aIns 228 27 = some (.iconst 0, 1, 0, 0, .int (0)) := by decide +kernel
theorem i_228_28 : aIns 228 28 = some (.iconst 1, 1, 0, 0, .int (1)) := by decide +kernel
theorem i_228_29 : aIns 228 29 = some (.invokevirtual 386, 3, 217, 3, .int 12) := by decide +kernel
theorem i_228_32 : aIns 228 32 = some (.aload_n 0, 1, 0, 0, .null) := by decide +kernel
theorem i_228_33 : aIns 228 33 = some (.getfield 39, 3, 12, 20, .null) := by decide +kernel
theorem i_228_36 : aIns 228 36 = some (.bipush 56, 2, 0, 0, .int (56)) := by decide +kernel
theorem i_228_38 : aIns 228 38 = some (.iload_n 1, 1, 0, 0, .null) := by decide +kernel
theorem i_228_39 : aIns 228 39 = some (.iadd, 1, 0, 0, .null) := by decide +kernel
theorem i_228_40 : aIns 228 40 = some (.iaload, 1, 0, 0, .null) := by decide +kernel
theorem i_228_41 : aIns 228 41 = some (.istore_n 2, 1, 0, 0, .null) := by decide +kernel
theorem i_228_42 : aIns 228 42 = some (.aload_n 0, 1, 0, 0, .null) := by decide +kernel
theorem i_228_43 : aIns 228 43 = some (.getfield 39, 3, 12, 20, .null) := by decide +kernel
theorem i_228_46 : aIns 228 46 = some (.bipush 6, 2, 0, 0, .int (6)) := by decide +kernel
theorem i_228_48 : aIns 228 48 = some (.iaload, 1, 0, 0, .null) := by decide +kernel
theorem i_228_49 : aIns 228 49 = some (.iconst 1, 1, 0, 0, .int (1)) := by decide +kernel
theorem i_228_50 : aIns 228 50 = some (.if_icmp .ne 26, 3, 0, 0, .null) := by decide +kernel
theorem i_228_53 : aIns 228 53 = some (.aload_n 0, 1, 0, 0, .null) := by decide +kernel
theorem i_228_54 : aIns 228 54 = some (.getfield 39, 3, 12, 20, .null) := by decide +kernel
theorem i_228_57 : aIns 228 57 = some (.bipush 11, 2, 0, 0, .int (11)) := by decide +kernel
theorem i_228_59 : aIns 228 59 = some (.iaload, 1, 0, 0, .null) := by decide +kernel
theorem i_228_60 : aIns 228 60 = some (.aload_n 0, 1, 0, 0, .null) := by decide +kernel
theorem i_228_61 : aIns 228 61 = some (.invokevirtual 399, 3, 227, 0, .int 12) := by decide +kernel
theorem i_228_64 : aIns 228 64 = some (.isub, 1, 0, 0, .null) := by decide +kernel
theorem i_228_65 : aIns 228 65 = some (.istore_n 2, 1, 0, 0, .null) := by decide +kernel
theorem i_228_66 : aIns 228 66 = some (.iload_n 2, 1, 0, 0, .null) := by decide +kernel
theorem i_228_67 : aIns 228 67 = some (.ifCond .ge 7, 3, 0, 0, .null) := by decide +kernel
theorem i_228_70 : aIns 228 70 = some (.iconst 0, 1, 0, 0, .int (0)) := by decide +kernel
theorem i_228_71 : aIns 228 71 = some (.goto 4, 3, 0, 0, .null) := by decide +kernel
theorem i_228_74 : aIns 228 74 = some (.iload_n 2, 1, 0, 0, .null) := by decide +kernel
theorem i_228_75 : aIns 228 75 = some (.istore_n 2, 1, 0, 0, .null) := by decide +kernel
theorem i_228_76 : aIns 228 76 = some (.aload_n 0, 1, 0, 0, .null) := by decide +kernel
theorem i_228_77 : aIns 228 77 = some (.getfield 39, 3, 12, 20, .null) := by decide +kernel
theorem i_228_80 : aIns 228 80 = some (.bipush 11, 2, 0, 0, .int (11)) := by decide +kernel
theorem i_228_82 : aIns 228 82 = some (.dup2, 1, 0, 0, .null) := by decide +kernel
theorem i_228_83 : aIns 228 83 = some (.iaload, 1, 0, 0, .null) := by decide +kernel
theorem i_228_84 : aIns 228 84 = some (.iload_n 2, 1, 0, 0, .null) := by decide +kernel
theorem i_228_85 : aIns 228 85 = some (.isub, 1, 0, 0, .null) := by decide +kernel
theorem i_228_86 : aIns 228 86 = some (.iastore, 1, 0, 0, .null) := by decide +kernel
theorem i_228_87 : aIns 228 87 = some (.aload_n 0, 1, 0, 0, .null) := by decide +kernel
theorem i_228_88 : aIns 228 88 = some (.getfield 39, 3, 12, 20, .null) := by decide +kernel
theorem i_228_91 : aIns 228 91 = some (.bipush 8, 2, 0, 0, .int (8)) := by decide +kernel
theorem i_228_93 : aIns 228 93 = some (.dup2, 1, 0, 0, .null) := by decide +kernel
theorem i_228_94 : aIns 228 94 = some (.iaload, 1, 0, 0, .null) := by decide +kernel
theorem i_228_95 : aIns 228 95 = some (.iload_n 2, 1, 0, 0, .null) := by decide +kernel
theorem i_228_96 : aIns 228 96 = some (.isub, 1, 0, 0, .null) := by decide +kernel
theorem i_228_97 : aIns 228 97 = some (.iastore, 1, 0, 0, .null) := by decide +kernel
theorem i_228_98 : aIns 228 98 = some (.iload_n 2, 1, 0, 0, .null) := by decide +kernel
theorem i_228_99 : aIns 228 99 = some (.ireturn, 1, 0, 0, .null) := by decide +kernel
theorem i_229_0 : aIns 229 0 = some (.aload_n 0, 1, 0, 0, .null) := by decide +kernel
theorem i_229_1 : aIns 229 1 = some (.iload_n 1, 1, 0, 0, .null) := by decide +kernel
theorem i_229_2 : aIns 229 2 = some (.invokevirtual 329, 3, 188, 1, .int 12) := by decide +kernel
theorem i_229_5 : aIns 229 5 = some (.ifCond .eq 12, 3, 0, 0, .null) := by decide +kernel
theorem i_229_8 : aIns 229 8 = some (.aload_n 0, 1, 0, 0, .null) := by decide +kernel
theorem i_229_9 : aIns 229 9 = some (.iload_n 1, 1, 0, 0, .null) := by decide +kernel
theorem i_229_10 : aIns 229 10 = some (.iconst 4, 1, 0, 0, .int (4)) := by decide +kernel
theorem i_229_11 : aIns 229 11 = some (.invokevirtual 309, 3, 191, 2, .int 12) := by decide +kernel
theorem i_229_14 : aIns 229 14 = some (.ifCond .ne 5, 3, 0, 0, .null) := by decide +kernel
theorem i_229_17 : aIns 229 17 = some (.iconst (-1), 1, 0, 0, .int (-1)) := by decide +kernel
theorem i_229_18 : aIns 229 18 = some (.ireturn, 1, 0, 0, .null) := by decide +kernel
theorem i_229_19 : aIns 229 19 = some (.aload_n 0, 1, 0, 0, .null) := by decide +kernel
theorem i_229_20 : aIns 229 20 = some (.invokevirtual 383, 3, 214, 0, .int 12) := by decide +kernel
theorem i_229_23 : aIns 229 23 = some (.aload_n 0, 1, 0, 0, .null) := by decide +kernel
theorem i_229_24 : aIns 229 24 = some (.iload_n 1, 1, 0, 0, .null) := by decide +kernel
theorem i_229_25 : aIns 229 25 = some (.invokevirtual 402, 3, 228, 1, .int 12) := by decide +kernel
theorem i_229_28 : aIns 229 28 = some (.ireturn, 1, 0, 0, .null) := by decide +kernel
theorem i_230_0 : aIns 230 0 = some (.aload_n 0, 1, 0, 0, .null) := by decide +kernel
theorem i_230_1 : aIns 230 1 = some (.invokevirtual 374, 3, 187, 0, .int 12) := by decide +kernel
theorem i_230_4 : aIns 230 4 = some (.ifCond .eq 16, 3, 0, 0, .null) := by decide +kernel
theorem i_230_7 : aIns 230 7 = some (.aload_n 0, 1, 0, 0, .null) := by decide +kernel
theorem i_230_8 : aIns 230 8 = some (.getfield 39, 3, 12, 20, .null) := by decide +kernel
theorem i_230_11 : aIns 230 11 = some (.bipush 7, 2, 0, 0, .int (7)) := by decide +kernel
theorem i_230_13 : aIns 230 13 = some (.iaload, 1, 0, 0, .null) := by decide +kernel
theorem i_230_14 : aIns 230 14 = some (.sipush 999, 3, 0, 0, .int (999)) := by decide +kernel
theorem i_230_17 : aIns 230 17 = some (.if_icmp .ne 5, 3, 0, 0, .null) := by decide +kernel
theorem i_230_20 : aIns 230 20 = some (.iconst (-1), 1, 0, 0, .int (-1)) := by decide +kernel
theorem i_230_21 : aIns 230 21 = some (.ireturn, 1, 0, 0, .null) := by decide +kernel
theorem i_230_22 : aIns 230 22 = some (.aload_n 0, 1, 0, 0, .null) := by decide +kernel
theorem i_230_23 : aIns 230 23 = some (.invokevirtual 383, 3, 214, 0, .int 12) := by decide +kernel
theorem i_230_26 : aIns 230 26 = some (.aload_n 0, 1, 0, 0, .null) := by decide +kernel
theorem i_230_27 : aIns 230 27 = some (.getfield 39, 3, 12, 20, .null) := by decide +kernel
theorem i_230_30 : aIns 230 30 = some (.bipush 7, 2, 0, 0, .int (7)) := by decide +kernel
theorem i_230_32 : aIns 230 32 = some (.dup2, 1, 0, 0, .null) := by decide +kernel
theorem i_230_33 : aIns 230 33 = some (.iaload, 1, 0, 0, .null) := by decide +kernel
theorem i_230_34 : aIns 230 34 = some (.iconst 1, 1, 0, 0, .int (1)) := by decide +kernel
theorem i_230_35 : aIns 230 35 = some (.iadd, 1, 0, 0, .null) := by decide +kernel
theorem i_230_36 : aIns 230 36 = some (.iastore, 1, 0, 0, .null) := by decide +kernel
theorem i_230_37 : aIns 230 37 = some (.aload_n 0, 1, 0, 0, .null) := by decide +kernel
theorem i_230_38 : aIns 230 38 = some (.aload_n 0, 1, 0, 0, .null) := by decide +kernel
theorem i_230_39 : aIns 230 39 = some (.getfield 39, 3, 12, 20, .null) := by decide +kernel
theorem i_230_42 : aIns 230 42 = some (.bipush 7, 2, 0, 0, .int (7)) := by decide +kernel
theorem i_230_44 : aIns 230 44 = some (.iaload, 1, 0, 0, .null) := by decide +kernel
theorem i_230_45 : aIns 230 45 = some (.invokevirtual 303, 3, 195, 1, .int 12) := by decide +kernel
theorem i_230_48 : aIns 230 48 = some (.ireturn, 1, 0, 0, .null) := by decide +kernel
theorem i_231_0 : aIns 231 0 = some (.aload_n 0, 1, 0, 0, .null) := by decide +kernel
theorem i_231_1 : aIns 231 1 = some (.getfield 39, 3, 12, 20, .null) := by decide +kernel
theorem i_231_4 : aIns 231 4 = some (.bipush 69, 2, 0, 0, .int (69)) := by decide +kernel
theorem i_231_6 : aIns 231 6 = some (.iload_n 1, 1, 0, 0, .null) := by decide +kernel
theorem i_231_7 : aIns 231 7 = some (.iadd, 1, 0, 0, .null) := by decide +kernel
theorem i_231_8 : aIns 231 8 = some (.iaload, 1, 0, 0, .null) := by decide +kernel
theorem i_231_9 : aIns 231 9 = some (.iconst 1, 1, 0, 0, .int (1)) := by decide +kernel
theorem i_231_10 : aIns 231 10 = some (.if_icmp .ne 5, 3, 0, 0, .null) := by decide +kernel
theorem i_231_13 : aIns 231 13 = some (.iconst 0, 1, 0, 0, .int (0)) := by decide +kernel
theorem i_231_14 : aIns 231 14 = some (.ireturn, 1, 1, 0, .null) := by decide +kernel
theorem i_231_15 : aIns 231 15 = some (.iconst 0, 1, 0, 0, .int (0)) := by decide +kernel
theorem i_231_16 : aIns 231 16 = some (.istore_n 3, 1, 0, 0, .null) := by decide +kernel
theorem i_231_17 : aIns 231 17 = some (.iload_n 3, 1, 0, 0, .null) := by decide +kernel
theorem i_231_18 : aIns 231 18 = some (.iload_n 2, 1, 0, 0, .null) := by decide +kernel
theorem i_231_19 : aIns 231 19 = some (.if_icmp .ge 39, 3, 0, 0, .null) := by decide +kernel
theorem i_231_22 : aIns 231 22 = some (.aload_n 0, 1, 0, 0, .null) := by decide +kernel
theorem i_231_23 : aIns 231 23 = some (.getfield 46, 3, 12, 23, .null) := by decide +kernel
theorem i_231_26 : aIns 231 26 = some (.iload_n 3, 1, 0, 0, .null) := by decide +kernel
theorem i_231_27 : aIns 231 27 = some (.iaload, 1, 0, 0, .null) := by decide +kernel
theorem i_231_28 : aIns 231 28 = some (.iload_n 1, 1, 0, 0, .null) := by decide +kernel
theorem i_231_29 : aIns 231 29 = some (.if_icmp .eq 21, 3, 0, 0, .null) := by decide +kernel
theorem i_231_32 : aIns 231 32 = some (.aload_n 0, 1, 0, 0, .null) := by decide +kernel
theorem i_231_33 : aIns 231 33 = some (.iload_n 1, 1, 0, 0, .null) := by decide +kernel
theorem i_231_34 : aIns 231 34 = some (.iconst 3, 1, 0, 0, .int (3)) := by decide +kernel
theorem i_231_35 : aIns 231 35 = some (.invokevirtual 340, 3, 194, 2, .int 12) := by decide +kernel
theorem i_231_38 : aIns 231 38 = some (.aload_n 0, 1, 0, 0, .null) := by decide +kernel
theorem i_231_39 : aIns 231 39 = some (.getfield 46, 3, 12, 23, .null) := by decide +kernel
theorem i_231_42 : aIns 231 42 = some (.iload_n 3, 1, 0, 0, .null) := by decide +kernel
theorem i_231_43 : aIns 231 43 = some (.iaload, 1, 0, 0, .null) := by decide +kernel
theorem i_231_44 : aIns 231 44 = some (.invokestatic 405, 3, 141, 2, .null) := by decide +kernel
theorem i_231_47 : aIns 231 47 = some (.ifCond .eq 5, 3, 0, 0, .null) := by decide +kernel
theorem i_231_50 : aIns 231 50 = some (.iconst 0, 1, 0, 0, .int (0)) := by decide +kernel
theorem i_231_51 : aIns 231 51 = some (.ireturn, 1, 1, 0, .null) := by decide +kernel
theorem i_231_52 : aIns 231 52 = some (.iinc 3 1, 3, 0, 0, .null) := by decide +kernel
theorem i_231_55 : aIns 231 55 = some (.goto (-38), 3, 0, 0, .null) := by decide +kernel
theorem i_231_58 : aIns 231 58 = some (.iconst 1, 1, 0, 0, .int (1)) := by decide +kernel
theorem i_231_59 : aIns 231 59 = some (.ireturn, 1, 1, 0, .null) := by decide +kernel
theorem i_232_0 : aIns 232 0 = some (.aload_n 0, 1, 0, 0, .null) := by decide +kernel
theorem i_232_1 : aIns 232 1 = some (.iload_n 1, 1, 0, 0, .null) := by decide +kernel
theorem i_232_2 : aIns 232 2 = some (.putfield 353, 3, 12, 24, .null) := by decide +kernel
theorem i_232_5 : aIns 232 5 = some (.aload_n 0, 1, 0, 0, .null) := by decide +kernel
theorem i_232_6 : aIns 232 6 = some (.aload_n 0, 1, 0, 0, .null) := by decide +kernel
theorem i_232_7 : aIns 232 7 = some (.getfield 39, 3, 12, 20, .null) := by decide +kernel
theorem i_232_10 : aIns 232 10 = some (.iconst 5, 1, 0, 0, .int (5)) := by decide +kernel
theorem i_232_11 : aIns 232 11 = some (.iaload, 1, 0, 0, .null) := by decide +kernel
theorem i_232_12 : aIns 232 12 = some (.invokevirtual 371, 3, 211, 1, .int 12) := by decide +kernel
theorem i_232_15 : aIns 232 15 = some (.istore_n 2, 1, 0, 0, .null) := by decide +kernel
theorem i_232_16 : aIns 232 16 = some (.aload_n 0, 1, 0, 0, .null) := by decide +kernel
theorem i_232_17 : aIns 232 17 = some (.getfield 408, 3, 12, 29, .null) := by decide +kernel
theorem i_232_20 : aIns 232 20 = some (.ifCond .lt 12, 3, 0, 0, .null) := by decide +kernel
theorem i_232_23 : aIns 232 23 = some (.iload_n 2, 1, 0, 0, .null) := by decide +kernel
theorem i_232_24 : aIns 232 24 = some (.aload_n 0, 1, 0, 0, .null) := by decide +kernel
theorem i_232_25 : aIns 232 25 = some (.getfield 411, 3, 12, 30, .null) := by decide +kernel
theorem i_232_28 : aIns 232 28 = some (.if_icmp .lt 4, 3, 0, 0, .null) := by decide +kernel
theorem i_232_31 : aIns 232 31 = some (.return_, 1, 0, 0, .null) := by decide +kernel
theorem i_232_32 : aIns 232 32 = some (.aload_n 0, 1, 0, 0, .null) := by decide +kernel
theorem i_232_33 : aIns 232 33 = some (.iload_n 2, 1, 0, 0, .null) := by decide +kernel
theorem i_232_34 : aIns 232 34 = some (.putfield 411, 3, 12, 30, .null) := by decide +kernel
theorem i_232_37 : aIns 232 37 = some (.aload_n 0, 1, 0, 0, .null) := by decide +kernel
theorem i_232_38 : aIns 232 38 = some (.iload_n 1, 1, 0, 0, .null) := by decide +kernel
theorem i_232_39 : aIns 232 39 = some (.putfield 408, 3, 12, 29, .null) := by decide +kernel
theorem i_232_42 : aIns 232 42 = some (.iconst 0, 1, 0, 0, .int (0)) := by decide +kernel
theorem i_232_43 : aIns 232 43 = some (.istore_n 3, 1, 0, 0, .null) := by decide +kernel
theorem i_232_44 : aIns 232 44 = some (.iload_n 3, 1, 0, 0, .null) := by decide +kernel
theorem i_232_45 : aIns 232 45 = some (.iload_n 1, 1, 0, 0, .null) := by decide +kernel
theorem i_232_46 : aIns 232 46 = some (.if_icmp .ge 21, 3, 0, 0, .null) := by decide +kernel
theorem i_232_49 : aIns 232 49 = some (.aload_n 0, 1, 0, 0, .null) := by decide +kernel
theorem i_232_50 : aIns 232 50 = some (.getfield 52, 3, 12, 28, .null) := by decide +kernel
theorem i_232_53 : aIns 232 53 = some (.iload_n 3, 1, 0, 0, .null) := by decide +kernel
theorem i_232_54 : aIns 232 54 = some (.aload_n 0, 1, 0, 0, .null) := by decide +kernel
theorem i_232_55 : aIns 232 55 = some (.getfield 46, 3, 12, 23, .null) := by decide +kernel
theorem i_232_58 : aIns 232 58 = some (.iload_n 3, 1, 0, 0, .null) := by decide +kernel
theorem i_232_59 : aIns 232 59 = some (.iaload, 1, 0, 0, .null) := by decide +kernel
theorem i_232_60 : aIns 232 60 = some (.iastore, 1, 0, 0, .null) := by decide +kernel
theorem i_232_61 : aIns 232 61 = some (.iinc 3 1, 3, 0, 0, .null) := by decide +kernel
theorem i_232_64 : aIns 232 64 = some (.goto (-20), 3, 0, 0, .null) := by decide +kernel
theorem i_232_67 : aIns 232 67 = some (.return_, 1, 0, 0, .null) := by decide +kernel
theorem i_233_0 : aIns 233 0 = some (.aload_n 0, 1, 0, 0, .null) := by decide +kernel
theorem i_233_1 : aIns 233 1 = some (.iconst (-1), 1, 0, 0, .int (-1)) := by decide +kernel
theorem i_233_2 : aIns 233 2 = some (.putfield 408, 3, 12, 29, .null) := by decide +kernel
theorem i_233_5 : aIns 233 5 = some (.aload_n 0, 1, 0, 0, .null) := by decide +kernel
theorem i_233_6 : aIns 233 6 = some (.iconst 0, 1, 0, 0, .int (0)) := by decide +kernel
theorem i_233_7 : aIns 233 7 = some (.invokevirtual 414, 3, 232, 1, .int 12) := by decide +kernel
theorem i_233_10 : aIns 233 10 = some (.iconst 0, 1, 0, 0, .int (0)) := by decide +kernel
theorem i_233_11 : aIns 233 11 = some (.istore_n 1, 1, 0, 0, .null) := by decide +kernel
theorem i_233_12 : aIns 233 12 = some (.aload_n 0, 1, 0, 0, .null) := by decide +kernel
theorem i_233_13 : aIns 233 13 = some (.getfield 46, 3, 12, 23, .null) := by decide +kernel
theorem i_233_16 : aIns 233 16 = some (.iconst 0, 1, 0, 0, .int (0)) := by decide +kernel
theorem i_233_17 : aIns 233 17 = some (.iconst (-1), 1, 0, 0, .int (-1)) := by decide +kernel
theorem i_233_18 : aIns 233 18 = some (.iastore, 1, 0, 0, .null) := by decide +kernel
theorem i_233_19 : aIns 233 19 = some (.iload_n 1, 1, 0, 0, .null) := by decide +kernel
theorem i_233_20 : aIns 233 20 = some (.ifCond .lt 108, 3, 0, 0, .null) := by decide +kernel
theorem i_233_23 : aIns 233 23 = some (.aload_n 0, 1, 0, 0, .null) := by decide +kernel
theorem i_233_24 : aIns 233 24 = some (.getfield 46, 3, 12, 23, .null) := by decide +kernel
theorem i_233_27 : aIns 233 27 = some (.iload_n 1, 1, 0, 0, .null) := by decide +kernel
theorem i_233_28 : aIns 233 28 = some (.dup2, 1, 0, 0, .null) := by decide +kernel
theorem i_233_29 : aIns 233 29 = some (.iaload, 1, 0, 0, .null) := by decide +kernel
theorem i_233_30 : aIns 233 30 = some (.iconst 1, 1, 0, 0, .int (1)) := by decide +kernel
theorem i_233_31 : aIns 233 31 = some (.iadd, 1, 0, 0, .null) := by decide +kernel
theorem i_233_32 : aIns 233 32 = some (.iastore, 1, 0, 0, .null) := by decide +kernel
theorem i_233_33 : aIns 233 33 = some (.aload_n 0, 1, 0, 0, .null) := by decide +kernel
theorem i_233_34 : aIns 233 34 = some (.getfield 46, 3, 12, 23, .null) := by decide +kernel
theorem i_233_37 : aIns 233 37 = some (.iload_n 1, 1, 0, 0, .null) := by decide +kernel
theorem i_233_38 : aIns 233 38 = some (.iaload, 1, 0, 0, .null) := by decide +kernel
theorem i_233_39 : aIns 233 39 = some (.aload_n 0, 1, 0, 0, .null) := by decide +kernel
theorem i_233_40 : aIns 233 40 = some (.getfield 39, 3, 12, 20, .null) := by decide +kernel
theorem i_233_43 : aIns 233 43 = some (.iconst 3, 1, 0, 0, .int (3)) := by decide +kernel
theorem i_233_44 : aIns 233 44 = some (.iaload, 1, 0, 0, .null) := by decide +kernel
theorem i_233_45 : aIns 233 45 = some (.if_icmp .ge 30, 3, 0, 0, .null) := by decide +kernel
theorem i_233_48 : aIns 233 48 = some (.aload_n 0, 1, 0, 0, .null) := by decide +kernel
theorem i_233_49 : aIns 233 49 = some (.aload_n 0, 1, 0, 0, .null) := by decide +kernel
theorem i_233_50 : aIns 233 50 = some (.getfield 46, 3, 12, 23, .null) := by decide +kernel
theorem i_233_53 : aIns 233 53 = some (.iload_n 1, 1, 0, 0, .null) := by decide +kernel
theorem i_233_54 : aIns 233 54 = some (.iaload, 1, 0, 0, .null) := by decide +kernel
theorem i_233_55 : aIns 233 55 = some (.iload_n 1, 1, 0, 0, .null) := by decide +kernel
theorem i_233_56 : aIns 233 56 = some (.invokevirtual 417, 3, 231, 2, .int 12) := by decide +kernel
theorem i_233_59 : aIns 233 59 = some (.ifCond .ne 16, 3, 0, 0, .null) := by decide +kernel
theorem i_233_62 : aIns 233 62 = some (.aload_n 0, 1, 0, 0, .null) := by decide +kernel
theorem i_233_63 : aIns 233 63 = some (.getfield 46, 3, 12, 23, .null) := by decide +kernel
theorem i_233_66 : aIns 233 66 = some (.iload_n 1, 1, 0, 0, .null) := by decide +kernel
theorem i_233_67 : aIns 233 67 = some (.dup2, 1, 0, 0, .null) := by decide +kernel
theorem i_233_68 : aIns 233 68 = some (.iaload, 1, 0, 0, .null) := by decide +kernel
theorem i_233_69 : aIns 233 69 = some (.iconst 1, 1, 0, 0, .int (1)) := by decide +kernel
theorem i_233_70 : aIns 233 70 = some (.iadd, 1, 0, 0, .null) := by decide +kernel
theorem i_233_71 : aIns 233 71 = some (.iastore, 1, 0, 0, .null) := by decide +kernel
theorem i_233_72 : aIns 233 72 = some (.goto (-39), 3, 0, 0, .null) := by decide +kernel
theorem i_233_75 : aIns 233 75 = some (.aload_n 0, 1, 0, 0, .null) := by decide +kernel
theorem i_233_76 : aIns 233 76 = some (.getfield 46, 3, 12, 23, .null) := by decide +kernel
theorem i_233_79 : aIns 233 79 = some (.iload_n 1, 1, 0, 0, .null) := by decide +kernel
theorem i_233_80 : aIns 233 80 = some (.iaload, 1, 0, 0, .null) := by decide +kernel
theorem i_233_81 : aIns 233 81 = some (.aload_n 0, 1, 0, 0, .null) := by decide +kernel
theorem i_233_82 : aIns 233 82 = some (.getfield 39, 3, 12, 20, .null) := by decide +kernel
theorem i_233_85 : aIns 233 85 = some (.iconst 3, 1, 0, 0, .int (3)) := by decide +kernel
theorem i_233_86 : aIns 233 86 = some (.iaload, 1, 0, 0, .null) := by decide +kernel
theorem i_233_87 : aIns 233 87 = some (.if_icmp .lt 9, 3, 0, 0, .null) := by decide +kernel
theorem i_233_90 : aIns 233 90 = some (.iinc 1 (-1), 3, 0, 0, .null) := by decide +kernel
theorem i_233_93 : aIns 233 93 = some (.goto (-74), 3, 0, 0, .null) := by decide +kernel
theorem i_233_96 : aIns 233 96 = some (.aload_n 0, 1, 0, 0, .null) := by decide +kernel
theorem i_233_97 : aIns 233 97 = some (.iload_n 1, 1, 0, 0, .null) := by decide +kernel
theorem i_233_98 : aIns 233 98 = some (.iconst 1, 1, 0, 0, .int (1)) := by decide +kernel
theorem i_233_99 : aIns 233 99 = some (.iadd, 1, 0, 0, .null) := by decide +kernel
theorem i_233_100 : aIns 233 100 = some (.invokevirtual 414, 3, 232, 1, .int 12) := by decide +kernel
theorem i_233_103 : aIns 233 103 = some (.iload_n 1, 1, 0, 0, .null) := by decide +kernel
theorem i_233_104 : aIns 233 104 = some (.iconst 1, 1, 0, 0, .int (1)) := by decide +kernel
theorem i_233_105 : aIns 233 105 = some (.iadd, 1, 0, 0, .null) := by decide +kernel
theorem i_233_106 : aIns 233 106 = some (.aload_n 0, 1, 0, 0, .null) := by decide +kernel
theorem i_233_107 : aIns 233 107 = some (.getfield 39, 3, 12, 20, .null) := by decide +kernel
theorem i_233_110 : aIns 233 110 = some (.iconst 3, 1, 0, 0, .int (3)) := by decide +kernel
theorem i_233_111 : aIns 233 111 = some (.iaload, 1, 0, 0, .null) := by decide +kernel
theorem i_233_112 : aIns 233 112 = some (.if_icmp .ge (-93), 3, 0, 0, .null) := by decide +kernel
theorem i_233_115 : aIns 233 115 = some (.iinc 1 1, 3, 0, 0, .null) := by decide +kernel
theorem i_233_118 : aIns 233 118 = some (.aload_n 0, 1, 0, 0, .null) := by decide +kernel
theorem i_233_119 : aIns 233 119 = some (.getfield 46, 3, 12, 23, .null) := by decide +kernel
theorem i_233_122 : aIns 233 122 = some (.iload_n 1, 1, 0, 0, .null) := by decide +kernel
theorem i_233_123 : aIns 233 123 = some (.iconst (-1), 1, 0, 0, .int (-1)) := by decide +kernel
theorem i_233_124 : aIns 233 124 = some (.iastore, 1, 0, 0, .null) := by decide +kernel
theorem i_233_125 : aIns 233 125 = some (.goto (-106), 3, 0, 0, .null) := by decide +kernel
theorem i_233_128 : aIns 233 128 = some (.return_, 1, 0, 0, .null) := by decide +kernel
theorem i_234_0 : aIns 234 0 = some (.aload_n 0, 1, 0, 0, .null) := by decide +kernel
theorem i_234_1 : aIns 234 1 = some (.invokevirtual 374, 3, 187, 0, .int 12) := by decide +kernel
theorem i_234_4 : aIns 234 4 = some (.ifCond .eq 15, 3, 0, 0, .null) := by decide +kernel
theorem i_234_7 : aIns 234 7 = some (.iload_n 1, 1, 0, 0, .null) := by decide +kernel
theorem i_234_8 : aIns 234 8 = some (.i2l, 1, 0, 0, .null) := by decide +kernel
theorem i_234_9 : aIns 234 9 = some (.lconst 0, 1, 0, 0, .long 0) := by decide +kernel
theorem i_234_10 : aIns 234 10 = some (.ldc2_w 338, 3, 0, 0, .long (5)) := by decide +kernel
theorem i_234_13 : aIns 234 13 = some (.invokestatic 124, 3, 140, 3, .null) := by decide +kernel
theorem i_234_16 : aIns 234 16 = some (.ifCond .ne 6, 3, 0, 0, .null) := by decide +kernel
theorem i_234_19 : aIns 234 19 = some (.bipush (-3), 2, 0, 0, .int (-3)) := by decide +kernel
theorem i_234_21 : aIns 234 21 = some (.ireturn, 1, 0, 0, .null) := by decide +kernel
theorem i_234_22 : aIns 234 22 = some (.aload_n 0, 1, 0, 0, .null) := by decide +kernel
theorem i_234_23 : aIns 234 23 = some (.invokevirtual 420, 3, 233, 0, .int 12) := by decide +kernel
theorem i_234_26 : aIns 234 26 = some (.iload_n 1, 1, 0, 0, .null) := by decide +kernel
theorem i_234_27 : aIns 234 27 = some (.ifCond .ne 10, 3, 0, 0, .null) := by decide +kernel
theorem i_234_30 : aIns 234 30 = some (.aload_n 0, 1, 0, 0, .null) := by decide +kernel
theorem i_234_31 : aIns 234 31 = some (.getfield 411, 3, 12, 30, .null) := by decide +kernel
theorem i_234_34 : aIns 234 34 = some (.goto 24, 3, 0, 0, .null) := by decide +kernel
theorem i_234_37 : aIns 234 37 = some (.iload_n 1, 1, 0, 0, .null) := by decide +kernel
theorem i_234_38 : aIns 234 38 = some (.aload_n 0, 1, 0, 0, .null) := by decide +kernel
theorem i_234_39 : aIns 234 39 = some (.getfield 408, 3, 12, 29, .null) := by decide +kernel
theorem i_234_42 : aIns 234 42 = some (.if_icmp .gt 14, 3, 0, 0, .null) := by decide +kernel
theorem i_234_45 : aIns 234 45 = some (.aload_n 0, 1, 0, 0, .null) := by decide +kernel
theorem i_234_46 : aIns 234 46 = some (.getfield 52, 3, 12, 28, .null) := by decide +kernel
theorem i_234_49 : aIns 234 49 = some (.iload_n 1, 1, 0, 0, .null) := by decide +kernel
theorem i_234_50 : aIns 234 50 = some (.iconst 1, 1, 0, 0, .int (1)) := by decide +kernel
theorem i_234_51 : aIns 234 51 = some (.isub, 1, 0, 0, .null) := by decide +kernel
theorem i_234_52 : aIns 234 52 = some (.iaload, 1, 0, 0, .null) := by decide +kernel
theorem i_234_53 : aIns 234 53 = some (.goto 5, 3, 0, 0, .null) := by decide +kernel
theorem i_234_56 : aIns 234 56 = some (.bipush (-2), 2, 0, 0, .int (-2)) := by decide +kernel
theorem i_234_58 : aIns 234 58 = some (.ireturn, 1, 0, 0, .null) := by decide +kernel
theorem i_235_0 : aIns 235 0 = some (.iconst 0, 1, 0, 0, .int (0)) := by decide +kernel
theorem i_235_1 : aIns 235 1 = some (.istore_n 2, 1, 0, 0, .null) := by decide +kernel
theorem i_235_2 : aIns 235 2 = some (.iconst 0, 1, 0, 0, .int (0)) := by decide +kernel
theorem i_235_3 : aIns 235 3 = some (.istore_n 3, 1, 0, 0, .null) := by decide +kernel
theorem i_235_4 : aIns 235 4 = some (.iload_n 3, 1, 0, 0, .null) := by decide +kernel
theorem i_235_5 : aIns 235 5 = some (.iload_n 1, 1, 0, 0, .null) := by decide +kernel
theorem i_235_6 : aIns 235 6 = some (.if_icmp .ge 22, 3, 0, 0, .null) := by decide +kernel
theorem i_235_9 : aIns 235 9 = some (.iload_n 2, 1, 0, 0, .null) := by decide +kernel
theorem i_235_10 : aIns 235 10 = some (.aload_n 0, 1, 0, 0, .null) := by decide +kernel
theorem i_235_11 : aIns 235 11 = some (.aload_n 0, 1, 0, 0, .null) := by decide +kernel
theorem i_235_12 : aIns 235 12 = some (.getfield 55, 3, 12, 31, .null) := by decide +kernel
theorem i_235_15 : aIns 235 15 = some (.iload_n 3, 1, 0, 0, .null) := by decide +kernel
theorem i_235_16 : aIns 235 16 = some (.iaload, 1, 0, 0, .null) := by decide +kernel
theorem i_235_17 : aIns 235 17 = some (.invokevirtual 313, 3, 193, 1, .int 12) := by decide +kernel
theorem i_235_20 : aIns 235 20 = some (.iadd, 1, 0, 0, .null) := by decide +kernel
theorem i_235_21 : aIns 235 21 = some (.istore_n 2, 1, 0, 0, .null) := by decide +kernel
theorem i_235_22 : aIns 235 22 = some (.iinc 3 1, 3, 0, 0, .null) := by decide +kernel
theorem i_235_25 : aIns 235 25 = some (.goto (-21), 3, 0, 0, .null) := by decide +kernel
theorem i_235_28 : aIns 235 28 = some (.iload_n 2, 1, 0, 0, .null) := by decide +kernel
theorem i_235_29 : aIns 235 29 = some (.ireturn, 1, 0, 0, .null) := by decide +kernel
theorem i_236_0 : aIns 236 0 = some (.iconst 0, 1, 0, 0, .int (0)) := by decide +kernel
theorem i_236_1 : aIns 236 1 = some (.istore_n 3, 1, 0, 0, .null) := by decide +kernel
theorem i_236_2 : aIns 236 2 = some (.iload_n 3, 1, 0, 0, .null) := by decide +kernel
theorem i_236_3 : aIns 236 3 = some (.iload_n 1, 1, 0, 0, .null) := by decide +kernel
theorem i_236_4 : aIns 236 4 = some (.if_icmp .ge 34, 3, 0, 0, .null) := by decide +kernel
theorem i_236_7 : aIns 236 7 = some (.aload_n 0, 1, 0, 0, .null) := by decide +kernel
theorem i_236_8 : aIns 236 8 = some (.aload_n 0, 1, 0, 0, .null) := by decide +kernel
theorem i_236_9 : aIns 236 9 = some (.getfield 55, 3, 12, 31, .null) := by decide +kernel
theorem i_236_12 : aIns 236 12 = some (.iload_n 3, 1, 0, 0, .null) := by decide +kernel
theorem i_236_13 : aIns 236 13 = some (.iaload, 1, 0, 0, .null) := by decide +kernel
theorem i_236_14 : aIns 236 14 = some (.invokevirtual 380, 3, 216, 1, .int 12) := by decide +kernel
theorem i_236_17 : aIns 236 17 = some (.ifCond .eq 21, 3, 0, 0, .null) := by decide +kernel
theorem i_236_20 : aIns 236 20 = some (.aload_n 0, 1, 0, 0, .null) := by decide +kernel
theorem i_236_21 : aIns 236 21 = some (.aload_n 0, 1, 0, 0, .null) := by decide +kernel
theorem i_236_22 : aIns 236 22 = some (.getfield 55, 3, 12, 31, .null) := by decide +kernel
theorem i_236_25 : aIns 236 25 = some (.iload_n 3, 1, 0, 0, .null) := by decide +kernel
theorem i_236_26 : aIns 236 26 = some (.iaload, 1, 0, 0, .null) := by decide +kernel
theorem i_236_27 : aIns 236 27 = some (.iconst 1, 1, 0, 0, .int (1)) := by decide +kernel
theorem i_236_28 : aIns 236 28 = some (.iconst 1, 1, 0, 0, .int (1)) := by decide +kernel
theorem i_236_29 : aIns 236 29 = some (.invokevirtual 386, 3, 217, 3, .int 12) := by decide +kernel
theorem i_236_32 : aIns 236 32 = some (.iinc 3 1, 3, 0, 0, .null) := by decide +kernel
theorem i_236_35 : aIns 236 35 = some (.goto (-33), 3, 0, 0, .null) := by decide +kernel
theorem i_236_38 : aIns 236 38 = some (.iload_n 3, 1, 0, 0, .null) := by decide +kernel
theorem i_236_39 : aIns 236 39 = some (.iload_n 1, 1, 0, 0, .null) := by decide +kernel
theorem i_236_40 : aIns 236 40 = some (.if_icmp .ge 7, 3, 0, 0, .null) := by decide +kernel
theorem i_236_43 : aIns 236 43 = some (.iconst 0, 1, 0, 0, .int (0)) := by decide +kernel
theorem i_236_44 : aIns 236 44 = some (.goto 14, 3, 0, 0, .null) := by decide +kernel
theorem i_236_47 : aIns 236 47 = some (.aload_n 0, 1, 0, 0, .null) := by decide +kernel
theorem i_236_48 : aIns 236 48 = some (.iload_n 2, 1, 0, 0, .null) := by decide +kernel
theorem i_236_49 : aIns 236 49 = some (.invokevirtual 377, 3, 212, 1, .int 12) := by decide +kernel
theorem i_236_52 : aIns 236 52 = some (.aload_n 0, 1, 0, 0, .null) := by decide +kernel
theorem i_236_53 : aIns 236 53 = some (.iload_n 1, 1, 0, 0, .null) := by decide +kernel
theorem i_236_54 : aIns 236 54 = some (.invokevirtual 423, 3, 235, 1, .int 12) := by decide +kernel
theorem i_236_57 : aIns 236 57 = some (.isub, 1, 0, 0, .null) := by decide +kernel
theorem i_236_58 : aIns 236 58 = some (.istore 4, 2, 0, 0, .null) := by decide +kernel
theorem i_236_60 : aIns 236 60 = some (.iconst 0, 1, 0, 0, .int (0)) := by decide +kernel
theorem i_236_61 : aIns 236 61 = some (.istore 5, 2, 0, 0, .null) := by decide +kernel
theorem i_236_63 : aIns 236 63 = some (.iload 5, 2, 0, 0, .null) := by decide +kernel
theorem i_236_65 : aIns 236 65 = some (.iload_n 3, 1, 0, 0, .null) := by decide +kernel
theorem i_236_66 : aIns 236 66 = some (.if_icmp .ge 22, 3, 0, 0, .null) := by decide +kernel
theorem i_236_69 : aIns 236 69 = some (.aload_n 0, 1, 0, 0, .null) := by decide +kernel
theorem i_236_70 : aIns 236 70 = some (.aload_n 0, 1, 0, 0, .null) := by decide +kernel
theorem i_236_71 : aIns 236 71 = some (.getfield 55, 3, 12, 31, .null) := by decide +kernel
theorem i_236_74 : aIns 236 74 = some (.iload 5, 2, 0, 0, .null) := by decide +kernel
theorem i_236_76 : aIns 236 76 = some (.iaload, 1, 0, 0, .null) := by decide +kernel
theorem i_236_77 : aIns 236 77 = some (.iconst 1, 1, 0, 0, .int (1)) := by decide +kernel
theorem i_236_78 : aIns 236 78 = some (.iconst (-1), 1, 0, 0, .int (-1)) := by decide +kernel
theorem i_236_79 : aIns 236 79 = some (.invokevirtual 386, 3, 217, 3, .int 12) := by decide +kernel
theorem i_236_82 : aIns 236 82 = some (.iinc 5 1, 3, 0, 0, .null) := by decide +kernel
theorem i_236_85 : aIns 236 85 = some (.goto (-22), 3, 0, 0, .null) := by decide +kernel
theorem i_236_88 : aIns 236 88 = some (.iload_n 3, 1, 0, 0, .null) := by decide +kernel
theorem i_236_89 : aIns 236 89 = some (.iload_n 1, 1, 0, 0, .null) := by decide +kernel
theorem i_236_90 : aIns 236 90 = some (.if_icmp .lt 19, 3, 0, 0, .null) := by decide +kernel
theorem i_236_93 : aIns 236 93 = some (.aload_n 0, 1, 0, 0, .null) := by decide +kernel
theorem i_236_94 : aIns 236 94 = some (.getfield 408, 3, 12, 29, .null) := by decide +kernel
theorem i_236_97 : aIns 236 97 = some (.ifCond .lt 13, 3, 0, 0, .null) := by decide +kernel
theorem i_236_100 : aIns 236 100 = some (.iload 4, 2, 0, 0, .null) := by decide +kernel
theorem i_236_102 : aIns 236 102 = some (.aload_n 0, 1, 0, 0, .null) := by decide +kernel
theorem i_236_103 : aIns 236 103 = some (.getfield 411, 3, 12, 30, .null) := by decide +kernel
theorem i_236_106 : aIns 236 106 = some (.if_icmp .lt 4, 3, 0, 0, .null) := by decide +kernel
theorem i_236_109 : aIns 236 109 = some (.return_, 1, 0, 0, .null) := by decide +kernel
theorem i_236_110 : aIns 236 110 = some (.aload_n 0, 1, 0, 0, .null) := by decide +kernel
theorem i_236_111 : aIns 236 111 = some (.iload 4, 2, 0, 0, .null) := by decide +kernel
theorem i_236_113 : aIns 236 113 = some (.putfield 411, 3, 12, 30, .null) := by decide +kernel
theorem i_236_116 : aIns 236 116 = some (.aload_n 0, 1, 0, 0, .null) := by decide +kernel
theorem i_236_117 : aIns 236 117 = some (.iload_n 1, 1, 0, 0, .null) := by decide +kernel
theorem i_236_118 : aIns 236 118 = some (.putfield 408, 3, 12, 29, .null) := by decide +kernel
theorem i_236_121 : aIns 236 121 = some (.iconst 0, 1, 0, 0, .int (0)) := by decide +kernel
theorem i_236_122 : aIns 236 122 = some (.istore 5, 2, 0, 0, .null) := by decide +kernel
theorem i_236_124 : aIns 236 124 = some (.iload 5, 2, 0, 0, .null) := by decide +kernel
theorem i_236_126 : aIns 236 126 = some (.iload_n 1, 1, 0, 0, .null) := by decide +kernel
theorem i_236_127 : aIns 236 127 = some (.if_icmp .ge 23, 3, 0, 0, .null) := by decide +kernel
theorem i_236_130 : aIns 236 130 = some (.aload_n 0, 1, 0, 0, .null) := by decide +kernel
theorem i_236_131 : aIns 236 131 = some (.getfield 52, 3, 12, 28, .null) := by decide +kernel
theorem i_236_134 : aIns 236 134 = some (.iload 5, 2, 0, 0, .null) := by decide +kernel
theorem i_236_136 : aIns 236 136 = some (.aload_n 0, 1, 0, 0, .null) := by decide +kernel
theorem i_236_137 : aIns 236 137 = some (.getfield 55, 3, 12, 31, .null) := by decide +kernel
theorem i_236_140 : aIns 236 140 = some (.iload 5, 2, 0, 0, .null) := by decide +kernel
theorem i_236_142 : aIns 236 142 = some (.iaload, 1, 0, 0, .null) := by decide +kernel
theorem i_236_143 : aIns 236 143 = some (.iastore, 1, 0, 0, .null) := by decide +kernel
theorem i_236_144 : aIns 236 144 = some (.iinc 5 1, 3, 0, 0, .null) := by decide +kernel
theorem i_236_147 : aIns 236 147 = some (.goto (-23), 3, 0, 0, .null) := by decide +kernel
theorem i_236_150 : aIns 236 150 = some (.return_, 1, 0, 0, .null) := by decide +kernel
theorem i_237_0 : aIns 237 0 = some (.iload_n 1, 1, 0, 0, .null) := by decide +kernel
theorem i_237_1 : aIns 237 1 = some (.iconst 1, 1, 0, 0, .int (1)) := by decide +kernel
theorem i_237_2 : aIns 237 2 = some (.isub, 1, 0, 0, .null) := by decide +kernel
theorem i_237_3 : aIns 237 3 = some (.istore_n 2, 1, 0, 0, .null) := by decide +kernel
theorem i_237_4 : aIns 237 4 = some (.iload_n 2, 1, 0, 0, .null) := by decide +kernel
theorem i_237_5 : aIns 237 5 = some (.ifCond .lt 26, 3, 0, 0, .null) := by decide +kernel
theorem i_237_8 : aIns 237 8 = some (.aload_n 0, 1, 0, 0, .null) := by decide +kernel
theorem i_237_9 : aIns 237 9 = some (.getfield 55, 3, 12, 31, .null) := by decide +kernel
theorem i_237_12 : aIns 237 12 = some (.iload_n 2, 1, 0, 0, .null) := by decide +kernel
theorem i_237_13 : aIns 237 13 = some (.iaload, 1, 0, 0, .null) := by decide +kernel
theorem i_237_14 : aIns 237 14 = some (.aload_n 0, 1, 0, 0, .null) := by decide +kernel
theorem i_237_15 : aIns 237 15 = some (.getfield 39, 3, 12, 20, .null) := by decide +kernel
theorem i_237_18 : aIns 237 18 = some (.iconst 1, 1, 0, 0, .int (1)) := by decide +kernel
theorem i_237_19 : aIns 237 19 = some (.iaload, 1, 0, 0, .null) := by decide +kernel
theorem i_237_20 : aIns 237 20 = some (.iconst 1, 1, 0, 0, .int (1)) := by decide +kernel
theorem i_237_21 : aIns 237 21 = some (.isub, 1, 0, 0, .null) := by decide +kernel
theorem i_237_22 : aIns 237 22 = some (.if_icmp .ne 9, 3, 0, 0, .null) := by decide +kernel
theorem i_237_25 : aIns 237 25 = some (.iinc 2 (-1), 3, 0, 0, .null) := by decide +kernel
theorem i_237_28 : aIns 237 28 = some (.goto (-24), 3, 0, 0, .null) := by decide +kernel
theorem i_237_31 : aIns 237 31 = some (.iload_n 2, 1, 0, 0, .null) := by decide +kernel
theorem i_237_32 : aIns 237 32 = some (.ifCond .ge 5, 3, 0, 0, .null) := by decide +kernel
theorem i_237_35 : aIns 237 35 = some (.iconst 0, 1, 0, 0, .int (0)) := by decide +kernel
theorem i_237_36 : aIns 237 36 = some (.ireturn, 1, 1, 0, .null) := by decide +kernel
theorem i_237_37 : aIns 237 37 = some (.aload_n 0, 1, 0, 0, .null) := by decide +kernel
theorem i_237_38 : aIns 237 38 = some (.getfield 55, 3, 12, 31, .null) := by decide +kernel
theorem i_237_41 : aIns 237 41 = some (.iload_n 2, 1, 0, 0, .null) := by decide +kernel
theorem i_237_42 : aIns 237 42 = some (.dup2, 1, 0, 0, .null) := by decide +kernel
theorem i_237_43 : aIns 237 43 = some (.iaload, 1, 0, 0, .null) := by decide +kernel
theorem i_237_44 : aIns 237 44 = some (.iconst 1, 1, 0, 0, .int (1)) := by decide +kernel
theorem i_237_45 : aIns 237 45 = some (.iadd, 1, 0, 0, .null) := by decide +kernel
theorem i_237_46 : aIns 237 46 = some (.iastore, 1, 0, 0, .null) := by decide +kernel
theorem i_237_47 : aIns 237 47 = some (.iload_n 2, 1, 0, 0, .null) := by decide +kernel
theorem i_237_48 : aIns 237 48 = some (.iconst 1, 1, 0, 0, .int (1)) := by decide +kernel
theorem i_237_49 : aIns 237 49 = some (.iadd, 1, 0, 0, .null) := by decide +kernel
theorem i_237_50 : aIns 237 50 = some (.istore_n 3, 1, 0, 0, .null) := by decide +kernel
theorem i_237_51 : aIns 237 51 = some (.iload_n 3, 1, 0, 0, .null) := by decide +kernel
theorem i_237_52 : aIns 237 52 = some (.iload_n 1, 1, 0, 0, .null) := by decide +kernel
theorem i_237_53 : aIns 237 53 = some (.if_icmp .ge 21, 3, 0, 0, .null) := by decide +kernel
theorem i_237_56 : aIns 237 56 = some (.aload_n 0, 1, 0, 0, .null) := by decide +kernel
theorem i_237_57 : aIns 237 57 = some (.getfield 55, 3, 12, 31, .null) := by decide +kernel
theorem i_237_60 : aIns 237 60 = some (.iload_n 3, 1, 0, 0, .null) := by decide +kernel
theorem i_237_61 : aIns 237 61 = some (.aload_n 0, 1, 0, 0, .null) := by decide +kernel
theorem i_237_62 : aIns 237 62 = some (.getfield 55, 3, 12, 31, .null) := by decide +kernel
theorem i_237_65 : aIns 237 65 = some (.iload_n 2, 1, 0, 0, .null) := by decide +kernel
theorem i_237_66 : aIns 237 66 = some (.iaload, 1, 0, 0, .null) := by decide +kernel
theorem i_237_67 : aIns 237 67 = some (.iastore, 1, 0, 0, .null) := by decide +kernel
theorem i_237_68 : aIns 237 68 = some (.iinc 3 1, 3, 0, 0, .null) := by decide +kernel
theorem i_237_71 : aIns 237 71 = some (.goto (-20), 3, 0, 0, .null) := by decide +kernel
theorem i_237_74 : aIns 237 74 = some (.iconst 1, 1, 0, 0, .int (1)) := by decide +kernel
theorem i_237_75 : aIns 237 75 = some (.ireturn, 1, 1, 0, .null) := by decide +kernel
theorem i_238_0 : aIns 238 0 = some (.aload_n 0, 1, 0, 0, .null) := by decide +kernel
theorem i_238_1 : aIns 238 1 = some (.iconst (-1), 1, 0, 0, .int (-1)) := by decide +kernel
theorem i_238_2 : aIns 238 2 = some (.putfield 408, 3, 12, 29, .null) := by decide +kernel
theorem i_238_5 : aIns 238 5 = some (.aload_n 0, 1, 0, 0, .null) := by decide +kernel
theorem i_238_6 : aIns 238 6 = some (.iconst 0, 1, 0, 0, .int (0)) := by decide +kernel
theorem i_238_7 : aIns 238 7 = some (.iload_n 1, 1, 0, 0, .null) := by decide +kernel
theorem i_238_8 : aIns 238 8 = some (.invokevirtual 426, 3, 236, 2, .int 12) := by decide +kernel
theorem i_238_11 : aIns 238 11 = some (.iconst 1, 1, 0, 0, .int (1)) := by decide +kernel
theorem i_238_12 : aIns 238 12 = some (.istore_n 2, 1, 0, 0, .null) := by decide +kernel
theorem i_238_13 : aIns 238 13 = some (.iload_n 2, 1, 0, 0, .null) := by decide +kernel
theorem i_238_14 : aIns 238 14 = some (.iconst 3, 1, 0, 0, .int (3)) := by decide +kernel
theorem i_238_15 : aIns 238 15 = some (.if_icmp .gt 59, 3, 0, 0, .null) := by decide +kernel
theorem i_238_18 : aIns 238 18 = some (.aload_n 0, 1, 0, 0, .null) := by decide +kernel
theorem i_238_19 : aIns 238 19 = some (.getfield 39, 3, 12, 20, .null) := by decide +kernel
theorem i_238_22 : aIns 238 22 = some (.iconst 1, 1, 0, 0, .int (1)) := by decide +kernel
theorem i_238_23 : aIns 238 23 = some (.iaload, 1, 0, 0, .null) := by decide +kernel
theorem i_238_24 : aIns 238 24 = some (.ifCond .le 50, 3, 0, 0, .null) := by decide +kernel
theorem i_238_27 : aIns 238 27 = some (.iconst 0, 1, 0, 0, .int (0)) := by decide +kernel
theorem i_238_28 : aIns 238 28 = some (.istore_n 3, 1, 0, 0, .null) := by decide +kernel
theorem i_238_29 : aIns 238 29 = some (.iload_n 3, 1, 0, 0, .null) := by decide +kernel
theorem i_238_30 : aIns 238 30 = some (.iload_n 2, 1, 0, 0, .null) := by decide +kernel
theorem i_238_31 : aIns 238 31 = some (.if_icmp .ge 16, 3, 0, 0, .null) := by decide +kernel
theorem i_238_34 : aIns 238 34 = some (.aload_n 0, 1, 0, 0, .null) := by decide +kernel
theorem i_238_35 : aIns 238 35 = some (.getfield 55, 3, 12, 31, .null) := by decide +kernel
theorem i_238_38 : aIns 238 38 = some (.iload_n 3, 1, 0, 0, .null) := by decide +kernel
theorem i_238_39 : aIns 238 39 = some (.iconst 0, 1, 0, 0, .int (0)) := by decide +kernel
theorem i_238_40 : aIns 238 40 = some (.iastore, 1, 0, 0, .null) := by decide +kernel
theorem i_238_41 : aIns 238 41 = some (.iinc 3 1, 3, 0, 0, .null) := by decide +kernel
theorem i_238_44 : aIns 238 44 = some (.goto (-15), 3, 0, 0, .null) := by decide +kernel
theorem i_238_47 : aIns 238 47 = some (.iconst 1, 1, 0, 0, .int (1)) := by decide +kernel
theorem i_238_48 : aIns 238 48 = some (.istore_n 3, 1, 0, 0, .null) := by decide +kernel
theorem i_238_49 : aIns 238 49 = some (.iload_n 3, 1, 0, 0, .null) := by decide +kernel
theorem i_238_50 : aIns 238 50 = some (.ifCond .eq 18, 3, 0, 0, .null) := by decide +kernel
theorem i_238_53 : aIns 238 53 = some (.aload_n 0, 1, 0, 0, .null) := by decide +kernel
theorem i_238_54 : aIns 238 54 = some (.iload_n 2, 1, 0, 0, .null) := by decide +kernel
theorem i_238_55 : aIns 238 55 = some (.iload_n 1, 1, 0, 0, .null) := by decide +kernel
theorem i_238_56 : aIns 238 56 = some (.invokevirtual 426, 3, 236, 2, .int 12) := by decide +kernel
theorem i_238_59 : aIns 238 59 = some (.aload_n 0, 1, 0, 0, .null) := by decide +kernel
theorem i_238_60 : aIns 238 60 = some (.iload_n 2, 1, 0, 0, .null) := by decide +kernel
theorem i_238_61 : aIns 238 61 = some (.invokevirtual 429, 3, 237, 1, .int 12) := by decide +kernel
theorem i_238_64 : aIns 238 64 = some (.istore_n 3, 1, 0, 0, .null) := by decide +kernel
theorem i_238_65 : aIns 238 65 = some (.goto (-16), 3, 0, 0, .null) := by decide +kernel
theorem i_238_68 : aIns 238 68 = some (.iinc 2 1, 3, 0, 0, .null) := by decide +kernel
theorem i_238_71 : aIns 238 71 = some (.goto (-58), 3, 0, 0, .null) := by decide +kernel
theorem i_238_74 : aIns 238 74 = some (.return_, 1, 0, 0, .null) := by decide +kernel
theorem i_239_0 : aIns 239 0 = some (.aload_n 0, 1, 0, 0, .null) := by decide +kernel
theorem i_239_1 : aIns 239 1 = some (.invokevirtual 374, 3, 187, 0, .int 12) := by decide +kernel
theorem i_239_4 : aIns 239 4 = some (.ifCond .eq 15, 3, 0, 0, .null) := by decide +kernel
theorem i_239_7 : aIns 239 7 = some (.iload_n 1, 1, 0, 0, .null) := by decide +kernel
theorem i_239_8 : aIns 239 8 = some (.i2l, 1, 0, 0, .null) := by decide +kernel
theorem i_239_9 : aIns 239 9 = some (.lconst 0, 1, 0, 0, .long 0) := by decide +kernel
theorem i_239_10 : aIns 239 10 = some (.ldc2_w 432, 3, 0, 0, .long (3)) := by decide +kernel
theorem i_239_13 : aIns 239 13 = some (.invokestatic 124, 3, 140, 3, .null) := by decide +kernel
theorem i_239_16 : aIns 239 16 = some (.ifCond .ne 7, 3, 0, 0, .null) := by decide +kernel
theorem i_239_19 : aIns 239 19 = some (.ldc_w 434, 3, 0, 0, .int (-1000000)) := by decide +kernel
theorem i_239_22 : aIns 239 22 = some (.ireturn, 1, 0, 0, .null) := by decide +kernel
theorem i_239_23 : aIns 239 23 = some (.aload_n 0, 1, 0, 0, .null) := by decide +kernel
theorem i_239_24 : aIns 239 24 = some (.aload_n 0, 1, 0, 0, .null) := by decide +kernel
theorem i_239_25 : aIns 239 25 = some (.getfield 39, 3, 12, 20, .null) := by decide +kernel
theorem i_239_28 : aIns 239 28 = some (.iconst 5, 1, 0, 0, .int (5)) := by decide +kernel
theorem i_239_29 : aIns 239 29 = some (.iaload, 1, 0, 0, .null) := by decide +kernel
theorem i_239_30 : aIns 239 30 = some (.invokevirtual 435, 3, 238, 1, .int 12) := by decide +kernel
theorem i_239_33 : aIns 239 33 = some (.iload_n 1, 1, 0, 0, .null) := by decide +kernel
theorem i_239_34 : aIns 239 34 = some (.ifCond .ne 10, 3, 0, 0, .null) := by decide +kernel
theorem i_239_37 : aIns 239 37 = some (.aload_n 0, 1, 0, 0, .null) := by decide +kernel
theorem i_239_38 : aIns 239 38 = some (.getfield 411, 3, 12, 30, .null) := by decide +kernel
theorem i_239_41 : aIns 239 41 = some (.goto 24, 3, 0, 0, .null) := by decide +kernel
theorem i_239_44 : aIns 239 44 = some (.iload_n 1, 1, 0, 0, .null) := by decide +kernel
theorem i_239_45 : aIns 239 45 = some (.aload_n 0, 1, 0, 0, .null) := by decide +kernel
theorem i_239_46 : aIns 239 46 = some (.getfield 408, 3, 12, 29, .null) := by decide +kernel
theorem i_239_49 : aIns 239 49 = some (.if_icmp .gt 14, 3, 0, 0, .null) := by decide +kernel
theorem i_239_52 : aIns 239 52 = some (.aload_n 0, 1, 0, 0, .null) := by decide +kernel
theorem i_239_53 : aIns 239 53 = some (.getfield 52, 3, 12, 28, .null) := by decide +kernel
theorem i_239_56 : aIns 239 56 = some (.iload_n 1, 1, 0, 0, .null) := by decide +kernel
theorem i_239_57 : aIns 239 57 = some (.iconst 1, 1, 0, 0, .int (1)) := by decide +kernel
theorem i_239_58 : aIns 239 58 = some (.isub, 1, 0, 0, .null) := by decide +kernel
theorem i_239_59 : aIns 239 59 = some (.iaload, 1, 0, 0, .null) := by decide +kernel
theorem i_239_60 : aIns 239 60 = some (.goto 5, 3, 0, 0, .null) := by decide +kernel
theorem i_239_63 : aIns 239 63 = some (.bipush (-2), 2, 0, 0, .int (-2)) := by decide +kernel
theorem i_239_65 : aIns 239 65 = some (.ireturn, 1, 0, 0, .null) := by decide +kernel
theorem i_240_0 : aIns 240 0 = some (.aload_n 0, 1, 0, 0, .null) := by decide +kernel
theorem i_240_1 : aIns 240 1 = some (.getfield 39, 3, 12, 20, .null) := by decide +kernel
theorem i_240_4 : aIns 240 4 = some (.bipush 96, 2, 0, 0, .int (96)) := by decide +kernel
theorem i_240_6 : aIns 240 6 = some (.iconst 2, 1, 0, 0, .int (2)) := by decide +kernel
theorem i_240_7 : aIns 240 7 = some (.iload_n 1, 1, 0, 0, .null) := by decide +kernel
theorem i_240_8 : aIns 240 8 = some (.imul, 1, 0, 0, .null) := by decide +kernel
theorem i_240_9 : aIns 240 9 = some (.iadd, 1, 0, 0, .null) := by decide +kernel
theorem i_240_10 : aIns 240 10 = some (.iaload, 1, 0, 0, .null) := by decide +kernel
theorem i_240_11 : aIns 240 11 = some (.ireturn, 1, 0, 0, .null) := by decide +kernel
def l_225 (g n tag : Nat) (x1 : Int32) (x2 : Int32) (S : rS) : Option (Int32 × rS) := match n with
  | 0 => none
  | n + 1 => if tag = 0 then (if aIn (1 : Int32) 181 = true then (if ((S.2.1 20) (1 : Int32).toNatClampNeg) ≤ x2 then (l_225 g n 1 x1 (0 : Int32) S) else ((d_200 g x2 S).bind (fun z_3 => (if aIn ((56 : Int32) + x2) 181 = true then (l_225 g n 0 x1 (x2 + (1 : Int32)) (rA z_3.2 20 (upd (z_3.2.2.1 20) ((56 : Int32) + x2).toNatClampNeg z_3.1))) else none)))) else none) else if tag = 1 then (if aIn (1 : Int32) 181 = true then (if ((S.2.1 20) (1 : Int32).toNatClampNeg) ≤ x2 then (l_225 g n 2 x1 (0 : Int32) S) else ((d_226 g x2 S).bind (fun z_13 => (l_225 g n 1 x1 (x2 + (1 : Int32)) z_13)))) else none) else if tag = 2 then (if aIn (9 : Int32) 181 = true then (if ((S.2.1 20) (9 : Int32).toNatClampNeg) ≤ x2 then (if aIn (9 : Int32) 181 = true then (if aIn (79 : Int32) 181 = true then (if aIn (9 : Int32) 181 = true then (if aIn (8 : Int32) 181 = true then (if aIn (8 : Int32) 181 = true then (if aIn (11 : Int32) 181 = true then some (x1, (rA (rA (rA (rA S 20 (upd (S.2.1 20) (79 : Int32).toNatClampNeg ((S.2.1 20) (9 : Int32).toNatClampNeg))) 20 (upd (upd (S.2.1 20) (79 : Int32).toNatClampNeg ((S.2.1 20) (9 : Int32).toNatClampNeg)) (9 : Int32).toNatClampNeg (0 : Int32))) 20 (upd (upd (upd (S.2.1 20) (79 : Int32).toNatClampNeg ((S.2.1 20) (9 : Int32).toNatClampNeg)) (9 : Int32).toNatClampNeg (0 : Int32)) (8 : Int32).toNatClampNeg (((upd (upd (S.2.1 20) (79 : Int32).toNatClampNeg ((S.2.1 20) (9 : Int32).toNatClampNeg)) (9 : Int32).toNatClampNeg (0 : Int32)) (8 : Int32).toNatClampNeg) + x1))) 20 (upd (upd (upd (upd (S.2.1 20) (79 : Int32).toNatClampNeg ((S.2.1 20) (9 : Int32).toNatClampNeg)) (9 : Int32).toNatClampNeg (0 : Int32)) (8 : Int32).toNatClampNeg (((upd (upd (S.2.1 20) (79 : Int32).toNatClampNeg ((S.2.1 20) (9 : Int32).toNatClampNeg)) (9 : Int32).toNatClampNeg (0 : Int32)) (8 : Int32).toNatClampNeg) + x1)) (11 : Int32).toNatClampNeg x1))) else none) else none) else none) else none) else none) else none) else (if aIn ((64 : Int32) + x2) 181 = true then (if aIn ((74 : Int32) + x2) 181 = true then (if aIn ((64 : Int32) + x2) 181 = true then (if aIn ((69 : Int32) + ((upd (S.2.1 20) ((74 : Int32) + x2).toNatClampNeg ((S.2.1 20) ((64 : Int32) + x2).toNatClampNeg)) ((64 : Int32) + x2).toNatClampNeg)) 181 = true then (l_225 g n 2 x1 (x2 + (1 : Int32)) (rA (rA S 20 (upd (S.2.1 20) ((74 : Int32) + x2).toNatClampNeg ((S.2.1 20) ((64 : Int32) + x2).toNatClampNeg))) 20 (upd (upd (S.2.1 20) ((74 : Int32) + x2).toNatClampNeg ((S.2.1 20) ((64 : Int32) + x2).toNatClampNeg)) ((69 : Int32) + ((upd (S.2.1 20) ((74 : Int32) + x2).toNatClampNeg ((S.2.1 20) ((64 : Int32) + x2).toNatClampNeg)) ((64 : Int32) + x2).toNatClampNeg)).toNatClampNeg (1 : Int32)))) else none) else none) else none) else none)) else none) else none
set_option maxHeartbeats 4000000 in
set_option maxRecDepth 100000 in
theorem l_225_ok {X : aX} {g d : Nat} (hdp : 9 ≤ d) : ∀ n, (∀ (x1 : Int32) (x2 : Int32) (S : rS) (h0 : aH) (zz : Int32 × rS), rm h0 S → l_225 g n 0 x1 x2 S = some zz → aWp X d 225 33 [some (.ref 382), some (.int x1), some (.int x2)] [] h0 (fun w h' => w = some (.int zz.1) ∧ rTo h0 zz.2 h')) ∧ (∀ (x1 : Int32) (x2 : Int32) (S : rS) (h0 : aH) (zz : Int32 × rS), rm h0 S → l_225 g n 1 x1 x2 S = some zz → aWp X d 225 65 [some (.ref 382), some (.int x1), some (.int x2)] [] h0 (fun w h' => w = some (.int zz.1) ∧ rTo h0 zz.2 h')) ∧ (∀ (x1 : Int32) (x2 : Int32) (S : rS) (h0 : aH) (zz : Int32 × rS), rm h0 S → l_225 g n 2 x1 x2 S = some zz → aWp X d 225 88 [some (.ref 382), some (.int x1), some (.int x2)] [] h0 (fun w h' => w = some (.int zz.1) ∧ rTo h0 zz.2 h')) := by
  intro n
  induction n with
  | zero => exact ⟨fun _ _ _ _ _ _ hd => by simp [l_225] at hd, fun _ _ _ _ _ _ hd => by simp [l_225] at hd, fun _ _ _ _ _ _ hd => by simp [l_225] at hd⟩
  | succ n ih =>
    refine ⟨?_, ?_, ?_⟩
    · intro x1 x2 S h0 zz HS hd
      unfold l_225 at hd
      rw [if_pos rfl] at hd
      have HH := rTo.rf HS
      obtain ⟨e, rfl⟩ : ∃ e, d = e + 1 := ⟨d - 1, by omega⟩
      refine wp_s 34 [some (.ref 382), some (.int x1), some (.int x2)] [.int x2] h0 i_225_33 rfl ?_
      refine wp_s 35 [some (.ref 382), some (.int x1), some (.int x2)] [.ref 382, .int x2] h0 i_225_34 rfl ?_
      refine wp_get (v := .ref 392) 38 rfl i_225_35 (HH.1 0 (by decide)) rfl ?_
      refine wp_s 39 [some (.ref 382), some (.int x1), some (.int x2)] [.int (1 : Int32), .ref 392, .int x2] h0 i_225_38 rfl ?_
      obtain ⟨b_1, hd⟩ := dk_if hd
      refine wp_iald (f := (S.2.1 20)) 40 rfl i_225_39 (HH.1 10 (by decide)) b_1 ?_
      refine wp_cmp_ge 63 43 rfl rfl i_225_40 (fun c_2 => ?_) (fun c_2 => ?_)
      · rw [if_pos c_2] at hd
        refine wp_s 64 [some (.ref 382), some (.int x1), some (.int x2)] [.int (0 : Int32)] h0 i_225_63 rfl ?_
        refine wp_s 65 [some (.ref 382), some (.int x1), some (.int (0 : Int32))] [] h0 i_225_64 rfl ?_
        exact aWp.post (aWp.forget (ih.2.1 _ _ _ _ _ HH.1 hd) ((lvS (lvS (lvS lvE))))) (fun _ _ hq => ⟨hq.1, HH.tr hq.2⟩)
      · rw [if_neg c_2] at hd
        refine wp_s 44 [some (.ref 382), some (.int x1), some (.int x2)] [.ref 382] h0 i_225_43 rfl ?_
        refine wp_get (v := .ref 392) 47 rfl i_225_44 (HH.1 0 (by decide)) rfl ?_
        refine wp_s 49 [some (.ref 382), some (.int x1), some (.int x2)] [.int (56 : Int32), .ref 392] h0 i_225_47 rfl ?_
        refine wp_s 50 [some (.ref 382), some (.int x1), some (.int x2)] [.int x2, .int (56 : Int32), .ref 392] h0 i_225_49 rfl ?_
        refine wp_s 51 [some (.ref 382), some (.int x1), some (.int x2)] [.int ((56 : Int32) + x2), .ref 392] h0 i_225_50 rfl ?_
        refine wp_s 52 [some (.ref 382), some (.int x1), some (.int x2)] [.ref 382, .int ((56 : Int32) + x2), .ref 392] h0 i_225_51 rfl ?_
        refine wp_s 53 [some (.ref 382), some (.int x1), some (.int x2)] [.int x2, .ref 382, .int ((56 : Int32) + x2), .ref 392] h0 i_225_52 rfl ?_
        obtain ⟨z_3, q_4, hd⟩ := dk_bind hd
        refine wp_callV 56 rfl i_225_53 (by decide) rfl (vs := [.int x2]) (rest := [.int ((56 : Int32) + x2), .ref 392]) rfl rfl rfl (HH.1 0 (by decide)) (y := m_200) rfl (Nat.le_of_ble_eq_true rfl) (d_200_ok (d := e) (by omega) HH.1 q_4) ?_
        rintro v_7 h_5 ⟨rfl, H_6⟩
        have H_6 := HH.tr H_6
        obtain ⟨b_8, hd⟩ := dk_if hd
        refine rq_A20 57 rfl i_225_56 H_6 b_8 (fun h_9 H_10 => ?_)
        refine wp_s 60 [some (.ref 382), some (.int x1), some (.int (x2 + (1 : Int32)))] [] h_9 i_225_57 rfl ?_
        refine wp_s 33 [some (.ref 382), some (.int x1), some (.int (x2 + (1 : Int32)))] [] h_9 i_225_60 rfl ?_
        exact aWp.post (aWp.forget (ih.1 _ _ _ _ _ H_10.1 hd) ((lvS (lvS (lvS lvE))))) (fun _ _ hq => ⟨hq.1, H_10.tr hq.2⟩)
    · intro x1 x2 S h0 zz HS hd
      unfold l_225 at hd
      rw [if_neg (by decide), if_pos rfl] at hd
      have HH := rTo.rf HS
      obtain ⟨e, rfl⟩ : ∃ e, d = e + 1 := ⟨d - 1, by omega⟩
      refine wp_s 66 [some (.ref 382), some (.int x1), some (.int x2)] [.int x2] h0 i_225_65 rfl ?_
      refine wp_s 67 [some (.ref 382), some (.int x1), some (.int x2)] [.ref 382, .int x2] h0 i_225_66 rfl ?_
      refine wp_get (v := .ref 392) 70 rfl i_225_67 (HH.1 0 (by decide)) rfl ?_
      refine wp_s 71 [some (.ref 382), some (.int x1), some (.int x2)] [.int (1 : Int32), .ref 392, .int x2] h0 i_225_70 rfl ?_
      obtain ⟨b_11, hd⟩ := dk_if hd
      refine wp_iald (f := (S.2.1 20)) 72 rfl i_225_71 (HH.1 10 (by decide)) b_11 ?_
      refine wp_cmp_ge 86 75 rfl rfl i_225_72 (fun c_12 => ?_) (fun c_12 => ?_)
      · rw [if_pos c_12] at hd
        refine wp_s 87 [some (.ref 382), some (.int x1), some (.int x2)] [.int (0 : Int32)] h0 i_225_86 rfl ?_
        refine wp_s 88 [some (.ref 382), some (.int x1), some (.int (0 : Int32))] [] h0 i_225_87 rfl ?_
        exact aWp.post (aWp.forget (ih.2.2 _ _ _ _ _ HH.1 hd) ((lvS (lvS (lvS lvE))))) (fun _ _ hq => ⟨hq.1, HH.tr hq.2⟩)
      · rw [if_neg c_12] at hd
        refine wp_s 76 [some (.ref 382), some (.int x1), some (.int x2)] [.ref 382] h0 i_225_75 rfl ?_
        refine wp_s 77 [some (.ref 382), some (.int x1), some (.int x2)] [.int x2, .ref 382] h0 i_225_76 rfl ?_
        obtain ⟨z_13, q_14, hd⟩ := dk_bind hd
        refine wp_callV 80 rfl i_225_77 (by decide) rfl (vs := [.int x2]) (rest := []) rfl rfl rfl (HH.1 0 (by decide)) (y := m_226) rfl (Nat.le_of_ble_eq_true rfl) (d_226_ok (d := e) (by omega) HH.1 q_14) ?_
        rintro v_17 h_15 ⟨rfl, H_16⟩
        have H_16 := HH.tr H_16
        refine wp_s 83 [some (.ref 382), some (.int x1), some (.int (x2 + (1 : Int32)))] [] h_15 i_225_80 rfl ?_
        refine wp_s 65 [some (.ref 382), some (.int x1), some (.int (x2 + (1 : Int32)))] [] h_15 i_225_83 rfl ?_
        exact aWp.post (aWp.forget (ih.2.1 _ _ _ _ _ H_16.1 hd) ((lvS (lvS (lvS lvE))))) (fun _ _ hq => ⟨hq.1, H_16.tr hq.2⟩)
    · intro x1 x2 S h0 zz HS hd
      unfold l_225 at hd
      rw [if_neg (by decide), if_neg (by decide), if_pos rfl] at hd
      have HH := rTo.rf HS
      obtain ⟨e, rfl⟩ : ∃ e, d = e + 1 := ⟨d - 1, by omega⟩
      refine wp_s 89 [some (.ref 382), some (.int x1), some (.int x2)] [.int x2] h0 i_225_88 rfl ?_
      refine wp_s 90 [some (.ref 382), some (.int x1), some (.int x2)] [.ref 382, .int x2] h0 i_225_89 rfl ?_
      refine wp_get (v := .ref 392) 93 rfl i_225_90 (HH.1 0 (by decide)) rfl ?_
      refine wp_s 95 [some (.ref 382), some (.int x1), some (.int x2)] [.int (9 : Int32), .ref 392, .int x2] h0 i_225_93 rfl ?_
      obtain ⟨b_18, hd⟩ := dk_if hd
      refine wp_iald (f := (S.2.1 20)) 96 rfl i_225_95 (HH.1 10 (by decide)) b_18 ?_
      refine wp_cmp_ge 141 99 rfl rfl i_225_96 (fun c_19 => ?_) (fun c_19 => ?_)
      · rw [if_pos c_19] at hd
        refine wp_s 142 [some (.ref 382), some (.int x1), some (.int x2)] [.ref 382] h0 i_225_141 rfl ?_
        refine wp_get (v := .ref 392) 145 rfl i_225_142 (HH.1 0 (by decide)) rfl ?_
        refine wp_s 147 [some (.ref 382), some (.int x1), some (.int x2)] [.int (79 : Int32), .ref 392] h0 i_225_145 rfl ?_
        refine wp_s 148 [some (.ref 382), some (.int x1), some (.int x2)] [.ref 382, .int (79 : Int32), .ref 392] h0 i_225_147 rfl ?_
        refine wp_get (v := .ref 392) 151 rfl i_225_148 (HH.1 0 (by decide)) rfl ?_
        refine wp_s 153 [some (.ref 382), some (.int x1), some (.int x2)] [.int (9 : Int32), .ref 392, .int (79 : Int32), .ref 392] h0 i_225_151 rfl ?_
        obtain ⟨b_20, hd⟩ := dk_if hd
        refine wp_iald (f := (S.2.1 20)) 154 rfl i_225_153 (HH.1 10 (by decide)) b_20 ?_
        obtain ⟨b_21, hd⟩ := dk_if hd
        refine rq_A20 155 rfl i_225_154 HH b_21 (fun h_22 H_23 => ?_)
        refine wp_s 156 [some (.ref 382), some (.int x1), some (.int x2)] [.ref 382] h_22 i_225_155 rfl ?_
        refine wp_get (v := .ref 392) 159 rfl i_225_156 (H_23.1 0 (by decide)) rfl ?_
        refine wp_s 161 [some (.ref 382), some (.int x1), some (.int x2)] [.int (9 : Int32), .ref 392] h_22 i_225_159 rfl ?_
        refine wp_s 162 [some (.ref 382), some (.int x1), some (.int x2)] [.int (0 : Int32), .int (9 : Int32), .ref 392] h_22 i_225_161 rfl ?_
        obtain ⟨b_24, hd⟩ := dk_if hd
        refine rq_A20 163 rfl i_225_162 H_23 b_24 (fun h_25 H_26 => ?_)
        refine wp_s 164 [some (.ref 382), some (.int x1), some (.int x2)] [.ref 382] h_25 i_225_163 rfl ?_
        refine wp_get (v := .ref 392) 167 rfl i_225_164 (H_26.1 0 (by decide)) rfl ?_
        refine wp_s 169 [some (.ref 382), some (.int x1), some (.int x2)] [.int (8 : Int32), .ref 392] h_25 i_225_167 rfl ?_
        refine wp_s 170 [some (.ref 382), some (.int x1), some (.int x2)] [.int (8 : Int32), .ref 392, .int (8 : Int32), .ref 392] h_25 i_225_169 rfl ?_
        obtain ⟨b_27, hd⟩ := dk_if hd
        refine wp_iald (f := (upd (upd (S.2.1 20) (79 : Int32).toNatClampNeg ((S.2.1 20) (9 : Int32).toNatClampNeg)) (9 : Int32).toNatClampNeg (0 : Int32))) 171 rfl i_225_170 (H_26.1 10 (by decide)) b_27 ?_
        refine wp_s 172 [some (.ref 382), some (.int x1), some (.int x2)] [.int x1, .int ((upd (upd (S.2.1 20) (79 : Int32).toNatClampNeg ((S.2.1 20) (9 : Int32).toNatClampNeg)) (9 : Int32).toNatClampNeg (0 : Int32)) (8 : Int32).toNatClampNeg), .int (8 : Int32), .ref 392] h_25 i_225_171 rfl ?_
        refine wp_s 173 [some (.ref 382), some (.int x1), some (.int x2)] [.int (((upd (upd (S.2.1 20) (79 : Int32).toNatClampNeg ((S.2.1 20) (9 : Int32).toNatClampNeg)) (9 : Int32).toNatClampNeg (0 : Int32)) (8 : Int32).toNatClampNeg) + x1), .int (8 : Int32), .ref 392] h_25 i_225_172 rfl ?_
        obtain ⟨b_28, hd⟩ := dk_if hd
        refine rq_A20 174 rfl i_225_173 H_26 b_28 (fun h_29 H_30 => ?_)
        refine wp_s 175 [some (.ref 382), some (.int x1), some (.int x2)] [.ref 382] h_29 i_225_174 rfl ?_
        refine wp_get (v := .ref 392) 178 rfl i_225_175 (H_30.1 0 (by decide)) rfl ?_
        refine wp_s 180 [some (.ref 382), some (.int x1), some (.int x2)] [.int (11 : Int32), .ref 392] h_29 i_225_178 rfl ?_
        refine wp_s 181 [some (.ref 382), some (.int x1), some (.int x2)] [.int x1, .int (11 : Int32), .ref 392] h_29 i_225_180 rfl ?_
        obtain ⟨b_31, hd⟩ := dk_if hd
        refine rq_A20 182 rfl i_225_181 H_30 b_31 (fun h_32 H_33 => ?_)
        refine wp_s 183 [some (.ref 382), some (.int x1), some (.int x2)] [.int x1] h_32 i_225_182 rfl ?_
        obtain rfl := Option.some.inj hd
        exact wp_iret i_225_183 ⟨rfl, H_33⟩
      · rw [if_neg c_19] at hd
        refine wp_s 100 [some (.ref 382), some (.int x1), some (.int x2)] [.ref 382] h0 i_225_99 rfl ?_
        refine wp_get (v := .ref 392) 103 rfl i_225_100 (HH.1 0 (by decide)) rfl ?_
        refine wp_s 105 [some (.ref 382), some (.int x1), some (.int x2)] [.int (74 : Int32), .ref 392] h0 i_225_103 rfl ?_
        refine wp_s 106 [some (.ref 382), some (.int x1), some (.int x2)] [.int x2, .int (74 : Int32), .ref 392] h0 i_225_105 rfl ?_
        refine wp_s 107 [some (.ref 382), some (.int x1), some (.int x2)] [.int ((74 : Int32) + x2), .ref 392] h0 i_225_106 rfl ?_
        refine wp_s 108 [some (.ref 382), some (.int x1), some (.int x2)] [.ref 382, .int ((74 : Int32) + x2), .ref 392] h0 i_225_107 rfl ?_
        refine wp_get (v := .ref 392) 111 rfl i_225_108 (HH.1 0 (by decide)) rfl ?_
        refine wp_s 113 [some (.ref 382), some (.int x1), some (.int x2)] [.int (64 : Int32), .ref 392, .int ((74 : Int32) + x2), .ref 392] h0 i_225_111 rfl ?_
        refine wp_s 114 [some (.ref 382), some (.int x1), some (.int x2)] [.int x2, .int (64 : Int32), .ref 392, .int ((74 : Int32) + x2), .ref 392] h0 i_225_113 rfl ?_
        refine wp_s 115 [some (.ref 382), some (.int x1), some (.int x2)] [.int ((64 : Int32) + x2), .ref 392, .int ((74 : Int32) + x2), .ref 392] h0 i_225_114 rfl ?_
        obtain ⟨b_34, hd⟩ := dk_if hd
        refine wp_iald (f := (S.2.1 20)) 116 rfl i_225_115 (HH.1 10 (by decide)) b_34 ?_
        obtain ⟨b_35, hd⟩ := dk_if hd
        refine rq_A20 117 rfl i_225_116 HH b_35 (fun h_36 H_37 => ?_)
        refine wp_s 118 [some (.ref 382), some (.int x1), some (.int x2)] [.ref 382] h_36 i_225_117 rfl ?_
        refine wp_get (v := .ref 392) 121 rfl i_225_118 (H_37.1 0 (by decide)) rfl ?_
        refine wp_s 123 [some (.ref 382), some (.int x1), some (.int x2)] [.int (69 : Int32), .ref 392] h_36 i_225_121 rfl ?_
        refine wp_s 124 [some (.ref 382), some (.int x1), some (.int x2)] [.ref 382, .int (69 : Int32), .ref 392] h_36 i_225_123 rfl ?_
        refine wp_get (v := .ref 392) 127 rfl i_225_124 (H_37.1 0 (by decide)) rfl ?_
        refine wp_s 129 [some (.ref 382), some (.int x1), some (.int x2)] [.int (64 : Int32), .ref 392, .int (69 : Int32), .ref 392] h_36 i_225_127 rfl ?_
        refine wp_s 130 [some (.ref 382), some (.int x1), some (.int x2)] [.int x2, .int (64 : Int32), .ref 392, .int (69 : Int32), .ref 392] h_36 i_225_129 rfl ?_
        refine wp_s 131 [some (.ref 382), some (.int x1), some (.int x2)] [.int ((64 : Int32) + x2), .ref 392, .int (69 : Int32), .ref 392] h_36 i_225_130 rfl ?_
        obtain ⟨b_38, hd⟩ := dk_if hd
        refine wp_iald (f := (upd (S.2.1 20) ((74 : Int32) + x2).toNatClampNeg ((S.2.1 20) ((64 : Int32) + x2).toNatClampNeg))) 132 rfl i_225_131 (H_37.1 10 (by decide)) b_38 ?_
        refine wp_s 133 [some (.ref 382), some (.int x1), some (.int x2)] [.int ((69 : Int32) + ((upd (S.2.1 20) ((74 : Int32) + x2).toNatClampNeg ((S.2.1 20) ((64 : Int32) + x2).toNatClampNeg)) ((64 : Int32) + x2).toNatClampNeg)), .ref 392] h_36 i_225_132 rfl ?_
        refine wp_s 134 [some (.ref 382), some (.int x1), some (.int x2)] [.int (1 : Int32), .int ((69 : Int32) + ((upd (S.2.1 20) ((74 : Int32) + x2).toNatClampNeg ((S.2.1 20) ((64 : Int32) + x2).toNatClampNeg)) ((64 : Int32) + x2).toNatClampNeg)), .ref 392] h_36 i_225_133 rfl ?_
        obtain ⟨b_39, hd⟩ := dk_if hd
        refine rq_A20 135 rfl i_225_134 H_37 b_39 (fun h_40 H_41 => ?_)
        refine wp_s 138 [some (.ref 382), some (.int x1), some (.int (x2 + (1 : Int32)))] [] h_40 i_225_135 rfl ?_
        refine wp_s 88 [some (.ref 382), some (.int x1), some (.int (x2 + (1 : Int32)))] [] h_40 i_225_138 rfl ?_
        exact aWp.post (aWp.forget (ih.2.2 _ _ _ _ _ H_41.1 hd) ((lvS (lvS (lvS lvE))))) (fun _ _ hq => ⟨hq.1, H_41.tr hq.2⟩)
def d_225 (g : Nat)  (S : rS) : Option (Int32 × rS) := ((d_187 g  S).bind (fun z_1001 => (if z_1001.1 = 0 then some ((-1 : Int32), z_1001.2) else ((d_209 g  z_1001.2).bind (fun z_1007 => (if ¬ z_1007.1 = 0 then ((d_214 g  z_1007.2).bind (fun z_1013 => (if aIn (5 : Int32) 181 = true then ((d_212 g ((z_1013.2.1 20) (5 : Int32).toNatClampNeg) z_1013).bind (fun z_1019 => (l_225 g g 0 z_1019.1 (0 : Int32) z_1019.2))) else none))) else some ((-1 : Int32), z_1007.2)))))))
set_option maxHeartbeats 4000000 in
set_option maxRecDepth 100000 in
theorem d_225_ok {X : aX} {g d : Nat}  {S : rS} {h0 : aH} {zz : Int32 × rS} (hdp : 9 ≤ d) (HS : rm h0 S) (hd : d_225 g  S = some zz) : aWp X d 225 0 (aEntL [.ref 382] 3) [] h0 (fun w h' => w = some (.int zz.1) ∧ rTo h0 zz.2 h') := by
  unfold d_225 at hd
  have HH := rTo.rf HS
  refine wp_lv (l2 := [some (.ref 382), none, none]) rfl ?_
  obtain ⟨e, rfl⟩ : ∃ e, d = e + 1 := ⟨d - 1, by omega⟩
  refine wp_s 1 [some (.ref 382), none, none] [.ref 382] h0 i_225_0 rfl ?_
  obtain ⟨z_1001, q_1002, hd⟩ := dk_bind hd
  refine wp_callV 4 rfl i_225_1 (by decide) rfl (vs := []) (rest := []) rfl rfl rfl (HH.1 0 (by decide)) (y := m_187) rfl (Nat.le_of_ble_eq_true rfl) (d_187_ok (d := e) (by omega) HH.1 q_1002) ?_
  rintro v_1005 h_1003 ⟨rfl, H_1004⟩
  have H_1004 := HH.tr H_1004
  refine wp_if_eq 14 7 rfl rfl i_225_4 (fun c_1006 => ?_) (fun c_1006 => ?_)
  · rw [if_pos c_1006] at hd
    refine wp_s 15 [some (.ref 382), none, none] [.int (-1 : Int32)] h_1003 i_225_14 rfl ?_
    obtain rfl := Option.some.inj hd
    exact wp_iret i_225_15 ⟨rfl, H_1004⟩
  · rw [if_neg c_1006] at hd
    refine wp_s 8 [some (.ref 382), none, none] [.ref 382] h_1003 i_225_7 rfl ?_
    obtain ⟨z_1007, q_1008, hd⟩ := dk_bind hd
    refine wp_callV 11 rfl i_225_8 (by decide) rfl (vs := []) (rest := []) rfl rfl rfl (H_1004.1 0 (by decide)) (y := m_209) rfl (Nat.le_of_ble_eq_true rfl) (d_209_ok (d := e) (by omega) H_1004.1 q_1008) ?_
    rintro v_1011 h_1009 ⟨rfl, H_1010⟩
    have H_1010 := H_1004.tr H_1010
    refine wp_if_ne 16 14 rfl rfl i_225_11 (fun c_1012 => ?_) (fun c_1012 => ?_)
    · rw [if_pos c_1012] at hd
      refine wp_s 17 [some (.ref 382), none, none] [.ref 382] h_1009 i_225_16 rfl ?_
      obtain ⟨z_1013, q_1014, hd⟩ := dk_bind hd
      refine wp_callV 20 rfl i_225_17 (by decide) rfl (vs := []) (rest := []) rfl rfl rfl (H_1010.1 0 (by decide)) (y := m_214) rfl (Nat.le_of_ble_eq_true rfl) (d_214_ok (d := e) (by omega) H_1010.1 q_1014) ?_
      rintro v_1017 h_1015 ⟨rfl, H_1016⟩
      have H_1016 := H_1010.tr H_1016
      refine wp_s 21 [some (.ref 382), none, none] [.ref 382] h_1015 i_225_20 rfl ?_
      refine wp_s 22 [some (.ref 382), none, none] [.ref 382, .ref 382] h_1015 i_225_21 rfl ?_
      refine wp_get (v := .ref 392) 25 rfl i_225_22 (H_1016.1 0 (by decide)) rfl ?_
      refine wp_s 26 [some (.ref 382), none, none] [.int (5 : Int32), .ref 392, .ref 382] h_1015 i_225_25 rfl ?_
      obtain ⟨b_1018, hd⟩ := dk_if hd
      refine wp_iald (f := (z_1013.2.1 20)) 27 rfl i_225_26 (H_1016.1 10 (by decide)) b_1018 ?_
      obtain ⟨z_1019, q_1020, hd⟩ := dk_bind hd
      refine wp_callV 30 rfl i_225_27 (by decide) rfl (vs := [.int ((z_1013.2.1 20) (5 : Int32).toNatClampNeg)]) (rest := []) rfl rfl rfl (H_1016.1 0 (by decide)) (y := m_212) rfl (Nat.le_of_ble_eq_true rfl) (d_212_ok (d := e) (by omega) H_1016.1 q_1020) ?_
      rintro v_1023 h_1021 ⟨rfl, H_1022⟩
      have H_1022 := H_1016.tr H_1022
      refine wp_s 31 [some (.ref 382), some (.int z_1019.1), none] [] h_1021 i_225_30 rfl ?_
      refine wp_s 32 [some (.ref 382), some (.int z_1019.1), none] [.int (0 : Int32)] h_1021 i_225_31 rfl ?_
      refine wp_s 33 [some (.ref 382), some (.int z_1019.1), some (.int (0 : Int32))] [] h_1021 i_225_32 rfl ?_
      exact aWp.post (aWp.forget ((l_225_ok hdp g).1 _ _ _ _ _ H_1022.1 hd) ((lvS (lvS (lvS lvE))))) (fun _ _ hq => ⟨hq.1, H_1022.tr hq.2⟩)
    · rw [if_neg c_1012] at hd
      refine wp_s 15 [some (.ref 382), none, none] [.int (-1 : Int32)] h_1009 i_225_14 rfl ?_
      obtain rfl := Option.some.inj hd
      exact wp_iret i_225_15 ⟨rfl, H_1010⟩
def l_227 (g n tag : Nat) (x1 : Int32) (x2 : Int32) (x3 : Int32) (S : rS) : Option (Int32 × rS) := match n with
  | 0 => none
  | n + 1 => if tag = 0 then (if aIn (1 : Int32) 181 = true then (if ((S.2.1 20) (1 : Int32).toNatClampNeg) ≤ x3 then (if ¬ x1 = 0 then (if aIn (79 : Int32) 181 = true then ((d_206 g (74 : Int32) ((S.2.1 20) (79 : Int32).toNatClampNeg) S).bind (fun z_5 => (if aIn (5 : Int32) 181 = true then ((d_207 g x2 ((z_5.2.1 20) (5 : Int32).toNatClampNeg) z_5).bind (fun z_11 => some (z_11.1, z_11.2))) else none))) else none) else some ((0 : Int32), S)) else ((d_191 g x3 (4 : Int32) S).bind (fun z_16 => ((d_191 g x3 (4 : Int32) z_16.2).bind (fun z_21 => (if aIn ((56 : Int32) + x3) 181 = true then (l_227 g n 0 (x1 + z_16.1) (x2 + (z_21.1 * ((z_21.2.2.1 20) ((56 : Int32) + x3).toNatClampNeg))) (x3 + (1 : Int32)) z_21.2) else none)))))) else none) else none
set_option maxHeartbeats 4000000 in
set_option maxRecDepth 100000 in
theorem l_227_ok {X : aX} {g d : Nat} (hdp : 2 ≤ d) : ∀ n, (∀ (x1 : Int32) (x2 : Int32) (x3 : Int32) (S : rS) (h0 : aH) (zz : Int32 × rS), rm h0 S → l_227 g n 0 x1 x2 x3 S = some zz → aWp X d 227 6 [some (.ref 382), some (.int x1), some (.int x2), some (.int x3)] [] h0 (fun w h' => w = some (.int zz.1) ∧ rTo h0 zz.2 h')) := by
  intro n
  induction n with
  | zero => exact fun _ _ _ _ _ _ _ hd => by simp [l_227] at hd
  | succ n ih =>
    intro x1 x2 x3 S h0 zz HS hd
    unfold l_227 at hd
    rw [if_pos rfl] at hd
    have HH := rTo.rf HS
    obtain ⟨e, rfl⟩ : ∃ e, d = e + 1 := ⟨d - 1, by omega⟩
    refine wp_s 7 [some (.ref 382), some (.int x1), some (.int x2), some (.int x3)] [.int x3] h0 i_227_6 rfl ?_
    refine wp_s 8 [some (.ref 382), some (.int x1), some (.int x2), some (.int x3)] [.ref 382, .int x3] h0 i_227_7 rfl ?_
    refine wp_get (v := .ref 392) 11 rfl i_227_8 (HH.1 0 (by decide)) rfl ?_
    refine wp_s 12 [some (.ref 382), some (.int x1), some (.int x2), some (.int x3)] [.int (1 : Int32), .ref 392, .int x3] h0 i_227_11 rfl ?_
    obtain ⟨b_1, hd⟩ := dk_if hd
    refine wp_iald (f := (S.2.1 20)) 13 rfl i_227_12 (HH.1 10 (by decide)) b_1 ?_
    refine wp_cmp_ge 50 16 rfl rfl i_227_13 (fun c_2 => ?_) (fun c_2 => ?_)
    · rw [if_pos c_2] at hd
      refine wp_s 51 [some (.ref 382), some (.int x1), some (.int x2), some (.int x3)] [.int x1] h0 i_227_50 rfl ?_
      refine wp_if_ne 56 54 rfl rfl i_227_51 (fun c_3 => ?_) (fun c_3 => ?_)
      · rw [if_pos c_3] at hd
        refine wp_s 57 [some (.ref 382), some (.int x1), some (.int x2), some (.int x3)] [.ref 382] h0 i_227_56 rfl ?_
        refine wp_s 59 [some (.ref 382), some (.int x1), some (.int x2), some (.int x3)] [.int (74 : Int32), .ref 382] h0 i_227_57 rfl ?_
        refine wp_s 60 [some (.ref 382), some (.int x1), some (.int x2), some (.int x3)] [.ref 382, .int (74 : Int32), .ref 382] h0 i_227_59 rfl ?_
        refine wp_get (v := .ref 392) 63 rfl i_227_60 (HH.1 0 (by decide)) rfl ?_
        refine wp_s 65 [some (.ref 382), some (.int x1), some (.int x2), some (.int x3)] [.int (79 : Int32), .ref 392, .int (74 : Int32), .ref 382] h0 i_227_63 rfl ?_
        obtain ⟨b_4, hd⟩ := dk_if hd
        refine wp_iald (f := (S.2.1 20)) 66 rfl i_227_65 (HH.1 10 (by decide)) b_4 ?_
        obtain ⟨z_5, q_6, hd⟩ := dk_bind hd
        refine wp_callV 69 rfl i_227_66 (by decide) rfl (vs := [.int (74 : Int32), .int ((S.2.1 20) (79 : Int32).toNatClampNeg)]) (rest := []) rfl rfl rfl (HH.1 0 (by decide)) (y := m_206) rfl (Nat.le_of_ble_eq_true rfl) (d_206_ok (d := e) (by omega) HH.1 q_6) ?_
        rintro v_9 h_7 ⟨rfl, H_8⟩
        have H_8 := HH.tr H_8
        refine wp_s 70 [some (.ref 382), some (.int x1), some (.int x2), some (.int x3)] [.ref 382] h_7 i_227_69 rfl ?_
        refine wp_s 71 [some (.ref 382), some (.int x1), some (.int x2), some (.int x3)] [.int x2, .ref 382] h_7 i_227_70 rfl ?_
        refine wp_s 72 [some (.ref 382), some (.int x1), some (.int x2), some (.int x3)] [.ref 382, .int x2, .ref 382] h_7 i_227_71 rfl ?_
        refine wp_get (v := .ref 392) 75 rfl i_227_72 (H_8.1 0 (by decide)) rfl ?_
        refine wp_s 76 [some (.ref 382), some (.int x1), some (.int x2), some (.int x3)] [.int (5 : Int32), .ref 392, .int x2, .ref 382] h_7 i_227_75 rfl ?_
        obtain ⟨b_10, hd⟩ := dk_if hd
        refine wp_iald (f := (z_5.2.1 20)) 77 rfl i_227_76 (H_8.1 10 (by decide)) b_10 ?_
        obtain ⟨z_11, q_12, hd⟩ := dk_bind hd
        refine wp_callV 80 rfl i_227_77 (by decide) rfl (vs := [.int x2, .int ((z_5.2.1 20) (5 : Int32).toNatClampNeg)]) (rest := []) rfl rfl rfl (H_8.1 0 (by decide)) (y := m_207) rfl (Nat.le_of_ble_eq_true rfl) (d_207_ok (d := e) (by omega) H_8.1 q_12) ?_
        rintro v_15 h_13 ⟨rfl, H_14⟩
        have H_14 := H_8.tr H_14
        obtain rfl := Option.some.inj hd
        exact wp_iret i_227_80 ⟨rfl, H_14⟩
      · rw [if_neg c_3] at hd
        refine wp_s 55 [some (.ref 382), some (.int x1), some (.int x2), some (.int x3)] [.int (0 : Int32)] h0 i_227_54 rfl ?_
        obtain rfl := Option.some.inj hd
        exact wp_iret i_227_55 ⟨rfl, HH⟩
    · rw [if_neg c_2] at hd
      refine wp_s 17 [some (.ref 382), some (.int x1), some (.int x2), some (.int x3)] [.int x1] h0 i_227_16 rfl ?_
      refine wp_s 18 [some (.ref 382), some (.int x1), some (.int x2), some (.int x3)] [.ref 382, .int x1] h0 i_227_17 rfl ?_
      refine wp_s 19 [some (.ref 382), some (.int x1), some (.int x2), some (.int x3)] [.int x3, .ref 382, .int x1] h0 i_227_18 rfl ?_
      refine wp_s 20 [some (.ref 382), some (.int x1), some (.int x2), some (.int x3)] [.int (4 : Int32), .int x3, .ref 382, .int x1] h0 i_227_19 rfl ?_
      obtain ⟨z_16, q_17, hd⟩ := dk_bind hd
      refine wp_callV 23 rfl i_227_20 (by decide) rfl (vs := [.int x3, .int (4 : Int32)]) (rest := [.int x1]) rfl rfl rfl (HH.1 0 (by decide)) (y := m_191) rfl (Nat.le_of_ble_eq_true rfl) (d_191_ok (d := e) (by omega) HH.1 q_17) ?_
      rintro v_20 h_18 ⟨rfl, H_19⟩
      have H_19 := HH.tr H_19
      refine wp_s 24 [some (.ref 382), some (.int x1), some (.int x2), some (.int x3)] [.int (x1 + z_16.1)] h_18 i_227_23 rfl ?_
      refine wp_s 25 [some (.ref 382), some (.int (x1 + z_16.1)), some (.int x2), some (.int x3)] [] h_18 i_227_24 rfl ?_
      refine wp_s 26 [some (.ref 382), some (.int (x1 + z_16.1)), some (.int x2), some (.int x3)] [.int x2] h_18 i_227_25 rfl ?_
      refine wp_s 27 [some (.ref 382), some (.int (x1 + z_16.1)), some (.int x2), some (.int x3)] [.ref 382, .int x2] h_18 i_227_26 rfl ?_
      refine wp_s 28 [some (.ref 382), some (.int (x1 + z_16.1)), some (.int x2), some (.int x3)] [.int x3, .ref 382, .int x2] h_18 i_227_27 rfl ?_
      refine wp_s 29 [some (.ref 382), some (.int (x1 + z_16.1)), some (.int x2), some (.int x3)] [.int (4 : Int32), .int x3, .ref 382, .int x2] h_18 i_227_28 rfl ?_
      obtain ⟨z_21, q_22, hd⟩ := dk_bind hd
      refine wp_callV 32 rfl i_227_29 (by decide) rfl (vs := [.int x3, .int (4 : Int32)]) (rest := [.int x2]) rfl rfl rfl (H_19.1 0 (by decide)) (y := m_191) rfl (Nat.le_of_ble_eq_true rfl) (d_191_ok (d := e) (by omega) H_19.1 q_22) ?_
      rintro v_25 h_23 ⟨rfl, H_24⟩
      have H_24 := H_19.tr H_24
      refine wp_s 33 [some (.ref 382), some (.int (x1 + z_16.1)), some (.int x2), some (.int x3)] [.ref 382, .int z_21.1, .int x2] h_23 i_227_32 rfl ?_
      refine wp_get (v := .ref 392) 36 rfl i_227_33 (H_24.1 0 (by decide)) rfl ?_
      refine wp_s 38 [some (.ref 382), some (.int (x1 + z_16.1)), some (.int x2), some (.int x3)] [.int (56 : Int32), .ref 392, .int z_21.1, .int x2] h_23 i_227_36 rfl ?_
      refine wp_s 39 [some (.ref 382), some (.int (x1 + z_16.1)), some (.int x2), some (.int x3)] [.int x3, .int (56 : Int32), .ref 392, .int z_21.1, .int x2] h_23 i_227_38 rfl ?_
      refine wp_s 40 [some (.ref 382), some (.int (x1 + z_16.1)), some (.int x2), some (.int x3)] [.int ((56 : Int32) + x3), .ref 392, .int z_21.1, .int x2] h_23 i_227_39 rfl ?_
      obtain ⟨b_26, hd⟩ := dk_if hd
      refine wp_iald (f := (z_21.2.2.1 20)) 41 rfl i_227_40 (H_24.1 10 (by decide)) b_26 ?_
      refine wp_s 42 [some (.ref 382), some (.int (x1 + z_16.1)), some (.int x2), some (.int x3)] [.int (z_21.1 * ((z_21.2.2.1 20) ((56 : Int32) + x3).toNatClampNeg)), .int x2] h_23 i_227_41 rfl ?_
      refine wp_s 43 [some (.ref 382), some (.int (x1 + z_16.1)), some (.int x2), some (.int x3)] [.int (x2 + (z_21.1 * ((z_21.2.2.1 20) ((56 : Int32) + x3).toNatClampNeg)))] h_23 i_227_42 rfl ?_
      refine wp_s 44 [some (.ref 382), some (.int (x1 + z_16.1)), some (.int (x2 + (z_21.1 * ((z_21.2.2.1 20) ((56 : Int32) + x3).toNatClampNeg)))), some (.int x3)] [] h_23 i_227_43 rfl ?_
      refine wp_s 47 [some (.ref 382), some (.int (x1 + z_16.1)), some (.int (x2 + (z_21.1 * ((z_21.2.2.1 20) ((56 : Int32) + x3).toNatClampNeg)))), some (.int (x3 + (1 : Int32)))] [] h_23 i_227_44 rfl ?_
      refine wp_s 6 [some (.ref 382), some (.int (x1 + z_16.1)), some (.int (x2 + (z_21.1 * ((z_21.2.2.1 20) ((56 : Int32) + x3).toNatClampNeg)))), some (.int (x3 + (1 : Int32)))] [] h_23 i_227_47 rfl ?_
      exact aWp.post (aWp.forget (ih _ _ _ _ _ _ H_24.1 hd) ((lvS (lvS (lvS (lvS lvE)))))) (fun _ _ hq => ⟨hq.1, H_24.tr hq.2⟩)
def d_227 (g : Nat)  (S : rS) : Option (Int32 × rS) := (l_227 g g 0 (0 : Int32) (0 : Int32) (0 : Int32) S)
set_option maxHeartbeats 4000000 in
set_option maxRecDepth 100000 in
theorem d_227_ok {X : aX} {g d : Nat}  {S : rS} {h0 : aH} {zz : Int32 × rS} (hdp : 2 ≤ d) (HS : rm h0 S) (hd : d_227 g  S = some zz) : aWp X d 227 0 (aEntL [.ref 382] 4) [] h0 (fun w h' => w = some (.int zz.1) ∧ rTo h0 zz.2 h') := by
  unfold d_227 at hd
  have HH := rTo.rf HS
  refine wp_lv (l2 := [some (.ref 382), none, none, none]) rfl ?_
  obtain ⟨e, rfl⟩ : ∃ e, d = e + 1 := ⟨d - 1, by omega⟩
  refine wp_s 1 [some (.ref 382), none, none, none] [.int (0 : Int32)] h0 i_227_0 rfl ?_
  refine wp_s 2 [some (.ref 382), some (.int (0 : Int32)), none, none] [] h0 i_227_1 rfl ?_
  refine wp_s 3 [some (.ref 382), some (.int (0 : Int32)), none, none] [.int (0 : Int32)] h0 i_227_2 rfl ?_
  refine wp_s 4 [some (.ref 382), some (.int (0 : Int32)), some (.int (0 : Int32)), none] [] h0 i_227_3 rfl ?_
  refine wp_s 5 [some (.ref 382), some (.int (0 : Int32)), some (.int (0 : Int32)), none] [.int (0 : Int32)] h0 i_227_4 rfl ?_
  refine wp_s 6 [some (.ref 382), some (.int (0 : Int32)), some (.int (0 : Int32)), some (.int (0 : Int32))] [] h0 i_227_5 rfl ?_
  exact aWp.post (aWp.forget ((l_227_ok hdp g) _ _ _ _ _ _ HH.1 hd) ((lvS (lvS (lvS (lvS lvE)))))) (fun _ _ hq => ⟨hq.1, HH.tr hq.2⟩)
def j_228_76 (g : Nat) (x1 : Int32) (x2 : Int32) (S : rS) : Option (Int32 × rS) := (if aIn (11 : Int32) 181 = true then (if aIn (11 : Int32) 181 = true then (if aIn (8 : Int32) 181 = true then (if aIn (8 : Int32) 181 = true then some (x2, (rA (rA S 20 (upd (S.2.1 20) (11 : Int32).toNatClampNeg (((S.2.1 20) (11 : Int32).toNatClampNeg) - x2))) 20 (upd (upd (S.2.1 20) (11 : Int32).toNatClampNeg (((S.2.1 20) (11 : Int32).toNatClampNeg) - x2)) (8 : Int32).toNatClampNeg (((upd (S.2.1 20) (11 : Int32).toNatClampNeg (((S.2.1 20) (11 : Int32).toNatClampNeg) - x2)) (8 : Int32).toNatClampNeg) - x2)))) else none) else none) else none) else none)
set_option maxHeartbeats 4000000 in
set_option maxRecDepth 100000 in
theorem j_228_76_ok {X : aX} {g d : Nat} {x1 : Int32} {x2 : Int32} {S : rS} {h0 : aH} {zz : Int32 × rS} (hdp : 3 ≤ d) (HS : rm h0 S) (hd : j_228_76 g x1 x2 S = some zz) : aWp X d 228 76 [some (.ref 382), some (.int x1), some (.int x2)] [] h0 (fun w h' => w = some (.int zz.1) ∧ rTo h0 zz.2 h') := by
  unfold j_228_76 at hd
  have HH := rTo.rf HS
  obtain ⟨e, rfl⟩ : ∃ e, d = e + 1 := ⟨d - 1, by omega⟩
  refine wp_s 77 [some (.ref 382), some (.int x1), some (.int x2)] [.ref 382] h0 i_228_76 rfl ?_
  refine wp_get (v := .ref 392) 80 rfl i_228_77 (HH.1 0 (by decide)) rfl ?_
  refine wp_s 82 [some (.ref 382), some (.int x1), some (.int x2)] [.int (11 : Int32), .ref 392] h0 i_228_80 rfl ?_
  refine wp_s 83 [some (.ref 382), some (.int x1), some (.int x2)] [.int (11 : Int32), .ref 392, .int (11 : Int32), .ref 392] h0 i_228_82 rfl ?_
  obtain ⟨b_1, hd⟩ := dk_if hd
  refine wp_iald (f := (S.2.1 20)) 84 rfl i_228_83 (HH.1 10 (by decide)) b_1 ?_
  refine wp_s 85 [some (.ref 382), some (.int x1), some (.int x2)] [.int x2, .int ((S.2.1 20) (11 : Int32).toNatClampNeg), .int (11 : Int32), .ref 392] h0 i_228_84 rfl ?_
  refine wp_s 86 [some (.ref 382), some (.int x1), some (.int x2)] [.int (((S.2.1 20) (11 : Int32).toNatClampNeg) - x2), .int (11 : Int32), .ref 392] h0 i_228_85 rfl ?_
  obtain ⟨b_2, hd⟩ := dk_if hd
  refine rq_A20 87 rfl i_228_86 HH b_2 (fun h_3 H_4 => ?_)
  refine wp_s 88 [some (.ref 382), some (.int x1), some (.int x2)] [.ref 382] h_3 i_228_87 rfl ?_
  refine wp_get (v := .ref 392) 91 rfl i_228_88 (H_4.1 0 (by decide)) rfl ?_
  refine wp_s 93 [some (.ref 382), some (.int x1), some (.int x2)] [.int (8 : Int32), .ref 392] h_3 i_228_91 rfl ?_
  refine wp_s 94 [some (.ref 382), some (.int x1), some (.int x2)] [.int (8 : Int32), .ref 392, .int (8 : Int32), .ref 392] h_3 i_228_93 rfl ?_
  obtain ⟨b_5, hd⟩ := dk_if hd
  refine wp_iald (f := (upd (S.2.1 20) (11 : Int32).toNatClampNeg (((S.2.1 20) (11 : Int32).toNatClampNeg) - x2))) 95 rfl i_228_94 (H_4.1 10 (by decide)) b_5 ?_
  refine wp_s 96 [some (.ref 382), some (.int x1), some (.int x2)] [.int x2, .int ((upd (S.2.1 20) (11 : Int32).toNatClampNeg (((S.2.1 20) (11 : Int32).toNatClampNeg) - x2)) (8 : Int32).toNatClampNeg), .int (8 : Int32), .ref 392] h_3 i_228_95 rfl ?_
  refine wp_s 97 [some (.ref 382), some (.int x1), some (.int x2)] [.int (((upd (S.2.1 20) (11 : Int32).toNatClampNeg (((S.2.1 20) (11 : Int32).toNatClampNeg) - x2)) (8 : Int32).toNatClampNeg) - x2), .int (8 : Int32), .ref 392] h_3 i_228_96 rfl ?_
  obtain ⟨b_6, hd⟩ := dk_if hd
  refine rq_A20 98 rfl i_228_97 H_4 b_6 (fun h_7 H_8 => ?_)
  refine wp_s 99 [some (.ref 382), some (.int x1), some (.int x2)] [.int x2] h_7 i_228_98 rfl ?_
  obtain rfl := Option.some.inj hd
  exact wp_iret i_228_99 ⟨rfl, H_8⟩
def j_228_75 (g : Nat) (x1 : Int32) (x2 : Int32) (s0 : Int32) (S : rS) : Option (Int32 × rS) := (j_228_76 g x1 s0 S)
set_option maxHeartbeats 4000000 in
set_option maxRecDepth 100000 in
theorem j_228_75_ok {X : aX} {g d : Nat} {x1 : Int32} {x2 : Int32} {s0 : Int32} {S : rS} {h0 : aH} {zz : Int32 × rS} (hdp : 3 ≤ d) (HS : rm h0 S) (hd : j_228_75 g x1 x2 s0 S = some zz) : aWp X d 228 75 [some (.ref 382), some (.int x1), some (.int x2)] [.int s0] h0 (fun w h' => w = some (.int zz.1) ∧ rTo h0 zz.2 h') := by
  unfold j_228_75 at hd
  have HH := rTo.rf HS
  obtain ⟨e, rfl⟩ : ∃ e, d = e + 1 := ⟨d - 1, by omega⟩
  refine wp_s 76 [some (.ref 382), some (.int x1), some (.int s0)] [] h0 i_228_75 rfl ?_
  exact aWp.post (aWp.forget (j_228_76_ok hdp HH.1 hd) ((lvS (lvS (lvS lvE))))) (fun _ _ hq => ⟨hq.1, HH.tr hq.2⟩)
def j_228_32 (g : Nat) (x1 : Int32) (S : rS) : Option (Int32 × rS) := (if aIn ((56 : Int32) + x1) 181 = true then (if aIn (6 : Int32) 181 = true then (if ¬ ((S.2.1 20) (6 : Int32).toNatClampNeg) = (1 : Int32) then (j_228_76 g x1 ((S.2.1 20) ((56 : Int32) + x1).toNatClampNeg) S) else (if aIn (11 : Int32) 181 = true then ((d_227 g  S).bind (fun z_5 => (if 0 ≤ (((S.2.1 20) (11 : Int32).toNatClampNeg) - z_5.1) then (j_228_75 g x1 (((S.2.1 20) (11 : Int32).toNatClampNeg) - z_5.1) (((S.2.1 20) (11 : Int32).toNatClampNeg) - z_5.1) z_5.2) else (j_228_75 g x1 (((S.2.1 20) (11 : Int32).toNatClampNeg) - z_5.1) (0 : Int32) z_5.2)))) else none)) else none) else none)
set_option maxHeartbeats 4000000 in
set_option maxRecDepth 100000 in
theorem j_228_32_ok {X : aX} {g d : Nat} {x1 : Int32} {S : rS} {h0 : aH} {zz : Int32 × rS} (hdp : 3 ≤ d) (HS : rm h0 S) (hd : j_228_32 g x1 S = some zz) : aWp X d 228 32 [some (.ref 382), some (.int x1), none] [] h0 (fun w h' => w = some (.int zz.1) ∧ rTo h0 zz.2 h') := by
  unfold j_228_32 at hd
  have HH := rTo.rf HS
  obtain ⟨e, rfl⟩ : ∃ e, d = e + 1 := ⟨d - 1, by omega⟩
  refine wp_s 33 [some (.ref 382), some (.int x1), none] [.ref 382] h0 i_228_32 rfl ?_
  refine wp_get (v := .ref 392) 36 rfl i_228_33 (HH.1 0 (by decide)) rfl ?_
  refine wp_s 38 [some (.ref 382), some (.int x1), none] [.int (56 : Int32), .ref 392] h0 i_228_36 rfl ?_
  refine wp_s 39 [some (.ref 382), some (.int x1), none] [.int x1, .int (56 : Int32), .ref 392] h0 i_228_38 rfl ?_
  refine wp_s 40 [some (.ref 382), some (.int x1), none] [.int ((56 : Int32) + x1), .ref 392] h0 i_228_39 rfl ?_
  obtain ⟨b_1, hd⟩ := dk_if hd
  refine wp_iald (f := (S.2.1 20)) 41 rfl i_228_40 (HH.1 10 (by decide)) b_1 ?_
  refine wp_s 42 [some (.ref 382), some (.int x1), some (.int ((S.2.1 20) ((56 : Int32) + x1).toNatClampNeg))] [] h0 i_228_41 rfl ?_
  refine wp_s 43 [some (.ref 382), some (.int x1), some (.int ((S.2.1 20) ((56 : Int32) + x1).toNatClampNeg))] [.ref 382] h0 i_228_42 rfl ?_
  refine wp_get (v := .ref 392) 46 rfl i_228_43 (HH.1 0 (by decide)) rfl ?_
  refine wp_s 48 [some (.ref 382), some (.int x1), some (.int ((S.2.1 20) ((56 : Int32) + x1).toNatClampNeg))] [.int (6 : Int32), .ref 392] h0 i_228_46 rfl ?_
  obtain ⟨b_2, hd⟩ := dk_if hd
  refine wp_iald (f := (S.2.1 20)) 49 rfl i_228_48 (HH.1 10 (by decide)) b_2 ?_
  refine wp_s 50 [some (.ref 382), some (.int x1), some (.int ((S.2.1 20) ((56 : Int32) + x1).toNatClampNeg))] [.int (1 : Int32), .int ((S.2.1 20) (6 : Int32).toNatClampNeg)] h0 i_228_49 rfl ?_
  refine wp_cmp_ne 76 53 rfl rfl i_228_50 (fun c_3 => ?_) (fun c_3 => ?_)
  · rw [if_pos c_3] at hd
    exact aWp.post (aWp.forget (j_228_76_ok hdp HH.1 hd) ((lvS (lvS (lvS lvE))))) (fun _ _ hq => ⟨hq.1, HH.tr hq.2⟩)
  · rw [if_neg c_3] at hd
    refine wp_s 54 [some (.ref 382), some (.int x1), some (.int ((S.2.1 20) ((56 : Int32) + x1).toNatClampNeg))] [.ref 382] h0 i_228_53 rfl ?_
    refine wp_get (v := .ref 392) 57 rfl i_228_54 (HH.1 0 (by decide)) rfl ?_
    refine wp_s 59 [some (.ref 382), some (.int x1), some (.int ((S.2.1 20) ((56 : Int32) + x1).toNatClampNeg))] [.int (11 : Int32), .ref 392] h0 i_228_57 rfl ?_
    obtain ⟨b_4, hd⟩ := dk_if hd
    refine wp_iald (f := (S.2.1 20)) 60 rfl i_228_59 (HH.1 10 (by decide)) b_4 ?_
    refine wp_s 61 [some (.ref 382), some (.int x1), some (.int ((S.2.1 20) ((56 : Int32) + x1).toNatClampNeg))] [.ref 382, .int ((S.2.1 20) (11 : Int32).toNatClampNeg)] h0 i_228_60 rfl ?_
    obtain ⟨z_5, q_6, hd⟩ := dk_bind hd
    refine wp_callV 64 rfl i_228_61 (by decide) rfl (vs := []) (rest := [.int ((S.2.1 20) (11 : Int32).toNatClampNeg)]) rfl rfl rfl (HH.1 0 (by decide)) (y := m_227) rfl (Nat.le_of_ble_eq_true rfl) (d_227_ok (d := e) (by omega) HH.1 q_6) ?_
    rintro v_9 h_7 ⟨rfl, H_8⟩
    have H_8 := HH.tr H_8
    refine wp_s 65 [some (.ref 382), some (.int x1), some (.int ((S.2.1 20) ((56 : Int32) + x1).toNatClampNeg))] [.int (((S.2.1 20) (11 : Int32).toNatClampNeg) - z_5.1)] h_7 i_228_64 rfl ?_
    refine wp_s 66 [some (.ref 382), some (.int x1), some (.int (((S.2.1 20) (11 : Int32).toNatClampNeg) - z_5.1))] [] h_7 i_228_65 rfl ?_
    refine wp_s 67 [some (.ref 382), some (.int x1), some (.int (((S.2.1 20) (11 : Int32).toNatClampNeg) - z_5.1))] [.int (((S.2.1 20) (11 : Int32).toNatClampNeg) - z_5.1)] h_7 i_228_66 rfl ?_
    refine wp_if_ge 74 70 rfl rfl i_228_67 (fun c_10 => ?_) (fun c_10 => ?_)
    · rw [if_pos c_10] at hd
      refine wp_s 75 [some (.ref 382), some (.int x1), some (.int (((S.2.1 20) (11 : Int32).toNatClampNeg) - z_5.1))] [.int (((S.2.1 20) (11 : Int32).toNatClampNeg) - z_5.1)] h_7 i_228_74 rfl ?_
      exact aWp.post (aWp.forget (j_228_75_ok hdp H_8.1 hd) ((lvS (lvS (lvS lvE))))) (fun _ _ hq => ⟨hq.1, H_8.tr hq.2⟩)
    · rw [if_neg c_10] at hd
      refine wp_s 71 [some (.ref 382), some (.int x1), some (.int (((S.2.1 20) (11 : Int32).toNatClampNeg) - z_5.1))] [.int (0 : Int32)] h_7 i_228_70 rfl ?_
      refine wp_s 75 [some (.ref 382), some (.int x1), some (.int (((S.2.1 20) (11 : Int32).toNatClampNeg) - z_5.1))] [.int (0 : Int32)] h_7 i_228_71 rfl ?_
      exact aWp.post (aWp.forget (j_228_75_ok hdp H_8.1 hd) ((lvS (lvS (lvS lvE))))) (fun _ _ hq => ⟨hq.1, H_8.tr hq.2⟩)
def d_228 (g : Nat) (x1 : Int32) (S : rS) : Option (Int32 × rS) := ((d_217 g x1 (4 : Int32) (-1 : Int32) S).bind (fun z_1 => ((d_217 g x1 (2 : Int32) (-1 : Int32) z_1).bind (fun z_6 => ((d_191 g x1 (0 : Int32) z_6).bind (fun z_11 => (if (9 : Int32) ≤ z_11.1 then (j_228_32 g x1 z_11.2) else ((d_217 g x1 (0 : Int32) (1 : Int32) z_11.2).bind (fun z_17 => (j_228_32 g x1 z_17))))))))))
set_option maxHeartbeats 4000000 in
set_option maxRecDepth 100000 in
theorem d_228_ok {X : aX} {g d : Nat} {x1 : Int32} {S : rS} {h0 : aH} {zz : Int32 × rS} (hdp : 3 ≤ d) (HS : rm h0 S) (hd : d_228 g x1 S = some zz) : aWp X d 228 0 (aEntL [.ref 382, .int x1] 3) [] h0 (fun w h' => w = some (.int zz.1) ∧ rTo h0 zz.2 h') := by
  unfold d_228 at hd
  have HH := rTo.rf HS
  refine wp_lv (l2 := [some (.ref 382), some (.int x1), none]) rfl ?_
  obtain ⟨e, rfl⟩ : ∃ e, d = e + 1 := ⟨d - 1, by omega⟩
  refine wp_s 1 [some (.ref 382), some (.int x1), none] [.ref 382] h0 i_228_0 rfl ?_
  refine wp_s 2 [some (.ref 382), some (.int x1), none] [.int x1, .ref 382] h0 i_228_1 rfl ?_
  refine wp_s 3 [some (.ref 382), some (.int x1), none] [.int (4 : Int32), .int x1, .ref 382] h0 i_228_2 rfl ?_
  refine wp_s 4 [some (.ref 382), some (.int x1), none] [.int (-1 : Int32), .int (4 : Int32), .int x1, .ref 382] h0 i_228_3 rfl ?_
  obtain ⟨z_1, q_2, hd⟩ := dk_bind hd
  refine wp_callV 7 rfl i_228_4 (by decide) rfl (vs := [.int x1, .int (4 : Int32), .int (-1 : Int32)]) (rest := []) rfl rfl rfl (HH.1 0 (by decide)) (y := m_217) rfl (Nat.le_of_ble_eq_true rfl) (d_217_ok (d := e) (by omega) HH.1 q_2) ?_
  rintro v_5 h_3 ⟨rfl, H_4⟩
  have H_4 := HH.tr H_4
  refine wp_s 8 [some (.ref 382), some (.int x1), none] [.ref 382] h_3 i_228_7 rfl ?_
  refine wp_s 9 [some (.ref 382), some (.int x1), none] [.int x1, .ref 382] h_3 i_228_8 rfl ?_
  refine wp_s 10 [some (.ref 382), some (.int x1), none] [.int (2 : Int32), .int x1, .ref 382] h_3 i_228_9 rfl ?_
  refine wp_s 11 [some (.ref 382), some (.int x1), none] [.int (-1 : Int32), .int (2 : Int32), .int x1, .ref 382] h_3 i_228_10 rfl ?_
  obtain ⟨z_6, q_7, hd⟩ := dk_bind hd
  refine wp_callV 14 rfl i_228_11 (by decide) rfl (vs := [.int x1, .int (2 : Int32), .int (-1 : Int32)]) (rest := []) rfl rfl rfl (H_4.1 0 (by decide)) (y := m_217) rfl (Nat.le_of_ble_eq_true rfl) (d_217_ok (d := e) (by omega) H_4.1 q_7) ?_
  rintro v_10 h_8 ⟨rfl, H_9⟩
  have H_9 := H_4.tr H_9
  refine wp_s 15 [some (.ref 382), some (.int x1), none] [.ref 382] h_8 i_228_14 rfl ?_
  refine wp_s 16 [some (.ref 382), some (.int x1), none] [.int x1, .ref 382] h_8 i_228_15 rfl ?_
  refine wp_s 17 [some (.ref 382), some (.int x1), none] [.int (0 : Int32), .int x1, .ref 382] h_8 i_228_16 rfl ?_
  obtain ⟨z_11, q_12, hd⟩ := dk_bind hd
  refine wp_callV 20 rfl i_228_17 (by decide) rfl (vs := [.int x1, .int (0 : Int32)]) (rest := []) rfl rfl rfl (H_9.1 0 (by decide)) (y := m_191) rfl (Nat.le_of_ble_eq_true rfl) (d_191_ok (d := e) (by omega) H_9.1 q_12) ?_
  rintro v_15 h_13 ⟨rfl, H_14⟩
  have H_14 := H_9.tr H_14
  refine wp_s 22 [some (.ref 382), some (.int x1), none] [.int (9 : Int32), .int z_11.1] h_13 i_228_20 rfl ?_
  refine wp_cmp_ge 32 25 rfl rfl i_228_22 (fun c_16 => ?_) (fun c_16 => ?_)
  · rw [if_pos c_16] at hd
    exact aWp.post (aWp.forget (j_228_32_ok hdp H_14.1 hd) ((lvS (lvS (lvN lvE))))) (fun _ _ hq => ⟨hq.1, H_14.tr hq.2⟩)
  · rw [if_neg c_16] at hd
    refine wp_s 26 [some (.ref 382), some (.int x1), none] [.ref 382] h_13 i_228_25 rfl ?_
    refine wp_s 27 [some (.ref 382), some (.int x1), none] [.int x1, .ref 382] h_13 i_228_26 rfl ?_
    refine wp_s 28 [some (.ref 382), some (.int x1), none] [.int (0 : Int32), .int x1, .ref 382] h_13 i_228_27 rfl ?_
    refine wp_s 29 [some (.ref 382), some (.int x1), none] [.int (1 : Int32), .int (0 : Int32), .int x1, .ref 382] h_13 i_228_28 rfl ?_
    obtain ⟨z_17, q_18, hd⟩ := dk_bind hd
    refine wp_callV 32 rfl i_228_29 (by decide) rfl (vs := [.int x1, .int (0 : Int32), .int (1 : Int32)]) (rest := []) rfl rfl rfl (H_14.1 0 (by decide)) (y := m_217) rfl (Nat.le_of_ble_eq_true rfl) (d_217_ok (d := e) (by omega) H_14.1 q_18) ?_
    rintro v_21 h_19 ⟨rfl, H_20⟩
    have H_20 := H_14.tr H_20
    exact aWp.post (aWp.forget (j_228_32_ok hdp H_20.1 hd) ((lvS (lvS (lvN lvE))))) (fun _ _ hq => ⟨hq.1, H_20.tr hq.2⟩)
def d_229 (g : Nat) (x1 : Int32) (S : rS) : Option (Int32 × rS) := ((d_188 g x1 S).bind (fun z_1 => (if z_1.1 = 0 then some ((-1 : Int32), z_1.2) else ((d_191 g x1 (4 : Int32) z_1.2).bind (fun z_7 => (if ¬ z_7.1 = 0 then ((d_214 g  z_7.2).bind (fun z_13 => ((d_228 g x1 z_13).bind (fun z_18 => some (z_18.1, z_18.2))))) else some ((-1 : Int32), z_7.2)))))))
set_option maxHeartbeats 4000000 in
set_option maxRecDepth 100000 in
theorem d_229_ok {X : aX} {g d : Nat} {x1 : Int32} {S : rS} {h0 : aH} {zz : Int32 × rS} (hdp : 4 ≤ d) (HS : rm h0 S) (hd : d_229 g x1 S = some zz) : aWp X d 229 0 (aEntL [.ref 382, .int x1] 2) [] h0 (fun w h' => w = some (.int zz.1) ∧ rTo h0 zz.2 h') := by
  unfold d_229 at hd
  have HH := rTo.rf HS
  refine wp_lv (l2 := [some (.ref 382), some (.int x1)]) rfl ?_
  obtain ⟨e, rfl⟩ : ∃ e, d = e + 1 := ⟨d - 1, by omega⟩
  refine wp_s 1 [some (.ref 382), some (.int x1)] [.ref 382] h0 i_229_0 rfl ?_
  refine wp_s 2 [some (.ref 382), some (.int x1)] [.int x1, .ref 382] h0 i_229_1 rfl ?_
  obtain ⟨z_1, q_2, hd⟩ := dk_bind hd
  refine wp_callV 5 rfl i_229_2 (by decide) rfl (vs := [.int x1]) (rest := []) rfl rfl rfl (HH.1 0 (by decide)) (y := m_188) rfl (Nat.le_of_ble_eq_true rfl) (d_188_ok (d := e) (by omega) HH.1 q_2) ?_
  rintro v_5 h_3 ⟨rfl, H_4⟩
  have H_4 := HH.tr H_4
  refine wp_if_eq 17 8 rfl rfl i_229_5 (fun c_6 => ?_) (fun c_6 => ?_)
  · rw [if_pos c_6] at hd
    refine wp_s 18 [some (.ref 382), some (.int x1)] [.int (-1 : Int32)] h_3 i_229_17 rfl ?_
    obtain rfl := Option.some.inj hd
    exact wp_iret i_229_18 ⟨rfl, H_4⟩
  · rw [if_neg c_6] at hd
    refine wp_s 9 [some (.ref 382), some (.int x1)] [.ref 382] h_3 i_229_8 rfl ?_
    refine wp_s 10 [some (.ref 382), some (.int x1)] [.int x1, .ref 382] h_3 i_229_9 rfl ?_
    refine wp_s 11 [some (.ref 382), some (.int x1)] [.int (4 : Int32), .int x1, .ref 382] h_3 i_229_10 rfl ?_
    obtain ⟨z_7, q_8, hd⟩ := dk_bind hd
    refine wp_callV 14 rfl i_229_11 (by decide) rfl (vs := [.int x1, .int (4 : Int32)]) (rest := []) rfl rfl rfl (H_4.1 0 (by decide)) (y := m_191) rfl (Nat.le_of_ble_eq_true rfl) (d_191_ok (d := e) (by omega) H_4.1 q_8) ?_
    rintro v_11 h_9 ⟨rfl, H_10⟩
    have H_10 := H_4.tr H_10
    refine wp_if_ne 19 17 rfl rfl i_229_14 (fun c_12 => ?_) (fun c_12 => ?_)
    · rw [if_pos c_12] at hd
      refine wp_s 20 [some (.ref 382), some (.int x1)] [.ref 382] h_9 i_229_19 rfl ?_
      obtain ⟨z_13, q_14, hd⟩ := dk_bind hd
      refine wp_callV 23 rfl i_229_20 (by decide) rfl (vs := []) (rest := []) rfl rfl rfl (H_10.1 0 (by decide)) (y := m_214) rfl (Nat.le_of_ble_eq_true rfl) (d_214_ok (d := e) (by omega) H_10.1 q_14) ?_
      rintro v_17 h_15 ⟨rfl, H_16⟩
      have H_16 := H_10.tr H_16
      refine wp_s 24 [some (.ref 382), some (.int x1)] [.ref 382] h_15 i_229_23 rfl ?_
      refine wp_s 25 [some (.ref 382), some (.int x1)] [.int x1, .ref 382] h_15 i_229_24 rfl ?_
      obtain ⟨z_18, q_19, hd⟩ := dk_bind hd
      refine wp_callV 28 rfl i_229_25 (by decide) rfl (vs := [.int x1]) (rest := []) rfl rfl rfl (H_16.1 0 (by decide)) (y := m_228) rfl (Nat.le_of_ble_eq_true rfl) (d_228_ok (d := e) (by omega) H_16.1 q_19) ?_
      rintro v_22 h_20 ⟨rfl, H_21⟩
      have H_21 := H_16.tr H_21
      obtain rfl := Option.some.inj hd
      exact wp_iret i_229_28 ⟨rfl, H_21⟩
    · rw [if_neg c_12] at hd
      refine wp_s 18 [some (.ref 382), some (.int x1)] [.int (-1 : Int32)] h_9 i_229_17 rfl ?_
      obtain rfl := Option.some.inj hd
      exact wp_iret i_229_18 ⟨rfl, H_10⟩
def d_230 (g : Nat)  (S : rS) : Option (Int32 × rS) := ((d_187 g  S).bind (fun z_1 => (if z_1.1 = 0 then some ((-1 : Int32), z_1.2) else (if aIn (7 : Int32) 181 = true then (if ¬ ((z_1.2.2.1 20) (7 : Int32).toNatClampNeg) = (999 : Int32) then ((d_214 g  z_1.2).bind (fun z_9 => (if aIn (7 : Int32) 181 = true then (if aIn (7 : Int32) 181 = true then (if aIn (7 : Int32) 181 = true then ((d_195 g ((upd (z_9.2.1 20) (7 : Int32).toNatClampNeg (((z_9.2.1 20) (7 : Int32).toNatClampNeg) + (1 : Int32))) (7 : Int32).toNatClampNeg) (rA z_9 20 (upd (z_9.2.1 20) (7 : Int32).toNatClampNeg (((z_9.2.1 20) (7 : Int32).toNatClampNeg) + (1 : Int32))))).bind (fun z_19 => some (z_19.1, z_19.2))) else none) else none) else none))) else some ((-1 : Int32), z_1.2)) else none))))
set_option maxHeartbeats 4000000 in
set_option maxRecDepth 100000 in
theorem d_230_ok {X : aX} {g d : Nat}  {S : rS} {h0 : aH} {zz : Int32 × rS} (hdp : 1 ≤ d) (HS : rm h0 S) (hd : d_230 g  S = some zz) : aWp X d 230 0 (aEntL [.ref 382] 1) [] h0 (fun w h' => w = some (.int zz.1) ∧ rTo h0 zz.2 h') := by
  unfold d_230 at hd
  have HH := rTo.rf HS
  refine wp_lv (l2 := [some (.ref 382)]) rfl ?_
  obtain ⟨e, rfl⟩ : ∃ e, d = e + 1 := ⟨d - 1, by omega⟩
  refine wp_s 1 [some (.ref 382)] [.ref 382] h0 i_230_0 rfl ?_
  obtain ⟨z_1, q_2, hd⟩ := dk_bind hd
  refine wp_callV 4 rfl i_230_1 (by decide) rfl (vs := []) (rest := []) rfl rfl rfl (HH.1 0 (by decide)) (y := m_187) rfl (Nat.le_of_ble_eq_true rfl) (d_187_ok (d := e) (by omega) HH.1 q_2) ?_
  rintro v_5 h_3 ⟨rfl, H_4⟩
  have H_4 := HH.tr H_4
  refine wp_if_eq 20 7 rfl rfl i_230_4 (fun c_6 => ?_) (fun c_6 => ?_)
  · rw [if_pos c_6] at hd
    refine wp_s 21 [some (.ref 382)] [.int (-1 : Int32)] h_3 i_230_20 rfl ?_
    obtain rfl := Option.some.inj hd
    exact wp_iret i_230_21 ⟨rfl, H_4⟩
  · rw [if_neg c_6] at hd
    refine wp_s 8 [some (.ref 382)] [.ref 382] h_3 i_230_7 rfl ?_
    refine wp_get (v := .ref 392) 11 rfl i_230_8 (H_4.1 0 (by decide)) rfl ?_
    refine wp_s 13 [some (.ref 382)] [.int (7 : Int32), .ref 392] h_3 i_230_11 rfl ?_
    obtain ⟨b_7, hd⟩ := dk_if hd
    refine wp_iald (f := (z_1.2.2.1 20)) 14 rfl i_230_13 (H_4.1 10 (by decide)) b_7 ?_
    refine wp_s 17 [some (.ref 382)] [.int (999 : Int32), .int ((z_1.2.2.1 20) (7 : Int32).toNatClampNeg)] h_3 i_230_14 rfl ?_
    refine wp_cmp_ne 22 20 rfl rfl i_230_17 (fun c_8 => ?_) (fun c_8 => ?_)
    · rw [if_pos c_8] at hd
      refine wp_s 23 [some (.ref 382)] [.ref 382] h_3 i_230_22 rfl ?_
      obtain ⟨z_9, q_10, hd⟩ := dk_bind hd
      refine wp_callV 26 rfl i_230_23 (by decide) rfl (vs := []) (rest := []) rfl rfl rfl (H_4.1 0 (by decide)) (y := m_214) rfl (Nat.le_of_ble_eq_true rfl) (d_214_ok (d := e) (by omega) H_4.1 q_10) ?_
      rintro v_13 h_11 ⟨rfl, H_12⟩
      have H_12 := H_4.tr H_12
      refine wp_s 27 [some (.ref 382)] [.ref 382] h_11 i_230_26 rfl ?_
      refine wp_get (v := .ref 392) 30 rfl i_230_27 (H_12.1 0 (by decide)) rfl ?_
      refine wp_s 32 [some (.ref 382)] [.int (7 : Int32), .ref 392] h_11 i_230_30 rfl ?_
      refine wp_s 33 [some (.ref 382)] [.int (7 : Int32), .ref 392, .int (7 : Int32), .ref 392] h_11 i_230_32 rfl ?_
      obtain ⟨b_14, hd⟩ := dk_if hd
      refine wp_iald (f := (z_9.2.1 20)) 34 rfl i_230_33 (H_12.1 10 (by decide)) b_14 ?_
      refine wp_s 35 [some (.ref 382)] [.int (1 : Int32), .int ((z_9.2.1 20) (7 : Int32).toNatClampNeg), .int (7 : Int32), .ref 392] h_11 i_230_34 rfl ?_
      refine wp_s 36 [some (.ref 382)] [.int (((z_9.2.1 20) (7 : Int32).toNatClampNeg) + (1 : Int32)), .int (7 : Int32), .ref 392] h_11 i_230_35 rfl ?_
      obtain ⟨b_15, hd⟩ := dk_if hd
      refine rq_A20 37 rfl i_230_36 H_12 b_15 (fun h_16 H_17 => ?_)
      refine wp_s 38 [some (.ref 382)] [.ref 382] h_16 i_230_37 rfl ?_
      refine wp_s 39 [some (.ref 382)] [.ref 382, .ref 382] h_16 i_230_38 rfl ?_
      refine wp_get (v := .ref 392) 42 rfl i_230_39 (H_17.1 0 (by decide)) rfl ?_
      refine wp_s 44 [some (.ref 382)] [.int (7 : Int32), .ref 392, .ref 382] h_16 i_230_42 rfl ?_
      obtain ⟨b_18, hd⟩ := dk_if hd
      refine wp_iald (f := (upd (z_9.2.1 20) (7 : Int32).toNatClampNeg (((z_9.2.1 20) (7 : Int32).toNatClampNeg) + (1 : Int32)))) 45 rfl i_230_44 (H_17.1 10 (by decide)) b_18 ?_
      obtain ⟨z_19, q_20, hd⟩ := dk_bind hd
      refine wp_callV 48 rfl i_230_45 (by decide) rfl (vs := [.int ((upd (z_9.2.1 20) (7 : Int32).toNatClampNeg (((z_9.2.1 20) (7 : Int32).toNatClampNeg) + (1 : Int32))) (7 : Int32).toNatClampNeg)]) (rest := []) rfl rfl rfl (H_17.1 0 (by decide)) (y := m_195) rfl (Nat.le_of_ble_eq_true rfl) (d_195_ok (d := e) (by omega) H_17.1 q_20) ?_
      rintro v_23 h_21 ⟨rfl, H_22⟩
      have H_22 := H_17.tr H_22
      obtain rfl := Option.some.inj hd
      exact wp_iret i_230_48 ⟨rfl, H_22⟩
    · rw [if_neg c_8] at hd
      refine wp_s 21 [some (.ref 382)] [.int (-1 : Int32)] h_3 i_230_20 rfl ?_
      obtain rfl := Option.some.inj hd
      exact wp_iret i_230_21 ⟨rfl, H_4⟩
def l_231 (g n tag : Nat) (x1 : Int32) (x2 : Int32) (x3 : Int32) (S : rS) : Option (Int32 × rS) := match n with
  | 0 => none
  | n + 1 => if tag = 0 then (if x2 ≤ x3 then some ((1 : Int32), S) else (if aIn x3 5 = true then (if ((S.2.1 23) x3.toNatClampNeg) = x1 then some ((0 : Int32), S) else ((d_194 g x1 (3 : Int32) S).bind (fun z_4 => (if aIn x3 5 = true then ((d_141 g z_4.1 ((z_4.2.2.1 23) x3.toNatClampNeg) z_4.2).bind (fun z_10 => (if z_10.1 = 0 then (l_231 g n 0 x1 x2 (x3 + (1 : Int32)) z_10.2) else some ((0 : Int32), z_10.2)))) else none)))) else none)) else none
set_option maxHeartbeats 4000000 in
set_option maxRecDepth 100000 in
theorem l_231_ok {X : aX} {g d : Nat} (hdp : 1 ≤ d) : ∀ n, (∀ (x1 : Int32) (x2 : Int32) (x3 : Int32) (S : rS) (h0 : aH) (zz : Int32 × rS), rm h0 S → l_231 g n 0 x1 x2 x3 S = some zz → aWp X d 231 17 [some (.ref 382), some (.int x1), some (.int x2), some (.int x3)] [] h0 (fun w h' => w = some (.int zz.1) ∧ rTo h0 zz.2 h')) := by
  intro n
  induction n with
  | zero => exact fun _ _ _ _ _ _ _ hd => by simp [l_231] at hd
  | succ n ih =>
    intro x1 x2 x3 S h0 zz HS hd
    unfold l_231 at hd
    rw [if_pos rfl] at hd
    have HH := rTo.rf HS
    obtain ⟨e, rfl⟩ : ∃ e, d = e + 1 := ⟨d - 1, by omega⟩
    refine wp_s 18 [some (.ref 382), some (.int x1), some (.int x2), some (.int x3)] [.int x3] h0 i_231_17 rfl ?_
    refine wp_s 19 [some (.ref 382), some (.int x1), some (.int x2), some (.int x3)] [.int x2, .int x3] h0 i_231_18 rfl ?_
    refine wp_cmp_ge 58 22 rfl rfl i_231_19 (fun c_1 => ?_) (fun c_1 => ?_)
    · rw [if_pos c_1] at hd
      refine wp_s 59 [some (.ref 382), some (.int x1), some (.int x2), some (.int x3)] [.int (1 : Int32)] h0 i_231_58 rfl ?_
      obtain rfl := Option.some.inj hd
      exact wp_iretZ (z := 0) i_231_59 (by decide) ⟨rfl, HH⟩
    · rw [if_neg c_1] at hd
      refine wp_s 23 [some (.ref 382), some (.int x1), some (.int x2), some (.int x3)] [.ref 382] h0 i_231_22 rfl ?_
      refine wp_get (v := .ref 393) 26 rfl i_231_23 (HH.1 0 (by decide)) rfl ?_
      refine wp_s 27 [some (.ref 382), some (.int x1), some (.int x2), some (.int x3)] [.int x3, .ref 393] h0 i_231_26 rfl ?_
      obtain ⟨b_2, hd⟩ := dk_if hd
      refine wp_iald (f := (S.2.1 23)) 28 rfl i_231_27 (HH.1 11 (by decide)) b_2 ?_
      refine wp_s 29 [some (.ref 382), some (.int x1), some (.int x2), some (.int x3)] [.int x1, .int ((S.2.1 23) x3.toNatClampNeg)] h0 i_231_28 rfl ?_
      refine wp_cmp_eq 50 32 rfl rfl i_231_29 (fun c_3 => ?_) (fun c_3 => ?_)
      · rw [if_pos c_3] at hd
        refine wp_s 51 [some (.ref 382), some (.int x1), some (.int x2), some (.int x3)] [.int (0 : Int32)] h0 i_231_50 rfl ?_
        obtain rfl := Option.some.inj hd
        exact wp_iretZ (z := 0) i_231_51 (by decide) ⟨rfl, HH⟩
      · rw [if_neg c_3] at hd
        refine wp_s 33 [some (.ref 382), some (.int x1), some (.int x2), some (.int x3)] [.ref 382] h0 i_231_32 rfl ?_
        refine wp_s 34 [some (.ref 382), some (.int x1), some (.int x2), some (.int x3)] [.int x1, .ref 382] h0 i_231_33 rfl ?_
        refine wp_s 35 [some (.ref 382), some (.int x1), some (.int x2), some (.int x3)] [.int (3 : Int32), .int x1, .ref 382] h0 i_231_34 rfl ?_
        obtain ⟨z_4, q_5, hd⟩ := dk_bind hd
        refine wp_callV 38 rfl i_231_35 (by decide) rfl (vs := [.int x1, .int (3 : Int32)]) (rest := []) rfl rfl rfl (HH.1 0 (by decide)) (y := m_194) rfl (Nat.le_of_ble_eq_true rfl) (d_194_ok (d := e) (by omega) HH.1 q_5) ?_
        rintro v_8 h_6 ⟨rfl, H_7⟩
        have H_7 := HH.tr H_7
        refine wp_s 39 [some (.ref 382), some (.int x1), some (.int x2), some (.int x3)] [.ref 382, .int z_4.1] h_6 i_231_38 rfl ?_
        refine wp_get (v := .ref 393) 42 rfl i_231_39 (H_7.1 0 (by decide)) rfl ?_
        refine wp_s 43 [some (.ref 382), some (.int x1), some (.int x2), some (.int x3)] [.int x3, .ref 393, .int z_4.1] h_6 i_231_42 rfl ?_
        obtain ⟨b_9, hd⟩ := dk_if hd
        refine wp_iald (f := (z_4.2.2.1 23)) 44 rfl i_231_43 (H_7.1 11 (by decide)) b_9 ?_
        obtain ⟨z_10, q_11, hd⟩ := dk_bind hd
        refine wp_callS 47 rfl i_231_44 (by decide) (vs := [.int z_4.1, .int ((z_4.2.2.1 23) x3.toNatClampNeg)]) (rest := []) rfl rfl rfl (y := m_141) rfl (Nat.le_of_ble_eq_true rfl) (d_141_ok (d := e) (by omega) H_7.1 q_11) ?_
        rintro v_14 h_12 ⟨rfl, H_13⟩
        have H_13 := H_7.tr H_13
        refine wp_if_eq 52 50 rfl rfl i_231_47 (fun c_15 => ?_) (fun c_15 => ?_)
        · rw [if_pos c_15] at hd
          refine wp_s 55 [some (.ref 382), some (.int x1), some (.int x2), some (.int (x3 + (1 : Int32)))] [] h_12 i_231_52 rfl ?_
          refine wp_s 17 [some (.ref 382), some (.int x1), some (.int x2), some (.int (x3 + (1 : Int32)))] [] h_12 i_231_55 rfl ?_
          exact aWp.post (aWp.forget (ih _ _ _ _ _ _ H_13.1 hd) ((lvS (lvS (lvS (lvS lvE)))))) (fun _ _ hq => ⟨hq.1, H_13.tr hq.2⟩)
        · rw [if_neg c_15] at hd
          refine wp_s 51 [some (.ref 382), some (.int x1), some (.int x2), some (.int x3)] [.int (0 : Int32)] h_12 i_231_50 rfl ?_
          obtain rfl := Option.some.inj hd
          exact wp_iretZ (z := 0) i_231_51 (by decide) ⟨rfl, H_13⟩
def d_231 (g : Nat) (x1 : Int32) (x2 : Int32) (S : rS) : Option (Int32 × rS) := (if aIn ((69 : Int32) + x1) 181 = true then (if ¬ ((S.2.1 20) ((69 : Int32) + x1).toNatClampNeg) = (1 : Int32) then (l_231 g g 0 x1 x2 (0 : Int32) S) else some ((0 : Int32), S)) else none)
set_option maxHeartbeats 4000000 in
set_option maxRecDepth 100000 in
theorem d_231_ok {X : aX} {g d : Nat} {x1 : Int32} {x2 : Int32} {S : rS} {h0 : aH} {zz : Int32 × rS} (hdp : 1 ≤ d) (HS : rm h0 S) (hd : d_231 g x1 x2 S = some zz) : aWp X d 231 0 (aEntL [.ref 382, .int x1, .int x2] 4) [] h0 (fun w h' => w = some (.int zz.1) ∧ rTo h0 zz.2 h') := by
  unfold d_231 at hd
  have HH := rTo.rf HS
  refine wp_lv (l2 := [some (.ref 382), some (.int x1), some (.int x2), none]) rfl ?_
  obtain ⟨e, rfl⟩ : ∃ e, d = e + 1 := ⟨d - 1, by omega⟩
  refine wp_s 1 [some (.ref 382), some (.int x1), some (.int x2), none] [.ref 382] h0 i_231_0 rfl ?_
  refine wp_get (v := .ref 392) 4 rfl i_231_1 (HH.1 0 (by decide)) rfl ?_
  refine wp_s 6 [some (.ref 382), some (.int x1), some (.int x2), none] [.int (69 : Int32), .ref 392] h0 i_231_4 rfl ?_
  refine wp_s 7 [some (.ref 382), some (.int x1), some (.int x2), none] [.int x1, .int (69 : Int32), .ref 392] h0 i_231_6 rfl ?_
  refine wp_s 8 [some (.ref 382), some (.int x1), some (.int x2), none] [.int ((69 : Int32) + x1), .ref 392] h0 i_231_7 rfl ?_
  obtain ⟨b_1001, hd⟩ := dk_if hd
  refine wp_iald (f := (S.2.1 20)) 9 rfl i_231_8 (HH.1 10 (by decide)) b_1001 ?_
  refine wp_s 10 [some (.ref 382), some (.int x1), some (.int x2), none] [.int (1 : Int32), .int ((S.2.1 20) ((69 : Int32) + x1).toNatClampNeg)] h0 i_231_9 rfl ?_
  refine wp_cmp_ne 15 13 rfl rfl i_231_10 (fun c_1002 => ?_) (fun c_1002 => ?_)
  · rw [if_pos c_1002] at hd
    refine wp_s 16 [some (.ref 382), some (.int x1), some (.int x2), none] [.int (0 : Int32)] h0 i_231_15 rfl ?_
    refine wp_s 17 [some (.ref 382), some (.int x1), some (.int x2), some (.int (0 : Int32))] [] h0 i_231_16 rfl ?_
    exact aWp.post (aWp.forget ((l_231_ok hdp g) _ _ _ _ _ _ HH.1 hd) ((lvS (lvS (lvS (lvS lvE)))))) (fun _ _ hq => ⟨hq.1, HH.tr hq.2⟩)
  · rw [if_neg c_1002] at hd
    refine wp_s 14 [some (.ref 382), some (.int x1), some (.int x2), none] [.int (0 : Int32)] h0 i_231_13 rfl ?_
    obtain rfl := Option.some.inj hd
    exact wp_iretZ (z := 0) i_231_14 (by decide) ⟨rfl, HH⟩
def l_232 (g n tag : Nat) (x1 : Int32) (x2 : Int32) (x3 : Int32) (S : rS) : Option (rS) := match n with
  | 0 => none
  | n + 1 => if tag = 0 then (l_232 g n 1 x1 x2 (0 : Int32) (rF (rF S 30 x2) 29 x1)) else if tag = 1 then (if x1 ≤ x3 then some S else (if aIn x3 5 = true then (if aIn x3 8 = true then (l_232 g n 1 x1 x2 (x3 + (1 : Int32)) (rA S 28 (upd (S.2.1 28) x3.toNatClampNeg ((S.2.1 23) x3.toNatClampNeg)))) else none) else none)) else none
set_option maxHeartbeats 4000000 in
set_option maxRecDepth 100000 in
theorem l_232_ok {X : aX} {g d : Nat} (hdp : 8 ≤ d) : ∀ n, (∀ (x1 : Int32) (x2 : Int32) (x3 : Int32) (S : rS) (h0 : aH) (zz : rS), rm h0 S → l_232 g n 0 x1 x2 x3 S = some zz → aWp X d 232 32 [some (.ref 382), some (.int x1), some (.int x2), none] [] h0 (fun w h' => w = none ∧ rTo h0 zz h')) ∧ (∀ (x1 : Int32) (x2 : Int32) (x3 : Int32) (S : rS) (h0 : aH) (zz : rS), rm h0 S → l_232 g n 1 x1 x2 x3 S = some zz → aWp X d 232 44 [some (.ref 382), some (.int x1), some (.int x2), some (.int x3)] [] h0 (fun w h' => w = none ∧ rTo h0 zz h')) := by
  intro n
  induction n with
  | zero => exact ⟨fun _ _ _ _ _ _ _ hd => by simp [l_232] at hd, fun _ _ _ _ _ _ _ hd => by simp [l_232] at hd⟩
  | succ n ih =>
    refine ⟨?_, ?_⟩
    · intro x1 x2 x3 S h0 zz HS hd
      unfold l_232 at hd
      rw [if_pos rfl] at hd
      have HH := rTo.rf HS
      obtain ⟨e, rfl⟩ : ∃ e, d = e + 1 := ⟨d - 1, by omega⟩
      refine wp_s 33 [some (.ref 382), some (.int x1), some (.int x2), none] [.ref 382] h0 i_232_32 rfl ?_
      refine wp_s 34 [some (.ref 382), some (.int x1), some (.int x2), none] [.int x2, .ref 382] h0 i_232_33 rfl ?_
      refine rq_F30 37 rfl i_232_34 HH (fun h_1 H_2 => ?_)
      refine wp_s 38 [some (.ref 382), some (.int x1), some (.int x2), none] [.ref 382] h_1 i_232_37 rfl ?_
      refine wp_s 39 [some (.ref 382), some (.int x1), some (.int x2), none] [.int x1, .ref 382] h_1 i_232_38 rfl ?_
      refine rq_F29 42 rfl i_232_39 H_2 (fun h_3 H_4 => ?_)
      refine wp_s 43 [some (.ref 382), some (.int x1), some (.int x2), none] [.int (0 : Int32)] h_3 i_232_42 rfl ?_
      refine wp_s 44 [some (.ref 382), some (.int x1), some (.int x2), some (.int (0 : Int32))] [] h_3 i_232_43 rfl ?_
      exact aWp.post (aWp.forget (ih.2 _ _ _ _ _ _ H_4.1 hd) ((lvS (lvS (lvS (lvS lvE)))))) (fun _ _ hq => ⟨hq.1, H_4.tr hq.2⟩)
    · intro x1 x2 x3 S h0 zz HS hd
      unfold l_232 at hd
      rw [if_neg (by decide), if_pos rfl] at hd
      have HH := rTo.rf HS
      obtain ⟨e, rfl⟩ : ∃ e, d = e + 1 := ⟨d - 1, by omega⟩
      refine wp_s 45 [some (.ref 382), some (.int x1), some (.int x2), some (.int x3)] [.int x3] h0 i_232_44 rfl ?_
      refine wp_s 46 [some (.ref 382), some (.int x1), some (.int x2), some (.int x3)] [.int x1, .int x3] h0 i_232_45 rfl ?_
      refine wp_cmp_ge 67 49 rfl rfl i_232_46 (fun c_5 => ?_) (fun c_5 => ?_)
      · rw [if_pos c_5] at hd
        obtain rfl := Option.some.inj hd
        exact wp_ret i_232_67 rfl ⟨rfl, HH⟩
      · rw [if_neg c_5] at hd
        refine wp_s 50 [some (.ref 382), some (.int x1), some (.int x2), some (.int x3)] [.ref 382] h0 i_232_49 rfl ?_
        refine wp_get (v := .ref 395) 53 rfl i_232_50 (HH.1 0 (by decide)) rfl ?_
        refine wp_s 54 [some (.ref 382), some (.int x1), some (.int x2), some (.int x3)] [.int x3, .ref 395] h0 i_232_53 rfl ?_
        refine wp_s 55 [some (.ref 382), some (.int x1), some (.int x2), some (.int x3)] [.ref 382, .int x3, .ref 395] h0 i_232_54 rfl ?_
        refine wp_get (v := .ref 393) 58 rfl i_232_55 (HH.1 0 (by decide)) rfl ?_
        refine wp_s 59 [some (.ref 382), some (.int x1), some (.int x2), some (.int x3)] [.int x3, .ref 393, .int x3, .ref 395] h0 i_232_58 rfl ?_
        obtain ⟨b_6, hd⟩ := dk_if hd
        refine wp_iald (f := (S.2.1 23)) 60 rfl i_232_59 (HH.1 11 (by decide)) b_6 ?_
        obtain ⟨b_7, hd⟩ := dk_if hd
        refine rq_A28 61 rfl i_232_60 HH b_7 (fun h_8 H_9 => ?_)
        refine wp_s 64 [some (.ref 382), some (.int x1), some (.int x2), some (.int (x3 + (1 : Int32)))] [] h_8 i_232_61 rfl ?_
        refine wp_s 44 [some (.ref 382), some (.int x1), some (.int x2), some (.int (x3 + (1 : Int32)))] [] h_8 i_232_64 rfl ?_
        exact aWp.post (aWp.forget (ih.2 _ _ _ _ _ _ H_9.1 hd) ((lvS (lvS (lvS (lvS lvE)))))) (fun _ _ hq => ⟨hq.1, H_9.tr hq.2⟩)
def d_232 (g : Nat) (x1 : Int32) (S : rS) : Option (rS) := (if aIn (5 : Int32) 181 = true then ((d_211 g ((S.2.1 20) (5 : Int32).toNatClampNeg) (rF S 24 x1)).bind (fun z_1004 => (if (z_1004.2.1 29) < 0 then (l_232 g g 0 x1 z_1004.1 0 z_1004.2) else (if z_1004.1 < (z_1004.2.1 30) then (l_232 g g 0 x1 z_1004.1 0 z_1004.2) else some z_1004.2)))) else none)
set_option maxHeartbeats 4000000 in
set_option maxRecDepth 100000 in
theorem d_232_ok {X : aX} {g d : Nat} {x1 : Int32} {S : rS} {h0 : aH} {zz : rS} (hdp : 8 ≤ d) (HS : rm h0 S) (hd : d_232 g x1 S = some zz) : aWp X d 232 0 (aEntL [.ref 382, .int x1] 4) [] h0 (fun w h' => w = none ∧ rTo h0 zz h') := by
  unfold d_232 at hd
  have HH := rTo.rf HS
  refine wp_lv (l2 := [some (.ref 382), some (.int x1), none, none]) rfl ?_
  obtain ⟨e, rfl⟩ : ∃ e, d = e + 1 := ⟨d - 1, by omega⟩
  refine wp_s 1 [some (.ref 382), some (.int x1), none, none] [.ref 382] h0 i_232_0 rfl ?_
  refine wp_s 2 [some (.ref 382), some (.int x1), none, none] [.int x1, .ref 382] h0 i_232_1 rfl ?_
  refine rq_F24 5 rfl i_232_2 HH (fun h_1001 H_1002 => ?_)
  refine wp_s 6 [some (.ref 382), some (.int x1), none, none] [.ref 382] h_1001 i_232_5 rfl ?_
  refine wp_s 7 [some (.ref 382), some (.int x1), none, none] [.ref 382, .ref 382] h_1001 i_232_6 rfl ?_
  refine wp_get (v := .ref 392) 10 rfl i_232_7 (H_1002.1 0 (by decide)) rfl ?_
  refine wp_s 11 [some (.ref 382), some (.int x1), none, none] [.int (5 : Int32), .ref 392, .ref 382] h_1001 i_232_10 rfl ?_
  obtain ⟨b_1003, hd⟩ := dk_if hd
  refine wp_iald (f := (S.2.1 20)) 12 rfl i_232_11 (H_1002.1 10 (by decide)) b_1003 ?_
  obtain ⟨z_1004, q_1005, hd⟩ := dk_bind hd
  refine wp_callV 15 rfl i_232_12 (by decide) rfl (vs := [.int ((S.2.1 20) (5 : Int32).toNatClampNeg)]) (rest := []) rfl rfl rfl (H_1002.1 0 (by decide)) (y := m_211) rfl (Nat.le_of_ble_eq_true rfl) (d_211_ok (d := e) (by omega) H_1002.1 q_1005) ?_
  rintro v_1008 h_1006 ⟨rfl, H_1007⟩
  have H_1007 := H_1002.tr H_1007
  refine wp_s 16 [some (.ref 382), some (.int x1), some (.int z_1004.1), none] [] h_1006 i_232_15 rfl ?_
  refine wp_s 17 [some (.ref 382), some (.int x1), some (.int z_1004.1), none] [.ref 382] h_1006 i_232_16 rfl ?_
  refine wp_get (v := .int (z_1004.2.1 29)) 20 rfl i_232_17 (H_1007.1 0 (by decide)) rfl ?_
  refine wp_if_lt 32 23 rfl rfl i_232_20 (fun c_1009 => ?_) (fun c_1009 => ?_)
  · rw [if_pos c_1009] at hd
    exact aWp.post (aWp.forget ((l_232_ok hdp g).1 _ _ _ _ _ _ H_1007.1 hd) ((lvS (lvS (lvS (lvN lvE)))))) (fun _ _ hq => ⟨hq.1, H_1007.tr hq.2⟩)
  · rw [if_neg c_1009] at hd
    refine wp_s 24 [some (.ref 382), some (.int x1), some (.int z_1004.1), none] [.int z_1004.1] h_1006 i_232_23 rfl ?_
    refine wp_s 25 [some (.ref 382), some (.int x1), some (.int z_1004.1), none] [.ref 382, .int z_1004.1] h_1006 i_232_24 rfl ?_
    refine wp_get (v := .int (z_1004.2.1 30)) 28 rfl i_232_25 (H_1007.1 0 (by decide)) rfl ?_
    refine wp_cmp_lt 32 31 rfl rfl i_232_28 (fun c_1010 => ?_) (fun c_1010 => ?_)
    · rw [if_pos c_1010] at hd
      exact aWp.post (aWp.forget ((l_232_ok hdp g).1 _ _ _ _ _ _ H_1007.1 hd) ((lvS (lvS (lvS (lvN lvE)))))) (fun _ _ hq => ⟨hq.1, H_1007.tr hq.2⟩)
    · rw [if_neg c_1010] at hd
      obtain rfl := Option.some.inj hd
      exact wp_ret i_232_31 rfl ⟨rfl, H_1007⟩
def l_233 (g n tag : Nat) (x1 : Int32) (S : rS) : Option (rS) := match n with
  | 0 => none
  | n + 1 => if tag = 0 then (if x1 < 0 then some S else (if aIn x1 5 = true then (if aIn x1 5 = true then (l_233 g n 1 x1 (rA S 23 (upd (S.2.1 23) x1.toNatClampNeg (((S.2.1 23) x1.toNatClampNeg) + (1 : Int32))))) else none) else none)) else if tag = 1 then (if aIn x1 5 = true then (if aIn (3 : Int32) 181 = true then (if ((S.2.1 20) (3 : Int32).toNatClampNeg) ≤ ((S.2.1 23) x1.toNatClampNeg) then (l_233 g n 2 x1 S) else (if aIn x1 5 = true then ((d_231 g ((S.2.1 23) x1.toNatClampNeg) x1 S).bind (fun z_10 => (if ¬ z_10.1 = 0 then (l_233 g n 2 x1 z_10.2) else (if aIn x1 5 = true then (if aIn x1 5 = true then (l_233 g n 1 x1 (rA z_10.2 23 (upd (z_10.2.2.1 23) x1.toNatClampNeg (((z_10.2.2.1 23) x1.toNatClampNeg) + (1 : Int32))))) else none) else none)))) else none)) else none) else none) else if tag = 2 then (if aIn x1 5 = true then (if aIn (3 : Int32) 181 = true then (if ((S.2.1 23) x1.toNatClampNeg) < ((S.2.1 20) (3 : Int32).toNatClampNeg) then ((d_232 g (x1 + (1 : Int32)) S).bind (fun z_23 => (if aIn (3 : Int32) 181 = true then (if ((z_23.2.1 20) (3 : Int32).toNatClampNeg) ≤ (x1 + (1 : Int32)) then (l_233 g n 0 x1 z_23) else (if aIn (x1 + (1 : Int32)) 5 = true then (l_233 g n 0 (x1 + (1 : Int32)) (rA z_23 23 (upd (z_23.2.1 23) (x1 + (1 : Int32)).toNatClampNeg (-1 : Int32)))) else none)) else none))) else (l_233 g n 0 (x1 + (-1 : Int32)) S)) else none) else none) else none
set_option maxHeartbeats 4000000 in
set_option maxRecDepth 100000 in
theorem l_233_ok {X : aX} {g d : Nat} (hdp : 9 ≤ d) : ∀ n, (∀ (x1 : Int32) (S : rS) (h0 : aH) (zz : rS), rm h0 S → l_233 g n 0 x1 S = some zz → aWp X d 233 19 [some (.ref 382), some (.int x1)] [] h0 (fun w h' => w = none ∧ rTo h0 zz h')) ∧ (∀ (x1 : Int32) (S : rS) (h0 : aH) (zz : rS), rm h0 S → l_233 g n 1 x1 S = some zz → aWp X d 233 33 [some (.ref 382), some (.int x1)] [] h0 (fun w h' => w = none ∧ rTo h0 zz h')) ∧ (∀ (x1 : Int32) (S : rS) (h0 : aH) (zz : rS), rm h0 S → l_233 g n 2 x1 S = some zz → aWp X d 233 75 [some (.ref 382), some (.int x1)] [] h0 (fun w h' => w = none ∧ rTo h0 zz h')) := by
  intro n
  induction n with
  | zero => exact ⟨fun _ _ _ _ _ hd => by simp [l_233] at hd, fun _ _ _ _ _ hd => by simp [l_233] at hd, fun _ _ _ _ _ hd => by simp [l_233] at hd⟩
  | succ n ih =>
    refine ⟨?_, ?_, ?_⟩
    · intro x1 S h0 zz HS hd
      unfold l_233 at hd
      rw [if_pos rfl] at hd
      have HH := rTo.rf HS
      obtain ⟨e, rfl⟩ : ∃ e, d = e + 1 := ⟨d - 1, by omega⟩
      refine wp_s 20 [some (.ref 382), some (.int x1)] [.int x1] h0 i_233_19 rfl ?_
      refine wp_if_lt 128 23 rfl rfl i_233_20 (fun c_1 => ?_) (fun c_1 => ?_)
      · rw [if_pos c_1] at hd
        obtain rfl := Option.some.inj hd
        exact wp_ret i_233_128 rfl ⟨rfl, HH⟩
      · rw [if_neg c_1] at hd
        refine wp_s 24 [some (.ref 382), some (.int x1)] [.ref 382] h0 i_233_23 rfl ?_
        refine wp_get (v := .ref 393) 27 rfl i_233_24 (HH.1 0 (by decide)) rfl ?_
        refine wp_s 28 [some (.ref 382), some (.int x1)] [.int x1, .ref 393] h0 i_233_27 rfl ?_
        refine wp_s 29 [some (.ref 382), some (.int x1)] [.int x1, .ref 393, .int x1, .ref 393] h0 i_233_28 rfl ?_
        obtain ⟨b_2, hd⟩ := dk_if hd
        refine wp_iald (f := (S.2.1 23)) 30 rfl i_233_29 (HH.1 11 (by decide)) b_2 ?_
        refine wp_s 31 [some (.ref 382), some (.int x1)] [.int (1 : Int32), .int ((S.2.1 23) x1.toNatClampNeg), .int x1, .ref 393] h0 i_233_30 rfl ?_
        refine wp_s 32 [some (.ref 382), some (.int x1)] [.int (((S.2.1 23) x1.toNatClampNeg) + (1 : Int32)), .int x1, .ref 393] h0 i_233_31 rfl ?_
        obtain ⟨b_3, hd⟩ := dk_if hd
        refine rq_A23 33 rfl i_233_32 HH b_3 (fun h_4 H_5 => ?_)
        exact aWp.post (aWp.forget (ih.2.1 _ _ _ _ H_5.1 hd) ((lvS (lvS lvE)))) (fun _ _ hq => ⟨hq.1, H_5.tr hq.2⟩)
    · intro x1 S h0 zz HS hd
      unfold l_233 at hd
      rw [if_neg (by decide), if_pos rfl] at hd
      have HH := rTo.rf HS
      obtain ⟨e, rfl⟩ : ∃ e, d = e + 1 := ⟨d - 1, by omega⟩
      refine wp_s 34 [some (.ref 382), some (.int x1)] [.ref 382] h0 i_233_33 rfl ?_
      refine wp_get (v := .ref 393) 37 rfl i_233_34 (HH.1 0 (by decide)) rfl ?_
      refine wp_s 38 [some (.ref 382), some (.int x1)] [.int x1, .ref 393] h0 i_233_37 rfl ?_
      obtain ⟨b_6, hd⟩ := dk_if hd
      refine wp_iald (f := (S.2.1 23)) 39 rfl i_233_38 (HH.1 11 (by decide)) b_6 ?_
      refine wp_s 40 [some (.ref 382), some (.int x1)] [.ref 382, .int ((S.2.1 23) x1.toNatClampNeg)] h0 i_233_39 rfl ?_
      refine wp_get (v := .ref 392) 43 rfl i_233_40 (HH.1 0 (by decide)) rfl ?_
      refine wp_s 44 [some (.ref 382), some (.int x1)] [.int (3 : Int32), .ref 392, .int ((S.2.1 23) x1.toNatClampNeg)] h0 i_233_43 rfl ?_
      obtain ⟨b_7, hd⟩ := dk_if hd
      refine wp_iald (f := (S.2.1 20)) 45 rfl i_233_44 (HH.1 10 (by decide)) b_7 ?_
      refine wp_cmp_ge 75 48 rfl rfl i_233_45 (fun c_8 => ?_) (fun c_8 => ?_)
      · rw [if_pos c_8] at hd
        exact aWp.post (aWp.forget (ih.2.2 _ _ _ _ HH.1 hd) ((lvS (lvS lvE)))) (fun _ _ hq => ⟨hq.1, HH.tr hq.2⟩)
      · rw [if_neg c_8] at hd
        refine wp_s 49 [some (.ref 382), some (.int x1)] [.ref 382] h0 i_233_48 rfl ?_
        refine wp_s 50 [some (.ref 382), some (.int x1)] [.ref 382, .ref 382] h0 i_233_49 rfl ?_
        refine wp_get (v := .ref 393) 53 rfl i_233_50 (HH.1 0 (by decide)) rfl ?_
        refine wp_s 54 [some (.ref 382), some (.int x1)] [.int x1, .ref 393, .ref 382] h0 i_233_53 rfl ?_
        obtain ⟨b_9, hd⟩ := dk_if hd
        refine wp_iald (f := (S.2.1 23)) 55 rfl i_233_54 (HH.1 11 (by decide)) b_9 ?_
        refine wp_s 56 [some (.ref 382), some (.int x1)] [.int x1, .int ((S.2.1 23) x1.toNatClampNeg), .ref 382] h0 i_233_55 rfl ?_
        obtain ⟨z_10, q_11, hd⟩ := dk_bind hd
        refine wp_callV 59 rfl i_233_56 (by decide) rfl (vs := [.int ((S.2.1 23) x1.toNatClampNeg), .int x1]) (rest := []) rfl rfl rfl (HH.1 0 (by decide)) (y := m_231) rfl (Nat.le_of_ble_eq_true rfl) (d_231_ok (d := e) (by omega) HH.1 q_11) ?_
        rintro v_14 h_12 ⟨rfl, H_13⟩
        have H_13 := HH.tr H_13
        refine wp_if_ne 75 62 rfl rfl i_233_59 (fun c_15 => ?_) (fun c_15 => ?_)
        · rw [if_pos c_15] at hd
          exact aWp.post (aWp.forget (ih.2.2 _ _ _ _ H_13.1 hd) ((lvS (lvS lvE)))) (fun _ _ hq => ⟨hq.1, H_13.tr hq.2⟩)
        · rw [if_neg c_15] at hd
          refine wp_s 63 [some (.ref 382), some (.int x1)] [.ref 382] h_12 i_233_62 rfl ?_
          refine wp_get (v := .ref 393) 66 rfl i_233_63 (H_13.1 0 (by decide)) rfl ?_
          refine wp_s 67 [some (.ref 382), some (.int x1)] [.int x1, .ref 393] h_12 i_233_66 rfl ?_
          refine wp_s 68 [some (.ref 382), some (.int x1)] [.int x1, .ref 393, .int x1, .ref 393] h_12 i_233_67 rfl ?_
          obtain ⟨b_16, hd⟩ := dk_if hd
          refine wp_iald (f := (z_10.2.2.1 23)) 69 rfl i_233_68 (H_13.1 11 (by decide)) b_16 ?_
          refine wp_s 70 [some (.ref 382), some (.int x1)] [.int (1 : Int32), .int ((z_10.2.2.1 23) x1.toNatClampNeg), .int x1, .ref 393] h_12 i_233_69 rfl ?_
          refine wp_s 71 [some (.ref 382), some (.int x1)] [.int (((z_10.2.2.1 23) x1.toNatClampNeg) + (1 : Int32)), .int x1, .ref 393] h_12 i_233_70 rfl ?_
          obtain ⟨b_17, hd⟩ := dk_if hd
          refine rq_A23 72 rfl i_233_71 H_13 b_17 (fun h_18 H_19 => ?_)
          refine wp_s 33 [some (.ref 382), some (.int x1)] [] h_18 i_233_72 rfl ?_
          exact aWp.post (aWp.forget (ih.2.1 _ _ _ _ H_19.1 hd) ((lvS (lvS lvE)))) (fun _ _ hq => ⟨hq.1, H_19.tr hq.2⟩)
    · intro x1 S h0 zz HS hd
      unfold l_233 at hd
      rw [if_neg (by decide), if_neg (by decide), if_pos rfl] at hd
      have HH := rTo.rf HS
      obtain ⟨e, rfl⟩ : ∃ e, d = e + 1 := ⟨d - 1, by omega⟩
      refine wp_s 76 [some (.ref 382), some (.int x1)] [.ref 382] h0 i_233_75 rfl ?_
      refine wp_get (v := .ref 393) 79 rfl i_233_76 (HH.1 0 (by decide)) rfl ?_
      refine wp_s 80 [some (.ref 382), some (.int x1)] [.int x1, .ref 393] h0 i_233_79 rfl ?_
      obtain ⟨b_20, hd⟩ := dk_if hd
      refine wp_iald (f := (S.2.1 23)) 81 rfl i_233_80 (HH.1 11 (by decide)) b_20 ?_
      refine wp_s 82 [some (.ref 382), some (.int x1)] [.ref 382, .int ((S.2.1 23) x1.toNatClampNeg)] h0 i_233_81 rfl ?_
      refine wp_get (v := .ref 392) 85 rfl i_233_82 (HH.1 0 (by decide)) rfl ?_
      refine wp_s 86 [some (.ref 382), some (.int x1)] [.int (3 : Int32), .ref 392, .int ((S.2.1 23) x1.toNatClampNeg)] h0 i_233_85 rfl ?_
      obtain ⟨b_21, hd⟩ := dk_if hd
      refine wp_iald (f := (S.2.1 20)) 87 rfl i_233_86 (HH.1 10 (by decide)) b_21 ?_
      refine wp_cmp_lt 96 90 rfl rfl i_233_87 (fun c_22 => ?_) (fun c_22 => ?_)
      · rw [if_pos c_22] at hd
        refine wp_s 97 [some (.ref 382), some (.int x1)] [.ref 382] h0 i_233_96 rfl ?_
        refine wp_s 98 [some (.ref 382), some (.int x1)] [.int x1, .ref 382] h0 i_233_97 rfl ?_
        refine wp_s 99 [some (.ref 382), some (.int x1)] [.int (1 : Int32), .int x1, .ref 382] h0 i_233_98 rfl ?_
        refine wp_s 100 [some (.ref 382), some (.int x1)] [.int (x1 + (1 : Int32)), .ref 382] h0 i_233_99 rfl ?_
        obtain ⟨z_23, q_24, hd⟩ := dk_bind hd
        refine wp_callV 103 rfl i_233_100 (by decide) rfl (vs := [.int (x1 + (1 : Int32))]) (rest := []) rfl rfl rfl (HH.1 0 (by decide)) (y := m_232) rfl (Nat.le_of_ble_eq_true rfl) (d_232_ok (d := e) (by omega) HH.1 q_24) ?_
        rintro v_27 h_25 ⟨rfl, H_26⟩
        have H_26 := HH.tr H_26
        refine wp_s 104 [some (.ref 382), some (.int x1)] [.int x1] h_25 i_233_103 rfl ?_
        refine wp_s 105 [some (.ref 382), some (.int x1)] [.int (1 : Int32), .int x1] h_25 i_233_104 rfl ?_
        refine wp_s 106 [some (.ref 382), some (.int x1)] [.int (x1 + (1 : Int32))] h_25 i_233_105 rfl ?_
        refine wp_s 107 [some (.ref 382), some (.int x1)] [.ref 382, .int (x1 + (1 : Int32))] h_25 i_233_106 rfl ?_
        refine wp_get (v := .ref 392) 110 rfl i_233_107 (H_26.1 0 (by decide)) rfl ?_
        refine wp_s 111 [some (.ref 382), some (.int x1)] [.int (3 : Int32), .ref 392, .int (x1 + (1 : Int32))] h_25 i_233_110 rfl ?_
        obtain ⟨b_28, hd⟩ := dk_if hd
        refine wp_iald (f := (z_23.2.1 20)) 112 rfl i_233_111 (H_26.1 10 (by decide)) b_28 ?_
        refine wp_cmp_ge 19 115 rfl rfl i_233_112 (fun c_29 => ?_) (fun c_29 => ?_)
        · rw [if_pos c_29] at hd
          exact aWp.post (aWp.forget (ih.1 _ _ _ _ H_26.1 hd) ((lvS (lvS lvE)))) (fun _ _ hq => ⟨hq.1, H_26.tr hq.2⟩)
        · rw [if_neg c_29] at hd
          refine wp_s 118 [some (.ref 382), some (.int (x1 + (1 : Int32)))] [] h_25 i_233_115 rfl ?_
          refine wp_s 119 [some (.ref 382), some (.int (x1 + (1 : Int32)))] [.ref 382] h_25 i_233_118 rfl ?_
          refine wp_get (v := .ref 393) 122 rfl i_233_119 (H_26.1 0 (by decide)) rfl ?_
          refine wp_s 123 [some (.ref 382), some (.int (x1 + (1 : Int32)))] [.int (x1 + (1 : Int32)), .ref 393] h_25 i_233_122 rfl ?_
          refine wp_s 124 [some (.ref 382), some (.int (x1 + (1 : Int32)))] [.int (-1 : Int32), .int (x1 + (1 : Int32)), .ref 393] h_25 i_233_123 rfl ?_
          obtain ⟨b_30, hd⟩ := dk_if hd
          refine rq_A23 125 rfl i_233_124 H_26 b_30 (fun h_31 H_32 => ?_)
          refine wp_s 19 [some (.ref 382), some (.int (x1 + (1 : Int32)))] [] h_31 i_233_125 rfl ?_
          exact aWp.post (aWp.forget (ih.1 _ _ _ _ H_32.1 hd) ((lvS (lvS lvE)))) (fun _ _ hq => ⟨hq.1, H_32.tr hq.2⟩)
      · rw [if_neg c_22] at hd
        refine wp_s 93 [some (.ref 382), some (.int (x1 + (-1 : Int32)))] [] h0 i_233_90 rfl ?_
        refine wp_s 19 [some (.ref 382), some (.int (x1 + (-1 : Int32)))] [] h0 i_233_93 rfl ?_
        exact aWp.post (aWp.forget (ih.1 _ _ _ _ HH.1 hd) ((lvS (lvS lvE)))) (fun _ _ hq => ⟨hq.1, HH.tr hq.2⟩)
def d_233 (g : Nat)  (S : rS) : Option (rS) := ((d_232 g (0 : Int32) (rF S 29 (-1 : Int32))).bind (fun z_1003 => (if aIn (0 : Int32) 5 = true then (l_233 g g 0 (0 : Int32) (rA z_1003 23 (upd (z_1003.2.1 23) (0 : Int32).toNatClampNeg (-1 : Int32)))) else none)))
set_option maxHeartbeats 4000000 in
set_option maxRecDepth 100000 in
theorem d_233_ok {X : aX} {g d : Nat}  {S : rS} {h0 : aH} {zz : rS} (hdp : 9 ≤ d) (HS : rm h0 S) (hd : d_233 g  S = some zz) : aWp X d 233 0 (aEntL [.ref 382] 2) [] h0 (fun w h' => w = none ∧ rTo h0 zz h') := by
  unfold d_233 at hd
  have HH := rTo.rf HS
  refine wp_lv (l2 := [some (.ref 382), none]) rfl ?_
  obtain ⟨e, rfl⟩ : ∃ e, d = e + 1 := ⟨d - 1, by omega⟩
  refine wp_s 1 [some (.ref 382), none] [.ref 382] h0 i_233_0 rfl ?_
  refine wp_s 2 [some (.ref 382), none] [.int (-1 : Int32), .ref 382] h0 i_233_1 rfl ?_
  refine rq_F29 5 rfl i_233_2 HH (fun h_1001 H_1002 => ?_)
  refine wp_s 6 [some (.ref 382), none] [.ref 382] h_1001 i_233_5 rfl ?_
  refine wp_s 7 [some (.ref 382), none] [.int (0 : Int32), .ref 382] h_1001 i_233_6 rfl ?_
  obtain ⟨z_1003, q_1004, hd⟩ := dk_bind hd
  refine wp_callV 10 rfl i_233_7 (by decide) rfl (vs := [.int (0 : Int32)]) (rest := []) rfl rfl rfl (H_1002.1 0 (by decide)) (y := m_232) rfl (Nat.le_of_ble_eq_true rfl) (d_232_ok (d := e) (by omega) H_1002.1 q_1004) ?_
  rintro v_1007 h_1005 ⟨rfl, H_1006⟩
  have H_1006 := H_1002.tr H_1006
  refine wp_s 11 [some (.ref 382), none] [.int (0 : Int32)] h_1005 i_233_10 rfl ?_
  refine wp_s 12 [some (.ref 382), some (.int (0 : Int32))] [] h_1005 i_233_11 rfl ?_
  refine wp_s 13 [some (.ref 382), some (.int (0 : Int32))] [.ref 382] h_1005 i_233_12 rfl ?_
  refine wp_get (v := .ref 393) 16 rfl i_233_13 (H_1006.1 0 (by decide)) rfl ?_
  refine wp_s 17 [some (.ref 382), some (.int (0 : Int32))] [.int (0 : Int32), .ref 393] h_1005 i_233_16 rfl ?_
  refine wp_s 18 [some (.ref 382), some (.int (0 : Int32))] [.int (-1 : Int32), .int (0 : Int32), .ref 393] h_1005 i_233_17 rfl ?_
  obtain ⟨b_1008, hd⟩ := dk_if hd
  refine rq_A23 19 rfl i_233_18 H_1006 b_1008 (fun h_1009 H_1010 => ?_)
  exact aWp.post (aWp.forget ((l_233_ok hdp g).1 _ _ _ _ H_1010.1 hd) ((lvS (lvS lvE)))) (fun _ _ hq => ⟨hq.1, H_1010.tr hq.2⟩)
def d_234 (g : Nat) (x1 : Int32) (S : rS) : Option (Int32 × rS) := ((d_187 g  S).bind (fun z_1 => (if z_1.1 = 0 then some ((-3 : Int32), z_1.2) else ((d_140 g (x1.toInt64) (0 : Int64) (5 : Int64) z_1.2).bind (fun z_7 => (if ¬ z_7.1 = 0 then ((d_233 g  z_7.2).bind (fun z_13 => (if ¬ x1 = 0 then (if (z_13.1 29) < x1 then some ((-2 : Int32), z_13) else (if aIn (x1 - (1 : Int32)) 8 = true then some (((z_13.2.1 28) (x1 - (1 : Int32)).toNatClampNeg), z_13) else none)) else some ((z_13.1 30), z_13)))) else some ((-3 : Int32), z_7.2)))))))
set_option maxHeartbeats 4000000 in
set_option maxRecDepth 100000 in
theorem d_234_ok {X : aX} {g d : Nat} {x1 : Int32} {S : rS} {h0 : aH} {zz : Int32 × rS} (hdp : 10 ≤ d) (HS : rm h0 S) (hd : d_234 g x1 S = some zz) : aWp X d 234 0 (aEntL [.ref 382, .int x1] 2) [] h0 (fun w h' => w = some (.int zz.1) ∧ rTo h0 zz.2 h') := by
  unfold d_234 at hd
  have HH := rTo.rf HS
  refine wp_lv (l2 := [some (.ref 382), some (.int x1)]) rfl ?_
  obtain ⟨e, rfl⟩ : ∃ e, d = e + 1 := ⟨d - 1, by omega⟩
  refine wp_s 1 [some (.ref 382), some (.int x1)] [.ref 382] h0 i_234_0 rfl ?_
  obtain ⟨z_1, q_2, hd⟩ := dk_bind hd
  refine wp_callV 4 rfl i_234_1 (by decide) rfl (vs := []) (rest := []) rfl rfl rfl (HH.1 0 (by decide)) (y := m_187) rfl (Nat.le_of_ble_eq_true rfl) (d_187_ok (d := e) (by omega) HH.1 q_2) ?_
  rintro v_5 h_3 ⟨rfl, H_4⟩
  have H_4 := HH.tr H_4
  refine wp_if_eq 19 7 rfl rfl i_234_4 (fun c_6 => ?_) (fun c_6 => ?_)
  · rw [if_pos c_6] at hd
    refine wp_s 21 [some (.ref 382), some (.int x1)] [.int (-3 : Int32)] h_3 i_234_19 rfl ?_
    obtain rfl := Option.some.inj hd
    exact wp_iret i_234_21 ⟨rfl, H_4⟩
  · rw [if_neg c_6] at hd
    refine wp_s 8 [some (.ref 382), some (.int x1)] [.int x1] h_3 i_234_7 rfl ?_
    refine wp_s 9 [some (.ref 382), some (.int x1)] [.long (x1.toInt64)] h_3 i_234_8 rfl ?_
    refine wp_s 10 [some (.ref 382), some (.int x1)] [.long (0 : Int64), .long (x1.toInt64)] h_3 i_234_9 rfl ?_
    refine wp_s 13 [some (.ref 382), some (.int x1)] [.long (5 : Int64), .long (0 : Int64), .long (x1.toInt64)] h_3 i_234_10 rfl ?_
    obtain ⟨z_7, q_8, hd⟩ := dk_bind hd
    refine wp_callS 16 rfl i_234_13 (by decide) (vs := [.long (x1.toInt64), .long (0 : Int64), .long (5 : Int64)]) (rest := []) rfl rfl rfl (y := m_140) rfl (Nat.le_of_ble_eq_true rfl) (d_140_ok (d := e) (by omega) H_4.1 q_8) ?_
    rintro v_11 h_9 ⟨rfl, H_10⟩
    have H_10 := H_4.tr H_10
    refine wp_if_ne 22 19 rfl rfl i_234_16 (fun c_12 => ?_) (fun c_12 => ?_)
    · rw [if_pos c_12] at hd
      refine wp_s 23 [some (.ref 382), some (.int x1)] [.ref 382] h_9 i_234_22 rfl ?_
      obtain ⟨z_13, q_14, hd⟩ := dk_bind hd
      refine wp_callV 26 rfl i_234_23 (by decide) rfl (vs := []) (rest := []) rfl rfl rfl (H_10.1 0 (by decide)) (y := m_233) rfl (Nat.le_of_ble_eq_true rfl) (d_233_ok (d := e) (by omega) H_10.1 q_14) ?_
      rintro v_17 h_15 ⟨rfl, H_16⟩
      have H_16 := H_10.tr H_16
      refine wp_s 27 [some (.ref 382), some (.int x1)] [.int x1] h_15 i_234_26 rfl ?_
      refine wp_if_ne 37 30 rfl rfl i_234_27 (fun c_18 => ?_) (fun c_18 => ?_)
      · rw [if_pos c_18] at hd
        refine wp_s 38 [some (.ref 382), some (.int x1)] [.int x1] h_15 i_234_37 rfl ?_
        refine wp_s 39 [some (.ref 382), some (.int x1)] [.ref 382, .int x1] h_15 i_234_38 rfl ?_
        refine wp_get (v := .int (z_13.1 29)) 42 rfl i_234_39 (H_16.1 0 (by decide)) rfl ?_
        refine wp_cmp_gt 56 45 rfl rfl i_234_42 (fun c_19 => ?_) (fun c_19 => ?_)
        · rw [if_pos c_19] at hd
          refine wp_s 58 [some (.ref 382), some (.int x1)] [.int (-2 : Int32)] h_15 i_234_56 rfl ?_
          obtain rfl := Option.some.inj hd
          exact wp_iret i_234_58 ⟨rfl, H_16⟩
        · rw [if_neg c_19] at hd
          refine wp_s 46 [some (.ref 382), some (.int x1)] [.ref 382] h_15 i_234_45 rfl ?_
          refine wp_get (v := .ref 395) 49 rfl i_234_46 (H_16.1 0 (by decide)) rfl ?_
          refine wp_s 50 [some (.ref 382), some (.int x1)] [.int x1, .ref 395] h_15 i_234_49 rfl ?_
          refine wp_s 51 [some (.ref 382), some (.int x1)] [.int (1 : Int32), .int x1, .ref 395] h_15 i_234_50 rfl ?_
          refine wp_s 52 [some (.ref 382), some (.int x1)] [.int (x1 - (1 : Int32)), .ref 395] h_15 i_234_51 rfl ?_
          obtain ⟨b_20, hd⟩ := dk_if hd
          refine wp_iald (f := (z_13.2.1 28)) 53 rfl i_234_52 (H_16.1 13 (by decide)) b_20 ?_
          refine wp_s 58 [some (.ref 382), some (.int x1)] [.int ((z_13.2.1 28) (x1 - (1 : Int32)).toNatClampNeg)] h_15 i_234_53 rfl ?_
          obtain rfl := Option.some.inj hd
          exact wp_iret i_234_58 ⟨rfl, H_16⟩
      · rw [if_neg c_18] at hd
        refine wp_s 31 [some (.ref 382), some (.int x1)] [.ref 382] h_15 i_234_30 rfl ?_
        refine wp_get (v := .int (z_13.1 30)) 34 rfl i_234_31 (H_16.1 0 (by decide)) rfl ?_
        refine wp_s 58 [some (.ref 382), some (.int x1)] [.int (z_13.1 30)] h_15 i_234_34 rfl ?_
        obtain rfl := Option.some.inj hd
        exact wp_iret i_234_58 ⟨rfl, H_16⟩
    · rw [if_neg c_12] at hd
      refine wp_s 21 [some (.ref 382), some (.int x1)] [.int (-3 : Int32)] h_9 i_234_19 rfl ?_
      obtain rfl := Option.some.inj hd
      exact wp_iret i_234_21 ⟨rfl, H_10⟩
def l_235 (g n tag : Nat) (x1 : Int32) (x2 : Int32) (x3 : Int32) (S : rS) : Option (Int32 × rS) := match n with
  | 0 => none
  | n + 1 => if tag = 0 then (if x1 ≤ x3 then some (x2, S) else (if aIn x3 4 = true then ((d_193 g ((S.2.1 31) x3.toNatClampNeg) S).bind (fun z_3 => (l_235 g n 0 x1 (x2 + z_3.1) (x3 + (1 : Int32)) z_3.2))) else none)) else none
set_option maxHeartbeats 4000000 in
set_option maxRecDepth 100000 in
theorem l_235_ok {X : aX} {g d : Nat} (hdp : 1 ≤ d) : ∀ n, (∀ (x1 : Int32) (x2 : Int32) (x3 : Int32) (S : rS) (h0 : aH) (zz : Int32 × rS), rm h0 S → l_235 g n 0 x1 x2 x3 S = some zz → aWp X d 235 4 [some (.ref 382), some (.int x1), some (.int x2), some (.int x3)] [] h0 (fun w h' => w = some (.int zz.1) ∧ rTo h0 zz.2 h')) := by
  intro n
  induction n with
  | zero => exact fun _ _ _ _ _ _ _ hd => by simp [l_235] at hd
  | succ n ih =>
    intro x1 x2 x3 S h0 zz HS hd
    unfold l_235 at hd
    rw [if_pos rfl] at hd
    have HH := rTo.rf HS
    obtain ⟨e, rfl⟩ : ∃ e, d = e + 1 := ⟨d - 1, by omega⟩
    refine wp_s 5 [some (.ref 382), some (.int x1), some (.int x2), some (.int x3)] [.int x3] h0 i_235_4 rfl ?_
    refine wp_s 6 [some (.ref 382), some (.int x1), some (.int x2), some (.int x3)] [.int x1, .int x3] h0 i_235_5 rfl ?_
    refine wp_cmp_ge 28 9 rfl rfl i_235_6 (fun c_1 => ?_) (fun c_1 => ?_)
    · rw [if_pos c_1] at hd
      refine wp_s 29 [some (.ref 382), some (.int x1), some (.int x2), some (.int x3)] [.int x2] h0 i_235_28 rfl ?_
      obtain rfl := Option.some.inj hd
      exact wp_iret i_235_29 ⟨rfl, HH⟩
    · rw [if_neg c_1] at hd
      refine wp_s 10 [some (.ref 382), some (.int x1), some (.int x2), some (.int x3)] [.int x2] h0 i_235_9 rfl ?_
      refine wp_s 11 [some (.ref 382), some (.int x1), some (.int x2), some (.int x3)] [.ref 382, .int x2] h0 i_235_10 rfl ?_
      refine wp_s 12 [some (.ref 382), some (.int x1), some (.int x2), some (.int x3)] [.ref 382, .ref 382, .int x2] h0 i_235_11 rfl ?_
      refine wp_get (v := .ref 396) 15 rfl i_235_12 (HH.1 0 (by decide)) rfl ?_
      refine wp_s 16 [some (.ref 382), some (.int x1), some (.int x2), some (.int x3)] [.int x3, .ref 396, .ref 382, .int x2] h0 i_235_15 rfl ?_
      obtain ⟨b_2, hd⟩ := dk_if hd
      refine wp_iald (f := (S.2.1 31)) 17 rfl i_235_16 (HH.1 14 (by decide)) b_2 ?_
      obtain ⟨z_3, q_4, hd⟩ := dk_bind hd
      refine wp_callV 20 rfl i_235_17 (by decide) rfl (vs := [.int ((S.2.1 31) x3.toNatClampNeg)]) (rest := [.int x2]) rfl rfl rfl (HH.1 0 (by decide)) (y := m_193) rfl (Nat.le_of_ble_eq_true rfl) (d_193_ok (d := e) (by omega) HH.1 q_4) ?_
      rintro v_7 h_5 ⟨rfl, H_6⟩
      have H_6 := HH.tr H_6
      refine wp_s 21 [some (.ref 382), some (.int x1), some (.int x2), some (.int x3)] [.int (x2 + z_3.1)] h_5 i_235_20 rfl ?_
      refine wp_s 22 [some (.ref 382), some (.int x1), some (.int (x2 + z_3.1)), some (.int x3)] [] h_5 i_235_21 rfl ?_
      refine wp_s 25 [some (.ref 382), some (.int x1), some (.int (x2 + z_3.1)), some (.int (x3 + (1 : Int32)))] [] h_5 i_235_22 rfl ?_
      refine wp_s 4 [some (.ref 382), some (.int x1), some (.int (x2 + z_3.1)), some (.int (x3 + (1 : Int32)))] [] h_5 i_235_25 rfl ?_
      exact aWp.post (aWp.forget (ih _ _ _ _ _ _ H_6.1 hd) ((lvS (lvS (lvS (lvS lvE)))))) (fun _ _ hq => ⟨hq.1, H_6.tr hq.2⟩)
def d_235 (g : Nat) (x1 : Int32) (S : rS) : Option (Int32 × rS) := (l_235 g g 0 x1 (0 : Int32) (0 : Int32) S)
set_option maxHeartbeats 4000000 in
set_option maxRecDepth 100000 in
theorem d_235_ok {X : aX} {g d : Nat} {x1 : Int32} {S : rS} {h0 : aH} {zz : Int32 × rS} (hdp : 1 ≤ d) (HS : rm h0 S) (hd : d_235 g x1 S = some zz) : aWp X d 235 0 (aEntL [.ref 382, .int x1] 4) [] h0 (fun w h' => w = some (.int zz.1) ∧ rTo h0 zz.2 h') := by
  unfold d_235 at hd
  have HH := rTo.rf HS
  refine wp_lv (l2 := [some (.ref 382), some (.int x1), none, none]) rfl ?_
  obtain ⟨e, rfl⟩ : ∃ e, d = e + 1 := ⟨d - 1, by omega⟩
  refine wp_s 1 [some (.ref 382), some (.int x1), none, none] [.int (0 : Int32)] h0 i_235_0 rfl ?_
  refine wp_s 2 [some (.ref 382), some (.int x1), some (.int (0 : Int32)), none] [] h0 i_235_1 rfl ?_
  refine wp_s 3 [some (.ref 382), some (.int x1), some (.int (0 : Int32)), none] [.int (0 : Int32)] h0 i_235_2 rfl ?_
  refine wp_s 4 [some (.ref 382), some (.int x1), some (.int (0 : Int32)), some (.int (0 : Int32))] [] h0 i_235_3 rfl ?_
  exact aWp.post (aWp.forget ((l_235_ok hdp g) _ _ _ _ _ _ HH.1 hd) ((lvS (lvS (lvS (lvS lvE)))))) (fun _ _ hq => ⟨hq.1, HH.tr hq.2⟩)
def l_236 (g n tag : Nat) (x1 : Int32) (x2 : Int32) (x3 : Int32) (s0 : Int32) (x4 : Int32) (x5 : Int32) (S : rS) : Option (rS) := match n with
  | 0 => none
  | n + 1 => if tag = 0 then (if x1 ≤ x3 then (l_236 g n 1 x1 x2 x3 0 0 0 S) else (if aIn x3 4 = true then ((d_216 g ((S.2.1 31) x3.toNatClampNeg) S).bind (fun z_3 => (if z_3.1 = 0 then (l_236 g n 1 x1 x2 x3 0 0 0 z_3.2) else (if aIn x3 4 = true then ((d_217 g ((z_3.2.2.1 31) x3.toNatClampNeg) (1 : Int32) (1 : Int32) z_3.2).bind (fun z_10 => (l_236 g n 0 x1 x2 (x3 + (1 : Int32)) 0 0 0 z_10))) else none)))) else none)) else if tag = 1 then (if x1 ≤ x3 then ((d_212 g x2 S).bind (fun z_16 => ((d_235 g x1 z_16.2).bind (fun z_21 => (l_236 g n 2 x1 x2 x3 (z_16.1 - z_21.1) 0 0 z_21.2))))) else (l_236 g n 2 x1 x2 x3 (0 : Int32) 0 0 S)) else if tag = 2 then (l_236 g n 3 x1 x2 x3 0 s0 (0 : Int32) S) else if tag = 3 then (if x3 ≤ x5 then (if x3 < x1 then some S else (if (S.1 29) < 0 then (l_236 g n 4 x1 x2 x3 0 x4 x5 S) else (if x4 < (S.1 30) then (l_236 g n 4 x1 x2 x3 0 x4 x5 S) else some S))) else (if aIn x5 4 = true then ((d_217 g ((S.2.1 31) x5.toNatClampNeg) (1 : Int32) (-1 : Int32) S).bind (fun z_31 => (l_236 g n 3 x1 x2 x3 0 x4 (x5 + (1 : Int32)) z_31))) else none)) else if tag = 4 then (l_236 g n 5 x1 x2 x3 0 x4 (0 : Int32) (rF (rF S 30 x4) 29 x1)) else if tag = 5 then (if x1 ≤ x5 then some S else (if aIn x5 4 = true then (if aIn x5 8 = true then (l_236 g n 5 x1 x2 x3 0 x4 (x5 + (1 : Int32)) (rA S 28 (upd (S.2.1 28) x5.toNatClampNeg ((S.2.1 31) x5.toNatClampNeg)))) else none) else none)) else none
set_option maxHeartbeats 4000000 in
set_option maxRecDepth 100000 in
theorem l_236_ok {X : aX} {g d : Nat} (hdp : 9 ≤ d) : ∀ n, (∀ (x1 : Int32) (x2 : Int32) (x3 : Int32) (s0 : Int32) (x4 : Int32) (x5 : Int32) (S : rS) (h0 : aH) (zz : rS), rm h0 S → l_236 g n 0 x1 x2 x3 s0 x4 x5 S = some zz → aWp X d 236 2 [some (.ref 382), some (.int x1), some (.int x2), some (.int x3), none, none] [] h0 (fun w h' => w = none ∧ rTo h0 zz h')) ∧ (∀ (x1 : Int32) (x2 : Int32) (x3 : Int32) (s0 : Int32) (x4 : Int32) (x5 : Int32) (S : rS) (h0 : aH) (zz : rS), rm h0 S → l_236 g n 1 x1 x2 x3 s0 x4 x5 S = some zz → aWp X d 236 38 [some (.ref 382), some (.int x1), some (.int x2), some (.int x3), none, none] [] h0 (fun w h' => w = none ∧ rTo h0 zz h')) ∧ (∀ (x1 : Int32) (x2 : Int32) (x3 : Int32) (s0 : Int32) (x4 : Int32) (x5 : Int32) (S : rS) (h0 : aH) (zz : rS), rm h0 S → l_236 g n 2 x1 x2 x3 s0 x4 x5 S = some zz → aWp X d 236 58 [some (.ref 382), some (.int x1), some (.int x2), some (.int x3), none, none] [.int s0] h0 (fun w h' => w = none ∧ rTo h0 zz h')) ∧ (∀ (x1 : Int32) (x2 : Int32) (x3 : Int32) (s0 : Int32) (x4 : Int32) (x5 : Int32) (S : rS) (h0 : aH) (zz : rS), rm h0 S → l_236 g n 3 x1 x2 x3 s0 x4 x5 S = some zz → aWp X d 236 63 [some (.ref 382), some (.int x1), some (.int x2), some (.int x3), some (.int x4), some (.int x5)] [] h0 (fun w h' => w = none ∧ rTo h0 zz h')) ∧ (∀ (x1 : Int32) (x2 : Int32) (x3 : Int32) (s0 : Int32) (x4 : Int32) (x5 : Int32) (S : rS) (h0 : aH) (zz : rS), rm h0 S → l_236 g n 4 x1 x2 x3 s0 x4 x5 S = some zz → aWp X d 236 110 [some (.ref 382), some (.int x1), some (.int x2), some (.int x3), some (.int x4), some (.int x5)] [] h0 (fun w h' => w = none ∧ rTo h0 zz h')) ∧ (∀ (x1 : Int32) (x2 : Int32) (x3 : Int32) (s0 : Int32) (x4 : Int32) (x5 : Int32) (S : rS) (h0 : aH) (zz : rS), rm h0 S → l_236 g n 5 x1 x2 x3 s0 x4 x5 S = some zz → aWp X d 236 124 [some (.ref 382), some (.int x1), some (.int x2), some (.int x3), some (.int x4), some (.int x5)] [] h0 (fun w h' => w = none ∧ rTo h0 zz h')) := by
  intro n
  induction n with
  | zero => exact ⟨fun _ _ _ _ _ _ _ _ _ _ hd => by simp [l_236] at hd, fun _ _ _ _ _ _ _ _ _ _ hd => by simp [l_236] at hd, fun _ _ _ _ _ _ _ _ _ _ hd => by simp [l_236] at hd, fun _ _ _ _ _ _ _ _ _ _ hd => by simp [l_236] at hd, fun _ _ _ _ _ _ _ _ _ _ hd => by simp [l_236] at hd, fun _ _ _ _ _ _ _ _ _ _ hd => by simp [l_236] at hd⟩
  | succ n ih =>
    refine ⟨?_, ?_, ?_, ?_, ?_, ?_⟩
    · intro x1 x2 x3 s0 x4 x5 S h0 zz HS hd
      unfold l_236 at hd
      rw [if_pos rfl] at hd
      have HH := rTo.rf HS
      obtain ⟨e, rfl⟩ : ∃ e, d = e + 1 := ⟨d - 1, by omega⟩
      refine wp_s 3 [some (.ref 382), some (.int x1), some (.int x2), some (.int x3), none, none] [.int x3] h0 i_236_2 rfl ?_
      refine wp_s 4 [some (.ref 382), some (.int x1), some (.int x2), some (.int x3), none, none] [.int x1, .int x3] h0 i_236_3 rfl ?_
      refine wp_cmp_ge 38 7 rfl rfl i_236_4 (fun c_1 => ?_) (fun c_1 => ?_)
      · rw [if_pos c_1] at hd
        exact aWp.post (aWp.forget (ih.2.1 _ _ _ _ _ _ _ _ _ HH.1 hd) ((lvS (lvS (lvS (lvS (lvN (lvN lvE)))))))) (fun _ _ hq => ⟨hq.1, HH.tr hq.2⟩)
      · rw [if_neg c_1] at hd
        refine wp_s 8 [some (.ref 382), some (.int x1), some (.int x2), some (.int x3), none, none] [.ref 382] h0 i_236_7 rfl ?_
        refine wp_s 9 [some (.ref 382), some (.int x1), some (.int x2), some (.int x3), none, none] [.ref 382, .ref 382] h0 i_236_8 rfl ?_
        refine wp_get (v := .ref 396) 12 rfl i_236_9 (HH.1 0 (by decide)) rfl ?_
        refine wp_s 13 [some (.ref 382), some (.int x1), some (.int x2), some (.int x3), none, none] [.int x3, .ref 396, .ref 382] h0 i_236_12 rfl ?_
        obtain ⟨b_2, hd⟩ := dk_if hd
        refine wp_iald (f := (S.2.1 31)) 14 rfl i_236_13 (HH.1 14 (by decide)) b_2 ?_
        obtain ⟨z_3, q_4, hd⟩ := dk_bind hd
        refine wp_callV 17 rfl i_236_14 (by decide) rfl (vs := [.int ((S.2.1 31) x3.toNatClampNeg)]) (rest := []) rfl rfl rfl (HH.1 0 (by decide)) (y := m_216) rfl (Nat.le_of_ble_eq_true rfl) (d_216_ok (d := e) (by omega) HH.1 q_4) ?_
        rintro v_7 h_5 ⟨rfl, H_6⟩
        have H_6 := HH.tr H_6
        refine wp_if_eq 38 20 rfl rfl i_236_17 (fun c_8 => ?_) (fun c_8 => ?_)
        · rw [if_pos c_8] at hd
          exact aWp.post (aWp.forget (ih.2.1 _ _ _ _ _ _ _ _ _ H_6.1 hd) ((lvS (lvS (lvS (lvS (lvN (lvN lvE)))))))) (fun _ _ hq => ⟨hq.1, H_6.tr hq.2⟩)
        · rw [if_neg c_8] at hd
          refine wp_s 21 [some (.ref 382), some (.int x1), some (.int x2), some (.int x3), none, none] [.ref 382] h_5 i_236_20 rfl ?_
          refine wp_s 22 [some (.ref 382), some (.int x1), some (.int x2), some (.int x3), none, none] [.ref 382, .ref 382] h_5 i_236_21 rfl ?_
          refine wp_get (v := .ref 396) 25 rfl i_236_22 (H_6.1 0 (by decide)) rfl ?_
          refine wp_s 26 [some (.ref 382), some (.int x1), some (.int x2), some (.int x3), none, none] [.int x3, .ref 396, .ref 382] h_5 i_236_25 rfl ?_
          obtain ⟨b_9, hd⟩ := dk_if hd
          refine wp_iald (f := (z_3.2.2.1 31)) 27 rfl i_236_26 (H_6.1 14 (by decide)) b_9 ?_
          refine wp_s 28 [some (.ref 382), some (.int x1), some (.int x2), some (.int x3), none, none] [.int (1 : Int32), .int ((z_3.2.2.1 31) x3.toNatClampNeg), .ref 382] h_5 i_236_27 rfl ?_
          refine wp_s 29 [some (.ref 382), some (.int x1), some (.int x2), some (.int x3), none, none] [.int (1 : Int32), .int (1 : Int32), .int ((z_3.2.2.1 31) x3.toNatClampNeg), .ref 382] h_5 i_236_28 rfl ?_
          obtain ⟨z_10, q_11, hd⟩ := dk_bind hd
          refine wp_callV 32 rfl i_236_29 (by decide) rfl (vs := [.int ((z_3.2.2.1 31) x3.toNatClampNeg), .int (1 : Int32), .int (1 : Int32)]) (rest := []) rfl rfl rfl (H_6.1 0 (by decide)) (y := m_217) rfl (Nat.le_of_ble_eq_true rfl) (d_217_ok (d := e) (by omega) H_6.1 q_11) ?_
          rintro v_14 h_12 ⟨rfl, H_13⟩
          have H_13 := H_6.tr H_13
          refine wp_s 35 [some (.ref 382), some (.int x1), some (.int x2), some (.int (x3 + (1 : Int32))), none, none] [] h_12 i_236_32 rfl ?_
          refine wp_s 2 [some (.ref 382), some (.int x1), some (.int x2), some (.int (x3 + (1 : Int32))), none, none] [] h_12 i_236_35 rfl ?_
          exact aWp.post (aWp.forget (ih.1 _ _ _ _ _ _ _ _ _ H_13.1 hd) ((lvS (lvS (lvS (lvS (lvN (lvN lvE)))))))) (fun _ _ hq => ⟨hq.1, H_13.tr hq.2⟩)
    · intro x1 x2 x3 s0 x4 x5 S h0 zz HS hd
      unfold l_236 at hd
      rw [if_neg (by decide), if_pos rfl] at hd
      have HH := rTo.rf HS
      obtain ⟨e, rfl⟩ : ∃ e, d = e + 1 := ⟨d - 1, by omega⟩
      refine wp_s 39 [some (.ref 382), some (.int x1), some (.int x2), some (.int x3), none, none] [.int x3] h0 i_236_38 rfl ?_
      refine wp_s 40 [some (.ref 382), some (.int x1), some (.int x2), some (.int x3), none, none] [.int x1, .int x3] h0 i_236_39 rfl ?_
      refine wp_cmp_ge 47 43 rfl rfl i_236_40 (fun c_15 => ?_) (fun c_15 => ?_)
      · rw [if_pos c_15] at hd
        refine wp_s 48 [some (.ref 382), some (.int x1), some (.int x2), some (.int x3), none, none] [.ref 382] h0 i_236_47 rfl ?_
        refine wp_s 49 [some (.ref 382), some (.int x1), some (.int x2), some (.int x3), none, none] [.int x2, .ref 382] h0 i_236_48 rfl ?_
        obtain ⟨z_16, q_17, hd⟩ := dk_bind hd
        refine wp_callV 52 rfl i_236_49 (by decide) rfl (vs := [.int x2]) (rest := []) rfl rfl rfl (HH.1 0 (by decide)) (y := m_212) rfl (Nat.le_of_ble_eq_true rfl) (d_212_ok (d := e) (by omega) HH.1 q_17) ?_
        rintro v_20 h_18 ⟨rfl, H_19⟩
        have H_19 := HH.tr H_19
        refine wp_s 53 [some (.ref 382), some (.int x1), some (.int x2), some (.int x3), none, none] [.ref 382, .int z_16.1] h_18 i_236_52 rfl ?_
        refine wp_s 54 [some (.ref 382), some (.int x1), some (.int x2), some (.int x3), none, none] [.int x1, .ref 382, .int z_16.1] h_18 i_236_53 rfl ?_
        obtain ⟨z_21, q_22, hd⟩ := dk_bind hd
        refine wp_callV 57 rfl i_236_54 (by decide) rfl (vs := [.int x1]) (rest := [.int z_16.1]) rfl rfl rfl (H_19.1 0 (by decide)) (y := m_235) rfl (Nat.le_of_ble_eq_true rfl) (d_235_ok (d := e) (by omega) H_19.1 q_22) ?_
        rintro v_25 h_23 ⟨rfl, H_24⟩
        have H_24 := H_19.tr H_24
        refine wp_s 58 [some (.ref 382), some (.int x1), some (.int x2), some (.int x3), none, none] [.int (z_16.1 - z_21.1)] h_23 i_236_57 rfl ?_
        exact aWp.post (aWp.forget (ih.2.2.1 _ _ _ _ _ _ _ _ _ H_24.1 hd) ((lvS (lvS (lvS (lvS (lvN (lvN lvE)))))))) (fun _ _ hq => ⟨hq.1, H_24.tr hq.2⟩)
      · rw [if_neg c_15] at hd
        refine wp_s 44 [some (.ref 382), some (.int x1), some (.int x2), some (.int x3), none, none] [.int (0 : Int32)] h0 i_236_43 rfl ?_
        refine wp_s 58 [some (.ref 382), some (.int x1), some (.int x2), some (.int x3), none, none] [.int (0 : Int32)] h0 i_236_44 rfl ?_
        exact aWp.post (aWp.forget (ih.2.2.1 _ _ _ _ _ _ _ _ _ HH.1 hd) ((lvS (lvS (lvS (lvS (lvN (lvN lvE)))))))) (fun _ _ hq => ⟨hq.1, HH.tr hq.2⟩)
    · intro x1 x2 x3 s0 x4 x5 S h0 zz HS hd
      unfold l_236 at hd
      rw [if_neg (by decide), if_neg (by decide), if_pos rfl] at hd
      have HH := rTo.rf HS
      obtain ⟨e, rfl⟩ : ∃ e, d = e + 1 := ⟨d - 1, by omega⟩
      refine wp_s 60 [some (.ref 382), some (.int x1), some (.int x2), some (.int x3), some (.int s0), none] [] h0 i_236_58 rfl ?_
      refine wp_s 61 [some (.ref 382), some (.int x1), some (.int x2), some (.int x3), some (.int s0), none] [.int (0 : Int32)] h0 i_236_60 rfl ?_
      refine wp_s 63 [some (.ref 382), some (.int x1), some (.int x2), some (.int x3), some (.int s0), some (.int (0 : Int32))] [] h0 i_236_61 rfl ?_
      exact aWp.post (aWp.forget (ih.2.2.2.1 _ _ _ _ _ _ _ _ _ HH.1 hd) ((lvS (lvS (lvS (lvS (lvS (lvS lvE)))))))) (fun _ _ hq => ⟨hq.1, HH.tr hq.2⟩)
    · intro x1 x2 x3 s0 x4 x5 S h0 zz HS hd
      unfold l_236 at hd
      rw [if_neg (by decide), if_neg (by decide), if_neg (by decide), if_pos rfl] at hd
      have HH := rTo.rf HS
      obtain ⟨e, rfl⟩ : ∃ e, d = e + 1 := ⟨d - 1, by omega⟩
      refine wp_s 65 [some (.ref 382), some (.int x1), some (.int x2), some (.int x3), some (.int x4), some (.int x5)] [.int x5] h0 i_236_63 rfl ?_
      refine wp_s 66 [some (.ref 382), some (.int x1), some (.int x2), some (.int x3), some (.int x4), some (.int x5)] [.int x3, .int x5] h0 i_236_65 rfl ?_
      refine wp_cmp_ge 88 69 rfl rfl i_236_66 (fun c_26 => ?_) (fun c_26 => ?_)
      · rw [if_pos c_26] at hd
        refine wp_s 89 [some (.ref 382), some (.int x1), some (.int x2), some (.int x3), some (.int x4), some (.int x5)] [.int x3] h0 i_236_88 rfl ?_
        refine wp_s 90 [some (.ref 382), some (.int x1), some (.int x2), some (.int x3), some (.int x4), some (.int x5)] [.int x1, .int x3] h0 i_236_89 rfl ?_
        refine wp_cmp_lt 109 93 rfl rfl i_236_90 (fun c_27 => ?_) (fun c_27 => ?_)
        · rw [if_pos c_27] at hd
          obtain rfl := Option.some.inj hd
          exact wp_ret i_236_109 rfl ⟨rfl, HH⟩
        · rw [if_neg c_27] at hd
          refine wp_s 94 [some (.ref 382), some (.int x1), some (.int x2), some (.int x3), some (.int x4), some (.int x5)] [.ref 382] h0 i_236_93 rfl ?_
          refine wp_get (v := .int (S.1 29)) 97 rfl i_236_94 (HH.1 0 (by decide)) rfl ?_
          refine wp_if_lt 110 100 rfl rfl i_236_97 (fun c_28 => ?_) (fun c_28 => ?_)
          · rw [if_pos c_28] at hd
            exact aWp.post (aWp.forget (ih.2.2.2.2.1 _ _ _ _ _ _ _ _ _ HH.1 hd) ((lvS (lvS (lvS (lvS (lvS (lvS lvE)))))))) (fun _ _ hq => ⟨hq.1, HH.tr hq.2⟩)
          · rw [if_neg c_28] at hd
            refine wp_s 102 [some (.ref 382), some (.int x1), some (.int x2), some (.int x3), some (.int x4), some (.int x5)] [.int x4] h0 i_236_100 rfl ?_
            refine wp_s 103 [some (.ref 382), some (.int x1), some (.int x2), some (.int x3), some (.int x4), some (.int x5)] [.ref 382, .int x4] h0 i_236_102 rfl ?_
            refine wp_get (v := .int (S.1 30)) 106 rfl i_236_103 (HH.1 0 (by decide)) rfl ?_
            refine wp_cmp_lt 110 109 rfl rfl i_236_106 (fun c_29 => ?_) (fun c_29 => ?_)
            · rw [if_pos c_29] at hd
              exact aWp.post (aWp.forget (ih.2.2.2.2.1 _ _ _ _ _ _ _ _ _ HH.1 hd) ((lvS (lvS (lvS (lvS (lvS (lvS lvE)))))))) (fun _ _ hq => ⟨hq.1, HH.tr hq.2⟩)
            · rw [if_neg c_29] at hd
              obtain rfl := Option.some.inj hd
              exact wp_ret i_236_109 rfl ⟨rfl, HH⟩
      · rw [if_neg c_26] at hd
        refine wp_s 70 [some (.ref 382), some (.int x1), some (.int x2), some (.int x3), some (.int x4), some (.int x5)] [.ref 382] h0 i_236_69 rfl ?_
        refine wp_s 71 [some (.ref 382), some (.int x1), some (.int x2), some (.int x3), some (.int x4), some (.int x5)] [.ref 382, .ref 382] h0 i_236_70 rfl ?_
        refine wp_get (v := .ref 396) 74 rfl i_236_71 (HH.1 0 (by decide)) rfl ?_
        refine wp_s 76 [some (.ref 382), some (.int x1), some (.int x2), some (.int x3), some (.int x4), some (.int x5)] [.int x5, .ref 396, .ref 382] h0 i_236_74 rfl ?_
        obtain ⟨b_30, hd⟩ := dk_if hd
        refine wp_iald (f := (S.2.1 31)) 77 rfl i_236_76 (HH.1 14 (by decide)) b_30 ?_
        refine wp_s 78 [some (.ref 382), some (.int x1), some (.int x2), some (.int x3), some (.int x4), some (.int x5)] [.int (1 : Int32), .int ((S.2.1 31) x5.toNatClampNeg), .ref 382] h0 i_236_77 rfl ?_
        refine wp_s 79 [some (.ref 382), some (.int x1), some (.int x2), some (.int x3), some (.int x4), some (.int x5)] [.int (-1 : Int32), .int (1 : Int32), .int ((S.2.1 31) x5.toNatClampNeg), .ref 382] h0 i_236_78 rfl ?_
        obtain ⟨z_31, q_32, hd⟩ := dk_bind hd
        refine wp_callV 82 rfl i_236_79 (by decide) rfl (vs := [.int ((S.2.1 31) x5.toNatClampNeg), .int (1 : Int32), .int (-1 : Int32)]) (rest := []) rfl rfl rfl (HH.1 0 (by decide)) (y := m_217) rfl (Nat.le_of_ble_eq_true rfl) (d_217_ok (d := e) (by omega) HH.1 q_32) ?_
        rintro v_35 h_33 ⟨rfl, H_34⟩
        have H_34 := HH.tr H_34
        refine wp_s 85 [some (.ref 382), some (.int x1), some (.int x2), some (.int x3), some (.int x4), some (.int (x5 + (1 : Int32)))] [] h_33 i_236_82 rfl ?_
        refine wp_s 63 [some (.ref 382), some (.int x1), some (.int x2), some (.int x3), some (.int x4), some (.int (x5 + (1 : Int32)))] [] h_33 i_236_85 rfl ?_
        exact aWp.post (aWp.forget (ih.2.2.2.1 _ _ _ _ _ _ _ _ _ H_34.1 hd) ((lvS (lvS (lvS (lvS (lvS (lvS lvE)))))))) (fun _ _ hq => ⟨hq.1, H_34.tr hq.2⟩)
    · intro x1 x2 x3 s0 x4 x5 S h0 zz HS hd
      unfold l_236 at hd
      rw [if_neg (by decide), if_neg (by decide), if_neg (by decide), if_neg (by decide), if_pos rfl] at hd
      have HH := rTo.rf HS
      obtain ⟨e, rfl⟩ : ∃ e, d = e + 1 := ⟨d - 1, by omega⟩
      refine wp_s 111 [some (.ref 382), some (.int x1), some (.int x2), some (.int x3), some (.int x4), some (.int x5)] [.ref 382] h0 i_236_110 rfl ?_
      refine wp_s 113 [some (.ref 382), some (.int x1), some (.int x2), some (.int x3), some (.int x4), some (.int x5)] [.int x4, .ref 382] h0 i_236_111 rfl ?_
      refine rq_F30 116 rfl i_236_113 HH (fun h_36 H_37 => ?_)
      refine wp_s 117 [some (.ref 382), some (.int x1), some (.int x2), some (.int x3), some (.int x4), some (.int x5)] [.ref 382] h_36 i_236_116 rfl ?_
      refine wp_s 118 [some (.ref 382), some (.int x1), some (.int x2), some (.int x3), some (.int x4), some (.int x5)] [.int x1, .ref 382] h_36 i_236_117 rfl ?_
      refine rq_F29 121 rfl i_236_118 H_37 (fun h_38 H_39 => ?_)
      refine wp_s 122 [some (.ref 382), some (.int x1), some (.int x2), some (.int x3), some (.int x4), some (.int x5)] [.int (0 : Int32)] h_38 i_236_121 rfl ?_
      refine wp_s 124 [some (.ref 382), some (.int x1), some (.int x2), some (.int x3), some (.int x4), some (.int (0 : Int32))] [] h_38 i_236_122 rfl ?_
      exact aWp.post (aWp.forget (ih.2.2.2.2.2 _ _ _ _ _ _ _ _ _ H_39.1 hd) ((lvS (lvS (lvS (lvS (lvS (lvS lvE)))))))) (fun _ _ hq => ⟨hq.1, H_39.tr hq.2⟩)
    · intro x1 x2 x3 s0 x4 x5 S h0 zz HS hd
      unfold l_236 at hd
      rw [if_neg (by decide), if_neg (by decide), if_neg (by decide), if_neg (by decide), if_neg (by decide), if_pos rfl] at hd
      have HH := rTo.rf HS
      obtain ⟨e, rfl⟩ : ∃ e, d = e + 1 := ⟨d - 1, by omega⟩
      refine wp_s 126 [some (.ref 382), some (.int x1), some (.int x2), some (.int x3), some (.int x4), some (.int x5)] [.int x5] h0 i_236_124 rfl ?_
      refine wp_s 127 [some (.ref 382), some (.int x1), some (.int x2), some (.int x3), some (.int x4), some (.int x5)] [.int x1, .int x5] h0 i_236_126 rfl ?_
      refine wp_cmp_ge 150 130 rfl rfl i_236_127 (fun c_40 => ?_) (fun c_40 => ?_)
      · rw [if_pos c_40] at hd
        obtain rfl := Option.some.inj hd
        exact wp_ret i_236_150 rfl ⟨rfl, HH⟩
      · rw [if_neg c_40] at hd
        refine wp_s 131 [some (.ref 382), some (.int x1), some (.int x2), some (.int x3), some (.int x4), some (.int x5)] [.ref 382] h0 i_236_130 rfl ?_
        refine wp_get (v := .ref 395) 134 rfl i_236_131 (HH.1 0 (by decide)) rfl ?_
        refine wp_s 136 [some (.ref 382), some (.int x1), some (.int x2), some (.int x3), some (.int x4), some (.int x5)] [.int x5, .ref 395] h0 i_236_134 rfl ?_
        refine wp_s 137 [some (.ref 382), some (.int x1), some (.int x2), some (.int x3), some (.int x4), some (.int x5)] [.ref 382, .int x5, .ref 395] h0 i_236_136 rfl ?_
        refine wp_get (v := .ref 396) 140 rfl i_236_137 (HH.1 0 (by decide)) rfl ?_
        refine wp_s 142 [some (.ref 382), some (.int x1), some (.int x2), some (.int x3), some (.int x4), some (.int x5)] [.int x5, .ref 396, .int x5, .ref 395] h0 i_236_140 rfl ?_
        obtain ⟨b_41, hd⟩ := dk_if hd
        refine wp_iald (f := (S.2.1 31)) 143 rfl i_236_142 (HH.1 14 (by decide)) b_41 ?_
        obtain ⟨b_42, hd⟩ := dk_if hd
        refine rq_A28 144 rfl i_236_143 HH b_42 (fun h_43 H_44 => ?_)
        refine wp_s 147 [some (.ref 382), some (.int x1), some (.int x2), some (.int x3), some (.int x4), some (.int (x5 + (1 : Int32)))] [] h_43 i_236_144 rfl ?_
        refine wp_s 124 [some (.ref 382), some (.int x1), some (.int x2), some (.int x3), some (.int x4), some (.int (x5 + (1 : Int32)))] [] h_43 i_236_147 rfl ?_
        exact aWp.post (aWp.forget (ih.2.2.2.2.2 _ _ _ _ _ _ _ _ _ H_44.1 hd) ((lvS (lvS (lvS (lvS (lvS (lvS lvE)))))))) (fun _ _ hq => ⟨hq.1, H_44.tr hq.2⟩)
def d_236 (g : Nat) (x1 : Int32) (x2 : Int32) (S : rS) : Option (rS) := (l_236 g g 0 x1 x2 (0 : Int32) 0 0 0 S)
set_option maxHeartbeats 4000000 in
set_option maxRecDepth 100000 in
theorem d_236_ok {X : aX} {g d : Nat} {x1 : Int32} {x2 : Int32} {S : rS} {h0 : aH} {zz : rS} (hdp : 9 ≤ d) (HS : rm h0 S) (hd : d_236 g x1 x2 S = some zz) : aWp X d 236 0 (aEntL [.ref 382, .int x1, .int x2] 6) [] h0 (fun w h' => w = none ∧ rTo h0 zz h') := by
  unfold d_236 at hd
  have HH := rTo.rf HS
  refine wp_lv (l2 := [some (.ref 382), some (.int x1), some (.int x2), none, none, none]) rfl ?_
  obtain ⟨e, rfl⟩ : ∃ e, d = e + 1 := ⟨d - 1, by omega⟩
  refine wp_s 1 [some (.ref 382), some (.int x1), some (.int x2), none, none, none] [.int (0 : Int32)] h0 i_236_0 rfl ?_
  refine wp_s 2 [some (.ref 382), some (.int x1), some (.int x2), some (.int (0 : Int32)), none, none] [] h0 i_236_1 rfl ?_
  exact aWp.post (aWp.forget ((l_236_ok hdp g).1 _ _ _ _ _ _ _ _ _ HH.1 hd) ((lvS (lvS (lvS (lvS (lvN (lvN lvE)))))))) (fun _ _ hq => ⟨hq.1, HH.tr hq.2⟩)
def l_237 (g n tag : Nat) (x1 : Int32) (x2 : Int32) (x3 : Int32) (S : rS) : Option (Int32 × rS) := match n with
  | 0 => none
  | n + 1 => if tag = 0 then (if x2 < 0 then (l_237 g n 1 x1 x2 0 S) else (if aIn x2 4 = true then (if aIn (1 : Int32) 181 = true then (if ¬ ((S.2.1 31) x2.toNatClampNeg) = (((S.2.1 20) (1 : Int32).toNatClampNeg) - (1 : Int32)) then (l_237 g n 1 x1 x2 0 S) else (l_237 g n 0 x1 (x2 + (-1 : Int32)) 0 S)) else none) else none)) else if tag = 1 then (if 0 ≤ x2 then (if aIn x2 4 = true then (if aIn x2 4 = true then (l_237 g n 2 x1 x2 (x2 + (1 : Int32)) (rA S 31 (upd (S.2.1 31) x2.toNatClampNeg (((S.2.1 31) x2.toNatClampNeg) + (1 : Int32))))) else none) else none) else some ((0 : Int32), S)) else if tag = 2 then (if x1 ≤ x3 then some ((1 : Int32), S) else (if aIn x2 4 = true then (if aIn x3 4 = true then (l_237 g n 2 x1 x2 (x3 + (1 : Int32)) (rA S 31 (upd (S.2.1 31) x3.toNatClampNeg ((S.2.1 31) x2.toNatClampNeg)))) else none) else none)) else none
set_option maxHeartbeats 4000000 in
set_option maxRecDepth 100000 in
theorem l_237_ok {X : aX} {g d : Nat} (hdp : 0 ≤ d) : ∀ n, (∀ (x1 : Int32) (x2 : Int32) (x3 : Int32) (S : rS) (h0 : aH) (zz : Int32 × rS), rm h0 S → l_237 g n 0 x1 x2 x3 S = some zz → aWp X d 237 4 [some (.ref 382), some (.int x1), some (.int x2), none] [] h0 (fun w h' => w = some (.int zz.1) ∧ rTo h0 zz.2 h')) ∧ (∀ (x1 : Int32) (x2 : Int32) (x3 : Int32) (S : rS) (h0 : aH) (zz : Int32 × rS), rm h0 S → l_237 g n 1 x1 x2 x3 S = some zz → aWp X d 237 31 [some (.ref 382), some (.int x1), some (.int x2), none] [] h0 (fun w h' => w = some (.int zz.1) ∧ rTo h0 zz.2 h')) ∧ (∀ (x1 : Int32) (x2 : Int32) (x3 : Int32) (S : rS) (h0 : aH) (zz : Int32 × rS), rm h0 S → l_237 g n 2 x1 x2 x3 S = some zz → aWp X d 237 51 [some (.ref 382), some (.int x1), some (.int x2), some (.int x3)] [] h0 (fun w h' => w = some (.int zz.1) ∧ rTo h0 zz.2 h')) := by
  intro n
  induction n with
  | zero => exact ⟨fun _ _ _ _ _ _ _ hd => by simp [l_237] at hd, fun _ _ _ _ _ _ _ hd => by simp [l_237] at hd, fun _ _ _ _ _ _ _ hd => by simp [l_237] at hd⟩
  | succ n ih =>
    refine ⟨?_, ?_, ?_⟩
    · intro x1 x2 x3 S h0 zz HS hd
      unfold l_237 at hd
      rw [if_pos rfl] at hd
      have HH := rTo.rf HS
      refine wp_s 5 [some (.ref 382), some (.int x1), some (.int x2), none] [.int x2] h0 i_237_4 rfl ?_
      refine wp_if_lt 31 8 rfl rfl i_237_5 (fun c_1 => ?_) (fun c_1 => ?_)
      · rw [if_pos c_1] at hd
        exact aWp.post (aWp.forget (ih.2.1 _ _ _ _ _ _ HH.1 hd) ((lvS (lvS (lvS (lvN lvE)))))) (fun _ _ hq => ⟨hq.1, HH.tr hq.2⟩)
      · rw [if_neg c_1] at hd
        refine wp_s 9 [some (.ref 382), some (.int x1), some (.int x2), none] [.ref 382] h0 i_237_8 rfl ?_
        refine wp_get (v := .ref 396) 12 rfl i_237_9 (HH.1 0 (by decide)) rfl ?_
        refine wp_s 13 [some (.ref 382), some (.int x1), some (.int x2), none] [.int x2, .ref 396] h0 i_237_12 rfl ?_
        obtain ⟨b_2, hd⟩ := dk_if hd
        refine wp_iald (f := (S.2.1 31)) 14 rfl i_237_13 (HH.1 14 (by decide)) b_2 ?_
        refine wp_s 15 [some (.ref 382), some (.int x1), some (.int x2), none] [.ref 382, .int ((S.2.1 31) x2.toNatClampNeg)] h0 i_237_14 rfl ?_
        refine wp_get (v := .ref 392) 18 rfl i_237_15 (HH.1 0 (by decide)) rfl ?_
        refine wp_s 19 [some (.ref 382), some (.int x1), some (.int x2), none] [.int (1 : Int32), .ref 392, .int ((S.2.1 31) x2.toNatClampNeg)] h0 i_237_18 rfl ?_
        obtain ⟨b_3, hd⟩ := dk_if hd
        refine wp_iald (f := (S.2.1 20)) 20 rfl i_237_19 (HH.1 10 (by decide)) b_3 ?_
        refine wp_s 21 [some (.ref 382), some (.int x1), some (.int x2), none] [.int (1 : Int32), .int ((S.2.1 20) (1 : Int32).toNatClampNeg), .int ((S.2.1 31) x2.toNatClampNeg)] h0 i_237_20 rfl ?_
        refine wp_s 22 [some (.ref 382), some (.int x1), some (.int x2), none] [.int (((S.2.1 20) (1 : Int32).toNatClampNeg) - (1 : Int32)), .int ((S.2.1 31) x2.toNatClampNeg)] h0 i_237_21 rfl ?_
        refine wp_cmp_ne 31 25 rfl rfl i_237_22 (fun c_4 => ?_) (fun c_4 => ?_)
        · rw [if_pos c_4] at hd
          exact aWp.post (aWp.forget (ih.2.1 _ _ _ _ _ _ HH.1 hd) ((lvS (lvS (lvS (lvN lvE)))))) (fun _ _ hq => ⟨hq.1, HH.tr hq.2⟩)
        · rw [if_neg c_4] at hd
          refine wp_s 28 [some (.ref 382), some (.int x1), some (.int (x2 + (-1 : Int32))), none] [] h0 i_237_25 rfl ?_
          refine wp_s 4 [some (.ref 382), some (.int x1), some (.int (x2 + (-1 : Int32))), none] [] h0 i_237_28 rfl ?_
          exact aWp.post (aWp.forget (ih.1 _ _ _ _ _ _ HH.1 hd) ((lvS (lvS (lvS (lvN lvE)))))) (fun _ _ hq => ⟨hq.1, HH.tr hq.2⟩)
    · intro x1 x2 x3 S h0 zz HS hd
      unfold l_237 at hd
      rw [if_neg (by decide), if_pos rfl] at hd
      have HH := rTo.rf HS
      refine wp_s 32 [some (.ref 382), some (.int x1), some (.int x2), none] [.int x2] h0 i_237_31 rfl ?_
      refine wp_if_ge 37 35 rfl rfl i_237_32 (fun c_5 => ?_) (fun c_5 => ?_)
      · rw [if_pos c_5] at hd
        refine wp_s 38 [some (.ref 382), some (.int x1), some (.int x2), none] [.ref 382] h0 i_237_37 rfl ?_
        refine wp_get (v := .ref 396) 41 rfl i_237_38 (HH.1 0 (by decide)) rfl ?_
        refine wp_s 42 [some (.ref 382), some (.int x1), some (.int x2), none] [.int x2, .ref 396] h0 i_237_41 rfl ?_
        refine wp_s 43 [some (.ref 382), some (.int x1), some (.int x2), none] [.int x2, .ref 396, .int x2, .ref 396] h0 i_237_42 rfl ?_
        obtain ⟨b_6, hd⟩ := dk_if hd
        refine wp_iald (f := (S.2.1 31)) 44 rfl i_237_43 (HH.1 14 (by decide)) b_6 ?_
        refine wp_s 45 [some (.ref 382), some (.int x1), some (.int x2), none] [.int (1 : Int32), .int ((S.2.1 31) x2.toNatClampNeg), .int x2, .ref 396] h0 i_237_44 rfl ?_
        refine wp_s 46 [some (.ref 382), some (.int x1), some (.int x2), none] [.int (((S.2.1 31) x2.toNatClampNeg) + (1 : Int32)), .int x2, .ref 396] h0 i_237_45 rfl ?_
        obtain ⟨b_7, hd⟩ := dk_if hd
        refine rq_A31 47 rfl i_237_46 HH b_7 (fun h_8 H_9 => ?_)
        refine wp_s 48 [some (.ref 382), some (.int x1), some (.int x2), none] [.int x2] h_8 i_237_47 rfl ?_
        refine wp_s 49 [some (.ref 382), some (.int x1), some (.int x2), none] [.int (1 : Int32), .int x2] h_8 i_237_48 rfl ?_
        refine wp_s 50 [some (.ref 382), some (.int x1), some (.int x2), none] [.int (x2 + (1 : Int32))] h_8 i_237_49 rfl ?_
        refine wp_s 51 [some (.ref 382), some (.int x1), some (.int x2), some (.int (x2 + (1 : Int32)))] [] h_8 i_237_50 rfl ?_
        exact aWp.post (aWp.forget (ih.2.2 _ _ _ _ _ _ H_9.1 hd) ((lvS (lvS (lvS (lvS lvE)))))) (fun _ _ hq => ⟨hq.1, H_9.tr hq.2⟩)
      · rw [if_neg c_5] at hd
        refine wp_s 36 [some (.ref 382), some (.int x1), some (.int x2), none] [.int (0 : Int32)] h0 i_237_35 rfl ?_
        obtain rfl := Option.some.inj hd
        exact wp_iretZ (z := 0) i_237_36 (by decide) ⟨rfl, HH⟩
    · intro x1 x2 x3 S h0 zz HS hd
      unfold l_237 at hd
      rw [if_neg (by decide), if_neg (by decide), if_pos rfl] at hd
      have HH := rTo.rf HS
      refine wp_s 52 [some (.ref 382), some (.int x1), some (.int x2), some (.int x3)] [.int x3] h0 i_237_51 rfl ?_
      refine wp_s 53 [some (.ref 382), some (.int x1), some (.int x2), some (.int x3)] [.int x1, .int x3] h0 i_237_52 rfl ?_
      refine wp_cmp_ge 74 56 rfl rfl i_237_53 (fun c_10 => ?_) (fun c_10 => ?_)
      · rw [if_pos c_10] at hd
        refine wp_s 75 [some (.ref 382), some (.int x1), some (.int x2), some (.int x3)] [.int (1 : Int32)] h0 i_237_74 rfl ?_
        obtain rfl := Option.some.inj hd
        exact wp_iretZ (z := 0) i_237_75 (by decide) ⟨rfl, HH⟩
      · rw [if_neg c_10] at hd
        refine wp_s 57 [some (.ref 382), some (.int x1), some (.int x2), some (.int x3)] [.ref 382] h0 i_237_56 rfl ?_
        refine wp_get (v := .ref 396) 60 rfl i_237_57 (HH.1 0 (by decide)) rfl ?_
        refine wp_s 61 [some (.ref 382), some (.int x1), some (.int x2), some (.int x3)] [.int x3, .ref 396] h0 i_237_60 rfl ?_
        refine wp_s 62 [some (.ref 382), some (.int x1), some (.int x2), some (.int x3)] [.ref 382, .int x3, .ref 396] h0 i_237_61 rfl ?_
        refine wp_get (v := .ref 396) 65 rfl i_237_62 (HH.1 0 (by decide)) rfl ?_
        refine wp_s 66 [some (.ref 382), some (.int x1), some (.int x2), some (.int x3)] [.int x2, .ref 396, .int x3, .ref 396] h0 i_237_65 rfl ?_
        obtain ⟨b_11, hd⟩ := dk_if hd
        refine wp_iald (f := (S.2.1 31)) 67 rfl i_237_66 (HH.1 14 (by decide)) b_11 ?_
        obtain ⟨b_12, hd⟩ := dk_if hd
        refine rq_A31 68 rfl i_237_67 HH b_12 (fun h_13 H_14 => ?_)
        refine wp_s 71 [some (.ref 382), some (.int x1), some (.int x2), some (.int (x3 + (1 : Int32)))] [] h_13 i_237_68 rfl ?_
        refine wp_s 51 [some (.ref 382), some (.int x1), some (.int x2), some (.int (x3 + (1 : Int32)))] [] h_13 i_237_71 rfl ?_
        exact aWp.post (aWp.forget (ih.2.2 _ _ _ _ _ _ H_14.1 hd) ((lvS (lvS (lvS (lvS lvE)))))) (fun _ _ hq => ⟨hq.1, H_14.tr hq.2⟩)
def d_237 (g : Nat) (x1 : Int32) (S : rS) : Option (Int32 × rS) := (l_237 g g 0 x1 (x1 - (1 : Int32)) 0 S)
set_option maxHeartbeats 4000000 in
set_option maxRecDepth 100000 in
theorem d_237_ok {X : aX} {g d : Nat} {x1 : Int32} {S : rS} {h0 : aH} {zz : Int32 × rS} (hdp : 0 ≤ d) (HS : rm h0 S) (hd : d_237 g x1 S = some zz) : aWp X d 237 0 (aEntL [.ref 382, .int x1] 4) [] h0 (fun w h' => w = some (.int zz.1) ∧ rTo h0 zz.2 h') := by
  unfold d_237 at hd
  have HH := rTo.rf HS
  refine wp_lv (l2 := [some (.ref 382), some (.int x1), none, none]) rfl ?_
  refine wp_s 1 [some (.ref 382), some (.int x1), none, none] [.int x1] h0 i_237_0 rfl ?_
  refine wp_s 2 [some (.ref 382), some (.int x1), none, none] [.int (1 : Int32), .int x1] h0 i_237_1 rfl ?_
  refine wp_s 3 [some (.ref 382), some (.int x1), none, none] [.int (x1 - (1 : Int32))] h0 i_237_2 rfl ?_
  refine wp_s 4 [some (.ref 382), some (.int x1), some (.int (x1 - (1 : Int32))), none] [] h0 i_237_3 rfl ?_
  exact aWp.post (aWp.forget ((l_237_ok hdp g).1 _ _ _ _ _ _ HH.1 hd) ((lvS (lvS (lvS (lvN lvE)))))) (fun _ _ hq => ⟨hq.1, HH.tr hq.2⟩)
def l_238 (g n tag : Nat) (x1 : Int32) (x2 : Int32) (x3 : Int32) (S : rS) : Option (rS) := match n with
  | 0 => none
  | n + 1 => if tag = 0 then (if (3 : Int32) < x2 then some S else (if aIn (1 : Int32) 181 = true then (if ((S.2.1 20) (1 : Int32).toNatClampNeg) ≤ 0 then some S else (l_238 g n 1 x1 x2 (0 : Int32) S)) else none)) else if tag = 1 then (if x2 ≤ x3 then (l_238 g n 2 x1 x2 (1 : Int32) S) else (if aIn x3 4 = true then (l_238 g n 1 x1 x2 (x3 + (1 : Int32)) (rA S 31 (upd (S.2.1 31) x3.toNatClampNeg (0 : Int32)))) else none)) else if tag = 2 then (if x3 = 0 then (l_238 g n 0 x1 (x2 + (1 : Int32)) 0 S) else ((d_236 g x2 x1 S).bind (fun z_9 => ((d_237 g x2 z_9).bind (fun z_14 => (l_238 g n 2 x1 x2 z_14.1 z_14.2)))))) else none
set_option maxHeartbeats 4000000 in
set_option maxRecDepth 100000 in
theorem l_238_ok {X : aX} {g d : Nat} (hdp : 10 ≤ d) : ∀ n, (∀ (x1 : Int32) (x2 : Int32) (x3 : Int32) (S : rS) (h0 : aH) (zz : rS), rm h0 S → l_238 g n 0 x1 x2 x3 S = some zz → aWp X d 238 13 [some (.ref 382), some (.int x1), some (.int x2), none] [] h0 (fun w h' => w = none ∧ rTo h0 zz h')) ∧ (∀ (x1 : Int32) (x2 : Int32) (x3 : Int32) (S : rS) (h0 : aH) (zz : rS), rm h0 S → l_238 g n 1 x1 x2 x3 S = some zz → aWp X d 238 29 [some (.ref 382), some (.int x1), some (.int x2), some (.int x3)] [] h0 (fun w h' => w = none ∧ rTo h0 zz h')) ∧ (∀ (x1 : Int32) (x2 : Int32) (x3 : Int32) (S : rS) (h0 : aH) (zz : rS), rm h0 S → l_238 g n 2 x1 x2 x3 S = some zz → aWp X d 238 49 [some (.ref 382), some (.int x1), some (.int x2), some (.int x3)] [] h0 (fun w h' => w = none ∧ rTo h0 zz h')) := by
  intro n
  induction n with
  | zero => exact ⟨fun _ _ _ _ _ _ _ hd => by simp [l_238] at hd, fun _ _ _ _ _ _ _ hd => by simp [l_238] at hd, fun _ _ _ _ _ _ _ hd => by simp [l_238] at hd⟩
  | succ n ih =>
    refine ⟨?_, ?_, ?_⟩
    · intro x1 x2 x3 S h0 zz HS hd
      unfold l_238 at hd
      rw [if_pos rfl] at hd
      have HH := rTo.rf HS
      obtain ⟨e, rfl⟩ : ∃ e, d = e + 1 := ⟨d - 1, by omega⟩
      refine wp_s 14 [some (.ref 382), some (.int x1), some (.int x2), none] [.int x2] h0 i_238_13 rfl ?_
      refine wp_s 15 [some (.ref 382), some (.int x1), some (.int x2), none] [.int (3 : Int32), .int x2] h0 i_238_14 rfl ?_
      refine wp_cmp_gt 74 18 rfl rfl i_238_15 (fun c_1 => ?_) (fun c_1 => ?_)
      · rw [if_pos c_1] at hd
        obtain rfl := Option.some.inj hd
        exact wp_ret i_238_74 rfl ⟨rfl, HH⟩
      · rw [if_neg c_1] at hd
        refine wp_s 19 [some (.ref 382), some (.int x1), some (.int x2), none] [.ref 382] h0 i_238_18 rfl ?_
        refine wp_get (v := .ref 392) 22 rfl i_238_19 (HH.1 0 (by decide)) rfl ?_
        refine wp_s 23 [some (.ref 382), some (.int x1), some (.int x2), none] [.int (1 : Int32), .ref 392] h0 i_238_22 rfl ?_
        obtain ⟨b_2, hd⟩ := dk_if hd
        refine wp_iald (f := (S.2.1 20)) 24 rfl i_238_23 (HH.1 10 (by decide)) b_2 ?_
        refine wp_if_le 74 27 rfl rfl i_238_24 (fun c_3 => ?_) (fun c_3 => ?_)
        · rw [if_pos c_3] at hd
          obtain rfl := Option.some.inj hd
          exact wp_ret i_238_74 rfl ⟨rfl, HH⟩
        · rw [if_neg c_3] at hd
          refine wp_s 28 [some (.ref 382), some (.int x1), some (.int x2), none] [.int (0 : Int32)] h0 i_238_27 rfl ?_
          refine wp_s 29 [some (.ref 382), some (.int x1), some (.int x2), some (.int (0 : Int32))] [] h0 i_238_28 rfl ?_
          exact aWp.post (aWp.forget (ih.2.1 _ _ _ _ _ _ HH.1 hd) ((lvS (lvS (lvS (lvS lvE)))))) (fun _ _ hq => ⟨hq.1, HH.tr hq.2⟩)
    · intro x1 x2 x3 S h0 zz HS hd
      unfold l_238 at hd
      rw [if_neg (by decide), if_pos rfl] at hd
      have HH := rTo.rf HS
      obtain ⟨e, rfl⟩ : ∃ e, d = e + 1 := ⟨d - 1, by omega⟩
      refine wp_s 30 [some (.ref 382), some (.int x1), some (.int x2), some (.int x3)] [.int x3] h0 i_238_29 rfl ?_
      refine wp_s 31 [some (.ref 382), some (.int x1), some (.int x2), some (.int x3)] [.int x2, .int x3] h0 i_238_30 rfl ?_
      refine wp_cmp_ge 47 34 rfl rfl i_238_31 (fun c_4 => ?_) (fun c_4 => ?_)
      · rw [if_pos c_4] at hd
        refine wp_s 48 [some (.ref 382), some (.int x1), some (.int x2), some (.int x3)] [.int (1 : Int32)] h0 i_238_47 rfl ?_
        refine wp_s 49 [some (.ref 382), some (.int x1), some (.int x2), some (.int (1 : Int32))] [] h0 i_238_48 rfl ?_
        exact aWp.post (aWp.forget (ih.2.2 _ _ _ _ _ _ HH.1 hd) ((lvS (lvS (lvS (lvS lvE)))))) (fun _ _ hq => ⟨hq.1, HH.tr hq.2⟩)
      · rw [if_neg c_4] at hd
        refine wp_s 35 [some (.ref 382), some (.int x1), some (.int x2), some (.int x3)] [.ref 382] h0 i_238_34 rfl ?_
        refine wp_get (v := .ref 396) 38 rfl i_238_35 (HH.1 0 (by decide)) rfl ?_
        refine wp_s 39 [some (.ref 382), some (.int x1), some (.int x2), some (.int x3)] [.int x3, .ref 396] h0 i_238_38 rfl ?_
        refine wp_s 40 [some (.ref 382), some (.int x1), some (.int x2), some (.int x3)] [.int (0 : Int32), .int x3, .ref 396] h0 i_238_39 rfl ?_
        obtain ⟨b_5, hd⟩ := dk_if hd
        refine rq_A31 41 rfl i_238_40 HH b_5 (fun h_6 H_7 => ?_)
        refine wp_s 44 [some (.ref 382), some (.int x1), some (.int x2), some (.int (x3 + (1 : Int32)))] [] h_6 i_238_41 rfl ?_
        refine wp_s 29 [some (.ref 382), some (.int x1), some (.int x2), some (.int (x3 + (1 : Int32)))] [] h_6 i_238_44 rfl ?_
        exact aWp.post (aWp.forget (ih.2.1 _ _ _ _ _ _ H_7.1 hd) ((lvS (lvS (lvS (lvS lvE)))))) (fun _ _ hq => ⟨hq.1, H_7.tr hq.2⟩)
    · intro x1 x2 x3 S h0 zz HS hd
      unfold l_238 at hd
      rw [if_neg (by decide), if_neg (by decide), if_pos rfl] at hd
      have HH := rTo.rf HS
      obtain ⟨e, rfl⟩ : ∃ e, d = e + 1 := ⟨d - 1, by omega⟩
      refine wp_s 50 [some (.ref 382), some (.int x1), some (.int x2), some (.int x3)] [.int x3] h0 i_238_49 rfl ?_
      refine wp_if_eq 68 53 rfl rfl i_238_50 (fun c_8 => ?_) (fun c_8 => ?_)
      · rw [if_pos c_8] at hd
        refine wp_s 71 [some (.ref 382), some (.int x1), some (.int (x2 + (1 : Int32))), some (.int x3)] [] h0 i_238_68 rfl ?_
        refine wp_s 13 [some (.ref 382), some (.int x1), some (.int (x2 + (1 : Int32))), some (.int x3)] [] h0 i_238_71 rfl ?_
        exact aWp.post (aWp.forget (ih.1 _ _ _ _ _ _ HH.1 hd) ((lvS (lvS (lvS (lvN lvE)))))) (fun _ _ hq => ⟨hq.1, HH.tr hq.2⟩)
      · rw [if_neg c_8] at hd
        refine wp_s 54 [some (.ref 382), some (.int x1), some (.int x2), some (.int x3)] [.ref 382] h0 i_238_53 rfl ?_
        refine wp_s 55 [some (.ref 382), some (.int x1), some (.int x2), some (.int x3)] [.int x2, .ref 382] h0 i_238_54 rfl ?_
        refine wp_s 56 [some (.ref 382), some (.int x1), some (.int x2), some (.int x3)] [.int x1, .int x2, .ref 382] h0 i_238_55 rfl ?_
        obtain ⟨z_9, q_10, hd⟩ := dk_bind hd
        refine wp_callV 59 rfl i_238_56 (by decide) rfl (vs := [.int x2, .int x1]) (rest := []) rfl rfl rfl (HH.1 0 (by decide)) (y := m_236) rfl (Nat.le_of_ble_eq_true rfl) (d_236_ok (d := e) (by omega) HH.1 q_10) ?_
        rintro v_13 h_11 ⟨rfl, H_12⟩
        have H_12 := HH.tr H_12
        refine wp_s 60 [some (.ref 382), some (.int x1), some (.int x2), some (.int x3)] [.ref 382] h_11 i_238_59 rfl ?_
        refine wp_s 61 [some (.ref 382), some (.int x1), some (.int x2), some (.int x3)] [.int x2, .ref 382] h_11 i_238_60 rfl ?_
        obtain ⟨z_14, q_15, hd⟩ := dk_bind hd
        refine wp_callV 64 rfl i_238_61 (by decide) rfl (vs := [.int x2]) (rest := []) rfl rfl rfl (H_12.1 0 (by decide)) (y := m_237) rfl (Nat.le_of_ble_eq_true rfl) (d_237_ok (d := e) (by omega) H_12.1 q_15) ?_
        rintro v_18 h_16 ⟨rfl, H_17⟩
        have H_17 := H_12.tr H_17
        refine wp_s 65 [some (.ref 382), some (.int x1), some (.int x2), some (.int z_14.1)] [] h_16 i_238_64 rfl ?_
        refine wp_s 49 [some (.ref 382), some (.int x1), some (.int x2), some (.int z_14.1)] [] h_16 i_238_65 rfl ?_
        exact aWp.post (aWp.forget (ih.2.2 _ _ _ _ _ _ H_17.1 hd) ((lvS (lvS (lvS (lvS lvE)))))) (fun _ _ hq => ⟨hq.1, H_17.tr hq.2⟩)
def d_238 (g : Nat) (x1 : Int32) (S : rS) : Option (rS) := ((d_236 g (0 : Int32) x1 (rF S 29 (-1 : Int32))).bind (fun z_1003 => (l_238 g g 0 x1 (1 : Int32) 0 z_1003)))
set_option maxHeartbeats 4000000 in
set_option maxRecDepth 100000 in
theorem d_238_ok {X : aX} {g d : Nat} {x1 : Int32} {S : rS} {h0 : aH} {zz : rS} (hdp : 10 ≤ d) (HS : rm h0 S) (hd : d_238 g x1 S = some zz) : aWp X d 238 0 (aEntL [.ref 382, .int x1] 4) [] h0 (fun w h' => w = none ∧ rTo h0 zz h') := by
  unfold d_238 at hd
  have HH := rTo.rf HS
  refine wp_lv (l2 := [some (.ref 382), some (.int x1), none, none]) rfl ?_
  obtain ⟨e, rfl⟩ : ∃ e, d = e + 1 := ⟨d - 1, by omega⟩
  refine wp_s 1 [some (.ref 382), some (.int x1), none, none] [.ref 382] h0 i_238_0 rfl ?_
  refine wp_s 2 [some (.ref 382), some (.int x1), none, none] [.int (-1 : Int32), .ref 382] h0 i_238_1 rfl ?_
  refine rq_F29 5 rfl i_238_2 HH (fun h_1001 H_1002 => ?_)
  refine wp_s 6 [some (.ref 382), some (.int x1), none, none] [.ref 382] h_1001 i_238_5 rfl ?_
  refine wp_s 7 [some (.ref 382), some (.int x1), none, none] [.int (0 : Int32), .ref 382] h_1001 i_238_6 rfl ?_
  refine wp_s 8 [some (.ref 382), some (.int x1), none, none] [.int x1, .int (0 : Int32), .ref 382] h_1001 i_238_7 rfl ?_
  obtain ⟨z_1003, q_1004, hd⟩ := dk_bind hd
  refine wp_callV 11 rfl i_238_8 (by decide) rfl (vs := [.int (0 : Int32), .int x1]) (rest := []) rfl rfl rfl (H_1002.1 0 (by decide)) (y := m_236) rfl (Nat.le_of_ble_eq_true rfl) (d_236_ok (d := e) (by omega) H_1002.1 q_1004) ?_
  rintro v_1007 h_1005 ⟨rfl, H_1006⟩
  have H_1006 := H_1002.tr H_1006
  refine wp_s 12 [some (.ref 382), some (.int x1), none, none] [.int (1 : Int32)] h_1005 i_238_11 rfl ?_
  refine wp_s 13 [some (.ref 382), some (.int x1), some (.int (1 : Int32)), none] [] h_1005 i_238_12 rfl ?_
  exact aWp.post (aWp.forget ((l_238_ok hdp g).1 _ _ _ _ _ _ H_1006.1 hd) ((lvS (lvS (lvS (lvN lvE)))))) (fun _ _ hq => ⟨hq.1, H_1006.tr hq.2⟩)
def d_239 (g : Nat) (x1 : Int32) (S : rS) : Option (Int32 × rS) := ((d_187 g  S).bind (fun z_1 => (if z_1.1 = 0 then some ((-1000000 : Int32), z_1.2) else ((d_140 g (x1.toInt64) (0 : Int64) (3 : Int64) z_1.2).bind (fun z_7 => (if ¬ z_7.1 = 0 then (if aIn (5 : Int32) 181 = true then ((d_238 g ((z_7.2.2.1 20) (5 : Int32).toNatClampNeg) z_7.2).bind (fun z_14 => (if ¬ x1 = 0 then (if (z_14.1 29) < x1 then some ((-2 : Int32), z_14) else (if aIn (x1 - (1 : Int32)) 8 = true then some (((z_14.2.1 28) (x1 - (1 : Int32)).toNatClampNeg), z_14) else none)) else some ((z_14.1 30), z_14)))) else none) else some ((-1000000 : Int32), z_7.2)))))))
set_option maxHeartbeats 4000000 in
set_option maxRecDepth 100000 in
theorem d_239_ok {X : aX} {g d : Nat} {x1 : Int32} {S : rS} {h0 : aH} {zz : Int32 × rS} (hdp : 11 ≤ d) (HS : rm h0 S) (hd : d_239 g x1 S = some zz) : aWp X d 239 0 (aEntL [.ref 382, .int x1] 2) [] h0 (fun w h' => w = some (.int zz.1) ∧ rTo h0 zz.2 h') := by
  unfold d_239 at hd
  have HH := rTo.rf HS
  refine wp_lv (l2 := [some (.ref 382), some (.int x1)]) rfl ?_
  obtain ⟨e, rfl⟩ : ∃ e, d = e + 1 := ⟨d - 1, by omega⟩
  refine wp_s 1 [some (.ref 382), some (.int x1)] [.ref 382] h0 i_239_0 rfl ?_
  obtain ⟨z_1, q_2, hd⟩ := dk_bind hd
  refine wp_callV 4 rfl i_239_1 (by decide) rfl (vs := []) (rest := []) rfl rfl rfl (HH.1 0 (by decide)) (y := m_187) rfl (Nat.le_of_ble_eq_true rfl) (d_187_ok (d := e) (by omega) HH.1 q_2) ?_
  rintro v_5 h_3 ⟨rfl, H_4⟩
  have H_4 := HH.tr H_4
  refine wp_if_eq 19 7 rfl rfl i_239_4 (fun c_6 => ?_) (fun c_6 => ?_)
  · rw [if_pos c_6] at hd
    refine wp_s 22 [some (.ref 382), some (.int x1)] [.int (-1000000 : Int32)] h_3 i_239_19 rfl ?_
    obtain rfl := Option.some.inj hd
    exact wp_iret i_239_22 ⟨rfl, H_4⟩
  · rw [if_neg c_6] at hd
    refine wp_s 8 [some (.ref 382), some (.int x1)] [.int x1] h_3 i_239_7 rfl ?_
    refine wp_s 9 [some (.ref 382), some (.int x1)] [.long (x1.toInt64)] h_3 i_239_8 rfl ?_
    refine wp_s 10 [some (.ref 382), some (.int x1)] [.long (0 : Int64), .long (x1.toInt64)] h_3 i_239_9 rfl ?_
    refine wp_s 13 [some (.ref 382), some (.int x1)] [.long (3 : Int64), .long (0 : Int64), .long (x1.toInt64)] h_3 i_239_10 rfl ?_
    obtain ⟨z_7, q_8, hd⟩ := dk_bind hd
    refine wp_callS 16 rfl i_239_13 (by decide) (vs := [.long (x1.toInt64), .long (0 : Int64), .long (3 : Int64)]) (rest := []) rfl rfl rfl (y := m_140) rfl (Nat.le_of_ble_eq_true rfl) (d_140_ok (d := e) (by omega) H_4.1 q_8) ?_
    rintro v_11 h_9 ⟨rfl, H_10⟩
    have H_10 := H_4.tr H_10
    refine wp_if_ne 23 19 rfl rfl i_239_16 (fun c_12 => ?_) (fun c_12 => ?_)
    · rw [if_pos c_12] at hd
      refine wp_s 24 [some (.ref 382), some (.int x1)] [.ref 382] h_9 i_239_23 rfl ?_
      refine wp_s 25 [some (.ref 382), some (.int x1)] [.ref 382, .ref 382] h_9 i_239_24 rfl ?_
      refine wp_get (v := .ref 392) 28 rfl i_239_25 (H_10.1 0 (by decide)) rfl ?_
      refine wp_s 29 [some (.ref 382), some (.int x1)] [.int (5 : Int32), .ref 392, .ref 382] h_9 i_239_28 rfl ?_
      obtain ⟨b_13, hd⟩ := dk_if hd
      refine wp_iald (f := (z_7.2.2.1 20)) 30 rfl i_239_29 (H_10.1 10 (by decide)) b_13 ?_
      obtain ⟨z_14, q_15, hd⟩ := dk_bind hd
      refine wp_callV 33 rfl i_239_30 (by decide) rfl (vs := [.int ((z_7.2.2.1 20) (5 : Int32).toNatClampNeg)]) (rest := []) rfl rfl rfl (H_10.1 0 (by decide)) (y := m_238) rfl (Nat.le_of_ble_eq_true rfl) (d_238_ok (d := e) (by omega) H_10.1 q_15) ?_
      rintro v_18 h_16 ⟨rfl, H_17⟩
      have H_17 := H_10.tr H_17
      refine wp_s 34 [some (.ref 382), some (.int x1)] [.int x1] h_16 i_239_33 rfl ?_
      refine wp_if_ne 44 37 rfl rfl i_239_34 (fun c_19 => ?_) (fun c_19 => ?_)
      · rw [if_pos c_19] at hd
        refine wp_s 45 [some (.ref 382), some (.int x1)] [.int x1] h_16 i_239_44 rfl ?_
        refine wp_s 46 [some (.ref 382), some (.int x1)] [.ref 382, .int x1] h_16 i_239_45 rfl ?_
        refine wp_get (v := .int (z_14.1 29)) 49 rfl i_239_46 (H_17.1 0 (by decide)) rfl ?_
        refine wp_cmp_gt 63 52 rfl rfl i_239_49 (fun c_20 => ?_) (fun c_20 => ?_)
        · rw [if_pos c_20] at hd
          refine wp_s 65 [some (.ref 382), some (.int x1)] [.int (-2 : Int32)] h_16 i_239_63 rfl ?_
          obtain rfl := Option.some.inj hd
          exact wp_iret i_239_65 ⟨rfl, H_17⟩
        · rw [if_neg c_20] at hd
          refine wp_s 53 [some (.ref 382), some (.int x1)] [.ref 382] h_16 i_239_52 rfl ?_
          refine wp_get (v := .ref 395) 56 rfl i_239_53 (H_17.1 0 (by decide)) rfl ?_
          refine wp_s 57 [some (.ref 382), some (.int x1)] [.int x1, .ref 395] h_16 i_239_56 rfl ?_
          refine wp_s 58 [some (.ref 382), some (.int x1)] [.int (1 : Int32), .int x1, .ref 395] h_16 i_239_57 rfl ?_
          refine wp_s 59 [some (.ref 382), some (.int x1)] [.int (x1 - (1 : Int32)), .ref 395] h_16 i_239_58 rfl ?_
          obtain ⟨b_21, hd⟩ := dk_if hd
          refine wp_iald (f := (z_14.2.1 28)) 60 rfl i_239_59 (H_17.1 13 (by decide)) b_21 ?_
          refine wp_s 65 [some (.ref 382), some (.int x1)] [.int ((z_14.2.1 28) (x1 - (1 : Int32)).toNatClampNeg)] h_16 i_239_60 rfl ?_
          obtain rfl := Option.some.inj hd
          exact wp_iret i_239_65 ⟨rfl, H_17⟩
      · rw [if_neg c_19] at hd
        refine wp_s 38 [some (.ref 382), some (.int x1)] [.ref 382] h_16 i_239_37 rfl ?_
        refine wp_get (v := .int (z_14.1 30)) 41 rfl i_239_38 (H_17.1 0 (by decide)) rfl ?_
        refine wp_s 65 [some (.ref 382), some (.int x1)] [.int (z_14.1 30)] h_16 i_239_41 rfl ?_
        obtain rfl := Option.some.inj hd
        exact wp_iret i_239_65 ⟨rfl, H_17⟩
    · rw [if_neg c_12] at hd
      refine wp_s 22 [some (.ref 382), some (.int x1)] [.int (-1000000 : Int32)] h_9 i_239_19 rfl ?_
      obtain rfl := Option.some.inj hd
      exact wp_iret i_239_22 ⟨rfl, H_10⟩
def d_240 (g : Nat) (x1 : Int32) (S : rS) : Option (Int32 × rS) := (if aIn ((96 : Int32) + ((2 : Int32) * x1)) 181 = true then some (((S.2.1 20) ((96 : Int32) + ((2 : Int32) * x1)).toNatClampNeg), S) else none)
set_option maxHeartbeats 4000000 in
set_option maxRecDepth 100000 in
theorem d_240_ok {X : aX} {g d : Nat} {x1 : Int32} {S : rS} {h0 : aH} {zz : Int32 × rS} (hdp : 0 ≤ d) (HS : rm h0 S) (hd : d_240 g x1 S = some zz) : aWp X d 240 0 (aEntL [.ref 382, .int x1] 2) [] h0 (fun w h' => w = some (.int zz.1) ∧ rTo h0 zz.2 h') := by
  unfold d_240 at hd
  have HH := rTo.rf HS
  refine wp_lv (l2 := [some (.ref 382), some (.int x1)]) rfl ?_
  refine wp_s 1 [some (.ref 382), some (.int x1)] [.ref 382] h0 i_240_0 rfl ?_
  refine wp_get (v := .ref 392) 4 rfl i_240_1 (HH.1 0 (by decide)) rfl ?_
  refine wp_s 6 [some (.ref 382), some (.int x1)] [.int (96 : Int32), .ref 392] h0 i_240_4 rfl ?_
  refine wp_s 7 [some (.ref 382), some (.int x1)] [.int (2 : Int32), .int (96 : Int32), .ref 392] h0 i_240_6 rfl ?_
  refine wp_s 8 [some (.ref 382), some (.int x1)] [.int x1, .int (2 : Int32), .int (96 : Int32), .ref 392] h0 i_240_7 rfl ?_
  refine wp_s 9 [some (.ref 382), some (.int x1)] [.int ((2 : Int32) * x1), .int (96 : Int32), .ref 392] h0 i_240_8 rfl ?_
  refine wp_s 10 [some (.ref 382), some (.int x1)] [.int ((96 : Int32) + ((2 : Int32) * x1)), .ref 392] h0 i_240_9 rfl ?_
  obtain ⟨b_1, hd⟩ := dk_if hd
  refine wp_iald (f := (S.2.1 20)) 11 rfl i_240_10 (HH.1 10 (by decide)) b_1 ?_
  obtain rfl := Option.some.inj hd
  exact wp_iret i_240_11 ⟨rfl, HH⟩
