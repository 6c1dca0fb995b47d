theorem i_132_0 : aIns 132 0 = some (.aload_n 0, 1, 0, 0, .null) := by decide +kernel
theorem i_132_1 : aIns 132 1 = some (.getfield 35, 3, 11, 3, .null) := by decide +kernel
theorem i_132_4 : aIns 132 4 = some (.getfield 110, 3, 10, 0, .null) := by decide +kernel
theorem i_132_7 : aIns 132 7 = some (.iload_n 1, 1, 0, 0, .null) := by decide +kernel
theorem i_132_8 : aIns 132 8 = some (.invokevirtual 114, 3, 55, 1, .int 5) := by decide +kernel
theorem i_132_11 : aIns 132 11 = some (.ifCond .eq 12, 3, 0, 0, .null) := by decide +kernel
theorem i_132_14 : aIns 132 14 = some (.iload_n 2, 1, 0, 0, .null) := by decide +kernel
theorem i_132_15 : aIns 132 15 = some (.ifCond .lt 8, 3, 0, 0, .null) := by decide +kernel
theorem i_132_18 : aIns 132 18 = some (.iload_n 2, 1, 0, 0, .null) := by decide +kernel
theorem i_132_19 : aIns 132 19 = some (.iconst 1, 1, 0, 0, .int (1)) := by decide +kernel
theorem i_132_20 : aIns 132 20 = some (.if_icmp .le 5, 3, 0, 0, .null) := by decide +kernel
theorem i_132_23 : aIns 132 23 = some (.iconst (-1), 1, 0, 0, .int (-1)) := by decide +kernel
theorem i_132_24 : aIns 132 24 = some (.ireturn, 1, 0, 0, .null) := by decide +kernel
theorem i_132_25 : aIns 132 25 = some (.aload_n 0, 1, 0, 0, .null) := by decide +kernel
theorem i_132_26 : aIns 132 26 = some (.getfield 53, 3, 11, 5, .null) := by decide +kernel
theorem i_132_29 : aIns 132 29 = some (.iload_n 1, 1, 0, 0, .null) := by decide +kernel
theorem i_132_30 : aIns 132 30 = some (.invokevirtual 343, 3, 36, 1, .int 2) := by decide +kernel
theorem i_132_33 : aIns 132 33 = some (.aload_n 0, 1, 0, 0, .null) := by decide +kernel
theorem i_132_34 : aIns 132 34 = some (.getfield 53, 3, 11, 5, .null) := by decide +kernel
theorem i_132_37 : aIns 132 37 = some (.getfield 261, 3, 2, 2, .null) := by decide +kernel
theorem i_132_40 : aIns 132 40 = some (.iconst 1, 1, 0, 0, .int (1)) := by decide +kernel
theorem i_132_41 : aIns 132 41 = some (.iload_n 2, 1, 0, 0, .null) := by decide +kernel
theorem i_132_42 : aIns 132 42 = some (.isub, 1, 0, 0, .null) := by decide +kernel
theorem i_132_43 : aIns 132 43 = some (.invokevirtual 265, 3, 4, 1, .int 0) := by decide +kernel
theorem i_132_46 : aIns 132 46 = some (.ireturn, 1, 0, 0, .null) := by decide +kernel
theorem i_133_0 : aIns 133 0 = some (.iload_n 1, 1, 0, 0, .null) := by decide +kernel
theorem i_133_1 : aIns 133 1 = some (.ifCond .ge 5, 3, 0, 0, .null) := by decide +kernel
theorem i_133_4 : aIns 133 4 = some (.iconst (-1), 1, 0, 0, .int (-1)) := by decide +kernel
theorem i_133_5 : aIns 133 5 = some (.ireturn, 1, 0, 0, .null) := by decide +kernel
theorem i_133_6 : aIns 133 6 = some (.aload_n 0, 1, 0, 0, .null) := by decide +kernel
theorem i_133_7 : aIns 133 7 = some (.getfield 35, 3, 11, 3, .null) := by decide +kernel
theorem i_133_10 : aIns 133 10 = some (.getfield 346, 3, 10, 3, .null) := by decide +kernel
theorem i_133_13 : aIns 133 13 = some (.istore_n 2, 1, 0, 0, .null) := by decide +kernel
theorem i_133_14 : aIns 133 14 = some (.aload_n 0, 1, 0, 0, .null) := by decide +kernel
theorem i_133_15 : aIns 133 15 = some (.getfield 35, 3, 11, 3, .null) := by decide +kernel
theorem i_133_18 : aIns 133 18 = some (.iload_n 1, 1, 0, 0, .null) := by decide +kernel
theorem i_133_19 : aIns 133 19 = some (.putfield 346, 3, 10, 3, .null) := by decide +kernel
theorem i_133_22 : aIns 133 22 = some (.iload_n 2, 1, 0, 0, .null) := by decide +kernel
theorem i_133_23 : aIns 133 23 = some (.ireturn, 1, 0, 0, .null) := by decide +kernel
theorem i_134_0 : aIns 134 0 = some (.aload_n 0, 1, 0, 0, .null) := by decide +kernel
theorem i_134_1 : aIns 134 1 = some (.getfield 35, 3, 11, 3, .null) := by decide +kernel
theorem i_134_4 : aIns 134 4 = some (.getfield 110, 3, 10, 0, .null) := by decide +kernel
theorem i_134_7 : aIns 134 7 = some (.getfield 188, 3, 5, 0, .null) := by decide +kernel
theorem i_134_10 : aIns 134 10 = some (.ifCond .eq 32, 3, 0, 0, .null) := by decide +kernel
theorem i_134_13 : aIns 134 13 = some (.iload_n 1, 1, 0, 0, .null) := by decide +kernel
theorem i_134_14 : aIns 134 14 = some (.iconst 1, 1, 0, 0, .int (1)) := by decide +kernel
theorem i_134_15 : aIns 134 15 = some (.bipush 10, 2, 0, 0, .int (10)) := by decide +kernel
theorem i_134_17 : aIns 134 17 = some (.invokestatic 180, 3, 138, 3, .null) := by decide +kernel
theorem i_134_20 : aIns 134 20 = some (.ifCond .eq 22, 3, 0, 0, .null) := by decide +kernel
theorem i_134_23 : aIns 134 23 = some (.iload_n 2, 1, 0, 0, .null) := by decide +kernel
theorem i_134_24 : aIns 134 24 = some (.iconst 1, 1, 0, 0, .int (1)) := by decide +kernel
theorem i_134_25 : aIns 134 25 = some (.bipush 60, 2, 0, 0, .int (60)) := by decide +kernel
theorem i_134_27 : aIns 134 27 = some (.invokestatic 180, 3, 138, 3, .null) := by decide +kernel
theorem i_134_30 : aIns 134 30 = some (.ifCond .eq 12, 3, 0, 0, .null) := by decide +kernel
theorem i_134_33 : aIns 134 33 = some (.iload_n 3, 1, 0, 0, .null) := by decide +kernel
theorem i_134_34 : aIns 134 34 = some (.ifCond .lt 8, 3, 0, 0, .null) := by decide +kernel
theorem i_134_37 : aIns 134 37 = some (.iload_n 3, 1, 0, 0, .null) := by decide +kernel
theorem i_134_38 : aIns 134 38 = some (.iconst 1, 1, 0, 0, .int (1)) := by decide +kernel
theorem i_134_39 : aIns 134 39 = some (.if_icmp .le 5, 3, 0, 0, .null) := by decide +kernel
theorem i_134_42 : aIns 134 42 = some (.iconst (-1), 1, 0, 0, .int (-1)) := by decide +kernel
theorem i_134_43 : aIns 134 43 = some (.ireturn, 1, 0, 0, .null) := by decide +kernel
theorem i_134_44 : aIns 134 44 = some (.aload_n 0, 1, 0, 0, .null) := by decide +kernel
theorem i_134_45 : aIns 134 45 = some (.getfield 53, 3, 11, 5, .null) := by decide +kernel
theorem i_134_48 : aIns 134 48 = some (.iload_n 1, 1, 0, 0, .null) := by decide +kernel
theorem i_134_49 : aIns 134 49 = some (.iload_n 2, 1, 0, 0, .null) := by decide +kernel
theorem i_134_50 : aIns 134 50 = some (.invokevirtual 349, 3, 37, 2, .int 2) := by decide +kernel
theorem i_134_53 : aIns 134 53 = some (.iload_n 3, 1, 0, 0, .null) := by decide +kernel
theorem i_134_54 : aIns 134 54 = some (.ifCond .ne 13, 3, 0, 0, .null) := by decide +kernel
theorem i_134_57 : aIns 134 57 = some (.aload_n 0, 1, 0, 0, .null) := by decide +kernel
theorem i_134_58 : aIns 134 58 = some (.getfield 53, 3, 11, 5, .null) := by decide +kernel
theorem i_134_61 : aIns 134 61 = some (.getfield 352, 3, 2, 18, .null) := by decide +kernel
theorem i_134_64 : aIns 134 64 = some (.goto 10, 3, 0, 0, .null) := by decide +kernel
theorem i_134_67 : aIns 134 67 = some (.aload_n 0, 1, 0, 0, .null) := by decide +kernel
theorem i_134_68 : aIns 134 68 = some (.getfield 53, 3, 11, 5, .null) := by decide +kernel
theorem i_134_71 : aIns 134 71 = some (.getfield 355, 3, 2, 19, .null) := by decide +kernel
theorem i_134_74 : aIns 134 74 = some (.ireturn, 1, 0, 0, .null) := by decide +kernel
theorem i_135_0 : aIns 135 0 = some (.iload_n 1, 1, 0, 0, .null) := by decide +kernel
theorem i_135_1 : aIns 135 1 = some (.tableswitch 222 0 14 #[75, 86, 97, 108, 119, 130, 138, 146, 157, 168, 179, 190, 198, 206, 214], 75, 0, 0, .null) := by decide +kernel
theorem i_135_76 : aIns 135 76 = some (.aload_n 0, 1, 0, 0, .null) := by decide +kernel
theorem i_135_77 : aIns 135 77 = some (.getfield 35, 3, 11, 3, .null) := by decide +kernel
theorem i_135_80 : aIns 135 80 = some (.getfield 110, 3, 10, 0, .null) := by decide +kernel
theorem i_135_83 : aIns 135 83 = some (.getfield 358, 3, 5, 1, .null) := by decide +kernel
theorem i_135_86 : aIns 135 86 = some (.ireturn, 1, 0, 0, .null) := by decide +kernel
theorem i_135_87 : aIns 135 87 = some (.aload_n 0, 1, 0, 0, .null) := by decide +kernel
theorem i_135_88 : aIns 135 88 = some (.getfield 35, 3, 11, 3, .null) := by decide +kernel
theorem i_135_91 : aIns 135 91 = some (.getfield 110, 3, 10, 0, .null) := by decide +kernel
theorem i_135_94 : aIns 135 94 = some (.getfield 274, 3, 5, 2, .null) := by decide +kernel
theorem i_135_97 : aIns 135 97 = some (.ireturn, 1, 0, 0, .null) := by decide +kernel
theorem i_135_98 : aIns 135 98 = some (.aload_n 0, 1, 0, 0, .null) := by decide +kernel
theorem i_135_99 : aIns 135 99 = some (.getfield 35, 3, 11, 3, .null) := by decide +kernel
theorem i_135_102 : aIns 135 102 = some (.getfield 110, 3, 10, 0, .null) := by decide +kernel
theorem i_135_105 : aIns 135 105 = some (.getfield 94, 3, 5, 4, .null) := by decide +kernel
theorem i_135_108 : aIns 135 108 = some (.ireturn, 1, 0, 0, .null) := by decide +kernel
theorem i_135_109 : aIns 135 109 = some (.aload_n 0, 1, 0, 0, .null) := by decide +kernel
theorem i_135_110 : aIns 135 110 = some (.getfield 35, 3, 11, 3, .null) := by decide +kernel
theorem i_135_113 : aIns 135 113 = some (.getfield 110, 3, 10, 0, .null) := by decide +kernel
theorem i_135_116 : aIns 135 116 = some (.getfield 171, 3, 5, 8, .null) := by decide +kernel
theorem i_135_119 : aIns 135 119 = some (.ireturn, 1, 0, 0, .null) := by decide +kernel
theorem i_135_120 : aIns 135 120 = some (.aload_n 0, 1, 0, 0, .null) := by decide +kernel
theorem i_135_121 : aIns 135 121 = some (.getfield 35, 3, 11, 3, .null) := by decide +kernel
theorem i_135_124 : aIns 135 124 = some (.getfield 110, 3, 10, 0, .null) := by decide +kernel
theorem i_135_127 : aIns 135 127 = some (.getfield 359, 3, 5, 15, .null) := by decide +kernel
theorem i_135_130 : aIns 135 130 = some (.ireturn, 1, 0, 0, .null) := by decide +kernel
theorem i_135_131 : aIns 135 131 = some (.aload_n 0, 1, 0, 0, .null) := by decide +kernel
theorem i_135_132 : aIns 135 132 = some (.getfield 44, 3, 11, 4, .null) := by decide +kernel
theorem i_135_135 : aIns 135 135 = some (.getfield 97, 3, 9, 2, .null) := by decide +kernel
theorem i_135_138 : aIns 135 138 = some (.ireturn, 1, 0, 0, .null) := by decide +kernel
theorem i_135_139 : aIns 135 139 = some (.aload_n 0, 1, 0, 0, .null) := by decide +kernel
theorem i_135_140 : aIns 135 140 = some (.getfield 35, 3, 11, 3, .null) := by decide +kernel
theorem i_135_143 : aIns 135 143 = some (.getfield 107, 3, 10, 2, .null) := by decide +kernel
theorem i_135_146 : aIns 135 146 = some (.ireturn, 1, 0, 0, .null) := by decide +kernel
theorem i_135_147 : aIns 135 147 = some (.aload_n 0, 1, 0, 0, .null) := by decide +kernel
theorem i_135_148 : aIns 135 148 = some (.getfield 35, 3, 11, 3, .null) := by decide +kernel
theorem i_135_151 : aIns 135 151 = some (.getfield 118, 3, 10, 1, .null) := by decide +kernel
theorem i_135_154 : aIns 135 154 = some (.getfield 246, 3, 7, 13, .null) := by decide +kernel
theorem i_135_157 : aIns 135 157 = some (.ireturn, 1, 0, 0, .null) := by decide +kernel
theorem i_135_158 : aIns 135 158 = some (.aload_n 0, 1, 0, 0, .null) := by decide +kernel
theorem i_135_159 : aIns 135 159 = some (.getfield 35, 3, 11, 3, .null) := by decide +kernel
theorem i_135_162 : aIns 135 162 = some (.getfield 118, 3, 10, 1, .null) := by decide +kernel
theorem i_135_165 : aIns 135 165 = some (.getfield 243, 3, 7, 11, .null) := by decide +kernel
theorem i_135_168 : aIns 135 168 = some (.ireturn, 1, 0, 0, .null) := by decide +kernel
theorem i_135_169 : aIns 135 169 = some (.aload_n 0, 1, 0, 0, .null) := by decide +kernel
theorem i_135_170 : aIns 135 170 = some (.getfield 35, 3, 11, 3, .null) := by decide +kernel
theorem i_135_173 : aIns 135 173 = some (.getfield 118, 3, 10, 1, .null) := by decide +kernel
theorem i_135_176 : aIns 135 176 = some (.invokevirtual 218, 3, 73, 0, .int 7) := by decide +kernel
theorem i_135_179 : aIns 135 179 = some (.ireturn, 1, 0, 0, .null) := by decide +kernel
theorem i_135_180 : aIns 135 180 = some (.aload_n 0, 1, 0, 0, .null) := by decide +kernel
theorem i_135_181 : aIns 135 181 = some (.getfield 35, 3, 11, 3, .null) := by decide +kernel
theorem i_135_184 : aIns 135 184 = some (.getfield 118, 3, 10, 1, .null) := by decide +kernel
theorem i_135_187 : aIns 135 187 = some (.getfield 208, 3, 7, 8, .null) := by decide +kernel
theorem i_135_190 : aIns 135 190 = some (.ireturn, 1, 0, 0, .null) := by decide +kernel
theorem i_135_191 : aIns 135 191 = some (.aload_n 0, 1, 0, 0, .null) := by decide +kernel
theorem i_135_192 : aIns 135 192 = some (.getfield 35, 3, 11, 3, .null) := by decide +kernel
theorem i_135_195 : aIns 135 195 = some (.getfield 324, 3, 10, 8, .null) := by decide +kernel
theorem i_135_198 : aIns 135 198 = some (.ireturn, 1, 0, 0, .null) := by decide +kernel
theorem i_135_199 : aIns 135 199 = some (.aload_n 0, 1, 0, 0, .null) := by decide +kernel
theorem i_135_200 : aIns 135 200 = some (.getfield 60, 3, 11, 6, .null) := by decide +kernel
theorem i_135_203 : aIns 135 203 = some (.getfield 252, 3, 1, 2, .null) := by decide +kernel
theorem i_135_206 : aIns 135 206 = some (.ireturn, 1, 0, 0, .null) := by decide +kernel
theorem i_135_207 : aIns 135 207 = some (.aload_n 0, 1, 0, 0, .null) := by decide +kernel
theorem i_135_208 : aIns 135 208 = some (.getfield 35, 3, 11, 3, .null) := by decide +kernel
theorem i_135_211 : aIns 135 211 = some (.getfield 346, 3, 10, 3, .null) := by decide +kernel
theorem i_135_214 : aIns 135 214 = some (.ireturn, 1, 0, 0, .null) := by decide +kernel
theorem i_135_215 : aIns 135 215 = some (.aload_n 0, 1, 0, 0, .null) := by decide +kernel
theorem i_135_216 : aIns 135 216 = some (.getfield 10, 3, 11, 0, .null) := by decide +kernel
theorem i_135_219 : aIns 135 219 = some (.getfield 72, 3, 8, 1, .null) := by decide +kernel
theorem i_135_222 : aIns 135 222 = some (.ireturn, 1, 0, 0, .null) := by decide +kernel
theorem i_135_223 : aIns 135 223 = some (.iconst (-1), 1, 0, 0, .int (-1)) := by decide +kernel
theorem i_135_224 : aIns 135 224 = some (.ireturn, 1, 0, 0, .null) := by decide +kernel
theorem i_136_0 : aIns 136 0 = some (.iload_n 1, 1, 0, 0, .null) := by decide +kernel
theorem i_136_1 : aIns 136 1 = some (.ifCond .lt 8, 3, 0, 0, .null) := by decide +kernel
theorem i_136_4 : aIns 136 4 = some (.iload_n 1, 1, 0, 0, .null) := by decide +kernel
theorem i_136_5 : aIns 136 5 = some (.iconst 4, 1, 0, 0, .int (4)) := by decide +kernel
theorem i_136_6 : aIns 136 6 = some (.if_icmp .lt 5, 3, 0, 0, .null) := by decide +kernel
theorem i_136_9 : aIns 136 9 = some (.iconst (-1), 1, 0, 0, .int (-1)) := by decide +kernel
theorem i_136_10 : aIns 136 10 = some (.ireturn, 1, 0, 0, .null) := by decide +kernel
theorem i_136_11 : aIns 136 11 = some (.aload_n 0, 1, 0, 0, .null) := by decide +kernel
theorem i_136_12 : aIns 136 12 = some (.getfield 64, 3, 11, 7, .null) := by decide +kernel
theorem i_136_15 : aIns 136 15 = some (.iload_n 1, 1, 0, 0, .null) := by decide +kernel
theorem i_136_16 : aIns 136 16 = some (.aaload, 1, 0, 0, .null) := by decide +kernel
theorem i_136_17 : aIns 136 17 = some (.aload_n 0, 1, 0, 0, .null) := by decide +kernel
theorem i_136_18 : aIns 136 18 = some (.getfield 35, 3, 11, 3, .null) := by decide +kernel
theorem i_136_21 : aIns 136 21 = some (.invokevirtual 362, 3, 99, 1, .int 10) := by decide +kernel
theorem i_136_24 : aIns 136 24 = some (.aload_n 0, 1, 0, 0, .null) := by decide +kernel
theorem i_136_25 : aIns 136 25 = some (.getfield 68, 3, 11, 8, .null) := by decide +kernel
theorem i_136_28 : aIns 136 28 = some (.iload_n 1, 1, 0, 0, .null) := by decide +kernel
theorem i_136_29 : aIns 136 29 = some (.iconst 1, 1, 0, 0, .int (1)) := by decide +kernel
theorem i_136_30 : aIns 136 30 = some (.bastore, 1, 0, 0, .null) := by decide +kernel
theorem i_136_31 : aIns 136 31 = some (.aload_n 0, 1, 0, 0, .null) := by decide +kernel
theorem i_136_32 : aIns 136 32 = some (.getfield 35, 3, 11, 3, .null) := by decide +kernel
theorem i_136_35 : aIns 136 35 = some (.getfield 118, 3, 10, 1, .null) := by decide +kernel
theorem i_136_38 : aIns 136 38 = some (.getfield 246, 3, 7, 13, .null) := by decide +kernel
theorem i_136_41 : aIns 136 41 = some (.ireturn, 1, 0, 0, .null) := by decide +kernel
theorem i_137_0 : aIns 137 0 = some (.iload_n 1, 1, 0, 0, .null) := by decide +kernel
theorem i_137_1 : aIns 137 1 = some (.ifCond .lt 17, 3, 0, 0, .null) := by decide +kernel
theorem i_137_4 : aIns 137 4 = some (.iload_n 1, 1, 0, 0, .null) := by decide +kernel
theorem i_137_5 : aIns 137 5 = some (.iconst 4, 1, 0, 0, .int (4)) := by decide +kernel
theorem i_137_6 : aIns 137 6 = some (.if_icmp .ge 12, 3, 0, 0, .null) := by decide +kernel
theorem i_137_9 : aIns 137 9 = some (.aload_n 0, 1, 0, 0, .null) := by decide +kernel
theorem i_137_10 : aIns 137 10 = some (.getfield 68, 3, 11, 8, .null) := by decide +kernel
theorem i_137_13 : aIns 137 13 = some (.iload_n 1, 1, 0, 0, .null) := by decide +kernel
theorem i_137_14 : aIns 137 14 = some (.baload, 1, 0, 0, .null) := by decide +kernel
theorem i_137_15 : aIns 137 15 = some (.ifCond .ne 5, 3, 0, 0, .null) := by decide +kernel
theorem i_137_18 : aIns 137 18 = some (.iconst (-1), 1, 0, 0, .int (-1)) := by decide +kernel
theorem i_137_19 : aIns 137 19 = some (.ireturn, 1, 0, 0, .null) := by decide +kernel
theorem i_137_20 : aIns 137 20 = some (.aload_n 0, 1, 0, 0, .null) := by decide +kernel
theorem i_137_21 : aIns 137 21 = some (.getfield 35, 3, 11, 3, .null) := by decide +kernel
theorem i_137_24 : aIns 137 24 = some (.aload_n 0, 1, 0, 0, .null) := by decide +kernel
theorem i_137_25 : aIns 137 25 = some (.getfield 64, 3, 11, 7, .null) := by decide +kernel
theorem i_137_28 : aIns 137 28 = some (.iload_n 1, 1, 0, 0, .null) := by decide +kernel
theorem i_137_29 : aIns 137 29 = some (.aaload, 1, 0, 0, .null) := by decide +kernel
theorem i_137_30 : aIns 137 30 = some (.invokevirtual 362, 3, 99, 1, .int 10) := by decide +kernel
theorem i_137_33 : aIns 137 33 = some (.aload_n 0, 1, 0, 0, .null) := by decide +kernel
theorem i_137_34 : aIns 137 34 = some (.getfield 60, 3, 11, 6, .null) := by decide +kernel
theorem i_137_37 : aIns 137 37 = some (.invokevirtual 91, 3, 10, 0, .int 1) := by decide +kernel
theorem i_137_40 : aIns 137 40 = some (.aload_n 0, 1, 0, 0, .null) := by decide +kernel
theorem i_137_41 : aIns 137 41 = some (.getfield 35, 3, 11, 3, .null) := by decide +kernel
theorem i_137_44 : aIns 137 44 = some (.getfield 118, 3, 10, 1, .null) := by decide +kernel
theorem i_137_47 : aIns 137 47 = some (.getfield 246, 3, 7, 13, .null) := by decide +kernel
theorem i_137_50 : aIns 137 50 = some (.ireturn, 1, 0, 0, .null) := by decide +kernel
set_option maxHeartbeats 4000000 in
set_option maxRecDepth 100000 in
theorem d_132_ok {X : aX} {S : rS} {g : Nat} {x1 : Int32} {x2 : Int32} {m : cM} {zz : Int32 × cM} {d : Nat} (hdp : 6 ≤ d) (hd : d_132 g x1 x2 m = some zz) : aWp X d 132 0 (aEntL [.ref 0, .int x1, .int x2] 3) [] (hr m S) (fun w h' => w = some (.int zz.1) ∧ h' = hr zz.2 S) := by
  unfold d_132 at hd
  refine wp_lv (l2 := [some (.ref 0), some (.int x1), some (.int x2)]) rfl ?_
  obtain ⟨e, rfl⟩ : ∃ e, d = e + 1 := ⟨d - 1, by omega⟩
  refine wp_s 1 [some (.ref 0), some (.int x1), some (.int x2)] [.ref 0] _ i_132_0 rfl ?_
  refine hm_get (w := .ref 5) 4 rfl i_132_1 (cb rfl) kk_0 rfl ?_
  obtain ⟨k_1, hd⟩ := dk_if hd
  refine hm_dyn 7 rfl i_132_4 (cb rfl) kk_5 (fun _ _ => rfl) (kd_ne0 (cO_iff k_1).2 (by decide)) ?_
  refine wp_s 8 [some (.ref 0), some (.int x1), some (.int x2)] [.int x1, .ref (m.2.2.1 5)] _ i_132_7 rfl ?_
  obtain ⟨z_2, q_3, hd⟩ := dk_bind hd
  refine wp_callV 11 rfl i_132_8 (by decide) rfl (vs := [.int x1]) (rest := []) rfl rfl rfl (hm_isO (cO_iff k_1).1 (cO_iff k_1).2) (y := m_55) rfl (Nat.le_of_ble_eq_true rfl) (d_55_ok (S := S) (d := e) (by omega) q_3) ?_
  rintro v_4 h_5 ⟨rfl, rfl⟩
  refine wp_if_eq 23 14 rfl rfl i_132_11 (fun c_6 => ?_) (fun c_6 => ?_)
  · rw [if_pos c_6] at hd
    refine wp_s 24 [some (.ref 0), some (.int x1), some (.int x2)] [.int (-1 : Int32)] _ i_132_23 rfl ?_
    obtain rfl := Option.some.inj hd
    exact wp_iret i_132_24 ⟨rfl, rfl⟩
  · rw [if_neg c_6] at hd
    refine wp_s 15 [some (.ref 0), some (.int x1), some (.int x2)] [.int x2] _ i_132_14 rfl ?_
    refine wp_if_lt 23 18 rfl rfl i_132_15 (fun c_7 => ?_) (fun c_7 => ?_)
    · rw [if_pos c_7] at hd
      refine wp_s 24 [some (.ref 0), some (.int x1), some (.int x2)] [.int (-1 : Int32)] _ i_132_23 rfl ?_
      obtain rfl := Option.some.inj hd
      exact wp_iret i_132_24 ⟨rfl, rfl⟩
    · rw [if_neg c_7] at hd
      refine wp_s 19 [some (.ref 0), some (.int x1), some (.int x2)] [.int x2] _ i_132_18 rfl ?_
      refine wp_s 20 [some (.ref 0), some (.int x1), some (.int x2)] [.int (1 : Int32), .int x2] _ i_132_19 rfl ?_
      refine wp_cmp_le 25 23 rfl rfl i_132_20 (fun c_8 => ?_) (fun c_8 => ?_)
      · rw [if_pos c_8] at hd
        refine wp_s 26 [some (.ref 0), some (.int x1), some (.int x2)] [.ref 0] _ i_132_25 rfl ?_
        refine hm_get (w := .ref 71) 29 rfl i_132_26 (cb rfl) kk_0 rfl ?_
        refine wp_s 30 [some (.ref 0), some (.int x1), some (.int x2)] [.int x1, .ref 71] _ i_132_29 rfl ?_
        obtain ⟨z_9, q_10, hd⟩ := dk_bind hd
        refine wp_callV 33 rfl i_132_30 (by decide) rfl (vs := [.int x1]) (rest := []) rfl rfl rfl (hm_isO (cb rfl) kk_71) (y := m_36) rfl (Nat.le_of_ble_eq_true rfl) (d_36_ok (S := S) (d := e) (by omega) q_10) ?_
        rintro v_11 h_12 ⟨rfl, rfl⟩
        refine wp_s 34 [some (.ref 0), some (.int x1), some (.int x2)] [.ref 0] _ i_132_33 rfl ?_
        refine hm_get (w := .ref 71) 37 rfl i_132_34 (cb rfl) kk_0 rfl ?_
        refine hm_get (w := .ref 72) 40 rfl i_132_37 (cb rfl) kk_71 rfl ?_
        refine wp_s 41 [some (.ref 0), some (.int x1), some (.int x2)] [.int (1 : Int32), .ref 72] _ i_132_40 rfl ?_
        refine wp_s 42 [some (.ref 0), some (.int x1), some (.int x2)] [.int x2, .int (1 : Int32), .ref 72] _ i_132_41 rfl ?_
        refine wp_s 43 [some (.ref 0), some (.int x1), some (.int x2)] [.int ((1 : Int32) - x2), .ref 72] _ i_132_42 rfl ?_
        obtain ⟨z_13, q_14, hd⟩ := dk_bind hd
        refine wp_callV 46 rfl i_132_43 (by decide) rfl (vs := [.int ((1 : Int32) - x2)]) (rest := []) rfl rfl rfl (hm_isO (cb rfl) kk_72) (y := m_4) rfl (Nat.le_of_ble_eq_true rfl) (d_4_ok (S := S) (d := e) (by omega) q_14) ?_
        rintro v_15 h_16 ⟨rfl, rfl⟩
        obtain rfl := Option.some.inj hd
        exact wp_iret i_132_46 ⟨rfl, rfl⟩
      · rw [if_neg c_8] at hd
        refine wp_s 24 [some (.ref 0), some (.int x1), some (.int x2)] [.int (-1 : Int32)] _ i_132_23 rfl ?_
        obtain rfl := Option.some.inj hd
        exact wp_iret i_132_24 ⟨rfl, rfl⟩
set_option maxHeartbeats 4000000 in
set_option maxRecDepth 100000 in
theorem d_133_ok {X : aX} {S : rS} {g : Nat} {x1 : Int32} {m : cM} {zz : Int32 × cM} {d : Nat} (hdp : 0 ≤ d) (hd : d_133 g x1 m = some zz) : aWp X d 133 0 (aEntL [.ref 0, .int x1] 3) [] (hr m S) (fun w h' => w = some (.int zz.1) ∧ h' = hr zz.2 S) := by
  unfold d_133 at hd
  refine wp_lv (l2 := [some (.ref 0), some (.int x1), none]) rfl ?_
  refine wp_s 1 [some (.ref 0), some (.int x1), none] [.int x1] _ i_133_0 rfl ?_
  refine wp_if_ge 6 4 rfl rfl i_133_1 (fun c_1 => ?_) (fun c_1 => ?_)
  · rw [if_pos c_1] at hd
    refine wp_s 7 [some (.ref 0), some (.int x1), none] [.ref 0] _ i_133_6 rfl ?_
    refine hm_get (w := .ref 5) 10 rfl i_133_7 (cb rfl) kk_0 rfl ?_
    refine hm_get (w := .int (m.1 5 3)) 13 rfl i_133_10 (cb rfl) kk_5 rfl ?_
    refine wp_s 14 [some (.ref 0), some (.int x1), some (.int (m.1 5 3))] [] _ i_133_13 rfl ?_
    refine wp_s 15 [some (.ref 0), some (.int x1), some (.int (m.1 5 3))] [.ref 0] _ i_133_14 rfl ?_
    refine hm_get (w := .ref 5) 18 rfl i_133_15 (cb rfl) kk_0 rfl ?_
    refine wp_s 19 [some (.ref 0), some (.int x1), some (.int (m.1 5 3))] [.int x1, .ref 5] _ i_133_18 rfl ?_
    obtain ⟨mm_2, q_3, hd⟩ := dk_bind hd
    refine hm_put 22 rfl i_133_19 (cb rfl) kk_5 (fun _ _ => rfl) (fun _ _ => Nat.le_of_ble_eq_true rfl) rfl ?_
    rw [Option.some.inj q_3]
    refine wp_s 23 [some (.ref 0), some (.int x1), some (.int (m.1 5 3))] [.int (m.1 5 3)] _ i_133_22 rfl ?_
    obtain rfl := Option.some.inj hd
    exact wp_iret i_133_23 ⟨rfl, rfl⟩
  · rw [if_neg c_1] at hd
    refine wp_s 5 [some (.ref 0), some (.int x1), none] [.int (-1 : Int32)] _ i_133_4 rfl ?_
    obtain rfl := Option.some.inj hd
    exact wp_iret i_133_5 ⟨rfl, rfl⟩
set_option maxHeartbeats 4000000 in
set_option maxRecDepth 100000 in
theorem d_134_ok {X : aX} {S : rS} {g : Nat} {x1 : Int32} {x2 : Int32} {x3 : Int32} {m : cM} {zz : Int32 × cM} {d : Nat} (hdp : 7 ≤ d) (hd : d_134 g x1 x2 x3 m = some zz) : aWp X d 134 0 (aEntL [.ref 0, .int x1, .int x2, .int x3] 4) [] (hr m S) (fun w h' => w = some (.int zz.1) ∧ h' = hr zz.2 S) := by
  unfold d_134 at hd
  refine wp_lv (l2 := [some (.ref 0), some (.int x1), some (.int x2), some (.int x3)]) rfl ?_
  obtain ⟨e, rfl⟩ : ∃ e, d = e + 1 := ⟨d - 1, by omega⟩
  refine wp_s 1 [some (.ref 0), some (.int x1), some (.int x2), some (.int x3)] [.ref 0] _ i_134_0 rfl ?_
  refine hm_get (w := .ref 5) 4 rfl i_134_1 (cb rfl) kk_0 rfl ?_
  obtain ⟨k_1, hd⟩ := dk_if hd
  refine hm_dyn 7 rfl i_134_4 (cb rfl) kk_5 (fun _ _ => rfl) (kd_ne0 (cO_iff k_1).2 (by decide)) ?_
  refine hm_get (w := .int (m.1 (m.2.2.1 5) 0)) 10 rfl i_134_7 (cO_iff k_1).1 (cO_iff k_1).2 rfl ?_
  refine wp_if_eq 42 13 rfl rfl i_134_10 (fun c_2 => ?_) (fun c_2 => ?_)
  · rw [if_pos c_2] at hd
    refine wp_s 43 [some (.ref 0), some (.int x1), some (.int x2), some (.int x3)] [.int (-1 : Int32)] _ i_134_42 rfl ?_
    obtain rfl := Option.some.inj hd
    exact wp_iret i_134_43 ⟨rfl, rfl⟩
  · rw [if_neg c_2] at hd
    refine wp_s 14 [some (.ref 0), some (.int x1), some (.int x2), some (.int x3)] [.int x1] _ i_134_13 rfl ?_
    refine wp_s 15 [some (.ref 0), some (.int x1), some (.int x2), some (.int x3)] [.int (1 : Int32), .int x1] _ i_134_14 rfl ?_
    refine wp_s 17 [some (.ref 0), some (.int x1), some (.int x2), some (.int x3)] [.int (10 : Int32), .int (1 : Int32), .int x1] _ i_134_15 rfl ?_
    obtain ⟨z_3, q_4, hd⟩ := dk_bind hd
    refine wp_callS 20 rfl i_134_17 (by decide) (vs := [.int x1, .int (1 : Int32), .int (10 : Int32)]) (rest := []) rfl rfl rfl (y := m_138) rfl (Nat.le_of_ble_eq_true rfl) (d_138_ok (S := S) (d := e) (by omega) q_4) ?_
    rintro v_5 h_6 ⟨rfl, rfl⟩
    refine wp_if_eq 42 23 rfl rfl i_134_20 (fun c_7 => ?_) (fun c_7 => ?_)
    · rw [if_pos c_7] at hd
      refine wp_s 43 [some (.ref 0), some (.int x1), some (.int x2), some (.int x3)] [.int (-1 : Int32)] _ i_134_42 rfl ?_
      obtain rfl := Option.some.inj hd
      exact wp_iret i_134_43 ⟨rfl, rfl⟩
    · rw [if_neg c_7] at hd
      refine wp_s 24 [some (.ref 0), some (.int x1), some (.int x2), some (.int x3)] [.int x2] _ i_134_23 rfl ?_
      refine wp_s 25 [some (.ref 0), some (.int x1), some (.int x2), some (.int x3)] [.int (1 : Int32), .int x2] _ i_134_24 rfl ?_
      refine wp_s 27 [some (.ref 0), some (.int x1), some (.int x2), some (.int x3)] [.int (60 : Int32), .int (1 : Int32), .int x2] _ i_134_25 rfl ?_
      obtain ⟨z_8, q_9, hd⟩ := dk_bind hd
      refine wp_callS 30 rfl i_134_27 (by decide) (vs := [.int x2, .int (1 : Int32), .int (60 : Int32)]) (rest := []) rfl rfl rfl (y := m_138) rfl (Nat.le_of_ble_eq_true rfl) (d_138_ok (S := S) (d := e) (by omega) q_9) ?_
      rintro v_10 h_11 ⟨rfl, rfl⟩
      refine wp_if_eq 42 33 rfl rfl i_134_30 (fun c_12 => ?_) (fun c_12 => ?_)
      · rw [if_pos c_12] at hd
        refine wp_s 43 [some (.ref 0), some (.int x1), some (.int x2), some (.int x3)] [.int (-1 : Int32)] _ i_134_42 rfl ?_
        obtain rfl := Option.some.inj hd
        exact wp_iret i_134_43 ⟨rfl, rfl⟩
      · rw [if_neg c_12] at hd
        refine wp_s 34 [some (.ref 0), some (.int x1), some (.int x2), some (.int x3)] [.int x3] _ i_134_33 rfl ?_
        refine wp_if_lt 42 37 rfl rfl i_134_34 (fun c_13 => ?_) (fun c_13 => ?_)
        · rw [if_pos c_13] at hd
          refine wp_s 43 [some (.ref 0), some (.int x1), some (.int x2), some (.int x3)] [.int (-1 : Int32)] _ i_134_42 rfl ?_
          obtain rfl := Option.some.inj hd
          exact wp_iret i_134_43 ⟨rfl, rfl⟩
        · rw [if_neg c_13] at hd
          refine wp_s 38 [some (.ref 0), some (.int x1), some (.int x2), some (.int x3)] [.int x3] _ i_134_37 rfl ?_
          refine wp_s 39 [some (.ref 0), some (.int x1), some (.int x2), some (.int x3)] [.int (1 : Int32), .int x3] _ i_134_38 rfl ?_
          refine wp_cmp_le 44 42 rfl rfl i_134_39 (fun c_14 => ?_) (fun c_14 => ?_)
          · rw [if_pos c_14] at hd
            refine wp_s 45 [some (.ref 0), some (.int x1), some (.int x2), some (.int x3)] [.ref 0] _ i_134_44 rfl ?_
            refine hm_get (w := .ref 71) 48 rfl i_134_45 (cb rfl) kk_0 rfl ?_
            refine wp_s 49 [some (.ref 0), some (.int x1), some (.int x2), some (.int x3)] [.int x1, .ref 71] _ i_134_48 rfl ?_
            refine wp_s 50 [some (.ref 0), some (.int x1), some (.int x2), some (.int x3)] [.int x2, .int x1, .ref 71] _ i_134_49 rfl ?_
            obtain ⟨z_15, q_16, hd⟩ := dk_bind hd
            refine wp_callV 53 rfl i_134_50 (by decide) rfl (vs := [.int x1, .int x2]) (rest := []) rfl rfl rfl (hm_isO (cb rfl) kk_71) (y := m_37) rfl (Nat.le_of_ble_eq_true rfl) (d_37_ok (S := S) (d := e) (by omega) q_16) ?_
            rintro v_17 h_18 ⟨rfl, rfl⟩
            refine wp_s 54 [some (.ref 0), some (.int x1), some (.int x2), some (.int x3)] [.int x3] _ i_134_53 rfl ?_
            refine wp_if_ne 67 57 rfl rfl i_134_54 (fun c_19 => ?_) (fun c_19 => ?_)
            · rw [if_pos c_19] at hd
              refine wp_s 68 [some (.ref 0), some (.int x1), some (.int x2), some (.int x3)] [.ref 0] _ i_134_67 rfl ?_
              refine hm_get (w := .ref 71) 71 rfl i_134_68 (cb rfl) kk_0 rfl ?_
              refine hm_get (w := .int (z_15.1 71 19)) 74 rfl i_134_71 (cb rfl) kk_71 rfl ?_
              obtain rfl := Option.some.inj hd
              exact wp_iret i_134_74 ⟨rfl, rfl⟩
            · rw [if_neg c_19] at hd
              refine wp_s 58 [some (.ref 0), some (.int x1), some (.int x2), some (.int x3)] [.ref 0] _ i_134_57 rfl ?_
              refine hm_get (w := .ref 71) 61 rfl i_134_58 (cb rfl) kk_0 rfl ?_
              refine hm_get (w := .int (z_15.1 71 18)) 64 rfl i_134_61 (cb rfl) kk_71 rfl ?_
              refine wp_s 74 [some (.ref 0), some (.int x1), some (.int x2), some (.int x3)] [.int (z_15.1 71 18)] _ i_134_64 rfl ?_
              obtain rfl := Option.some.inj hd
              exact wp_iret i_134_74 ⟨rfl, rfl⟩
          · rw [if_neg c_14] at hd
            refine wp_s 43 [some (.ref 0), some (.int x1), some (.int x2), some (.int x3)] [.int (-1 : Int32)] _ i_134_42 rfl ?_
            obtain rfl := Option.some.inj hd
            exact wp_iret i_134_43 ⟨rfl, rfl⟩
set_option maxHeartbeats 4000000 in
set_option maxRecDepth 100000 in
theorem d_135_ok {X : aX} {S : rS} {g : Nat} {x1 : Int32} {m : cM} {zz : Int32} {d : Nat} (hdp : 1 ≤ d) (hd : d_135 g x1 m = some zz) : aWp X d 135 0 (aEntL [.ref 0, .int x1] 2) [] (hr m S) (fun w h' => w = some (.int zz) ∧ h' = hr m S) := by
  unfold d_135 at hd
  refine wp_lv (l2 := [some (.ref 0), some (.int x1)]) rfl ?_
  obtain ⟨e, rfl⟩ : ∃ e, d = e + 1 := ⟨d - 1, by omega⟩
  refine wp_s 1 [some (.ref 0), some (.int x1)] [.int x1] _ i_135_0 rfl ?_
  by_cases c_1 : x1 = (0 : Int32)
  · rw [if_pos c_1] at hd
    refine wp_tswC (j := 0) 76 i_135_1 (by rw [c_1]; decide) (by decide) rfl rfl ?_
    refine wp_s 77 [some (.ref 0), some (.int x1)] [.ref 0] _ i_135_76 rfl ?_
    refine hm_get (w := .ref 5) 80 rfl i_135_77 (cb rfl) kk_0 rfl ?_
    obtain ⟨k_2, hd⟩ := dk_if hd
    refine hm_dyn 83 rfl i_135_80 (cb rfl) kk_5 (fun _ _ => rfl) (kd_ne0 (cO_iff k_2).2 (by decide)) ?_
    refine hm_get (w := .int (m.1 (m.2.2.1 5) 1)) 86 rfl i_135_83 (cO_iff k_2).1 (cO_iff k_2).2 rfl ?_
    obtain rfl := Option.some.inj hd
    exact wp_iret i_135_86 ⟨rfl, rfl⟩
  rw [if_neg c_1] at hd
  by_cases c_3 : x1 = (1 : Int32)
  · rw [if_pos c_3] at hd
    refine wp_tswC (j := 1) 87 i_135_1 (by rw [c_3]; decide) (by decide) rfl rfl ?_
    refine wp_s 88 [some (.ref 0), some (.int x1)] [.ref 0] _ i_135_87 rfl ?_
    refine hm_get (w := .ref 5) 91 rfl i_135_88 (cb rfl) kk_0 rfl ?_
    obtain ⟨k_4, hd⟩ := dk_if hd
    refine hm_dyn 94 rfl i_135_91 (cb rfl) kk_5 (fun _ _ => rfl) (kd_ne0 (cO_iff k_4).2 (by decide)) ?_
    refine hm_get (w := .int (m.1 (m.2.2.1 5) 2)) 97 rfl i_135_94 (cO_iff k_4).1 (cO_iff k_4).2 rfl ?_
    obtain rfl := Option.some.inj hd
    exact wp_iret i_135_97 ⟨rfl, rfl⟩
  rw [if_neg c_3] at hd
  by_cases c_5 : x1 = (2 : Int32)
  · rw [if_pos c_5] at hd
    refine wp_tswC (j := 2) 98 i_135_1 (by rw [c_5]; decide) (by decide) rfl rfl ?_
    refine wp_s 99 [some (.ref 0), some (.int x1)] [.ref 0] _ i_135_98 rfl ?_
    refine hm_get (w := .ref 5) 102 rfl i_135_99 (cb rfl) kk_0 rfl ?_
    obtain ⟨k_6, hd⟩ := dk_if hd
    refine hm_dyn 105 rfl i_135_102 (cb rfl) kk_5 (fun _ _ => rfl) (kd_ne0 (cO_iff k_6).2 (by decide)) ?_
    refine hm_get (w := .int (m.1 (m.2.2.1 5) 4)) 108 rfl i_135_105 (cO_iff k_6).1 (cO_iff k_6).2 rfl ?_
    obtain rfl := Option.some.inj hd
    exact wp_iret i_135_108 ⟨rfl, rfl⟩
  rw [if_neg c_5] at hd
  by_cases c_7 : x1 = (3 : Int32)
  · rw [if_pos c_7] at hd
    refine wp_tswC (j := 3) 109 i_135_1 (by rw [c_7]; decide) (by decide) rfl rfl ?_
    refine wp_s 110 [some (.ref 0), some (.int x1)] [.ref 0] _ i_135_109 rfl ?_
    refine hm_get (w := .ref 5) 113 rfl i_135_110 (cb rfl) kk_0 rfl ?_
    obtain ⟨k_8, hd⟩ := dk_if hd
    refine hm_dyn 116 rfl i_135_113 (cb rfl) kk_5 (fun _ _ => rfl) (kd_ne0 (cO_iff k_8).2 (by decide)) ?_
    refine hm_get (w := .int (m.1 (m.2.2.1 5) 8)) 119 rfl i_135_116 (cO_iff k_8).1 (cO_iff k_8).2 rfl ?_
    obtain rfl := Option.some.inj hd
    exact wp_iret i_135_119 ⟨rfl, rfl⟩
  rw [if_neg c_7] at hd
  by_cases c_9 : x1 = (4 : Int32)
  · rw [if_pos c_9] at hd
    refine wp_tswC (j := 4) 120 i_135_1 (by rw [c_9]; decide) (by decide) rfl rfl ?_
    refine wp_s 121 [some (.ref 0), some (.int x1)] [.ref 0] _ i_135_120 rfl ?_
    refine hm_get (w := .ref 5) 124 rfl i_135_121 (cb rfl) kk_0 rfl ?_
    obtain ⟨k_10, hd⟩ := dk_if hd
    refine hm_dyn 127 rfl i_135_124 (cb rfl) kk_5 (fun _ _ => rfl) (kd_ne0 (cO_iff k_10).2 (by decide)) ?_
    refine hm_get (w := .int (m.1 (m.2.2.1 5) 15)) 130 rfl i_135_127 (cO_iff k_10).1 (cO_iff k_10).2 rfl ?_
    obtain rfl := Option.some.inj hd
    exact wp_iret i_135_130 ⟨rfl, rfl⟩
  rw [if_neg c_9] at hd
  by_cases c_11 : x1 = (5 : Int32)
  · rw [if_pos c_11] at hd
    refine wp_tswC (j := 5) 131 i_135_1 (by rw [c_11]; decide) (by decide) rfl rfl ?_
    refine wp_s 132 [some (.ref 0), some (.int x1)] [.ref 0] _ i_135_131 rfl ?_
    refine hm_get (w := .ref 32) 135 rfl i_135_132 (cb rfl) kk_0 rfl ?_
    refine hm_get (w := .int (m.1 32 2)) 138 rfl i_135_135 (cb rfl) kk_32 rfl ?_
    obtain rfl := Option.some.inj hd
    exact wp_iret i_135_138 ⟨rfl, rfl⟩
  rw [if_neg c_11] at hd
  by_cases c_12 : x1 = (6 : Int32)
  · rw [if_pos c_12] at hd
    refine wp_tswC (j := 6) 139 i_135_1 (by rw [c_12]; decide) (by decide) rfl rfl ?_
    refine wp_s 140 [some (.ref 0), some (.int x1)] [.ref 0] _ i_135_139 rfl ?_
    refine hm_get (w := .ref 5) 143 rfl i_135_140 (cb rfl) kk_0 rfl ?_
    refine hm_get (w := .int (m.1 5 2)) 146 rfl i_135_143 (cb rfl) kk_5 rfl ?_
    obtain rfl := Option.some.inj hd
    exact wp_iret i_135_146 ⟨rfl, rfl⟩
  rw [if_neg c_12] at hd
  by_cases c_13 : x1 = (7 : Int32)
  · rw [if_pos c_13] at hd
    refine wp_tswC (j := 7) 147 i_135_1 (by rw [c_13]; decide) (by decide) rfl rfl ?_
    refine wp_s 148 [some (.ref 0), some (.int x1)] [.ref 0] _ i_135_147 rfl ?_
    refine hm_get (w := .ref 5) 151 rfl i_135_148 (cb rfl) kk_0 rfl ?_
    refine hm_get (w := .ref 19) 154 rfl i_135_151 (cb rfl) kk_5 rfl ?_
    refine hm_get (w := .int (m.1 19 13)) 157 rfl i_135_154 (cb rfl) kk_19 rfl ?_
    obtain rfl := Option.some.inj hd
    exact wp_iret i_135_157 ⟨rfl, rfl⟩
  rw [if_neg c_13] at hd
  by_cases c_14 : x1 = (8 : Int32)
  · rw [if_pos c_14] at hd
    refine wp_tswC (j := 8) 158 i_135_1 (by rw [c_14]; decide) (by decide) rfl rfl ?_
    refine wp_s 159 [some (.ref 0), some (.int x1)] [.ref 0] _ i_135_158 rfl ?_
    refine hm_get (w := .ref 5) 162 rfl i_135_159 (cb rfl) kk_0 rfl ?_
    refine hm_get (w := .ref 19) 165 rfl i_135_162 (cb rfl) kk_5 rfl ?_
    refine hm_get (w := .int (m.1 19 11)) 168 rfl i_135_165 (cb rfl) kk_19 rfl ?_
    obtain rfl := Option.some.inj hd
    exact wp_iret i_135_168 ⟨rfl, rfl⟩
  rw [if_neg c_14] at hd
  by_cases c_15 : x1 = (9 : Int32)
  · rw [if_pos c_15] at hd
    refine wp_tswC (j := 9) 169 i_135_1 (by rw [c_15]; decide) (by decide) rfl rfl ?_
    refine wp_s 170 [some (.ref 0), some (.int x1)] [.ref 0] _ i_135_169 rfl ?_
    refine hm_get (w := .ref 5) 173 rfl i_135_170 (cb rfl) kk_0 rfl ?_
    refine hm_get (w := .ref 19) 176 rfl i_135_173 (cb rfl) kk_5 rfl ?_
    obtain ⟨z_16, q_17, hd⟩ := dk_bind hd
    refine wp_callV 179 rfl i_135_176 (by decide) rfl (vs := []) (rest := []) rfl rfl rfl (hm_isO (cb rfl) kk_19) (y := m_73) rfl (Nat.le_of_ble_eq_true rfl) (d_73_ok (S := S) (d := e) (by omega) q_17) ?_
    rintro v_18 h_19 ⟨rfl, rfl⟩
    obtain rfl := Option.some.inj hd
    exact wp_iret i_135_179 ⟨rfl, rfl⟩
  rw [if_neg c_15] at hd
  by_cases c_20 : x1 = (10 : Int32)
  · rw [if_pos c_20] at hd
    refine wp_tswC (j := 10) 180 i_135_1 (by rw [c_20]; decide) (by decide) rfl rfl ?_
    refine wp_s 181 [some (.ref 0), some (.int x1)] [.ref 0] _ i_135_180 rfl ?_
    refine hm_get (w := .ref 5) 184 rfl i_135_181 (cb rfl) kk_0 rfl ?_
    refine hm_get (w := .ref 19) 187 rfl i_135_184 (cb rfl) kk_5 rfl ?_
    refine hm_get (w := .int (m.1 19 8)) 190 rfl i_135_187 (cb rfl) kk_19 rfl ?_
    obtain rfl := Option.some.inj hd
    exact wp_iret i_135_190 ⟨rfl, rfl⟩
  rw [if_neg c_20] at hd
  by_cases c_21 : x1 = (11 : Int32)
  · rw [if_pos c_21] at hd
    refine wp_tswC (j := 11) 191 i_135_1 (by rw [c_21]; decide) (by decide) rfl rfl ?_
    refine wp_s 192 [some (.ref 0), some (.int x1)] [.ref 0] _ i_135_191 rfl ?_
    refine hm_get (w := .ref 5) 195 rfl i_135_192 (cb rfl) kk_0 rfl ?_
    refine hm_get (w := .int (m.1 5 8)) 198 rfl i_135_195 (cb rfl) kk_5 rfl ?_
    obtain rfl := Option.some.inj hd
    exact wp_iret i_135_198 ⟨rfl, rfl⟩
  rw [if_neg c_21] at hd
  by_cases c_22 : x1 = (12 : Int32)
  · rw [if_pos c_22] at hd
    refine wp_tswC (j := 12) 199 i_135_1 (by rw [c_22]; decide) (by decide) rfl rfl ?_
    refine wp_s 200 [some (.ref 0), some (.int x1)] [.ref 0] _ i_135_199 rfl ?_
    refine hm_get (w := .ref 90) 203 rfl i_135_200 (cb rfl) kk_0 rfl ?_
    refine hm_get (w := .int (m.1 90 2)) 206 rfl i_135_203 (cb rfl) kk_90 rfl ?_
    obtain rfl := Option.some.inj hd
    exact wp_iret i_135_206 ⟨rfl, rfl⟩
  rw [if_neg c_22] at hd
  by_cases c_23 : x1 = (13 : Int32)
  · rw [if_pos c_23] at hd
    refine wp_tswC (j := 13) 207 i_135_1 (by rw [c_23]; decide) (by decide) rfl rfl ?_
    refine wp_s 208 [some (.ref 0), some (.int x1)] [.ref 0] _ i_135_207 rfl ?_
    refine hm_get (w := .ref 5) 211 rfl i_135_208 (cb rfl) kk_0 rfl ?_
    refine hm_get (w := .int (m.1 5 3)) 214 rfl i_135_211 (cb rfl) kk_5 rfl ?_
    obtain rfl := Option.some.inj hd
    exact wp_iret i_135_214 ⟨rfl, rfl⟩
  rw [if_neg c_23] at hd
  by_cases c_24 : x1 = (14 : Int32)
  · rw [if_pos c_24] at hd
    refine wp_tswC (j := 14) 215 i_135_1 (by rw [c_24]; decide) (by decide) rfl rfl ?_
    refine wp_s 216 [some (.ref 0), some (.int x1)] [.ref 0] _ i_135_215 rfl ?_
    refine hm_get (w := .ref 1) 219 rfl i_135_216 (cb rfl) kk_0 rfl ?_
    refine hm_get (w := .int (m.1 1 1)) 222 rfl i_135_219 (cb rfl) kk_1 rfl ?_
    obtain rfl := Option.some.inj hd
    exact wp_iret i_135_222 ⟨rfl, rfl⟩
  rw [if_neg c_24] at hd
  have o_25 : (x1).toInt < (0 : Int) ∨ (14 : Int) < (x1).toInt := by
    have e_0 := lv_neT c_1 (a := 0) (by decide)
    have e_1 := lv_neT c_3 (a := 1) (by decide)
    have e_2 := lv_neT c_5 (a := 2) (by decide)
    have e_3 := lv_neT c_7 (a := 3) (by decide)
    have e_4 := lv_neT c_9 (a := 4) (by decide)
    have e_5 := lv_neT c_11 (a := 5) (by decide)
    have e_6 := lv_neT c_12 (a := 6) (by decide)
    have e_7 := lv_neT c_13 (a := 7) (by decide)
    have e_8 := lv_neT c_14 (a := 8) (by decide)
    have e_9 := lv_neT c_15 (a := 9) (by decide)
    have e_10 := lv_neT c_20 (a := 10) (by decide)
    have e_11 := lv_neT c_21 (a := 11) (by decide)
    have e_12 := lv_neT c_22 (a := 12) (by decide)
    have e_13 := lv_neT c_23 (a := 13) (by decide)
    have e_14 := lv_neT c_24 (a := 14) (by decide)
    omega
  refine wp_tswD 223 i_135_1 o_25 rfl ?_
  refine wp_s 224 [some (.ref 0), some (.int x1)] [.int (-1 : Int32)] _ i_135_223 rfl ?_
  obtain rfl := Option.some.inj hd
  exact wp_iret i_135_224 ⟨rfl, rfl⟩
set_option maxHeartbeats 4000000 in
set_option maxRecDepth 100000 in
theorem d_136_ok {X : aX} {S : rS} {g : Nat} {x1 : Int32} {m : cM} {zz : Int32 × cM} {d : Nat} (hdp : 2 ≤ d) (hd : d_136 g x1 m = some zz) : aWp X d 136 0 (aEntL [.ref 0, .int x1] 2) [] (hr m S) (fun w h' => w = some (.int zz.1) ∧ h' = hr zz.2 S) := by
  unfold d_136 at hd
  refine wp_lv (l2 := [some (.ref 0), some (.int x1)]) rfl ?_
  obtain ⟨e, rfl⟩ : ∃ e, d = e + 1 := ⟨d - 1, by omega⟩
  refine wp_s 1 [some (.ref 0), some (.int x1)] [.int x1] _ i_136_0 rfl ?_
  refine wp_if_lt 9 4 rfl rfl i_136_1 (fun c_1 => ?_) (fun c_1 => ?_)
  · rw [if_pos c_1] at hd
    refine wp_s 10 [some (.ref 0), some (.int x1)] [.int (-1 : Int32)] _ i_136_9 rfl ?_
    obtain rfl := Option.some.inj hd
    exact wp_iret i_136_10 ⟨rfl, rfl⟩
  · rw [if_neg c_1] at hd
    refine wp_s 5 [some (.ref 0), some (.int x1)] [.int x1] _ i_136_4 rfl ?_
    refine wp_s 6 [some (.ref 0), some (.int x1)] [.int (4 : Int32), .int x1] _ i_136_5 rfl ?_
    refine wp_cmp_lt 11 9 rfl rfl i_136_6 (fun c_2 => ?_) (fun c_2 => ?_)
    · rw [if_pos c_2] at hd
      refine wp_s 12 [some (.ref 0), some (.int x1)] [.ref 0] _ i_136_11 rfl ?_
      refine hm_get (w := .ref 272) 15 rfl i_136_12 (cb rfl) kk_0 rfl ?_
      refine wp_s 16 [some (.ref 0), some (.int x1)] [.int x1, .ref 272] _ i_136_15 rfl ?_
      obtain ⟨k_3, hd⟩ := dk_if hd
      refine hm_aald (q := (274 + 27 * x1.toNatClampNeg)) 17 rfl i_136_16 (by decide) (cb rfl) kk_272 k_3 (cQ_272 k_3) ?_
      refine wp_s 18 [some (.ref 0), some (.int x1)] [.ref 0, .ref (274 + 27 * x1.toNatClampNeg)] _ i_136_17 rfl ?_
      refine hm_get (w := .ref 5) 21 rfl i_136_18 (cb rfl) kk_0 rfl ?_
      obtain ⟨z_4, q_5, hd⟩ := dk_bind hd
      refine wp_callV 24 rfl i_136_21 (by decide) rfl (vs := [.ref 5]) (rest := []) rfl rfl rfl (hm_isO (qb_272 k_3) (qk_272 k_3)) (y := m_99) rfl (Nat.le_of_ble_eq_true rfl) (d_99_ok (S := S) (d := e) (by omega) q_5) ?_
      rintro v_6 h_7 ⟨rfl, rfl⟩
      refine wp_s 25 [some (.ref 0), some (.int x1)] [.ref 0] _ i_136_24 rfl ?_
      refine hm_get (w := .ref 273) 28 rfl i_136_25 (cb rfl) kk_0 rfl ?_
      refine wp_s 29 [some (.ref 0), some (.int x1)] [.int x1, .ref 273] _ i_136_28 rfl ?_
      refine wp_s 30 [some (.ref 0), some (.int x1)] [.int (1 : Int32), .int x1, .ref 273] _ i_136_29 rfl ?_
      obtain ⟨k_8, hd⟩ := dk_if hd
      obtain ⟨mm_9, q_10, hd⟩ := dk_bind hd
      refine hm_zast 31 rfl i_136_30 (cb rfl) kk_273 k_8 ?_
      rw [Option.some.inj q_10]
      refine wp_s 32 [some (.ref 0), some (.int x1)] [.ref 0] _ i_136_31 rfl ?_
      refine hm_get (w := .ref 5) 35 rfl i_136_32 (cb rfl) kk_0 rfl ?_
      refine hm_get (w := .ref 19) 38 rfl i_136_35 (cb rfl) kk_5 rfl ?_
      refine hm_get (w := .int (mm_9.1 19 13)) 41 rfl i_136_38 (cb rfl) kk_19 rfl ?_
      obtain rfl := Option.some.inj hd
      exact wp_iret i_136_41 ⟨rfl, rfl⟩
    · rw [if_neg c_2] at hd
      refine wp_s 10 [some (.ref 0), some (.int x1)] [.int (-1 : Int32)] _ i_136_9 rfl ?_
      obtain rfl := Option.some.inj hd
      exact wp_iret i_136_10 ⟨rfl, rfl⟩
set_option maxHeartbeats 4000000 in
set_option maxRecDepth 100000 in
theorem d_137_ok {X : aX} {S : rS} {g : Nat} {x1 : Int32} {m : cM} {zz : Int32 × cM} {d : Nat} (hdp : 2 ≤ d) (hd : d_137 g x1 m = some zz) : aWp X d 137 0 (aEntL [.ref 0, .int x1] 2) [] (hr m S) (fun w h' => w = some (.int zz.1) ∧ h' = hr zz.2 S) := by
  unfold d_137 at hd
  refine wp_lv (l2 := [some (.ref 0), some (.int x1)]) rfl ?_
  obtain ⟨e, rfl⟩ : ∃ e, d = e + 1 := ⟨d - 1, by omega⟩
  refine wp_s 1 [some (.ref 0), some (.int x1)] [.int x1] _ i_137_0 rfl ?_
  refine wp_if_lt 18 4 rfl rfl i_137_1 (fun c_1 => ?_) (fun c_1 => ?_)
  · rw [if_pos c_1] at hd
    refine wp_s 19 [some (.ref 0), some (.int x1)] [.int (-1 : Int32)] _ i_137_18 rfl ?_
    obtain rfl := Option.some.inj hd
    exact wp_iret i_137_19 ⟨rfl, rfl⟩
  · rw [if_neg c_1] at hd
    refine wp_s 5 [some (.ref 0), some (.int x1)] [.int x1] _ i_137_4 rfl ?_
    refine wp_s 6 [some (.ref 0), some (.int x1)] [.int (4 : Int32), .int x1] _ i_137_5 rfl ?_
    refine wp_cmp_ge 18 9 rfl rfl i_137_6 (fun c_2 => ?_) (fun c_2 => ?_)
    · rw [if_pos c_2] at hd
      refine wp_s 19 [some (.ref 0), some (.int x1)] [.int (-1 : Int32)] _ i_137_18 rfl ?_
      obtain rfl := Option.some.inj hd
      exact wp_iret i_137_19 ⟨rfl, rfl⟩
    · rw [if_neg c_2] at hd
      refine wp_s 10 [some (.ref 0), some (.int x1)] [.ref 0] _ i_137_9 rfl ?_
      refine hm_get (w := .ref 273) 13 rfl i_137_10 (cb rfl) kk_0 rfl ?_
      refine wp_s 14 [some (.ref 0), some (.int x1)] [.int x1, .ref 273] _ i_137_13 rfl ?_
      obtain ⟨k_3, hd⟩ := dk_if hd
      refine hm_bald 15 rfl i_137_14 (by decide) (cb rfl) kk_273 k_3 ?_
      refine wp_if_ne 20 18 rfl rfl i_137_15 (fun c_4 => ?_) (fun c_4 => ?_)
      · rw [if_pos c_4] at hd
        refine wp_s 21 [some (.ref 0), some (.int x1)] [.ref 0] _ i_137_20 rfl ?_
        refine hm_get (w := .ref 5) 24 rfl i_137_21 (cb rfl) kk_0 rfl ?_
        refine wp_s 25 [some (.ref 0), some (.int x1)] [.ref 0, .ref 5] _ i_137_24 rfl ?_
        refine hm_get (w := .ref 272) 28 rfl i_137_25 (cb rfl) kk_0 rfl ?_
        refine wp_s 29 [some (.ref 0), some (.int x1)] [.int x1, .ref 272, .ref 5] _ i_137_28 rfl ?_
        obtain ⟨k_5, hd⟩ := dk_if hd
        refine hm_aald (q := (274 + 27 * x1.toNatClampNeg)) 30 rfl i_137_29 (by decide) (cb rfl) kk_272 k_5 (cQ_272 k_5) ?_
        obtain ⟨z_6, q_7, hd⟩ := dk_bind hd
        refine wp_callV 33 rfl i_137_30 (by decide) rfl (vs := [.ref (274 + 27 * x1.toNatClampNeg)]) (rest := []) rfl rfl rfl (hm_isO (cb rfl) kk_5) (y := m_99) rfl (Nat.le_of_ble_eq_true rfl) (d_99_ok (S := S) (d := e) (by omega) q_7) ?_
        rintro v_8 h_9 ⟨rfl, rfl⟩
        refine wp_s 34 [some (.ref 0), some (.int x1)] [.ref 0] _ i_137_33 rfl ?_
        refine hm_get (w := .ref 90) 37 rfl i_137_34 (cb rfl) kk_0 rfl ?_
        obtain ⟨z_10, q_11, hd⟩ := dk_bind hd
        refine wp_callV 40 rfl i_137_37 (by decide) rfl (vs := []) (rest := []) rfl rfl rfl (hm_isO (cb rfl) kk_90) (y := m_10) rfl (Nat.le_of_ble_eq_true rfl) (d_10_ok (S := S) (d := e) (by omega) q_11) ?_
        rintro v_12 h_13 ⟨rfl, rfl⟩
        refine wp_s 41 [some (.ref 0), some (.int x1)] [.ref 0] _ i_137_40 rfl ?_
        refine hm_get (w := .ref 5) 44 rfl i_137_41 (cb rfl) kk_0 rfl ?_
        refine hm_get (w := .ref 19) 47 rfl i_137_44 (cb rfl) kk_5 rfl ?_
        refine hm_get (w := .int (z_10.1 19 13)) 50 rfl i_137_47 (cb rfl) kk_19 rfl ?_
        obtain rfl := Option.some.inj hd
        exact wp_iret i_137_50 ⟨rfl, rfl⟩
      · rw [if_neg c_4] at hd
        refine wp_s 19 [some (.ref 0), some (.int x1)] [.int (-1 : Int32)] _ i_137_18 rfl ?_
        obtain rfl := Option.some.inj hd
        exact wp_iret i_137_19 ⟨rfl, rfl⟩
