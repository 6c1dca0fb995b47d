theorem i_140_0 : aIns 140 0 = some (.lload_n 0, 1, 0, 0, .null) := by decide +kernel
theorem i_140_1 : aIns 140 1 = some (.lload_n 2, 1, 0, 0, .null) := by decide +kernel
theorem i_140_2 : aIns 140 2 = some (.lcmp, 1, 0, 0, .null) := by decide +kernel
theorem i_140_3 : aIns 140 3 = some (.ifCond .lt 14, 3, 0, 0, .null) := by decide +kernel
theorem i_140_6 : aIns 140 6 = some (.lload_n 0, 1, 0, 0, .null) := by decide +kernel
theorem i_140_7 : aIns 140 7 = some (.lload 4, 2, 0, 0, .null) := by decide +kernel
theorem i_140_9 : aIns 140 9 = some (.lcmp, 1, 0, 0, .null) := by decide +kernel
theorem i_140_10 : aIns 140 10 = some (.ifCond .gt 7, 3, 0, 0, .null) := by decide +kernel
theorem i_140_13 : aIns 140 13 = some (.iconst 1, 1, 0, 0, .int (1)) := by decide +kernel
theorem i_140_14 : aIns 140 14 = some (.goto 4, 3, 0, 0, .null) := by decide +kernel
theorem i_140_17 : aIns 140 17 = some (.iconst 0, 1, 0, 0, .int (0)) := by decide +kernel
theorem i_140_18 : aIns 140 18 = some (.ireturn, 1, 1, 0, .null) := by decide +kernel
theorem i_141_0 : aIns 141 0 = some (.iload_n 0, 1, 0, 0, .null) := by decide +kernel
theorem i_141_1 : aIns 141 1 = some (.iload_n 1, 1, 0, 0, .null) := by decide +kernel
theorem i_141_2 : aIns 141 2 = some (.ishr, 1, 0, 0, .null) := by decide +kernel
theorem i_141_3 : aIns 141 3 = some (.iconst 1, 1, 0, 0, .int (1)) := by decide +kernel
theorem i_141_4 : aIns 141 4 = some (.iand, 1, 0, 0, .null) := by decide +kernel
theorem i_141_5 : aIns 141 5 = some (.iconst 1, 1, 0, 0, .int (1)) := by decide +kernel
theorem i_141_6 : aIns 141 6 = some (.if_icmp .ne 7, 3, 0, 0, .null) := by decide +kernel
theorem i_141_9 : aIns 141 9 = some (.iconst 1, 1, 0, 0, .int (1)) := by decide +kernel
theorem i_141_10 : aIns 141 10 = some (.goto 4, 3, 0, 0, .null) := by decide +kernel
theorem i_141_13 : aIns 141 13 = some (.iconst 0, 1, 0, 0, .int (0)) := by decide +kernel
theorem i_141_14 : aIns 141 14 = some (.ireturn, 1, 1, 0, .null) := by decide +kernel
theorem i_142_0 : aIns 142 0 = some (.bipush 24, 2, 0, 0, .int (24)) := by decide +kernel
theorem i_142_2 : aIns 142 2 = some (.istore_n 2, 1, 0, 0, .null) := by decide +kernel
theorem i_142_3 : aIns 142 3 = some (.iload_n 2, 1, 0, 0, .null) := by decide +kernel
theorem i_142_4 : aIns 142 4 = some (.ifCond .lt 32, 3, 0, 0, .null) := by decide +kernel
theorem i_142_7 : aIns 142 7 = some (.aload_n 0, 1, 0, 0, .null) := by decide +kernel
theorem i_142_8 : aIns 142 8 = some (.getfield 7, 3, 12, 0, .null) := by decide +kernel
theorem i_142_11 : aIns 142 11 = some (.aload_n 0, 1, 0, 0, .null) := by decide +kernel
theorem i_142_12 : aIns 142 12 = some (.getfield 86, 3, 12, 1, .null) := by decide +kernel
theorem i_142_15 : aIns 142 15 = some (.iload_n 1, 1, 0, 0, .null) := by decide +kernel
theorem i_142_16 : aIns 142 16 = some (.iload_n 2, 1, 0, 0, .null) := by decide +kernel
theorem i_142_17 : aIns 142 17 = some (.ishr, 1, 0, 0, .null) := by decide +kernel
theorem i_142_18 : aIns 142 18 = some (.i2b, 1, 0, 0, .null) := by decide +kernel
theorem i_142_19 : aIns 142 19 = some (.bastore, 1, 0, 0, .null) := by decide +kernel
theorem i_142_20 : aIns 142 20 = some (.aload_n 0, 1, 0, 0, .null) := by decide +kernel
theorem i_142_21 : aIns 142 21 = some (.dup, 1, 0, 0, .null) := by decide +kernel
theorem i_142_22 : aIns 142 22 = some (.getfield 86, 3, 12, 1, .null) := by decide +kernel
theorem i_142_25 : aIns 142 25 = some (.iconst 1, 1, 0, 0, .int (1)) := by decide +kernel
theorem i_142_26 : aIns 142 26 = some (.iadd, 1, 0, 0, .null) := by decide +kernel
theorem i_142_27 : aIns 142 27 = some (.putfield 86, 3, 12, 1, .null) := by decide +kernel
theorem i_142_30 : aIns 142 30 = some (.iinc 2 (-8), 3, 0, 0, .null) := by decide +kernel
theorem i_142_33 : aIns 142 33 = some (.goto (-30), 3, 0, 0, .null) := by decide +kernel
theorem i_142_36 : aIns 142 36 = some (.return_, 1, 0, 0, .null) := by decide +kernel
theorem i_143_0 : aIns 143 0 = some (.aload_n 0, 1, 0, 0, .null) := by decide +kernel
theorem i_143_1 : aIns 143 1 = some (.getfield 86, 3, 12, 1, .null) := by decide +kernel
theorem i_143_4 : aIns 143 4 = some (.bipush 20, 2, 0, 0, .int (20)) := by decide +kernel
theorem i_143_6 : aIns 143 6 = some (.iadd, 1, 0, 0, .null) := by decide +kernel
theorem i_143_7 : aIns 143 7 = some (.sipush 400, 3, 0, 0, .int (400)) := by decide +kernel
theorem i_143_10 : aIns 143 10 = some (.if_icmp .le 5, 3, 0, 0, .null) := by decide +kernel
theorem i_143_13 : aIns 143 13 = some (.iconst (-1), 1, 0, 0, .int (-1)) := by decide +kernel
theorem i_143_14 : aIns 143 14 = some (.ireturn, 1, 0, 0, .null) := by decide +kernel
theorem i_143_15 : aIns 143 15 = some (.aload_n 0, 1, 0, 0, .null) := by decide +kernel
theorem i_143_16 : aIns 143 16 = some (.iload_n 1, 1, 0, 0, .null) := by decide +kernel
theorem i_143_17 : aIns 143 17 = some (.invokevirtual 89, 3, 142, 1, .int 12) := by decide +kernel
theorem i_143_20 : aIns 143 20 = some (.aload_n 0, 1, 0, 0, .null) := by decide +kernel
theorem i_143_21 : aIns 143 21 = some (.iload_n 2, 1, 0, 0, .null) := by decide +kernel
theorem i_143_22 : aIns 143 22 = some (.invokevirtual 89, 3, 142, 1, .int 12) := by decide +kernel
theorem i_143_25 : aIns 143 25 = some (.aload_n 0, 1, 0, 0, .null) := by decide +kernel
theorem i_143_26 : aIns 143 26 = some (.iload_n 3, 1, 0, 0, .null) := by decide +kernel
theorem i_143_27 : aIns 143 27 = some (.invokevirtual 89, 3, 142, 1, .int 12) := by decide +kernel
theorem i_143_30 : aIns 143 30 = some (.aload_n 0, 1, 0, 0, .null) := by decide +kernel
theorem i_143_31 : aIns 143 31 = some (.iload 4, 2, 0, 0, .null) := by decide +kernel
theorem i_143_33 : aIns 143 33 = some (.invokevirtual 89, 3, 142, 1, .int 12) := by decide +kernel
theorem i_143_36 : aIns 143 36 = some (.aload_n 0, 1, 0, 0, .null) := by decide +kernel
theorem i_143_37 : aIns 143 37 = some (.iload 5, 2, 0, 0, .null) := by decide +kernel
theorem i_143_39 : aIns 143 39 = some (.invokevirtual 89, 3, 142, 1, .int 12) := by decide +kernel
theorem i_143_42 : aIns 143 42 = some (.aload_n 0, 1, 0, 0, .null) := by decide +kernel
theorem i_143_43 : aIns 143 43 = some (.getfield 86, 3, 12, 1, .null) := by decide +kernel
theorem i_143_46 : aIns 143 46 = some (.ireturn, 1, 0, 0, .null) := by decide +kernel
theorem i_144_0 : aIns 144 0 = some (.iload_n 1, 1, 0, 0, .null) := by decide +kernel
theorem i_144_1 : aIns 144 1 = some (.ifCond .lt 11, 3, 0, 0, .null) := by decide +kernel
theorem i_144_4 : aIns 144 4 = some (.iload_n 1, 1, 0, 0, .null) := by decide +kernel
theorem i_144_5 : aIns 144 5 = some (.aload_n 0, 1, 0, 0, .null) := by decide +kernel
theorem i_144_6 : aIns 144 6 = some (.getfield 86, 3, 12, 1, .null) := by decide +kernel
theorem i_144_9 : aIns 144 9 = some (.if_icmp .le 5, 3, 0, 0, .null) := by decide +kernel
theorem i_144_12 : aIns 144 12 = some (.iconst (-1), 1, 0, 0, .int (-1)) := by decide +kernel
theorem i_144_13 : aIns 144 13 = some (.ireturn, 1, 0, 0, .null) := by decide +kernel
theorem i_144_14 : aIns 144 14 = some (.aload_n 0, 1, 0, 0, .null) := by decide +kernel
theorem i_144_15 : aIns 144 15 = some (.iload_n 1, 1, 0, 0, .null) := by decide +kernel
theorem i_144_16 : aIns 144 16 = some (.putfield 86, 3, 12, 1, .null) := by decide +kernel
theorem i_144_19 : aIns 144 19 = some (.iload_n 1, 1, 0, 0, .null) := by decide +kernel
theorem i_144_20 : aIns 144 20 = some (.ireturn, 1, 0, 0, .null) := by decide +kernel
theorem i_145_0 : aIns 145 0 = some (.aload_n 0, 1, 0, 0, .null) := by decide +kernel
theorem i_145_1 : aIns 145 1 = some (.getfield 93, 3, 12, 9, .null) := by decide +kernel
theorem i_145_4 : aIns 145 4 = some (.ifCond .ne 15, 3, 0, 0, .null) := by decide +kernel
theorem i_145_7 : aIns 145 7 = some (.aload_n 0, 1, 0, 0, .null) := by decide +kernel
theorem i_145_8 : aIns 145 8 = some (.iconst 1, 1, 0, 0, .int (1)) := by decide +kernel
theorem i_145_9 : aIns 145 9 = some (.bipush 8, 2, 0, 0, .int (8)) := by decide +kernel
theorem i_145_11 : aIns 145 11 = some (.iload_n 2, 1, 0, 0, .null) := by decide +kernel
theorem i_145_12 : aIns 145 12 = some (.imul, 1, 0, 0, .null) := by decide +kernel
theorem i_145_13 : aIns 145 13 = some (.iadd, 1, 0, 0, .null) := by decide +kernel
theorem i_145_14 : aIns 145 14 = some (.iload_n 1, 1, 0, 0, .null) := by decide +kernel
theorem i_145_15 : aIns 145 15 = some (.iadd, 1, 0, 0, .null) := by decide +kernel
theorem i_145_16 : aIns 145 16 = some (.putfield 93, 3, 12, 9, .null) := by decide +kernel
theorem i_145_19 : aIns 145 19 = some (.iconst 0, 1, 0, 0, .int (0)) := by decide +kernel
theorem i_145_20 : aIns 145 20 = some (.ireturn, 1, 1, 0, .null) := by decide +kernel
theorem i_146_0 : aIns 146 0 = some (.aload_n 0, 1, 0, 0, .null) := by decide +kernel
theorem i_146_1 : aIns 146 1 = some (.getfield 96, 3, 12, 8, .null) := by decide +kernel
theorem i_146_4 : aIns 146 4 = some (.aload_n 0, 1, 0, 0, .null) := by decide +kernel
theorem i_146_5 : aIns 146 5 = some (.getfield 86, 3, 12, 1, .null) := by decide +kernel
theorem i_146_8 : aIns 146 8 = some (.if_icmp .ge 30, 3, 0, 0, .null) := by decide +kernel
theorem i_146_11 : aIns 146 11 = some (.aload_n 0, 1, 0, 0, .null) := by decide +kernel
theorem i_146_12 : aIns 146 12 = some (.getfield 7, 3, 12, 0, .null) := by decide +kernel
theorem i_146_15 : aIns 146 15 = some (.aload_n 0, 1, 0, 0, .null) := by decide +kernel
theorem i_146_16 : aIns 146 16 = some (.getfield 96, 3, 12, 8, .null) := by decide +kernel
theorem i_146_19 : aIns 146 19 = some (.baload, 1, 0, 0, .null) := by decide +kernel
theorem i_146_20 : aIns 146 20 = some (.bipush 32, 2, 0, 0, .int (32)) := by decide +kernel
theorem i_146_22 : aIns 146 22 = some (.if_icmp .ne 16, 3, 0, 0, .null) := by decide +kernel
theorem i_146_25 : aIns 146 25 = some (.aload_n 0, 1, 0, 0, .null) := by decide +kernel
theorem i_146_26 : aIns 146 26 = some (.dup, 1, 0, 0, .null) := by decide +kernel
theorem i_146_27 : aIns 146 27 = some (.getfield 96, 3, 12, 8, .null) := by decide +kernel
theorem i_146_30 : aIns 146 30 = some (.iconst 1, 1, 0, 0, .int (1)) := by decide +kernel
theorem i_146_31 : aIns 146 31 = some (.iadd, 1, 0, 0, .null) := by decide +kernel
theorem i_146_32 : aIns 146 32 = some (.putfield 96, 3, 12, 8, .null) := by decide +kernel
theorem i_146_35 : aIns 146 35 = some (.goto (-35), 3, 0, 0, .null) := by decide +kernel
theorem i_146_38 : aIns 146 38 = some (.aload_n 0, 1, 0, 0, .null) := by decide +kernel
theorem i_146_39 : aIns 146 39 = some (.getfield 96, 3, 12, 8, .null) := by decide +kernel
theorem i_146_42 : aIns 146 42 = some (.aload_n 0, 1, 0, 0, .null) := by decide +kernel
theorem i_146_43 : aIns 146 43 = some (.getfield 86, 3, 12, 1, .null) := by decide +kernel
theorem i_146_46 : aIns 146 46 = some (.if_icmp .ge 19, 3, 0, 0, .null) := by decide +kernel
theorem i_146_49 : aIns 146 49 = some (.aload_n 0, 1, 0, 0, .null) := by decide +kernel
theorem i_146_50 : aIns 146 50 = some (.getfield 7, 3, 12, 0, .null) := by decide +kernel
theorem i_146_53 : aIns 146 53 = some (.aload_n 0, 1, 0, 0, .null) := by decide +kernel
theorem i_146_54 : aIns 146 54 = some (.getfield 96, 3, 12, 8, .null) := by decide +kernel
theorem i_146_57 : aIns 146 57 = some (.baload, 1, 0, 0, .null) := by decide +kernel
theorem i_146_58 : aIns 146 58 = some (.sipush 255, 3, 0, 0, .int (255)) := by decide +kernel
theorem i_146_61 : aIns 146 61 = some (.iand, 1, 0, 0, .null) := by decide +kernel
theorem i_146_62 : aIns 146 62 = some (.goto 4, 3, 0, 0, .null) := by decide +kernel
theorem i_146_65 : aIns 146 65 = some (.iconst (-1), 1, 0, 0, .int (-1)) := by decide +kernel
theorem i_146_66 : aIns 146 66 = some (.ireturn, 1, 0, 0, .null) := by decide +kernel
theorem i_147_0 : aIns 147 0 = some (.iload_n 1, 1, 0, 0, .null) := by decide +kernel
theorem i_147_1 : aIns 147 1 = some (.aload_n 0, 1, 0, 0, .null) := by decide +kernel
theorem i_147_2 : aIns 147 2 = some (.getfield 86, 3, 12, 1, .null) := by decide +kernel
theorem i_147_5 : aIns 147 5 = some (.if_icmp .ge 29, 3, 0, 0, .null) := by decide +kernel
theorem i_147_8 : aIns 147 8 = some (.aload_n 0, 1, 0, 0, .null) := by decide +kernel
theorem i_147_9 : aIns 147 9 = some (.getfield 7, 3, 12, 0, .null) := by decide +kernel
theorem i_147_12 : aIns 147 12 = some (.iload_n 1, 1, 0, 0, .null) := by decide +kernel
theorem i_147_13 : aIns 147 13 = some (.baload, 1, 0, 0, .null) := by decide +kernel
theorem i_147_14 : aIns 147 14 = some (.bipush 48, 2, 0, 0, .int (48)) := by decide +kernel
theorem i_147_16 : aIns 147 16 = some (.if_icmp .lt 18, 3, 0, 0, .null) := by decide +kernel
theorem i_147_19 : aIns 147 19 = some (.aload_n 0, 1, 0, 0, .null) := by decide +kernel
theorem i_147_20 : aIns 147 20 = some (.getfield 7, 3, 12, 0, .null) := by decide +kernel
theorem i_147_23 : aIns 147 23 = some (.iload_n 1, 1, 0, 0, .null) := by decide +kernel
theorem i_147_24 : aIns 147 24 = some (.baload, 1, 0, 0, .null) := by decide +kernel
theorem i_147_25 : aIns 147 25 = some (.bipush 57, 2, 0, 0, .int (57)) := by decide +kernel
theorem i_147_27 : aIns 147 27 = some (.if_icmp .gt 7, 3, 0, 0, .null) := by decide +kernel
theorem i_147_30 : aIns 147 30 = some (.iconst 1, 1, 0, 0, .int (1)) := by decide +kernel
theorem i_147_31 : aIns 147 31 = some (.goto 4, 3, 0, 0, .null) := by decide +kernel
theorem i_147_34 : aIns 147 34 = some (.iconst 0, 1, 0, 0, .int (0)) := by decide +kernel
theorem i_147_35 : aIns 147 35 = some (.ireturn, 1, 1, 0, .null) := by decide +kernel
theorem i_148_0 : aIns 148 0 = some (.iload_n 1, 1, 0, 0, .null) := by decide +kernel
theorem i_148_1 : aIns 148 1 = some (.aload_n 0, 1, 0, 0, .null) := by decide +kernel
theorem i_148_2 : aIns 148 2 = some (.getfield 86, 3, 12, 1, .null) := by decide +kernel
theorem i_148_5 : aIns 148 5 = some (.if_icmp .ge 29, 3, 0, 0, .null) := by decide +kernel
theorem i_148_8 : aIns 148 8 = some (.aload_n 0, 1, 0, 0, .null) := by decide +kernel
theorem i_148_9 : aIns 148 9 = some (.getfield 7, 3, 12, 0, .null) := by decide +kernel
theorem i_148_12 : aIns 148 12 = some (.iload_n 1, 1, 0, 0, .null) := by decide +kernel
theorem i_148_13 : aIns 148 13 = some (.baload, 1, 0, 0, .null) := by decide +kernel
theorem i_148_14 : aIns 148 14 = some (.bipush 97, 2, 0, 0, .int (97)) := by decide +kernel
theorem i_148_16 : aIns 148 16 = some (.if_icmp .lt 18, 3, 0, 0, .null) := by decide +kernel
theorem i_148_19 : aIns 148 19 = some (.aload_n 0, 1, 0, 0, .null) := by decide +kernel
theorem i_148_20 : aIns 148 20 = some (.getfield 7, 3, 12, 0, .null) := by decide +kernel
theorem i_148_23 : aIns 148 23 = some (.iload_n 1, 1, 0, 0, .null) := by decide +kernel
theorem i_148_24 : aIns 148 24 = some (.baload, 1, 0, 0, .null) := by decide +kernel
theorem i_148_25 : aIns 148 25 = some (.bipush 122, 2, 0, 0, .int (122)) := by decide +kernel
theorem i_148_27 : aIns 148 27 = some (.if_icmp .gt 7, 3, 0, 0, .null) := by decide +kernel
theorem i_148_30 : aIns 148 30 = some (.iconst 1, 1, 0, 0, .int (1)) := by decide +kernel
theorem i_148_31 : aIns 148 31 = some (.goto 4, 3, 0, 0, .null) := by decide +kernel
theorem i_148_34 : aIns 148 34 = some (.iconst 0, 1, 0, 0, .int (0)) := by decide +kernel
theorem i_148_35 : aIns 148 35 = some (.ireturn, 1, 1, 0, .null) := by decide +kernel
theorem i_187_0 : aIns 187 0 = some (.aload_n 0, 1, 0, 0, .null) := by decide +kernel
theorem i_187_1 : aIns 187 1 = some (.getfield 39, 3, 12, 20, .null) := by decide +kernel
theorem i_187_4 : aIns 187 4 = some (.iconst 0, 1, 0, 0, .int (0)) := by decide +kernel
theorem i_187_5 : aIns 187 5 = some (.iaload, 1, 0, 0, .null) := by decide +kernel
theorem i_187_6 : aIns 187 6 = some (.iconst 1, 1, 0, 0, .int (1)) := by decide +kernel
theorem i_187_7 : aIns 187 7 = some (.if_icmp .ne 7, 3, 0, 0, .null) := by decide +kernel
theorem i_187_10 : aIns 187 10 = some (.iconst 1, 1, 0, 0, .int (1)) := by decide +kernel
theorem i_187_11 : aIns 187 11 = some (.goto 4, 3, 0, 0, .null) := by decide +kernel
theorem i_187_14 : aIns 187 14 = some (.iconst 0, 1, 0, 0, .int (0)) := by decide +kernel
theorem i_187_15 : aIns 187 15 = some (.ireturn, 1, 1, 0, .null) := by decide +kernel
theorem i_188_0 : aIns 188 0 = some (.iload_n 1, 1, 0, 0, .null) := by decide +kernel
theorem i_188_1 : aIns 188 1 = some (.ifCond .lt 17, 3, 0, 0, .null) := by decide +kernel
theorem i_188_4 : aIns 188 4 = some (.iload_n 1, 1, 0, 0, .null) := by decide +kernel
theorem i_188_5 : aIns 188 5 = some (.aload_n 0, 1, 0, 0, .null) := by decide +kernel
theorem i_188_6 : aIns 188 6 = some (.getfield 39, 3, 12, 20, .null) := by decide +kernel
theorem i_188_9 : aIns 188 9 = some (.iconst 1, 1, 0, 0, .int (1)) := by decide +kernel
theorem i_188_10 : aIns 188 10 = some (.iaload, 1, 0, 0, .null) := by decide +kernel
theorem i_188_11 : aIns 188 11 = some (.if_icmp .ge 7, 3, 0, 0, .null) := by decide +kernel
theorem i_188_14 : aIns 188 14 = some (.iconst 1, 1, 0, 0, .int (1)) := by decide +kernel
theorem i_188_15 : aIns 188 15 = some (.goto 4, 3, 0, 0, .null) := by decide +kernel
theorem i_188_18 : aIns 188 18 = some (.iconst 0, 1, 0, 0, .int (0)) := by decide +kernel
theorem i_188_19 : aIns 188 19 = some (.ireturn, 1, 1, 0, .null) := by decide +kernel
theorem i_191_0 : aIns 191 0 = some (.aload_n 0, 1, 0, 0, .null) := by decide +kernel
theorem i_191_1 : aIns 191 1 = some (.getfield 39, 3, 12, 20, .null) := by decide +kernel
theorem i_191_4 : aIns 191 4 = some (.bipush 16, 2, 0, 0, .int (16)) := by decide +kernel
theorem i_191_6 : aIns 191 6 = some (.iconst 5, 1, 0, 0, .int (5)) := by decide +kernel
theorem i_191_7 : aIns 191 7 = some (.iload_n 1, 1, 0, 0, .null) := by decide +kernel
theorem i_191_8 : aIns 191 8 = some (.imul, 1, 0, 0, .null) := by decide +kernel
theorem i_191_9 : aIns 191 9 = some (.iadd, 1, 0, 0, .null) := by decide +kernel
theorem i_191_10 : aIns 191 10 = some (.iload_n 2, 1, 0, 0, .null) := by decide +kernel
theorem i_191_11 : aIns 191 11 = some (.iadd, 1, 0, 0, .null) := by decide +kernel
theorem i_191_12 : aIns 191 12 = some (.iaload, 1, 0, 0, .null) := by decide +kernel
theorem i_191_13 : aIns 191 13 = some (.ireturn, 1, 0, 0, .null) := by decide +kernel
theorem i_195_0 : aIns 195 0 = some (.iconst 0, 1, 0, 0, .int (0)) := by decide +kernel
theorem i_195_1 : aIns 195 1 = some (.istore_n 2, 1, 0, 0, .null) := by decide +kernel
theorem i_195_2 : aIns 195 2 = some (.iconst 0, 1, 0, 0, .int (0)) := by decide +kernel
theorem i_195_3 : aIns 195 3 = some (.istore_n 3, 1, 0, 0, .null) := by decide +kernel
theorem i_195_4 : aIns 195 4 = some (.iload_n 3, 1, 0, 0, .null) := by decide +kernel
theorem i_195_5 : aIns 195 5 = some (.aload_n 0, 1, 0, 0, .null) := by decide +kernel
theorem i_195_6 : aIns 195 6 = some (.getfield 39, 3, 12, 20, .null) := by decide +kernel
theorem i_195_9 : aIns 195 9 = some (.bipush 10, 2, 0, 0, .int (10)) := by decide +kernel
theorem i_195_11 : aIns 195 11 = some (.iaload, 1, 0, 0, .null) := by decide +kernel
theorem i_195_12 : aIns 195 12 = some (.if_icmp .ge 51, 3, 0, 0, .null) := by decide +kernel
theorem i_195_15 : aIns 195 15 = some (.bipush 108, 2, 0, 0, .int (108)) := by decide +kernel
theorem i_195_17 : aIns 195 17 = some (.iconst 3, 1, 0, 0, .int (3)) := by decide +kernel
theorem i_195_18 : aIns 195 18 = some (.iload_n 3, 1, 0, 0, .null) := by decide +kernel
theorem i_195_19 : aIns 195 19 = some (.imul, 1, 0, 0, .null) := by decide +kernel
theorem i_195_20 : aIns 195 20 = some (.iadd, 1, 0, 0, .null) := by decide +kernel
theorem i_195_21 : aIns 195 21 = some (.istore 4, 2, 0, 0, .null) := by decide +kernel
theorem i_195_23 : aIns 195 23 = some (.iload_n 1, 1, 0, 0, .null) := by decide +kernel
theorem i_195_24 : aIns 195 24 = some (.aload_n 0, 1, 0, 0, .null) := by decide +kernel
theorem i_195_25 : aIns 195 25 = some (.getfield 39, 3, 12, 20, .null) := by decide +kernel
theorem i_195_28 : aIns 195 28 = some (.iload 4, 2, 0, 0, .null) := by decide +kernel
theorem i_195_30 : aIns 195 30 = some (.iaload, 1, 0, 0, .null) := by decide +kernel
theorem i_195_31 : aIns 195 31 = some (.if_icmp .lt 26, 3, 0, 0, .null) := by decide +kernel
theorem i_195_34 : aIns 195 34 = some (.iload_n 1, 1, 0, 0, .null) := by decide +kernel
theorem i_195_35 : aIns 195 35 = some (.aload_n 0, 1, 0, 0, .null) := by decide +kernel
theorem i_195_36 : aIns 195 36 = some (.getfield 39, 3, 12, 20, .null) := by decide +kernel
theorem i_195_39 : aIns 195 39 = some (.iload 4, 2, 0, 0, .null) := by decide +kernel
theorem i_195_41 : aIns 195 41 = some (.iconst 1, 1, 0, 0, .int (1)) := by decide +kernel
theorem i_195_42 : aIns 195 42 = some (.iadd, 1, 0, 0, .null) := by decide +kernel
theorem i_195_43 : aIns 195 43 = some (.iaload, 1, 0, 0, .null) := by decide +kernel
theorem i_195_44 : aIns 195 44 = some (.if_icmp .gt 13, 3, 0, 0, .null) := by decide +kernel
theorem i_195_47 : aIns 195 47 = some (.aload_n 0, 1, 0, 0, .null) := by decide +kernel
theorem i_195_48 : aIns 195 48 = some (.getfield 39, 3, 12, 20, .null) := by decide +kernel
theorem i_195_51 : aIns 195 51 = some (.iload 4, 2, 0, 0, .null) := by decide +kernel
theorem i_195_53 : aIns 195 53 = some (.iconst 2, 1, 0, 0, .int (2)) := by decide +kernel
theorem i_195_54 : aIns 195 54 = some (.iadd, 1, 0, 0, .null) := by decide +kernel
theorem i_195_55 : aIns 195 55 = some (.iaload, 1, 0, 0, .null) := by decide +kernel
theorem i_195_56 : aIns 195 56 = some (.istore_n 2, 1, 0, 0, .null) := by decide +kernel
theorem i_195_57 : aIns 195 57 = some (.iinc 3 1, 3, 0, 0, .null) := by decide +kernel
theorem i_195_60 : aIns 195 60 = some (.goto (-56), 3, 0, 0, .null) := by decide +kernel
theorem i_195_63 : aIns 195 63 = some (.iload_n 2, 1, 0, 0, .null) := by decide +kernel
theorem i_195_64 : aIns 195 64 = some (.ireturn, 1, 0, 0, .null) := by decide +kernel
def d_140 (g : Nat) (w0 : Int64) (w2 : Int64) (w4 : Int64) (S : rS) : Option (Int32 × rS) := (if (lg_cmp w0 w2) < 0 then some ((0 : Int32), S) else (if 0 < (lg_cmp w0 w4) then some ((0 : Int32), S) else some ((1 : Int32), S)))
set_option maxHeartbeats 4000000 in
set_option maxRecDepth 100000 in
theorem d_140_ok {X : aX} {g d : Nat} {w0 : Int64} {w2 : Int64} {w4 : Int64} {S : rS} {h0 : aH} {zz : Int32 × rS} (hdp : 0 ≤ d) (HS : rm h0 S) (hd : d_140 g w0 w2 w4 S = some zz) : aWp X d 140 0 (aEntL [.long w0, .long w2, .long w4] 6) [] h0 (fun w h' => w = some (.int zz.1) ∧ rTo h0 zz.2 h') := by
  unfold d_140 at hd
  have HH := rTo.rf HS
  refine wp_lv (l2 := [some (.long w0), none, some (.long w2), none, some (.long w4), none]) rfl ?_
  refine wp_s 1 [some (.long w0), none, some (.long w2), none, some (.long w4), none] [.long w0] h0 i_140_0 rfl ?_
  refine wp_s 2 [some (.long w0), none, some (.long w2), none, some (.long w4), none] [.long w2, .long w0] h0 i_140_1 rfl ?_
  refine wp_s 3 [some (.long w0), none, some (.long w2), none, some (.long w4), none] [.int (lg_cmp w0 w2)] h0 i_140_2 rfl ?_
  refine wp_if_lt 17 6 rfl rfl i_140_3 (fun c_1 => ?_) (fun c_1 => ?_)
  · rw [if_pos c_1] at hd
    refine wp_s 18 [some (.long w0), none, some (.long w2), none, some (.long w4), none] [.int (0 : Int32)] h0 i_140_17 rfl ?_
    cases hd
    exact wp_iretZ (z := 0) i_140_18 (by decide) ⟨rfl, HH⟩
  · rw [if_neg c_1] at hd
    refine wp_s 7 [some (.long w0), none, some (.long w2), none, some (.long w4), none] [.long w0] h0 i_140_6 rfl ?_
    refine wp_s 9 [some (.long w0), none, some (.long w2), none, some (.long w4), none] [.long w4, .long w0] h0 i_140_7 rfl ?_
    refine wp_s 10 [some (.long w0), none, some (.long w2), none, some (.long w4), none] [.int (lg_cmp w0 w4)] h0 i_140_9 rfl ?_
    refine wp_if_gt 17 13 rfl rfl i_140_10 (fun c_2 => ?_) (fun c_2 => ?_)
    · rw [if_pos c_2] at hd
      refine wp_s 18 [some (.long w0), none, some (.long w2), none, some (.long w4), none] [.int (0 : Int32)] h0 i_140_17 rfl ?_
      cases hd
      exact wp_iretZ (z := 0) i_140_18 (by decide) ⟨rfl, HH⟩
    · rw [if_neg c_2] at hd
      refine wp_s 14 [some (.long w0), none, some (.long w2), none, some (.long w4), none] [.int (1 : Int32)] h0 i_140_13 rfl ?_
      refine wp_s 18 [some (.long w0), none, some (.long w2), none, some (.long w4), none] [.int (1 : Int32)] h0 i_140_14 rfl ?_
      cases hd
      exact wp_iretZ (z := 0) i_140_18 (by decide) ⟨rfl, HH⟩
def d_141 (g : Nat) (x0 : Int32) (x1 : Int32) (S : rS) : Option (Int32 × rS) := (if ¬ ((x0 >>> (x1 &&& 31)) &&& (1 : Int32)) = (1 : Int32) then some ((0 : Int32), S) else some ((1 : Int32), S))
set_option maxHeartbeats 4000000 in
set_option maxRecDepth 100000 in
theorem d_141_ok {X : aX} {g d : Nat} {x0 : Int32} {x1 : Int32} {S : rS} {h0 : aH} {zz : Int32 × rS} (hdp : 0 ≤ d) (HS : rm h0 S) (hd : d_141 g x0 x1 S = some zz) : aWp X d 141 0 (aEntL [.int x0, .int x1] 2) [] h0 (fun w h' => w = some (.int zz.1) ∧ rTo h0 zz.2 h') := by
  unfold d_141 at hd
  have HH := rTo.rf HS
  refine wp_lv (l2 := [some (.int x0), some (.int x1)]) rfl ?_
  refine wp_s 1 [some (.int x0), some (.int x1)] [.int x0] h0 i_141_0 rfl ?_
  refine wp_s 2 [some (.int x0), some (.int x1)] [.int x1, .int x0] h0 i_141_1 rfl ?_
  refine wp_s 3 [some (.int x0), some (.int x1)] [.int (x0 >>> (x1 &&& 31))] h0 i_141_2 rfl ?_
  refine wp_s 4 [some (.int x0), some (.int x1)] [.int (1 : Int32), .int (x0 >>> (x1 &&& 31))] h0 i_141_3 rfl ?_
  refine wp_s 5 [some (.int x0), some (.int x1)] [.int ((x0 >>> (x1 &&& 31)) &&& (1 : Int32))] h0 i_141_4 rfl ?_
  refine wp_s 6 [some (.int x0), some (.int x1)] [.int (1 : Int32), .int ((x0 >>> (x1 &&& 31)) &&& (1 : Int32))] h0 i_141_5 rfl ?_
  refine wp_cmp_ne 13 9 rfl rfl i_141_6 (fun c_1 => ?_) (fun c_1 => ?_)
  · rw [if_pos c_1] at hd
    refine wp_s 14 [some (.int x0), some (.int x1)] [.int (0 : Int32)] h0 i_141_13 rfl ?_
    cases hd
    exact wp_iretZ (z := 0) i_141_14 (by decide) ⟨rfl, HH⟩
  · rw [if_neg c_1] at hd
    refine wp_s 10 [some (.int x0), some (.int x1)] [.int (1 : Int32)] h0 i_141_9 rfl ?_
    refine wp_s 14 [some (.int x0), some (.int x1)] [.int (1 : Int32)] h0 i_141_10 rfl ?_
    cases hd
    exact wp_iretZ (z := 0) i_141_14 (by decide) ⟨rfl, HH⟩
def l_142 (g n tag : Nat) (x1 : Int32) (x2 : Int32) (S : rS) : Option (rS) := match n with
  | 0 => none
  | n + 1 => if tag = 0 then (if x2 < 0 then some S else (if aIn (S.1 1) 400 = true then (l_142 g n 0 x1 (x2 + (-8 : Int32)) (rF (rA S 0 (upd (S.2.1 0) (S.1 1).toNatClampNeg (vp_nar .byte ((x1 >>> (x2 &&& 31)).toInt8.toInt32)))) 1 ((S.1 1) + (1 : Int32)))) else none)) else none
set_option maxHeartbeats 4000000 in
set_option maxRecDepth 100000 in
theorem l_142_ok {X : aX} {g d : Nat} (hdp : 0 ≤ d) : ∀ n, (∀ (x1 : Int32) (x2 : Int32) (S : rS) (h0 : aH) (zz : rS), rm h0 S → l_142 g n 0 x1 x2 S = some zz → aWp X d 142 3 [some (.ref 382), some (.int x1), some (.int x2)] [] h0 (fun w h' => w = none ∧ rTo h0 zz h')) := by
  intro n
  induction n with
  | zero => exact fun _ _ _ _ _ _ hd => by simp [l_142] at hd
  | succ n ih =>
    intro x1 x2 S h0 zz HS hd
    unfold l_142 at hd
    rw [if_pos rfl] at hd
    have HH := rTo.rf HS
    refine wp_s 4 [some (.ref 382), some (.int x1), some (.int x2)] [.int x2] h0 i_142_3 rfl ?_
    refine wp_if_lt 36 7 rfl rfl i_142_4 (fun c_1 => ?_) (fun c_1 => ?_)
    · rw [if_pos c_1] at hd
      cases hd
      exact wp_ret i_142_36 rfl ⟨rfl, HH⟩
    · rw [if_neg c_1] at hd
      refine wp_s 8 [some (.ref 382), some (.int x1), some (.int x2)] [.ref 382] h0 i_142_7 rfl ?_
      refine wp_get (v := .ref 383) 11 rfl i_142_8 (HH.1 0 (by decide)) rfl ?_
      refine wp_s 12 [some (.ref 382), some (.int x1), some (.int x2)] [.ref 382, .ref 383] h0 i_142_11 rfl ?_
      refine wp_get (v := .int (S.1 1)) 15 rfl i_142_12 (HH.1 0 (by decide)) rfl ?_
      refine wp_s 16 [some (.ref 382), some (.int x1), some (.int x2)] [.int x1, .int (S.1 1), .ref 383] h0 i_142_15 rfl ?_
      refine wp_s 17 [some (.ref 382), some (.int x1), some (.int x2)] [.int x2, .int x1, .int (S.1 1), .ref 383] h0 i_142_16 rfl ?_
      refine wp_s 18 [some (.ref 382), some (.int x1), some (.int x2)] [.int (x1 >>> (x2 &&& 31)), .int (S.1 1), .ref 383] h0 i_142_17 rfl ?_
      refine wp_s 19 [some (.ref 382), some (.int x1), some (.int x2)] [.int ((x1 >>> (x2 &&& 31)).toInt8.toInt32), .int (S.1 1), .ref 383] h0 i_142_18 rfl ?_
      obtain ⟨b_2, hd⟩ := dk_if hd
      refine rq_A0 20 rfl i_142_19 HH b_2 (fun h_3 H_4 => ?_)
      refine wp_s 21 [some (.ref 382), some (.int x1), some (.int x2)] [.ref 382] h_3 i_142_20 rfl ?_
      refine wp_s 22 [some (.ref 382), some (.int x1), some (.int x2)] [.ref 382, .ref 382] h_3 i_142_21 rfl ?_
      refine wp_get (v := .int (S.1 1)) 25 rfl i_142_22 (H_4.1 0 (by decide)) rfl ?_
      refine wp_s 26 [some (.ref 382), some (.int x1), some (.int x2)] [.int (1 : Int32), .int (S.1 1), .ref 382] h_3 i_142_25 rfl ?_
      refine wp_s 27 [some (.ref 382), some (.int x1), some (.int x2)] [.int ((S.1 1) + (1 : Int32)), .ref 382] h_3 i_142_26 rfl ?_
      refine rq_F1 30 rfl i_142_27 H_4 (fun h_5 H_6 => ?_)
      refine wp_s 33 [some (.ref 382), some (.int x1), some (.int (x2 + (-8 : Int32)))] [] h_5 i_142_30 rfl ?_
      refine wp_s 3 [some (.ref 382), some (.int x1), some (.int (x2 + (-8 : Int32)))] [] h_5 i_142_33 rfl ?_
      exact aWp.post (aWp.forget (ih _ _ _ _ _ H_6.1 hd) ((lvS (lvS (lvS lvE))))) (fun _ _ hq => ⟨hq.1, H_6.tr hq.2⟩)
def d_142 (g : Nat) (x1 : Int32) (S : rS) : Option (rS) := (l_142 g g 0 x1 (24 : Int32) S)
set_option maxHeartbeats 4000000 in
set_option maxRecDepth 100000 in
theorem d_142_ok {X : aX} {g d : Nat} {x1 : Int32} {S : rS} {h0 : aH} {zz : rS} (hdp : 0 ≤ d) (HS : rm h0 S) (hd : d_142 g x1 S = some zz) : aWp X d 142 0 (aEntL [.ref 382, .int x1] 3) [] h0 (fun w h' => w = none ∧ rTo h0 zz h') := by
  unfold d_142 at hd
  have HH := rTo.rf HS
  refine wp_lv (l2 := [some (.ref 382), some (.int x1), none]) rfl ?_
  refine wp_s 2 [some (.ref 382), some (.int x1), none] [.int (24 : Int32)] h0 i_142_0 rfl ?_
  refine wp_s 3 [some (.ref 382), some (.int x1), some (.int (24 : Int32))] [] h0 i_142_2 rfl ?_
  exact aWp.post (aWp.forget ((l_142_ok hdp g) _ _ _ _ _ HH.1 hd) ((lvS (lvS (lvS lvE))))) (fun _ _ hq => ⟨hq.1, HH.tr hq.2⟩)
def d_143 (g : Nat) (x1 : Int32) (x2 : Int32) (x3 : Int32) (x4 : Int32) (x5 : Int32) (S : rS) : Option (Int32 × rS) := (if ((S.1 1) + (20 : Int32)) ≤ (400 : Int32) then ((d_142 g x1 S).bind (fun z_2 => ((d_142 g x2 z_2).bind (fun z_7 => ((d_142 g x3 z_7).bind (fun z_12 => ((d_142 g x4 z_12).bind (fun z_17 => ((d_142 g x5 z_17).bind (fun z_22 => some ((z_22.1 1), z_22))))))))))) else some ((-1 : Int32), S))
set_option maxHeartbeats 4000000 in
set_option maxRecDepth 100000 in
theorem d_143_ok {X : aX} {g d : Nat} {x1 : Int32} {x2 : Int32} {x3 : Int32} {x4 : Int32} {x5 : Int32} {S : rS} {h0 : aH} {zz : Int32 × rS} (hdp : 1 ≤ d) (HS : rm h0 S) (hd : d_143 g x1 x2 x3 x4 x5 S = some zz) : aWp X d 143 0 (aEntL [.ref 382, .int x1, .int x2, .int x3, .int x4, .int x5] 6) [] h0 (fun w h' => w = some (.int zz.1) ∧ rTo h0 zz.2 h') := by
  unfold d_143 at hd
  have HH := rTo.rf HS
  refine wp_lv (l2 := [some (.ref 382), some (.int x1), some (.int x2), some (.int x3), some (.int x4), some (.int x5)]) rfl ?_
  obtain ⟨e, rfl⟩ : ∃ e, d = e + 1 := ⟨d - 1, by omega⟩
  refine wp_s 1 [some (.ref 382), some (.int x1), some (.int x2), some (.int x3), some (.int x4), some (.int x5)] [.ref 382] h0 i_143_0 rfl ?_
  refine wp_get (v := .int (S.1 1)) 4 rfl i_143_1 (HH.1 0 (by decide)) rfl ?_
  refine wp_s 6 [some (.ref 382), some (.int x1), some (.int x2), some (.int x3), some (.int x4), some (.int x5)] [.int (20 : Int32), .int (S.1 1)] h0 i_143_4 rfl ?_
  refine wp_s 7 [some (.ref 382), some (.int x1), some (.int x2), some (.int x3), some (.int x4), some (.int x5)] [.int ((S.1 1) + (20 : Int32))] h0 i_143_6 rfl ?_
  refine wp_s 10 [some (.ref 382), some (.int x1), some (.int x2), some (.int x3), some (.int x4), some (.int x5)] [.int (400 : Int32), .int ((S.1 1) + (20 : Int32))] h0 i_143_7 rfl ?_
  refine wp_cmp_le 15 13 rfl rfl i_143_10 (fun c_1 => ?_) (fun c_1 => ?_)
  · rw [if_pos c_1] at hd
    refine wp_s 16 [some (.ref 382), some (.int x1), some (.int x2), some (.int x3), some (.int x4), some (.int x5)] [.ref 382] h0 i_143_15 rfl ?_
    refine wp_s 17 [some (.ref 382), some (.int x1), some (.int x2), some (.int x3), some (.int x4), some (.int x5)] [.int x1, .ref 382] h0 i_143_16 rfl ?_
    obtain ⟨z_2, q_3, hd⟩ := dk_bind hd
    refine wp_callV 20 rfl i_143_17 (by decide) rfl (vs := [.int x1]) (rest := []) rfl rfl rfl (HH.1 0 (by decide)) (y := m_142) rfl (Nat.le_of_ble_eq_true rfl) (d_142_ok (d := e) (by omega) HH.1 q_3) ?_
    rintro v_6 h_4 ⟨rfl, H_5⟩
    have H_5 := HH.tr H_5
    refine wp_s 21 [some (.ref 382), some (.int x1), some (.int x2), some (.int x3), some (.int x4), some (.int x5)] [.ref 382] h_4 i_143_20 rfl ?_
    refine wp_s 22 [some (.ref 382), some (.int x1), some (.int x2), some (.int x3), some (.int x4), some (.int x5)] [.int x2, .ref 382] h_4 i_143_21 rfl ?_
    obtain ⟨z_7, q_8, hd⟩ := dk_bind hd
    refine wp_callV 25 rfl i_143_22 (by decide) rfl (vs := [.int x2]) (rest := []) rfl rfl rfl (H_5.1 0 (by decide)) (y := m_142) rfl (Nat.le_of_ble_eq_true rfl) (d_142_ok (d := e) (by omega) H_5.1 q_8) ?_
    rintro v_11 h_9 ⟨rfl, H_10⟩
    have H_10 := H_5.tr H_10
    refine wp_s 26 [some (.ref 382), some (.int x1), some (.int x2), some (.int x3), some (.int x4), some (.int x5)] [.ref 382] h_9 i_143_25 rfl ?_
    refine wp_s 27 [some (.ref 382), some (.int x1), some (.int x2), some (.int x3), some (.int x4), some (.int x5)] [.int x3, .ref 382] h_9 i_143_26 rfl ?_
    obtain ⟨z_12, q_13, hd⟩ := dk_bind hd
    refine wp_callV 30 rfl i_143_27 (by decide) rfl (vs := [.int x3]) (rest := []) rfl rfl rfl (H_10.1 0 (by decide)) (y := m_142) rfl (Nat.le_of_ble_eq_true rfl) (d_142_ok (d := e) (by omega) H_10.1 q_13) ?_
    rintro v_16 h_14 ⟨rfl, H_15⟩
    have H_15 := H_10.tr H_15
    refine wp_s 31 [some (.ref 382), some (.int x1), some (.int x2), some (.int x3), some (.int x4), some (.int x5)] [.ref 382] h_14 i_143_30 rfl ?_
    refine wp_s 33 [some (.ref 382), some (.int x1), some (.int x2), some (.int x3), some (.int x4), some (.int x5)] [.int x4, .ref 382] h_14 i_143_31 rfl ?_
    obtain ⟨z_17, q_18, hd⟩ := dk_bind hd
    refine wp_callV 36 rfl i_143_33 (by decide) rfl (vs := [.int x4]) (rest := []) rfl rfl rfl (H_15.1 0 (by decide)) (y := m_142) rfl (Nat.le_of_ble_eq_true rfl) (d_142_ok (d := e) (by omega) H_15.1 q_18) ?_
    rintro v_21 h_19 ⟨rfl, H_20⟩
    have H_20 := H_15.tr H_20
    refine wp_s 37 [some (.ref 382), some (.int x1), some (.int x2), some (.int x3), some (.int x4), some (.int x5)] [.ref 382] h_19 i_143_36 rfl ?_
    refine wp_s 39 [some (.ref 382), some (.int x1), some (.int x2), some (.int x3), some (.int x4), some (.int x5)] [.int x5, .ref 382] h_19 i_143_37 rfl ?_
    obtain ⟨z_22, q_23, hd⟩ := dk_bind hd
    refine wp_callV 42 rfl i_143_39 (by decide) rfl (vs := [.int x5]) (rest := []) rfl rfl rfl (H_20.1 0 (by decide)) (y := m_142) rfl (Nat.le_of_ble_eq_true rfl) (d_142_ok (d := e) (by omega) H_20.1 q_23) ?_
    rintro v_26 h_24 ⟨rfl, H_25⟩
    have H_25 := H_20.tr H_25
    refine wp_s 43 [some (.ref 382), some (.int x1), some (.int x2), some (.int x3), some (.int x4), some (.int x5)] [.ref 382] h_24 i_143_42 rfl ?_
    refine wp_get (v := .int (z_22.1 1)) 46 rfl i_143_43 (H_25.1 0 (by decide)) rfl ?_
    cases hd
    exact wp_iret i_143_46 ⟨rfl, H_25⟩
  · rw [if_neg c_1] at hd
    refine wp_s 14 [some (.ref 382), some (.int x1), some (.int x2), some (.int x3), some (.int x4), some (.int x5)] [.int (-1 : Int32)] h0 i_143_13 rfl ?_
    cases hd
    exact wp_iret i_143_14 ⟨rfl, HH⟩
def d_144 (g : Nat) (x1 : Int32) (S : rS) : Option (Int32 × rS) := (if x1 < 0 then some ((-1 : Int32), S) else (if x1 ≤ (S.1 1) then some (x1, (rF S 1 x1)) else some ((-1 : Int32), S)))
set_option maxHeartbeats 4000000 in
set_option maxRecDepth 100000 in
theorem d_144_ok {X : aX} {g d : Nat} {x1 : Int32} {S : rS} {h0 : aH} {zz : Int32 × rS} (hdp : 0 ≤ d) (HS : rm h0 S) (hd : d_144 g x1 S = some zz) : aWp X d 144 0 (aEntL [.ref 382, .int x1] 2) [] h0 (fun w h' => w = some (.int zz.1) ∧ rTo h0 zz.2 h') := by
  unfold d_144 at hd
  have HH := rTo.rf HS
  refine wp_lv (l2 := [some (.ref 382), some (.int x1)]) rfl ?_
  refine wp_s 1 [some (.ref 382), some (.int x1)] [.int x1] h0 i_144_0 rfl ?_
  refine wp_if_lt 12 4 rfl rfl i_144_1 (fun c_1 => ?_) (fun c_1 => ?_)
  · rw [if_pos c_1] at hd
    refine wp_s 13 [some (.ref 382), some (.int x1)] [.int (-1 : Int32)] h0 i_144_12 rfl ?_
    cases hd
    exact wp_iret i_144_13 ⟨rfl, HH⟩
  · rw [if_neg c_1] at hd
    refine wp_s 5 [some (.ref 382), some (.int x1)] [.int x1] h0 i_144_4 rfl ?_
    refine wp_s 6 [some (.ref 382), some (.int x1)] [.ref 382, .int x1] h0 i_144_5 rfl ?_
    refine wp_get (v := .int (S.1 1)) 9 rfl i_144_6 (HH.1 0 (by decide)) rfl ?_
    refine wp_cmp_le 14 12 rfl rfl i_144_9 (fun c_2 => ?_) (fun c_2 => ?_)
    · rw [if_pos c_2] at hd
      refine wp_s 15 [some (.ref 382), some (.int x1)] [.ref 382] h0 i_144_14 rfl ?_
      refine wp_s 16 [some (.ref 382), some (.int x1)] [.int x1, .ref 382] h0 i_144_15 rfl ?_
      refine rq_F1 19 rfl i_144_16 HH (fun h_3 H_4 => ?_)
      refine wp_s 20 [some (.ref 382), some (.int x1)] [.int x1] h_3 i_144_19 rfl ?_
      cases hd
      exact wp_iret i_144_20 ⟨rfl, H_4⟩
    · rw [if_neg c_2] at hd
      refine wp_s 13 [some (.ref 382), some (.int x1)] [.int (-1 : Int32)] h0 i_144_12 rfl ?_
      cases hd
      exact wp_iret i_144_13 ⟨rfl, HH⟩
def d_145 (g : Nat) (x1 : Int32) (x2 : Int32) (S : rS) : Option (Int32 × rS) := (if ¬ (S.1 9) = 0 then some ((0 : Int32), S) else some ((0 : Int32), (rF S 9 (((1 : Int32) + ((8 : Int32) * x2)) + x1))))
set_option maxHeartbeats 4000000 in
set_option maxRecDepth 100000 in
theorem d_145_ok {X : aX} {g d : Nat} {x1 : Int32} {x2 : Int32} {S : rS} {h0 : aH} {zz : Int32 × rS} (hdp : 0 ≤ d) (HS : rm h0 S) (hd : d_145 g x1 x2 S = some zz) : aWp X d 145 0 (aEntL [.ref 382, .int x1, .int x2] 3) [] h0 (fun w h' => w = some (.int zz.1) ∧ rTo h0 zz.2 h') := by
  unfold d_145 at hd
  have HH := rTo.rf HS
  refine wp_lv (l2 := [some (.ref 382), some (.int x1), some (.int x2)]) rfl ?_
  refine wp_s 1 [some (.ref 382), some (.int x1), some (.int x2)] [.ref 382] h0 i_145_0 rfl ?_
  refine wp_get (v := .int (S.1 9)) 4 rfl i_145_1 (HH.1 0 (by decide)) rfl ?_
  refine wp_if_ne 19 7 rfl rfl i_145_4 (fun c_1 => ?_) (fun c_1 => ?_)
  · rw [if_pos c_1] at hd
    refine wp_s 20 [some (.ref 382), some (.int x1), some (.int x2)] [.int (0 : Int32)] h0 i_145_19 rfl ?_
    cases hd
    exact wp_iretZ (z := 0) i_145_20 (by decide) ⟨rfl, HH⟩
  · rw [if_neg c_1] at hd
    refine wp_s 8 [some (.ref 382), some (.int x1), some (.int x2)] [.ref 382] h0 i_145_7 rfl ?_
    refine wp_s 9 [some (.ref 382), some (.int x1), some (.int x2)] [.int (1 : Int32), .ref 382] h0 i_145_8 rfl ?_
    refine wp_s 11 [some (.ref 382), some (.int x1), some (.int x2)] [.int (8 : Int32), .int (1 : Int32), .ref 382] h0 i_145_9 rfl ?_
    refine wp_s 12 [some (.ref 382), some (.int x1), some (.int x2)] [.int x2, .int (8 : Int32), .int (1 : Int32), .ref 382] h0 i_145_11 rfl ?_
    refine wp_s 13 [some (.ref 382), some (.int x1), some (.int x2)] [.int ((8 : Int32) * x2), .int (1 : Int32), .ref 382] h0 i_145_12 rfl ?_
    refine wp_s 14 [some (.ref 382), some (.int x1), some (.int x2)] [.int ((1 : Int32) + ((8 : Int32) * x2)), .ref 382] h0 i_145_13 rfl ?_
    refine wp_s 15 [some (.ref 382), some (.int x1), some (.int x2)] [.int x1, .int ((1 : Int32) + ((8 : Int32) * x2)), .ref 382] h0 i_145_14 rfl ?_
    refine wp_s 16 [some (.ref 382), some (.int x1), some (.int x2)] [.int (((1 : Int32) + ((8 : Int32) * x2)) + x1), .ref 382] h0 i_145_15 rfl ?_
    refine rq_F9 19 rfl i_145_16 HH (fun h_2 H_3 => ?_)
    refine wp_s 20 [some (.ref 382), some (.int x1), some (.int x2)] [.int (0 : Int32)] h_2 i_145_19 rfl ?_
    cases hd
    exact wp_iretZ (z := 0) i_145_20 (by decide) ⟨rfl, H_3⟩
def l_146 (g n tag : Nat)  (S : rS) : Option (Int32 × rS) := match n with
  | 0 => none
  | n + 1 => if tag = 0 then (if (S.1 1) ≤ (S.1 8) then (l_146 g n 1  S) else (if aIn (S.1 8) 400 = true then (if ¬ ((S.2.1 0) (S.1 8).toNatClampNeg) = (32 : Int32) then (l_146 g n 1  S) else (l_146 g n 0  (rF S 8 ((S.1 8) + (1 : Int32))))) else none)) else if tag = 1 then (if (S.1 1) ≤ (S.1 8) then some ((-1 : Int32), S) else (if aIn (S.1 8) 400 = true then some ((((S.2.1 0) (S.1 8).toNatClampNeg) &&& (255 : Int32)), S) else none)) else none
set_option maxHeartbeats 4000000 in
set_option maxRecDepth 100000 in
theorem l_146_ok {X : aX} {g d : Nat} (hdp : 0 ≤ d) : ∀ n, (∀  (S : rS) (h0 : aH) (zz : Int32 × rS), rm h0 S → l_146 g n 0  S = some zz → aWp X d 146 0 [some (.ref 382)] [] h0 (fun w h' => w = some (.int zz.1) ∧ rTo h0 zz.2 h')) ∧ (∀  (S : rS) (h0 : aH) (zz : Int32 × rS), rm h0 S → l_146 g n 1  S = some zz → aWp X d 146 38 [some (.ref 382)] [] h0 (fun w h' => w = some (.int zz.1) ∧ rTo h0 zz.2 h')) := by
  intro n
  induction n with
  | zero => exact ⟨fun _ _ _ _ hd => by simp [l_146] at hd, fun _ _ _ _ hd => by simp [l_146] at hd⟩
  | succ n ih =>
    refine ⟨?_, ?_⟩
    · intro  S h0 zz HS hd
      unfold l_146 at hd
      rw [if_pos rfl] at hd
      have HH := rTo.rf HS
      refine wp_s 1 [some (.ref 382)] [.ref 382] h0 i_146_0 rfl ?_
      refine wp_get (v := .int (S.1 8)) 4 rfl i_146_1 (HH.1 0 (by decide)) rfl ?_
      refine wp_s 5 [some (.ref 382)] [.ref 382, .int (S.1 8)] h0 i_146_4 rfl ?_
      refine wp_get (v := .int (S.1 1)) 8 rfl i_146_5 (HH.1 0 (by decide)) rfl ?_
      refine wp_cmp_ge 38 11 rfl rfl i_146_8 (fun c_1 => ?_) (fun c_1 => ?_)
      · rw [if_pos c_1] at hd
        exact aWp.post (aWp.forget (ih.2 _ _ _ HH.1 hd) ((lvS lvE))) (fun _ _ hq => ⟨hq.1, HH.tr hq.2⟩)
      · rw [if_neg c_1] at hd
        refine wp_s 12 [some (.ref 382)] [.ref 382] h0 i_146_11 rfl ?_
        refine wp_get (v := .ref 383) 15 rfl i_146_12 (HH.1 0 (by decide)) rfl ?_
        refine wp_s 16 [some (.ref 382)] [.ref 382, .ref 383] h0 i_146_15 rfl ?_
        refine wp_get (v := .int (S.1 8)) 19 rfl i_146_16 (HH.1 0 (by decide)) rfl ?_
        obtain ⟨b_2, hd⟩ := dk_if hd
        refine wp_bald (f := (S.2.1 0)) 20 rfl i_146_19 (Or.inl rfl) (HH.1 1 (by decide)) b_2 ?_
        refine wp_s 22 [some (.ref 382)] [.int (32 : Int32), .int ((S.2.1 0) (S.1 8).toNatClampNeg)] h0 i_146_20 rfl ?_
        refine wp_cmp_ne 38 25 rfl rfl i_146_22 (fun c_3 => ?_) (fun c_3 => ?_)
        · rw [if_pos c_3] at hd
          exact aWp.post (aWp.forget (ih.2 _ _ _ HH.1 hd) ((lvS lvE))) (fun _ _ hq => ⟨hq.1, HH.tr hq.2⟩)
        · rw [if_neg c_3] at hd
          refine wp_s 26 [some (.ref 382)] [.ref 382] h0 i_146_25 rfl ?_
          refine wp_s 27 [some (.ref 382)] [.ref 382, .ref 382] h0 i_146_26 rfl ?_
          refine wp_get (v := .int (S.1 8)) 30 rfl i_146_27 (HH.1 0 (by decide)) rfl ?_
          refine wp_s 31 [some (.ref 382)] [.int (1 : Int32), .int (S.1 8), .ref 382] h0 i_146_30 rfl ?_
          refine wp_s 32 [some (.ref 382)] [.int ((S.1 8) + (1 : Int32)), .ref 382] h0 i_146_31 rfl ?_
          refine rq_F8 35 rfl i_146_32 HH (fun h_4 H_5 => ?_)
          refine wp_s 0 [some (.ref 382)] [] h_4 i_146_35 rfl ?_
          exact aWp.post (aWp.forget (ih.1 _ _ _ H_5.1 hd) ((lvS lvE))) (fun _ _ hq => ⟨hq.1, H_5.tr hq.2⟩)
    · intro  S h0 zz HS hd
      unfold l_146 at hd
      rw [if_neg (by decide), if_pos rfl] at hd
      have HH := rTo.rf HS
      refine wp_s 39 [some (.ref 382)] [.ref 382] h0 i_146_38 rfl ?_
      refine wp_get (v := .int (S.1 8)) 42 rfl i_146_39 (HH.1 0 (by decide)) rfl ?_
      refine wp_s 43 [some (.ref 382)] [.ref 382, .int (S.1 8)] h0 i_146_42 rfl ?_
      refine wp_get (v := .int (S.1 1)) 46 rfl i_146_43 (HH.1 0 (by decide)) rfl ?_
      refine wp_cmp_ge 65 49 rfl rfl i_146_46 (fun c_6 => ?_) (fun c_6 => ?_)
      · rw [if_pos c_6] at hd
        refine wp_s 66 [some (.ref 382)] [.int (-1 : Int32)] h0 i_146_65 rfl ?_
        cases hd
        exact wp_iret i_146_66 ⟨rfl, HH⟩
      · rw [if_neg c_6] at hd
        refine wp_s 50 [some (.ref 382)] [.ref 382] h0 i_146_49 rfl ?_
        refine wp_get (v := .ref 383) 53 rfl i_146_50 (HH.1 0 (by decide)) rfl ?_
        refine wp_s 54 [some (.ref 382)] [.ref 382, .ref 383] h0 i_146_53 rfl ?_
        refine wp_get (v := .int (S.1 8)) 57 rfl i_146_54 (HH.1 0 (by decide)) rfl ?_
        obtain ⟨b_7, hd⟩ := dk_if hd
        refine wp_bald (f := (S.2.1 0)) 58 rfl i_146_57 (Or.inl rfl) (HH.1 1 (by decide)) b_7 ?_
        refine wp_s 61 [some (.ref 382)] [.int (255 : Int32), .int ((S.2.1 0) (S.1 8).toNatClampNeg)] h0 i_146_58 rfl ?_
        refine wp_s 62 [some (.ref 382)] [.int (((S.2.1 0) (S.1 8).toNatClampNeg) &&& (255 : Int32))] h0 i_146_61 rfl ?_
        refine wp_s 66 [some (.ref 382)] [.int (((S.2.1 0) (S.1 8).toNatClampNeg) &&& (255 : Int32))] h0 i_146_62 rfl ?_
        cases hd
        exact wp_iret i_146_66 ⟨rfl, HH⟩
def d_146 (g : Nat)  (S : rS) : Option (Int32 × rS) := (l_146 g g 0  S)
set_option maxHeartbeats 4000000 in
set_option maxRecDepth 100000 in
theorem d_146_ok {X : aX} {g d : Nat}  {S : rS} {h0 : aH} {zz : Int32 × rS} (hdp : 0 ≤ d) (HS : rm h0 S) (hd : d_146 g  S = some zz) : aWp X d 146 0 (aEntL [.ref 382] 1) [] h0 (fun w h' => w = some (.int zz.1) ∧ rTo h0 zz.2 h') := by
  unfold d_146 at hd
  have HH := rTo.rf HS
  refine wp_lv (l2 := [some (.ref 382)]) rfl ?_
  exact aWp.post (aWp.forget ((l_146_ok hdp g).1 _ _ _ HH.1 hd) ((lvS lvE))) (fun _ _ hq => ⟨hq.1, HH.tr hq.2⟩)
def d_147 (g : Nat) (x1 : Int32) (S : rS) : Option (Int32 × rS) := (if (S.1 1) ≤ x1 then some ((0 : Int32), S) else (if aIn x1 400 = true then (if ((S.2.1 0) x1.toNatClampNeg) < (48 : Int32) then some ((0 : Int32), S) else (if aIn x1 400 = true then (if (57 : Int32) < ((S.2.1 0) x1.toNatClampNeg) then some ((0 : Int32), S) else some ((1 : Int32), S)) else none)) else none))
set_option maxHeartbeats 4000000 in
set_option maxRecDepth 100000 in
theorem d_147_ok {X : aX} {g d : Nat} {x1 : Int32} {S : rS} {h0 : aH} {zz : Int32 × rS} (hdp : 0 ≤ d) (HS : rm h0 S) (hd : d_147 g x1 S = some zz) : aWp X d 147 0 (aEntL [.ref 382, .int x1] 2) [] h0 (fun w h' => w = some (.int zz.1) ∧ rTo h0 zz.2 h') := by
  unfold d_147 at hd
  have HH := rTo.rf HS
  refine wp_lv (l2 := [some (.ref 382), some (.int x1)]) rfl ?_
  refine wp_s 1 [some (.ref 382), some (.int x1)] [.int x1] h0 i_147_0 rfl ?_
  refine wp_s 2 [some (.ref 382), some (.int x1)] [.ref 382, .int x1] h0 i_147_1 rfl ?_
  refine wp_get (v := .int (S.1 1)) 5 rfl i_147_2 (HH.1 0 (by decide)) rfl ?_
  refine wp_cmp_ge 34 8 rfl rfl i_147_5 (fun c_1 => ?_) (fun c_1 => ?_)
  · rw [if_pos c_1] at hd
    refine wp_s 35 [some (.ref 382), some (.int x1)] [.int (0 : Int32)] h0 i_147_34 rfl ?_
    cases hd
    exact wp_iretZ (z := 0) i_147_35 (by decide) ⟨rfl, HH⟩
  · rw [if_neg c_1] at hd
    refine wp_s 9 [some (.ref 382), some (.int x1)] [.ref 382] h0 i_147_8 rfl ?_
    refine wp_get (v := .ref 383) 12 rfl i_147_9 (HH.1 0 (by decide)) rfl ?_
    refine wp_s 13 [some (.ref 382), some (.int x1)] [.int x1, .ref 383] h0 i_147_12 rfl ?_
    obtain ⟨b_2, hd⟩ := dk_if hd
    refine wp_bald (f := (S.2.1 0)) 14 rfl i_147_13 (Or.inl rfl) (HH.1 1 (by decide)) b_2 ?_
    refine wp_s 16 [some (.ref 382), some (.int x1)] [.int (48 : Int32), .int ((S.2.1 0) x1.toNatClampNeg)] h0 i_147_14 rfl ?_
    refine wp_cmp_lt 34 19 rfl rfl i_147_16 (fun c_3 => ?_) (fun c_3 => ?_)
    · rw [if_pos c_3] at hd
      refine wp_s 35 [some (.ref 382), some (.int x1)] [.int (0 : Int32)] h0 i_147_34 rfl ?_
      cases hd
      exact wp_iretZ (z := 0) i_147_35 (by decide) ⟨rfl, HH⟩
    · rw [if_neg c_3] at hd
      refine wp_s 20 [some (.ref 382), some (.int x1)] [.ref 382] h0 i_147_19 rfl ?_
      refine wp_get (v := .ref 383) 23 rfl i_147_20 (HH.1 0 (by decide)) rfl ?_
      refine wp_s 24 [some (.ref 382), some (.int x1)] [.int x1, .ref 383] h0 i_147_23 rfl ?_
      obtain ⟨b_4, hd⟩ := dk_if hd
      refine wp_bald (f := (S.2.1 0)) 25 rfl i_147_24 (Or.inl rfl) (HH.1 1 (by decide)) b_4 ?_
      refine wp_s 27 [some (.ref 382), some (.int x1)] [.int (57 : Int32), .int ((S.2.1 0) x1.toNatClampNeg)] h0 i_147_25 rfl ?_
      refine wp_cmp_gt 34 30 rfl rfl i_147_27 (fun c_5 => ?_) (fun c_5 => ?_)
      · rw [if_pos c_5] at hd
        refine wp_s 35 [some (.ref 382), some (.int x1)] [.int (0 : Int32)] h0 i_147_34 rfl ?_
        cases hd
        exact wp_iretZ (z := 0) i_147_35 (by decide) ⟨rfl, HH⟩
      · rw [if_neg c_5] at hd
        refine wp_s 31 [some (.ref 382), some (.int x1)] [.int (1 : Int32)] h0 i_147_30 rfl ?_
        refine wp_s 35 [some (.ref 382), some (.int x1)] [.int (1 : Int32)] h0 i_147_31 rfl ?_
        cases hd
        exact wp_iretZ (z := 0) i_147_35 (by decide) ⟨rfl, HH⟩
def d_148 (g : Nat) (x1 : Int32) (S : rS) : Option (Int32 × rS) := (if (S.1 1) ≤ x1 then some ((0 : Int32), S) else (if aIn x1 400 = true then (if ((S.2.1 0) x1.toNatClampNeg) < (97 : Int32) then some ((0 : Int32), S) else (if aIn x1 400 = true then (if (122 : Int32) < ((S.2.1 0) x1.toNatClampNeg) then some ((0 : Int32), S) else some ((1 : Int32), S)) else none)) else none))
set_option maxHeartbeats 4000000 in
set_option maxRecDepth 100000 in
theorem d_148_ok {X : aX} {g d : Nat} {x1 : Int32} {S : rS} {h0 : aH} {zz : Int32 × rS} (hdp : 0 ≤ d) (HS : rm h0 S) (hd : d_148 g x1 S = some zz) : aWp X d 148 0 (aEntL [.ref 382, .int x1] 2) [] h0 (fun w h' => w = some (.int zz.1) ∧ rTo h0 zz.2 h') := by
  unfold d_148 at hd
  have HH := rTo.rf HS
  refine wp_lv (l2 := [some (.ref 382), some (.int x1)]) rfl ?_
  refine wp_s 1 [some (.ref 382), some (.int x1)] [.int x1] h0 i_148_0 rfl ?_
  refine wp_s 2 [some (.ref 382), some (.int x1)] [.ref 382, .int x1] h0 i_148_1 rfl ?_
  refine wp_get (v := .int (S.1 1)) 5 rfl i_148_2 (HH.1 0 (by decide)) rfl ?_
  refine wp_cmp_ge 34 8 rfl rfl i_148_5 (fun c_1 => ?_) (fun c_1 => ?_)
  · rw [if_pos c_1] at hd
    refine wp_s 35 [some (.ref 382), some (.int x1)] [.int (0 : Int32)] h0 i_148_34 rfl ?_
    cases hd
    exact wp_iretZ (z := 0) i_148_35 (by decide) ⟨rfl, HH⟩
  · rw [if_neg c_1] at hd
    refine wp_s 9 [some (.ref 382), some (.int x1)] [.ref 382] h0 i_148_8 rfl ?_
    refine wp_get (v := .ref 383) 12 rfl i_148_9 (HH.1 0 (by decide)) rfl ?_
    refine wp_s 13 [some (.ref 382), some (.int x1)] [.int x1, .ref 383] h0 i_148_12 rfl ?_
    obtain ⟨b_2, hd⟩ := dk_if hd
    refine wp_bald (f := (S.2.1 0)) 14 rfl i_148_13 (Or.inl rfl) (HH.1 1 (by decide)) b_2 ?_
    refine wp_s 16 [some (.ref 382), some (.int x1)] [.int (97 : Int32), .int ((S.2.1 0) x1.toNatClampNeg)] h0 i_148_14 rfl ?_
    refine wp_cmp_lt 34 19 rfl rfl i_148_16 (fun c_3 => ?_) (fun c_3 => ?_)
    · rw [if_pos c_3] at hd
      refine wp_s 35 [some (.ref 382), some (.int x1)] [.int (0 : Int32)] h0 i_148_34 rfl ?_
      cases hd
      exact wp_iretZ (z := 0) i_148_35 (by decide) ⟨rfl, HH⟩
    · rw [if_neg c_3] at hd
      refine wp_s 20 [some (.ref 382), some (.int x1)] [.ref 382] h0 i_148_19 rfl ?_
      refine wp_get (v := .ref 383) 23 rfl i_148_20 (HH.1 0 (by decide)) rfl ?_
      refine wp_s 24 [some (.ref 382), some (.int x1)] [.int x1, .ref 383] h0 i_148_23 rfl ?_
      obtain ⟨b_4, hd⟩ := dk_if hd
      refine wp_bald (f := (S.2.1 0)) 25 rfl i_148_24 (Or.inl rfl) (HH.1 1 (by decide)) b_4 ?_
      refine wp_s 27 [some (.ref 382), some (.int x1)] [.int (122 : Int32), .int ((S.2.1 0) x1.toNatClampNeg)] h0 i_148_25 rfl ?_
      refine wp_cmp_gt 34 30 rfl rfl i_148_27 (fun c_5 => ?_) (fun c_5 => ?_)
      · rw [if_pos c_5] at hd
        refine wp_s 35 [some (.ref 382), some (.int x1)] [.int (0 : Int32)] h0 i_148_34 rfl ?_
        cases hd
        exact wp_iretZ (z := 0) i_148_35 (by decide) ⟨rfl, HH⟩
      · rw [if_neg c_5] at hd
        refine wp_s 31 [some (.ref 382), some (.int x1)] [.int (1 : Int32)] h0 i_148_30 rfl ?_
        refine wp_s 35 [some (.ref 382), some (.int x1)] [.int (1 : Int32)] h0 i_148_31 rfl ?_
        cases hd
        exact wp_iretZ (z := 0) i_148_35 (by decide) ⟨rfl, HH⟩
def d_187 (g : Nat)  (S : rS) : Option (Int32 × rS) := (if aIn (0 : Int32) 181 = true then (if ¬ ((S.2.1 20) (0 : Int32).toNatClampNeg) = (1 : Int32) then some ((0 : Int32), S) else some ((1 : Int32), S)) else none)
set_option maxHeartbeats 4000000 in
set_option maxRecDepth 100000 in
theorem d_187_ok {X : aX} {g d : Nat}  {S : rS} {h0 : aH} {zz : Int32 × rS} (hdp : 0 ≤ d) (HS : rm h0 S) (hd : d_187 g  S = some zz) : aWp X d 187 0 (aEntL [.ref 382] 1) [] h0 (fun w h' => w = some (.int zz.1) ∧ rTo h0 zz.2 h') := by
  unfold d_187 at hd
  have HH := rTo.rf HS
  refine wp_lv (l2 := [some (.ref 382)]) rfl ?_
  refine wp_s 1 [some (.ref 382)] [.ref 382] h0 i_187_0 rfl ?_
  refine wp_get (v := .ref 392) 4 rfl i_187_1 (HH.1 0 (by decide)) rfl ?_
  refine wp_s 5 [some (.ref 382)] [.int (0 : Int32), .ref 392] h0 i_187_4 rfl ?_
  obtain ⟨b_1, hd⟩ := dk_if hd
  refine wp_iald (f := (S.2.1 20)) 6 rfl i_187_5 (HH.1 10 (by decide)) b_1 ?_
  refine wp_s 7 [some (.ref 382)] [.int (1 : Int32), .int ((S.2.1 20) (0 : Int32).toNatClampNeg)] h0 i_187_6 rfl ?_
  refine wp_cmp_ne 14 10 rfl rfl i_187_7 (fun c_2 => ?_) (fun c_2 => ?_)
  · rw [if_pos c_2] at hd
    refine wp_s 15 [some (.ref 382)] [.int (0 : Int32)] h0 i_187_14 rfl ?_
    cases hd
    exact wp_iretZ (z := 0) i_187_15 (by decide) ⟨rfl, HH⟩
  · rw [if_neg c_2] at hd
    refine wp_s 11 [some (.ref 382)] [.int (1 : Int32)] h0 i_187_10 rfl ?_
    refine wp_s 15 [some (.ref 382)] [.int (1 : Int32)] h0 i_187_11 rfl ?_
    cases hd
    exact wp_iretZ (z := 0) i_187_15 (by decide) ⟨rfl, HH⟩
def d_188 (g : Nat) (x1 : Int32) (S : rS) : Option (Int32 × rS) := (if x1 < 0 then some ((0 : Int32), S) else (if aIn (1 : Int32) 181 = true then (if ((S.2.1 20) (1 : Int32).toNatClampNeg) ≤ x1 then some ((0 : Int32), S) else some ((1 : Int32), S)) else none))
set_option maxHeartbeats 4000000 in
set_option maxRecDepth 100000 in
theorem d_188_ok {X : aX} {g d : Nat} {x1 : Int32} {S : rS} {h0 : aH} {zz : Int32 × rS} (hdp : 0 ≤ d) (HS : rm h0 S) (hd : d_188 g x1 S = some zz) : aWp X d 188 0 (aEntL [.ref 382, .int x1] 2) [] h0 (fun w h' => w = some (.int zz.1) ∧ rTo h0 zz.2 h') := by
  unfold d_188 at hd
  have HH := rTo.rf HS
  refine wp_lv (l2 := [some (.ref 382), some (.int x1)]) rfl ?_
  refine wp_s 1 [some (.ref 382), some (.int x1)] [.int x1] h0 i_188_0 rfl ?_
  refine wp_if_lt 18 4 rfl rfl i_188_1 (fun c_1 => ?_) (fun c_1 => ?_)
  · rw [if_pos c_1] at hd
    refine wp_s 19 [some (.ref 382), some (.int x1)] [.int (0 : Int32)] h0 i_188_18 rfl ?_
    cases hd
    exact wp_iretZ (z := 0) i_188_19 (by decide) ⟨rfl, HH⟩
  · rw [if_neg c_1] at hd
    refine wp_s 5 [some (.ref 382), some (.int x1)] [.int x1] h0 i_188_4 rfl ?_
    refine wp_s 6 [some (.ref 382), some (.int x1)] [.ref 382, .int x1] h0 i_188_5 rfl ?_
    refine wp_get (v := .ref 392) 9 rfl i_188_6 (HH.1 0 (by decide)) rfl ?_
    refine wp_s 10 [some (.ref 382), some (.int x1)] [.int (1 : Int32), .ref 392, .int x1] h0 i_188_9 rfl ?_
    obtain ⟨b_2, hd⟩ := dk_if hd
    refine wp_iald (f := (S.2.1 20)) 11 rfl i_188_10 (HH.1 10 (by decide)) b_2 ?_
    refine wp_cmp_ge 18 14 rfl rfl i_188_11 (fun c_3 => ?_) (fun c_3 => ?_)
    · rw [if_pos c_3] at hd
      refine wp_s 19 [some (.ref 382), some (.int x1)] [.int (0 : Int32)] h0 i_188_18 rfl ?_
      cases hd
      exact wp_iretZ (z := 0) i_188_19 (by decide) ⟨rfl, HH⟩
    · rw [if_neg c_3] at hd
      refine wp_s 15 [some (.ref 382), some (.int x1)] [.int (1 : Int32)] h0 i_188_14 rfl ?_
      refine wp_s 19 [some (.ref 382), some (.int x1)] [.int (1 : Int32)] h0 i_188_15 rfl ?_
      cases hd
      exact wp_iretZ (z := 0) i_188_19 (by decide) ⟨rfl, HH⟩
def d_191 (g : Nat) (x1 : Int32) (x2 : Int32) (S : rS) : Option (Int32 × rS) := (if aIn (((16 : Int32) + ((5 : Int32) * x1)) + x2) 181 = true then some (((S.2.1 20) (((16 : Int32) + ((5 : Int32) * x1)) + x2).toNatClampNeg), S) else none)
set_option maxHeartbeats 4000000 in
set_option maxRecDepth 100000 in
theorem d_191_ok {X : aX} {g d : Nat} {x1 : Int32} {x2 : Int32} {S : rS} {h0 : aH} {zz : Int32 × rS} (hdp : 0 ≤ d) (HS : rm h0 S) (hd : d_191 g x1 x2 S = some zz) : aWp X d 191 0 (aEntL [.ref 382, .int x1, .int x2] 3) [] h0 (fun w h' => w = some (.int zz.1) ∧ rTo h0 zz.2 h') := by
  unfold d_191 at hd
  have HH := rTo.rf HS
  refine wp_lv (l2 := [some (.ref 382), some (.int x1), some (.int x2)]) rfl ?_
  refine wp_s 1 [some (.ref 382), some (.int x1), some (.int x2)] [.ref 382] h0 i_191_0 rfl ?_
  refine wp_get (v := .ref 392) 4 rfl i_191_1 (HH.1 0 (by decide)) rfl ?_
  refine wp_s 6 [some (.ref 382), some (.int x1), some (.int x2)] [.int (16 : Int32), .ref 392] h0 i_191_4 rfl ?_
  refine wp_s 7 [some (.ref 382), some (.int x1), some (.int x2)] [.int (5 : Int32), .int (16 : Int32), .ref 392] h0 i_191_6 rfl ?_
  refine wp_s 8 [some (.ref 382), some (.int x1), some (.int x2)] [.int x1, .int (5 : Int32), .int (16 : Int32), .ref 392] h0 i_191_7 rfl ?_
  refine wp_s 9 [some (.ref 382), some (.int x1), some (.int x2)] [.int ((5 : Int32) * x1), .int (16 : Int32), .ref 392] h0 i_191_8 rfl ?_
  refine wp_s 10 [some (.ref 382), some (.int x1), some (.int x2)] [.int ((16 : Int32) + ((5 : Int32) * x1)), .ref 392] h0 i_191_9 rfl ?_
  refine wp_s 11 [some (.ref 382), some (.int x1), some (.int x2)] [.int x2, .int ((16 : Int32) + ((5 : Int32) * x1)), .ref 392] h0 i_191_10 rfl ?_
  refine wp_s 12 [some (.ref 382), some (.int x1), some (.int x2)] [.int (((16 : Int32) + ((5 : Int32) * x1)) + x2), .ref 392] h0 i_191_11 rfl ?_
  obtain ⟨b_1, hd⟩ := dk_if hd
  refine wp_iald (f := (S.2.1 20)) 13 rfl i_191_12 (HH.1 10 (by decide)) b_1 ?_
  cases hd
  exact wp_iret i_191_13 ⟨rfl, HH⟩
def l_195 (g n tag : Nat) (x1 : Int32) (x2 : Int32) (x3 : Int32) (x4 : Int32) (S : rS) : Option (Int32 × rS) := match n with
  | 0 => none
  | n + 1 => if tag = 0 then (if aIn (10 : Int32) 181 = true then (if ((S.2.1 20) (10 : Int32).toNatClampNeg) ≤ x3 then some (x2, S) else (if aIn ((108 : Int32) + ((3 : Int32) * x3)) 181 = true then (if x1 < ((S.2.1 20) ((108 : Int32) + ((3 : Int32) * x3)).toNatClampNeg) then (l_195 g n 1 x1 x2 x3 ((108 : Int32) + ((3 : Int32) * x3)) S) else (if aIn (((108 : Int32) + ((3 : Int32) * x3)) + (1 : Int32)) 181 = true then (if ((S.2.1 20) (((108 : Int32) + ((3 : Int32) * x3)) + (1 : Int32)).toNatClampNeg) < x1 then (l_195 g n 1 x1 x2 x3 ((108 : Int32) + ((3 : Int32) * x3)) S) else (if aIn (((108 : Int32) + ((3 : Int32) * x3)) + (2 : Int32)) 181 = true then (l_195 g n 1 x1 ((S.2.1 20) (((108 : Int32) + ((3 : Int32) * x3)) + (2 : Int32)).toNatClampNeg) x3 ((108 : Int32) + ((3 : Int32) * x3)) S) else none)) else none)) else none)) else none) else if tag = 1 then (l_195 g n 0 x1 x2 (x3 + (1 : Int32)) 0 S) else none
set_option maxHeartbeats 4000000 in
set_option maxRecDepth 100000 in
theorem l_195_ok {X : aX} {g d : Nat} (hdp : 0 ≤ d) : ∀ n, (∀ (x1 : Int32) (x2 : Int32) (x3 : Int32) (x4 : Int32) (S : rS) (h0 : aH) (zz : Int32 × rS), rm h0 S → l_195 g n 0 x1 x2 x3 x4 S = some zz → aWp X d 195 4 [some (.ref 382), some (.int x1), some (.int x2), some (.int x3), none] [] h0 (fun w h' => w = some (.int zz.1) ∧ rTo h0 zz.2 h')) ∧ (∀ (x1 : Int32) (x2 : Int32) (x3 : Int32) (x4 : Int32) (S : rS) (h0 : aH) (zz : Int32 × rS), rm h0 S → l_195 g n 1 x1 x2 x3 x4 S = some zz → aWp X d 195 57 [some (.ref 382), some (.int x1), some (.int x2), some (.int x3), some (.int x4)] [] h0 (fun w h' => w = some (.int zz.1) ∧ rTo h0 zz.2 h')) := by
  intro n
  induction n with
  | zero => exact ⟨fun _ _ _ _ _ _ _ _ hd => by simp [l_195] at hd, fun _ _ _ _ _ _ _ _ hd => by simp [l_195] at hd⟩
  | succ n ih =>
    refine ⟨?_, ?_⟩
    · intro x1 x2 x3 x4 S h0 zz HS hd
      unfold l_195 at hd
      rw [if_pos rfl] at hd
      have HH := rTo.rf HS
      refine wp_s 5 [some (.ref 382), some (.int x1), some (.int x2), some (.int x3), none] [.int x3] h0 i_195_4 rfl ?_
      refine wp_s 6 [some (.ref 382), some (.int x1), some (.int x2), some (.int x3), none] [.ref 382, .int x3] h0 i_195_5 rfl ?_
      refine wp_get (v := .ref 392) 9 rfl i_195_6 (HH.1 0 (by decide)) rfl ?_
      refine wp_s 11 [some (.ref 382), some (.int x1), some (.int x2), some (.int x3), none] [.int (10 : Int32), .ref 392, .int x3] h0 i_195_9 rfl ?_
      obtain ⟨b_1, hd⟩ := dk_if hd
      refine wp_iald (f := (S.2.1 20)) 12 rfl i_195_11 (HH.1 10 (by decide)) b_1 ?_
      refine wp_cmp_ge 63 15 rfl rfl i_195_12 (fun c_2 => ?_) (fun c_2 => ?_)
      · rw [if_pos c_2] at hd
        refine wp_s 64 [some (.ref 382), some (.int x1), some (.int x2), some (.int x3), none] [.int x2] h0 i_195_63 rfl ?_
        cases hd
        exact wp_iret i_195_64 ⟨rfl, HH⟩
      · rw [if_neg c_2] at hd
        refine wp_s 17 [some (.ref 382), some (.int x1), some (.int x2), some (.int x3), none] [.int (108 : Int32)] h0 i_195_15 rfl ?_
        refine wp_s 18 [some (.ref 382), some (.int x1), some (.int x2), some (.int x3), none] [.int (3 : Int32), .int (108 : Int32)] h0 i_195_17 rfl ?_
        refine wp_s 19 [some (.ref 382), some (.int x1), some (.int x2), some (.int x3), none] [.int x3, .int (3 : Int32), .int (108 : Int32)] h0 i_195_18 rfl ?_
        refine wp_s 20 [some (.ref 382), some (.int x1), some (.int x2), some (.int x3), none] [.int ((3 : Int32) * x3), .int (108 : Int32)] h0 i_195_19 rfl ?_
        refine wp_s 21 [some (.ref 382), some (.int x1), some (.int x2), some (.int x3), none] [.int ((108 : Int32) + ((3 : Int32) * x3))] h0 i_195_20 rfl ?_
        refine wp_s 23 [some (.ref 382), some (.int x1), some (.int x2), some (.int x3), some (.int ((108 : Int32) + ((3 : Int32) * x3)))] [] h0 i_195_21 rfl ?_
        refine wp_s 24 [some (.ref 382), some (.int x1), some (.int x2), some (.int x3), some (.int ((108 : Int32) + ((3 : Int32) * x3)))] [.int x1] h0 i_195_23 rfl ?_
        refine wp_s 25 [some (.ref 382), some (.int x1), some (.int x2), some (.int x3), some (.int ((108 : Int32) + ((3 : Int32) * x3)))] [.ref 382, .int x1] h0 i_195_24 rfl ?_
        refine wp_get (v := .ref 392) 28 rfl i_195_25 (HH.1 0 (by decide)) rfl ?_
        refine wp_s 30 [some (.ref 382), some (.int x1), some (.int x2), some (.int x3), some (.int ((108 : Int32) + ((3 : Int32) * x3)))] [.int ((108 : Int32) + ((3 : Int32) * x3)), .ref 392, .int x1] h0 i_195_28 rfl ?_
        obtain ⟨b_3, hd⟩ := dk_if hd
        refine wp_iald (f := (S.2.1 20)) 31 rfl i_195_30 (HH.1 10 (by decide)) b_3 ?_
        refine wp_cmp_lt 57 34 rfl rfl i_195_31 (fun c_4 => ?_) (fun c_4 => ?_)
        · rw [if_pos c_4] at hd
          exact aWp.post (aWp.forget (ih.2 _ _ _ _ _ _ _ HH.1 hd) ((lvS (lvS (lvS (lvS (lvS lvE))))))) (fun _ _ hq => ⟨hq.1, HH.tr hq.2⟩)
        · rw [if_neg c_4] at hd
          refine wp_s 35 [some (.ref 382), some (.int x1), some (.int x2), some (.int x3), some (.int ((108 : Int32) + ((3 : Int32) * x3)))] [.int x1] h0 i_195_34 rfl ?_
          refine wp_s 36 [some (.ref 382), some (.int x1), some (.int x2), some (.int x3), some (.int ((108 : Int32) + ((3 : Int32) * x3)))] [.ref 382, .int x1] h0 i_195_35 rfl ?_
          refine wp_get (v := .ref 392) 39 rfl i_195_36 (HH.1 0 (by decide)) rfl ?_
          refine wp_s 41 [some (.ref 382), some (.int x1), some (.int x2), some (.int x3), some (.int ((108 : Int32) + ((3 : Int32) * x3)))] [.int ((108 : Int32) + ((3 : Int32) * x3)), .ref 392, .int x1] h0 i_195_39 rfl ?_
          refine wp_s 42 [some (.ref 382), some (.int x1), some (.int x2), some (.int x3), some (.int ((108 : Int32) + ((3 : Int32) * x3)))] [.int (1 : Int32), .int ((108 : Int32) + ((3 : Int32) * x3)), .ref 392, .int x1] h0 i_195_41 rfl ?_
          refine wp_s 43 [some (.ref 382), some (.int x1), some (.int x2), some (.int x3), some (.int ((108 : Int32) + ((3 : Int32) * x3)))] [.int (((108 : Int32) + ((3 : Int32) * x3)) + (1 : Int32)), .ref 392, .int x1] h0 i_195_42 rfl ?_
          obtain ⟨b_5, hd⟩ := dk_if hd
          refine wp_iald (f := (S.2.1 20)) 44 rfl i_195_43 (HH.1 10 (by decide)) b_5 ?_
          refine wp_cmp_gt 57 47 rfl rfl i_195_44 (fun c_6 => ?_) (fun c_6 => ?_)
          · rw [if_pos c_6] at hd
            exact aWp.post (aWp.forget (ih.2 _ _ _ _ _ _ _ HH.1 hd) ((lvS (lvS (lvS (lvS (lvS lvE))))))) (fun _ _ hq => ⟨hq.1, HH.tr hq.2⟩)
          · rw [if_neg c_6] at hd
            refine wp_s 48 [some (.ref 382), some (.int x1), some (.int x2), some (.int x3), some (.int ((108 : Int32) + ((3 : Int32) * x3)))] [.ref 382] h0 i_195_47 rfl ?_
            refine wp_get (v := .ref 392) 51 rfl i_195_48 (HH.1 0 (by decide)) rfl ?_
            refine wp_s 53 [some (.ref 382), some (.int x1), some (.int x2), some (.int x3), some (.int ((108 : Int32) + ((3 : Int32) * x3)))] [.int ((108 : Int32) + ((3 : Int32) * x3)), .ref 392] h0 i_195_51 rfl ?_
            refine wp_s 54 [some (.ref 382), some (.int x1), some (.int x2), some (.int x3), some (.int ((108 : Int32) + ((3 : Int32) * x3)))] [.int (2 : Int32), .int ((108 : Int32) + ((3 : Int32) * x3)), .ref 392] h0 i_195_53 rfl ?_
            refine wp_s 55 [some (.ref 382), some (.int x1), some (.int x2), some (.int x3), some (.int ((108 : Int32) + ((3 : Int32) * x3)))] [.int (((108 : Int32) + ((3 : Int32) * x3)) + (2 : Int32)), .ref 392] h0 i_195_54 rfl ?_
            obtain ⟨b_7, hd⟩ := dk_if hd
            refine wp_iald (f := (S.2.1 20)) 56 rfl i_195_55 (HH.1 10 (by decide)) b_7 ?_
            refine wp_s 57 [some (.ref 382), some (.int x1), some (.int ((S.2.1 20) (((108 : Int32) + ((3 : Int32) * x3)) + (2 : Int32)).toNatClampNeg)), some (.int x3), some (.int ((108 : Int32) + ((3 : Int32) * x3)))] [] h0 i_195_56 rfl ?_
            exact aWp.post (aWp.forget (ih.2 _ _ _ _ _ _ _ HH.1 hd) ((lvS (lvS (lvS (lvS (lvS lvE))))))) (fun _ _ hq => ⟨hq.1, HH.tr hq.2⟩)
    · intro x1 x2 x3 x4 S h0 zz HS hd
      unfold l_195 at hd
      rw [if_neg (by decide), if_pos rfl] at hd
      have HH := rTo.rf HS
      refine wp_s 60 [some (.ref 382), some (.int x1), some (.int x2), some (.int (x3 + (1 : Int32))), some (.int x4)] [] h0 i_195_57 rfl ?_
      refine wp_s 4 [some (.ref 382), some (.int x1), some (.int x2), some (.int (x3 + (1 : Int32))), some (.int x4)] [] h0 i_195_60 rfl ?_
      exact aWp.post (aWp.forget (ih.1 _ _ _ _ _ _ _ HH.1 hd) ((lvS (lvS (lvS (lvS (lvN lvE))))))) (fun _ _ hq => ⟨hq.1, HH.tr hq.2⟩)
def d_195 (g : Nat) (x1 : Int32) (S : rS) : Option (Int32 × rS) := (l_195 g g 0 x1 (0 : Int32) (0 : Int32) 0 S)
set_option maxHeartbeats 4000000 in
set_option maxRecDepth 100000 in
theorem d_195_ok {X : aX} {g d : Nat} {x1 : Int32} {S : rS} {h0 : aH} {zz : Int32 × rS} (hdp : 0 ≤ d) (HS : rm h0 S) (hd : d_195 g x1 S = some zz) : aWp X d 195 0 (aEntL [.ref 382, .int x1] 5) [] h0 (fun w h' => w = some (.int zz.1) ∧ rTo h0 zz.2 h') := by
  unfold d_195 at hd
  have HH := rTo.rf HS
  refine wp_lv (l2 := [some (.ref 382), some (.int x1), none, none, none]) rfl ?_
  refine wp_s 1 [some (.ref 382), some (.int x1), none, none, none] [.int (0 : Int32)] h0 i_195_0 rfl ?_
  refine wp_s 2 [some (.ref 382), some (.int x1), some (.int (0 : Int32)), none, none] [] h0 i_195_1 rfl ?_
  refine wp_s 3 [some (.ref 382), some (.int x1), some (.int (0 : Int32)), none, none] [.int (0 : Int32)] h0 i_195_2 rfl ?_
  refine wp_s 4 [some (.ref 382), some (.int x1), some (.int (0 : Int32)), some (.int (0 : Int32)), none] [] h0 i_195_3 rfl ?_
  exact aWp.post (aWp.forget ((l_195_ok hdp g).1 _ _ _ _ _ _ _ HH.1 hd) ((lvS (lvS (lvS (lvS (lvN lvE))))))) (fun _ _ hq => ⟨hq.1, HH.tr hq.2⟩)
