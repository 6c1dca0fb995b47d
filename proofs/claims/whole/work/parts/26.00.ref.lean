theorem i_140_0 : aIns 140 0 = some (.lload_n 0, 1, 0, 0, .null) := by decide +kernel
theorem i_140_1 : aIns 140 1 = some (.lload_n 2, 1, 0, 0, .null) := by decide +kernel
theorem i_140_2 : aIns 140 2 = some (.lcmp, 1, 0, 0, .null) := by decide +kernel
theorem i_140_3 : aIns 140 3 = some (.ifCond .lt 14, 3, 0, 0, .null) := by decide +kernel
theorem i_140_6 : aIns 140 6 = some (.lload_n 0, 1, 0, 0, .null) := by decide +kernel
theorem i_140_7 : aIns 140 7 = some (.lload 4, 2, 0, 0, .null) := by decide +kernel
theorem i_140_9 : aIns 140 9 = some (.lcmp, 1, 0, 0, .null) := by decide +kernel
theorem i_140_10 : aIns 140 10 = some (.ifCond .gt 7, 3, 0, 0, .null) := by decide +kernel
theorem i_140_13 : aIns 140 13 = some (.iconst 1, 1, 0, 0, .int (1)) := by decide +kernel
theorem i_140_14 : aIns 140 14 = some (.goto 4, 3, 0, 0, .null) := by decide +kernel
theorem i_140_17 : aIns 140 17 = some (.iconst 0, 1, 0, 0, .int (0)) := by decide +kernel
theorem i_140_18 : aIns 140 18 = some (.ireturn, 1, 1, 0, .null) := by decide +kernel
theorem i_141_0 : aIns 141 0 = some (.iload_n 0, 1, 0, 0, .null) := by decide +kernel
theorem i_141_1 : aIns 141 1 = some (.iload_n 1, 1, 0, 0, .null) := by decide +kernel
theorem i_141_2 : aIns 141 2 = some (.ishr, 1, 0, 0, .null) := by decide +kernel
theorem i_141_3 : aIns 141 3 = some (.iconst 1, 1, 0, 0, .int (1)) := by decide +kernel
theorem i_141_4 : aIns 141 4 = some (.iand, 1, 0, 0, .null) := by decide +kernel
theorem i_141_5 : aIns 141 5 = some (.iconst 1, 1, 0, 0, .int (1)) := by decide +kernel
theorem i_141_6 : aIns 141 6 = some (.if_icmp .ne 7, 3, 0, 0, .null) := by decide +kernel
theorem i_141_9 : aIns 141 9 = some (.iconst 1, 1, 0, 0, .int (1)) := by decide +kernel
theorem i_141_10 : aIns 141 10 = some (.goto 4, 3, 0, 0, .null) := by decide +kernel
theorem i_141_13 : aIns 141 13 = some (.iconst 0, 1, 0, 0, .int (0)) := by decide +kernel
theorem i_141_14 : aIns 141 14 = some (.ireturn, 1, 1, 0, .null) := by decide +kernel
theorem i_142_0 : aIns 142 0 = some (.bipush 24, 2, 0, 0, .int (24)) := by decide +kernel
theorem i_142_2 : aIns 142 2 = some (.istore_n 2, 1, 0, 0, .null) := by decide +kernel
theorem i_142_3 : aIns 142 3 = some (.iload_n 2, 1, 0, 0, .null) := by decide +kernel
theorem i_142_4 : aIns 142 4 = some (.ifCond .lt 32, 3, 0, 0, .null) := by decide +kernel
theorem i_142_7 : aIns 142 7 = some (.aload_n 0, 1, 0, 0, .null) := by decide +kernel
theorem i_142_8 : aIns 142 8 = some (.getfield 7, 3, 12, 0, .null) := by decide +kernel
theorem i_142_11 : aIns 142 11 = some (.aload_n 0, 1, 0, 0, .null) := by decide +kernel
theorem i_142_12 : aIns 142 12 = some (.getfield 86, 3, 12, 1, .null) := by decide +kernel
theorem i_142_15 : aIns 142 15 = some (.iload_n 1, 1, 0, 0, .null) := by decide +kernel
theorem i_142_16 : aIns 142 16 = some (.iload_n 2, 1, 0, 0, .null) := by decide +kernel
theorem i_142_17 : aIns 142 17 = some (.ishr, 1, 0, 0, .null) := by decide +kernel
theorem i_142_18 : aIns 142 18 = some (.i2b, 1, 0, 0, .null) := by decide +kernel
theorem i_142_19 : aIns 142 19 = some (.bastore, 1, 0, 0, .null) := by decide +kernel
theorem i_142_20 : aIns 142 20 = some (.aload_n 0, 1, 0, 0, .null) := by decide +kernel
theorem i_142_21 : aIns 142 21 = some (.dup, 1, 0, 0, .null) := by decide +kernel
theorem i_142_22 : aIns 142 22 = some (.getfield 86, 3, 12, 1, .null) := by decide +kernel
theorem i_142_25 : aIns 142 25 = some (.iconst 1, 1, 0, 0, .int (1)) := by decide +kernel
theorem i_142_26 : aIns 142 26 = some (.iadd, 1, 0, 0, .null) := by decide +kernel
theorem i_142_27 : aIns 142 27 = some (.putfield 86, 3, 12, 1, .null) := by decide +kernel
theorem i_142_30 : aIns 142 30 = some (.iinc 2 (-8), 3, 0, 0, .null) := by decide +kernel
theorem i_142_33 : aIns 142 33 = some (.goto (-30), 3, 0, 0, .null) := by decide +kernel
theorem i_142_36 : aIns 142 36 = some (.return_, 1, 0, 0, .null) := by decide +kernel
theorem i_143_0 : aIns 143 0 = some (.aload_n 0, 1, 0, 0, .null) := by decide +kernel
theorem i_143_1 : aIns 143 1 = some (.getfield 86, 3, 12, 1, .null) := by decide +kernel
theorem i_143_4 : aIns 143 4 = some (.bipush 20, 2, 0, 0, .int (20)) := by decide +kernel
theorem i_143_6 : aIns 143 6 = some (.iadd, 1, 0, 0, .null) := by decide +kernel
theorem i_143_7 : aIns 143 7 = some (.sipush 400, 3, 0, 0, .int (400)) := by decide +kernel
theorem i_143_10 : aIns 143 10 = some (.if_icmp .le 5, 3, 0, 0, .null) := by decide +kernel
theorem i_143_13 : aIns 143 13 = some (.iconst (-1), 1, 0, 0, .int (-1)) := by decide +kernel
theorem i_143_14 : aIns 143 14 = some (.ireturn, 1, 0, 0, .null) := by decide +kernel
theorem i_143_15 : aIns 143 15 = some (.aload_n 0, 1, 0, 0, .null) := by decide +kernel
theorem i_143_16 : aIns 143 16 = some (.iload_n 1, 1, 0, 0, .null) := by decide +kernel
theorem i_143_17 : aIns 143 17 = some (.invokevirtual 89, 3, 142, 1, .int 12) := by decide +kernel
theorem i_143_20 : aIns 143 20 = some (.aload_n 0, 1, 0, 0, .null) := by decide +kernel
theorem i_143_21 : aIns 143 21 = some (.iload_n 2, 1, 0, 0, .null) := by decide +kernel
theorem i_143_22 : aIns 143 22 = some (.invokevirtual 89, 3, 142, 1, .int 12) := by decide +kernel
theorem i_143_25 : aIns 143 25 = some (.aload_n 0, 1, 0, 0, .null) := by decide +kernel
theorem i_143_26 : aIns 143 26 = some (.iload_n 3, 1, 0, 0, .null) := by decide +kernel
theorem i_143_27 : aIns 143 27 = some (.invokevirtual 89, 3, 142, 1, .int 12) := by decide +kernel
theorem i_143_30 : aIns 143 30 = some (.aload_n 0, 1, 0, 0, .null) := by decide +kernel
theorem i_143_31 : aIns 143 31 = some (.iload 4, 2, 0, 0, .null) := by decide +kernel
theorem i_143_33 : aIns 143 33 = some (.invokevirtual 89, 3, 142, 1, .int 12) := by decide +kernel
theorem i_143_36 : aIns 143 36 = some (.aload_n 0, 1, 0, 0, .null) := by decide +kernel
theorem i_143_37 : aIns 143 37 = some (.iload 5, 2, 0, 0, .null) := by decide +kernel
theorem i_143_39 : aIns 143 39 = some (.invokevirtual 89, 3, 142, 1, .int 12) := by decide +kernel
theorem i_143_42 : aIns 143 42 = some (.aload_n 0, 1, 0, 0, .null) := by decide +kernel
theorem i_143_43 : aIns 143 43 = some (.getfield 86, 3, 12, 1, .null) := by decide +kernel
theorem i_143_46 : aIns 143 46 = some (.ireturn, 1, 0, 0, .null) := by decide +kernel
theorem i_144_0 : aIns 144 0 = some (.iload_n 1, 1, 0, 0, .null) := by decide +kernel
theorem i_144_1 : aIns 144 1 = some (.ifCond .lt 11, 3, 0, 0, .null) := by decide +kernel
theorem i_144_4 : aIns 144 4 = some (.iload_n 1, 1, 0, 0, .null) := by decide +kernel
theorem i_144_5 : aIns 144 5 = some (.aload_n 0, 1, 0, 0, .null) := by decide +kernel
theorem i_144_6 : aIns 144 6 = some (.getfield 86, 3, 12, 1, .null) := by decide +kernel
theorem i_144_9 : aIns 144 9 = some (.if_icmp .le 5, 3, 0, 0, .null) := by decide +kernel
theorem i_144_12 : aIns 144 12 = some (.iconst (-1), 1, 0, 0, .int (-1)) := by decide +kernel
theorem i_144_13 : aIns 144 13 = some (.ireturn, 1, 0, 0, .null) := by decide +kernel
theorem i_144_14 : aIns 144 14 = some (.aload_n 0, 1, 0, 0, .null) := by decide +kernel
theorem i_144_15 : aIns 144 15 = some (.iload_n 1, 1, 0, 0, .null) := by decide +kernel
theorem i_144_16 : aIns 144 16 = some (.putfield 86, 3, 12, 1, .null) := by decide +kernel
theorem i_144_19 : aIns 144 19 = some (.iload_n 1, 1, 0, 0, .null) := by decide +kernel
theorem i_144_20 : aIns 144 20 = some (.ireturn, 1, 0, 0, .null) := by decide +kernel
theorem i_145_0 : aIns 145 0 = some (.aload_n 0, 1, 0, 0, .null) := by decide +kernel
theorem i_145_1 : aIns 145 1 = some (.getfield 93, 3, 12, 9, .null) := by decide +kernel
theorem i_145_4 : aIns 145 4 = some (.ifCond .ne 15, 3, 0, 0, .null) := by decide +kernel
theorem i_145_7 : aIns 145 7 = some (.aload_n 0, 1, 0, 0, .null) := by decide +kernel
theorem i_145_8 : aIns 145 8 = some (.iconst 1, 1, 0, 0, .int (1)) := by decide +kernel
theorem i_145_9 : aIns 145 9 = some (.bipush 8, 2, 0, 0, .int (8)) := by decide +kernel
theorem i_145_11 : aIns 145 11 = some (.iload_n 2, 1, 0, 0, .null) := by decide +kernel
theorem i_145_12 : aIns 145 12 = some (.imul, 1, 0, 0, .null) := by decide +kernel
theorem i_145_13 : aIns 145 13 = some (.iadd, 1, 0, 0, .null) := by decide +kernel
theorem i_145_14 : aIns 145 14 = some (.iload_n 1, 1, 0, 0, .null) := by decide +kernel
theorem i_145_15 : aIns 145 15 = some (.iadd, 1, 0, 0, .null) := by decide +kernel
theorem i_145_16 : aIns 145 16 = some (.putfield 93, 3, 12, 9, .null) := by decide +kernel
theorem i_145_19 : aIns 145 19 = some (.iconst 0, 1, 0, 0, .int (0)) := by decide +kernel
theorem i_145_20 : aIns 145 20 = some (.ireturn, 1, 1, 0, .null) := by decide +kernel
theorem i_146_0 : aIns 146 0 = some (.aload_n 0, 1, 0, 0, .null) := by decide +kernel
theorem i_146_1 : aIns 146 1 = some (.getfield 96, 3, 12, 8, .null) := by decide +kernel
theorem i_146_4 : aIns 146 4 = some (.aload_n 0, 1, 0, 0, .null) := by decide +kernel
theorem i_146_5 : aIns 146 5 = some (.getfield 86, 3, 12, 1, .null) := by decide +kernel
theorem i_146_8 : aIns 146 8 = some (.if_icmp .ge 30, 3, 0, 0, .null) := by decide +kernel
theorem i_146_11 : aIns 146 11 = some (.aload_n 0, 1, 0, 0, .null) := by decide +kernel
theorem i_146_12 : aIns 146 12 = some (.getfield 7, 3, 12, 0, .null) := by decide +kernel
theorem i_146_15 : aIns 146 15 = some (.aload_n 0, 1, 0, 0, .null) := by decide +kernel
theorem i_146_16 : aIns 146 16 = some (.getfield 96, 3, 12, 8, .null) := by decide +kernel
theorem i_146_19 : aIns 146 19 = some (.baload, 1, 0, 0, .null) := by decide +kernel
theorem i_146_20 : aIns 146 20 = some (.bipush 32, 2, 0, 0, .int (32)) := by decide +kernel
theorem i_146_22 : aIns 146 22 = some (.if_icmp .ne 16, 3, 0, 0, .null) := by decide +kernel
theorem i_146_25 : aIns 146 25 = some (.aload_n 0, 1, 0, 0, .null) := by decide +kernel
theorem i_146_26 : aIns 146 26 = some (.dup, 1, 0, 0, .null) := by decide +kernel
theorem i_146_27 : aIns 146 27 = some (.getfield 96, 3, 12, 8, .null) := by decide +kernel
theorem i_146_30 : aIns 146 30 = some (.iconst 1, 1, 0, 0, .int (1)) := by decide +kernel
theorem i_146_31 : aIns 146 31 = some (.iadd, 1, 0, 0, .null) := by decide +kernel
theorem i_146_32 : aIns 146 32 = some (.putfield 96, 3, 12, 8, .null) := by decide +kernel
theorem i_146_35 : aIns 146 35 = some (.goto (-35), 3, 0, 0, .null) := by decide +kernel
theorem i_146_38 : aIns 146 38 = some (.aload_n 0, 1, 0, 0, .null) := by decide +kernel
theorem i_146_39 : aIns 146 39 = some (.getfield 96, 3, 12, 8, .null) := by decide +kernel
theorem i_146_42 : aIns 146 42 = some (.aload_n 0, 1, 0, 0, .null) := by decide +kernel
theorem i_146_43 : aIns 146 43 = some (.getfield 86, 3, 12, 1, .null) := by decide +kernel
theorem i_146_46 : aIns 146 46 = some (.if_icmp .ge 19, 3, 0, 0, .null) := by decide +kernel
theorem i_146_49 : aIns 146 49 = some (.aload_n 0, 1, 0, 0, .null) := by decide +kernel
theorem i_146_50 : aIns 146 50 = some (.getfield 7, 3, 12, 0, .null) := by decide +kernel
theorem i_146_53 : aIns 146 53 = some (.aload_n 0, 1, 0, 0, .null) := by decide +kernel
theorem i_146_54 : aIns 146 54 = some (.getfield 96, 3, 12, 8, .null) := by decide +kernel
theorem i_146_57 : aIns 146 57 = some (.baload, 1, 0, 0, .null) := by decide +kernel
theorem i_146_58 : aIns 146 58 = some (.sipush 255, 3, 0, 0, .int (255)) := by decide +kernel
theorem i_146_61 : aIns 146 61 = some (.iand, 1, 0, 0, .null) := by decide +kernel
theorem i_146_62 : aIns 146 62 = some (.goto 4, 3, 0, 0, .null) := by decide +kernel
theorem i_146_65 : aIns 146 65 = some (.iconst (-1), 1, 0, 0, .int (-1)) := by decide +kernel
theorem i_146_66 : aIns 146 66 = some (.ireturn, 1, 0, 0, .null) := by decide +kernel
theorem i_147_0 : aIns 147 0 = some (.iload_n 1, 1, 0, 0, .null) := by decide +kernel
theorem i_147_1 : aIns 147 1 = some (.aload_n 0, 1, 0, 0, .null) := by decide +kernel
theorem i_147_2 : aIns 147 2 = some (.getfield 86, 3, 12, 1, .null) := by decide +kernel
theorem i_147_5 : aIns 147 5 = some (.if_icmp .ge 29, 3, 0, 0, .null) := by decide +kernel
theorem i_147_8 : aIns 147 8 = some (.aload_n 0, 1, 0, 0, .null) := by decide +kernel
theorem i_147_9 : aIns 147 9 = some (.getfield 7, 3, 12, 0, .null) := by decide +kernel
theorem i_147_12 : aIns 147 12 = some (.iload_n 1, 1, 0, 0, .null) := by decide +kernel
theorem i_147_13 : aIns 147 13 = some (.baload, 1, 0, 0, .null) := by decide +kernel
theorem i_147_14 : aIns 147 14 = some (.bipush 48, 2, 0, 0, .int (48)) := by decide +kernel
theorem i_147_16 : aIns 147 16 = some (.if_icmp .lt 18, 3, 0, 0, .null) := by decide +kernel
theorem i_147_19 : aIns 147 19 = some (.aload_n 0, 1, 0, 0, .null) := by decide +kernel
theorem i_147_20 : aIns 147 20 = some (.getfield 7, 3, 12, 0, .null) := by decide +kernel
theorem i_147_23 : aIns 147 23 = some (.iload_n 1, 1, 0, 0, .null) := by decide +kernel
theorem i_147_24 : aIns 147 24 = some (.baload, 1, 0, 0, .null) := by decide +kernel
theorem i_147_25 : aIns 147 25 = some (.bipush 57, 2, 0, 0, .int (57)) := by decide +kernel
theorem i_147_27 : aIns 147 27 = some (.if_icmp .gt 7, 3, 0, 0, .null) := by decide +kernel
theorem i_147_30 : aIns 147 30 = some (.iconst 1, 1, 0, 0, .int (1)) := by decide +kernel
theorem i_147_31 : aIns 147 31 = some (.goto 4, 3, 0, 0, .null) := by decide +kernel
theorem i_147_34 : aIns 147 34 = some (.iconst 0, 1, 0, 0, .int (0)) := by decide +kernel
theorem i_147_35 : aIns 147 35 = some (.ireturn, 1, 1, 0, .null) := by decide +kernel
theorem i_148_0 : aIns 148 0 = some (.iload_n 1, 1, 0, 0, .null) := by decide +kernel
theorem i_148_1 : aIns 148 1 = some (.aload_n 0, 1, 0, 0, .null) := by decide +kernel
theorem i_148_2 : aIns 148 2 = some (.getfield 86, 3, 12, 1, .null) := by decide +kernel
theorem i_148_5 : aIns 148 5 = some (.if_icmp .ge 29, 3, 0, 0, .null) := by decide +kernel
theorem i_148_8 : aIns 148 8 = some (.aload_n 0, 1, 0, 0, .null) := by decide +kernel
theorem i_148_9 : aIns 148 9 = some (.getfield 7, 3, 12, 0, .null) := by decide +kernel
theorem i_148_12 : aIns 148 12 = some (.iload_n 1, 1, 0, 0, .null) := by decide +kernel
theorem i_148_13 : aIns 148 13 = some (.baload, 1, 0, 0, .null) := by decide +kernel
theorem i_148_14 : aIns 148 14 = some (.bipush 97, 2, 0, 0, .int (97)) := by decide +kernel
theorem i_148_16 : aIns 148 16 = some (.if_icmp .lt 18, 3, 0, 0, .null) := by decide +kernel
theorem i_148_19 : aIns 148 19 = some (.aload_n 0, 1, 0, 0, .null) := by decide +kernel
theorem i_148_20 : aIns 148 20 = some (.getfield 7, 3, 12, 0, .null) := by decide +kernel
theorem i_148_23 : aIns 148 23 = some (.iload_n 1, 1, 0, 0, .null) := by decide +kernel
theorem i_148_24 : aIns 148 24 = some (.baload, 1, 0, 0, .null) := by decide +kernel
theorem i_148_25 : aIns 148 25 = some (.bipush 122, 2, 0, 0, .int (122)) := by decide +kernel
theorem i_148_27 : aIns 148 27 = some (.if_icmp .gt 7, 3, 0, 0, .null) := by decide +kernel
theorem i_148_30 : aIns 148 30 = some (.iconst 1, 1, 0, 0, .int (1)) := by decide +kernel
theorem i_148_31 : aIns 148 31 = some (.goto 4, 3, 0, 0, .null) := by decide +kernel
theorem i_148_34 : aIns 148 34 = some (.iconst 0, 1, 0, 0, .int (0)) := by decide +kernel
theorem i_148_35 : aIns 148 35 = some (.ireturn, 1, 1, 0, .null) := by decide +kernel
theorem i_149_0 : aIns 149 0 = some (.aload_n 0, 1, 0, 0, .null) := by decide +kernel
theorem i_149_1 : aIns 149 1 = some (.invokevirtual 99, 3, 146, 0, .int 12) := by decide +kernel
theorem i_149_4 : aIns 149 4 = some (.pop, 1, 0, 0, .null) := by decide +kernel
theorem i_149_5 : aIns 149 5 = some (.lconst 0, 1, 0, 0, .long 0) := by decide +kernel
theorem i_149_6 : aIns 149 6 = some (.lstore_n 3, 1, 0, 0, .null) := by decide +kernel
theorem i_149_7 : aIns 149 7 = some (.iconst 0, 1, 0, 0, .int (0)) := by decide +kernel
theorem i_149_8 : aIns 149 8 = some (.istore 5, 2, 0, 0, .null) := by decide +kernel
theorem i_149_10 : aIns 149 10 = some (.aload_n 0, 1, 0, 0, .null) := by decide +kernel
theorem i_149_11 : aIns 149 11 = some (.aload_n 0, 1, 0, 0, .null) := by decide +kernel
theorem i_149_12 : aIns 149 12 = some (.getfield 96, 3, 12, 8, .null) := by decide +kernel
theorem i_149_15 : aIns 149 15 = some (.iload 5, 2, 0, 0, .null) := by decide +kernel
theorem i_149_17 : aIns 149 17 = some (.iadd, 1, 0, 0, .null) := by decide +kernel
theorem i_149_18 : aIns 149 18 = some (.invokevirtual 103, 3, 148, 1, .int 12) := by decide +kernel
theorem i_149_21 : aIns 149 21 = some (.ifCond .eq 35, 3, 0, 0, .null) := by decide +kernel
theorem i_149_24 : aIns 149 24 = some (.iload 5, 2, 0, 0, .null) := by decide +kernel
theorem i_149_26 : aIns 149 26 = some (.bipush 8, 2, 0, 0, .int (8)) := by decide +kernel
theorem i_149_28 : aIns 149 28 = some (.if_icmp .ge 22, 3, 0, 0, .null) := by decide +kernel
theorem i_149_31 : aIns 149 31 = some (.lload_n 3, 1, 0, 0, .null) := by decide +kernel
theorem i_149_32 : aIns 149 32 = some (.bipush 8, 2, 0, 0, .int (8)) := by decide +kernel
theorem i_149_34 : aIns 149 34 = some (.lshl, 1, 0, 0, .null) := by decide +kernel
theorem i_149_35 : aIns 149 35 = some (.aload_n 0, 1, 0, 0, .null) := by decide +kernel
theorem i_149_36 : aIns 149 36 = some (.getfield 7, 3, 12, 0, .null) := by decide +kernel
theorem i_149_39 : aIns 149 39 = some (.aload_n 0, 1, 0, 0, .null) := by decide +kernel
theorem i_149_40 : aIns 149 40 = some (.getfield 96, 3, 12, 8, .null) := by decide +kernel
theorem i_149_43 : aIns 149 43 = some (.iload 5, 2, 0, 0, .null) := by decide +kernel
theorem i_149_45 : aIns 149 45 = some (.iadd, 1, 0, 0, .null) := by decide +kernel
theorem i_149_46 : aIns 149 46 = some (.baload, 1, 0, 0, .null) := by decide +kernel
theorem i_149_47 : aIns 149 47 = some (.i2l, 1, 0, 0, .null) := by decide +kernel
theorem i_149_48 : aIns 149 48 = some (.lor, 1, 0, 0, .null) := by decide +kernel
theorem i_149_49 : aIns 149 49 = some (.lstore_n 3, 1, 0, 0, .null) := by decide +kernel
theorem i_149_50 : aIns 149 50 = some (.iinc 5 1, 3, 0, 0, .null) := by decide +kernel
theorem i_149_53 : aIns 149 53 = some (.goto (-43), 3, 0, 0, .null) := by decide +kernel
theorem i_149_56 : aIns 149 56 = some (.iload 5, 2, 0, 0, .null) := by decide +kernel
theorem i_149_58 : aIns 149 58 = some (.ifCond .le 20, 3, 0, 0, .null) := by decide +kernel
theorem i_149_61 : aIns 149 61 = some (.iload 5, 2, 0, 0, .null) := by decide +kernel
theorem i_149_63 : aIns 149 63 = some (.bipush 8, 2, 0, 0, .int (8)) := by decide +kernel
theorem i_149_65 : aIns 149 65 = some (.if_icmp .ge 13, 3, 0, 0, .null) := by decide +kernel
theorem i_149_68 : aIns 149 68 = some (.lload_n 3, 1, 0, 0, .null) := by decide +kernel
theorem i_149_69 : aIns 149 69 = some (.lload_n 1, 1, 0, 0, .null) := by decide +kernel
theorem i_149_70 : aIns 149 70 = some (.lcmp, 1, 0, 0, .null) := by decide +kernel
theorem i_149_71 : aIns 149 71 = some (.ifCond .ne 7, 3, 0, 0, .null) := by decide +kernel
theorem i_149_74 : aIns 149 74 = some (.iconst 1, 1, 0, 0, .int (1)) := by decide +kernel
theorem i_149_75 : aIns 149 75 = some (.goto 4, 3, 0, 0, .null) := by decide +kernel
theorem i_149_78 : aIns 149 78 = some (.iconst 0, 1, 0, 0, .int (0)) := by decide +kernel
theorem i_149_79 : aIns 149 79 = some (.ireturn, 1, 1, 0, .null) := by decide +kernel
theorem i_150_0 : aIns 150 0 = some (.aload_n 0, 1, 0, 0, .null) := by decide +kernel
theorem i_150_1 : aIns 150 1 = some (.aload_n 0, 1, 0, 0, .null) := by decide +kernel
theorem i_150_2 : aIns 150 2 = some (.getfield 96, 3, 12, 8, .null) := by decide +kernel
theorem i_150_5 : aIns 150 5 = some (.invokevirtual 103, 3, 148, 1, .int 12) := by decide +kernel
theorem i_150_8 : aIns 150 8 = some (.ifCond .eq 16, 3, 0, 0, .null) := by decide +kernel
theorem i_150_11 : aIns 150 11 = some (.aload_n 0, 1, 0, 0, .null) := by decide +kernel
theorem i_150_12 : aIns 150 12 = some (.dup, 1, 0, 0, .null) := by decide +kernel
theorem i_150_13 : aIns 150 13 = some (.getfield 96, 3, 12, 8, .null) := by decide +kernel
theorem i_150_16 : aIns 150 16 = some (.iconst 1, 1, 0, 0, .int (1)) := by decide +kernel
theorem i_150_17 : aIns 150 17 = some (.iadd, 1, 0, 0, .null) := by decide +kernel
theorem i_150_18 : aIns 150 18 = some (.putfield 96, 3, 12, 8, .null) := by decide +kernel
theorem i_150_21 : aIns 150 21 = some (.goto (-21), 3, 0, 0, .null) := by decide +kernel
theorem i_150_24 : aIns 150 24 = some (.return_, 1, 0, 0, .null) := by decide +kernel
theorem i_151_0 : aIns 151 0 = some (.aload_n 0, 1, 0, 0, .null) := by decide +kernel
theorem i_151_1 : aIns 151 1 = some (.lload_n 1, 1, 0, 0, .null) := by decide +kernel
theorem i_151_2 : aIns 151 2 = some (.invokevirtual 107, 3, 149, 1, .int 12) := by decide +kernel
theorem i_151_5 : aIns 151 5 = some (.ifCond .ne 5, 3, 0, 0, .null) := by decide +kernel
theorem i_151_8 : aIns 151 8 = some (.iconst 0, 1, 0, 0, .int (0)) := by decide +kernel
theorem i_151_9 : aIns 151 9 = some (.ireturn, 1, 1, 0, .null) := by decide +kernel
theorem i_151_10 : aIns 151 10 = some (.aload_n 0, 1, 0, 0, .null) := by decide +kernel
theorem i_151_11 : aIns 151 11 = some (.invokevirtual 111, 3, 150, 0, .int 12) := by decide +kernel
theorem i_151_14 : aIns 151 14 = some (.iconst 1, 1, 0, 0, .int (1)) := by decide +kernel
theorem i_151_15 : aIns 151 15 = some (.ireturn, 1, 1, 0, .null) := by decide +kernel
theorem i_152_0 : aIns 152 0 = some (.aload_n 0, 1, 0, 0, .null) := by decide +kernel
theorem i_152_1 : aIns 152 1 = some (.invokevirtual 99, 3, 146, 0, .int 12) := by decide +kernel
theorem i_152_4 : aIns 152 4 = some (.pop, 1, 0, 0, .null) := by decide +kernel
theorem i_152_5 : aIns 152 5 = some (.aload_n 0, 1, 0, 0, .null) := by decide +kernel
theorem i_152_6 : aIns 152 6 = some (.aload_n 0, 1, 0, 0, .null) := by decide +kernel
theorem i_152_7 : aIns 152 7 = some (.getfield 96, 3, 12, 8, .null) := by decide +kernel
theorem i_152_10 : aIns 152 10 = some (.invokevirtual 114, 3, 147, 1, .int 12) := by decide +kernel
theorem i_152_13 : aIns 152 13 = some (.ifCond .ne 13, 3, 0, 0, .null) := by decide +kernel
theorem i_152_16 : aIns 152 16 = some (.aload_n 0, 1, 0, 0, .null) := by decide +kernel
theorem i_152_17 : aIns 152 17 = some (.iconst 0, 1, 0, 0, .int (0)) := by decide +kernel
theorem i_152_18 : aIns 152 18 = some (.aload_n 0, 1, 0, 0, .null) := by decide +kernel
theorem i_152_19 : aIns 152 19 = some (.getfield 96, 3, 12, 8, .null) := by decide +kernel
theorem i_152_22 : aIns 152 22 = some (.invokevirtual 117, 3, 145, 2, .int 12) := by decide +kernel
theorem i_152_25 : aIns 152 25 = some (.ireturn, 1, 1, 0, .null) := by decide +kernel
theorem i_152_26 : aIns 152 26 = some (.aload_n 0, 1, 0, 0, .null) := by decide +kernel
theorem i_152_27 : aIns 152 27 = some (.getfield 96, 3, 12, 8, .null) := by decide +kernel
theorem i_152_30 : aIns 152 30 = some (.istore_n 3, 1, 0, 0, .null) := by decide +kernel
theorem i_152_31 : aIns 152 31 = some (.iconst 0, 1, 0, 0, .int (0)) := by decide +kernel
theorem i_152_32 : aIns 152 32 = some (.istore 4, 2, 0, 0, .null) := by decide +kernel
theorem i_152_34 : aIns 152 34 = some (.aload_n 0, 1, 0, 0, .null) := by decide +kernel
theorem i_152_35 : aIns 152 35 = some (.aload_n 0, 1, 0, 0, .null) := by decide +kernel
theorem i_152_36 : aIns 152 36 = some (.getfield 96, 3, 12, 8, .null) := by decide +kernel
theorem i_152_39 : aIns 152 39 = some (.invokevirtual 114, 3, 147, 1, .int 12) := by decide +kernel
theorem i_152_42 : aIns 152 42 = some (.ifCond .eq 46, 3, 0, 0, .null) := by decide +kernel
theorem i_152_45 : aIns 152 45 = some (.aload_n 0, 1, 0, 0, .null) := by decide +kernel
theorem i_152_46 : aIns 152 46 = some (.getfield 96, 3, 12, 8, .null) := by decide +kernel
theorem i_152_49 : aIns 152 49 = some (.iload_n 3, 1, 0, 0, .null) := by decide +kernel
theorem i_152_50 : aIns 152 50 = some (.isub, 1, 0, 0, .null) := by decide +kernel
theorem i_152_51 : aIns 152 51 = some (.iconst 5, 1, 0, 0, .int (5)) := by decide +kernel
theorem i_152_52 : aIns 152 52 = some (.if_icmp .ge 23, 3, 0, 0, .null) := by decide +kernel
theorem i_152_55 : aIns 152 55 = some (.bipush 10, 2, 0, 0, .int (10)) := by decide +kernel
theorem i_152_57 : aIns 152 57 = some (.iload 4, 2, 0, 0, .null) := by decide +kernel
theorem i_152_59 : aIns 152 59 = some (.imul, 1, 0, 0, .null) := by decide +kernel
theorem i_152_60 : aIns 152 60 = some (.aload_n 0, 1, 0, 0, .null) := by decide +kernel
theorem i_152_61 : aIns 152 61 = some (.getfield 7, 3, 12, 0, .null) := by decide +kernel
theorem i_152_64 : aIns 152 64 = some (.aload_n 0, 1, 0, 0, .null) := by decide +kernel
theorem i_152_65 : aIns 152 65 = some (.getfield 96, 3, 12, 8, .null) := by decide +kernel
theorem i_152_68 : aIns 152 68 = some (.baload, 1, 0, 0, .null) := by decide +kernel
theorem i_152_69 : aIns 152 69 = some (.iadd, 1, 0, 0, .null) := by decide +kernel
theorem i_152_70 : aIns 152 70 = some (.bipush 48, 2, 0, 0, .int (48)) := by decide +kernel
theorem i_152_72 : aIns 152 72 = some (.isub, 1, 0, 0, .null) := by decide +kernel
theorem i_152_73 : aIns 152 73 = some (.istore 4, 2, 0, 0, .null) := by decide +kernel
theorem i_152_75 : aIns 152 75 = some (.aload_n 0, 1, 0, 0, .null) := by decide +kernel
theorem i_152_76 : aIns 152 76 = some (.dup, 1, 0, 0, .null) := by decide +kernel
theorem i_152_77 : aIns 152 77 = some (.getfield 96, 3, 12, 8, .null) := by decide +kernel
theorem i_152_80 : aIns 152 80 = some (.iconst 1, 1, 0, 0, .int (1)) := by decide +kernel
theorem i_152_81 : aIns 152 81 = some (.iadd, 1, 0, 0, .null) := by decide +kernel
theorem i_152_82 : aIns 152 82 = some (.putfield 96, 3, 12, 8, .null) := by decide +kernel
theorem i_152_85 : aIns 152 85 = some (.goto (-51), 3, 0, 0, .null) := by decide +kernel
theorem i_152_88 : aIns 152 88 = some (.aload_n 0, 1, 0, 0, .null) := by decide +kernel
theorem i_152_89 : aIns 152 89 = some (.iload 4, 2, 0, 0, .null) := by decide +kernel
theorem i_152_91 : aIns 152 91 = some (.putfield 121, 3, 12, 10, .null) := by decide +kernel
theorem i_152_94 : aIns 152 94 = some (.aload_n 0, 1, 0, 0, .null) := by decide +kernel
theorem i_152_95 : aIns 152 95 = some (.getfield 96, 3, 12, 8, .null) := by decide +kernel
theorem i_152_98 : aIns 152 98 = some (.iload_n 3, 1, 0, 0, .null) := by decide +kernel
theorem i_152_99 : aIns 152 99 = some (.isub, 1, 0, 0, .null) := by decide +kernel
theorem i_152_100 : aIns 152 100 = some (.iconst 5, 1, 0, 0, .int (5)) := by decide +kernel
theorem i_152_101 : aIns 152 101 = some (.if_icmp .gt 16, 3, 0, 0, .null) := by decide +kernel
theorem i_152_104 : aIns 152 104 = some (.iload 4, 2, 0, 0, .null) := by decide +kernel
theorem i_152_106 : aIns 152 106 = some (.i2l, 1, 0, 0, .null) := by decide +kernel
theorem i_152_107 : aIns 152 107 = some (.iload_n 1, 1, 0, 0, .null) := by decide +kernel
theorem i_152_108 : aIns 152 108 = some (.i2l, 1, 0, 0, .null) := by decide +kernel
theorem i_152_109 : aIns 152 109 = some (.iload_n 2, 1, 0, 0, .null) := by decide +kernel
theorem i_152_110 : aIns 152 110 = some (.i2l, 1, 0, 0, .null) := by decide +kernel
theorem i_152_111 : aIns 152 111 = some (.invokestatic 124, 3, 140, 3, .null) := by decide +kernel
theorem i_152_114 : aIns 152 114 = some (.ifCond .ne 12, 3, 0, 0, .null) := by decide +kernel
theorem i_152_117 : aIns 152 117 = some (.aload_n 0, 1, 0, 0, .null) := by decide +kernel
theorem i_152_118 : aIns 152 118 = some (.iconst 1, 1, 0, 0, .int (1)) := by decide +kernel
theorem i_152_119 : aIns 152 119 = some (.iload_n 3, 1, 0, 0, .null) := by decide +kernel
theorem i_152_120 : aIns 152 120 = some (.invokevirtual 117, 3, 145, 2, .int 12) := by decide +kernel
theorem i_152_123 : aIns 152 123 = some (.ifCond .eq 7, 3, 0, 0, .null) := by decide +kernel
theorem i_152_126 : aIns 152 126 = some (.iconst 1, 1, 0, 0, .int (1)) := by decide +kernel
theorem i_152_127 : aIns 152 127 = some (.goto 4, 3, 0, 0, .null) := by decide +kernel
theorem i_152_130 : aIns 152 130 = some (.iconst 0, 1, 0, 0, .int (0)) := by decide +kernel
theorem i_152_131 : aIns 152 131 = some (.ireturn, 1, 1, 0, .null) := by decide +kernel
theorem i_153_0 : aIns 153 0 = some (.aload_n 0, 1, 0, 0, .null) := by decide +kernel
theorem i_153_1 : aIns 153 1 = some (.ldc2_w 128, 3, 0, 0, .long (499967946343)) := by decide +kernel
theorem i_153_4 : aIns 153 4 = some (.invokevirtual 107, 3, 149, 1, .int 12) := by decide +kernel
theorem i_153_7 : aIns 153 7 = some (.ifCond .eq 5, 3, 0, 0, .null) := by decide +kernel
theorem i_153_10 : aIns 153 10 = some (.iconst 0, 1, 0, 0, .int (0)) := by decide +kernel
theorem i_153_11 : aIns 153 11 = some (.ireturn, 1, 0, 0, .null) := by decide +kernel
theorem i_153_12 : aIns 153 12 = some (.aload_n 0, 1, 0, 0, .null) := by decide +kernel
theorem i_153_13 : aIns 153 13 = some (.ldc2_w 130, 3, 0, 0, .long (1953459300)) := by decide +kernel
theorem i_153_16 : aIns 153 16 = some (.invokevirtual 107, 3, 149, 1, .int 12) := by decide +kernel
theorem i_153_19 : aIns 153 19 = some (.ifCond .eq 5, 3, 0, 0, .null) := by decide +kernel
theorem i_153_22 : aIns 153 22 = some (.iconst 1, 1, 0, 0, .int (1)) := by decide +kernel
theorem i_153_23 : aIns 153 23 = some (.ireturn, 1, 0, 0, .null) := by decide +kernel
theorem i_153_24 : aIns 153 24 = some (.aload_n 0, 1, 0, 0, .null) := by decide +kernel
theorem i_153_25 : aIns 153 25 = some (.ldc2_w 132, 3, 0, 0, .long (1935764581)) := by decide +kernel
theorem i_153_28 : aIns 153 28 = some (.invokevirtual 107, 3, 149, 1, .int 12) := by decide +kernel
theorem i_153_31 : aIns 153 31 = some (.ifCond .eq 5, 3, 0, 0, .null) := by decide +kernel
theorem i_153_34 : aIns 153 34 = some (.iconst 2, 1, 0, 0, .int (2)) := by decide +kernel
theorem i_153_35 : aIns 153 35 = some (.ireturn, 1, 0, 0, .null) := by decide +kernel
theorem i_153_36 : aIns 153 36 = some (.aload_n 0, 1, 0, 0, .null) := by decide +kernel
theorem i_153_37 : aIns 153 37 = some (.ldc2_w 134, 3, 0, 0, .long (6578553)) := by decide +kernel
theorem i_153_40 : aIns 153 40 = some (.invokevirtual 107, 3, 149, 1, .int 12) := by decide +kernel
theorem i_153_43 : aIns 153 43 = some (.ifCond .eq 5, 3, 0, 0, .null) := by decide +kernel
theorem i_153_46 : aIns 153 46 = some (.iconst 3, 1, 0, 0, .int (3)) := by decide +kernel
theorem i_153_47 : aIns 153 47 = some (.ireturn, 1, 0, 0, .null) := by decide +kernel
theorem i_153_48 : aIns 153 48 = some (.aload_n 0, 1, 0, 0, .null) := by decide +kernel
theorem i_153_49 : aIns 153 49 = some (.ldc2_w 136, 3, 0, 0, .long (465726040947)) := by decide +kernel
theorem i_153_52 : aIns 153 52 = some (.invokevirtual 107, 3, 149, 1, .int 12) := by decide +kernel
theorem i_153_55 : aIns 153 55 = some (.ifCond .eq 5, 3, 0, 0, .null) := by decide +kernel
theorem i_153_58 : aIns 153 58 = some (.iconst 4, 1, 0, 0, .int (4)) := by decide +kernel
theorem i_153_59 : aIns 153 59 = some (.ireturn, 1, 0, 0, .null) := by decide +kernel
theorem i_153_60 : aIns 153 60 = some (.aload_n 0, 1, 0, 0, .null) := by decide +kernel
theorem i_153_61 : aIns 153 61 = some (.ldc2_w 138, 3, 0, 0, .long (495874696043)) := by decide +kernel
theorem i_153_64 : aIns 153 64 = some (.invokevirtual 107, 3, 149, 1, .int 12) := by decide +kernel
theorem i_153_67 : aIns 153 67 = some (.ifCond .eq 5, 3, 0, 0, .null) := by decide +kernel
theorem i_153_70 : aIns 153 70 = some (.iconst 5, 1, 0, 0, .int (5)) := by decide +kernel
theorem i_153_71 : aIns 153 71 = some (.ireturn, 1, 0, 0, .null) := by decide +kernel
theorem i_153_72 : aIns 153 72 = some (.aload_n 0, 1, 0, 0, .null) := by decide +kernel
theorem i_153_73 : aIns 153 73 = some (.ldc2_w 140, 3, 0, 0, .long (108230850603124)) := by decide +kernel
theorem i_153_76 : aIns 153 76 = some (.invokevirtual 107, 3, 149, 1, .int 12) := by decide +kernel
theorem i_153_79 : aIns 153 79 = some (.ifCond .eq 8, 3, 0, 0, .null) := by decide +kernel
theorem i_153_82 : aIns 153 82 = some (.bipush 6, 2, 0, 0, .int (6)) := by decide +kernel
theorem i_153_84 : aIns 153 84 = some (.goto 19, 3, 0, 0, .null) := by decide +kernel
theorem i_153_87 : aIns 153 87 = some (.aload_n 0, 1, 0, 0, .null) := by decide +kernel
theorem i_153_88 : aIns 153 88 = some (.ldc2_w 142, 3, 0, 0, .long (512970880104)) := by decide +kernel
theorem i_153_91 : aIns 153 91 = some (.invokevirtual 107, 3, 149, 1, .int 12) := by decide +kernel
theorem i_153_94 : aIns 153 94 = some (.ifCond .eq 8, 3, 0, 0, .null) := by decide +kernel
theorem i_153_97 : aIns 153 97 = some (.bipush 7, 2, 0, 0, .int (7)) := by decide +kernel
theorem i_153_99 : aIns 153 99 = some (.goto 4, 3, 0, 0, .null) := by decide +kernel
theorem i_153_102 : aIns 153 102 = some (.iconst (-1), 1, 0, 0, .int (-1)) := by decide +kernel
theorem i_153_103 : aIns 153 103 = some (.ireturn, 1, 0, 0, .null) := by decide +kernel
theorem i_154_0 : aIns 154 0 = some (.aload_n 0, 1, 0, 0, .null) := by decide +kernel
theorem i_154_1 : aIns 154 1 = some (.getfield 13, 3, 12, 3, .null) := by decide +kernel
theorem i_154_4 : aIns 154 4 = some (.sipush 400, 3, 0, 0, .int (400)) := by decide +kernel
theorem i_154_7 : aIns 154 7 = some (.aload_n 0, 1, 0, 0, .null) := by decide +kernel
theorem i_154_8 : aIns 154 8 = some (.getfield 144, 3, 12, 11, .null) := by decide +kernel
theorem i_154_11 : aIns 154 11 = some (.imul, 1, 0, 0, .null) := by decide +kernel
theorem i_154_12 : aIns 154 12 = some (.aload_n 0, 1, 0, 0, .null) := by decide +kernel
theorem i_154_13 : aIns 154 13 = some (.getfield 17, 3, 12, 4, .null) := by decide +kernel
theorem i_154_16 : aIns 154 16 = some (.aload_n 0, 1, 0, 0, .null) := by decide +kernel
theorem i_154_17 : aIns 154 17 = some (.getfield 144, 3, 12, 11, .null) := by decide +kernel
theorem i_154_20 : aIns 154 20 = some (.iaload, 1, 0, 0, .null) := by decide +kernel
theorem i_154_21 : aIns 154 21 = some (.iadd, 1, 0, 0, .null) := by decide +kernel
theorem i_154_22 : aIns 154 22 = some (.iload_n 1, 1, 0, 0, .null) := by decide +kernel
theorem i_154_23 : aIns 154 23 = some (.bipush 16, 2, 0, 0, .int (16)) := by decide +kernel
theorem i_154_25 : aIns 154 25 = some (.iload_n 2, 1, 0, 0, .null) := by decide +kernel
theorem i_154_26 : aIns 154 26 = some (.imul, 1, 0, 0, .null) := by decide +kernel
theorem i_154_27 : aIns 154 27 = some (.iadd, 1, 0, 0, .null) := by decide +kernel
theorem i_154_28 : aIns 154 28 = some (.iastore, 1, 0, 0, .null) := by decide +kernel
theorem i_154_29 : aIns 154 29 = some (.aload_n 0, 1, 0, 0, .null) := by decide +kernel
theorem i_154_30 : aIns 154 30 = some (.getfield 17, 3, 12, 4, .null) := by decide +kernel
theorem i_154_33 : aIns 154 33 = some (.aload_n 0, 1, 0, 0, .null) := by decide +kernel
theorem i_154_34 : aIns 154 34 = some (.getfield 144, 3, 12, 11, .null) := by decide +kernel
theorem i_154_37 : aIns 154 37 = some (.dup2, 1, 0, 0, .null) := by decide +kernel
theorem i_154_38 : aIns 154 38 = some (.iaload, 1, 0, 0, .null) := by decide +kernel
theorem i_154_39 : aIns 154 39 = some (.iconst 1, 1, 0, 0, .int (1)) := by decide +kernel
theorem i_154_40 : aIns 154 40 = some (.iadd, 1, 0, 0, .null) := by decide +kernel
theorem i_154_41 : aIns 154 41 = some (.iastore, 1, 0, 0, .null) := by decide +kernel
theorem i_154_42 : aIns 154 42 = some (.return_, 1, 0, 0, .null) := by decide +kernel
theorem i_155_0 : aIns 155 0 = some (.aload_n 0, 1, 0, 0, .null) := by decide +kernel
theorem i_155_1 : aIns 155 1 = some (.getfield 147, 3, 12, 12, .null) := by decide +kernel
theorem i_155_4 : aIns 155 4 = some (.bipush 60, 2, 0, 0, .int (60)) := by decide +kernel
theorem i_155_6 : aIns 155 6 = some (.if_icmp .ne 10, 3, 0, 0, .null) := by decide +kernel
theorem i_155_9 : aIns 155 9 = some (.aload_n 0, 1, 0, 0, .null) := by decide +kernel
theorem i_155_10 : aIns 155 10 = some (.iconst 3, 1, 0, 0, .int (3)) := by decide +kernel
theorem i_155_11 : aIns 155 11 = some (.iload_n 1, 1, 0, 0, .null) := by decide +kernel
theorem i_155_12 : aIns 155 12 = some (.invokevirtual 117, 3, 145, 2, .int 12) := by decide +kernel
theorem i_155_15 : aIns 155 15 = some (.ireturn, 1, 1, 0, .null) := by decide +kernel
theorem i_155_16 : aIns 155 16 = some (.aload_n 0, 1, 0, 0, .null) := by decide +kernel
theorem i_155_17 : aIns 155 17 = some (.dup, 1, 0, 0, .null) := by decide +kernel
theorem i_155_18 : aIns 155 18 = some (.getfield 147, 3, 12, 12, .null) := by decide +kernel
theorem i_155_21 : aIns 155 21 = some (.iconst 1, 1, 0, 0, .int (1)) := by decide +kernel
theorem i_155_22 : aIns 155 22 = some (.iadd, 1, 0, 0, .null) := by decide +kernel
theorem i_155_23 : aIns 155 23 = some (.putfield 147, 3, 12, 12, .null) := by decide +kernel
theorem i_155_26 : aIns 155 26 = some (.iconst 1, 1, 0, 0, .int (1)) := by decide +kernel
theorem i_155_27 : aIns 155 27 = some (.ireturn, 1, 1, 0, .null) := by decide +kernel
theorem i_156_0 : aIns 156 0 = some (.aload_n 0, 1, 0, 0, .null) := by decide +kernel
theorem i_156_1 : aIns 156 1 = some (.getfield 150, 3, 12, 13, .null) := by decide +kernel
theorem i_156_4 : aIns 156 4 = some (.bipush 10, 2, 0, 0, .int (10)) := by decide +kernel
theorem i_156_6 : aIns 156 6 = some (.if_icmp .ne 13, 3, 0, 0, .null) := by decide +kernel
theorem i_156_9 : aIns 156 9 = some (.aload_n 0, 1, 0, 0, .null) := by decide +kernel
theorem i_156_10 : aIns 156 10 = some (.iconst 2, 1, 0, 0, .int (2)) := by decide +kernel
theorem i_156_11 : aIns 156 11 = some (.aload_n 0, 1, 0, 0, .null) := by decide +kernel
theorem i_156_12 : aIns 156 12 = some (.getfield 96, 3, 12, 8, .null) := by decide +kernel
theorem i_156_15 : aIns 156 15 = some (.invokevirtual 117, 3, 145, 2, .int 12) := by decide +kernel
theorem i_156_18 : aIns 156 18 = some (.ireturn, 1, 1, 0, .null) := by decide +kernel
theorem i_156_19 : aIns 156 19 = some (.aload_n 0, 1, 0, 0, .null) := by decide +kernel
theorem i_156_20 : aIns 156 20 = some (.dup, 1, 0, 0, .null) := by decide +kernel
theorem i_156_21 : aIns 156 21 = some (.getfield 150, 3, 12, 13, .null) := by decide +kernel
theorem i_156_24 : aIns 156 24 = some (.iconst 1, 1, 0, 0, .int (1)) := by decide +kernel
theorem i_156_25 : aIns 156 25 = some (.iadd, 1, 0, 0, .null) := by decide +kernel
theorem i_156_26 : aIns 156 26 = some (.putfield 150, 3, 12, 13, .null) := by decide +kernel
theorem i_156_29 : aIns 156 29 = some (.aload_n 0, 1, 0, 0, .null) := by decide +kernel
theorem i_156_30 : aIns 156 30 = some (.getfield 29, 3, 12, 15, .null) := by decide +kernel
theorem i_156_33 : aIns 156 33 = some (.aload_n 0, 1, 0, 0, .null) := by decide +kernel
theorem i_156_34 : aIns 156 34 = some (.getfield 153, 3, 12, 16, .null) := by decide +kernel
theorem i_156_37 : aIns 156 37 = some (.iload_n 1, 1, 0, 0, .null) := by decide +kernel
theorem i_156_38 : aIns 156 38 = some (.iastore, 1, 0, 0, .null) := by decide +kernel
theorem i_156_39 : aIns 156 39 = some (.aload_n 0, 1, 0, 0, .null) := by decide +kernel
theorem i_156_40 : aIns 156 40 = some (.dup, 1, 0, 0, .null) := by decide +kernel
theorem i_156_41 : aIns 156 41 = some (.getfield 153, 3, 12, 16, .null) := by decide +kernel
theorem i_156_44 : aIns 156 44 = some (.iconst 1, 1, 0, 0, .int (1)) := by decide +kernel
theorem i_156_45 : aIns 156 45 = some (.iadd, 1, 0, 0, .null) := by decide +kernel
theorem i_156_46 : aIns 156 46 = some (.putfield 153, 3, 12, 16, .null) := by decide +kernel
theorem i_156_49 : aIns 156 49 = some (.iconst 1, 1, 0, 0, .int (1)) := by decide +kernel
theorem i_156_50 : aIns 156 50 = some (.ireturn, 1, 1, 0, .null) := by decide +kernel
theorem i_157_0 : aIns 157 0 = some (.iload_n 0, 1, 0, 0, .null) := by decide +kernel
theorem i_157_1 : aIns 157 1 = some (.bipush 13, 2, 0, 0, .int (13)) := by decide +kernel
theorem i_157_3 : aIns 157 3 = some (.if_icmp .ne 7, 3, 0, 0, .null) := by decide +kernel
theorem i_157_6 : aIns 157 6 = some (.iconst 1, 1, 0, 0, .int (1)) := by decide +kernel
theorem i_157_7 : aIns 157 7 = some (.goto 24, 3, 0, 0, .null) := by decide +kernel
theorem i_157_10 : aIns 157 10 = some (.iload_n 0, 1, 0, 0, .null) := by decide +kernel
theorem i_157_11 : aIns 157 11 = some (.bipush 12, 2, 0, 0, .int (12)) := by decide +kernel
theorem i_157_13 : aIns 157 13 = some (.if_icmp .ne 7, 3, 0, 0, .null) := by decide +kernel
theorem i_157_16 : aIns 157 16 = some (.iconst 2, 1, 0, 0, .int (2)) := by decide +kernel
theorem i_157_17 : aIns 157 17 = some (.goto 14, 3, 0, 0, .null) := by decide +kernel
theorem i_157_20 : aIns 157 20 = some (.iload_n 0, 1, 0, 0, .null) := by decide +kernel
theorem i_157_21 : aIns 157 21 = some (.bipush 11, 2, 0, 0, .int (11)) := by decide +kernel
theorem i_157_23 : aIns 157 23 = some (.if_icmp .ne 7, 3, 0, 0, .null) := by decide +kernel
theorem i_157_26 : aIns 157 26 = some (.iconst 3, 1, 0, 0, .int (3)) := by decide +kernel
theorem i_157_27 : aIns 157 27 = some (.goto 4, 3, 0, 0, .null) := by decide +kernel
theorem i_157_30 : aIns 157 30 = some (.iconst 0, 1, 0, 0, .int (0)) := by decide +kernel
theorem i_157_31 : aIns 157 31 = some (.ireturn, 1, 0, 0, .null) := by decide +kernel
theorem i_158_0 : aIns 158 0 = some (.aload_n 0, 1, 0, 0, .null) := by decide +kernel
theorem i_158_1 : aIns 158 1 = some (.getfield 153, 3, 12, 16, .null) := by decide +kernel
theorem i_158_4 : aIns 158 4 = some (.ifCond .le 72, 3, 0, 0, .null) := by decide +kernel
theorem i_158_7 : aIns 158 7 = some (.aload_n 0, 1, 0, 0, .null) := by decide +kernel
theorem i_158_8 : aIns 158 8 = some (.getfield 29, 3, 12, 15, .null) := by decide +kernel
theorem i_158_11 : aIns 158 11 = some (.aload_n 0, 1, 0, 0, .null) := by decide +kernel
theorem i_158_12 : aIns 158 12 = some (.getfield 153, 3, 12, 16, .null) := by decide +kernel
theorem i_158_15 : aIns 158 15 = some (.iconst 1, 1, 0, 0, .int (1)) := by decide +kernel
theorem i_158_16 : aIns 158 16 = some (.isub, 1, 0, 0, .null) := by decide +kernel
theorem i_158_17 : aIns 158 17 = some (.iaload, 1, 0, 0, .null) := by decide +kernel
theorem i_158_18 : aIns 158 18 = some (.invokestatic 156, 3, 157, 1, .null) := by decide +kernel
theorem i_158_21 : aIns 158 21 = some (.iload_n 1, 1, 0, 0, .null) := by decide +kernel
theorem i_158_22 : aIns 158 22 = some (.if_icmp .lt 54, 3, 0, 0, .null) := by decide +kernel
theorem i_158_25 : aIns 158 25 = some (.aload_n 0, 1, 0, 0, .null) := by decide +kernel
theorem i_158_26 : aIns 158 26 = some (.dup, 1, 0, 0, .null) := by decide +kernel
theorem i_158_27 : aIns 158 27 = some (.getfield 153, 3, 12, 16, .null) := by decide +kernel
theorem i_158_30 : aIns 158 30 = some (.iconst 1, 1, 0, 0, .int (1)) := by decide +kernel
theorem i_158_31 : aIns 158 31 = some (.isub, 1, 0, 0, .null) := by decide +kernel
theorem i_158_32 : aIns 158 32 = some (.putfield 153, 3, 12, 16, .null) := by decide +kernel
theorem i_158_35 : aIns 158 35 = some (.aload_n 0, 1, 0, 0, .null) := by decide +kernel
theorem i_158_36 : aIns 158 36 = some (.aload_n 0, 1, 0, 0, .null) := by decide +kernel
theorem i_158_37 : aIns 158 37 = some (.getfield 29, 3, 12, 15, .null) := by decide +kernel
theorem i_158_40 : aIns 158 40 = some (.aload_n 0, 1, 0, 0, .null) := by decide +kernel
theorem i_158_41 : aIns 158 41 = some (.getfield 153, 3, 12, 16, .null) := by decide +kernel
theorem i_158_44 : aIns 158 44 = some (.iaload, 1, 0, 0, .null) := by decide +kernel
theorem i_158_45 : aIns 158 45 = some (.iconst 0, 1, 0, 0, .int (0)) := by decide +kernel
theorem i_158_46 : aIns 158 46 = some (.invokevirtual 160, 3, 154, 2, .int 12) := by decide +kernel
theorem i_158_49 : aIns 158 49 = some (.aload_n 0, 1, 0, 0, .null) := by decide +kernel
theorem i_158_50 : aIns 158 50 = some (.getfield 29, 3, 12, 15, .null) := by decide +kernel
theorem i_158_53 : aIns 158 53 = some (.aload_n 0, 1, 0, 0, .null) := by decide +kernel
theorem i_158_54 : aIns 158 54 = some (.getfield 153, 3, 12, 16, .null) := by decide +kernel
theorem i_158_57 : aIns 158 57 = some (.iaload, 1, 0, 0, .null) := by decide +kernel
theorem i_158_58 : aIns 158 58 = some (.bipush 11, 2, 0, 0, .int (11)) := by decide +kernel
theorem i_158_60 : aIns 158 60 = some (.if_icmp .ne (-60), 3, 0, 0, .null) := by decide +kernel
theorem i_158_63 : aIns 158 63 = some (.aload_n 0, 1, 0, 0, .null) := by decide +kernel
theorem i_158_64 : aIns 158 64 = some (.dup, 1, 0, 0, .null) := by decide +kernel
theorem i_158_65 : aIns 158 65 = some (.getfield 150, 3, 12, 13, .null) := by decide +kernel
theorem i_158_68 : aIns 158 68 = some (.iconst 1, 1, 0, 0, .int (1)) := by decide +kernel
theorem i_158_69 : aIns 158 69 = some (.isub, 1, 0, 0, .null) := by decide +kernel
theorem i_158_70 : aIns 158 70 = some (.putfield 150, 3, 12, 13, .null) := by decide +kernel
theorem i_158_73 : aIns 158 73 = some (.goto (-73), 3, 0, 0, .null) := by decide +kernel
theorem i_158_76 : aIns 158 76 = some (.return_, 1, 0, 0, .null) := by decide +kernel
theorem i_159_0 : aIns 159 0 = some (.aload_n 0, 1, 0, 0, .null) := by decide +kernel
theorem i_159_1 : aIns 159 1 = some (.invokevirtual 99, 3, 146, 0, .int 12) := by decide +kernel
theorem i_159_4 : aIns 159 4 = some (.pop, 1, 0, 0, .null) := by decide +kernel
theorem i_159_5 : aIns 159 5 = some (.aload_n 0, 1, 0, 0, .null) := by decide +kernel
theorem i_159_6 : aIns 159 6 = some (.getfield 96, 3, 12, 8, .null) := by decide +kernel
theorem i_159_9 : aIns 159 9 = some (.istore_n 1, 1, 0, 0, .null) := by decide +kernel
theorem i_159_10 : aIns 159 10 = some (.aload_n 0, 1, 0, 0, .null) := by decide +kernel
theorem i_159_11 : aIns 159 11 = some (.aload_n 0, 1, 0, 0, .null) := by decide +kernel
theorem i_159_12 : aIns 159 12 = some (.getfield 96, 3, 12, 8, .null) := by decide +kernel
theorem i_159_15 : aIns 159 15 = some (.invokevirtual 114, 3, 147, 1, .int 12) := by decide +kernel
theorem i_159_18 : aIns 159 18 = some (.ifCond .eq 34, 3, 0, 0, .null) := by decide +kernel
theorem i_159_21 : aIns 159 21 = some (.aload_n 0, 1, 0, 0, .null) := by decide +kernel
theorem i_159_22 : aIns 159 22 = some (.iconst 0, 1, 0, 0, .int (0)) := by decide +kernel
theorem i_159_23 : aIns 159 23 = some (.ldc 164, 2, 0, 0, .int (99999)) := by decide +kernel
theorem i_159_25 : aIns 159 25 = some (.invokevirtual 165, 3, 152, 2, .int 12) := by decide +kernel
theorem i_159_28 : aIns 159 28 = some (.ifCond .eq 11, 3, 0, 0, .null) := by decide +kernel
theorem i_159_31 : aIns 159 31 = some (.aload_n 0, 1, 0, 0, .null) := by decide +kernel
theorem i_159_32 : aIns 159 32 = some (.iload_n 1, 1, 0, 0, .null) := by decide +kernel
theorem i_159_33 : aIns 159 33 = some (.invokevirtual 168, 3, 155, 1, .int 12) := by decide +kernel
theorem i_159_36 : aIns 159 36 = some (.ifCond .ne 5, 3, 0, 0, .null) := by decide +kernel
theorem i_159_39 : aIns 159 39 = some (.iconst 0, 1, 0, 0, .int (0)) := by decide +kernel
theorem i_159_40 : aIns 159 40 = some (.ireturn, 1, 1, 0, .null) := by decide +kernel
theorem i_159_41 : aIns 159 41 = some (.aload_n 0, 1, 0, 0, .null) := by decide +kernel
theorem i_159_42 : aIns 159 42 = some (.iconst 0, 1, 0, 0, .int (0)) := by decide +kernel
theorem i_159_43 : aIns 159 43 = some (.aload_n 0, 1, 0, 0, .null) := by decide +kernel
theorem i_159_44 : aIns 159 44 = some (.getfield 121, 3, 12, 10, .null) := by decide +kernel
theorem i_159_47 : aIns 159 47 = some (.invokevirtual 160, 3, 154, 2, .int 12) := by decide +kernel
theorem i_159_50 : aIns 159 50 = some (.iconst 1, 1, 0, 0, .int (1)) := by decide +kernel
theorem i_159_51 : aIns 159 51 = some (.ireturn, 1, 1, 0, .null) := by decide +kernel
theorem i_159_52 : aIns 159 52 = some (.aload_n 0, 1, 0, 0, .null) := by decide +kernel
theorem i_159_53 : aIns 159 53 = some (.invokevirtual 171, 3, 153, 0, .int 12) := by decide +kernel
theorem i_159_56 : aIns 159 56 = some (.istore_n 2, 1, 0, 0, .null) := by decide +kernel
theorem i_159_57 : aIns 159 57 = some (.iload_n 2, 1, 0, 0, .null) := by decide +kernel
theorem i_159_58 : aIns 159 58 = some (.ifCond .ge 10, 3, 0, 0, .null) := by decide +kernel
theorem i_159_61 : aIns 159 61 = some (.aload_n 0, 1, 0, 0, .null) := by decide +kernel
theorem i_159_62 : aIns 159 62 = some (.iconst 0, 1, 0, 0, .int (0)) := by decide +kernel
theorem i_159_63 : aIns 159 63 = some (.iload_n 1, 1, 0, 0, .null) := by decide +kernel
theorem i_159_64 : aIns 159 64 = some (.invokevirtual 117, 3, 145, 2, .int 12) := by decide +kernel
theorem i_159_67 : aIns 159 67 = some (.ireturn, 1, 1, 0, .null) := by decide +kernel
theorem i_159_68 : aIns 159 68 = some (.aload_n 0, 1, 0, 0, .null) := by decide +kernel
theorem i_159_69 : aIns 159 69 = some (.iload_n 1, 1, 0, 0, .null) := by decide +kernel
theorem i_159_70 : aIns 159 70 = some (.invokevirtual 168, 3, 155, 1, .int 12) := by decide +kernel
theorem i_159_73 : aIns 159 73 = some (.ifCond .ne 5, 3, 0, 0, .null) := by decide +kernel
theorem i_159_76 : aIns 159 76 = some (.iconst 0, 1, 0, 0, .int (0)) := by decide +kernel
theorem i_159_77 : aIns 159 77 = some (.ireturn, 1, 1, 0, .null) := by decide +kernel
theorem i_159_78 : aIns 159 78 = some (.aload_n 0, 1, 0, 0, .null) := by decide +kernel
theorem i_159_79 : aIns 159 79 = some (.invokevirtual 111, 3, 150, 0, .int 12) := by decide +kernel
theorem i_159_82 : aIns 159 82 = some (.aload_n 0, 1, 0, 0, .null) := by decide +kernel
theorem i_159_83 : aIns 159 83 = some (.iconst 1, 1, 0, 0, .int (1)) := by decide +kernel
theorem i_159_84 : aIns 159 84 = some (.iload_n 2, 1, 0, 0, .null) := by decide +kernel
theorem i_159_85 : aIns 159 85 = some (.invokevirtual 160, 3, 154, 2, .int 12) := by decide +kernel
theorem i_159_88 : aIns 159 88 = some (.iconst 1, 1, 0, 0, .int (1)) := by decide +kernel
theorem i_159_89 : aIns 159 89 = some (.ireturn, 1, 1, 0, .null) := by decide +kernel
theorem i_160_0 : aIns 160 0 = some (.aload_n 0, 1, 0, 0, .null) := by decide +kernel
theorem i_160_1 : aIns 160 1 = some (.invokevirtual 174, 3, 159, 0, .int 12) := by decide +kernel
theorem i_160_4 : aIns 160 4 = some (.ifCond .ne 5, 3, 0, 0, .null) := by decide +kernel
theorem i_160_7 : aIns 160 7 = some (.iconst 0, 1, 0, 0, .int (0)) := by decide +kernel
theorem i_160_8 : aIns 160 8 = some (.ireturn, 1, 1, 0, .null) := by decide +kernel
theorem i_160_9 : aIns 160 9 = some (.aload_n 0, 1, 0, 0, .null) := by decide +kernel
theorem i_160_10 : aIns 160 10 = some (.invokevirtual 99, 3, 146, 0, .int 12) := by decide +kernel
theorem i_160_13 : aIns 160 13 = some (.bipush 42, 2, 0, 0, .int (42)) := by decide +kernel
theorem i_160_15 : aIns 160 15 = some (.if_icmp .eq 21, 3, 0, 0, .null) := by decide +kernel
theorem i_160_18 : aIns 160 18 = some (.aload_n 0, 1, 0, 0, .null) := by decide +kernel
theorem i_160_19 : aIns 160 19 = some (.invokevirtual 99, 3, 146, 0, .int 12) := by decide +kernel
theorem i_160_22 : aIns 160 22 = some (.bipush 47, 2, 0, 0, .int (47)) := by decide +kernel
theorem i_160_24 : aIns 160 24 = some (.if_icmp .eq 12, 3, 0, 0, .null) := by decide +kernel
theorem i_160_27 : aIns 160 27 = some (.aload_n 0, 1, 0, 0, .null) := by decide +kernel
theorem i_160_28 : aIns 160 28 = some (.invokevirtual 99, 3, 146, 0, .int 12) := by decide +kernel
theorem i_160_31 : aIns 160 31 = some (.bipush 37, 2, 0, 0, .int (37)) := by decide +kernel
theorem i_160_33 : aIns 160 33 = some (.if_icmp .ne 70, 3, 0, 0, .null) := by decide +kernel
theorem i_160_36 : aIns 160 36 = some (.aload_n 0, 1, 0, 0, .null) := by decide +kernel
theorem i_160_37 : aIns 160 37 = some (.getfield 7, 3, 12, 0, .null) := by decide +kernel
theorem i_160_40 : aIns 160 40 = some (.aload_n 0, 1, 0, 0, .null) := by decide +kernel
theorem i_160_41 : aIns 160 41 = some (.getfield 96, 3, 12, 8, .null) := by decide +kernel
theorem i_160_44 : aIns 160 44 = some (.baload, 1, 0, 0, .null) := by decide +kernel
theorem i_160_45 : aIns 160 45 = some (.bipush 42, 2, 0, 0, .int (42)) := by decide +kernel
theorem i_160_47 : aIns 160 47 = some (.if_icmp .ne 7, 3, 0, 0, .null) := by decide +kernel
theorem i_160_50 : aIns 160 50 = some (.iconst 4, 1, 0, 0, .int (4)) := by decide +kernel
theorem i_160_51 : aIns 160 51 = some (.goto 23, 3, 0, 0, .null) := by decide +kernel
theorem i_160_54 : aIns 160 54 = some (.aload_n 0, 1, 0, 0, .null) := by decide +kernel
theorem i_160_55 : aIns 160 55 = some (.getfield 7, 3, 12, 0, .null) := by decide +kernel
theorem i_160_58 : aIns 160 58 = some (.aload_n 0, 1, 0, 0, .null) := by decide +kernel
theorem i_160_59 : aIns 160 59 = some (.getfield 96, 3, 12, 8, .null) := by decide +kernel
theorem i_160_62 : aIns 160 62 = some (.baload, 1, 0, 0, .null) := by decide +kernel
theorem i_160_63 : aIns 160 63 = some (.bipush 47, 2, 0, 0, .int (47)) := by decide +kernel
theorem i_160_65 : aIns 160 65 = some (.if_icmp .ne 7, 3, 0, 0, .null) := by decide +kernel
theorem i_160_68 : aIns 160 68 = some (.iconst 5, 1, 0, 0, .int (5)) := by decide +kernel
theorem i_160_69 : aIns 160 69 = some (.goto 5, 3, 0, 0, .null) := by decide +kernel
theorem i_160_72 : aIns 160 72 = some (.bipush 14, 2, 0, 0, .int (14)) := by decide +kernel
theorem i_160_74 : aIns 160 74 = some (.istore_n 1, 1, 0, 0, .null) := by decide +kernel
theorem i_160_75 : aIns 160 75 = some (.aload_n 0, 1, 0, 0, .null) := by decide +kernel
theorem i_160_76 : aIns 160 76 = some (.dup, 1, 0, 0, .null) := by decide +kernel
theorem i_160_77 : aIns 160 77 = some (.getfield 96, 3, 12, 8, .null) := by decide +kernel
theorem i_160_80 : aIns 160 80 = some (.iconst 1, 1, 0, 0, .int (1)) := by decide +kernel
theorem i_160_81 : aIns 160 81 = some (.iadd, 1, 0, 0, .null) := by decide +kernel
theorem i_160_82 : aIns 160 82 = some (.putfield 96, 3, 12, 8, .null) := by decide +kernel
theorem i_160_85 : aIns 160 85 = some (.aload_n 0, 1, 0, 0, .null) := by decide +kernel
theorem i_160_86 : aIns 160 86 = some (.invokevirtual 174, 3, 159, 0, .int 12) := by decide +kernel
theorem i_160_89 : aIns 160 89 = some (.ifCond .ne 5, 3, 0, 0, .null) := by decide +kernel
theorem i_160_92 : aIns 160 92 = some (.iconst 0, 1, 0, 0, .int (0)) := by decide +kernel
theorem i_160_93 : aIns 160 93 = some (.ireturn, 1, 1, 0, .null) := by decide +kernel
theorem i_160_94 : aIns 160 94 = some (.aload_n 0, 1, 0, 0, .null) := by decide +kernel
theorem i_160_95 : aIns 160 95 = some (.iload_n 1, 1, 0, 0, .null) := by decide +kernel
theorem i_160_96 : aIns 160 96 = some (.iconst 0, 1, 0, 0, .int (0)) := by decide +kernel
theorem i_160_97 : aIns 160 97 = some (.invokevirtual 160, 3, 154, 2, .int 12) := by decide +kernel
theorem i_160_100 : aIns 160 100 = some (.goto (-91), 3, 0, 0, .null) := by decide +kernel
theorem i_160_103 : aIns 160 103 = some (.iconst 1, 1, 0, 0, .int (1)) := by decide +kernel
theorem i_160_104 : aIns 160 104 = some (.ireturn, 1, 1, 0, .null) := by decide +kernel
theorem i_161_0 : aIns 161 0 = some (.aload_n 0, 1, 0, 0, .null) := by decide +kernel
theorem i_161_1 : aIns 161 1 = some (.invokevirtual 178, 3, 160, 0, .int 12) := by decide +kernel
theorem i_161_4 : aIns 161 4 = some (.ifCond .ne 5, 3, 0, 0, .null) := by decide +kernel
theorem i_161_7 : aIns 161 7 = some (.iconst 0, 1, 0, 0, .int (0)) := by decide +kernel
theorem i_161_8 : aIns 161 8 = some (.ireturn, 1, 1, 0, .null) := by decide +kernel
theorem i_161_9 : aIns 161 9 = some (.aload_n 0, 1, 0, 0, .null) := by decide +kernel
theorem i_161_10 : aIns 161 10 = some (.invokevirtual 99, 3, 146, 0, .int 12) := by decide +kernel
theorem i_161_13 : aIns 161 13 = some (.bipush 43, 2, 0, 0, .int (43)) := by decide +kernel
theorem i_161_15 : aIns 161 15 = some (.if_icmp .eq 12, 3, 0, 0, .null) := by decide +kernel
theorem i_161_18 : aIns 161 18 = some (.aload_n 0, 1, 0, 0, .null) := by decide +kernel
theorem i_161_19 : aIns 161 19 = some (.invokevirtual 99, 3, 146, 0, .int 12) := by decide +kernel
theorem i_161_22 : aIns 161 22 = some (.bipush 45, 2, 0, 0, .int (45)) := by decide +kernel
theorem i_161_24 : aIns 161 24 = some (.if_icmp .ne 51, 3, 0, 0, .null) := by decide +kernel
theorem i_161_27 : aIns 161 27 = some (.aload_n 0, 1, 0, 0, .null) := by decide +kernel
theorem i_161_28 : aIns 161 28 = some (.getfield 7, 3, 12, 0, .null) := by decide +kernel
theorem i_161_31 : aIns 161 31 = some (.aload_n 0, 1, 0, 0, .null) := by decide +kernel
theorem i_161_32 : aIns 161 32 = some (.getfield 96, 3, 12, 8, .null) := by decide +kernel
theorem i_161_35 : aIns 161 35 = some (.baload, 1, 0, 0, .null) := by decide +kernel
theorem i_161_36 : aIns 161 36 = some (.bipush 43, 2, 0, 0, .int (43)) := by decide +kernel
theorem i_161_38 : aIns 161 38 = some (.if_icmp .ne 7, 3, 0, 0, .null) := by decide +kernel
theorem i_161_41 : aIns 161 41 = some (.iconst 2, 1, 0, 0, .int (2)) := by decide +kernel
theorem i_161_42 : aIns 161 42 = some (.goto 4, 3, 0, 0, .null) := by decide +kernel
theorem i_161_45 : aIns 161 45 = some (.iconst 3, 1, 0, 0, .int (3)) := by decide +kernel
theorem i_161_46 : aIns 161 46 = some (.istore_n 1, 1, 0, 0, .null) := by decide +kernel
theorem i_161_47 : aIns 161 47 = some (.aload_n 0, 1, 0, 0, .null) := by decide +kernel
theorem i_161_48 : aIns 161 48 = some (.dup, 1, 0, 0, .null) := by decide +kernel
theorem i_161_49 : aIns 161 49 = some (.getfield 96, 3, 12, 8, .null) := by decide +kernel
theorem i_161_52 : aIns 161 52 = some (.iconst 1, 1, 0, 0, .int (1)) := by decide +kernel
theorem i_161_53 : aIns 161 53 = some (.iadd, 1, 0, 0, .null) := by decide +kernel
theorem i_161_54 : aIns 161 54 = some (.putfield 96, 3, 12, 8, .null) := by decide +kernel
theorem i_161_57 : aIns 161 57 = some (.aload_n 0, 1, 0, 0, .null) := by decide +kernel
theorem i_161_58 : aIns 161 58 = some (.invokevirtual 178, 3, 160, 0, .int 12) := by decide +kernel
theorem i_161_61 : aIns 161 61 = some (.ifCond .ne 5, 3, 0, 0, .null) := by decide +kernel
theorem i_161_64 : aIns 161 64 = some (.iconst 0, 1, 0, 0, .int (0)) := by decide +kernel
theorem i_161_65 : aIns 161 65 = some (.ireturn, 1, 1, 0, .null) := by decide +kernel
theorem i_161_66 : aIns 161 66 = some (.aload_n 0, 1, 0, 0, .null) := by decide +kernel
theorem i_161_67 : aIns 161 67 = some (.iload_n 1, 1, 0, 0, .null) := by decide +kernel
theorem i_161_68 : aIns 161 68 = some (.iconst 0, 1, 0, 0, .int (0)) := by decide +kernel
theorem i_161_69 : aIns 161 69 = some (.invokevirtual 160, 3, 154, 2, .int 12) := by decide +kernel
theorem i_161_72 : aIns 161 72 = some (.goto (-63), 3, 0, 0, .null) := by decide +kernel
theorem i_161_75 : aIns 161 75 = some (.iconst 1, 1, 0, 0, .int (1)) := by decide +kernel
theorem i_161_76 : aIns 161 76 = some (.ireturn, 1, 1, 0, .null) := by decide +kernel
theorem i_162_0 : aIns 162 0 = some (.aload_n 0, 1, 0, 0, .null) := by decide +kernel
theorem i_162_1 : aIns 162 1 = some (.invokevirtual 181, 3, 161, 0, .int 12) := by decide +kernel
theorem i_162_4 : aIns 162 4 = some (.ifCond .ne 5, 3, 0, 0, .null) := by decide +kernel
theorem i_162_7 : aIns 162 7 = some (.iconst 0, 1, 0, 0, .int (0)) := by decide +kernel
theorem i_162_8 : aIns 162 8 = some (.ireturn, 1, 1, 0, .null) := by decide +kernel
theorem i_162_9 : aIns 162 9 = some (.aload_n 0, 1, 0, 0, .null) := by decide +kernel
theorem i_162_10 : aIns 162 10 = some (.invokevirtual 99, 3, 146, 0, .int 12) := by decide +kernel
theorem i_162_13 : aIns 162 13 = some (.istore_n 1, 1, 0, 0, .null) := by decide +kernel
theorem i_162_14 : aIns 162 14 = some (.aload_n 0, 1, 0, 0, .null) := by decide +kernel
theorem i_162_15 : aIns 162 15 = some (.getfield 96, 3, 12, 8, .null) := by decide +kernel
theorem i_162_18 : aIns 162 18 = some (.istore_n 2, 1, 0, 0, .null) := by decide +kernel
theorem i_162_19 : aIns 162 19 = some (.iload_n 1, 1, 0, 0, .null) := by decide +kernel
theorem i_162_20 : aIns 162 20 = some (.bipush 60, 2, 0, 0, .int (60)) := by decide +kernel
theorem i_162_22 : aIns 162 22 = some (.if_icmp .eq 22, 3, 0, 0, .null) := by decide +kernel
theorem i_162_25 : aIns 162 25 = some (.iload_n 1, 1, 0, 0, .null) := by decide +kernel
theorem i_162_26 : aIns 162 26 = some (.bipush 61, 2, 0, 0, .int (61)) := by decide +kernel
theorem i_162_28 : aIns 162 28 = some (.if_icmp .eq 16, 3, 0, 0, .null) := by decide +kernel
theorem i_162_31 : aIns 162 31 = some (.iload_n 1, 1, 0, 0, .null) := by decide +kernel
theorem i_162_32 : aIns 162 32 = some (.bipush 62, 2, 0, 0, .int (62)) := by decide +kernel
theorem i_162_34 : aIns 162 34 = some (.if_icmp .eq 10, 3, 0, 0, .null) := by decide +kernel
theorem i_162_37 : aIns 162 37 = some (.aload_n 0, 1, 0, 0, .null) := by decide +kernel
theorem i_162_38 : aIns 162 38 = some (.iconst 0, 1, 0, 0, .int (0)) := by decide +kernel
theorem i_162_39 : aIns 162 39 = some (.iload_n 2, 1, 0, 0, .null) := by decide +kernel
theorem i_162_40 : aIns 162 40 = some (.invokevirtual 117, 3, 145, 2, .int 12) := by decide +kernel
theorem i_162_43 : aIns 162 43 = some (.ireturn, 1, 1, 0, .null) := by decide +kernel
theorem i_162_44 : aIns 162 44 = some (.aload_n 0, 1, 0, 0, .null) := by decide +kernel
theorem i_162_45 : aIns 162 45 = some (.dup, 1, 0, 0, .null) := by decide +kernel
theorem i_162_46 : aIns 162 46 = some (.getfield 96, 3, 12, 8, .null) := by decide +kernel
theorem i_162_49 : aIns 162 49 = some (.iconst 1, 1, 0, 0, .int (1)) := by decide +kernel
theorem i_162_50 : aIns 162 50 = some (.iadd, 1, 0, 0, .null) := by decide +kernel
theorem i_162_51 : aIns 162 51 = some (.putfield 96, 3, 12, 8, .null) := by decide +kernel
theorem i_162_54 : aIns 162 54 = some (.iload_n 1, 1, 0, 0, .null) := by decide +kernel
theorem i_162_55 : aIns 162 55 = some (.bipush 61, 2, 0, 0, .int (61)) := by decide +kernel
theorem i_162_57 : aIns 162 57 = some (.if_icmp .eq 32, 3, 0, 0, .null) := by decide +kernel
theorem i_162_60 : aIns 162 60 = some (.aload_n 0, 1, 0, 0, .null) := by decide +kernel
theorem i_162_61 : aIns 162 61 = some (.getfield 96, 3, 12, 8, .null) := by decide +kernel
theorem i_162_64 : aIns 162 64 = some (.aload_n 0, 1, 0, 0, .null) := by decide +kernel
theorem i_162_65 : aIns 162 65 = some (.getfield 86, 3, 12, 1, .null) := by decide +kernel
theorem i_162_68 : aIns 162 68 = some (.if_icmp .ge 21, 3, 0, 0, .null) := by decide +kernel
theorem i_162_71 : aIns 162 71 = some (.aload_n 0, 1, 0, 0, .null) := by decide +kernel
theorem i_162_72 : aIns 162 72 = some (.getfield 7, 3, 12, 0, .null) := by decide +kernel
theorem i_162_75 : aIns 162 75 = some (.aload_n 0, 1, 0, 0, .null) := by decide +kernel
theorem i_162_76 : aIns 162 76 = some (.getfield 96, 3, 12, 8, .null) := by decide +kernel
theorem i_162_79 : aIns 162 79 = some (.baload, 1, 0, 0, .null) := by decide +kernel
theorem i_162_80 : aIns 162 80 = some (.bipush 61, 2, 0, 0, .int (61)) := by decide +kernel
theorem i_162_82 : aIns 162 82 = some (.if_icmp .ne 7, 3, 0, 0, .null) := by decide +kernel
theorem i_162_85 : aIns 162 85 = some (.iconst 1, 1, 0, 0, .int (1)) := by decide +kernel
theorem i_162_86 : aIns 162 86 = some (.goto 4, 3, 0, 0, .null) := by decide +kernel
theorem i_162_89 : aIns 162 89 = some (.iconst 0, 1, 0, 0, .int (0)) := by decide +kernel
theorem i_162_90 : aIns 162 90 = some (.istore_n 3, 1, 0, 0, .null) := by decide +kernel
theorem i_162_91 : aIns 162 91 = some (.iload_n 3, 1, 0, 0, .null) := by decide +kernel
theorem i_162_92 : aIns 162 92 = some (.ifCond .eq 13, 3, 0, 0, .null) := by decide +kernel
theorem i_162_95 : aIns 162 95 = some (.aload_n 0, 1, 0, 0, .null) := by decide +kernel
theorem i_162_96 : aIns 162 96 = some (.dup, 1, 0, 0, .null) := by decide +kernel
theorem i_162_97 : aIns 162 97 = some (.getfield 96, 3, 12, 8, .null) := by decide +kernel
theorem i_162_100 : aIns 162 100 = some (.iconst 1, 1, 0, 0, .int (1)) := by decide +kernel
theorem i_162_101 : aIns 162 101 = some (.iadd, 1, 0, 0, .null) := by decide +kernel
theorem i_162_102 : aIns 162 102 = some (.putfield 96, 3, 12, 8, .null) := by decide +kernel
theorem i_162_105 : aIns 162 105 = some (.aload_n 0, 1, 0, 0, .null) := by decide +kernel
theorem i_162_106 : aIns 162 106 = some (.iload_n 2, 1, 0, 0, .null) := by decide +kernel
theorem i_162_107 : aIns 162 107 = some (.invokevirtual 168, 3, 155, 1, .int 12) := by decide +kernel
theorem i_162_110 : aIns 162 110 = some (.ifCond .ne 5, 3, 0, 0, .null) := by decide +kernel
theorem i_162_113 : aIns 162 113 = some (.iconst 0, 1, 0, 0, .int (0)) := by decide +kernel
theorem i_162_114 : aIns 162 114 = some (.ireturn, 1, 1, 0, .null) := by decide +kernel
theorem i_162_115 : aIns 162 115 = some (.iload_n 1, 1, 0, 0, .null) := by decide +kernel
theorem i_162_116 : aIns 162 116 = some (.bipush 60, 2, 0, 0, .int (60)) := by decide +kernel
theorem i_162_118 : aIns 162 118 = some (.if_icmp .ne 15, 3, 0, 0, .null) := by decide +kernel
theorem i_162_121 : aIns 162 121 = some (.iload_n 3, 1, 0, 0, .null) := by decide +kernel
theorem i_162_122 : aIns 162 122 = some (.ifCond .eq 7, 3, 0, 0, .null) := by decide +kernel
theorem i_162_125 : aIns 162 125 = some (.iconst 1, 1, 0, 0, .int (1)) := by decide +kernel
theorem i_162_126 : aIns 162 126 = some (.goto 26, 3, 0, 0, .null) := by decide +kernel
theorem i_162_129 : aIns 162 129 = some (.iconst 0, 1, 0, 0, .int (0)) := by decide +kernel
theorem i_162_130 : aIns 162 130 = some (.goto 22, 3, 0, 0, .null) := by decide +kernel
theorem i_162_133 : aIns 162 133 = some (.iload_n 1, 1, 0, 0, .null) := by decide +kernel
theorem i_162_134 : aIns 162 134 = some (.bipush 61, 2, 0, 0, .int (61)) := by decide +kernel
theorem i_162_136 : aIns 162 136 = some (.if_icmp .ne 7, 3, 0, 0, .null) := by decide +kernel
theorem i_162_139 : aIns 162 139 = some (.iconst 2, 1, 0, 0, .int (2)) := by decide +kernel
theorem i_162_140 : aIns 162 140 = some (.goto 12, 3, 0, 0, .null) := by decide +kernel
theorem i_162_143 : aIns 162 143 = some (.iload_n 3, 1, 0, 0, .null) := by decide +kernel
theorem i_162_144 : aIns 162 144 = some (.ifCond .eq 7, 3, 0, 0, .null) := by decide +kernel
theorem i_162_147 : aIns 162 147 = some (.iconst 3, 1, 0, 0, .int (3)) := by decide +kernel
theorem i_162_148 : aIns 162 148 = some (.goto 4, 3, 0, 0, .null) := by decide +kernel
theorem i_162_151 : aIns 162 151 = some (.iconst 4, 1, 0, 0, .int (4)) := by decide +kernel
theorem i_162_152 : aIns 162 152 = some (.istore 4, 2, 0, 0, .null) := by decide +kernel
theorem i_162_154 : aIns 162 154 = some (.aload_n 0, 1, 0, 0, .null) := by decide +kernel
theorem i_162_155 : aIns 162 155 = some (.invokevirtual 181, 3, 161, 0, .int 12) := by decide +kernel
theorem i_162_158 : aIns 162 158 = some (.ifCond .ne 5, 3, 0, 0, .null) := by decide +kernel
theorem i_162_161 : aIns 162 161 = some (.iconst 0, 1, 0, 0, .int (0)) := by decide +kernel
theorem i_162_162 : aIns 162 162 = some (.ireturn, 1, 1, 0, .null) := by decide +kernel
theorem i_162_163 : aIns 162 163 = some (.aload_n 0, 1, 0, 0, .null) := by decide +kernel
theorem i_162_164 : aIns 162 164 = some (.bipush 6, 2, 0, 0, .int (6)) := by decide +kernel
theorem i_162_166 : aIns 162 166 = some (.iload 4, 2, 0, 0, .null) := by decide +kernel
theorem i_162_168 : aIns 162 168 = some (.iadd, 1, 0, 0, .null) := by decide +kernel
theorem i_162_169 : aIns 162 169 = some (.iconst 0, 1, 0, 0, .int (0)) := by decide +kernel
theorem i_162_170 : aIns 162 170 = some (.invokevirtual 160, 3, 154, 2, .int 12) := by decide +kernel
theorem i_162_173 : aIns 162 173 = some (.iconst 1, 1, 0, 0, .int (1)) := by decide +kernel
theorem i_162_174 : aIns 162 174 = some (.ireturn, 1, 1, 0, .null) := by decide +kernel
def d_140 (g : Nat) (w0 : Int64) (w2 : Int64) (w4 : Int64) (S : rS) : Option (Int32 × rS) := (if (lg_cmp w0 w2) < 0 then some ((0 : Int32), S) else (if 0 < (lg_cmp w0 w4) then some ((0 : Int32), S) else some ((1 : Int32), S)))
set_option maxHeartbeats 4000000 in
set_option maxRecDepth 100000 in
theorem d_140_ok {X : aX} {g d : Nat} {w0 : Int64} {w2 : Int64} {w4 : Int64} {S : rS} {h0 : aH} {zz : Int32 × rS} (hdp : 0 ≤ d) (HS : rm h0 S) (hd : d_140 g w0 w2 w4 S = some zz) : aWp X d 140 0 (aEntL [.long w0, .long w2, .long w4] 6) [] h0 (fun w h' => w = some (.int zz.1) ∧ rTo h0 zz.2 h') := by
  unfold d_140 at hd
  have HH := rTo.rf HS
  refine wp_lv (l2 := [some (.long w0), none, some (.long w2), none, some (.long w4), none]) rfl ?_
  refine wp_s 1 [some (.long w0), none, some (.long w2), none, some (.long w4), none] [.long w0] h0 i_140_0 rfl ?_
  refine wp_s 2 [some (.long w0), none, some (.long w2), none, some (.long w4), none] [.long w2, .long w0] h0 i_140_1 rfl ?_
  refine wp_s 3 [some (.long w0), none, some (.long w2), none, some (.long w4), none] [.int (lg_cmp w0 w2)] h0 i_140_2 rfl ?_
  refine wp_if_lt 17 6 rfl rfl i_140_3 (fun c_1 => ?_) (fun c_1 => ?_)
  · rw [if_pos c_1] at hd
    refine wp_s 18 [some (.long w0), none, some (.long w2), none, some (.long w4), none] [.int (0 : Int32)] h0 i_140_17 rfl ?_
    obtain rfl := Option.some.inj hd
    exact wp_iretZ (z := 0) i_140_18 (by decide) ⟨rfl, HH⟩
  · rw [if_neg c_1] at hd
    refine wp_s 7 [some (.long w0), none, some (.long w2), none, some (.long w4), none] [.long w0] h0 i_140_6 rfl ?_
    refine wp_s 9 [some (.long w0), none, some (.long w2), none, some (.long w4), none] [.long w4, .long w0] h0 i_140_7 rfl ?_
    refine wp_s 10 [some (.long w0), none, some (.long w2), none, some (.long w4), none] [.int (lg_cmp w0 w4)] h0 i_140_9 rfl ?_
    refine wp_if_gt 17 13 rfl rfl i_140_10 (fun c_2 => ?_) (fun c_2 => ?_)
    · rw [if_pos c_2] at hd
      refine wp_s 18 [some (.long w0), none, some (.long w2), none, some (.long w4), none] [.int (0 : Int32)] h0 i_140_17 rfl ?_
      obtain rfl := Option.some.inj hd
      exact wp_iretZ (z := 0) i_140_18 (by decide) ⟨rfl, HH⟩
    · rw [if_neg c_2] at hd
      refine wp_s 14 [some (.long w0), none, some (.long w2), none, some (.long w4), none] [.int (1 : Int32)] h0 i_140_13 rfl ?_
      refine wp_s 18 [some (.long w0), none, some (.long w2), none, some (.long w4), none] [.int (1 : Int32)] h0 i_140_14 rfl ?_
      obtain rfl := Option.some.inj hd
      exact wp_iretZ (z := 0) i_140_18 (by decide) ⟨rfl, HH⟩
def d_141 (g : Nat) (x0 : Int32) (x1 : Int32) (S : rS) : Option (Int32 × rS) := (if ¬ ((x0 >>> (x1 &&& 31)) &&& (1 : Int32)) = (1 : Int32) then some ((0 : Int32), S) else some ((1 : Int32), S))
set_option maxHeartbeats 4000000 in
set_option maxRecDepth 100000 in
theorem d_141_ok {X : aX} {g d : Nat} {x0 : Int32} {x1 : Int32} {S : rS} {h0 : aH} {zz : Int32 × rS} (hdp : 0 ≤ d) (HS : rm h0 S) (hd : d_141 g x0 x1 S = some zz) : aWp X d 141 0 (aEntL [.int x0, .int x1] 2) [] h0 (fun w h' => w = some (.int zz.1) ∧ rTo h0 zz.2 h') := by
  unfold d_141 at hd
  have HH := rTo.rf HS
  refine wp_lv (l2 := [some (.int x0), some (.int x1)]) rfl ?_
  refine wp_s 1 [some (.int x0), some (.int x1)] [.int x0] h0 i_141_0 rfl ?_
  refine wp_s 2 [some (.int x0), some (.int x1)] [.int x1, .int x0] h0 i_141_1 rfl ?_
  refine wp_s 3 [some (.int x0), some (.int x1)] [.int (x0 >>> (x1 &&& 31))] h0 i_141_2 rfl ?_
  refine wp_s 4 [some (.int x0), some (.int x1)] [.int (1 : Int32), .int (x0 >>> (x1 &&& 31))] h0 i_141_3 rfl ?_
  refine wp_s 5 [some (.int x0), some (.int x1)] [.int ((x0 >>> (x1 &&& 31)) &&& (1 : Int32))] h0 i_141_4 rfl ?_
  refine wp_s 6 [some (.int x0), some (.int x1)] [.int (1 : Int32), .int ((x0 >>> (x1 &&& 31)) &&& (1 : Int32))] h0 i_141_5 rfl ?_
  refine wp_cmp_ne 13 9 rfl rfl i_141_6 (fun c_1 => ?_) (fun c_1 => ?_)
  · rw [if_pos c_1] at hd
    refine wp_s 14 [some (.int x0), some (.int x1)] [.int (0 : Int32)] h0 i_141_13 rfl ?_
    obtain rfl := Option.some.inj hd
    exact wp_iretZ (z := 0) i_141_14 (by decide) ⟨rfl, HH⟩
  · rw [if_neg c_1] at hd
    refine wp_s 10 [some (.int x0), some (.int x1)] [.int (1 : Int32)] h0 i_141_9 rfl ?_
    refine wp_s 14 [some (.int x0), some (.int x1)] [.int (1 : Int32)] h0 i_141_10 rfl ?_
    obtain rfl := Option.some.inj hd
    exact wp_iretZ (z := 0) i_141_14 (by decide) ⟨rfl, HH⟩
def l_142 (g n tag : Nat) (x1 : Int32) (x2 : Int32) (S : rS) : Option (rS) := match n with
  | 0 => none
  | n + 1 => if tag = 0 then (if x2 < 0 then some S else (if aIn (S.1 1) 400 = true then (l_142 g n 0 x1 (x2 + (-8 : Int32)) (rF (rA S 0 (upd (S.2.1 0) (S.1 1).toNatClampNeg (vp_nar .byte ((x1 >>> (x2 &&& 31)).toInt8.toInt32)))) 1 ((S.1 1) + (1 : Int32)))) else none)) else none
set_option maxHeartbeats 4000000 in
set_option maxRecDepth 100000 in
theorem l_142_ok {X : aX} {g d : Nat} (hdp : 0 ≤ d) : ∀ n, (∀ (x1 : Int32) (x2 : Int32) (S : rS) (h0 : aH) (zz : rS), rm h0 S → l_142 g n 0 x1 x2 S = some zz → aWp X d 142 3 [some (.ref 382), some (.int x1), some (.int x2)] [] h0 (fun w h' => w = none ∧ rTo h0 zz h')) := by
  intro n
  induction n with
  | zero => exact fun _ _ _ _ _ _ hd => by simp [l_142] at hd
  | succ n ih =>
    intro x1 x2 S h0 zz HS hd
    unfold l_142 at hd
    rw [if_pos rfl] at hd
    have HH := rTo.rf HS
    refine wp_s 4 [some (.ref 382), some (.int x1), some (.int x2)] [.int x2] h0 i_142_3 rfl ?_
    refine wp_if_lt 36 7 rfl rfl i_142_4 (fun c_1 => ?_) (fun c_1 => ?_)
    · rw [if_pos c_1] at hd
      obtain rfl := Option.some.inj hd
      exact wp_ret i_142_36 rfl ⟨rfl, HH⟩
    · rw [if_neg c_1] at hd
      refine wp_s 8 [some (.ref 382), some (.int x1), some (.int x2)] [.ref 382] h0 i_142_7 rfl ?_
      refine wp_get (v := .ref 383) 11 rfl i_142_8 (HH.1 0 (by decide)) rfl ?_
      refine wp_s 12 [some (.ref 382), some (.int x1), some (.int x2)] [.ref 382, .ref 383] h0 i_142_11 rfl ?_
      refine wp_get (v := .int (S.1 1)) 15 rfl i_142_12 (HH.1 0 (by decide)) rfl ?_
      refine wp_s 16 [some (.ref 382), some (.int x1), some (.int x2)] [.int x1, .int (S.1 1), .ref 383] h0 i_142_15 rfl ?_
      refine wp_s 17 [some (.ref 382), some (.int x1), some (.int x2)] [.int x2, .int x1, .int (S.1 1), .ref 383] h0 i_142_16 rfl ?_
      refine wp_s 18 [some (.ref 382), some (.int x1), some (.int x2)] [.int (x1 >>> (x2 &&& 31)), .int (S.1 1), .ref 383] h0 i_142_17 rfl ?_
      refine wp_s 19 [some (.ref 382), some (.int x1), some (.int x2)] [.int ((x1 >>> (x2 &&& 31)).toInt8.toInt32), .int (S.1 1), .ref 383] h0 i_142_18 rfl ?_
      obtain ⟨b_2, hd⟩ := dk_if hd
      refine rq_A0 20 rfl i_142_19 HH b_2 (fun h_3 H_4 => ?_)
      refine wp_s 21 [some (.ref 382), some (.int x1), some (.int x2)] [.ref 382] h_3 i_142_20 rfl ?_
      refine wp_s 22 [some (.ref 382), some (.int x1), some (.int x2)] [.ref 382, .ref 382] h_3 i_142_21 rfl ?_
      refine wp_get (v := .int (S.1 1)) 25 rfl i_142_22 (H_4.1 0 (by decide)) rfl ?_
      refine wp_s 26 [some (.ref 382), some (.int x1), some (.int x2)] [.int (1 : Int32), .int (S.1 1), .ref 382] h_3 i_142_25 rfl ?_
      refine wp_s 27 [some (.ref 382), some (.int x1), some (.int x2)] [.int ((S.1 1) + (1 : Int32)), .ref 382] h_3 i_142_26 rfl ?_
      refine rq_F1 30 rfl i_142_27 H_4 (fun h_5 H_6 => ?_)
      refine wp_s 33 [some (.ref 382), some (.int x1), some (.int (x2 + (-8 : Int32)))] [] h_5 i_142_30 rfl ?_
      refine wp_s 3 [some (.ref 382), some (.int x1), some (.int (x2 + (-8 : Int32)))] [] h_5 i_142_33 rfl ?_
      exact aWp.post (aWp.forget (ih _ _ _ _ _ H_6.1 hd) ((lvS (lvS (lvS lvE))))) (fun _ _ hq => ⟨hq.1, H_6.tr hq.2⟩)
def d_142 (g : Nat) (x1 : Int32) (S : rS) : Option (rS) := (l_142 g g 0 x1 (24 : Int32) S)
set_option maxHeartbeats 4000000 in
set_option maxRecDepth 100000 in
theorem d_142_ok {X : aX} {g d : Nat} {x1 : Int32} {S : rS} {h0 : aH} {zz : rS} (hdp : 0 ≤ d) (HS : rm h0 S) (hd : d_142 g x1 S = some zz) : aWp X d 142 0 (aEntL [.ref 382, .int x1] 3) [] h0 (fun w h' => w = none ∧ rTo h0 zz h') := by
  unfold d_142 at hd
  have HH := rTo.rf HS
  refine wp_lv (l2 := [some (.ref 382), some (.int x1), none]) rfl ?_
  refine wp_s 2 [some (.ref 382), some (.int x1), none] [.int (24 : Int32)] h0 i_142_0 rfl ?_
  refine wp_s 3 [some (.ref 382), some (.int x1), some (.int (24 : Int32))] [] h0 i_142_2 rfl ?_
  exact aWp.post (aWp.forget ((l_142_ok hdp g) _ _ _ _ _ HH.1 hd) ((lvS (lvS (lvS lvE))))) (fun _ _ hq => ⟨hq.1, HH.tr hq.2⟩)
def d_143 (g : Nat) (x1 : Int32) (x2 : Int32) (x3 : Int32) (x4 : Int32) (x5 : Int32) (S : rS) : Option (Int32 × rS) := (if ((S.1 1) + (20 : Int32)) ≤ (400 : Int32) then ((d_142 g x1 S).bind (fun z_2 => ((d_142 g x2 z_2).bind (fun z_7 => ((d_142 g x3 z_7).bind (fun z_12 => ((d_142 g x4 z_12).bind (fun z_17 => ((d_142 g x5 z_17).bind (fun z_22 => some ((z_22.1 1), z_22))))))))))) else some ((-1 : Int32), S))
set_option maxHeartbeats 4000000 in
set_option maxRecDepth 100000 in
theorem d_143_ok {X : aX} {g d : Nat} {x1 : Int32} {x2 : Int32} {x3 : Int32} {x4 : Int32} {x5 : Int32} {S : rS} {h0 : aH} {zz : Int32 × rS} (hdp : 1 ≤ d) (HS : rm h0 S) (hd : d_143 g x1 x2 x3 x4 x5 S = some zz) : aWp X d 143 0 (aEntL [.ref 382, .int x1, .int x2, .int x3, .int x4, .int x5] 6) [] h0 (fun w h' => w = some (.int zz.1) ∧ rTo h0 zz.2 h') := by
  unfold d_143 at hd
  have HH := rTo.rf HS
  refine wp_lv (l2 := [some (.ref 382), some (.int x1), some (.int x2), some (.int x3), some (.int x4), some (.int x5)]) rfl ?_
  obtain ⟨e, rfl⟩ : ∃ e, d = e + 1 := ⟨d - 1, by omega⟩
  refine wp_s 1 [some (.ref 382), some (.int x1), some (.int x2), some (.int x3), some (.int x4), some (.int x5)] [.ref 382] h0 i_143_0 rfl ?_
  refine wp_get (v := .int (S.1 1)) 4 rfl i_143_1 (HH.1 0 (by decide)) rfl ?_
  refine wp_s 6 [some (.ref 382), some (.int x1), some (.int x2), some (.int x3), some (.int x4), some (.int x5)] [.int (20 : Int32), .int (S.1 1)] h0 i_143_4 rfl ?_
  refine wp_s 7 [some (.ref 382), some (.int x1), some (.int x2), some (.int x3), some (.int x4), some (.int x5)] [.int ((S.1 1) + (20 : Int32))] h0 i_143_6 rfl ?_
  refine wp_s 10 [some (.ref 382), some (.int x1), some (.int x2), some (.int x3), some (.int x4), some (.int x5)] [.int (400 : Int32), .int ((S.1 1) + (20 : Int32))] h0 i_143_7 rfl ?_
  refine wp_cmp_le 15 13 rfl rfl i_143_10 (fun c_1 => ?_) (fun c_1 => ?_)
  · rw [if_pos c_1] at hd
    refine wp_s 16 [some (.ref 382), some (.int x1), some (.int x2), some (.int x3), some (.int x4), some (.int x5)] [.ref 382] h0 i_143_15 rfl ?_
    refine wp_s 17 [some (.ref 382), some (.int x1), some (.int x2), some (.int x3), some (.int x4), some (.int x5)] [.int x1, .ref 382] h0 i_143_16 rfl ?_
    obtain ⟨z_2, q_3, hd⟩ := dk_bind hd
    refine wp_callV 20 rfl i_143_17 (by decide) rfl (vs := [.int x1]) (rest := []) rfl rfl rfl (HH.1 0 (by decide)) (y := m_142) rfl (Nat.le_of_ble_eq_true rfl) (d_142_ok (d := e) (by omega) HH.1 q_3) ?_
    rintro v_6 h_4 ⟨rfl, H_5⟩
    have H_5 := HH.tr H_5
    refine wp_s 21 [some (.ref 382), some (.int x1), some (.int x2), some (.int x3), some (.int x4), some (.int x5)] [.ref 382] h_4 i_143_20 rfl ?_
    refine wp_s 22 [some (.ref 382), some (.int x1), some (.int x2), some (.int x3), some (.int x4), some (.int x5)] [.int x2, .ref 382] h_4 i_143_21 rfl ?_
    obtain ⟨z_7, q_8, hd⟩ := dk_bind hd
    refine wp_callV 25 rfl i_143_22 (by decide) rfl (vs := [.int x2]) (rest := []) rfl rfl rfl (H_5.1 0 (by decide)) (y := m_142) rfl (Nat.le_of_ble_eq_true rfl) (d_142_ok (d := e) (by omega) H_5.1 q_8) ?_
    rintro v_11 h_9 ⟨rfl, H_10⟩
    have H_10 := H_5.tr H_10
    refine wp_s 26 [some (.ref 382), some (.int x1), some (.int x2), some (.int x3), some (.int x4), some (.int x5)] [.ref 382] h_9 i_143_25 rfl ?_
    refine wp_s 27 [some (.ref 382), some (.int x1), some (.int x2), some (.int x3), some (.int x4), some (.int x5)] [.int x3, .ref 382] h_9 i_143_26 rfl ?_
    obtain ⟨z_12, q_13, hd⟩ := dk_bind hd
    refine wp_callV 30 rfl i_143_27 (by decide) rfl (vs := [.int x3]) (rest := []) rfl rfl rfl (H_10.1 0 (by decide)) (y := m_142) rfl (Nat.le_of_ble_eq_true rfl) (d_142_ok (d := e) (by omega) H_10.1 q_13) ?_
    rintro v_16 h_14 ⟨rfl, H_15⟩
    have H_15 := H_10.tr H_15
    refine wp_s 31 [some (.ref 382), some (.int x1), some (.int x2), some (.int x3), some (.int x4), some (.int x5)] [.ref 382] h_14 i_143_30 rfl ?_
    refine wp_s 33 [some (.ref 382), some (.int x1), some (.int x2), some (.int x3), some (.int x4), some (.int x5)] [.int x4, .ref 382] h_14 i_143_31 rfl ?_
    obtain ⟨z_17, q_18, hd⟩ := dk_bind hd
    refine wp_callV 36 rfl i_143_33 (by decide) rfl (vs := [.int x4]) (rest := []) rfl rfl rfl (H_15.1 0 (by decide)) (y := m_142) rfl (Nat.le_of_ble_eq_true rfl) (d_142_ok (d := e) (by omega) H_15.1 q_18) ?_
    rintro v_21 h_19 ⟨rfl, H_20⟩
    have H_20 := H_15.tr H_20
    refine wp_s 37 [some (.ref 382), some (.int x1), some (.int x2), some (.int x3), some (.int x4), some (.int x5)] [.ref 382] h_19 i_143_36 rfl ?_
    refine wp_s 39 [some (.ref 382), some (.int x1), some (.int x2), some (.int x3), some (.int x4), some (.int x5)] [.int x5, .ref 382] h_19 i_143_37 rfl ?_
    obtain ⟨z_22, q_23, hd⟩ := dk_bind hd
    refine wp_callV 42 rfl i_143_39 (by decide) rfl (vs := [.int x5]) (rest := []) rfl rfl rfl (H_20.1 0 (by decide)) (y := m_142) rfl (Nat.le_of_ble_eq_true rfl) (d_142_ok (d := e) (by omega) H_20.1 q_23) ?_
    rintro v_26 h_24 ⟨rfl, H_25⟩
    have H_25 := H_20.tr H_25
    refine wp_s 43 [some (.ref 382), some (.int x1), some (.int x2), some (.int x3), some (.int x4), some (.int x5)] [.ref 382] h_24 i_143_42 rfl ?_
    refine wp_get (v := .int (z_22.1 1)) 46 rfl i_143_43 (H_25.1 0 (by decide)) rfl ?_
    obtain rfl := Option.some.inj hd
    exact wp_iret i_143_46 ⟨rfl, H_25⟩
  · rw [if_neg c_1] at hd
    refine wp_s 14 [some (.ref 382), some (.int x1), some (.int x2), some (.int x3), some (.int x4), some (.int x5)] [.int (-1 : Int32)] h0 i_143_13 rfl ?_
    obtain rfl := Option.some.inj hd
    exact wp_iret i_143_14 ⟨rfl, HH⟩
def d_144 (g : Nat) (x1 : Int32) (S : rS) : Option (Int32 × rS) := (if x1 < 0 then some ((-1 : Int32), S) else (if x1 ≤ (S.1 1) then some (x1, (rF S 1 x1)) else some ((-1 : Int32), S)))
set_option maxHeartbeats 4000000 in
set_option maxRecDepth 100000 in
theorem d_144_ok {X : aX} {g d : Nat} {x1 : Int32} {S : rS} {h0 : aH} {zz : Int32 × rS} (hdp : 0 ≤ d) (HS : rm h0 S) (hd : d_144 g x1 S = some zz) : aWp X d 144 0 (aEntL [.ref 382, .int x1] 2) [] h0 (fun w h' => w = some (.int zz.1) ∧ rTo h0 zz.2 h') := by
  unfold d_144 at hd
  have HH := rTo.rf HS
  refine wp_lv (l2 := [some (.ref 382), some (.int x1)]) rfl ?_
  refine wp_s 1 [some (.ref 382), some (.int x1)] [.int x1] h0 i_144_0 rfl ?_
  refine wp_if_lt 12 4 rfl rfl i_144_1 (fun c_1 => ?_) (fun c_1 => ?_)
  · rw [if_pos c_1] at hd
    refine wp_s 13 [some (.ref 382), some (.int x1)] [.int (-1 : Int32)] h0 i_144_12 rfl ?_
    obtain rfl := Option.some.inj hd
    exact wp_iret i_144_13 ⟨rfl, HH⟩
  · rw [if_neg c_1] at hd
    refine wp_s 5 [some (.ref 382), some (.int x1)] [.int x1] h0 i_144_4 rfl ?_
    refine wp_s 6 [some (.ref 382), some (.int x1)] [.ref 382, .int x1] h0 i_144_5 rfl ?_
    refine wp_get (v := .int (S.1 1)) 9 rfl i_144_6 (HH.1 0 (by decide)) rfl ?_
    refine wp_cmp_le 14 12 rfl rfl i_144_9 (fun c_2 => ?_) (fun c_2 => ?_)
    · rw [if_pos c_2] at hd
      refine wp_s 15 [some (.ref 382), some (.int x1)] [.ref 382] h0 i_144_14 rfl ?_
      refine wp_s 16 [some (.ref 382), some (.int x1)] [.int x1, .ref 382] h0 i_144_15 rfl ?_
      refine rq_F1 19 rfl i_144_16 HH (fun h_3 H_4 => ?_)
      refine wp_s 20 [some (.ref 382), some (.int x1)] [.int x1] h_3 i_144_19 rfl ?_
      obtain rfl := Option.some.inj hd
      exact wp_iret i_144_20 ⟨rfl, H_4⟩
    · rw [if_neg c_2] at hd
      refine wp_s 13 [some (.ref 382), some (.int x1)] [.int (-1 : Int32)] h0 i_144_12 rfl ?_
      obtain rfl := Option.some.inj hd
      exact wp_iret i_144_13 ⟨rfl, HH⟩
def d_145 (g : Nat) (x1 : Int32) (x2 : Int32) (S : rS) : Option (Int32 × rS) := (if ¬ (S.1 9) = 0 then some ((0 : Int32), S) else some ((0 : Int32), (rF S 9 (((1 : Int32) + ((8 : Int32) * x2)) + x1))))
set_option maxHeartbeats 4000000 in
set_option maxRecDepth 100000 in
theorem d_145_ok {X : aX} {g d : Nat} {x1 : Int32} {x2 : Int32} {S : rS} {h0 : aH} {zz : Int32 × rS} (hdp : 0 ≤ d) (HS : rm h0 S) (hd : d_145 g x1 x2 S = some zz) : aWp X d 145 0 (aEntL [.ref 382, .int x1, .int x2] 3) [] h0 (fun w h' => w = some (.int zz.1) ∧ rTo h0 zz.2 h') := by
  unfold d_145 at hd
  have HH := rTo.rf HS
  refine wp_lv (l2 := [some (.ref 382), some (.int x1), some (.int x2)]) rfl ?_
  refine wp_s 1 [some (.ref 382), some (.int x1), some (.int x2)] [.ref 382] h0 i_145_0 rfl ?_
  refine wp_get (v := .int (S.1 9)) 4 rfl i_145_1 (HH.1 0 (by decide)) rfl ?_
  refine wp_if_ne 19 7 rfl rfl i_145_4 (fun c_1 => ?_) (fun c_1 => ?_)
  · rw [if_pos c_1] at hd
    refine wp_s 20 [some (.ref 382), some (.int x1), some (.int x2)] [.int (0 : Int32)] h0 i_145_19 rfl ?_
    obtain rfl := Option.some.inj hd
    exact wp_iretZ (z := 0) i_145_20 (by decide) ⟨rfl, HH⟩
  · rw [if_neg c_1] at hd
    refine wp_s 8 [some (.ref 382), some (.int x1), some (.int x2)] [.ref 382] h0 i_145_7 rfl ?_
    refine wp_s 9 [some (.ref 382), some (.int x1), some (.int x2)] [.int (1 : Int32), .ref 382] h0 i_145_8 rfl ?_
    refine wp_s 11 [some (.ref 382), some (.int x1), some (.int x2)] [.int (8 : Int32), .int (1 : Int32), .ref 382] h0 i_145_9 rfl ?_
    refine wp_s 12 [some (.ref 382), some (.int x1), some (.int x2)] [.int x2, .int (8 : Int32), .int (1 : Int32), .ref 382] h0 i_145_11 rfl ?_
    refine wp_s 13 [some (.ref 382), some (.int x1), some (.int x2)] [.int ((8 : Int32) * x2), .int (1 : Int32), .ref 382] h0 i_145_12 rfl ?_
    refine wp_s 14 [some (.ref 382), some (.int x1), some (.int x2)] [.int ((1 : Int32) + ((8 : Int32) * x2)), .ref 382] h0 i_145_13 rfl ?_
    refine wp_s 15 [some (.ref 382), some (.int x1), some (.int x2)] [.int x1, .int ((1 : Int32) + ((8 : Int32) * x2)), .ref 382] h0 i_145_14 rfl ?_
    refine wp_s 16 [some (.ref 382), some (.int x1), some (.int x2)] [.int (((1 : Int32) + ((8 : Int32) * x2)) + x1), .ref 382] h0 i_145_15 rfl ?_
    refine rq_F9 19 rfl i_145_16 HH (fun h_2 H_3 => ?_)
    refine wp_s 20 [some (.ref 382), some (.int x1), some (.int x2)] [.int (0 : Int32)] h_2 i_145_19 rfl ?_
    obtain rfl := Option.some.inj hd
    exact wp_iretZ (z := 0) i_145_20 (by decide) ⟨rfl, H_3⟩
def l_146 (g n tag : Nat)  (S : rS) : Option (Int32 × rS) := match n with
  | 0 => none
  | n + 1 => if tag = 0 then (if (S.1 1) ≤ (S.1 8) then (l_146 g n 1  S) else (if aIn (S.1 8) 400 = true then (if ¬ ((S.2.1 0) (S.1 8).toNatClampNeg) = (32 : Int32) then (l_146 g n 1  S) else (l_146 g n 0  (rF S 8 ((S.1 8) + (1 : Int32))))) else none)) else if tag = 1 then (if (S.1 1) ≤ (S.1 8) then some ((-1 : Int32), S) else (if aIn (S.1 8) 400 = true then some ((((S.2.1 0) (S.1 8).toNatClampNeg) &&& (255 : Int32)), S) else none)) else none
set_option maxHeartbeats 4000000 in
set_option maxRecDepth 100000 in
theorem l_146_ok {X : aX} {g d : Nat} (hdp : 0 ≤ d) : ∀ n, (∀  (S : rS) (h0 : aH) (zz : Int32 × rS), rm h0 S → l_146 g n 0  S = some zz → aWp X d 146 0 [some (.ref 382)] [] h0 (fun w h' => w = some (.int zz.1) ∧ rTo h0 zz.2 h')) ∧ (∀  (S : rS) (h0 : aH) (zz : Int32 × rS), rm h0 S → l_146 g n 1  S = some zz → aWp X d 146 38 [some (.ref 382)] [] h0 (fun w h' => w = some (.int zz.1) ∧ rTo h0 zz.2 h')) := by
  intro n
  induction n with
  | zero => exact ⟨fun _ _ _ _ hd => by simp [l_146] at hd, fun _ _ _ _ hd => by simp [l_146] at hd⟩
  | succ n ih =>
    refine ⟨?_, ?_⟩
    · intro  S h0 zz HS hd
      unfold l_146 at hd
      rw [if_pos rfl] at hd
      have HH := rTo.rf HS
      refine wp_s 1 [some (.ref 382)] [.ref 382] h0 i_146_0 rfl ?_
      refine wp_get (v := .int (S.1 8)) 4 rfl i_146_1 (HH.1 0 (by decide)) rfl ?_
      refine wp_s 5 [some (.ref 382)] [.ref 382, .int (S.1 8)] h0 i_146_4 rfl ?_
      refine wp_get (v := .int (S.1 1)) 8 rfl i_146_5 (HH.1 0 (by decide)) rfl ?_
      refine wp_cmp_ge 38 11 rfl rfl i_146_8 (fun c_1 => ?_) (fun c_1 => ?_)
      · rw [if_pos c_1] at hd
        exact aWp.post (aWp.forget (ih.2 _ _ _ HH.1 hd) ((lvS lvE))) (fun _ _ hq => ⟨hq.1, HH.tr hq.2⟩)
      · rw [if_neg c_1] at hd
        refine wp_s 12 [some (.ref 382)] [.ref 382] h0 i_146_11 rfl ?_
        refine wp_get (v := .ref 383) 15 rfl i_146_12 (HH.1 0 (by decide)) rfl ?_
        refine wp_s 16 [some (.ref 382)] [.ref 382, .ref 383] h0 i_146_15 rfl ?_
        refine wp_get (v := .int (S.1 8)) 19 rfl i_146_16 (HH.1 0 (by decide)) rfl ?_
        obtain ⟨b_2, hd⟩ := dk_if hd
        refine wp_bald (f := (S.2.1 0)) 20 rfl i_146_19 (Or.inl rfl) (HH.1 1 (by decide)) b_2 ?_
        refine wp_s 22 [some (.ref 382)] [.int (32 : Int32), .int ((S.2.1 0) (S.1 8).toNatClampNeg)] h0 i_146_20 rfl ?_
        refine wp_cmp_ne 38 25 rfl rfl i_146_22 (fun c_3 => ?_) (fun c_3 => ?_)
        · rw [if_pos c_3] at hd
          exact aWp.post (aWp.forget (ih.2 _ _ _ HH.1 hd) ((lvS lvE))) (fun _ _ hq => ⟨hq.1, HH.tr hq.2⟩)
        · rw [if_neg c_3] at hd
          refine wp_s 26 [some (.ref 382)] [.ref 382] h0 i_146_25 rfl ?_
          refine wp_s 27 [some (.ref 382)] [.ref 382, .ref 382] h0 i_146_26 rfl ?_
          refine wp_get (v := .int (S.1 8)) 30 rfl i_146_27 (HH.1 0 (by decide)) rfl ?_
          refine wp_s 31 [some (.ref 382)] [.int (1 : Int32), .int (S.1 8), .ref 382] h0 i_146_30 rfl ?_
          refine wp_s 32 [some (.ref 382)] [.int ((S.1 8) + (1 : Int32)), .ref 382] h0 i_146_31 rfl ?_
          refine rq_F8 35 rfl i_146_32 HH (fun h_4 H_5 => ?_)
          refine wp_s 0 [some (.ref 382)] [] h_4 i_146_35 rfl ?_
          exact aWp.post (aWp.forget (ih.1 _ _ _ H_5.1 hd) ((lvS lvE))) (fun _ _ hq => ⟨hq.1, H_5.tr hq.2⟩)
    · intro  S h0 zz HS hd
      unfold l_146 at hd
      rw [if_neg (by decide), if_pos rfl] at hd
      have HH := rTo.rf HS
      refine wp_s 39 [some (.ref 382)] [.ref 382] h0 i_146_38 rfl ?_
      refine wp_get (v := .int (S.1 8)) 42 rfl i_146_39 (HH.1 0 (by decide)) rfl ?_
      refine wp_s 43 [some (.ref 382)] [.ref 382, .int (S.1 8)] h0 i_146_42 rfl ?_
      refine wp_get (v := .int (S.1 1)) 46 rfl i_146_43 (HH.1 0 (by decide)) rfl ?_
      refine wp_cmp_ge 65 49 rfl rfl i_146_46 (fun c_6 => ?_) (fun c_6 => ?_)
      · rw [if_pos c_6] at hd
        refine wp_s 66 [some (.ref 382)] [.int (-1 : Int32)] h0 i_146_65 rfl ?_
        obtain rfl := Option.some.inj hd
        exact wp_iret i_146_66 ⟨rfl, HH⟩
      · rw [if_neg c_6] at hd
        refine wp_s 50 [some (.ref 382)] [.ref 382] h0 i_146_49 rfl ?_
        refine wp_get (v := .ref 383) 53 rfl i_146_50 (HH.1 0 (by decide)) rfl ?_
        refine wp_s 54 [some (.ref 382)] [.ref 382, .ref 383] h0 i_146_53 rfl ?_
        refine wp_get (v := .int (S.1 8)) 57 rfl i_146_54 (HH.1 0 (by decide)) rfl ?_
        obtain ⟨b_7, hd⟩ := dk_if hd
        refine wp_bald (f := (S.2.1 0)) 58 rfl i_146_57 (Or.inl rfl) (HH.1 1 (by decide)) b_7 ?_
        refine wp_s 61 [some (.ref 382)] [.int (255 : Int32), .int ((S.2.1 0) (S.1 8).toNatClampNeg)] h0 i_146_58 rfl ?_
        refine wp_s 62 [some (.ref 382)] [.int (((S.2.1 0) (S.1 8).toNatClampNeg) &&& (255 : Int32))] h0 i_146_61 rfl ?_
        refine wp_s 66 [some (.ref 382)] [.int (((S.2.1 0) (S.1 8).toNatClampNeg) &&& (255 : Int32))] h0 i_146_62 rfl ?_
        obtain rfl := Option.some.inj hd
        exact wp_iret i_146_66 ⟨rfl, HH⟩
def d_146 (g : Nat)  (S : rS) : Option (Int32 × rS) := (l_146 g g 0  S)
set_option maxHeartbeats 4000000 in
set_option maxRecDepth 100000 in
theorem d_146_ok {X : aX} {g d : Nat}  {S : rS} {h0 : aH} {zz : Int32 × rS} (hdp : 0 ≤ d) (HS : rm h0 S) (hd : d_146 g  S = some zz) : aWp X d 146 0 (aEntL [.ref 382] 1) [] h0 (fun w h' => w = some (.int zz.1) ∧ rTo h0 zz.2 h') := by
  unfold d_146 at hd
  have HH := rTo.rf HS
  refine wp_lv (l2 := [some (.ref 382)]) rfl ?_
  exact aWp.post (aWp.forget ((l_146_ok hdp g).1 _ _ _ HH.1 hd) ((lvS lvE))) (fun _ _ hq => ⟨hq.1, HH.tr hq.2⟩)
def d_147 (g : Nat) (x1 : Int32) (S : rS) : Option (Int32 × rS) := (if (S.1 1) ≤ x1 then some ((0 : Int32), S) else (if aIn x1 400 = true then (if ((S.2.1 0) x1.toNatClampNeg) < (48 : Int32) then some ((0 : Int32), S) else (if aIn x1 400 = true then (if (57 : Int32) < ((S.2.1 0) x1.toNatClampNeg) then some ((0 : Int32), S) else some ((1 : Int32), S)) else none)) else none))
set_option maxHeartbeats 4000000 in
set_option maxRecDepth 100000 in
theorem d_147_ok {X : aX} {g d : Nat} {x1 : Int32} {S : rS} {h0 : aH} {zz : Int32 × rS} (hdp : 0 ≤ d) (HS : rm h0 S) (hd : d_147 g x1 S = some zz) : aWp X d 147 0 (aEntL [.ref 382, .int x1] 2) [] h0 (fun w h' => w = some (.int zz.1) ∧ rTo h0 zz.2 h') := by
  unfold d_147 at hd
  have HH := rTo.rf HS
  refine wp_lv (l2 := [some (.ref 382), some (.int x1)]) rfl ?_
  refine wp_s 1 [some (.ref 382), some (.int x1)] [.int x1] h0 i_147_0 rfl ?_
  refine wp_s 2 [some (.ref 382), some (.int x1)] [.ref 382, .int x1] h0 i_147_1 rfl ?_
  refine wp_get (v := .int (S.1 1)) 5 rfl i_147_2 (HH.1 0 (by decide)) rfl ?_
  refine wp_cmp_ge 34 8 rfl rfl i_147_5 (fun c_1 => ?_) (fun c_1 => ?_)
  · rw [if_pos c_1] at hd
    refine wp_s 35 [some (.ref 382), some (.int x1)] [.int (0 : Int32)] h0 i_147_34 rfl ?_
    obtain rfl := Option.some.inj hd
    exact wp_iretZ (z := 0) i_147_35 (by decide) ⟨rfl, HH⟩
  · rw [if_neg c_1] at hd
    refine wp_s 9 [some (.ref 382), some (.int x1)] [.ref 382] h0 i_147_8 rfl ?_
    refine wp_get (v := .ref 383) 12 rfl i_147_9 (HH.1 0 (by decide)) rfl ?_
    refine wp_s 13 [some (.ref 382), some (.int x1)] [.int x1, .ref 383] h0 i_147_12 rfl ?_
    obtain ⟨b_2, hd⟩ := dk_if hd
    refine wp_bald (f := (S.2.1 0)) 14 rfl i_147_13 (Or.inl rfl) (HH.1 1 (by decide)) b_2 ?_
    refine wp_s 16 [some (.ref 382), some (.int x1)] [.int (48 : Int32), .int ((S.2.1 0) x1.toNatClampNeg)] h0 i_147_14 rfl ?_
    refine wp_cmp_lt 34 19 rfl rfl i_147_16 (fun c_3 => ?_) (fun c_3 => ?_)
    · rw [if_pos c_3] at hd
      refine wp_s 35 [some (.ref 382), some (.int x1)] [.int (0 : Int32)] h0 i_147_34 rfl ?_
      obtain rfl := Option.some.inj hd
      exact wp_iretZ (z := 0) i_147_35 (by decide) ⟨rfl, HH⟩
    · rw [if_neg c_3] at hd
      refine wp_s 20 [some (.ref 382), some (.int x1)] [.ref 382] h0 i_147_19 rfl ?_
      refine wp_get (v := .ref 383) 23 rfl i_147_20 (HH.1 0 (by decide)) rfl ?_
      refine wp_s 24 [some (.ref 382), some (.int x1)] [.int x1, .ref 383] h0 i_147_23 rfl ?_
      obtain ⟨b_4, hd⟩ := dk_if hd
      refine wp_bald (f := (S.2.1 0)) 25 rfl i_147_24 (Or.inl rfl) (HH.1 1 (by decide)) b_4 ?_
      refine wp_s 27 [some (.ref 382), some (.int x1)] [.int (57 : Int32), .int ((S.2.1 0) x1.toNatClampNeg)] h0 i_147_25 rfl ?_
      refine wp_cmp_gt 34 30 rfl rfl i_147_27 (fun c_5 => ?_) (fun c_5 => ?_)
      · rw [if_pos c_5] at hd
        refine wp_s 35 [some (.ref 382), some (.int x1)] [.int (0 : Int32)] h0 i_147_34 rfl ?_
        obtain rfl := Option.some.inj hd
        exact wp_iretZ (z := 0) i_147_35 (by decide) ⟨rfl, HH⟩
      · rw [if_neg c_5] at hd
        refine wp_s 31 [some (.ref 382), some (.int x1)] [.int (1 : Int32)] h0 i_147_30 rfl ?_
        refine wp_s 35 [some (.ref 382), some (.int x1)] [.int (1 : Int32)] h0 i_147_31 rfl ?_
        obtain rfl := Option.some.inj hd
        exact wp_iretZ (z := 0) i_147_35 (by decide) ⟨rfl, HH⟩
def d_148 (g : Nat) (x1 : Int32) (S : rS) : Option (Int32 × rS) := (if (S.1 1) ≤ x1 then some ((0 : Int32), S) else (if aIn x1 400 = true then (if ((S.2.1 0) x1.toNatClampNeg) < (97 : Int32) then some ((0 : Int32), S) else (if aIn x1 400 = true then (if (122 : Int32) < ((S.2.1 0) x1.toNatClampNeg) then some ((0 : Int32), S) else some ((1 : Int32), S)) else none)) else none))
set_option maxHeartbeats 4000000 in
set_option maxRecDepth 100000 in
theorem d_148_ok {X : aX} {g d : Nat} {x1 : Int32} {S : rS} {h0 : aH} {zz : Int32 × rS} (hdp : 0 ≤ d) (HS : rm h0 S) (hd : d_148 g x1 S = some zz) : aWp X d 148 0 (aEntL [.ref 382, .int x1] 2) [] h0 (fun w h' => w = some (.int zz.1) ∧ rTo h0 zz.2 h') := by
  unfold d_148 at hd
  have HH := rTo.rf HS
  refine wp_lv (l2 := [some (.ref 382), some (.int x1)]) rfl ?_
  refine wp_s 1 [some (.ref 382), some (.int x1)] [.int x1] h0 i_148_0 rfl ?_
  refine wp_s 2 [some (.ref 382), some (.int x1)] [.ref 382, .int x1] h0 i_148_1 rfl ?_
  refine wp_get (v := .int (S.1 1)) 5 rfl i_148_2 (HH.1 0 (by decide)) rfl ?_
  refine wp_cmp_ge 34 8 rfl rfl i_148_5 (fun c_1 => ?_) (fun c_1 => ?_)
  · rw [if_pos c_1] at hd
    refine wp_s 35 [some (.ref 382), some (.int x1)] [.int (0 : Int32)] h0 i_148_34 rfl ?_
    obtain rfl := Option.some.inj hd
    exact wp_iretZ (z := 0) i_148_35 (by decide) ⟨rfl, HH⟩
  · rw [if_neg c_1] at hd
    refine wp_s 9 [some (.ref 382), some (.int x1)] [.ref 382] h0 i_148_8 rfl ?_
    refine wp_get (v := .ref 383) 12 rfl i_148_9 (HH.1 0 (by decide)) rfl ?_
    refine wp_s 13 [some (.ref 382), some (.int x1)] [.int x1, .ref 383] h0 i_148_12 rfl ?_
    obtain ⟨b_2, hd⟩ := dk_if hd
    refine wp_bald (f := (S.2.1 0)) 14 rfl i_148_13 (Or.inl rfl) (HH.1 1 (by decide)) b_2 ?_
    refine wp_s 16 [some (.ref 382), some (.int x1)] [.int (97 : Int32), .int ((S.2.1 0) x1.toNatClampNeg)] h0 i_148_14 rfl ?_
    refine wp_cmp_lt 34 19 rfl rfl i_148_16 (fun c_3 => ?_) (fun c_3 => ?_)
    · rw [if_pos c_3] at hd
      refine wp_s 35 [some (.ref 382), some (.int x1)] [.int (0 : Int32)] h0 i_148_34 rfl ?_
      obtain rfl := Option.some.inj hd
      exact wp_iretZ (z := 0) i_148_35 (by decide) ⟨rfl, HH⟩
    · rw [if_neg c_3] at hd
      refine wp_s 20 [some (.ref 382), some (.int x1)] [.ref 382] h0 i_148_19 rfl ?_
      refine wp_get (v := .ref 383) 23 rfl i_148_20 (HH.1 0 (by decide)) rfl ?_
      refine wp_s 24 [some (.ref 382), some (.int x1)] [.int x1, .ref 383] h0 i_148_23 rfl ?_
      obtain ⟨b_4, hd⟩ := dk_if hd
      refine wp_bald (f := (S.2.1 0)) 25 rfl i_148_24 (Or.inl rfl) (HH.1 1 (by decide)) b_4 ?_
      refine wp_s 27 [some (.ref 382), some (.int x1)] [.int (122 : Int32), .int ((S.2.1 0) x1.toNatClampNeg)] h0 i_148_25 rfl ?_
      refine wp_cmp_gt 34 30 rfl rfl i_148_27 (fun c_5 => ?_) (fun c_5 => ?_)
      · rw [if_pos c_5] at hd
        refine wp_s 35 [some (.ref 382), some (.int x1)] [.int (0 : Int32)] h0 i_148_34 rfl ?_
        obtain rfl := Option.some.inj hd
        exact wp_iretZ (z := 0) i_148_35 (by decide) ⟨rfl, HH⟩
      · rw [if_neg c_5] at hd
        refine wp_s 31 [some (.ref 382), some (.int x1)] [.int (1 : Int32)] h0 i_148_30 rfl ?_
        refine wp_s 35 [some (.ref 382), some (.int x1)] [.int (1 : Int32)] h0 i_148_31 rfl ?_
        obtain rfl := Option.some.inj hd
        exact wp_iretZ (z := 0) i_148_35 (by decide) ⟨rfl, HH⟩
def l_149 (g n tag : Nat) (w1 : Int64) (w3 : Int64) (x5 : Int32) (S : rS) : Option (Int32 × rS) := match n with
  | 0 => none
  | n + 1 => if tag = 0 then ((d_148 g ((S.1 8) + x5) S).bind (fun z_1 => (if z_1.1 = 0 then (if x5 ≤ 0 then some ((0 : Int32), z_1.2) else (if (8 : Int32) ≤ x5 then some ((0 : Int32), z_1.2) else (if ¬ (lg_cmp w3 w1) = 0 then some ((0 : Int32), z_1.2) else some ((1 : Int32), z_1.2)))) else (if (8 : Int32) ≤ x5 then (l_149 g n 1 w1 w3 x5 z_1.2) else (if aIn ((z_1.2.1 8) + x5) 400 = true then (l_149 g n 1 w1 ((w3 <<< ((8 : Int32).toInt64 &&& 63)) ||| (((z_1.2.2.1 0) ((z_1.2.1 8) + x5).toNatClampNeg).toInt64)) x5 z_1.2) else none))))) else if tag = 1 then (l_149 g n 0 w1 w3 (x5 + (1 : Int32)) S) else none
set_option maxHeartbeats 4000000 in
set_option maxRecDepth 100000 in
theorem l_149_ok {X : aX} {g d : Nat} (hdp : 1 ≤ d) : ∀ n, (∀ (w1 : Int64) (w3 : Int64) (x5 : Int32) (S : rS) (h0 : aH) (zz : Int32 × rS), rm h0 S → l_149 g n 0 w1 w3 x5 S = some zz → aWp X d 149 10 [some (.ref 382), some (.long w1), none, some (.long w3), none, some (.int x5)] [] h0 (fun w h' => w = some (.int zz.1) ∧ rTo h0 zz.2 h')) ∧ (∀ (w1 : Int64) (w3 : Int64) (x5 : Int32) (S : rS) (h0 : aH) (zz : Int32 × rS), rm h0 S → l_149 g n 1 w1 w3 x5 S = some zz → aWp X d 149 50 [some (.ref 382), some (.long w1), none, some (.long w3), none, some (.int x5)] [] h0 (fun w h' => w = some (.int zz.1) ∧ rTo h0 zz.2 h')) := by
  intro n
  induction n with
  | zero => exact ⟨fun _ _ _ _ _ _ _ hd => by simp [l_149] at hd, fun _ _ _ _ _ _ _ hd => by simp [l_149] at hd⟩
  | succ n ih =>
    refine ⟨?_, ?_⟩
    · intro w1 w3 x5 S h0 zz HS hd
      unfold l_149 at hd
      rw [if_pos rfl] at hd
      have HH := rTo.rf HS
      obtain ⟨e, rfl⟩ : ∃ e, d = e + 1 := ⟨d - 1, by omega⟩
      refine wp_s 11 [some (.ref 382), some (.long w1), none, some (.long w3), none, some (.int x5)] [.ref 382] h0 i_149_10 rfl ?_
      refine wp_s 12 [some (.ref 382), some (.long w1), none, some (.long w3), none, some (.int x5)] [.ref 382, .ref 382] h0 i_149_11 rfl ?_
      refine wp_get (v := .int (S.1 8)) 15 rfl i_149_12 (HH.1 0 (by decide)) rfl ?_
      refine wp_s 17 [some (.ref 382), some (.long w1), none, some (.long w3), none, some (.int x5)] [.int x5, .int (S.1 8), .ref 382] h0 i_149_15 rfl ?_
      refine wp_s 18 [some (.ref 382), some (.long w1), none, some (.long w3), none, some (.int x5)] [.int ((S.1 8) + x5), .ref 382] h0 i_149_17 rfl ?_
      obtain ⟨z_1, q_2, hd⟩ := dk_bind hd
      refine wp_callV 21 rfl i_149_18 (by decide) rfl (vs := [.int ((S.1 8) + x5)]) (rest := []) rfl rfl rfl (HH.1 0 (by decide)) (y := m_148) rfl (Nat.le_of_ble_eq_true rfl) (d_148_ok (d := e) (by omega) HH.1 q_2) ?_
      rintro v_5 h_3 ⟨rfl, H_4⟩
      have H_4 := HH.tr H_4
      refine wp_if_eq 56 24 rfl rfl i_149_21 (fun c_6 => ?_) (fun c_6 => ?_)
      · rw [if_pos c_6] at hd
        refine wp_s 58 [some (.ref 382), some (.long w1), none, some (.long w3), none, some (.int x5)] [.int x5] h_3 i_149_56 rfl ?_
        refine wp_if_le 78 61 rfl rfl i_149_58 (fun c_7 => ?_) (fun c_7 => ?_)
        · rw [if_pos c_7] at hd
          refine wp_s 79 [some (.ref 382), some (.long w1), none, some (.long w3), none, some (.int x5)] [.int (0 : Int32)] h_3 i_149_78 rfl ?_
          obtain rfl := Option.some.inj hd
          exact wp_iretZ (z := 0) i_149_79 (by decide) ⟨rfl, H_4⟩
        · rw [if_neg c_7] at hd
          refine wp_s 63 [some (.ref 382), some (.long w1), none, some (.long w3), none, some (.int x5)] [.int x5] h_3 i_149_61 rfl ?_
          refine wp_s 65 [some (.ref 382), some (.long w1), none, some (.long w3), none, some (.int x5)] [.int (8 : Int32), .int x5] h_3 i_149_63 rfl ?_
          refine wp_cmp_ge 78 68 rfl rfl i_149_65 (fun c_8 => ?_) (fun c_8 => ?_)
          · rw [if_pos c_8] at hd
            refine wp_s 79 [some (.ref 382), some (.long w1), none, some (.long w3), none, some (.int x5)] [.int (0 : Int32)] h_3 i_149_78 rfl ?_
            obtain rfl := Option.some.inj hd
            exact wp_iretZ (z := 0) i_149_79 (by decide) ⟨rfl, H_4⟩
          · rw [if_neg c_8] at hd
            refine wp_s 69 [some (.ref 382), some (.long w1), none, some (.long w3), none, some (.int x5)] [.long w3] h_3 i_149_68 rfl ?_
            refine wp_s 70 [some (.ref 382), some (.long w1), none, some (.long w3), none, some (.int x5)] [.long w1, .long w3] h_3 i_149_69 rfl ?_
            refine wp_s 71 [some (.ref 382), some (.long w1), none, some (.long w3), none, some (.int x5)] [.int (lg_cmp w3 w1)] h_3 i_149_70 rfl ?_
            refine wp_if_ne 78 74 rfl rfl i_149_71 (fun c_9 => ?_) (fun c_9 => ?_)
            · rw [if_pos c_9] at hd
              refine wp_s 79 [some (.ref 382), some (.long w1), none, some (.long w3), none, some (.int x5)] [.int (0 : Int32)] h_3 i_149_78 rfl ?_
              obtain rfl := Option.some.inj hd
              exact wp_iretZ (z := 0) i_149_79 (by decide) ⟨rfl, H_4⟩
            · rw [if_neg c_9] at hd
              refine wp_s 75 [some (.ref 382), some (.long w1), none, some (.long w3), none, some (.int x5)] [.int (1 : Int32)] h_3 i_149_74 rfl ?_
              refine wp_s 79 [some (.ref 382), some (.long w1), none, some (.long w3), none, some (.int x5)] [.int (1 : Int32)] h_3 i_149_75 rfl ?_
              obtain rfl := Option.some.inj hd
              exact wp_iretZ (z := 0) i_149_79 (by decide) ⟨rfl, H_4⟩
      · rw [if_neg c_6] at hd
        refine wp_s 26 [some (.ref 382), some (.long w1), none, some (.long w3), none, some (.int x5)] [.int x5] h_3 i_149_24 rfl ?_
        refine wp_s 28 [some (.ref 382), some (.long w1), none, some (.long w3), none, some (.int x5)] [.int (8 : Int32), .int x5] h_3 i_149_26 rfl ?_
        refine wp_cmp_ge 50 31 rfl rfl i_149_28 (fun c_10 => ?_) (fun c_10 => ?_)
        · rw [if_pos c_10] at hd
          exact aWp.post (aWp.forget (ih.2 _ _ _ _ _ _ H_4.1 hd) ((lvS (lvS (lvN (lvS (lvN (lvS lvE)))))))) (fun _ _ hq => ⟨hq.1, H_4.tr hq.2⟩)
        · rw [if_neg c_10] at hd
          refine wp_s 32 [some (.ref 382), some (.long w1), none, some (.long w3), none, some (.int x5)] [.long w3] h_3 i_149_31 rfl ?_
          refine wp_s 34 [some (.ref 382), some (.long w1), none, some (.long w3), none, some (.int x5)] [.int (8 : Int32), .long w3] h_3 i_149_32 rfl ?_
          refine wp_s 35 [some (.ref 382), some (.long w1), none, some (.long w3), none, some (.int x5)] [.long (w3 <<< ((8 : Int32).toInt64 &&& 63))] h_3 i_149_34 rfl ?_
          refine wp_s 36 [some (.ref 382), some (.long w1), none, some (.long w3), none, some (.int x5)] [.ref 382, .long (w3 <<< ((8 : Int32).toInt64 &&& 63))] h_3 i_149_35 rfl ?_
          refine wp_get (v := .ref 383) 39 rfl i_149_36 (H_4.1 0 (by decide)) rfl ?_
          refine wp_s 40 [some (.ref 382), some (.long w1), none, some (.long w3), none, some (.int x5)] [.ref 382, .ref 383, .long (w3 <<< ((8 : Int32).toInt64 &&& 63))] h_3 i_149_39 rfl ?_
          refine wp_get (v := .int (z_1.2.1 8)) 43 rfl i_149_40 (H_4.1 0 (by decide)) rfl ?_
          refine wp_s 45 [some (.ref 382), some (.long w1), none, some (.long w3), none, some (.int x5)] [.int x5, .int (z_1.2.1 8), .ref 383, .long (w3 <<< ((8 : Int32).toInt64 &&& 63))] h_3 i_149_43 rfl ?_
          refine wp_s 46 [some (.ref 382), some (.long w1), none, some (.long w3), none, some (.int x5)] [.int ((z_1.2.1 8) + x5), .ref 383, .long (w3 <<< ((8 : Int32).toInt64 &&& 63))] h_3 i_149_45 rfl ?_
          obtain ⟨b_11, hd⟩ := dk_if hd
          refine wp_bald (f := (z_1.2.2.1 0)) 47 rfl i_149_46 (Or.inl rfl) (H_4.1 1 (by decide)) b_11 ?_
          refine wp_s 48 [some (.ref 382), some (.long w1), none, some (.long w3), none, some (.int x5)] [.long (((z_1.2.2.1 0) ((z_1.2.1 8) + x5).toNatClampNeg).toInt64), .long (w3 <<< ((8 : Int32).toInt64 &&& 63))] h_3 i_149_47 rfl ?_
          refine wp_s 49 [some (.ref 382), some (.long w1), none, some (.long w3), none, some (.int x5)] [.long ((w3 <<< ((8 : Int32).toInt64 &&& 63)) ||| (((z_1.2.2.1 0) ((z_1.2.1 8) + x5).toNatClampNeg).toInt64))] h_3 i_149_48 rfl ?_
          refine wp_s 50 [some (.ref 382), some (.long w1), none, some (.long ((w3 <<< ((8 : Int32).toInt64 &&& 63)) ||| (((z_1.2.2.1 0) ((z_1.2.1 8) + x5).toNatClampNeg).toInt64))), none, some (.int x5)] [] h_3 i_149_49 rfl ?_
          exact aWp.post (aWp.forget (ih.2 _ _ _ _ _ _ H_4.1 hd) ((lvS (lvS (lvN (lvS (lvN (lvS lvE)))))))) (fun _ _ hq => ⟨hq.1, H_4.tr hq.2⟩)
    · intro w1 w3 x5 S h0 zz HS hd
      unfold l_149 at hd
      rw [if_neg (by decide), if_pos rfl] at hd
      have HH := rTo.rf HS
      obtain ⟨e, rfl⟩ : ∃ e, d = e + 1 := ⟨d - 1, by omega⟩
      refine wp_s 53 [some (.ref 382), some (.long w1), none, some (.long w3), none, some (.int (x5 + (1 : Int32)))] [] h0 i_149_50 rfl ?_
      refine wp_s 10 [some (.ref 382), some (.long w1), none, some (.long w3), none, some (.int (x5 + (1 : Int32)))] [] h0 i_149_53 rfl ?_
      exact aWp.post (aWp.forget (ih.1 _ _ _ _ _ _ HH.1 hd) ((lvS (lvS (lvN (lvS (lvN (lvS lvE)))))))) (fun _ _ hq => ⟨hq.1, HH.tr hq.2⟩)
def d_149 (g : Nat) (w1 : Int64) (S : rS) : Option (Int32 × rS) := ((d_146 g  S).bind (fun z_1001 => (l_149 g g 0 w1 (0 : Int64) (0 : Int32) z_1001.2)))
set_option maxHeartbeats 4000000 in
set_option maxRecDepth 100000 in
theorem d_149_ok {X : aX} {g d : Nat} {w1 : Int64} {S : rS} {h0 : aH} {zz : Int32 × rS} (hdp : 1 ≤ d) (HS : rm h0 S) (hd : d_149 g w1 S = some zz) : aWp X d 149 0 (aEntL [.ref 382, .long w1] 6) [] h0 (fun w h' => w = some (.int zz.1) ∧ rTo h0 zz.2 h') := by
  unfold d_149 at hd
  have HH := rTo.rf HS
  refine wp_lv (l2 := [some (.ref 382), some (.long w1), none, none, none, none]) rfl ?_
  obtain ⟨e, rfl⟩ : ∃ e, d = e + 1 := ⟨d - 1, by omega⟩
  refine wp_s 1 [some (.ref 382), some (.long w1), none, none, none, none] [.ref 382] h0 i_149_0 rfl ?_
  obtain ⟨z_1001, q_1002, hd⟩ := dk_bind hd
  refine wp_callV 4 rfl i_149_1 (by decide) rfl (vs := []) (rest := []) rfl rfl rfl (HH.1 0 (by decide)) (y := m_146) rfl (Nat.le_of_ble_eq_true rfl) (d_146_ok (d := e) (by omega) HH.1 q_1002) ?_
  rintro v_1005 h_1003 ⟨rfl, H_1004⟩
  have H_1004 := HH.tr H_1004
  refine wp_s 5 [some (.ref 382), some (.long w1), none, none, none, none] [] h_1003 i_149_4 rfl ?_
  refine wp_s 6 [some (.ref 382), some (.long w1), none, none, none, none] [.long (0 : Int64)] h_1003 i_149_5 rfl ?_
  refine wp_s 7 [some (.ref 382), some (.long w1), none, some (.long (0 : Int64)), none, none] [] h_1003 i_149_6 rfl ?_
  refine wp_s 8 [some (.ref 382), some (.long w1), none, some (.long (0 : Int64)), none, none] [.int (0 : Int32)] h_1003 i_149_7 rfl ?_
  refine wp_s 10 [some (.ref 382), some (.long w1), none, some (.long (0 : Int64)), none, some (.int (0 : Int32))] [] h_1003 i_149_8 rfl ?_
  exact aWp.post (aWp.forget ((l_149_ok hdp g).1 _ _ _ _ _ _ H_1004.1 hd) ((lvS (lvS (lvN (lvS (lvN (lvS lvE)))))))) (fun _ _ hq => ⟨hq.1, H_1004.tr hq.2⟩)
def l_150 (g n tag : Nat)  (S : rS) : Option (rS) := match n with
  | 0 => none
  | n + 1 => if tag = 0 then ((d_148 g (S.1 8) S).bind (fun z_1 => (if z_1.1 = 0 then some z_1.2 else (l_150 g n 0  (rF z_1.2 8 ((z_1.2.1 8) + (1 : Int32))))))) else none
set_option maxHeartbeats 4000000 in
set_option maxRecDepth 100000 in
theorem l_150_ok {X : aX} {g d : Nat} (hdp : 1 ≤ d) : ∀ n, (∀  (S : rS) (h0 : aH) (zz : rS), rm h0 S → l_150 g n 0  S = some zz → aWp X d 150 0 [some (.ref 382)] [] h0 (fun w h' => w = none ∧ rTo h0 zz h')) := by
  intro n
  induction n with
  | zero => exact fun _ _ _ _ hd => by simp [l_150] at hd
  | succ n ih =>
    intro  S h0 zz HS hd
    unfold l_150 at hd
    rw [if_pos rfl] at hd
    have HH := rTo.rf HS
    obtain ⟨e, rfl⟩ : ∃ e, d = e + 1 := ⟨d - 1, by omega⟩
    refine wp_s 1 [some (.ref 382)] [.ref 382] h0 i_150_0 rfl ?_
    refine wp_s 2 [some (.ref 382)] [.ref 382, .ref 382] h0 i_150_1 rfl ?_
    refine wp_get (v := .int (S.1 8)) 5 rfl i_150_2 (HH.1 0 (by decide)) rfl ?_
    obtain ⟨z_1, q_2, hd⟩ := dk_bind hd
    refine wp_callV 8 rfl i_150_5 (by decide) rfl (vs := [.int (S.1 8)]) (rest := []) rfl rfl rfl (HH.1 0 (by decide)) (y := m_148) rfl (Nat.le_of_ble_eq_true rfl) (d_148_ok (d := e) (by omega) HH.1 q_2) ?_
    rintro v_5 h_3 ⟨rfl, H_4⟩
    have H_4 := HH.tr H_4
    refine wp_if_eq 24 11 rfl rfl i_150_8 (fun c_6 => ?_) (fun c_6 => ?_)
    · rw [if_pos c_6] at hd
      obtain rfl := Option.some.inj hd
      exact wp_ret i_150_24 rfl ⟨rfl, H_4⟩
    · rw [if_neg c_6] at hd
      refine wp_s 12 [some (.ref 382)] [.ref 382] h_3 i_150_11 rfl ?_
      refine wp_s 13 [some (.ref 382)] [.ref 382, .ref 382] h_3 i_150_12 rfl ?_
      refine wp_get (v := .int (z_1.2.1 8)) 16 rfl i_150_13 (H_4.1 0 (by decide)) rfl ?_
      refine wp_s 17 [some (.ref 382)] [.int (1 : Int32), .int (z_1.2.1 8), .ref 382] h_3 i_150_16 rfl ?_
      refine wp_s 18 [some (.ref 382)] [.int ((z_1.2.1 8) + (1 : Int32)), .ref 382] h_3 i_150_17 rfl ?_
      refine rq_F8 21 rfl i_150_18 H_4 (fun h_7 H_8 => ?_)
      refine wp_s 0 [some (.ref 382)] [] h_7 i_150_21 rfl ?_
      exact aWp.post (aWp.forget (ih _ _ _ H_8.1 hd) ((lvS lvE))) (fun _ _ hq => ⟨hq.1, H_8.tr hq.2⟩)
def d_150 (g : Nat)  (S : rS) : Option (rS) := (l_150 g g 0  S)
set_option maxHeartbeats 4000000 in
set_option maxRecDepth 100000 in
theorem d_150_ok {X : aX} {g d : Nat}  {S : rS} {h0 : aH} {zz : rS} (hdp : 1 ≤ d) (HS : rm h0 S) (hd : d_150 g  S = some zz) : aWp X d 150 0 (aEntL [.ref 382] 1) [] h0 (fun w h' => w = none ∧ rTo h0 zz h') := by
  unfold d_150 at hd
  have HH := rTo.rf HS
  refine wp_lv (l2 := [some (.ref 382)]) rfl ?_
  obtain ⟨e, rfl⟩ : ∃ e, d = e + 1 := ⟨d - 1, by omega⟩
  exact aWp.post (aWp.forget ((l_150_ok hdp g) _ _ _ HH.1 hd) ((lvS lvE))) (fun _ _ hq => ⟨hq.1, HH.tr hq.2⟩)
def d_151 (g : Nat) (w1 : Int64) (S : rS) : Option (Int32 × rS) := ((d_149 g w1 S).bind (fun z_1 => (if ¬ z_1.1 = 0 then ((d_150 g  z_1.2).bind (fun z_7 => some ((1 : Int32), z_7))) else some ((0 : Int32), z_1.2))))
set_option maxHeartbeats 4000000 in
set_option maxRecDepth 100000 in
theorem d_151_ok {X : aX} {g d : Nat} {w1 : Int64} {S : rS} {h0 : aH} {zz : Int32 × rS} (hdp : 2 ≤ d) (HS : rm h0 S) (hd : d_151 g w1 S = some zz) : aWp X d 151 0 (aEntL [.ref 382, .long w1] 3) [] h0 (fun w h' => w = some (.int zz.1) ∧ rTo h0 zz.2 h') := by
  unfold d_151 at hd
  have HH := rTo.rf HS
  refine wp_lv (l2 := [some (.ref 382), some (.long w1), none]) rfl ?_
  obtain ⟨e, rfl⟩ : ∃ e, d = e + 1 := ⟨d - 1, by omega⟩
  refine wp_s 1 [some (.ref 382), some (.long w1), none] [.ref 382] h0 i_151_0 rfl ?_
  refine wp_s 2 [some (.ref 382), some (.long w1), none] [.long w1, .ref 382] h0 i_151_1 rfl ?_
  obtain ⟨z_1, q_2, hd⟩ := dk_bind hd
  refine wp_callV 5 rfl i_151_2 (by decide) rfl (vs := [.long w1]) (rest := []) rfl rfl rfl (HH.1 0 (by decide)) (y := m_149) rfl (Nat.le_of_ble_eq_true rfl) (d_149_ok (d := e) (by omega) HH.1 q_2) ?_
  rintro v_5 h_3 ⟨rfl, H_4⟩
  have H_4 := HH.tr H_4
  refine wp_if_ne 10 8 rfl rfl i_151_5 (fun c_6 => ?_) (fun c_6 => ?_)
  · rw [if_pos c_6] at hd
    refine wp_s 11 [some (.ref 382), some (.long w1), none] [.ref 382] h_3 i_151_10 rfl ?_
    obtain ⟨z_7, q_8, hd⟩ := dk_bind hd
    refine wp_callV 14 rfl i_151_11 (by decide) rfl (vs := []) (rest := []) rfl rfl rfl (H_4.1 0 (by decide)) (y := m_150) rfl (Nat.le_of_ble_eq_true rfl) (d_150_ok (d := e) (by omega) H_4.1 q_8) ?_
    rintro v_11 h_9 ⟨rfl, H_10⟩
    have H_10 := H_4.tr H_10
    refine wp_s 15 [some (.ref 382), some (.long w1), none] [.int (1 : Int32)] h_9 i_151_14 rfl ?_
    obtain rfl := Option.some.inj hd
    exact wp_iretZ (z := 0) i_151_15 (by decide) ⟨rfl, H_10⟩
  · rw [if_neg c_6] at hd
    refine wp_s 9 [some (.ref 382), some (.long w1), none] [.int (0 : Int32)] h_3 i_151_8 rfl ?_
    obtain rfl := Option.some.inj hd
    exact wp_iretZ (z := 0) i_151_9 (by decide) ⟨rfl, H_4⟩
def l_152 (g n tag : Nat) (x1 : Int32) (x2 : Int32) (x3 : Int32) (x4 : Int32) (S : rS) : Option (Int32 × rS) := match n with
  | 0 => none
  | n + 1 => if tag = 0 then ((d_147 g (S.1 8) S).bind (fun z_1 => (if z_1.1 = 0 then (if (5 : Int32) < ((z_1.2.1 8) - x3) then (l_152 g n 2 x1 x2 x3 x4 (rF z_1.2 10 x4)) else ((d_140 g (x4.toInt64) (x1.toInt64) (x2.toInt64) (rF z_1.2 10 x4)).bind (fun z_10 => (if ¬ z_10.1 = 0 then (l_152 g n 3 x1 x2 x3 x4 z_10.2) else (l_152 g n 2 x1 x2 x3 x4 z_10.2))))) else (if (5 : Int32) ≤ ((z_1.2.1 8) - x3) then (l_152 g n 1 x1 x2 x3 x4 z_1.2) else (if aIn (z_1.2.1 8) 400 = true then (l_152 g n 1 x1 x2 x3 ((((10 : Int32) * x4) + ((z_1.2.2.1 0) (z_1.2.1 8).toNatClampNeg)) - (48 : Int32)) z_1.2) else none))))) else if tag = 1 then (l_152 g n 0 x1 x2 x3 x4 (rF S 8 ((S.1 8) + (1 : Int32)))) else if tag = 2 then ((d_145 g (1 : Int32) x3 S).bind (fun z_20 => (if z_20.1 = 0 then some ((0 : Int32), z_20.2) else (l_152 g n 3 x1 x2 x3 x4 z_20.2)))) else if tag = 3 then some ((1 : Int32), S) else none
set_option maxHeartbeats 4000000 in
set_option maxRecDepth 100000 in
theorem l_152_ok {X : aX} {g d : Nat} (hdp : 1 ≤ d) : ∀ n, (∀ (x1 : Int32) (x2 : Int32) (x3 : Int32) (x4 : Int32) (S : rS) (h0 : aH) (zz : Int32 × rS), rm h0 S → l_152 g n 0 x1 x2 x3 x4 S = some zz → aWp X d 152 34 [some (.ref 382), some (.int x1), some (.int x2), some (.int x3), some (.int x4)] [] h0 (fun w h' => w = some (.int zz.1) ∧ rTo h0 zz.2 h')) ∧ (∀ (x1 : Int32) (x2 : Int32) (x3 : Int32) (x4 : Int32) (S : rS) (h0 : aH) (zz : Int32 × rS), rm h0 S → l_152 g n 1 x1 x2 x3 x4 S = some zz → aWp X d 152 75 [some (.ref 382), some (.int x1), some (.int x2), some (.int x3), some (.int x4)] [] h0 (fun w h' => w = some (.int zz.1) ∧ rTo h0 zz.2 h')) ∧ (∀ (x1 : Int32) (x2 : Int32) (x3 : Int32) (x4 : Int32) (S : rS) (h0 : aH) (zz : Int32 × rS), rm h0 S → l_152 g n 2 x1 x2 x3 x4 S = some zz → aWp X d 152 117 [some (.ref 382), some (.int x1), some (.int x2), some (.int x3), some (.int x4)] [] h0 (fun w h' => w = some (.int zz.1) ∧ rTo h0 zz.2 h')) ∧ (∀ (x1 : Int32) (x2 : Int32) (x3 : Int32) (x4 : Int32) (S : rS) (h0 : aH) (zz : Int32 × rS), rm h0 S → l_152 g n 3 x1 x2 x3 x4 S = some zz → aWp X d 152 126 [some (.ref 382), some (.int x1), some (.int x2), some (.int x3), some (.int x4)] [] h0 (fun w h' => w = some (.int zz.1) ∧ rTo h0 zz.2 h')) := by
  intro n
  induction n with
  | zero => exact ⟨fun _ _ _ _ _ _ _ _ hd => by simp [l_152] at hd, fun _ _ _ _ _ _ _ _ hd => by simp [l_152] at hd, fun _ _ _ _ _ _ _ _ hd => by simp [l_152] at hd, fun _ _ _ _ _ _ _ _ hd => by simp [l_152] at hd⟩
  | succ n ih =>
    refine ⟨?_, ?_, ?_, ?_⟩
    · intro x1 x2 x3 x4 S h0 zz HS hd
      unfold l_152 at hd
      rw [if_pos rfl] at hd
      have HH := rTo.rf HS
      obtain ⟨e, rfl⟩ : ∃ e, d = e + 1 := ⟨d - 1, by omega⟩
      refine wp_s 35 [some (.ref 382), some (.int x1), some (.int x2), some (.int x3), some (.int x4)] [.ref 382] h0 i_152_34 rfl ?_
      refine wp_s 36 [some (.ref 382), some (.int x1), some (.int x2), some (.int x3), some (.int x4)] [.ref 382, .ref 382] h0 i_152_35 rfl ?_
      refine wp_get (v := .int (S.1 8)) 39 rfl i_152_36 (HH.1 0 (by decide)) rfl ?_
      obtain ⟨z_1, q_2, hd⟩ := dk_bind hd
      refine wp_callV 42 rfl i_152_39 (by decide) rfl (vs := [.int (S.1 8)]) (rest := []) rfl rfl rfl (HH.1 0 (by decide)) (y := m_147) rfl (Nat.le_of_ble_eq_true rfl) (d_147_ok (d := e) (by omega) HH.1 q_2) ?_
      rintro v_5 h_3 ⟨rfl, H_4⟩
      have H_4 := HH.tr H_4
      refine wp_if_eq 88 45 rfl rfl i_152_42 (fun c_6 => ?_) (fun c_6 => ?_)
      · rw [if_pos c_6] at hd
        refine wp_s 89 [some (.ref 382), some (.int x1), some (.int x2), some (.int x3), some (.int x4)] [.ref 382] h_3 i_152_88 rfl ?_
        refine wp_s 91 [some (.ref 382), some (.int x1), some (.int x2), some (.int x3), some (.int x4)] [.int x4, .ref 382] h_3 i_152_89 rfl ?_
        refine rq_F10 94 rfl i_152_91 H_4 (fun h_7 H_8 => ?_)
        refine wp_s 95 [some (.ref 382), some (.int x1), some (.int x2), some (.int x3), some (.int x4)] [.ref 382] h_7 i_152_94 rfl ?_
        refine wp_get (v := .int (z_1.2.1 8)) 98 rfl i_152_95 (H_8.1 0 (by decide)) rfl ?_
        refine wp_s 99 [some (.ref 382), some (.int x1), some (.int x2), some (.int x3), some (.int x4)] [.int x3, .int (z_1.2.1 8)] h_7 i_152_98 rfl ?_
        refine wp_s 100 [some (.ref 382), some (.int x1), some (.int x2), some (.int x3), some (.int x4)] [.int ((z_1.2.1 8) - x3)] h_7 i_152_99 rfl ?_
        refine wp_s 101 [some (.ref 382), some (.int x1), some (.int x2), some (.int x3), some (.int x4)] [.int (5 : Int32), .int ((z_1.2.1 8) - x3)] h_7 i_152_100 rfl ?_
        refine wp_cmp_gt 117 104 rfl rfl i_152_101 (fun c_9 => ?_) (fun c_9 => ?_)
        · rw [if_pos c_9] at hd
          exact aWp.post (aWp.forget (ih.2.2.1 _ _ _ _ _ _ _ H_8.1 hd) ((lvS (lvS (lvS (lvS (lvS lvE))))))) (fun _ _ hq => ⟨hq.1, H_8.tr hq.2⟩)
        · rw [if_neg c_9] at hd
          refine wp_s 106 [some (.ref 382), some (.int x1), some (.int x2), some (.int x3), some (.int x4)] [.int x4] h_7 i_152_104 rfl ?_
          refine wp_s 107 [some (.ref 382), some (.int x1), some (.int x2), some (.int x3), some (.int x4)] [.long (x4.toInt64)] h_7 i_152_106 rfl ?_
          refine wp_s 108 [some (.ref 382), some (.int x1), some (.int x2), some (.int x3), some (.int x4)] [.int x1, .long (x4.toInt64)] h_7 i_152_107 rfl ?_
          refine wp_s 109 [some (.ref 382), some (.int x1), some (.int x2), some (.int x3), some (.int x4)] [.long (x1.toInt64), .long (x4.toInt64)] h_7 i_152_108 rfl ?_
          refine wp_s 110 [some (.ref 382), some (.int x1), some (.int x2), some (.int x3), some (.int x4)] [.int x2, .long (x1.toInt64), .long (x4.toInt64)] h_7 i_152_109 rfl ?_
          refine wp_s 111 [some (.ref 382), some (.int x1), some (.int x2), some (.int x3), some (.int x4)] [.long (x2.toInt64), .long (x1.toInt64), .long (x4.toInt64)] h_7 i_152_110 rfl ?_
          obtain ⟨z_10, q_11, hd⟩ := dk_bind hd
          refine wp_callS 114 rfl i_152_111 (by decide) (vs := [.long (x4.toInt64), .long (x1.toInt64), .long (x2.toInt64)]) (rest := []) rfl rfl rfl (y := m_140) rfl (Nat.le_of_ble_eq_true rfl) (d_140_ok (d := e) (by omega) H_8.1 q_11) ?_
          rintro v_14 h_12 ⟨rfl, H_13⟩
          have H_13 := H_8.tr H_13
          refine wp_if_ne 126 117 rfl rfl i_152_114 (fun c_15 => ?_) (fun c_15 => ?_)
          · rw [if_pos c_15] at hd
            exact aWp.post (aWp.forget (ih.2.2.2 _ _ _ _ _ _ _ H_13.1 hd) ((lvS (lvS (lvS (lvS (lvS lvE))))))) (fun _ _ hq => ⟨hq.1, H_13.tr hq.2⟩)
          · rw [if_neg c_15] at hd
            exact aWp.post (aWp.forget (ih.2.2.1 _ _ _ _ _ _ _ H_13.1 hd) ((lvS (lvS (lvS (lvS (lvS lvE))))))) (fun _ _ hq => ⟨hq.1, H_13.tr hq.2⟩)
      · rw [if_neg c_6] at hd
        refine wp_s 46 [some (.ref 382), some (.int x1), some (.int x2), some (.int x3), some (.int x4)] [.ref 382] h_3 i_152_45 rfl ?_
        refine wp_get (v := .int (z_1.2.1 8)) 49 rfl i_152_46 (H_4.1 0 (by decide)) rfl ?_
        refine wp_s 50 [some (.ref 382), some (.int x1), some (.int x2), some (.int x3), some (.int x4)] [.int x3, .int (z_1.2.1 8)] h_3 i_152_49 rfl ?_
        refine wp_s 51 [some (.ref 382), some (.int x1), some (.int x2), some (.int x3), some (.int x4)] [.int ((z_1.2.1 8) - x3)] h_3 i_152_50 rfl ?_
        refine wp_s 52 [some (.ref 382), some (.int x1), some (.int x2), some (.int x3), some (.int x4)] [.int (5 : Int32), .int ((z_1.2.1 8) - x3)] h_3 i_152_51 rfl ?_
        refine wp_cmp_ge 75 55 rfl rfl i_152_52 (fun c_16 => ?_) (fun c_16 => ?_)
        · rw [if_pos c_16] at hd
          exact aWp.post (aWp.forget (ih.2.1 _ _ _ _ _ _ _ H_4.1 hd) ((lvS (lvS (lvS (lvS (lvS lvE))))))) (fun _ _ hq => ⟨hq.1, H_4.tr hq.2⟩)
        · rw [if_neg c_16] at hd
          refine wp_s 57 [some (.ref 382), some (.int x1), some (.int x2), some (.int x3), some (.int x4)] [.int (10 : Int32)] h_3 i_152_55 rfl ?_
          refine wp_s 59 [some (.ref 382), some (.int x1), some (.int x2), some (.int x3), some (.int x4)] [.int x4, .int (10 : Int32)] h_3 i_152_57 rfl ?_
          refine wp_s 60 [some (.ref 382), some (.int x1), some (.int x2), some (.int x3), some (.int x4)] [.int ((10 : Int32) * x4)] h_3 i_152_59 rfl ?_
          refine wp_s 61 [some (.ref 382), some (.int x1), some (.int x2), some (.int x3), some (.int x4)] [.ref 382, .int ((10 : Int32) * x4)] h_3 i_152_60 rfl ?_
          refine wp_get (v := .ref 383) 64 rfl i_152_61 (H_4.1 0 (by decide)) rfl ?_
          refine wp_s 65 [some (.ref 382), some (.int x1), some (.int x2), some (.int x3), some (.int x4)] [.ref 382, .ref 383, .int ((10 : Int32) * x4)] h_3 i_152_64 rfl ?_
          refine wp_get (v := .int (z_1.2.1 8)) 68 rfl i_152_65 (H_4.1 0 (by decide)) rfl ?_
          obtain ⟨b_17, hd⟩ := dk_if hd
          refine wp_bald (f := (z_1.2.2.1 0)) 69 rfl i_152_68 (Or.inl rfl) (H_4.1 1 (by decide)) b_17 ?_
          refine wp_s 70 [some (.ref 382), some (.int x1), some (.int x2), some (.int x3), some (.int x4)] [.int (((10 : Int32) * x4) + ((z_1.2.2.1 0) (z_1.2.1 8).toNatClampNeg))] h_3 i_152_69 rfl ?_
          refine wp_s 72 [some (.ref 382), some (.int x1), some (.int x2), some (.int x3), some (.int x4)] [.int (48 : Int32), .int (((10 : Int32) * x4) + ((z_1.2.2.1 0) (z_1.2.1 8).toNatClampNeg))] h_3 i_152_70 rfl ?_
          refine wp_s 73 [some (.ref 382), some (.int x1), some (.int x2), some (.int x3), some (.int x4)] [.int ((((10 : Int32) * x4) + ((z_1.2.2.1 0) (z_1.2.1 8).toNatClampNeg)) - (48 : Int32))] h_3 i_152_72 rfl ?_
          refine wp_s 75 [some (.ref 382), some (.int x1), some (.int x2), some (.int x3), some (.int ((((10 : Int32) * x4) + ((z_1.2.2.1 0) (z_1.2.1 8).toNatClampNeg)) - (48 : Int32)))] [] h_3 i_152_73 rfl ?_
          exact aWp.post (aWp.forget (ih.2.1 _ _ _ _ _ _ _ H_4.1 hd) ((lvS (lvS (lvS (lvS (lvS lvE))))))) (fun _ _ hq => ⟨hq.1, H_4.tr hq.2⟩)
    · intro x1 x2 x3 x4 S h0 zz HS hd
      unfold l_152 at hd
      rw [if_neg (by decide), if_pos rfl] at hd
      have HH := rTo.rf HS
      obtain ⟨e, rfl⟩ : ∃ e, d = e + 1 := ⟨d - 1, by omega⟩
      refine wp_s 76 [some (.ref 382), some (.int x1), some (.int x2), some (.int x3), some (.int x4)] [.ref 382] h0 i_152_75 rfl ?_
      refine wp_s 77 [some (.ref 382), some (.int x1), some (.int x2), some (.int x3), some (.int x4)] [.ref 382, .ref 382] h0 i_152_76 rfl ?_
      refine wp_get (v := .int (S.1 8)) 80 rfl i_152_77 (HH.1 0 (by decide)) rfl ?_
      refine wp_s 81 [some (.ref 382), some (.int x1), some (.int x2), some (.int x3), some (.int x4)] [.int (1 : Int32), .int (S.1 8), .ref 382] h0 i_152_80 rfl ?_
      refine wp_s 82 [some (.ref 382), some (.int x1), some (.int x2), some (.int x3), some (.int x4)] [.int ((S.1 8) + (1 : Int32)), .ref 382] h0 i_152_81 rfl ?_
      refine rq_F8 85 rfl i_152_82 HH (fun h_18 H_19 => ?_)
      refine wp_s 34 [some (.ref 382), some (.int x1), some (.int x2), some (.int x3), some (.int x4)] [] h_18 i_152_85 rfl ?_
      exact aWp.post (aWp.forget (ih.1 _ _ _ _ _ _ _ H_19.1 hd) ((lvS (lvS (lvS (lvS (lvS lvE))))))) (fun _ _ hq => ⟨hq.1, H_19.tr hq.2⟩)
    · intro x1 x2 x3 x4 S h0 zz HS hd
      unfold l_152 at hd
      rw [if_neg (by decide), if_neg (by decide), if_pos rfl] at hd
      have HH := rTo.rf HS
      obtain ⟨e, rfl⟩ : ∃ e, d = e + 1 := ⟨d - 1, by omega⟩
      refine wp_s 118 [some (.ref 382), some (.int x1), some (.int x2), some (.int x3), some (.int x4)] [.ref 382] h0 i_152_117 rfl ?_
      refine wp_s 119 [some (.ref 382), some (.int x1), some (.int x2), some (.int x3), some (.int x4)] [.int (1 : Int32), .ref 382] h0 i_152_118 rfl ?_
      refine wp_s 120 [some (.ref 382), some (.int x1), some (.int x2), some (.int x3), some (.int x4)] [.int x3, .int (1 : Int32), .ref 382] h0 i_152_119 rfl ?_
      obtain ⟨z_20, q_21, hd⟩ := dk_bind hd
      refine wp_callV 123 rfl i_152_120 (by decide) rfl (vs := [.int (1 : Int32), .int x3]) (rest := []) rfl rfl rfl (HH.1 0 (by decide)) (y := m_145) rfl (Nat.le_of_ble_eq_true rfl) (d_145_ok (d := e) (by omega) HH.1 q_21) ?_
      rintro v_24 h_22 ⟨rfl, H_23⟩
      have H_23 := HH.tr H_23
      refine wp_if_eq 130 126 rfl rfl i_152_123 (fun c_25 => ?_) (fun c_25 => ?_)
      · rw [if_pos c_25] at hd
        refine wp_s 131 [some (.ref 382), some (.int x1), some (.int x2), some (.int x3), some (.int x4)] [.int (0 : Int32)] h_22 i_152_130 rfl ?_
        obtain rfl := Option.some.inj hd
        exact wp_iretZ (z := 0) i_152_131 (by decide) ⟨rfl, H_23⟩
      · rw [if_neg c_25] at hd
        exact aWp.post (aWp.forget (ih.2.2.2 _ _ _ _ _ _ _ H_23.1 hd) ((lvS (lvS (lvS (lvS (lvS lvE))))))) (fun _ _ hq => ⟨hq.1, H_23.tr hq.2⟩)
    · intro x1 x2 x3 x4 S h0 zz HS hd
      unfold l_152 at hd
      rw [if_neg (by decide), if_neg (by decide), if_neg (by decide), if_pos rfl] at hd
      have HH := rTo.rf HS
      obtain ⟨e, rfl⟩ : ∃ e, d = e + 1 := ⟨d - 1, by omega⟩
      refine wp_s 127 [some (.ref 382), some (.int x1), some (.int x2), some (.int x3), some (.int x4)] [.int (1 : Int32)] h0 i_152_126 rfl ?_
      refine wp_s 131 [some (.ref 382), some (.int x1), some (.int x2), some (.int x3), some (.int x4)] [.int (1 : Int32)] h0 i_152_127 rfl ?_
      obtain rfl := Option.some.inj hd
      exact wp_iretZ (z := 0) i_152_131 (by decide) ⟨rfl, HH⟩
def d_152 (g : Nat) (x1 : Int32) (x2 : Int32) (S : rS) : Option (Int32 × rS) := ((d_146 g  S).bind (fun z_1001 => ((d_147 g (z_1001.2.1 8) z_1001.2).bind (fun z_1006 => (if ¬ z_1006.1 = 0 then (l_152 g g 0 x1 x2 (z_1006.2.1 8) (0 : Int32) z_1006.2) else ((d_145 g (0 : Int32) (z_1006.2.1 8) z_1006.2).bind (fun z_1012 => (if z_1012.1 = 0 ∨ z_1012.1 = 1 then some (z_1012.1, z_1012.2) else none))))))))
set_option maxHeartbeats 4000000 in
set_option maxRecDepth 100000 in
theorem d_152_ok {X : aX} {g d : Nat} {x1 : Int32} {x2 : Int32} {S : rS} {h0 : aH} {zz : Int32 × rS} (hdp : 1 ≤ d) (HS : rm h0 S) (hd : d_152 g x1 x2 S = some zz) : aWp X d 152 0 (aEntL [.ref 382, .int x1, .int x2] 5) [] h0 (fun w h' => w = some (.int zz.1) ∧ rTo h0 zz.2 h') := by
  unfold d_152 at hd
  have HH := rTo.rf HS
  refine wp_lv (l2 := [some (.ref 382), some (.int x1), some (.int x2), none, none]) rfl ?_
  obtain ⟨e, rfl⟩ : ∃ e, d = e + 1 := ⟨d - 1, by omega⟩
  refine wp_s 1 [some (.ref 382), some (.int x1), some (.int x2), none, none] [.ref 382] h0 i_152_0 rfl ?_
  obtain ⟨z_1001, q_1002, hd⟩ := dk_bind hd
  refine wp_callV 4 rfl i_152_1 (by decide) rfl (vs := []) (rest := []) rfl rfl rfl (HH.1 0 (by decide)) (y := m_146) rfl (Nat.le_of_ble_eq_true rfl) (d_146_ok (d := e) (by omega) HH.1 q_1002) ?_
  rintro v_1005 h_1003 ⟨rfl, H_1004⟩
  have H_1004 := HH.tr H_1004
  refine wp_s 5 [some (.ref 382), some (.int x1), some (.int x2), none, none] [] h_1003 i_152_4 rfl ?_
  refine wp_s 6 [some (.ref 382), some (.int x1), some (.int x2), none, none] [.ref 382] h_1003 i_152_5 rfl ?_
  refine wp_s 7 [some (.ref 382), some (.int x1), some (.int x2), none, none] [.ref 382, .ref 382] h_1003 i_152_6 rfl ?_
  refine wp_get (v := .int (z_1001.2.1 8)) 10 rfl i_152_7 (H_1004.1 0 (by decide)) rfl ?_
  obtain ⟨z_1006, q_1007, hd⟩ := dk_bind hd
  refine wp_callV 13 rfl i_152_10 (by decide) rfl (vs := [.int (z_1001.2.1 8)]) (rest := []) rfl rfl rfl (H_1004.1 0 (by decide)) (y := m_147) rfl (Nat.le_of_ble_eq_true rfl) (d_147_ok (d := e) (by omega) H_1004.1 q_1007) ?_
  rintro v_1010 h_1008 ⟨rfl, H_1009⟩
  have H_1009 := H_1004.tr H_1009
  refine wp_if_ne 26 16 rfl rfl i_152_13 (fun c_1011 => ?_) (fun c_1011 => ?_)
  · rw [if_pos c_1011] at hd
    refine wp_s 27 [some (.ref 382), some (.int x1), some (.int x2), none, none] [.ref 382] h_1008 i_152_26 rfl ?_
    refine wp_get (v := .int (z_1006.2.1 8)) 30 rfl i_152_27 (H_1009.1 0 (by decide)) rfl ?_
    refine wp_s 31 [some (.ref 382), some (.int x1), some (.int x2), some (.int (z_1006.2.1 8)), none] [] h_1008 i_152_30 rfl ?_
    refine wp_s 32 [some (.ref 382), some (.int x1), some (.int x2), some (.int (z_1006.2.1 8)), none] [.int (0 : Int32)] h_1008 i_152_31 rfl ?_
    refine wp_s 34 [some (.ref 382), some (.int x1), some (.int x2), some (.int (z_1006.2.1 8)), some (.int (0 : Int32))] [] h_1008 i_152_32 rfl ?_
    exact aWp.post (aWp.forget ((l_152_ok hdp g).1 _ _ _ _ _ _ _ H_1009.1 hd) ((lvS (lvS (lvS (lvS (lvS lvE))))))) (fun _ _ hq => ⟨hq.1, H_1009.tr hq.2⟩)
  · rw [if_neg c_1011] at hd
    refine wp_s 17 [some (.ref 382), some (.int x1), some (.int x2), none, none] [.ref 382] h_1008 i_152_16 rfl ?_
    refine wp_s 18 [some (.ref 382), some (.int x1), some (.int x2), none, none] [.int (0 : Int32), .ref 382] h_1008 i_152_17 rfl ?_
    refine wp_s 19 [some (.ref 382), some (.int x1), some (.int x2), none, none] [.ref 382, .int (0 : Int32), .ref 382] h_1008 i_152_18 rfl ?_
    refine wp_get (v := .int (z_1006.2.1 8)) 22 rfl i_152_19 (H_1009.1 0 (by decide)) rfl ?_
    obtain ⟨z_1012, q_1013, hd⟩ := dk_bind hd
    refine wp_callV 25 rfl i_152_22 (by decide) rfl (vs := [.int (0 : Int32), .int (z_1006.2.1 8)]) (rest := []) rfl rfl rfl (H_1009.1 0 (by decide)) (y := m_145) rfl (Nat.le_of_ble_eq_true rfl) (d_145_ok (d := e) (by omega) H_1009.1 q_1013) ?_
    rintro v_1016 h_1014 ⟨rfl, H_1015⟩
    have H_1015 := H_1009.tr H_1015
    obtain ⟨b_1017, hd⟩ := dk_if hd
    obtain rfl := Option.some.inj hd
    exact wp_iretZ (z := 0) i_152_25 b_1017 ⟨rfl, H_1015⟩
def d_153 (g : Nat)  (S : rS) : Option (Int32 × rS) := ((d_149 g (499967946343 : Int64) S).bind (fun z_1 => (if z_1.1 = 0 then ((d_149 g (1953459300 : Int64) z_1.2).bind (fun z_7 => (if z_7.1 = 0 then ((d_149 g (1935764581 : Int64) z_7.2).bind (fun z_13 => (if z_13.1 = 0 then ((d_149 g (6578553 : Int64) z_13.2).bind (fun z_19 => (if z_19.1 = 0 then ((d_149 g (465726040947 : Int64) z_19.2).bind (fun z_25 => (if z_25.1 = 0 then ((d_149 g (495874696043 : Int64) z_25.2).bind (fun z_31 => (if z_31.1 = 0 then ((d_149 g (108230850603124 : Int64) z_31.2).bind (fun z_37 => (if z_37.1 = 0 then ((d_149 g (512970880104 : Int64) z_37.2).bind (fun z_43 => (if z_43.1 = 0 then some ((-1 : Int32), z_43.2) else some ((7 : Int32), z_43.2)))) else some ((6 : Int32), z_37.2)))) else some ((5 : Int32), z_31.2)))) else some ((4 : Int32), z_25.2)))) else some ((3 : Int32), z_19.2)))) else some ((2 : Int32), z_13.2)))) else some ((1 : Int32), z_7.2)))) else some ((0 : Int32), z_1.2))))
set_option maxHeartbeats 4000000 in
set_option maxRecDepth 100000 in
theorem d_153_ok {X : aX} {g d : Nat}  {S : rS} {h0 : aH} {zz : Int32 × rS} (hdp : 2 ≤ d) (HS : rm h0 S) (hd : d_153 g  S = some zz) : aWp X d 153 0 (aEntL [.ref 382] 1) [] h0 (fun w h' => w = some (.int zz.1) ∧ rTo h0 zz.2 h') := by
  unfold d_153 at hd
  have HH := rTo.rf HS
  refine wp_lv (l2 := [some (.ref 382)]) rfl ?_
  obtain ⟨e, rfl⟩ : ∃ e, d = e + 1 := ⟨d - 1, by omega⟩
  refine wp_s 1 [some (.ref 382)] [.ref 382] h0 i_153_0 rfl ?_
  refine wp_s 4 [some (.ref 382)] [.long (499967946343 : Int64), .ref 382] h0 i_153_1 rfl ?_
  obtain ⟨z_1, q_2, hd⟩ := dk_bind hd
  refine wp_callV 7 rfl i_153_4 (by decide) rfl (vs := [.long (499967946343 : Int64)]) (rest := []) rfl rfl rfl (HH.1 0 (by decide)) (y := m_149) rfl (Nat.le_of_ble_eq_true rfl) (d_149_ok (d := e) (by omega) HH.1 q_2) ?_
  rintro v_5 h_3 ⟨rfl, H_4⟩
  have H_4 := HH.tr H_4
  refine wp_if_eq 12 10 rfl rfl i_153_7 (fun c_6 => ?_) (fun c_6 => ?_)
  · rw [if_pos c_6] at hd
    refine wp_s 13 [some (.ref 382)] [.ref 382] h_3 i_153_12 rfl ?_
    refine wp_s 16 [some (.ref 382)] [.long (1953459300 : Int64), .ref 382] h_3 i_153_13 rfl ?_
    obtain ⟨z_7, q_8, hd⟩ := dk_bind hd
    refine wp_callV 19 rfl i_153_16 (by decide) rfl (vs := [.long (1953459300 : Int64)]) (rest := []) rfl rfl rfl (H_4.1 0 (by decide)) (y := m_149) rfl (Nat.le_of_ble_eq_true rfl) (d_149_ok (d := e) (by omega) H_4.1 q_8) ?_
    rintro v_11 h_9 ⟨rfl, H_10⟩
    have H_10 := H_4.tr H_10
    refine wp_if_eq 24 22 rfl rfl i_153_19 (fun c_12 => ?_) (fun c_12 => ?_)
    · rw [if_pos c_12] at hd
      refine wp_s 25 [some (.ref 382)] [.ref 382] h_9 i_153_24 rfl ?_
      refine wp_s 28 [some (.ref 382)] [.long (1935764581 : Int64), .ref 382] h_9 i_153_25 rfl ?_
      obtain ⟨z_13, q_14, hd⟩ := dk_bind hd
      refine wp_callV 31 rfl i_153_28 (by decide) rfl (vs := [.long (1935764581 : Int64)]) (rest := []) rfl rfl rfl (H_10.1 0 (by decide)) (y := m_149) rfl (Nat.le_of_ble_eq_true rfl) (d_149_ok (d := e) (by omega) H_10.1 q_14) ?_
      rintro v_17 h_15 ⟨rfl, H_16⟩
      have H_16 := H_10.tr H_16
      refine wp_if_eq 36 34 rfl rfl i_153_31 (fun c_18 => ?_) (fun c_18 => ?_)
      · rw [if_pos c_18] at hd
        refine wp_s 37 [some (.ref 382)] [.ref 382] h_15 i_153_36 rfl ?_
        refine wp_s 40 [some (.ref 382)] [.long (6578553 : Int64), .ref 382] h_15 i_153_37 rfl ?_
        obtain ⟨z_19, q_20, hd⟩ := dk_bind hd
        refine wp_callV 43 rfl i_153_40 (by decide) rfl (vs := [.long (6578553 : Int64)]) (rest := []) rfl rfl rfl (H_16.1 0 (by decide)) (y := m_149) rfl (Nat.le_of_ble_eq_true rfl) (d_149_ok (d := e) (by omega) H_16.1 q_20) ?_
        rintro v_23 h_21 ⟨rfl, H_22⟩
        have H_22 := H_16.tr H_22
        refine wp_if_eq 48 46 rfl rfl i_153_43 (fun c_24 => ?_) (fun c_24 => ?_)
        · rw [if_pos c_24] at hd
          refine wp_s 49 [some (.ref 382)] [.ref 382] h_21 i_153_48 rfl ?_
          refine wp_s 52 [some (.ref 382)] [.long (465726040947 : Int64), .ref 382] h_21 i_153_49 rfl ?_
          obtain ⟨z_25, q_26, hd⟩ := dk_bind hd
          refine wp_callV 55 rfl i_153_52 (by decide) rfl (vs := [.long (465726040947 : Int64)]) (rest := []) rfl rfl rfl (H_22.1 0 (by decide)) (y := m_149) rfl (Nat.le_of_ble_eq_true rfl) (d_149_ok (d := e) (by omega) H_22.1 q_26) ?_
          rintro v_29 h_27 ⟨rfl, H_28⟩
          have H_28 := H_22.tr H_28
          refine wp_if_eq 60 58 rfl rfl i_153_55 (fun c_30 => ?_) (fun c_30 => ?_)
          · rw [if_pos c_30] at hd
            refine wp_s 61 [some (.ref 382)] [.ref 382] h_27 i_153_60 rfl ?_
            refine wp_s 64 [some (.ref 382)] [.long (495874696043 : Int64), .ref 382] h_27 i_153_61 rfl ?_
            obtain ⟨z_31, q_32, hd⟩ := dk_bind hd
            refine wp_callV 67 rfl i_153_64 (by decide) rfl (vs := [.long (495874696043 : Int64)]) (rest := []) rfl rfl rfl (H_28.1 0 (by decide)) (y := m_149) rfl (Nat.le_of_ble_eq_true rfl) (d_149_ok (d := e) (by omega) H_28.1 q_32) ?_
            rintro v_35 h_33 ⟨rfl, H_34⟩
            have H_34 := H_28.tr H_34
            refine wp_if_eq 72 70 rfl rfl i_153_67 (fun c_36 => ?_) (fun c_36 => ?_)
            · rw [if_pos c_36] at hd
              refine wp_s 73 [some (.ref 382)] [.ref 382] h_33 i_153_72 rfl ?_
              refine wp_s 76 [some (.ref 382)] [.long (108230850603124 : Int64), .ref 382] h_33 i_153_73 rfl ?_
              obtain ⟨z_37, q_38, hd⟩ := dk_bind hd
              refine wp_callV 79 rfl i_153_76 (by decide) rfl (vs := [.long (108230850603124 : Int64)]) (rest := []) rfl rfl rfl (H_34.1 0 (by decide)) (y := m_149) rfl (Nat.le_of_ble_eq_true rfl) (d_149_ok (d := e) (by omega) H_34.1 q_38) ?_
              rintro v_41 h_39 ⟨rfl, H_40⟩
              have H_40 := H_34.tr H_40
              refine wp_if_eq 87 82 rfl rfl i_153_79 (fun c_42 => ?_) (fun c_42 => ?_)
              · rw [if_pos c_42] at hd
                refine wp_s 88 [some (.ref 382)] [.ref 382] h_39 i_153_87 rfl ?_
                refine wp_s 91 [some (.ref 382)] [.long (512970880104 : Int64), .ref 382] h_39 i_153_88 rfl ?_
                obtain ⟨z_43, q_44, hd⟩ := dk_bind hd
                refine wp_callV 94 rfl i_153_91 (by decide) rfl (vs := [.long (512970880104 : Int64)]) (rest := []) rfl rfl rfl (H_40.1 0 (by decide)) (y := m_149) rfl (Nat.le_of_ble_eq_true rfl) (d_149_ok (d := e) (by omega) H_40.1 q_44) ?_
                rintro v_47 h_45 ⟨rfl, H_46⟩
                have H_46 := H_40.tr H_46
                refine wp_if_eq 102 97 rfl rfl i_153_94 (fun c_48 => ?_) (fun c_48 => ?_)
                · rw [if_pos c_48] at hd
                  refine wp_s 103 [some (.ref 382)] [.int (-1 : Int32)] h_45 i_153_102 rfl ?_
                  obtain rfl := Option.some.inj hd
                  exact wp_iret i_153_103 ⟨rfl, H_46⟩
                · rw [if_neg c_48] at hd
                  refine wp_s 99 [some (.ref 382)] [.int (7 : Int32)] h_45 i_153_97 rfl ?_
                  refine wp_s 103 [some (.ref 382)] [.int (7 : Int32)] h_45 i_153_99 rfl ?_
                  obtain rfl := Option.some.inj hd
                  exact wp_iret i_153_103 ⟨rfl, H_46⟩
              · rw [if_neg c_42] at hd
                refine wp_s 84 [some (.ref 382)] [.int (6 : Int32)] h_39 i_153_82 rfl ?_
                refine wp_s 103 [some (.ref 382)] [.int (6 : Int32)] h_39 i_153_84 rfl ?_
                obtain rfl := Option.some.inj hd
                exact wp_iret i_153_103 ⟨rfl, H_40⟩
            · rw [if_neg c_36] at hd
              refine wp_s 71 [some (.ref 382)] [.int (5 : Int32)] h_33 i_153_70 rfl ?_
              obtain rfl := Option.some.inj hd
              exact wp_iret i_153_71 ⟨rfl, H_34⟩
          · rw [if_neg c_30] at hd
            refine wp_s 59 [some (.ref 382)] [.int (4 : Int32)] h_27 i_153_58 rfl ?_
            obtain rfl := Option.some.inj hd
            exact wp_iret i_153_59 ⟨rfl, H_28⟩
        · rw [if_neg c_24] at hd
          refine wp_s 47 [some (.ref 382)] [.int (3 : Int32)] h_21 i_153_46 rfl ?_
          obtain rfl := Option.some.inj hd
          exact wp_iret i_153_47 ⟨rfl, H_22⟩
      · rw [if_neg c_18] at hd
        refine wp_s 35 [some (.ref 382)] [.int (2 : Int32)] h_15 i_153_34 rfl ?_
        obtain rfl := Option.some.inj hd
        exact wp_iret i_153_35 ⟨rfl, H_16⟩
    · rw [if_neg c_12] at hd
      refine wp_s 23 [some (.ref 382)] [.int (1 : Int32)] h_9 i_153_22 rfl ?_
      obtain rfl := Option.some.inj hd
      exact wp_iret i_153_23 ⟨rfl, H_10⟩
  · rw [if_neg c_6] at hd
    refine wp_s 11 [some (.ref 382)] [.int (0 : Int32)] h_3 i_153_10 rfl ?_
    obtain rfl := Option.some.inj hd
    exact wp_iret i_153_11 ⟨rfl, H_4⟩
def d_154 (g : Nat) (x1 : Int32) (x2 : Int32) (S : rS) : Option (rS) := (if aIn (S.1 11) 7 = true then (if aIn (((400 : Int32) * (S.1 11)) + ((S.2.1 4) (S.1 11).toNatClampNeg)) 2400 = true then (if aIn (S.1 11) 7 = true then (if aIn (S.1 11) 7 = true then some (rA (rA S 3 (upd (S.2.1 3) (((400 : Int32) * (S.1 11)) + ((S.2.1 4) (S.1 11).toNatClampNeg)).toNatClampNeg (x1 + ((16 : Int32) * x2)))) 4 (upd (S.2.1 4) (S.1 11).toNatClampNeg (((S.2.1 4) (S.1 11).toNatClampNeg) + (1 : Int32)))) else none) else none) else none) else none)
set_option maxHeartbeats 4000000 in
set_option maxRecDepth 100000 in
theorem d_154_ok {X : aX} {g d : Nat} {x1 : Int32} {x2 : Int32} {S : rS} {h0 : aH} {zz : rS} (hdp : 0 ≤ d) (HS : rm h0 S) (hd : d_154 g x1 x2 S = some zz) : aWp X d 154 0 (aEntL [.ref 382, .int x1, .int x2] 3) [] h0 (fun w h' => w = none ∧ rTo h0 zz h') := by
  unfold d_154 at hd
  have HH := rTo.rf HS
  refine wp_lv (l2 := [some (.ref 382), some (.int x1), some (.int x2)]) rfl ?_
  refine wp_s 1 [some (.ref 382), some (.int x1), some (.int x2)] [.ref 382] h0 i_154_0 rfl ?_
  refine wp_get (v := .ref 384) 4 rfl i_154_1 (HH.1 0 (by decide)) rfl ?_
  refine wp_s 7 [some (.ref 382), some (.int x1), some (.int x2)] [.int (400 : Int32), .ref 384] h0 i_154_4 rfl ?_
  refine wp_s 8 [some (.ref 382), some (.int x1), some (.int x2)] [.ref 382, .int (400 : Int32), .ref 384] h0 i_154_7 rfl ?_
  refine wp_get (v := .int (S.1 11)) 11 rfl i_154_8 (HH.1 0 (by decide)) rfl ?_
  refine wp_s 12 [some (.ref 382), some (.int x1), some (.int x2)] [.int ((400 : Int32) * (S.1 11)), .ref 384] h0 i_154_11 rfl ?_
  refine wp_s 13 [some (.ref 382), some (.int x1), some (.int x2)] [.ref 382, .int ((400 : Int32) * (S.1 11)), .ref 384] h0 i_154_12 rfl ?_
  refine wp_get (v := .ref 385) 16 rfl i_154_13 (HH.1 0 (by decide)) rfl ?_
  refine wp_s 17 [some (.ref 382), some (.int x1), some (.int x2)] [.ref 382, .ref 385, .int ((400 : Int32) * (S.1 11)), .ref 384] h0 i_154_16 rfl ?_
  refine wp_get (v := .int (S.1 11)) 20 rfl i_154_17 (HH.1 0 (by decide)) rfl ?_
  obtain ⟨b_1, hd⟩ := dk_if hd
  refine wp_iald (f := (S.2.1 4)) 21 rfl i_154_20 (HH.1 3 (by decide)) b_1 ?_
  refine wp_s 22 [some (.ref 382), some (.int x1), some (.int x2)] [.int (((400 : Int32) * (S.1 11)) + ((S.2.1 4) (S.1 11).toNatClampNeg)), .ref 384] h0 i_154_21 rfl ?_
  refine wp_s 23 [some (.ref 382), some (.int x1), some (.int x2)] [.int x1, .int (((400 : Int32) * (S.1 11)) + ((S.2.1 4) (S.1 11).toNatClampNeg)), .ref 384] h0 i_154_22 rfl ?_
  refine wp_s 25 [some (.ref 382), some (.int x1), some (.int x2)] [.int (16 : Int32), .int x1, .int (((400 : Int32) * (S.1 11)) + ((S.2.1 4) (S.1 11).toNatClampNeg)), .ref 384] h0 i_154_23 rfl ?_
  refine wp_s 26 [some (.ref 382), some (.int x1), some (.int x2)] [.int x2, .int (16 : Int32), .int x1, .int (((400 : Int32) * (S.1 11)) + ((S.2.1 4) (S.1 11).toNatClampNeg)), .ref 384] h0 i_154_25 rfl ?_
  refine wp_s 27 [some (.ref 382), some (.int x1), some (.int x2)] [.int ((16 : Int32) * x2), .int x1, .int (((400 : Int32) * (S.1 11)) + ((S.2.1 4) (S.1 11).toNatClampNeg)), .ref 384] h0 i_154_26 rfl ?_
  refine wp_s 28 [some (.ref 382), some (.int x1), some (.int x2)] [.int (x1 + ((16 : Int32) * x2)), .int (((400 : Int32) * (S.1 11)) + ((S.2.1 4) (S.1 11).toNatClampNeg)), .ref 384] h0 i_154_27 rfl ?_
  obtain ⟨b_2, hd⟩ := dk_if hd
  refine rq_A3 29 rfl i_154_28 HH b_2 (fun h_3 H_4 => ?_)
  refine wp_s 30 [some (.ref 382), some (.int x1), some (.int x2)] [.ref 382] h_3 i_154_29 rfl ?_
  refine wp_get (v := .ref 385) 33 rfl i_154_30 (H_4.1 0 (by decide)) rfl ?_
  refine wp_s 34 [some (.ref 382), some (.int x1), some (.int x2)] [.ref 382, .ref 385] h_3 i_154_33 rfl ?_
  refine wp_get (v := .int (S.1 11)) 37 rfl i_154_34 (H_4.1 0 (by decide)) rfl ?_
  refine wp_s 38 [some (.ref 382), some (.int x1), some (.int x2)] [.int (S.1 11), .ref 385, .int (S.1 11), .ref 385] h_3 i_154_37 rfl ?_
  obtain ⟨b_5, hd⟩ := dk_if hd
  refine wp_iald (f := (S.2.1 4)) 39 rfl i_154_38 (H_4.1 3 (by decide)) b_5 ?_
  refine wp_s 40 [some (.ref 382), some (.int x1), some (.int x2)] [.int (1 : Int32), .int ((S.2.1 4) (S.1 11).toNatClampNeg), .int (S.1 11), .ref 385] h_3 i_154_39 rfl ?_
  refine wp_s 41 [some (.ref 382), some (.int x1), some (.int x2)] [.int (((S.2.1 4) (S.1 11).toNatClampNeg) + (1 : Int32)), .int (S.1 11), .ref 385] h_3 i_154_40 rfl ?_
  obtain ⟨b_6, hd⟩ := dk_if hd
  refine rq_A4 42 rfl i_154_41 H_4 b_6 (fun h_7 H_8 => ?_)
  obtain rfl := Option.some.inj hd
  exact wp_ret i_154_42 rfl ⟨rfl, H_8⟩
def d_155 (g : Nat) (x1 : Int32) (S : rS) : Option (Int32 × rS) := (if ¬ (S.1 12) = (60 : Int32) then some ((1 : Int32), (rF S 12 ((S.1 12) + (1 : Int32)))) else ((d_145 g (3 : Int32) x1 S).bind (fun z_4 => (if z_4.1 = 0 ∨ z_4.1 = 1 then some (z_4.1, z_4.2) else none))))
set_option maxHeartbeats 4000000 in
set_option maxRecDepth 100000 in
theorem d_155_ok {X : aX} {g d : Nat} {x1 : Int32} {S : rS} {h0 : aH} {zz : Int32 × rS} (hdp : 1 ≤ d) (HS : rm h0 S) (hd : d_155 g x1 S = some zz) : aWp X d 155 0 (aEntL [.ref 382, .int x1] 2) [] h0 (fun w h' => w = some (.int zz.1) ∧ rTo h0 zz.2 h') := by
  unfold d_155 at hd
  have HH := rTo.rf HS
  refine wp_lv (l2 := [some (.ref 382), some (.int x1)]) rfl ?_
  obtain ⟨e, rfl⟩ : ∃ e, d = e + 1 := ⟨d - 1, by omega⟩
  refine wp_s 1 [some (.ref 382), some (.int x1)] [.ref 382] h0 i_155_0 rfl ?_
  refine wp_get (v := .int (S.1 12)) 4 rfl i_155_1 (HH.1 0 (by decide)) rfl ?_
  refine wp_s 6 [some (.ref 382), some (.int x1)] [.int (60 : Int32), .int (S.1 12)] h0 i_155_4 rfl ?_
  refine wp_cmp_ne 16 9 rfl rfl i_155_6 (fun c_1 => ?_) (fun c_1 => ?_)
  · rw [if_pos c_1] at hd
    refine wp_s 17 [some (.ref 382), some (.int x1)] [.ref 382] h0 i_155_16 rfl ?_
    refine wp_s 18 [some (.ref 382), some (.int x1)] [.ref 382, .ref 382] h0 i_155_17 rfl ?_
    refine wp_get (v := .int (S.1 12)) 21 rfl i_155_18 (HH.1 0 (by decide)) rfl ?_
    refine wp_s 22 [some (.ref 382), some (.int x1)] [.int (1 : Int32), .int (S.1 12), .ref 382] h0 i_155_21 rfl ?_
    refine wp_s 23 [some (.ref 382), some (.int x1)] [.int ((S.1 12) + (1 : Int32)), .ref 382] h0 i_155_22 rfl ?_
    refine rq_F12 26 rfl i_155_23 HH (fun h_2 H_3 => ?_)
    refine wp_s 27 [some (.ref 382), some (.int x1)] [.int (1 : Int32)] h_2 i_155_26 rfl ?_
    obtain rfl := Option.some.inj hd
    exact wp_iretZ (z := 0) i_155_27 (by decide) ⟨rfl, H_3⟩
  · rw [if_neg c_1] at hd
    refine wp_s 10 [some (.ref 382), some (.int x1)] [.ref 382] h0 i_155_9 rfl ?_
    refine wp_s 11 [some (.ref 382), some (.int x1)] [.int (3 : Int32), .ref 382] h0 i_155_10 rfl ?_
    refine wp_s 12 [some (.ref 382), some (.int x1)] [.int x1, .int (3 : Int32), .ref 382] h0 i_155_11 rfl ?_
    obtain ⟨z_4, q_5, hd⟩ := dk_bind hd
    refine wp_callV 15 rfl i_155_12 (by decide) rfl (vs := [.int (3 : Int32), .int x1]) (rest := []) rfl rfl rfl (HH.1 0 (by decide)) (y := m_145) rfl (Nat.le_of_ble_eq_true rfl) (d_145_ok (d := e) (by omega) HH.1 q_5) ?_
    rintro v_8 h_6 ⟨rfl, H_7⟩
    have H_7 := HH.tr H_7
    obtain ⟨b_9, hd⟩ := dk_if hd
    obtain rfl := Option.some.inj hd
    exact wp_iretZ (z := 0) i_155_15 b_9 ⟨rfl, H_7⟩
def d_156 (g : Nat) (x1 : Int32) (S : rS) : Option (Int32 × rS) := (if ¬ (S.1 13) = (10 : Int32) then (if aIn (S.1 16) 400 = true then some ((1 : Int32), (rF (rA (rF S 13 ((S.1 13) + (1 : Int32))) 15 (upd (S.2.1 15) (S.1 16).toNatClampNeg x1)) 16 ((S.1 16) + (1 : Int32)))) else none) else ((d_145 g (2 : Int32) (S.1 8) S).bind (fun z_9 => (if z_9.1 = 0 ∨ z_9.1 = 1 then some (z_9.1, z_9.2) else none))))
set_option maxHeartbeats 4000000 in
set_option maxRecDepth 100000 in
theorem d_156_ok {X : aX} {g d : Nat} {x1 : Int32} {S : rS} {h0 : aH} {zz : Int32 × rS} (hdp : 1 ≤ d) (HS : rm h0 S) (hd : d_156 g x1 S = some zz) : aWp X d 156 0 (aEntL [.ref 382, .int x1] 2) [] h0 (fun w h' => w = some (.int zz.1) ∧ rTo h0 zz.2 h') := by
  unfold d_156 at hd
  have HH := rTo.rf HS
  refine wp_lv (l2 := [some (.ref 382), some (.int x1)]) rfl ?_
  obtain ⟨e, rfl⟩ : ∃ e, d = e + 1 := ⟨d - 1, by omega⟩
  refine wp_s 1 [some (.ref 382), some (.int x1)] [.ref 382] h0 i_156_0 rfl ?_
  refine wp_get (v := .int (S.1 13)) 4 rfl i_156_1 (HH.1 0 (by decide)) rfl ?_
  refine wp_s 6 [some (.ref 382), some (.int x1)] [.int (10 : Int32), .int (S.1 13)] h0 i_156_4 rfl ?_
  refine wp_cmp_ne 19 9 rfl rfl i_156_6 (fun c_1 => ?_) (fun c_1 => ?_)
  · rw [if_pos c_1] at hd
    refine wp_s 20 [some (.ref 382), some (.int x1)] [.ref 382] h0 i_156_19 rfl ?_
    refine wp_s 21 [some (.ref 382), some (.int x1)] [.ref 382, .ref 382] h0 i_156_20 rfl ?_
    refine wp_get (v := .int (S.1 13)) 24 rfl i_156_21 (HH.1 0 (by decide)) rfl ?_
    refine wp_s 25 [some (.ref 382), some (.int x1)] [.int (1 : Int32), .int (S.1 13), .ref 382] h0 i_156_24 rfl ?_
    refine wp_s 26 [some (.ref 382), some (.int x1)] [.int ((S.1 13) + (1 : Int32)), .ref 382] h0 i_156_25 rfl ?_
    refine rq_F13 29 rfl i_156_26 HH (fun h_2 H_3 => ?_)
    refine wp_s 30 [some (.ref 382), some (.int x1)] [.ref 382] h_2 i_156_29 rfl ?_
    refine wp_get (v := .ref 389) 33 rfl i_156_30 (H_3.1 0 (by decide)) rfl ?_
    refine wp_s 34 [some (.ref 382), some (.int x1)] [.ref 382, .ref 389] h_2 i_156_33 rfl ?_
    refine wp_get (v := .int (S.1 16)) 37 rfl i_156_34 (H_3.1 0 (by decide)) rfl ?_
    refine wp_s 38 [some (.ref 382), some (.int x1)] [.int x1, .int (S.1 16), .ref 389] h_2 i_156_37 rfl ?_
    obtain ⟨b_4, hd⟩ := dk_if hd
    refine rq_A15 39 rfl i_156_38 H_3 b_4 (fun h_5 H_6 => ?_)
    refine wp_s 40 [some (.ref 382), some (.int x1)] [.ref 382] h_5 i_156_39 rfl ?_
    refine wp_s 41 [some (.ref 382), some (.int x1)] [.ref 382, .ref 382] h_5 i_156_40 rfl ?_
    refine wp_get (v := .int (S.1 16)) 44 rfl i_156_41 (H_6.1 0 (by decide)) rfl ?_
    refine wp_s 45 [some (.ref 382), some (.int x1)] [.int (1 : Int32), .int (S.1 16), .ref 382] h_5 i_156_44 rfl ?_
    refine wp_s 46 [some (.ref 382), some (.int x1)] [.int ((S.1 16) + (1 : Int32)), .ref 382] h_5 i_156_45 rfl ?_
    refine rq_F16 49 rfl i_156_46 H_6 (fun h_7 H_8 => ?_)
    refine wp_s 50 [some (.ref 382), some (.int x1)] [.int (1 : Int32)] h_7 i_156_49 rfl ?_
    obtain rfl := Option.some.inj hd
    exact wp_iretZ (z := 0) i_156_50 (by decide) ⟨rfl, H_8⟩
  · rw [if_neg c_1] at hd
    refine wp_s 10 [some (.ref 382), some (.int x1)] [.ref 382] h0 i_156_9 rfl ?_
    refine wp_s 11 [some (.ref 382), some (.int x1)] [.int (2 : Int32), .ref 382] h0 i_156_10 rfl ?_
    refine wp_s 12 [some (.ref 382), some (.int x1)] [.ref 382, .int (2 : Int32), .ref 382] h0 i_156_11 rfl ?_
    refine wp_get (v := .int (S.1 8)) 15 rfl i_156_12 (HH.1 0 (by decide)) rfl ?_
    obtain ⟨z_9, q_10, hd⟩ := dk_bind hd
    refine wp_callV 18 rfl i_156_15 (by decide) rfl (vs := [.int (2 : Int32), .int (S.1 8)]) (rest := []) rfl rfl rfl (HH.1 0 (by decide)) (y := m_145) rfl (Nat.le_of_ble_eq_true rfl) (d_145_ok (d := e) (by omega) HH.1 q_10) ?_
    rintro v_13 h_11 ⟨rfl, H_12⟩
    have H_12 := HH.tr H_12
    obtain ⟨b_14, hd⟩ := dk_if hd
    obtain rfl := Option.some.inj hd
    exact wp_iretZ (z := 0) i_156_18 b_14 ⟨rfl, H_12⟩
def d_157 (g : Nat) (x0 : Int32) (S : rS) : Option (Int32 × rS) := (if ¬ x0 = (13 : Int32) then (if ¬ x0 = (12 : Int32) then (if ¬ x0 = (11 : Int32) then some ((0 : Int32), S) else some ((3 : Int32), S)) else some ((2 : Int32), S)) else some ((1 : Int32), S))
set_option maxHeartbeats 4000000 in
set_option maxRecDepth 100000 in
theorem d_157_ok {X : aX} {g d : Nat} {x0 : Int32} {S : rS} {h0 : aH} {zz : Int32 × rS} (hdp : 0 ≤ d) (HS : rm h0 S) (hd : d_157 g x0 S = some zz) : aWp X d 157 0 (aEntL [.int x0] 1) [] h0 (fun w h' => w = some (.int zz.1) ∧ rTo h0 zz.2 h') := by
  unfold d_157 at hd
  have HH := rTo.rf HS
  refine wp_lv (l2 := [some (.int x0)]) rfl ?_
  refine wp_s 1 [some (.int x0)] [.int x0] h0 i_157_0 rfl ?_
  refine wp_s 3 [some (.int x0)] [.int (13 : Int32), .int x0] h0 i_157_1 rfl ?_
  refine wp_cmp_ne 10 6 rfl rfl i_157_3 (fun c_1 => ?_) (fun c_1 => ?_)
  · rw [if_pos c_1] at hd
    refine wp_s 11 [some (.int x0)] [.int x0] h0 i_157_10 rfl ?_
    refine wp_s 13 [some (.int x0)] [.int (12 : Int32), .int x0] h0 i_157_11 rfl ?_
    refine wp_cmp_ne 20 16 rfl rfl i_157_13 (fun c_2 => ?_) (fun c_2 => ?_)
    · rw [if_pos c_2] at hd
      refine wp_s 21 [some (.int x0)] [.int x0] h0 i_157_20 rfl ?_
      refine wp_s 23 [some (.int x0)] [.int (11 : Int32), .int x0] h0 i_157_21 rfl ?_
      refine wp_cmp_ne 30 26 rfl rfl i_157_23 (fun c_3 => ?_) (fun c_3 => ?_)
      · rw [if_pos c_3] at hd
        refine wp_s 31 [some (.int x0)] [.int (0 : Int32)] h0 i_157_30 rfl ?_
        obtain rfl := Option.some.inj hd
        exact wp_iret i_157_31 ⟨rfl, HH⟩
      · rw [if_neg c_3] at hd
        refine wp_s 27 [some (.int x0)] [.int (3 : Int32)] h0 i_157_26 rfl ?_
        refine wp_s 31 [some (.int x0)] [.int (3 : Int32)] h0 i_157_27 rfl ?_
        obtain rfl := Option.some.inj hd
        exact wp_iret i_157_31 ⟨rfl, HH⟩
    · rw [if_neg c_2] at hd
      refine wp_s 17 [some (.int x0)] [.int (2 : Int32)] h0 i_157_16 rfl ?_
      refine wp_s 31 [some (.int x0)] [.int (2 : Int32)] h0 i_157_17 rfl ?_
      obtain rfl := Option.some.inj hd
      exact wp_iret i_157_31 ⟨rfl, HH⟩
  · rw [if_neg c_1] at hd
    refine wp_s 7 [some (.int x0)] [.int (1 : Int32)] h0 i_157_6 rfl ?_
    refine wp_s 31 [some (.int x0)] [.int (1 : Int32)] h0 i_157_7 rfl ?_
    obtain rfl := Option.some.inj hd
    exact wp_iret i_157_31 ⟨rfl, HH⟩
def l_158 (g n tag : Nat) (x1 : Int32) (S : rS) : Option (rS) := match n with
  | 0 => none
  | n + 1 => if tag = 0 then (if (S.1 16) ≤ 0 then some S else (if aIn ((S.1 16) - (1 : Int32)) 400 = true then ((d_157 g ((S.2.1 15) ((S.1 16) - (1 : Int32)).toNatClampNeg) S).bind (fun z_3 => (if z_3.1 < x1 then some z_3.2 else (if aIn ((z_3.2.1 16) - (1 : Int32)) 400 = true then ((d_154 g ((z_3.2.2.1 15) ((z_3.2.1 16) - (1 : Int32)).toNatClampNeg) (0 : Int32) (rF z_3.2 16 ((z_3.2.1 16) - (1 : Int32)))).bind (fun z_12 => (if aIn (z_12.1 16) 400 = true then (if ¬ ((z_12.2.1 15) (z_12.1 16).toNatClampNeg) = (11 : Int32) then (l_158 g n 0 x1 z_12) else (l_158 g n 0 x1 (rF z_12 13 ((z_12.1 13) - (1 : Int32))))) else none))) else none)))) else none)) else none
set_option maxHeartbeats 4000000 in
set_option maxRecDepth 100000 in
theorem l_158_ok {X : aX} {g d : Nat} (hdp : 1 ≤ d) : ∀ n, (∀ (x1 : Int32) (S : rS) (h0 : aH) (zz : rS), rm h0 S → l_158 g n 0 x1 S = some zz → aWp X d 158 0 [some (.ref 382), some (.int x1)] [] h0 (fun w h' => w = none ∧ rTo h0 zz h')) := by
  intro n
  induction n with
  | zero => exact fun _ _ _ _ _ hd => by simp [l_158] at hd
  | succ n ih =>
    intro x1 S h0 zz HS hd
    unfold l_158 at hd
    rw [if_pos rfl] at hd
    have HH := rTo.rf HS
    obtain ⟨e, rfl⟩ : ∃ e, d = e + 1 := ⟨d - 1, by omega⟩
    refine wp_s 1 [some (.ref 382), some (.int x1)] [.ref 382] h0 i_158_0 rfl ?_
    refine wp_get (v := .int (S.1 16)) 4 rfl i_158_1 (HH.1 0 (by decide)) rfl ?_
    refine wp_if_le 76 7 rfl rfl i_158_4 (fun c_1 => ?_) (fun c_1 => ?_)
    · rw [if_pos c_1] at hd
      obtain rfl := Option.some.inj hd
      exact wp_ret i_158_76 rfl ⟨rfl, HH⟩
    · rw [if_neg c_1] at hd
      refine wp_s 8 [some (.ref 382), some (.int x1)] [.ref 382] h0 i_158_7 rfl ?_
      refine wp_get (v := .ref 389) 11 rfl i_158_8 (HH.1 0 (by decide)) rfl ?_
      refine wp_s 12 [some (.ref 382), some (.int x1)] [.ref 382, .ref 389] h0 i_158_11 rfl ?_
      refine wp_get (v := .int (S.1 16)) 15 rfl i_158_12 (HH.1 0 (by decide)) rfl ?_
      refine wp_s 16 [some (.ref 382), some (.int x1)] [.int (1 : Int32), .int (S.1 16), .ref 389] h0 i_158_15 rfl ?_
      refine wp_s 17 [some (.ref 382), some (.int x1)] [.int ((S.1 16) - (1 : Int32)), .ref 389] h0 i_158_16 rfl ?_
      obtain ⟨b_2, hd⟩ := dk_if hd
      refine wp_iald (f := (S.2.1 15)) 18 rfl i_158_17 (HH.1 7 (by decide)) b_2 ?_
      obtain ⟨z_3, q_4, hd⟩ := dk_bind hd
      refine wp_callS 21 rfl i_158_18 (by decide) (vs := [.int ((S.2.1 15) ((S.1 16) - (1 : Int32)).toNatClampNeg)]) (rest := []) rfl rfl rfl (y := m_157) rfl (Nat.le_of_ble_eq_true rfl) (d_157_ok (d := e) (by omega) HH.1 q_4) ?_
      rintro v_7 h_5 ⟨rfl, H_6⟩
      have H_6 := HH.tr H_6
      refine wp_s 22 [some (.ref 382), some (.int x1)] [.int x1, .int z_3.1] h_5 i_158_21 rfl ?_
      refine wp_cmp_lt 76 25 rfl rfl i_158_22 (fun c_8 => ?_) (fun c_8 => ?_)
      · rw [if_pos c_8] at hd
        obtain rfl := Option.some.inj hd
        exact wp_ret i_158_76 rfl ⟨rfl, H_6⟩
      · rw [if_neg c_8] at hd
        refine wp_s 26 [some (.ref 382), some (.int x1)] [.ref 382] h_5 i_158_25 rfl ?_
        refine wp_s 27 [some (.ref 382), some (.int x1)] [.ref 382, .ref 382] h_5 i_158_26 rfl ?_
        refine wp_get (v := .int (z_3.2.1 16)) 30 rfl i_158_27 (H_6.1 0 (by decide)) rfl ?_
        refine wp_s 31 [some (.ref 382), some (.int x1)] [.int (1 : Int32), .int (z_3.2.1 16), .ref 382] h_5 i_158_30 rfl ?_
        refine wp_s 32 [some (.ref 382), some (.int x1)] [.int ((z_3.2.1 16) - (1 : Int32)), .ref 382] h_5 i_158_31 rfl ?_
        refine rq_F16 35 rfl i_158_32 H_6 (fun h_9 H_10 => ?_)
        refine wp_s 36 [some (.ref 382), some (.int x1)] [.ref 382] h_9 i_158_35 rfl ?_
        refine wp_s 37 [some (.ref 382), some (.int x1)] [.ref 382, .ref 382] h_9 i_158_36 rfl ?_
        refine wp_get (v := .ref 389) 40 rfl i_158_37 (H_10.1 0 (by decide)) rfl ?_
        refine wp_s 41 [some (.ref 382), some (.int x1)] [.ref 382, .ref 389, .ref 382] h_9 i_158_40 rfl ?_
        refine wp_get (v := .int ((z_3.2.1 16) - (1 : Int32))) 44 rfl i_158_41 (H_10.1 0 (by decide)) rfl ?_
        obtain ⟨b_11, hd⟩ := dk_if hd
        refine wp_iald (f := (z_3.2.2.1 15)) 45 rfl i_158_44 (H_10.1 7 (by decide)) b_11 ?_
        refine wp_s 46 [some (.ref 382), some (.int x1)] [.int (0 : Int32), .int ((z_3.2.2.1 15) ((z_3.2.1 16) - (1 : Int32)).toNatClampNeg), .ref 382] h_9 i_158_45 rfl ?_
        obtain ⟨z_12, q_13, hd⟩ := dk_bind hd
        refine wp_callV 49 rfl i_158_46 (by decide) rfl (vs := [.int ((z_3.2.2.1 15) ((z_3.2.1 16) - (1 : Int32)).toNatClampNeg), .int (0 : Int32)]) (rest := []) rfl rfl rfl (H_10.1 0 (by decide)) (y := m_154) rfl (Nat.le_of_ble_eq_true rfl) (d_154_ok (d := e) (by omega) H_10.1 q_13) ?_
        rintro v_16 h_14 ⟨rfl, H_15⟩
        have H_15 := H_10.tr H_15
        refine wp_s 50 [some (.ref 382), some (.int x1)] [.ref 382] h_14 i_158_49 rfl ?_
        refine wp_get (v := .ref 389) 53 rfl i_158_50 (H_15.1 0 (by decide)) rfl ?_
        refine wp_s 54 [some (.ref 382), some (.int x1)] [.ref 382, .ref 389] h_14 i_158_53 rfl ?_
        refine wp_get (v := .int (z_12.1 16)) 57 rfl i_158_54 (H_15.1 0 (by decide)) rfl ?_
        obtain ⟨b_17, hd⟩ := dk_if hd
        refine wp_iald (f := (z_12.2.1 15)) 58 rfl i_158_57 (H_15.1 7 (by decide)) b_17 ?_
        refine wp_s 60 [some (.ref 382), some (.int x1)] [.int (11 : Int32), .int ((z_12.2.1 15) (z_12.1 16).toNatClampNeg)] h_14 i_158_58 rfl ?_
        refine wp_cmp_ne 0 63 rfl rfl i_158_60 (fun c_18 => ?_) (fun c_18 => ?_)
        · rw [if_pos c_18] at hd
          exact aWp.post (aWp.forget (ih _ _ _ _ H_15.1 hd) ((lvS (lvS lvE)))) (fun _ _ hq => ⟨hq.1, H_15.tr hq.2⟩)
        · rw [if_neg c_18] at hd
          refine wp_s 64 [some (.ref 382), some (.int x1)] [.ref 382] h_14 i_158_63 rfl ?_
          refine wp_s 65 [some (.ref 382), some (.int x1)] [.ref 382, .ref 382] h_14 i_158_64 rfl ?_
          refine wp_get (v := .int (z_12.1 13)) 68 rfl i_158_65 (H_15.1 0 (by decide)) rfl ?_
          refine wp_s 69 [some (.ref 382), some (.int x1)] [.int (1 : Int32), .int (z_12.1 13), .ref 382] h_14 i_158_68 rfl ?_
          refine wp_s 70 [some (.ref 382), some (.int x1)] [.int ((z_12.1 13) - (1 : Int32)), .ref 382] h_14 i_158_69 rfl ?_
          refine rq_F13 73 rfl i_158_70 H_15 (fun h_19 H_20 => ?_)
          refine wp_s 0 [some (.ref 382), some (.int x1)] [] h_19 i_158_73 rfl ?_
          exact aWp.post (aWp.forget (ih _ _ _ _ H_20.1 hd) ((lvS (lvS lvE)))) (fun _ _ hq => ⟨hq.1, H_20.tr hq.2⟩)
def d_158 (g : Nat) (x1 : Int32) (S : rS) : Option (rS) := (l_158 g g 0 x1 S)
set_option maxHeartbeats 4000000 in
set_option maxRecDepth 100000 in
theorem d_158_ok {X : aX} {g d : Nat} {x1 : Int32} {S : rS} {h0 : aH} {zz : rS} (hdp : 1 ≤ d) (HS : rm h0 S) (hd : d_158 g x1 S = some zz) : aWp X d 158 0 (aEntL [.ref 382, .int x1] 2) [] h0 (fun w h' => w = none ∧ rTo h0 zz h') := by
  unfold d_158 at hd
  have HH := rTo.rf HS
  refine wp_lv (l2 := [some (.ref 382), some (.int x1)]) rfl ?_
  obtain ⟨e, rfl⟩ : ∃ e, d = e + 1 := ⟨d - 1, by omega⟩
  exact aWp.post (aWp.forget ((l_158_ok hdp g) _ _ _ _ HH.1 hd) ((lvS (lvS lvE)))) (fun _ _ hq => ⟨hq.1, HH.tr hq.2⟩)
def d_159 (g : Nat)  (S : rS) : Option (Int32 × rS) := ((d_146 g  S).bind (fun z_1 => ((d_147 g (z_1.2.1 8) z_1.2).bind (fun z_6 => (if z_6.1 = 0 then ((d_153 g  z_6.2).bind (fun z_12 => (if 0 ≤ z_12.1 then ((d_155 g (z_1.2.1 8) z_12.2).bind (fun z_18 => (if ¬ z_18.1 = 0 then ((d_150 g  z_18.2).bind (fun z_24 => ((d_154 g (1 : Int32) z_12.1 z_24).bind (fun z_29 => some ((1 : Int32), z_29))))) else some ((0 : Int32), z_18.2)))) else ((d_145 g (0 : Int32) (z_1.2.1 8) z_12.2).bind (fun z_34 => (if z_34.1 = 0 ∨ z_34.1 = 1 then some (z_34.1, z_34.2) else none)))))) else ((d_152 g (0 : Int32) (99999 : Int32) z_6.2).bind (fun z_40 => (if z_40.1 = 0 then some ((0 : Int32), z_40.2) else ((d_155 g (z_1.2.1 8) z_40.2).bind (fun z_46 => (if ¬ z_46.1 = 0 then ((d_154 g (0 : Int32) (z_46.2.1 10) z_46.2).bind (fun z_52 => some ((1 : Int32), z_52))) else some ((0 : Int32), z_46.2))))))))))))
set_option maxHeartbeats 4000000 in
set_option maxRecDepth 100000 in
theorem d_159_ok {X : aX} {g d : Nat}  {S : rS} {h0 : aH} {zz : Int32 × rS} (hdp : 3 ≤ d) (HS : rm h0 S) (hd : d_159 g  S = some zz) : aWp X d 159 0 (aEntL [.ref 382] 3) [] h0 (fun w h' => w = some (.int zz.1) ∧ rTo h0 zz.2 h') := by
  unfold d_159 at hd
  have HH := rTo.rf HS
  refine wp_lv (l2 := [some (.ref 382), none, none]) rfl ?_
  obtain ⟨e, rfl⟩ : ∃ e, d = e + 1 := ⟨d - 1, by omega⟩
  refine wp_s 1 [some (.ref 382), none, none] [.ref 382] h0 i_159_0 rfl ?_
  obtain ⟨z_1, q_2, hd⟩ := dk_bind hd
  refine wp_callV 4 rfl i_159_1 (by decide) rfl (vs := []) (rest := []) rfl rfl rfl (HH.1 0 (by decide)) (y := m_146) rfl (Nat.le_of_ble_eq_true rfl) (d_146_ok (d := e) (by omega) HH.1 q_2) ?_
  rintro v_5 h_3 ⟨rfl, H_4⟩
  have H_4 := HH.tr H_4
  refine wp_s 5 [some (.ref 382), none, none] [] h_3 i_159_4 rfl ?_
  refine wp_s 6 [some (.ref 382), none, none] [.ref 382] h_3 i_159_5 rfl ?_
  refine wp_get (v := .int (z_1.2.1 8)) 9 rfl i_159_6 (H_4.1 0 (by decide)) rfl ?_
  refine wp_s 10 [some (.ref 382), some (.int (z_1.2.1 8)), none] [] h_3 i_159_9 rfl ?_
  refine wp_s 11 [some (.ref 382), some (.int (z_1.2.1 8)), none] [.ref 382] h_3 i_159_10 rfl ?_
  refine wp_s 12 [some (.ref 382), some (.int (z_1.2.1 8)), none] [.ref 382, .ref 382] h_3 i_159_11 rfl ?_
  refine wp_get (v := .int (z_1.2.1 8)) 15 rfl i_159_12 (H_4.1 0 (by decide)) rfl ?_
  obtain ⟨z_6, q_7, hd⟩ := dk_bind hd
  refine wp_callV 18 rfl i_159_15 (by decide) rfl (vs := [.int (z_1.2.1 8)]) (rest := []) rfl rfl rfl (H_4.1 0 (by decide)) (y := m_147) rfl (Nat.le_of_ble_eq_true rfl) (d_147_ok (d := e) (by omega) H_4.1 q_7) ?_
  rintro v_10 h_8 ⟨rfl, H_9⟩
  have H_9 := H_4.tr H_9
  refine wp_if_eq 52 21 rfl rfl i_159_18 (fun c_11 => ?_) (fun c_11 => ?_)
  · rw [if_pos c_11] at hd
    refine wp_s 53 [some (.ref 382), some (.int (z_1.2.1 8)), none] [.ref 382] h_8 i_159_52 rfl ?_
    obtain ⟨z_12, q_13, hd⟩ := dk_bind hd
    refine wp_callV 56 rfl i_159_53 (by decide) rfl (vs := []) (rest := []) rfl rfl rfl (H_9.1 0 (by decide)) (y := m_153) rfl (Nat.le_of_ble_eq_true rfl) (d_153_ok (d := e) (by omega) H_9.1 q_13) ?_
    rintro v_16 h_14 ⟨rfl, H_15⟩
    have H_15 := H_9.tr H_15
    refine wp_s 57 [some (.ref 382), some (.int (z_1.2.1 8)), some (.int z_12.1)] [] h_14 i_159_56 rfl ?_
    refine wp_s 58 [some (.ref 382), some (.int (z_1.2.1 8)), some (.int z_12.1)] [.int z_12.1] h_14 i_159_57 rfl ?_
    refine wp_if_ge 68 61 rfl rfl i_159_58 (fun c_17 => ?_) (fun c_17 => ?_)
    · rw [if_pos c_17] at hd
      refine wp_s 69 [some (.ref 382), some (.int (z_1.2.1 8)), some (.int z_12.1)] [.ref 382] h_14 i_159_68 rfl ?_
      refine wp_s 70 [some (.ref 382), some (.int (z_1.2.1 8)), some (.int z_12.1)] [.int (z_1.2.1 8), .ref 382] h_14 i_159_69 rfl ?_
      obtain ⟨z_18, q_19, hd⟩ := dk_bind hd
      refine wp_callV 73 rfl i_159_70 (by decide) rfl (vs := [.int (z_1.2.1 8)]) (rest := []) rfl rfl rfl (H_15.1 0 (by decide)) (y := m_155) rfl (Nat.le_of_ble_eq_true rfl) (d_155_ok (d := e) (by omega) H_15.1 q_19) ?_
      rintro v_22 h_20 ⟨rfl, H_21⟩
      have H_21 := H_15.tr H_21
      refine wp_if_ne 78 76 rfl rfl i_159_73 (fun c_23 => ?_) (fun c_23 => ?_)
      · rw [if_pos c_23] at hd
        refine wp_s 79 [some (.ref 382), some (.int (z_1.2.1 8)), some (.int z_12.1)] [.ref 382] h_20 i_159_78 rfl ?_
        obtain ⟨z_24, q_25, hd⟩ := dk_bind hd
        refine wp_callV 82 rfl i_159_79 (by decide) rfl (vs := []) (rest := []) rfl rfl rfl (H_21.1 0 (by decide)) (y := m_150) rfl (Nat.le_of_ble_eq_true rfl) (d_150_ok (d := e) (by omega) H_21.1 q_25) ?_
        rintro v_28 h_26 ⟨rfl, H_27⟩
        have H_27 := H_21.tr H_27
        refine wp_s 83 [some (.ref 382), some (.int (z_1.2.1 8)), some (.int z_12.1)] [.ref 382] h_26 i_159_82 rfl ?_
        refine wp_s 84 [some (.ref 382), some (.int (z_1.2.1 8)), some (.int z_12.1)] [.int (1 : Int32), .ref 382] h_26 i_159_83 rfl ?_
        refine wp_s 85 [some (.ref 382), some (.int (z_1.2.1 8)), some (.int z_12.1)] [.int z_12.1, .int (1 : Int32), .ref 382] h_26 i_159_84 rfl ?_
        obtain ⟨z_29, q_30, hd⟩ := dk_bind hd
        refine wp_callV 88 rfl i_159_85 (by decide) rfl (vs := [.int (1 : Int32), .int z_12.1]) (rest := []) rfl rfl rfl (H_27.1 0 (by decide)) (y := m_154) rfl (Nat.le_of_ble_eq_true rfl) (d_154_ok (d := e) (by omega) H_27.1 q_30) ?_
        rintro v_33 h_31 ⟨rfl, H_32⟩
        have H_32 := H_27.tr H_32
        refine wp_s 89 [some (.ref 382), some (.int (z_1.2.1 8)), some (.int z_12.1)] [.int (1 : Int32)] h_31 i_159_88 rfl ?_
        obtain rfl := Option.some.inj hd
        exact wp_iretZ (z := 0) i_159_89 (by decide) ⟨rfl, H_32⟩
      · rw [if_neg c_23] at hd
        refine wp_s 77 [some (.ref 382), some (.int (z_1.2.1 8)), some (.int z_12.1)] [.int (0 : Int32)] h_20 i_159_76 rfl ?_
        obtain rfl := Option.some.inj hd
        exact wp_iretZ (z := 0) i_159_77 (by decide) ⟨rfl, H_21⟩
    · rw [if_neg c_17] at hd
      refine wp_s 62 [some (.ref 382), some (.int (z_1.2.1 8)), some (.int z_12.1)] [.ref 382] h_14 i_159_61 rfl ?_
      refine wp_s 63 [some (.ref 382), some (.int (z_1.2.1 8)), some (.int z_12.1)] [.int (0 : Int32), .ref 382] h_14 i_159_62 rfl ?_
      refine wp_s 64 [some (.ref 382), some (.int (z_1.2.1 8)), some (.int z_12.1)] [.int (z_1.2.1 8), .int (0 : Int32), .ref 382] h_14 i_159_63 rfl ?_
      obtain ⟨z_34, q_35, hd⟩ := dk_bind hd
      refine wp_callV 67 rfl i_159_64 (by decide) rfl (vs := [.int (0 : Int32), .int (z_1.2.1 8)]) (rest := []) rfl rfl rfl (H_15.1 0 (by decide)) (y := m_145) rfl (Nat.le_of_ble_eq_true rfl) (d_145_ok (d := e) (by omega) H_15.1 q_35) ?_
      rintro v_38 h_36 ⟨rfl, H_37⟩
      have H_37 := H_15.tr H_37
      obtain ⟨b_39, hd⟩ := dk_if hd
      obtain rfl := Option.some.inj hd
      exact wp_iretZ (z := 0) i_159_67 b_39 ⟨rfl, H_37⟩
  · rw [if_neg c_11] at hd
    refine wp_s 22 [some (.ref 382), some (.int (z_1.2.1 8)), none] [.ref 382] h_8 i_159_21 rfl ?_
    refine wp_s 23 [some (.ref 382), some (.int (z_1.2.1 8)), none] [.int (0 : Int32), .ref 382] h_8 i_159_22 rfl ?_
    refine wp_s 25 [some (.ref 382), some (.int (z_1.2.1 8)), none] [.int (99999 : Int32), .int (0 : Int32), .ref 382] h_8 i_159_23 rfl ?_
    obtain ⟨z_40, q_41, hd⟩ := dk_bind hd
    refine wp_callV 28 rfl i_159_25 (by decide) rfl (vs := [.int (0 : Int32), .int (99999 : Int32)]) (rest := []) rfl rfl rfl (H_9.1 0 (by decide)) (y := m_152) rfl (Nat.le_of_ble_eq_true rfl) (d_152_ok (d := e) (by omega) H_9.1 q_41) ?_
    rintro v_44 h_42 ⟨rfl, H_43⟩
    have H_43 := H_9.tr H_43
    refine wp_if_eq 39 31 rfl rfl i_159_28 (fun c_45 => ?_) (fun c_45 => ?_)
    · rw [if_pos c_45] at hd
      refine wp_s 40 [some (.ref 382), some (.int (z_1.2.1 8)), none] [.int (0 : Int32)] h_42 i_159_39 rfl ?_
      obtain rfl := Option.some.inj hd
      exact wp_iretZ (z := 0) i_159_40 (by decide) ⟨rfl, H_43⟩
    · rw [if_neg c_45] at hd
      refine wp_s 32 [some (.ref 382), some (.int (z_1.2.1 8)), none] [.ref 382] h_42 i_159_31 rfl ?_
      refine wp_s 33 [some (.ref 382), some (.int (z_1.2.1 8)), none] [.int (z_1.2.1 8), .ref 382] h_42 i_159_32 rfl ?_
      obtain ⟨z_46, q_47, hd⟩ := dk_bind hd
      refine wp_callV 36 rfl i_159_33 (by decide) rfl (vs := [.int (z_1.2.1 8)]) (rest := []) rfl rfl rfl (H_43.1 0 (by decide)) (y := m_155) rfl (Nat.le_of_ble_eq_true rfl) (d_155_ok (d := e) (by omega) H_43.1 q_47) ?_
      rintro v_50 h_48 ⟨rfl, H_49⟩
      have H_49 := H_43.tr H_49
      refine wp_if_ne 41 39 rfl rfl i_159_36 (fun c_51 => ?_) (fun c_51 => ?_)
      · rw [if_pos c_51] at hd
        refine wp_s 42 [some (.ref 382), some (.int (z_1.2.1 8)), none] [.ref 382] h_48 i_159_41 rfl ?_
        refine wp_s 43 [some (.ref 382), some (.int (z_1.2.1 8)), none] [.int (0 : Int32), .ref 382] h_48 i_159_42 rfl ?_
        refine wp_s 44 [some (.ref 382), some (.int (z_1.2.1 8)), none] [.ref 382, .int (0 : Int32), .ref 382] h_48 i_159_43 rfl ?_
        refine wp_get (v := .int (z_46.2.1 10)) 47 rfl i_159_44 (H_49.1 0 (by decide)) rfl ?_
        obtain ⟨z_52, q_53, hd⟩ := dk_bind hd
        refine wp_callV 50 rfl i_159_47 (by decide) rfl (vs := [.int (0 : Int32), .int (z_46.2.1 10)]) (rest := []) rfl rfl rfl (H_49.1 0 (by decide)) (y := m_154) rfl (Nat.le_of_ble_eq_true rfl) (d_154_ok (d := e) (by omega) H_49.1 q_53) ?_
        rintro v_56 h_54 ⟨rfl, H_55⟩
        have H_55 := H_49.tr H_55
        refine wp_s 51 [some (.ref 382), some (.int (z_1.2.1 8)), none] [.int (1 : Int32)] h_54 i_159_50 rfl ?_
        obtain rfl := Option.some.inj hd
        exact wp_iretZ (z := 0) i_159_51 (by decide) ⟨rfl, H_55⟩
      · rw [if_neg c_51] at hd
        refine wp_s 40 [some (.ref 382), some (.int (z_1.2.1 8)), none] [.int (0 : Int32)] h_48 i_159_39 rfl ?_
        obtain rfl := Option.some.inj hd
        exact wp_iretZ (z := 0) i_159_40 (by decide) ⟨rfl, H_49⟩
def l_160 (g n tag : Nat) (s0 : Int32) (S : rS) : Option (Int32 × rS) := match n with
  | 0 => none
  | n + 1 => if tag = 0 then ((d_146 g  S).bind (fun z_1 => (if z_1.1 = (42 : Int32) then (l_160 g n 1 0 z_1.2) else ((d_146 g  z_1.2).bind (fun z_7 => (if z_7.1 = (47 : Int32) then (l_160 g n 1 0 z_7.2) else ((d_146 g  z_7.2).bind (fun z_13 => (if ¬ z_13.1 = (37 : Int32) then some ((1 : Int32), z_13.2) else (l_160 g n 1 0 z_13.2)))))))))) else if tag = 1 then (if aIn (S.1 8) 400 = true then (if ¬ ((S.2.1 0) (S.1 8).toNatClampNeg) = (42 : Int32) then (if aIn (S.1 8) 400 = true then (if ¬ ((S.2.1 0) (S.1 8).toNatClampNeg) = (47 : Int32) then (l_160 g n 2 (14 : Int32) S) else (l_160 g n 2 (5 : Int32) S)) else none) else (l_160 g n 2 (4 : Int32) S)) else none) else if tag = 2 then ((d_159 g  (rF S 8 ((S.1 8) + (1 : Int32)))).bind (fun z_25 => (if ¬ z_25.1 = 0 then ((d_154 g s0 (0 : Int32) z_25.2).bind (fun z_31 => (l_160 g n 0 0 z_31))) else some ((0 : Int32), z_25.2)))) else none
set_option maxHeartbeats 4000000 in
set_option maxRecDepth 100000 in
theorem l_160_ok {X : aX} {g d : Nat} (hdp : 4 ≤ d) : ∀ n, (∀ (s0 : Int32) (S : rS) (h0 : aH) (zz : Int32 × rS), rm h0 S → l_160 g n 0 s0 S = some zz → aWp X d 160 9 [some (.ref 382), none] [] h0 (fun w h' => w = some (.int zz.1) ∧ rTo h0 zz.2 h')) ∧ (∀ (s0 : Int32) (S : rS) (h0 : aH) (zz : Int32 × rS), rm h0 S → l_160 g n 1 s0 S = some zz → aWp X d 160 36 [some (.ref 382), none] [] h0 (fun w h' => w = some (.int zz.1) ∧ rTo h0 zz.2 h')) ∧ (∀ (s0 : Int32) (S : rS) (h0 : aH) (zz : Int32 × rS), rm h0 S → l_160 g n 2 s0 S = some zz → aWp X d 160 74 [some (.ref 382), none] [.int s0] h0 (fun w h' => w = some (.int zz.1) ∧ rTo h0 zz.2 h')) := by
  intro n
  induction n with
  | zero => exact ⟨fun _ _ _ _ _ hd => by simp [l_160] at hd, fun _ _ _ _ _ hd => by simp [l_160] at hd, fun _ _ _ _ _ hd => by simp [l_160] at hd⟩
  | succ n ih =>
    refine ⟨?_, ?_, ?_⟩
    · intro s0 S h0 zz HS hd
      unfold l_160 at hd
      rw [if_pos rfl] at hd
      have HH := rTo.rf HS
      obtain ⟨e, rfl⟩ : ∃ e, d = e + 1 := ⟨d - 1, by omega⟩
      refine wp_s 10 [some (.ref 382), none] [.ref 382] h0 i_160_9 rfl ?_
      obtain ⟨z_1, q_2, hd⟩ := dk_bind hd
      refine wp_callV 13 rfl i_160_10 (by decide) rfl (vs := []) (rest := []) rfl rfl rfl (HH.1 0 (by decide)) (y := m_146) rfl (Nat.le_of_ble_eq_true rfl) (d_146_ok (d := e) (by omega) HH.1 q_2) ?_
      rintro v_5 h_3 ⟨rfl, H_4⟩
      have H_4 := HH.tr H_4
      refine wp_s 15 [some (.ref 382), none] [.int (42 : Int32), .int z_1.1] h_3 i_160_13 rfl ?_
      refine wp_cmp_eq 36 18 rfl rfl i_160_15 (fun c_6 => ?_) (fun c_6 => ?_)
      · rw [if_pos c_6] at hd
        exact aWp.post (aWp.forget (ih.2.1 _ _ _ _ H_4.1 hd) ((lvS (lvN lvE)))) (fun _ _ hq => ⟨hq.1, H_4.tr hq.2⟩)
      · rw [if_neg c_6] at hd
        refine wp_s 19 [some (.ref 382), none] [.ref 382] h_3 i_160_18 rfl ?_
        obtain ⟨z_7, q_8, hd⟩ := dk_bind hd
        refine wp_callV 22 rfl i_160_19 (by decide) rfl (vs := []) (rest := []) rfl rfl rfl (H_4.1 0 (by decide)) (y := m_146) rfl (Nat.le_of_ble_eq_true rfl) (d_146_ok (d := e) (by omega) H_4.1 q_8) ?_
        rintro v_11 h_9 ⟨rfl, H_10⟩
        have H_10 := H_4.tr H_10
        refine wp_s 24 [some (.ref 382), none] [.int (47 : Int32), .int z_7.1] h_9 i_160_22 rfl ?_
        refine wp_cmp_eq 36 27 rfl rfl i_160_24 (fun c_12 => ?_) (fun c_12 => ?_)
        · rw [if_pos c_12] at hd
          exact aWp.post (aWp.forget (ih.2.1 _ _ _ _ H_10.1 hd) ((lvS (lvN lvE)))) (fun _ _ hq => ⟨hq.1, H_10.tr hq.2⟩)
        · rw [if_neg c_12] at hd
          refine wp_s 28 [some (.ref 382), none] [.ref 382] h_9 i_160_27 rfl ?_
          obtain ⟨z_13, q_14, hd⟩ := dk_bind hd
          refine wp_callV 31 rfl i_160_28 (by decide) rfl (vs := []) (rest := []) rfl rfl rfl (H_10.1 0 (by decide)) (y := m_146) rfl (Nat.le_of_ble_eq_true rfl) (d_146_ok (d := e) (by omega) H_10.1 q_14) ?_
          rintro v_17 h_15 ⟨rfl, H_16⟩
          have H_16 := H_10.tr H_16
          refine wp_s 33 [some (.ref 382), none] [.int (37 : Int32), .int z_13.1] h_15 i_160_31 rfl ?_
          refine wp_cmp_ne 103 36 rfl rfl i_160_33 (fun c_18 => ?_) (fun c_18 => ?_)
          · rw [if_pos c_18] at hd
            refine wp_s 104 [some (.ref 382), none] [.int (1 : Int32)] h_15 i_160_103 rfl ?_
            obtain rfl := Option.some.inj hd
            exact wp_iretZ (z := 0) i_160_104 (by decide) ⟨rfl, H_16⟩
          · rw [if_neg c_18] at hd
            exact aWp.post (aWp.forget (ih.2.1 _ _ _ _ H_16.1 hd) ((lvS (lvN lvE)))) (fun _ _ hq => ⟨hq.1, H_16.tr hq.2⟩)
    · intro s0 S h0 zz HS hd
      unfold l_160 at hd
      rw [if_neg (by decide), if_pos rfl] at hd
      have HH := rTo.rf HS
      obtain ⟨e, rfl⟩ : ∃ e, d = e + 1 := ⟨d - 1, by omega⟩
      refine wp_s 37 [some (.ref 382), none] [.ref 382] h0 i_160_36 rfl ?_
      refine wp_get (v := .ref 383) 40 rfl i_160_37 (HH.1 0 (by decide)) rfl ?_
      refine wp_s 41 [some (.ref 382), none] [.ref 382, .ref 383] h0 i_160_40 rfl ?_
      refine wp_get (v := .int (S.1 8)) 44 rfl i_160_41 (HH.1 0 (by decide)) rfl ?_
      obtain ⟨b_19, hd⟩ := dk_if hd
      refine wp_bald (f := (S.2.1 0)) 45 rfl i_160_44 (Or.inl rfl) (HH.1 1 (by decide)) b_19 ?_
      refine wp_s 47 [some (.ref 382), none] [.int (42 : Int32), .int ((S.2.1 0) (S.1 8).toNatClampNeg)] h0 i_160_45 rfl ?_
      refine wp_cmp_ne 54 50 rfl rfl i_160_47 (fun c_20 => ?_) (fun c_20 => ?_)
      · rw [if_pos c_20] at hd
        refine wp_s 55 [some (.ref 382), none] [.ref 382] h0 i_160_54 rfl ?_
        refine wp_get (v := .ref 383) 58 rfl i_160_55 (HH.1 0 (by decide)) rfl ?_
        refine wp_s 59 [some (.ref 382), none] [.ref 382, .ref 383] h0 i_160_58 rfl ?_
        refine wp_get (v := .int (S.1 8)) 62 rfl i_160_59 (HH.1 0 (by decide)) rfl ?_
        obtain ⟨b_21, hd⟩ := dk_if hd
        refine wp_bald (f := (S.2.1 0)) 63 rfl i_160_62 (Or.inl rfl) (HH.1 1 (by decide)) b_21 ?_
        refine wp_s 65 [some (.ref 382), none] [.int (47 : Int32), .int ((S.2.1 0) (S.1 8).toNatClampNeg)] h0 i_160_63 rfl ?_
        refine wp_cmp_ne 72 68 rfl rfl i_160_65 (fun c_22 => ?_) (fun c_22 => ?_)
        · rw [if_pos c_22] at hd
          refine wp_s 74 [some (.ref 382), none] [.int (14 : Int32)] h0 i_160_72 rfl ?_
          exact aWp.post (aWp.forget (ih.2.2 _ _ _ _ HH.1 hd) ((lvS (lvN lvE)))) (fun _ _ hq => ⟨hq.1, HH.tr hq.2⟩)
        · rw [if_neg c_22] at hd
          refine wp_s 69 [some (.ref 382), none] [.int (5 : Int32)] h0 i_160_68 rfl ?_
          refine wp_s 74 [some (.ref 382), none] [.int (5 : Int32)] h0 i_160_69 rfl ?_
          exact aWp.post (aWp.forget (ih.2.2 _ _ _ _ HH.1 hd) ((lvS (lvN lvE)))) (fun _ _ hq => ⟨hq.1, HH.tr hq.2⟩)
      · rw [if_neg c_20] at hd
        refine wp_s 51 [some (.ref 382), none] [.int (4 : Int32)] h0 i_160_50 rfl ?_
        refine wp_s 74 [some (.ref 382), none] [.int (4 : Int32)] h0 i_160_51 rfl ?_
        exact aWp.post (aWp.forget (ih.2.2 _ _ _ _ HH.1 hd) ((lvS (lvN lvE)))) (fun _ _ hq => ⟨hq.1, HH.tr hq.2⟩)
    · intro s0 S h0 zz HS hd
      unfold l_160 at hd
      rw [if_neg (by decide), if_neg (by decide), if_pos rfl] at hd
      have HH := rTo.rf HS
      obtain ⟨e, rfl⟩ : ∃ e, d = e + 1 := ⟨d - 1, by omega⟩
      refine wp_s 75 [some (.ref 382), some (.int s0)] [] h0 i_160_74 rfl ?_
      refine wp_s 76 [some (.ref 382), some (.int s0)] [.ref 382] h0 i_160_75 rfl ?_
      refine wp_s 77 [some (.ref 382), some (.int s0)] [.ref 382, .ref 382] h0 i_160_76 rfl ?_
      refine wp_get (v := .int (S.1 8)) 80 rfl i_160_77 (HH.1 0 (by decide)) rfl ?_
      refine wp_s 81 [some (.ref 382), some (.int s0)] [.int (1 : Int32), .int (S.1 8), .ref 382] h0 i_160_80 rfl ?_
      refine wp_s 82 [some (.ref 382), some (.int s0)] [.int ((S.1 8) + (1 : Int32)), .ref 382] h0 i_160_81 rfl ?_
      refine rq_F8 85 rfl i_160_82 HH (fun h_23 H_24 => ?_)
      refine wp_s 86 [some (.ref 382), some (.int s0)] [.ref 382] h_23 i_160_85 rfl ?_
      obtain ⟨z_25, q_26, hd⟩ := dk_bind hd
      refine wp_callV 89 rfl i_160_86 (by decide) rfl (vs := []) (rest := []) rfl rfl rfl (H_24.1 0 (by decide)) (y := m_159) rfl (Nat.le_of_ble_eq_true rfl) (d_159_ok (d := e) (by omega) H_24.1 q_26) ?_
      rintro v_29 h_27 ⟨rfl, H_28⟩
      have H_28 := H_24.tr H_28
      refine wp_if_ne 94 92 rfl rfl i_160_89 (fun c_30 => ?_) (fun c_30 => ?_)
      · rw [if_pos c_30] at hd
        refine wp_s 95 [some (.ref 382), some (.int s0)] [.ref 382] h_27 i_160_94 rfl ?_
        refine wp_s 96 [some (.ref 382), some (.int s0)] [.int s0, .ref 382] h_27 i_160_95 rfl ?_
        refine wp_s 97 [some (.ref 382), some (.int s0)] [.int (0 : Int32), .int s0, .ref 382] h_27 i_160_96 rfl ?_
        obtain ⟨z_31, q_32, hd⟩ := dk_bind hd
        refine wp_callV 100 rfl i_160_97 (by decide) rfl (vs := [.int s0, .int (0 : Int32)]) (rest := []) rfl rfl rfl (H_28.1 0 (by decide)) (y := m_154) rfl (Nat.le_of_ble_eq_true rfl) (d_154_ok (d := e) (by omega) H_28.1 q_32) ?_
        rintro v_35 h_33 ⟨rfl, H_34⟩
        have H_34 := H_28.tr H_34
        refine wp_s 9 [some (.ref 382), some (.int s0)] [] h_33 i_160_100 rfl ?_
        exact aWp.post (aWp.forget (ih.1 _ _ _ _ H_34.1 hd) ((lvS (lvN lvE)))) (fun _ _ hq => ⟨hq.1, H_34.tr hq.2⟩)
      · rw [if_neg c_30] at hd
        refine wp_s 93 [some (.ref 382), some (.int s0)] [.int (0 : Int32)] h_27 i_160_92 rfl ?_
        obtain rfl := Option.some.inj hd
        exact wp_iretZ (z := 0) i_160_93 (by decide) ⟨rfl, H_28⟩
def d_160 (g : Nat)  (S : rS) : Option (Int32 × rS) := ((d_159 g  S).bind (fun z_1001 => (if ¬ z_1001.1 = 0 then (l_160 g g 0 0 z_1001.2) else some ((0 : Int32), z_1001.2))))
set_option maxHeartbeats 4000000 in
set_option maxRecDepth 100000 in
theorem d_160_ok {X : aX} {g d : Nat}  {S : rS} {h0 : aH} {zz : Int32 × rS} (hdp : 4 ≤ d) (HS : rm h0 S) (hd : d_160 g  S = some zz) : aWp X d 160 0 (aEntL [.ref 382] 2) [] h0 (fun w h' => w = some (.int zz.1) ∧ rTo h0 zz.2 h') := by
  unfold d_160 at hd
  have HH := rTo.rf HS
  refine wp_lv (l2 := [some (.ref 382), none]) rfl ?_
  obtain ⟨e, rfl⟩ : ∃ e, d = e + 1 := ⟨d - 1, by omega⟩
  refine wp_s 1 [some (.ref 382), none] [.ref 382] h0 i_160_0 rfl ?_
  obtain ⟨z_1001, q_1002, hd⟩ := dk_bind hd
  refine wp_callV 4 rfl i_160_1 (by decide) rfl (vs := []) (rest := []) rfl rfl rfl (HH.1 0 (by decide)) (y := m_159) rfl (Nat.le_of_ble_eq_true rfl) (d_159_ok (d := e) (by omega) HH.1 q_1002) ?_
  rintro v_1005 h_1003 ⟨rfl, H_1004⟩
  have H_1004 := HH.tr H_1004
  refine wp_if_ne 9 7 rfl rfl i_160_4 (fun c_1006 => ?_) (fun c_1006 => ?_)
  · rw [if_pos c_1006] at hd
    exact aWp.post (aWp.forget ((l_160_ok hdp g).1 _ _ _ _ H_1004.1 hd) ((lvS (lvN lvE)))) (fun _ _ hq => ⟨hq.1, H_1004.tr hq.2⟩)
  · rw [if_neg c_1006] at hd
    refine wp_s 8 [some (.ref 382), none] [.int (0 : Int32)] h_1003 i_160_7 rfl ?_
    obtain rfl := Option.some.inj hd
    exact wp_iretZ (z := 0) i_160_8 (by decide) ⟨rfl, H_1004⟩
def l_161 (g n tag : Nat) (s0 : Int32) (S : rS) : Option (Int32 × rS) := match n with
  | 0 => none
  | n + 1 => if tag = 0 then ((d_146 g  S).bind (fun z_1 => (if z_1.1 = (43 : Int32) then (l_161 g n 1 0 z_1.2) else ((d_146 g  z_1.2).bind (fun z_7 => (if ¬ z_7.1 = (45 : Int32) then some ((1 : Int32), z_7.2) else (l_161 g n 1 0 z_7.2))))))) else if tag = 1 then (if aIn (S.1 8) 400 = true then (if ¬ ((S.2.1 0) (S.1 8).toNatClampNeg) = (43 : Int32) then (l_161 g n 2 (3 : Int32) S) else (l_161 g n 2 (2 : Int32) S)) else none) else if tag = 2 then ((d_160 g  (rF S 8 ((S.1 8) + (1 : Int32)))).bind (fun z_17 => (if ¬ z_17.1 = 0 then ((d_154 g s0 (0 : Int32) z_17.2).bind (fun z_23 => (l_161 g n 0 0 z_23))) else some ((0 : Int32), z_17.2)))) else none
set_option maxHeartbeats 4000000 in
set_option maxRecDepth 100000 in
theorem l_161_ok {X : aX} {g d : Nat} (hdp : 5 ≤ d) : ∀ n, (∀ (s0 : Int32) (S : rS) (h0 : aH) (zz : Int32 × rS), rm h0 S → l_161 g n 0 s0 S = some zz → aWp X d 161 9 [some (.ref 382), none] [] h0 (fun w h' => w = some (.int zz.1) ∧ rTo h0 zz.2 h')) ∧ (∀ (s0 : Int32) (S : rS) (h0 : aH) (zz : Int32 × rS), rm h0 S → l_161 g n 1 s0 S = some zz → aWp X d 161 27 [some (.ref 382), none] [] h0 (fun w h' => w = some (.int zz.1) ∧ rTo h0 zz.2 h')) ∧ (∀ (s0 : Int32) (S : rS) (h0 : aH) (zz : Int32 × rS), rm h0 S → l_161 g n 2 s0 S = some zz → aWp X d 161 46 [some (.ref 382), none] [.int s0] h0 (fun w h' => w = some (.int zz.1) ∧ rTo h0 zz.2 h')) := by
  intro n
  induction n with
  | zero => exact ⟨fun _ _ _ _ _ hd => by simp [l_161] at hd, fun _ _ _ _ _ hd => by simp [l_161] at hd, fun _ _ _ _ _ hd => by simp [l_161] at hd⟩
  | succ n ih =>
    refine ⟨?_, ?_, ?_⟩
    · intro s0 S h0 zz HS hd
      unfold l_161 at hd
      rw [if_pos rfl] at hd
      have HH := rTo.rf HS
      obtain ⟨e, rfl⟩ : ∃ e, d = e + 1 := ⟨d - 1, by omega⟩
      refine wp_s 10 [some (.ref 382), none] [.ref 382] h0 i_161_9 rfl ?_
      obtain ⟨z_1, q_2, hd⟩ := dk_bind hd
      refine wp_callV 13 rfl i_161_10 (by decide) rfl (vs := []) (rest := []) rfl rfl rfl (HH.1 0 (by decide)) (y := m_146) rfl (Nat.le_of_ble_eq_true rfl) (d_146_ok (d := e) (by omega) HH.1 q_2) ?_
      rintro v_5 h_3 ⟨rfl, H_4⟩
      have H_4 := HH.tr H_4
      refine wp_s 15 [some (.ref 382), none] [.int (43 : Int32), .int z_1.1] h_3 i_161_13 rfl ?_
      refine wp_cmp_eq 27 18 rfl rfl i_161_15 (fun c_6 => ?_) (fun c_6 => ?_)
      · rw [if_pos c_6] at hd
        exact aWp.post (aWp.forget (ih.2.1 _ _ _ _ H_4.1 hd) ((lvS (lvN lvE)))) (fun _ _ hq => ⟨hq.1, H_4.tr hq.2⟩)
      · rw [if_neg c_6] at hd
        refine wp_s 19 [some (.ref 382), none] [.ref 382] h_3 i_161_18 rfl ?_
        obtain ⟨z_7, q_8, hd⟩ := dk_bind hd
        refine wp_callV 22 rfl i_161_19 (by decide) rfl (vs := []) (rest := []) rfl rfl rfl (H_4.1 0 (by decide)) (y := m_146) rfl (Nat.le_of_ble_eq_true rfl) (d_146_ok (d := e) (by omega) H_4.1 q_8) ?_
        rintro v_11 h_9 ⟨rfl, H_10⟩
        have H_10 := H_4.tr H_10
        refine wp_s 24 [some (.ref 382), none] [.int (45 : Int32), .int z_7.1] h_9 i_161_22 rfl ?_
        refine wp_cmp_ne 75 27 rfl rfl i_161_24 (fun c_12 => ?_) (fun c_12 => ?_)
        · rw [if_pos c_12] at hd
          refine wp_s 76 [some (.ref 382), none] [.int (1 : Int32)] h_9 i_161_75 rfl ?_
          obtain rfl := Option.some.inj hd
          exact wp_iretZ (z := 0) i_161_76 (by decide) ⟨rfl, H_10⟩
        · rw [if_neg c_12] at hd
          exact aWp.post (aWp.forget (ih.2.1 _ _ _ _ H_10.1 hd) ((lvS (lvN lvE)))) (fun _ _ hq => ⟨hq.1, H_10.tr hq.2⟩)
    · intro s0 S h0 zz HS hd
      unfold l_161 at hd
      rw [if_neg (by decide), if_pos rfl] at hd
      have HH := rTo.rf HS
      obtain ⟨e, rfl⟩ : ∃ e, d = e + 1 := ⟨d - 1, by omega⟩
      refine wp_s 28 [some (.ref 382), none] [.ref 382] h0 i_161_27 rfl ?_
      refine wp_get (v := .ref 383) 31 rfl i_161_28 (HH.1 0 (by decide)) rfl ?_
      refine wp_s 32 [some (.ref 382), none] [.ref 382, .ref 383] h0 i_161_31 rfl ?_
      refine wp_get (v := .int (S.1 8)) 35 rfl i_161_32 (HH.1 0 (by decide)) rfl ?_
      obtain ⟨b_13, hd⟩ := dk_if hd
      refine wp_bald (f := (S.2.1 0)) 36 rfl i_161_35 (Or.inl rfl) (HH.1 1 (by decide)) b_13 ?_
      refine wp_s 38 [some (.ref 382), none] [.int (43 : Int32), .int ((S.2.1 0) (S.1 8).toNatClampNeg)] h0 i_161_36 rfl ?_
      refine wp_cmp_ne 45 41 rfl rfl i_161_38 (fun c_14 => ?_) (fun c_14 => ?_)
      · rw [if_pos c_14] at hd
        refine wp_s 46 [some (.ref 382), none] [.int (3 : Int32)] h0 i_161_45 rfl ?_
        exact aWp.post (aWp.forget (ih.2.2 _ _ _ _ HH.1 hd) ((lvS (lvN lvE)))) (fun _ _ hq => ⟨hq.1, HH.tr hq.2⟩)
      · rw [if_neg c_14] at hd
        refine wp_s 42 [some (.ref 382), none] [.int (2 : Int32)] h0 i_161_41 rfl ?_
        refine wp_s 46 [some (.ref 382), none] [.int (2 : Int32)] h0 i_161_42 rfl ?_
        exact aWp.post (aWp.forget (ih.2.2 _ _ _ _ HH.1 hd) ((lvS (lvN lvE)))) (fun _ _ hq => ⟨hq.1, HH.tr hq.2⟩)
    · intro s0 S h0 zz HS hd
      unfold l_161 at hd
      rw [if_neg (by decide), if_neg (by decide), if_pos rfl] at hd
      have HH := rTo.rf HS
      obtain ⟨e, rfl⟩ : ∃ e, d = e + 1 := ⟨d - 1, by omega⟩
      refine wp_s 47 [some (.ref 382), some (.int s0)] [] h0 i_161_46 rfl ?_
      refine wp_s 48 [some (.ref 382), some (.int s0)] [.ref 382] h0 i_161_47 rfl ?_
      refine wp_s 49 [some (.ref 382), some (.int s0)] [.ref 382, .ref 382] h0 i_161_48 rfl ?_
      refine wp_get (v := .int (S.1 8)) 52 rfl i_161_49 (HH.1 0 (by decide)) rfl ?_
      refine wp_s 53 [some (.ref 382), some (.int s0)] [.int (1 : Int32), .int (S.1 8), .ref 382] h0 i_161_52 rfl ?_
      refine wp_s 54 [some (.ref 382), some (.int s0)] [.int ((S.1 8) + (1 : Int32)), .ref 382] h0 i_161_53 rfl ?_
      refine rq_F8 57 rfl i_161_54 HH (fun h_15 H_16 => ?_)
      refine wp_s 58 [some (.ref 382), some (.int s0)] [.ref 382] h_15 i_161_57 rfl ?_
      obtain ⟨z_17, q_18, hd⟩ := dk_bind hd
      refine wp_callV 61 rfl i_161_58 (by decide) rfl (vs := []) (rest := []) rfl rfl rfl (H_16.1 0 (by decide)) (y := m_160) rfl (Nat.le_of_ble_eq_true rfl) (d_160_ok (d := e) (by omega) H_16.1 q_18) ?_
      rintro v_21 h_19 ⟨rfl, H_20⟩
      have H_20 := H_16.tr H_20
      refine wp_if_ne 66 64 rfl rfl i_161_61 (fun c_22 => ?_) (fun c_22 => ?_)
      · rw [if_pos c_22] at hd
        refine wp_s 67 [some (.ref 382), some (.int s0)] [.ref 382] h_19 i_161_66 rfl ?_
        refine wp_s 68 [some (.ref 382), some (.int s0)] [.int s0, .ref 382] h_19 i_161_67 rfl ?_
        refine wp_s 69 [some (.ref 382), some (.int s0)] [.int (0 : Int32), .int s0, .ref 382] h_19 i_161_68 rfl ?_
        obtain ⟨z_23, q_24, hd⟩ := dk_bind hd
        refine wp_callV 72 rfl i_161_69 (by decide) rfl (vs := [.int s0, .int (0 : Int32)]) (rest := []) rfl rfl rfl (H_20.1 0 (by decide)) (y := m_154) rfl (Nat.le_of_ble_eq_true rfl) (d_154_ok (d := e) (by omega) H_20.1 q_24) ?_
        rintro v_27 h_25 ⟨rfl, H_26⟩
        have H_26 := H_20.tr H_26
        refine wp_s 9 [some (.ref 382), some (.int s0)] [] h_25 i_161_72 rfl ?_
        exact aWp.post (aWp.forget (ih.1 _ _ _ _ H_26.1 hd) ((lvS (lvN lvE)))) (fun _ _ hq => ⟨hq.1, H_26.tr hq.2⟩)
      · rw [if_neg c_22] at hd
        refine wp_s 65 [some (.ref 382), some (.int s0)] [.int (0 : Int32)] h_19 i_161_64 rfl ?_
        obtain rfl := Option.some.inj hd
        exact wp_iretZ (z := 0) i_161_65 (by decide) ⟨rfl, H_20⟩
def d_161 (g : Nat)  (S : rS) : Option (Int32 × rS) := ((d_160 g  S).bind (fun z_1001 => (if ¬ z_1001.1 = 0 then (l_161 g g 0 0 z_1001.2) else some ((0 : Int32), z_1001.2))))
set_option maxHeartbeats 4000000 in
set_option maxRecDepth 100000 in
theorem d_161_ok {X : aX} {g d : Nat}  {S : rS} {h0 : aH} {zz : Int32 × rS} (hdp : 5 ≤ d) (HS : rm h0 S) (hd : d_161 g  S = some zz) : aWp X d 161 0 (aEntL [.ref 382] 2) [] h0 (fun w h' => w = some (.int zz.1) ∧ rTo h0 zz.2 h') := by
  unfold d_161 at hd
  have HH := rTo.rf HS
  refine wp_lv (l2 := [some (.ref 382), none]) rfl ?_
  obtain ⟨e, rfl⟩ : ∃ e, d = e + 1 := ⟨d - 1, by omega⟩
  refine wp_s 1 [some (.ref 382), none] [.ref 382] h0 i_161_0 rfl ?_
  obtain ⟨z_1001, q_1002, hd⟩ := dk_bind hd
  refine wp_callV 4 rfl i_161_1 (by decide) rfl (vs := []) (rest := []) rfl rfl rfl (HH.1 0 (by decide)) (y := m_160) rfl (Nat.le_of_ble_eq_true rfl) (d_160_ok (d := e) (by omega) HH.1 q_1002) ?_
  rintro v_1005 h_1003 ⟨rfl, H_1004⟩
  have H_1004 := HH.tr H_1004
  refine wp_if_ne 9 7 rfl rfl i_161_4 (fun c_1006 => ?_) (fun c_1006 => ?_)
  · rw [if_pos c_1006] at hd
    exact aWp.post (aWp.forget ((l_161_ok hdp g).1 _ _ _ _ H_1004.1 hd) ((lvS (lvN lvE)))) (fun _ _ hq => ⟨hq.1, H_1004.tr hq.2⟩)
  · rw [if_neg c_1006] at hd
    refine wp_s 8 [some (.ref 382), none] [.int (0 : Int32)] h_1003 i_161_7 rfl ?_
    obtain rfl := Option.some.inj hd
    exact wp_iretZ (z := 0) i_161_8 (by decide) ⟨rfl, H_1004⟩
def j_162_152 (g : Nat) (x1 : Int32) (x2 : Int32) (x3 : Int32) (s0 : Int32) (S : rS) : Option (Int32 × rS) := ((d_161 g  S).bind (fun z_1 => (if ¬ z_1.1 = 0 then ((d_154 g ((6 : Int32) + s0) (0 : Int32) z_1.2).bind (fun z_7 => some ((1 : Int32), z_7))) else some ((0 : Int32), z_1.2))))
set_option maxHeartbeats 4000000 in
set_option maxRecDepth 100000 in
theorem j_162_152_ok {X : aX} {g d : Nat} {x1 : Int32} {x2 : Int32} {x3 : Int32} {s0 : Int32} {S : rS} {h0 : aH} {zz : Int32 × rS} (hdp : 6 ≤ d) (HS : rm h0 S) (hd : j_162_152 g x1 x2 x3 s0 S = some zz) : aWp X d 162 152 [some (.ref 382), some (.int x1), some (.int x2), some (.int x3), none] [.int s0] h0 (fun w h' => w = some (.int zz.1) ∧ rTo h0 zz.2 h') := by
  unfold j_162_152 at hd
  have HH := rTo.rf HS
  obtain ⟨e, rfl⟩ : ∃ e, d = e + 1 := ⟨d - 1, by omega⟩
  refine wp_s 154 [some (.ref 382), some (.int x1), some (.int x2), some (.int x3), some (.int s0)] [] h0 i_162_152 rfl ?_
  refine wp_s 155 [some (.ref 382), some (.int x1), some (.int x2), some (.int x3), some (.int s0)] [.ref 382] h0 i_162_154 rfl ?_
  obtain ⟨z_1, q_2, hd⟩ := dk_bind hd
  refine wp_callV 158 rfl i_162_155 (by decide) rfl (vs := []) (rest := []) rfl rfl rfl (HH.1 0 (by decide)) (y := m_161) rfl (Nat.le_of_ble_eq_true rfl) (d_161_ok (d := e) (by omega) HH.1 q_2) ?_
  rintro v_5 h_3 ⟨rfl, H_4⟩
  have H_4 := HH.tr H_4
  refine wp_if_ne 163 161 rfl rfl i_162_158 (fun c_6 => ?_) (fun c_6 => ?_)
  · rw [if_pos c_6] at hd
    refine wp_s 164 [some (.ref 382), some (.int x1), some (.int x2), some (.int x3), some (.int s0)] [.ref 382] h_3 i_162_163 rfl ?_
    refine wp_s 166 [some (.ref 382), some (.int x1), some (.int x2), some (.int x3), some (.int s0)] [.int (6 : Int32), .ref 382] h_3 i_162_164 rfl ?_
    refine wp_s 168 [some (.ref 382), some (.int x1), some (.int x2), some (.int x3), some (.int s0)] [.int s0, .int (6 : Int32), .ref 382] h_3 i_162_166 rfl ?_
    refine wp_s 169 [some (.ref 382), some (.int x1), some (.int x2), some (.int x3), some (.int s0)] [.int ((6 : Int32) + s0), .ref 382] h_3 i_162_168 rfl ?_
    refine wp_s 170 [some (.ref 382), some (.int x1), some (.int x2), some (.int x3), some (.int s0)] [.int (0 : Int32), .int ((6 : Int32) + s0), .ref 382] h_3 i_162_169 rfl ?_
    obtain ⟨z_7, q_8, hd⟩ := dk_bind hd
    refine wp_callV 173 rfl i_162_170 (by decide) rfl (vs := [.int ((6 : Int32) + s0), .int (0 : Int32)]) (rest := []) rfl rfl rfl (H_4.1 0 (by decide)) (y := m_154) rfl (Nat.le_of_ble_eq_true rfl) (d_154_ok (d := e) (by omega) H_4.1 q_8) ?_
    rintro v_11 h_9 ⟨rfl, H_10⟩
    have H_10 := H_4.tr H_10
    refine wp_s 174 [some (.ref 382), some (.int x1), some (.int x2), some (.int x3), some (.int s0)] [.int (1 : Int32)] h_9 i_162_173 rfl ?_
    obtain rfl := Option.some.inj hd
    exact wp_iretZ (z := 0) i_162_174 (by decide) ⟨rfl, H_10⟩
  · rw [if_neg c_6] at hd
    refine wp_s 162 [some (.ref 382), some (.int x1), some (.int x2), some (.int x3), some (.int s0)] [.int (0 : Int32)] h_3 i_162_161 rfl ?_
    obtain rfl := Option.some.inj hd
    exact wp_iretZ (z := 0) i_162_162 (by decide) ⟨rfl, H_4⟩
def j_162_105 (g : Nat) (x1 : Int32) (x2 : Int32) (x3 : Int32) (S : rS) : Option (Int32 × rS) := ((d_155 g x2 S).bind (fun z_1 => (if ¬ z_1.1 = 0 then (if ¬ x1 = (60 : Int32) then (if ¬ x1 = (61 : Int32) then (if x3 = 0 then (j_162_152 g x1 x2 x3 (4 : Int32) z_1.2) else (j_162_152 g x1 x2 x3 (3 : Int32) z_1.2)) else (j_162_152 g x1 x2 x3 (2 : Int32) z_1.2)) else (if x3 = 0 then (j_162_152 g x1 x2 x3 (0 : Int32) z_1.2) else (j_162_152 g x1 x2 x3 (1 : Int32) z_1.2))) else some ((0 : Int32), z_1.2))))
set_option maxHeartbeats 4000000 in
set_option maxRecDepth 100000 in
theorem j_162_105_ok {X : aX} {g d : Nat} {x1 : Int32} {x2 : Int32} {x3 : Int32} {S : rS} {h0 : aH} {zz : Int32 × rS} (hdp : 6 ≤ d) (HS : rm h0 S) (hd : j_162_105 g x1 x2 x3 S = some zz) : aWp X d 162 105 [some (.ref 382), some (.int x1), some (.int x2), some (.int x3), none] [] h0 (fun w h' => w = some (.int zz.1) ∧ rTo h0 zz.2 h') := by
  unfold j_162_105 at hd
  have HH := rTo.rf HS
  obtain ⟨e, rfl⟩ : ∃ e, d = e + 1 := ⟨d - 1, by omega⟩
  refine wp_s 106 [some (.ref 382), some (.int x1), some (.int x2), some (.int x3), none] [.ref 382] h0 i_162_105 rfl ?_
  refine wp_s 107 [some (.ref 382), some (.int x1), some (.int x2), some (.int x3), none] [.int x2, .ref 382] h0 i_162_106 rfl ?_
  obtain ⟨z_1, q_2, hd⟩ := dk_bind hd
  refine wp_callV 110 rfl i_162_107 (by decide) rfl (vs := [.int x2]) (rest := []) rfl rfl rfl (HH.1 0 (by decide)) (y := m_155) rfl (Nat.le_of_ble_eq_true rfl) (d_155_ok (d := e) (by omega) HH.1 q_2) ?_
  rintro v_5 h_3 ⟨rfl, H_4⟩
  have H_4 := HH.tr H_4
  refine wp_if_ne 115 113 rfl rfl i_162_110 (fun c_6 => ?_) (fun c_6 => ?_)
  · rw [if_pos c_6] at hd
    refine wp_s 116 [some (.ref 382), some (.int x1), some (.int x2), some (.int x3), none] [.int x1] h_3 i_162_115 rfl ?_
    refine wp_s 118 [some (.ref 382), some (.int x1), some (.int x2), some (.int x3), none] [.int (60 : Int32), .int x1] h_3 i_162_116 rfl ?_
    refine wp_cmp_ne 133 121 rfl rfl i_162_118 (fun c_7 => ?_) (fun c_7 => ?_)
    · rw [if_pos c_7] at hd
      refine wp_s 134 [some (.ref 382), some (.int x1), some (.int x2), some (.int x3), none] [.int x1] h_3 i_162_133 rfl ?_
      refine wp_s 136 [some (.ref 382), some (.int x1), some (.int x2), some (.int x3), none] [.int (61 : Int32), .int x1] h_3 i_162_134 rfl ?_
      refine wp_cmp_ne 143 139 rfl rfl i_162_136 (fun c_8 => ?_) (fun c_8 => ?_)
      · rw [if_pos c_8] at hd
        refine wp_s 144 [some (.ref 382), some (.int x1), some (.int x2), some (.int x3), none] [.int x3] h_3 i_162_143 rfl ?_
        refine wp_if_eq 151 147 rfl rfl i_162_144 (fun c_9 => ?_) (fun c_9 => ?_)
        · rw [if_pos c_9] at hd
          refine wp_s 152 [some (.ref 382), some (.int x1), some (.int x2), some (.int x3), none] [.int (4 : Int32)] h_3 i_162_151 rfl ?_
          exact aWp.post (aWp.forget (j_162_152_ok hdp H_4.1 hd) ((lvS (lvS (lvS (lvS (lvN lvE))))))) (fun _ _ hq => ⟨hq.1, H_4.tr hq.2⟩)
        · rw [if_neg c_9] at hd
          refine wp_s 148 [some (.ref 382), some (.int x1), some (.int x2), some (.int x3), none] [.int (3 : Int32)] h_3 i_162_147 rfl ?_
          refine wp_s 152 [some (.ref 382), some (.int x1), some (.int x2), some (.int x3), none] [.int (3 : Int32)] h_3 i_162_148 rfl ?_
          exact aWp.post (aWp.forget (j_162_152_ok hdp H_4.1 hd) ((lvS (lvS (lvS (lvS (lvN lvE))))))) (fun _ _ hq => ⟨hq.1, H_4.tr hq.2⟩)
      · rw [if_neg c_8] at hd
        refine wp_s 140 [some (.ref 382), some (.int x1), some (.int x2), some (.int x3), none] [.int (2 : Int32)] h_3 i_162_139 rfl ?_
        refine wp_s 152 [some (.ref 382), some (.int x1), some (.int x2), some (.int x3), none] [.int (2 : Int32)] h_3 i_162_140 rfl ?_
        exact aWp.post (aWp.forget (j_162_152_ok hdp H_4.1 hd) ((lvS (lvS (lvS (lvS (lvN lvE))))))) (fun _ _ hq => ⟨hq.1, H_4.tr hq.2⟩)
    · rw [if_neg c_7] at hd
      refine wp_s 122 [some (.ref 382), some (.int x1), some (.int x2), some (.int x3), none] [.int x3] h_3 i_162_121 rfl ?_
      refine wp_if_eq 129 125 rfl rfl i_162_122 (fun c_10 => ?_) (fun c_10 => ?_)
      · rw [if_pos c_10] at hd
        refine wp_s 130 [some (.ref 382), some (.int x1), some (.int x2), some (.int x3), none] [.int (0 : Int32)] h_3 i_162_129 rfl ?_
        refine wp_s 152 [some (.ref 382), some (.int x1), some (.int x2), some (.int x3), none] [.int (0 : Int32)] h_3 i_162_130 rfl ?_
        exact aWp.post (aWp.forget (j_162_152_ok hdp H_4.1 hd) ((lvS (lvS (lvS (lvS (lvN lvE))))))) (fun _ _ hq => ⟨hq.1, H_4.tr hq.2⟩)
      · rw [if_neg c_10] at hd
        refine wp_s 126 [some (.ref 382), some (.int x1), some (.int x2), some (.int x3), none] [.int (1 : Int32)] h_3 i_162_125 rfl ?_
        refine wp_s 152 [some (.ref 382), some (.int x1), some (.int x2), some (.int x3), none] [.int (1 : Int32)] h_3 i_162_126 rfl ?_
        exact aWp.post (aWp.forget (j_162_152_ok hdp H_4.1 hd) ((lvS (lvS (lvS (lvS (lvN lvE))))))) (fun _ _ hq => ⟨hq.1, H_4.tr hq.2⟩)
  · rw [if_neg c_6] at hd
    refine wp_s 114 [some (.ref 382), some (.int x1), some (.int x2), some (.int x3), none] [.int (0 : Int32)] h_3 i_162_113 rfl ?_
    obtain rfl := Option.some.inj hd
    exact wp_iretZ (z := 0) i_162_114 (by decide) ⟨rfl, H_4⟩
def j_162_90 (g : Nat) (x1 : Int32) (x2 : Int32) (s0 : Int32) (S : rS) : Option (Int32 × rS) := (if s0 = 0 then (j_162_105 g x1 x2 s0 S) else (j_162_105 g x1 x2 s0 (rF S 8 ((S.1 8) + (1 : Int32)))))
set_option maxHeartbeats 4000000 in
set_option maxRecDepth 100000 in
theorem j_162_90_ok {X : aX} {g d : Nat} {x1 : Int32} {x2 : Int32} {s0 : Int32} {S : rS} {h0 : aH} {zz : Int32 × rS} (hdp : 6 ≤ d) (HS : rm h0 S) (hd : j_162_90 g x1 x2 s0 S = some zz) : aWp X d 162 90 [some (.ref 382), some (.int x1), some (.int x2), none, none] [.int s0] h0 (fun w h' => w = some (.int zz.1) ∧ rTo h0 zz.2 h') := by
  unfold j_162_90 at hd
  have HH := rTo.rf HS
  obtain ⟨e, rfl⟩ : ∃ e, d = e + 1 := ⟨d - 1, by omega⟩
  refine wp_s 91 [some (.ref 382), some (.int x1), some (.int x2), some (.int s0), none] [] h0 i_162_90 rfl ?_
  refine wp_s 92 [some (.ref 382), some (.int x1), some (.int x2), some (.int s0), none] [.int s0] h0 i_162_91 rfl ?_
  refine wp_if_eq 105 95 rfl rfl i_162_92 (fun c_1 => ?_) (fun c_1 => ?_)
  · rw [if_pos c_1] at hd
    exact aWp.post (aWp.forget (j_162_105_ok hdp HH.1 hd) ((lvS (lvS (lvS (lvS (lvN lvE))))))) (fun _ _ hq => ⟨hq.1, HH.tr hq.2⟩)
  · rw [if_neg c_1] at hd
    refine wp_s 96 [some (.ref 382), some (.int x1), some (.int x2), some (.int s0), none] [.ref 382] h0 i_162_95 rfl ?_
    refine wp_s 97 [some (.ref 382), some (.int x1), some (.int x2), some (.int s0), none] [.ref 382, .ref 382] h0 i_162_96 rfl ?_
    refine wp_get (v := .int (S.1 8)) 100 rfl i_162_97 (HH.1 0 (by decide)) rfl ?_
    refine wp_s 101 [some (.ref 382), some (.int x1), some (.int x2), some (.int s0), none] [.int (1 : Int32), .int (S.1 8), .ref 382] h0 i_162_100 rfl ?_
    refine wp_s 102 [some (.ref 382), some (.int x1), some (.int x2), some (.int s0), none] [.int ((S.1 8) + (1 : Int32)), .ref 382] h0 i_162_101 rfl ?_
    refine rq_F8 105 rfl i_162_102 HH (fun h_2 H_3 => ?_)
    exact aWp.post (aWp.forget (j_162_105_ok hdp H_3.1 hd) ((lvS (lvS (lvS (lvS (lvN lvE))))))) (fun _ _ hq => ⟨hq.1, H_3.tr hq.2⟩)
def j_162_89 (g : Nat) (x1 : Int32) (x2 : Int32) (S : rS) : Option (Int32 × rS) := (j_162_90 g x1 x2 (0 : Int32) S)
set_option maxHeartbeats 4000000 in
set_option maxRecDepth 100000 in
theorem j_162_89_ok {X : aX} {g d : Nat} {x1 : Int32} {x2 : Int32} {S : rS} {h0 : aH} {zz : Int32 × rS} (hdp : 6 ≤ d) (HS : rm h0 S) (hd : j_162_89 g x1 x2 S = some zz) : aWp X d 162 89 [some (.ref 382), some (.int x1), some (.int x2), none, none] [] h0 (fun w h' => w = some (.int zz.1) ∧ rTo h0 zz.2 h') := by
  unfold j_162_89 at hd
  have HH := rTo.rf HS
  obtain ⟨e, rfl⟩ : ∃ e, d = e + 1 := ⟨d - 1, by omega⟩
  refine wp_s 90 [some (.ref 382), some (.int x1), some (.int x2), none, none] [.int (0 : Int32)] h0 i_162_89 rfl ?_
  exact aWp.post (aWp.forget (j_162_90_ok hdp HH.1 hd) ((lvS (lvS (lvS (lvN (lvN lvE))))))) (fun _ _ hq => ⟨hq.1, HH.tr hq.2⟩)
def j_162_44 (g : Nat) (x1 : Int32) (x2 : Int32) (S : rS) : Option (Int32 × rS) := (if x1 = (61 : Int32) then (j_162_89 g x1 x2 (rF S 8 ((S.1 8) + (1 : Int32)))) else (if (S.1 1) ≤ ((S.1 8) + (1 : Int32)) then (j_162_89 g x1 x2 (rF S 8 ((S.1 8) + (1 : Int32)))) else (if aIn ((S.1 8) + (1 : Int32)) 400 = true then (if ¬ ((S.2.1 0) ((S.1 8) + (1 : Int32)).toNatClampNeg) = (61 : Int32) then (j_162_89 g x1 x2 (rF S 8 ((S.1 8) + (1 : Int32)))) else (j_162_90 g x1 x2 (1 : Int32) (rF S 8 ((S.1 8) + (1 : Int32))))) else none)))
set_option maxHeartbeats 4000000 in
set_option maxRecDepth 100000 in
theorem j_162_44_ok {X : aX} {g d : Nat} {x1 : Int32} {x2 : Int32} {S : rS} {h0 : aH} {zz : Int32 × rS} (hdp : 6 ≤ d) (HS : rm h0 S) (hd : j_162_44 g x1 x2 S = some zz) : aWp X d 162 44 [some (.ref 382), some (.int x1), some (.int x2), none, none] [] h0 (fun w h' => w = some (.int zz.1) ∧ rTo h0 zz.2 h') := by
  unfold j_162_44 at hd
  have HH := rTo.rf HS
  obtain ⟨e, rfl⟩ : ∃ e, d = e + 1 := ⟨d - 1, by omega⟩
  refine wp_s 45 [some (.ref 382), some (.int x1), some (.int x2), none, none] [.ref 382] h0 i_162_44 rfl ?_
  refine wp_s 46 [some (.ref 382), some (.int x1), some (.int x2), none, none] [.ref 382, .ref 382] h0 i_162_45 rfl ?_
  refine wp_get (v := .int (S.1 8)) 49 rfl i_162_46 (HH.1 0 (by decide)) rfl ?_
  refine wp_s 50 [some (.ref 382), some (.int x1), some (.int x2), none, none] [.int (1 : Int32), .int (S.1 8), .ref 382] h0 i_162_49 rfl ?_
  refine wp_s 51 [some (.ref 382), some (.int x1), some (.int x2), none, none] [.int ((S.1 8) + (1 : Int32)), .ref 382] h0 i_162_50 rfl ?_
  refine rq_F8 54 rfl i_162_51 HH (fun h_1 H_2 => ?_)
  refine wp_s 55 [some (.ref 382), some (.int x1), some (.int x2), none, none] [.int x1] h_1 i_162_54 rfl ?_
  refine wp_s 57 [some (.ref 382), some (.int x1), some (.int x2), none, none] [.int (61 : Int32), .int x1] h_1 i_162_55 rfl ?_
  refine wp_cmp_eq 89 60 rfl rfl i_162_57 (fun c_3 => ?_) (fun c_3 => ?_)
  · rw [if_pos c_3] at hd
    exact aWp.post (aWp.forget (j_162_89_ok hdp H_2.1 hd) ((lvS (lvS (lvS (lvN (lvN lvE))))))) (fun _ _ hq => ⟨hq.1, H_2.tr hq.2⟩)
  · rw [if_neg c_3] at hd
    refine wp_s 61 [some (.ref 382), some (.int x1), some (.int x2), none, none] [.ref 382] h_1 i_162_60 rfl ?_
    refine wp_get (v := .int ((S.1 8) + (1 : Int32))) 64 rfl i_162_61 (H_2.1 0 (by decide)) rfl ?_
    refine wp_s 65 [some (.ref 382), some (.int x1), some (.int x2), none, none] [.ref 382, .int ((S.1 8) + (1 : Int32))] h_1 i_162_64 rfl ?_
    refine wp_get (v := .int (S.1 1)) 68 rfl i_162_65 (H_2.1 0 (by decide)) rfl ?_
    refine wp_cmp_ge 89 71 rfl rfl i_162_68 (fun c_4 => ?_) (fun c_4 => ?_)
    · rw [if_pos c_4] at hd
      exact aWp.post (aWp.forget (j_162_89_ok hdp H_2.1 hd) ((lvS (lvS (lvS (lvN (lvN lvE))))))) (fun _ _ hq => ⟨hq.1, H_2.tr hq.2⟩)
    · rw [if_neg c_4] at hd
      refine wp_s 72 [some (.ref 382), some (.int x1), some (.int x2), none, none] [.ref 382] h_1 i_162_71 rfl ?_
      refine wp_get (v := .ref 383) 75 rfl i_162_72 (H_2.1 0 (by decide)) rfl ?_
      refine wp_s 76 [some (.ref 382), some (.int x1), some (.int x2), none, none] [.ref 382, .ref 383] h_1 i_162_75 rfl ?_
      refine wp_get (v := .int ((S.1 8) + (1 : Int32))) 79 rfl i_162_76 (H_2.1 0 (by decide)) rfl ?_
      obtain ⟨b_5, hd⟩ := dk_if hd
      refine wp_bald (f := (S.2.1 0)) 80 rfl i_162_79 (Or.inl rfl) (H_2.1 1 (by decide)) b_5 ?_
      refine wp_s 82 [some (.ref 382), some (.int x1), some (.int x2), none, none] [.int (61 : Int32), .int ((S.2.1 0) ((S.1 8) + (1 : Int32)).toNatClampNeg)] h_1 i_162_80 rfl ?_
      refine wp_cmp_ne 89 85 rfl rfl i_162_82 (fun c_6 => ?_) (fun c_6 => ?_)
      · rw [if_pos c_6] at hd
        exact aWp.post (aWp.forget (j_162_89_ok hdp H_2.1 hd) ((lvS (lvS (lvS (lvN (lvN lvE))))))) (fun _ _ hq => ⟨hq.1, H_2.tr hq.2⟩)
      · rw [if_neg c_6] at hd
        refine wp_s 86 [some (.ref 382), some (.int x1), some (.int x2), none, none] [.int (1 : Int32)] h_1 i_162_85 rfl ?_
        refine wp_s 90 [some (.ref 382), some (.int x1), some (.int x2), none, none] [.int (1 : Int32)] h_1 i_162_86 rfl ?_
        exact aWp.post (aWp.forget (j_162_90_ok hdp H_2.1 hd) ((lvS (lvS (lvS (lvN (lvN lvE))))))) (fun _ _ hq => ⟨hq.1, H_2.tr hq.2⟩)
def d_162 (g : Nat)  (S : rS) : Option (Int32 × rS) := ((d_161 g  S).bind (fun z_1 => (if ¬ z_1.1 = 0 then ((d_146 g  z_1.2).bind (fun z_7 => (if z_7.1 = (60 : Int32) then (j_162_44 g z_7.1 (z_7.2.1 8) z_7.2) else (if z_7.1 = (61 : Int32) then (j_162_44 g z_7.1 (z_7.2.1 8) z_7.2) else (if z_7.1 = (62 : Int32) then (j_162_44 g z_7.1 (z_7.2.1 8) z_7.2) else ((d_145 g (0 : Int32) (z_7.2.1 8) z_7.2).bind (fun z_15 => (if z_15.1 = 0 ∨ z_15.1 = 1 then some (z_15.1, z_15.2) else none)))))))) else some ((0 : Int32), z_1.2))))
set_option maxHeartbeats 4000000 in
set_option maxRecDepth 100000 in
theorem d_162_ok {X : aX} {g d : Nat}  {S : rS} {h0 : aH} {zz : Int32 × rS} (hdp : 6 ≤ d) (HS : rm h0 S) (hd : d_162 g  S = some zz) : aWp X d 162 0 (aEntL [.ref 382] 5) [] h0 (fun w h' => w = some (.int zz.1) ∧ rTo h0 zz.2 h') := by
  unfold d_162 at hd
  have HH := rTo.rf HS
  refine wp_lv (l2 := [some (.ref 382), none, none, none, none]) rfl ?_
  obtain ⟨e, rfl⟩ : ∃ e, d = e + 1 := ⟨d - 1, by omega⟩
  refine wp_s 1 [some (.ref 382), none, none, none, none] [.ref 382] h0 i_162_0 rfl ?_
  obtain ⟨z_1, q_2, hd⟩ := dk_bind hd
  refine wp_callV 4 rfl i_162_1 (by decide) rfl (vs := []) (rest := []) rfl rfl rfl (HH.1 0 (by decide)) (y := m_161) rfl (Nat.le_of_ble_eq_true rfl) (d_161_ok (d := e) (by omega) HH.1 q_2) ?_
  rintro v_5 h_3 ⟨rfl, H_4⟩
  have H_4 := HH.tr H_4
  refine wp_if_ne 9 7 rfl rfl i_162_4 (fun c_6 => ?_) (fun c_6 => ?_)
  · rw [if_pos c_6] at hd
    refine wp_s 10 [some (.ref 382), none, none, none, none] [.ref 382] h_3 i_162_9 rfl ?_
    obtain ⟨z_7, q_8, hd⟩ := dk_bind hd
    refine wp_callV 13 rfl i_162_10 (by decide) rfl (vs := []) (rest := []) rfl rfl rfl (H_4.1 0 (by decide)) (y := m_146) rfl (Nat.le_of_ble_eq_true rfl) (d_146_ok (d := e) (by omega) H_4.1 q_8) ?_
    rintro v_11 h_9 ⟨rfl, H_10⟩
    have H_10 := H_4.tr H_10
    refine wp_s 14 [some (.ref 382), some (.int z_7.1), none, none, none] [] h_9 i_162_13 rfl ?_
    refine wp_s 15 [some (.ref 382), some (.int z_7.1), none, none, none] [.ref 382] h_9 i_162_14 rfl ?_
    refine wp_get (v := .int (z_7.2.1 8)) 18 rfl i_162_15 (H_10.1 0 (by decide)) rfl ?_
    refine wp_s 19 [some (.ref 382), some (.int z_7.1), some (.int (z_7.2.1 8)), none, none] [] h_9 i_162_18 rfl ?_
    refine wp_s 20 [some (.ref 382), some (.int z_7.1), some (.int (z_7.2.1 8)), none, none] [.int z_7.1] h_9 i_162_19 rfl ?_
    refine wp_s 22 [some (.ref 382), some (.int z_7.1), some (.int (z_7.2.1 8)), none, none] [.int (60 : Int32), .int z_7.1] h_9 i_162_20 rfl ?_
    refine wp_cmp_eq 44 25 rfl rfl i_162_22 (fun c_12 => ?_) (fun c_12 => ?_)
    · rw [if_pos c_12] at hd
      exact aWp.post (aWp.forget (j_162_44_ok hdp H_10.1 hd) ((lvS (lvS (lvS (lvN (lvN lvE))))))) (fun _ _ hq => ⟨hq.1, H_10.tr hq.2⟩)
    · rw [if_neg c_12] at hd
      refine wp_s 26 [some (.ref 382), some (.int z_7.1), some (.int (z_7.2.1 8)), none, none] [.int z_7.1] h_9 i_162_25 rfl ?_
      refine wp_s 28 [some (.ref 382), some (.int z_7.1), some (.int (z_7.2.1 8)), none, none] [.int (61 : Int32), .int z_7.1] h_9 i_162_26 rfl ?_
      refine wp_cmp_eq 44 31 rfl rfl i_162_28 (fun c_13 => ?_) (fun c_13 => ?_)
      · rw [if_pos c_13] at hd
        exact aWp.post (aWp.forget (j_162_44_ok hdp H_10.1 hd) ((lvS (lvS (lvS (lvN (lvN lvE))))))) (fun _ _ hq => ⟨hq.1, H_10.tr hq.2⟩)
      · rw [if_neg c_13] at hd
        refine wp_s 32 [some (.ref 382), some (.int z_7.1), some (.int (z_7.2.1 8)), none, none] [.int z_7.1] h_9 i_162_31 rfl ?_
        refine wp_s 34 [some (.ref 382), some (.int z_7.1), some (.int (z_7.2.1 8)), none, none] [.int (62 : Int32), .int z_7.1] h_9 i_162_32 rfl ?_
        refine wp_cmp_eq 44 37 rfl rfl i_162_34 (fun c_14 => ?_) (fun c_14 => ?_)
        · rw [if_pos c_14] at hd
          exact aWp.post (aWp.forget (j_162_44_ok hdp H_10.1 hd) ((lvS (lvS (lvS (lvN (lvN lvE))))))) (fun _ _ hq => ⟨hq.1, H_10.tr hq.2⟩)
        · rw [if_neg c_14] at hd
          refine wp_s 38 [some (.ref 382), some (.int z_7.1), some (.int (z_7.2.1 8)), none, none] [.ref 382] h_9 i_162_37 rfl ?_
          refine wp_s 39 [some (.ref 382), some (.int z_7.1), some (.int (z_7.2.1 8)), none, none] [.int (0 : Int32), .ref 382] h_9 i_162_38 rfl ?_
          refine wp_s 40 [some (.ref 382), some (.int z_7.1), some (.int (z_7.2.1 8)), none, none] [.int (z_7.2.1 8), .int (0 : Int32), .ref 382] h_9 i_162_39 rfl ?_
          obtain ⟨z_15, q_16, hd⟩ := dk_bind hd
          refine wp_callV 43 rfl i_162_40 (by decide) rfl (vs := [.int (0 : Int32), .int (z_7.2.1 8)]) (rest := []) rfl rfl rfl (H_10.1 0 (by decide)) (y := m_145) rfl (Nat.le_of_ble_eq_true rfl) (d_145_ok (d := e) (by omega) H_10.1 q_16) ?_
          rintro v_19 h_17 ⟨rfl, H_18⟩
          have H_18 := H_10.tr H_18
          obtain ⟨b_20, hd⟩ := dk_if hd
          obtain rfl := Option.some.inj hd
          exact wp_iretZ (z := 0) i_162_43 b_20 ⟨rfl, H_18⟩
  · rw [if_neg c_6] at hd
    refine wp_s 8 [some (.ref 382), none, none, none, none] [.int (0 : Int32)] h_3 i_162_7 rfl ?_
    obtain rfl := Option.some.inj hd
    exact wp_iretZ (z := 0) i_162_8 (by decide) ⟨rfl, H_4⟩
