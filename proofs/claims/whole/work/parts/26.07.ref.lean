theorem i_269_0 : aIns 269 0 = some (.aload_n 0, 1, 0, 0, .null) := by decide +kernel
theorem i_269_1 : aIns 269 1 = some (.invokevirtual 374, 3, 187, 0, .int 12) := by decide +kernel
theorem i_269_4 : aIns 269 4 = some (.ifCond .eq 37, 3, 0, 0, .null) := by decide +kernel
theorem i_269_7 : aIns 269 7 = some (.iload_n 1, 1, 0, 0, .null) := by decide +kernel
theorem i_269_8 : aIns 269 8 = some (.i2l, 1, 0, 0, .null) := by decide +kernel
theorem i_269_9 : aIns 269 9 = some (.lconst 1, 1, 0, 0, .long 1) := by decide +kernel
theorem i_269_10 : aIns 269 10 = some (.ldc2_w 531, 3, 0, 0, .long (10)) := by decide +kernel
theorem i_269_13 : aIns 269 13 = some (.invokestatic 124, 3, 140, 3, .null) := by decide +kernel
theorem i_269_16 : aIns 269 16 = some (.ifCond .eq 25, 3, 0, 0, .null) := by decide +kernel
theorem i_269_19 : aIns 269 19 = some (.iload_n 2, 1, 0, 0, .null) := by decide +kernel
theorem i_269_20 : aIns 269 20 = some (.i2l, 1, 0, 0, .null) := by decide +kernel
theorem i_269_21 : aIns 269 21 = some (.lconst 1, 1, 0, 0, .long 1) := by decide +kernel
theorem i_269_22 : aIns 269 22 = some (.ldc2_w 533, 3, 0, 0, .long (60)) := by decide +kernel
theorem i_269_25 : aIns 269 25 = some (.invokestatic 124, 3, 140, 3, .null) := by decide +kernel
theorem i_269_28 : aIns 269 28 = some (.ifCond .eq 13, 3, 0, 0, .null) := by decide +kernel
theorem i_269_31 : aIns 269 31 = some (.iload_n 3, 1, 0, 0, .null) := by decide +kernel
theorem i_269_32 : aIns 269 32 = some (.i2l, 1, 0, 0, .null) := by decide +kernel
theorem i_269_33 : aIns 269 33 = some (.lconst 0, 1, 0, 0, .long 0) := by decide +kernel
theorem i_269_34 : aIns 269 34 = some (.lconst 1, 1, 0, 0, .long 1) := by decide +kernel
theorem i_269_35 : aIns 269 35 = some (.invokestatic 124, 3, 140, 3, .null) := by decide +kernel
theorem i_269_38 : aIns 269 38 = some (.ifCond .ne 5, 3, 0, 0, .null) := by decide +kernel
theorem i_269_41 : aIns 269 41 = some (.iconst (-1), 1, 0, 0, .int (-1)) := by decide +kernel
theorem i_269_42 : aIns 269 42 = some (.ireturn, 1, 0, 0, .null) := by decide +kernel
theorem i_269_43 : aIns 269 43 = some (.aload_n 0, 1, 0, 0, .null) := by decide +kernel
theorem i_269_44 : aIns 269 44 = some (.aload_n 0, 1, 0, 0, .null) := by decide +kernel
theorem i_269_45 : aIns 269 45 = some (.getfield 507, 3, 12, 22, .null) := by decide +kernel
theorem i_269_48 : aIns 269 48 = some (.i2l, 1, 0, 0, .null) := by decide +kernel
theorem i_269_49 : aIns 269 49 = some (.putfield 510, 3, 12, 40, .null) := by decide +kernel
theorem i_269_52 : aIns 269 52 = some (.aload_n 0, 1, 0, 0, .null) := by decide +kernel
theorem i_269_53 : aIns 269 53 = some (.iconst 0, 1, 0, 0, .int (0)) := by decide +kernel
theorem i_269_54 : aIns 269 54 = some (.putfield 528, 3, 12, 41, .null) := by decide +kernel
theorem i_269_57 : aIns 269 57 = some (.aload_n 0, 1, 0, 0, .null) := by decide +kernel
theorem i_269_58 : aIns 269 58 = some (.iconst 0, 1, 0, 0, .int (0)) := by decide +kernel
theorem i_269_59 : aIns 269 59 = some (.putfield 525, 3, 12, 42, .null) := by decide +kernel
theorem i_269_62 : aIns 269 62 = some (.aload_n 0, 1, 0, 0, .null) := by decide +kernel
theorem i_269_63 : aIns 269 63 = some (.invokevirtual 474, 3, 250, 0, .int 12) := by decide +kernel
theorem i_269_66 : aIns 269 66 = some (.iconst 0, 1, 0, 0, .int (0)) := by decide +kernel
theorem i_269_67 : aIns 269 67 = some (.istore 4, 2, 0, 0, .null) := by decide +kernel
theorem i_269_69 : aIns 269 69 = some (.iload 4, 2, 0, 0, .null) := by decide +kernel
theorem i_269_71 : aIns 269 71 = some (.iload_n 1, 1, 0, 0, .null) := by decide +kernel
theorem i_269_72 : aIns 269 72 = some (.if_icmp .ge 52, 3, 0, 0, .null) := by decide +kernel
theorem i_269_75 : aIns 269 75 = some (.aload_n 0, 1, 0, 0, .null) := by decide +kernel
theorem i_269_76 : aIns 269 76 = some (.getfield 39, 3, 12, 20, .null) := by decide +kernel
theorem i_269_79 : aIns 269 79 = some (.iconst 1, 1, 0, 0, .int (1)) := by decide +kernel
theorem i_269_80 : aIns 269 80 = some (.iaload, 1, 0, 0, .null) := by decide +kernel
theorem i_269_81 : aIns 269 81 = some (.ifCond .le 43, 3, 0, 0, .null) := by decide +kernel
theorem i_269_84 : aIns 269 84 = some (.iconst 0, 1, 0, 0, .int (0)) := by decide +kernel
theorem i_269_85 : aIns 269 85 = some (.istore 5, 2, 0, 0, .null) := by decide +kernel
theorem i_269_87 : aIns 269 87 = some (.iload 5, 2, 0, 0, .null) := by decide +kernel
theorem i_269_89 : aIns 269 89 = some (.iload_n 2, 1, 0, 0, .null) := by decide +kernel
theorem i_269_90 : aIns 269 90 = some (.if_icmp .ge 24, 3, 0, 0, .null) := by decide +kernel
theorem i_269_93 : aIns 269 93 = some (.aload_n 0, 1, 0, 0, .null) := by decide +kernel
theorem i_269_94 : aIns 269 94 = some (.invokevirtual 535, 3, 268, 0, .int 12) := by decide +kernel
theorem i_269_97 : aIns 269 97 = some (.aload_n 0, 1, 0, 0, .null) := by decide +kernel
theorem i_269_98 : aIns 269 98 = some (.getfield 39, 3, 12, 20, .null) := by decide +kernel
theorem i_269_101 : aIns 269 101 = some (.bipush 7, 2, 0, 0, .int (7)) := by decide +kernel
theorem i_269_103 : aIns 269 103 = some (.dup2, 1, 0, 0, .null) := by decide +kernel
theorem i_269_104 : aIns 269 104 = some (.iaload, 1, 0, 0, .null) := by decide +kernel
theorem i_269_105 : aIns 269 105 = some (.iconst 1, 1, 0, 0, .int (1)) := by decide +kernel
theorem i_269_106 : aIns 269 106 = some (.iadd, 1, 0, 0, .null) := by decide +kernel
theorem i_269_107 : aIns 269 107 = some (.iastore, 1, 0, 0, .null) := by decide +kernel
theorem i_269_108 : aIns 269 108 = some (.iinc 5 1, 3, 0, 0, .null) := by decide +kernel
theorem i_269_111 : aIns 269 111 = some (.goto (-24), 3, 0, 0, .null) := by decide +kernel
theorem i_269_114 : aIns 269 114 = some (.aload_n 0, 1, 0, 0, .null) := by decide +kernel
theorem i_269_115 : aIns 269 115 = some (.invokevirtual 469, 3, 251, 0, .int 12) := by decide +kernel
theorem i_269_118 : aIns 269 118 = some (.iinc 4 1, 3, 0, 0, .null) := by decide +kernel
theorem i_269_121 : aIns 269 121 = some (.goto (-52), 3, 0, 0, .null) := by decide +kernel
theorem i_269_124 : aIns 269 124 = some (.iload_n 3, 1, 0, 0, .null) := by decide +kernel
theorem i_269_125 : aIns 269 125 = some (.ifCond .ne 10, 3, 0, 0, .null) := by decide +kernel
theorem i_269_128 : aIns 269 128 = some (.aload_n 0, 1, 0, 0, .null) := by decide +kernel
theorem i_269_129 : aIns 269 129 = some (.getfield 528, 3, 12, 41, .null) := by decide +kernel
theorem i_269_132 : aIns 269 132 = some (.goto 7, 3, 0, 0, .null) := by decide +kernel
theorem i_269_135 : aIns 269 135 = some (.aload_n 0, 1, 0, 0, .null) := by decide +kernel
theorem i_269_136 : aIns 269 136 = some (.getfield 525, 3, 12, 42, .null) := by decide +kernel
theorem i_269_139 : aIns 269 139 = some (.ireturn, 1, 0, 0, .null) := by decide +kernel
theorem i_270_0 : aIns 270 0 = some (.iload_n 1, 1, 0, 0, .null) := by decide +kernel
theorem i_270_1 : aIns 270 1 = some (.tableswitch 173 0 14 #[75, 82, 89, 96, 103, 110, 115, 120, 128, 136, 141, 149, 158, 163, 168], 75, 0, 0, .null) := by decide +kernel
theorem i_270_76 : aIns 270 76 = some (.aload_n 0, 1, 0, 0, .null) := by decide +kernel
theorem i_270_77 : aIns 270 77 = some (.getfield 39, 3, 12, 20, .null) := by decide +kernel
theorem i_270_80 : aIns 270 80 = some (.iconst 4, 1, 0, 0, .int (4)) := by decide +kernel
theorem i_270_81 : aIns 270 81 = some (.iaload, 1, 0, 0, .null) := by decide +kernel
theorem i_270_82 : aIns 270 82 = some (.ireturn, 1, 0, 0, .null) := by decide +kernel
theorem i_270_83 : aIns 270 83 = some (.aload_n 0, 1, 0, 0, .null) := by decide +kernel
theorem i_270_84 : aIns 270 84 = some (.getfield 39, 3, 12, 20, .null) := by decide +kernel
theorem i_270_87 : aIns 270 87 = some (.iconst 5, 1, 0, 0, .int (5)) := by decide +kernel
theorem i_270_88 : aIns 270 88 = some (.iaload, 1, 0, 0, .null) := by decide +kernel
theorem i_270_89 : aIns 270 89 = some (.ireturn, 1, 0, 0, .null) := by decide +kernel
theorem i_270_90 : aIns 270 90 = some (.aload_n 0, 1, 0, 0, .null) := by decide +kernel
theorem i_270_91 : aIns 270 91 = some (.getfield 39, 3, 12, 20, .null) := by decide +kernel
theorem i_270_94 : aIns 270 94 = some (.iconst 1, 1, 0, 0, .int (1)) := by decide +kernel
theorem i_270_95 : aIns 270 95 = some (.iaload, 1, 0, 0, .null) := by decide +kernel
theorem i_270_96 : aIns 270 96 = some (.ireturn, 1, 0, 0, .null) := by decide +kernel
theorem i_270_97 : aIns 270 97 = some (.aload_n 0, 1, 0, 0, .null) := by decide +kernel
theorem i_270_98 : aIns 270 98 = some (.getfield 39, 3, 12, 20, .null) := by decide +kernel
theorem i_270_101 : aIns 270 101 = some (.iconst 2, 1, 0, 0, .int (2)) := by decide +kernel
theorem i_270_102 : aIns 270 102 = some (.iaload, 1, 0, 0, .null) := by decide +kernel
theorem i_270_103 : aIns 270 103 = some (.ireturn, 1, 0, 0, .null) := by decide +kernel
theorem i_270_104 : aIns 270 104 = some (.aload_n 0, 1, 0, 0, .null) := by decide +kernel
theorem i_270_105 : aIns 270 105 = some (.getfield 39, 3, 12, 20, .null) := by decide +kernel
theorem i_270_108 : aIns 270 108 = some (.iconst 3, 1, 0, 0, .int (3)) := by decide +kernel
theorem i_270_109 : aIns 270 109 = some (.iaload, 1, 0, 0, .null) := by decide +kernel
theorem i_270_110 : aIns 270 110 = some (.ireturn, 1, 0, 0, .null) := by decide +kernel
theorem i_270_111 : aIns 270 111 = some (.aload_n 0, 1, 0, 0, .null) := by decide +kernel
theorem i_270_112 : aIns 270 112 = some (.getfield 272, 3, 12, 2, .null) := by decide +kernel
theorem i_270_115 : aIns 270 115 = some (.ireturn, 1, 0, 0, .null) := by decide +kernel
theorem i_270_116 : aIns 270 116 = some (.aload_n 0, 1, 0, 0, .null) := by decide +kernel
theorem i_270_117 : aIns 270 117 = some (.getfield 42, 3, 12, 21, .null) := by decide +kernel
theorem i_270_120 : aIns 270 120 = some (.ireturn, 1, 0, 0, .null) := by decide +kernel
theorem i_270_121 : aIns 270 121 = some (.aload_n 0, 1, 0, 0, .null) := by decide +kernel
theorem i_270_122 : aIns 270 122 = some (.getfield 39, 3, 12, 20, .null) := by decide +kernel
theorem i_270_125 : aIns 270 125 = some (.bipush 7, 2, 0, 0, .int (7)) := by decide +kernel
theorem i_270_127 : aIns 270 127 = some (.iaload, 1, 0, 0, .null) := by decide +kernel
theorem i_270_128 : aIns 270 128 = some (.ireturn, 1, 0, 0, .null) := by decide +kernel
theorem i_270_129 : aIns 270 129 = some (.aload_n 0, 1, 0, 0, .null) := by decide +kernel
theorem i_270_130 : aIns 270 130 = some (.getfield 39, 3, 12, 20, .null) := by decide +kernel
theorem i_270_133 : aIns 270 133 = some (.bipush 8, 2, 0, 0, .int (8)) := by decide +kernel
theorem i_270_135 : aIns 270 135 = some (.iaload, 1, 0, 0, .null) := by decide +kernel
theorem i_270_136 : aIns 270 136 = some (.ireturn, 1, 0, 0, .null) := by decide +kernel
theorem i_270_137 : aIns 270 137 = some (.aload_n 0, 1, 0, 0, .null) := by decide +kernel
theorem i_270_138 : aIns 270 138 = some (.invokevirtual 362, 3, 209, 0, .int 12) := by decide +kernel
theorem i_270_141 : aIns 270 141 = some (.ireturn, 1, 0, 0, .null) := by decide +kernel
theorem i_270_142 : aIns 270 142 = some (.aload_n 0, 1, 0, 0, .null) := by decide +kernel
theorem i_270_143 : aIns 270 143 = some (.getfield 39, 3, 12, 20, .null) := by decide +kernel
theorem i_270_146 : aIns 270 146 = some (.bipush 9, 2, 0, 0, .int (9)) := by decide +kernel
theorem i_270_148 : aIns 270 148 = some (.iaload, 1, 0, 0, .null) := by decide +kernel
theorem i_270_149 : aIns 270 149 = some (.ireturn, 1, 0, 0, .null) := by decide +kernel
theorem i_270_150 : aIns 270 150 = some (.aload_n 0, 1, 0, 0, .null) := by decide +kernel
theorem i_270_151 : aIns 270 151 = some (.getfield 39, 3, 12, 20, .null) := by decide +kernel
theorem i_270_154 : aIns 270 154 = some (.sipush 180, 3, 0, 0, .int (180)) := by decide +kernel
theorem i_270_157 : aIns 270 157 = some (.iaload, 1, 0, 0, .null) := by decide +kernel
theorem i_270_158 : aIns 270 158 = some (.ireturn, 1, 0, 0, .null) := by decide +kernel
theorem i_270_159 : aIns 270 159 = some (.aload_n 0, 1, 0, 0, .null) := by decide +kernel
theorem i_270_160 : aIns 270 160 = some (.getfield 278, 3, 12, 27, .null) := by decide +kernel
theorem i_270_163 : aIns 270 163 = some (.ireturn, 1, 0, 0, .null) := by decide +kernel
theorem i_270_164 : aIns 270 164 = some (.aload_n 0, 1, 0, 0, .null) := by decide +kernel
theorem i_270_165 : aIns 270 165 = some (.getfield 507, 3, 12, 22, .null) := by decide +kernel
theorem i_270_168 : aIns 270 168 = some (.ireturn, 1, 0, 0, .null) := by decide +kernel
theorem i_270_169 : aIns 270 169 = some (.aload_n 0, 1, 0, 0, .null) := by decide +kernel
theorem i_270_170 : aIns 270 170 = some (.getfield 86, 3, 12, 1, .null) := by decide +kernel
theorem i_270_173 : aIns 270 173 = some (.ireturn, 1, 0, 0, .null) := by decide +kernel
theorem i_270_174 : aIns 270 174 = some (.iconst (-1), 1, 0, 0, .int (-1)) := by decide +kernel
theorem i_270_175 : aIns 270 175 = some (.ireturn, 1, 0, 0, .null) := by decide +kernel
theorem i_271_0 : aIns 271 0 = some (.iload_n 1, 1, 0, 0, .null) := by decide +kernel
theorem i_271_1 : aIns 271 1 = some (.i2l, 1, 0, 0, .null) := by decide +kernel
theorem i_271_2 : aIns 271 2 = some (.lconst 0, 1, 0, 0, .long 0) := by decide +kernel
theorem i_271_3 : aIns 271 3 = some (.ldc2_w 432, 3, 0, 0, .long (3)) := by decide +kernel
theorem i_271_6 : aIns 271 6 = some (.invokestatic 124, 3, 140, 3, .null) := by decide +kernel
theorem i_271_9 : aIns 271 9 = some (.ifCond .ne 5, 3, 0, 0, .null) := by decide +kernel
theorem i_271_12 : aIns 271 12 = some (.iconst (-1), 1, 0, 0, .int (-1)) := by decide +kernel
theorem i_271_13 : aIns 271 13 = some (.ireturn, 1, 0, 0, .null) := by decide +kernel
theorem i_271_14 : aIns 271 14 = some (.aload_n 0, 1, 0, 0, .null) := by decide +kernel
theorem i_271_15 : aIns 271 15 = some (.getfield 82, 3, 12, 46, .null) := by decide +kernel
theorem i_271_18 : aIns 271 18 = some (.iload_n 1, 1, 0, 0, .null) := by decide +kernel
theorem i_271_19 : aIns 271 19 = some (.iconst 1, 1, 0, 0, .int (1)) := by decide +kernel
theorem i_271_20 : aIns 271 20 = some (.bastore, 1, 0, 0, .null) := by decide +kernel
theorem i_271_21 : aIns 271 21 = some (.aload_n 0, 1, 0, 0, .null) := by decide +kernel
theorem i_271_22 : aIns 271 22 = some (.getfield 76, 3, 12, 44, .null) := by decide +kernel
theorem i_271_25 : aIns 271 25 = some (.iload_n 1, 1, 0, 0, .null) := by decide +kernel
theorem i_271_26 : aIns 271 26 = some (.aload_n 0, 1, 0, 0, .null) := by decide +kernel
theorem i_271_27 : aIns 271 27 = some (.getfield 42, 3, 12, 21, .null) := by decide +kernel
theorem i_271_30 : aIns 271 30 = some (.iastore, 1, 0, 0, .null) := by decide +kernel
theorem i_271_31 : aIns 271 31 = some (.aload_n 0, 1, 0, 0, .null) := by decide +kernel
theorem i_271_32 : aIns 271 32 = some (.getfield 79, 3, 12, 45, .null) := by decide +kernel
theorem i_271_35 : aIns 271 35 = some (.iload_n 1, 1, 0, 0, .null) := by decide +kernel
theorem i_271_36 : aIns 271 36 = some (.aload_n 0, 1, 0, 0, .null) := by decide +kernel
theorem i_271_37 : aIns 271 37 = some (.getfield 507, 3, 12, 22, .null) := by decide +kernel
theorem i_271_40 : aIns 271 40 = some (.iastore, 1, 0, 0, .null) := by decide +kernel
theorem i_271_41 : aIns 271 41 = some (.iconst 0, 1, 0, 0, .int (0)) := by decide +kernel
theorem i_271_42 : aIns 271 42 = some (.istore_n 2, 1, 0, 0, .null) := by decide +kernel
theorem i_271_43 : aIns 271 43 = some (.iload_n 2, 1, 0, 0, .null) := by decide +kernel
theorem i_271_44 : aIns 271 44 = some (.sipush 181, 3, 0, 0, .int (181)) := by decide +kernel
theorem i_271_47 : aIns 271 47 = some (.if_icmp .ge 27, 3, 0, 0, .null) := by decide +kernel
theorem i_271_50 : aIns 271 50 = some (.aload_n 0, 1, 0, 0, .null) := by decide +kernel
theorem i_271_51 : aIns 271 51 = some (.getfield 73, 3, 12, 43, .null) := by decide +kernel
theorem i_271_54 : aIns 271 54 = some (.sipush 181, 3, 0, 0, .int (181)) := by decide +kernel
theorem i_271_57 : aIns 271 57 = some (.iload_n 1, 1, 0, 0, .null) := by decide +kernel
theorem i_271_58 : aIns 271 58 = some (.imul, 1, 0, 0, .null) := by decide +kernel
theorem i_271_59 : aIns 271 59 = some (.iload_n 2, 1, 0, 0, .null) := by decide +kernel
theorem i_271_60 : aIns 271 60 = some (.iadd, 1, 0, 0, .null) := by decide +kernel
theorem i_271_61 : aIns 271 61 = some (.aload_n 0, 1, 0, 0, .null) := by decide +kernel
theorem i_271_62 : aIns 271 62 = some (.getfield 39, 3, 12, 20, .null) := by decide +kernel
theorem i_271_65 : aIns 271 65 = some (.iload_n 2, 1, 0, 0, .null) := by decide +kernel
theorem i_271_66 : aIns 271 66 = some (.iaload, 1, 0, 0, .null) := by decide +kernel
theorem i_271_67 : aIns 271 67 = some (.iastore, 1, 0, 0, .null) := by decide +kernel
theorem i_271_68 : aIns 271 68 = some (.iinc 2 1, 3, 0, 0, .null) := by decide +kernel
theorem i_271_71 : aIns 271 71 = some (.goto (-28), 3, 0, 0, .null) := by decide +kernel
theorem i_271_74 : aIns 271 74 = some (.aload_n 0, 1, 0, 0, .null) := by decide +kernel
theorem i_271_75 : aIns 271 75 = some (.getfield 39, 3, 12, 20, .null) := by decide +kernel
theorem i_271_78 : aIns 271 78 = some (.bipush 7, 2, 0, 0, .int (7)) := by decide +kernel
theorem i_271_80 : aIns 271 80 = some (.iaload, 1, 0, 0, .null) := by decide +kernel
theorem i_271_81 : aIns 271 81 = some (.ireturn, 1, 0, 0, .null) := by decide +kernel
theorem i_272_0 : aIns 272 0 = some (.iload_n 1, 1, 0, 0, .null) := by decide +kernel
theorem i_272_1 : aIns 272 1 = some (.i2l, 1, 0, 0, .null) := by decide +kernel
theorem i_272_2 : aIns 272 2 = some (.lconst 0, 1, 0, 0, .long 0) := by decide +kernel
theorem i_272_3 : aIns 272 3 = some (.ldc2_w 432, 3, 0, 0, .long (3)) := by decide +kernel
theorem i_272_6 : aIns 272 6 = some (.invokestatic 124, 3, 140, 3, .null) := by decide +kernel
theorem i_272_9 : aIns 272 9 = some (.ifCond .eq 12, 3, 0, 0, .null) := by decide +kernel
theorem i_272_12 : aIns 272 12 = some (.aload_n 0, 1, 0, 0, .null) := by decide +kernel
theorem i_272_13 : aIns 272 13 = some (.getfield 82, 3, 12, 46, .null) := by decide +kernel
theorem i_272_16 : aIns 272 16 = some (.iload_n 1, 1, 0, 0, .null) := by decide +kernel
theorem i_272_17 : aIns 272 17 = some (.baload, 1, 0, 0, .null) := by decide +kernel
theorem i_272_18 : aIns 272 18 = some (.ifCond .ne 5, 3, 0, 0, .null) := by decide +kernel
theorem i_272_21 : aIns 272 21 = some (.iconst (-1), 1, 0, 0, .int (-1)) := by decide +kernel
theorem i_272_22 : aIns 272 22 = some (.ireturn, 1, 0, 0, .null) := by decide +kernel
theorem i_272_23 : aIns 272 23 = some (.aload_n 0, 1, 0, 0, .null) := by decide +kernel
theorem i_272_24 : aIns 272 24 = some (.aload_n 0, 1, 0, 0, .null) := by decide +kernel
theorem i_272_25 : aIns 272 25 = some (.getfield 76, 3, 12, 44, .null) := by decide +kernel
theorem i_272_28 : aIns 272 28 = some (.iload_n 1, 1, 0, 0, .null) := by decide +kernel
theorem i_272_29 : aIns 272 29 = some (.iaload, 1, 0, 0, .null) := by decide +kernel
theorem i_272_30 : aIns 272 30 = some (.putfield 42, 3, 12, 21, .null) := by decide +kernel
theorem i_272_33 : aIns 272 33 = some (.aload_n 0, 1, 0, 0, .null) := by decide +kernel
theorem i_272_34 : aIns 272 34 = some (.aload_n 0, 1, 0, 0, .null) := by decide +kernel
theorem i_272_35 : aIns 272 35 = some (.getfield 79, 3, 12, 45, .null) := by decide +kernel
theorem i_272_38 : aIns 272 38 = some (.iload_n 1, 1, 0, 0, .null) := by decide +kernel
theorem i_272_39 : aIns 272 39 = some (.iaload, 1, 0, 0, .null) := by decide +kernel
theorem i_272_40 : aIns 272 40 = some (.putfield 507, 3, 12, 22, .null) := by decide +kernel
theorem i_272_43 : aIns 272 43 = some (.aload_n 0, 1, 0, 0, .null) := by decide +kernel
theorem i_272_44 : aIns 272 44 = some (.iconst 0, 1, 0, 0, .int (0)) := by decide +kernel
theorem i_272_45 : aIns 272 45 = some (.putfield 278, 3, 12, 27, .null) := by decide +kernel
theorem i_272_48 : aIns 272 48 = some (.iconst 0, 1, 0, 0, .int (0)) := by decide +kernel
theorem i_272_49 : aIns 272 49 = some (.istore_n 2, 1, 0, 0, .null) := by decide +kernel
theorem i_272_50 : aIns 272 50 = some (.iload_n 2, 1, 0, 0, .null) := by decide +kernel
theorem i_272_51 : aIns 272 51 = some (.sipush 181, 3, 0, 0, .int (181)) := by decide +kernel
theorem i_272_54 : aIns 272 54 = some (.if_icmp .ge 27, 3, 0, 0, .null) := by decide +kernel
theorem i_272_57 : aIns 272 57 = some (.aload_n 0, 1, 0, 0, .null) := by decide +kernel
theorem i_272_58 : aIns 272 58 = some (.getfield 39, 3, 12, 20, .null) := by decide +kernel
theorem i_272_61 : aIns 272 61 = some (.iload_n 2, 1, 0, 0, .null) := by decide +kernel
theorem i_272_62 : aIns 272 62 = some (.aload_n 0, 1, 0, 0, .null) := by decide +kernel
theorem i_272_63 : aIns 272 63 = some (.getfield 73, 3, 12, 43, .null) := by decide +kernel
theorem i_272_66 : aIns 272 66 = some (.sipush 181, 3, 0, 0, .int (181)) := by decide +kernel
theorem i_272_69 : aIns 272 69 = some (.iload_n 1, 1, 0, 0, .null) := by decide +kernel
theorem i_272_70 : aIns 272 70 = some (.imul, 1, 0, 0, .null) := by decide +kernel
theorem i_272_71 : aIns 272 71 = some (.iload_n 2, 1, 0, 0, .null) := by decide +kernel
theorem i_272_72 : aIns 272 72 = some (.iadd, 1, 0, 0, .null) := by decide +kernel
theorem i_272_73 : aIns 272 73 = some (.iaload, 1, 0, 0, .null) := by decide +kernel
theorem i_272_74 : aIns 272 74 = some (.iastore, 1, 0, 0, .null) := by decide +kernel
theorem i_272_75 : aIns 272 75 = some (.iinc 2 1, 3, 0, 0, .null) := by decide +kernel
theorem i_272_78 : aIns 272 78 = some (.goto (-28), 3, 0, 0, .null) := by decide +kernel
theorem i_272_81 : aIns 272 81 = some (.aload_n 0, 1, 0, 0, .null) := by decide +kernel
theorem i_272_82 : aIns 272 82 = some (.getfield 39, 3, 12, 20, .null) := by decide +kernel
theorem i_272_85 : aIns 272 85 = some (.bipush 7, 2, 0, 0, .int (7)) := by decide +kernel
theorem i_272_87 : aIns 272 87 = some (.iaload, 1, 0, 0, .null) := by decide +kernel
theorem i_272_88 : aIns 272 88 = some (.ireturn, 1, 0, 0, .null) := by decide +kernel
def l_269 (g n tag : Nat) (x1 : Int32) (x2 : Int32) (x3 : Int32) (x4 : Int32) (x5 : Int32) (S : rS) : Option (Int32 × rS) := match n with
  | 0 => none
  | n + 1 => if tag = 0 then (if x1 ≤ x4 then (l_269 g n 2 x1 x2 x3 x4 0 S) else (if aIn (1 : Int32) 181 = true then (if ((S.2.1 20) (1 : Int32).toNatClampNeg) ≤ 0 then (l_269 g n 2 x1 x2 x3 x4 0 S) else (l_269 g n 1 x1 x2 x3 x4 (0 : Int32) S)) else none)) else if tag = 1 then (if x2 ≤ x5 then ((d_251 g  S).bind (fun z_5 => (l_269 g n 0 x1 x2 x3 (x4 + (1 : Int32)) 0 z_5))) else ((d_268 g  S).bind (fun z_10 => (if aIn (7 : Int32) 181 = true then (if aIn (7 : Int32) 181 = true then (l_269 g n 1 x1 x2 x3 x4 (x5 + (1 : Int32)) (rA z_10 20 (upd (z_10.2.1 20) (7 : Int32).toNatClampNeg (((z_10.2.1 20) (7 : Int32).toNatClampNeg) + (1 : Int32))))) else none) else none)))) else if tag = 2 then (if ¬ x3 = 0 then some ((S.1 42), S) else some ((S.1 41), S)) else none
set_option maxHeartbeats 4000000 in
set_option maxRecDepth 100000 in
theorem l_269_ok {X : aX} {g d : Nat} (hdp : 8 ≤ d) : ∀ n, (∀ (x1 : Int32) (x2 : Int32) (x3 : Int32) (x4 : Int32) (x5 : Int32) (S : rS) (h0 : aH) (zz : Int32 × rS), rm h0 S → l_269 g n 0 x1 x2 x3 x4 x5 S = some zz → aWp X d 269 69 [some (.ref 382), some (.int x1), some (.int x2), some (.int x3), some (.int x4), none] [] h0 (fun w h' => w = some (.int zz.1) ∧ rTo h0 zz.2 h')) ∧ (∀ (x1 : Int32) (x2 : Int32) (x3 : Int32) (x4 : Int32) (x5 : Int32) (S : rS) (h0 : aH) (zz : Int32 × rS), rm h0 S → l_269 g n 1 x1 x2 x3 x4 x5 S = some zz → aWp X d 269 87 [some (.ref 382), some (.int x1), some (.int x2), some (.int x3), some (.int x4), some (.int x5)] [] h0 (fun w h' => w = some (.int zz.1) ∧ rTo h0 zz.2 h')) ∧ (∀ (x1 : Int32) (x2 : Int32) (x3 : Int32) (x4 : Int32) (x5 : Int32) (S : rS) (h0 : aH) (zz : Int32 × rS), rm h0 S → l_269 g n 2 x1 x2 x3 x4 x5 S = some zz → aWp X d 269 124 [some (.ref 382), some (.int x1), some (.int x2), some (.int x3), some (.int x4), none] [] h0 (fun w h' => w = some (.int zz.1) ∧ rTo h0 zz.2 h')) := by
  intro n
  induction n with
  | zero => exact ⟨fun _ _ _ _ _ _ _ _ _ hd => by simp [l_269] at hd, fun _ _ _ _ _ _ _ _ _ hd => by simp [l_269] at hd, fun _ _ _ _ _ _ _ _ _ hd => by simp [l_269] at hd⟩
  | succ n ih =>
    refine ⟨?_, ?_, ?_⟩
    · intro x1 x2 x3 x4 x5 S h0 zz HS hd
      unfold l_269 at hd
      rw [if_pos rfl] at hd
      have HH := rTo.rf HS
      obtain ⟨e, rfl⟩ : ∃ e, d = e + 1 := ⟨d - 1, by omega⟩
      refine wp_s 71 [some (.ref 382), some (.int x1), some (.int x2), some (.int x3), some (.int x4), none] [.int x4] h0 i_269_69 rfl ?_
      refine wp_s 72 [some (.ref 382), some (.int x1), some (.int x2), some (.int x3), some (.int x4), none] [.int x1, .int x4] h0 i_269_71 rfl ?_
      refine wp_cmp_ge 124 75 rfl rfl i_269_72 (fun c_1 => ?_) (fun c_1 => ?_)
      · rw [if_pos c_1] at hd
        exact aWp.post (aWp.forget (ih.2.2 _ _ _ _ _ _ _ _ HH.1 hd) ((lvS (lvS (lvS (lvS (lvS (lvN lvE)))))))) (fun _ _ hq => ⟨hq.1, HH.tr hq.2⟩)
      · rw [if_neg c_1] at hd
        refine wp_s 76 [some (.ref 382), some (.int x1), some (.int x2), some (.int x3), some (.int x4), none] [.ref 382] h0 i_269_75 rfl ?_
        refine wp_get (v := .ref 392) 79 rfl i_269_76 (HH.1 0 (by decide)) rfl ?_
        refine wp_s 80 [some (.ref 382), some (.int x1), some (.int x2), some (.int x3), some (.int x4), none] [.int (1 : Int32), .ref 392] h0 i_269_79 rfl ?_
        obtain ⟨b_2, hd⟩ := dk_if hd
        refine wp_iald (f := (S.2.1 20)) 81 rfl i_269_80 (HH.1 10 (by decide)) b_2 ?_
        refine wp_if_le 124 84 rfl rfl i_269_81 (fun c_3 => ?_) (fun c_3 => ?_)
        · rw [if_pos c_3] at hd
          exact aWp.post (aWp.forget (ih.2.2 _ _ _ _ _ _ _ _ HH.1 hd) ((lvS (lvS (lvS (lvS (lvS (lvN lvE)))))))) (fun _ _ hq => ⟨hq.1, HH.tr hq.2⟩)
        · rw [if_neg c_3] at hd
          refine wp_s 85 [some (.ref 382), some (.int x1), some (.int x2), some (.int x3), some (.int x4), none] [.int (0 : Int32)] h0 i_269_84 rfl ?_
          refine wp_s 87 [some (.ref 382), some (.int x1), some (.int x2), some (.int x3), some (.int x4), some (.int (0 : Int32))] [] h0 i_269_85 rfl ?_
          exact aWp.post (aWp.forget (ih.2.1 _ _ _ _ _ _ _ _ HH.1 hd) ((lvS (lvS (lvS (lvS (lvS (lvS lvE)))))))) (fun _ _ hq => ⟨hq.1, HH.tr hq.2⟩)
    · intro x1 x2 x3 x4 x5 S h0 zz HS hd
      unfold l_269 at hd
      rw [if_neg (by decide), if_pos rfl] at hd
      have HH := rTo.rf HS
      obtain ⟨e, rfl⟩ : ∃ e, d = e + 1 := ⟨d - 1, by omega⟩
      refine wp_s 89 [some (.ref 382), some (.int x1), some (.int x2), some (.int x3), some (.int x4), some (.int x5)] [.int x5] h0 i_269_87 rfl ?_
      refine wp_s 90 [some (.ref 382), some (.int x1), some (.int x2), some (.int x3), some (.int x4), some (.int x5)] [.int x2, .int x5] h0 i_269_89 rfl ?_
      refine wp_cmp_ge 114 93 rfl rfl i_269_90 (fun c_4 => ?_) (fun c_4 => ?_)
      · rw [if_pos c_4] at hd
        refine wp_s 115 [some (.ref 382), some (.int x1), some (.int x2), some (.int x3), some (.int x4), some (.int x5)] [.ref 382] h0 i_269_114 rfl ?_
        obtain ⟨z_5, q_6, hd⟩ := dk_bind hd
        refine wp_callV 118 rfl i_269_115 (by decide) rfl (vs := []) (rest := []) rfl rfl rfl (HH.1 0 (by decide)) (y := m_251) rfl (Nat.le_of_ble_eq_true rfl) (d_251_ok (d := e) (by omega) HH.1 q_6) ?_
        rintro v_9 h_7 ⟨rfl, H_8⟩
        have H_8 := HH.tr H_8
        refine wp_s 121 [some (.ref 382), some (.int x1), some (.int x2), some (.int x3), some (.int (x4 + (1 : Int32))), some (.int x5)] [] h_7 i_269_118 rfl ?_
        refine wp_s 69 [some (.ref 382), some (.int x1), some (.int x2), some (.int x3), some (.int (x4 + (1 : Int32))), some (.int x5)] [] h_7 i_269_121 rfl ?_
        exact aWp.post (aWp.forget (ih.1 _ _ _ _ _ _ _ _ H_8.1 hd) ((lvS (lvS (lvS (lvS (lvS (lvN lvE)))))))) (fun _ _ hq => ⟨hq.1, H_8.tr hq.2⟩)
      · rw [if_neg c_4] at hd
        refine wp_s 94 [some (.ref 382), some (.int x1), some (.int x2), some (.int x3), some (.int x4), some (.int x5)] [.ref 382] h0 i_269_93 rfl ?_
        obtain ⟨z_10, q_11, hd⟩ := dk_bind hd
        refine wp_callV 97 rfl i_269_94 (by decide) rfl (vs := []) (rest := []) rfl rfl rfl (HH.1 0 (by decide)) (y := m_268) rfl (Nat.le_of_ble_eq_true rfl) (d_268_ok (d := e) (by omega) HH.1 q_11) ?_
        rintro v_14 h_12 ⟨rfl, H_13⟩
        have H_13 := HH.tr H_13
        refine wp_s 98 [some (.ref 382), some (.int x1), some (.int x2), some (.int x3), some (.int x4), some (.int x5)] [.ref 382] h_12 i_269_97 rfl ?_
        refine wp_get (v := .ref 392) 101 rfl i_269_98 (H_13.1 0 (by decide)) rfl ?_
        refine wp_s 103 [some (.ref 382), some (.int x1), some (.int x2), some (.int x3), some (.int x4), some (.int x5)] [.int (7 : Int32), .ref 392] h_12 i_269_101 rfl ?_
        refine wp_s 104 [some (.ref 382), some (.int x1), some (.int x2), some (.int x3), some (.int x4), some (.int x5)] [.int (7 : Int32), .ref 392, .int (7 : Int32), .ref 392] h_12 i_269_103 rfl ?_
        obtain ⟨b_15, hd⟩ := dk_if hd
        refine wp_iald (f := (z_10.2.1 20)) 105 rfl i_269_104 (H_13.1 10 (by decide)) b_15 ?_
        refine wp_s 106 [some (.ref 382), some (.int x1), some (.int x2), some (.int x3), some (.int x4), some (.int x5)] [.int (1 : Int32), .int ((z_10.2.1 20) (7 : Int32).toNatClampNeg), .int (7 : Int32), .ref 392] h_12 i_269_105 rfl ?_
        refine wp_s 107 [some (.ref 382), some (.int x1), some (.int x2), some (.int x3), some (.int x4), some (.int x5)] [.int (((z_10.2.1 20) (7 : Int32).toNatClampNeg) + (1 : Int32)), .int (7 : Int32), .ref 392] h_12 i_269_106 rfl ?_
        obtain ⟨b_16, hd⟩ := dk_if hd
        refine rq_A20 108 rfl i_269_107 H_13 b_16 (fun h_17 H_18 => ?_)
        refine wp_s 111 [some (.ref 382), some (.int x1), some (.int x2), some (.int x3), some (.int x4), some (.int (x5 + (1 : Int32)))] [] h_17 i_269_108 rfl ?_
        refine wp_s 87 [some (.ref 382), some (.int x1), some (.int x2), some (.int x3), some (.int x4), some (.int (x5 + (1 : Int32)))] [] h_17 i_269_111 rfl ?_
        exact aWp.post (aWp.forget (ih.2.1 _ _ _ _ _ _ _ _ H_18.1 hd) ((lvS (lvS (lvS (lvS (lvS (lvS lvE)))))))) (fun _ _ hq => ⟨hq.1, H_18.tr hq.2⟩)
    · intro x1 x2 x3 x4 x5 S h0 zz HS hd
      unfold l_269 at hd
      rw [if_neg (by decide), if_neg (by decide), if_pos rfl] at hd
      have HH := rTo.rf HS
      obtain ⟨e, rfl⟩ : ∃ e, d = e + 1 := ⟨d - 1, by omega⟩
      refine wp_s 125 [some (.ref 382), some (.int x1), some (.int x2), some (.int x3), some (.int x4), none] [.int x3] h0 i_269_124 rfl ?_
      refine wp_if_ne 135 128 rfl rfl i_269_125 (fun c_19 => ?_) (fun c_19 => ?_)
      · rw [if_pos c_19] at hd
        refine wp_s 136 [some (.ref 382), some (.int x1), some (.int x2), some (.int x3), some (.int x4), none] [.ref 382] h0 i_269_135 rfl ?_
        refine wp_get (v := .int (S.1 42)) 139 rfl i_269_136 (HH.1 0 (by decide)) rfl ?_
        obtain rfl := Option.some.inj hd
        exact wp_iret i_269_139 ⟨rfl, HH⟩
      · rw [if_neg c_19] at hd
        refine wp_s 129 [some (.ref 382), some (.int x1), some (.int x2), some (.int x3), some (.int x4), none] [.ref 382] h0 i_269_128 rfl ?_
        refine wp_get (v := .int (S.1 41)) 132 rfl i_269_129 (HH.1 0 (by decide)) rfl ?_
        refine wp_s 139 [some (.ref 382), some (.int x1), some (.int x2), some (.int x3), some (.int x4), none] [.int (S.1 41)] h0 i_269_132 rfl ?_
        obtain rfl := Option.some.inj hd
        exact wp_iret i_269_139 ⟨rfl, HH⟩
def d_269 (g : Nat) (x1 : Int32) (x2 : Int32) (x3 : Int32) (S : rS) : Option (Int32 × rS) := ((d_187 g  S).bind (fun z_1001 => (if z_1001.1 = 0 then some ((-1 : Int32), z_1001.2) else ((d_140 g (x1.toInt64) (1 : Int64) (10 : Int64) z_1001.2).bind (fun z_1007 => (if z_1007.1 = 0 then some ((-1 : Int32), z_1007.2) else ((d_140 g (x2.toInt64) (1 : Int64) (60 : Int64) z_1007.2).bind (fun z_1013 => (if z_1013.1 = 0 then some ((-1 : Int32), z_1013.2) else ((d_140 g (x3.toInt64) (0 : Int64) (1 : Int64) z_1013.2).bind (fun z_1019 => (if ¬ z_1019.1 = 0 then ((d_250 g  (rF (rF (rX z_1019.2 ((z_1019.2.1 22).toInt64)) 41 (0 : Int32)) 42 (0 : Int32))).bind (fun z_1031 => (l_269 g g 0 x1 x2 x3 (0 : Int32) 0 z_1031))) else some ((-1 : Int32), z_1019.2)))))))))))))
set_option maxHeartbeats 4000000 in
set_option maxRecDepth 100000 in
theorem d_269_ok {X : aX} {g d : Nat} {x1 : Int32} {x2 : Int32} {x3 : Int32} {S : rS} {h0 : aH} {zz : Int32 × rS} (hdp : 8 ≤ d) (HS : rm h0 S) (hd : d_269 g x1 x2 x3 S = some zz) : aWp X d 269 0 (aEntL [.ref 382, .int x1, .int x2, .int x3] 6) [] h0 (fun w h' => w = some (.int zz.1) ∧ rTo h0 zz.2 h') := by
  unfold d_269 at hd
  have HH := rTo.rf HS
  refine wp_lv (l2 := [some (.ref 382), some (.int x1), some (.int x2), some (.int x3), none, none]) rfl ?_
  obtain ⟨e, rfl⟩ : ∃ e, d = e + 1 := ⟨d - 1, by omega⟩
  refine wp_s 1 [some (.ref 382), some (.int x1), some (.int x2), some (.int x3), none, none] [.ref 382] h0 i_269_0 rfl ?_
  obtain ⟨z_1001, q_1002, hd⟩ := dk_bind hd
  refine wp_callV 4 rfl i_269_1 (by decide) rfl (vs := []) (rest := []) rfl rfl rfl (HH.1 0 (by decide)) (y := m_187) rfl (Nat.le_of_ble_eq_true rfl) (d_187_ok (d := e) (by omega) HH.1 q_1002) ?_
  rintro v_1005 h_1003 ⟨rfl, H_1004⟩
  have H_1004 := HH.tr H_1004
  refine wp_if_eq 41 7 rfl rfl i_269_4 (fun c_1006 => ?_) (fun c_1006 => ?_)
  · rw [if_pos c_1006] at hd
    refine wp_s 42 [some (.ref 382), some (.int x1), some (.int x2), some (.int x3), none, none] [.int (-1 : Int32)] h_1003 i_269_41 rfl ?_
    obtain rfl := Option.some.inj hd
    exact wp_iret i_269_42 ⟨rfl, H_1004⟩
  · rw [if_neg c_1006] at hd
    refine wp_s 8 [some (.ref 382), some (.int x1), some (.int x2), some (.int x3), none, none] [.int x1] h_1003 i_269_7 rfl ?_
    refine wp_s 9 [some (.ref 382), some (.int x1), some (.int x2), some (.int x3), none, none] [.long (x1.toInt64)] h_1003 i_269_8 rfl ?_
    refine wp_s 10 [some (.ref 382), some (.int x1), some (.int x2), some (.int x3), none, none] [.long (1 : Int64), .long (x1.toInt64)] h_1003 i_269_9 rfl ?_
    refine wp_s 13 [some (.ref 382), some (.int x1), some (.int x2), some (.int x3), none, none] [.long (10 : Int64), .long (1 : Int64), .long (x1.toInt64)] h_1003 i_269_10 rfl ?_
    obtain ⟨z_1007, q_1008, hd⟩ := dk_bind hd
    refine wp_callS 16 rfl i_269_13 (by decide) (vs := [.long (x1.toInt64), .long (1 : Int64), .long (10 : Int64)]) (rest := []) rfl rfl rfl (y := m_140) rfl (Nat.le_of_ble_eq_true rfl) (d_140_ok (d := e) (by omega) H_1004.1 q_1008) ?_
    rintro v_1011 h_1009 ⟨rfl, H_1010⟩
    have H_1010 := H_1004.tr H_1010
    refine wp_if_eq 41 19 rfl rfl i_269_16 (fun c_1012 => ?_) (fun c_1012 => ?_)
    · rw [if_pos c_1012] at hd
      refine wp_s 42 [some (.ref 382), some (.int x1), some (.int x2), some (.int x3), none, none] [.int (-1 : Int32)] h_1009 i_269_41 rfl ?_
      obtain rfl := Option.some.inj hd
      exact wp_iret i_269_42 ⟨rfl, H_1010⟩
    · rw [if_neg c_1012] at hd
      refine wp_s 20 [some (.ref 382), some (.int x1), some (.int x2), some (.int x3), none, none] [.int x2] h_1009 i_269_19 rfl ?_
      refine wp_s 21 [some (.ref 382), some (.int x1), some (.int x2), some (.int x3), none, none] [.long (x2.toInt64)] h_1009 i_269_20 rfl ?_
      refine wp_s 22 [some (.ref 382), some (.int x1), some (.int x2), some (.int x3), none, none] [.long (1 : Int64), .long (x2.toInt64)] h_1009 i_269_21 rfl ?_
      refine wp_s 25 [some (.ref 382), some (.int x1), some (.int x2), some (.int x3), none, none] [.long (60 : Int64), .long (1 : Int64), .long (x2.toInt64)] h_1009 i_269_22 rfl ?_
      obtain ⟨z_1013, q_1014, hd⟩ := dk_bind hd
      refine wp_callS 28 rfl i_269_25 (by decide) (vs := [.long (x2.toInt64), .long (1 : Int64), .long (60 : Int64)]) (rest := []) rfl rfl rfl (y := m_140) rfl (Nat.le_of_ble_eq_true rfl) (d_140_ok (d := e) (by omega) H_1010.1 q_1014) ?_
      rintro v_1017 h_1015 ⟨rfl, H_1016⟩
      have H_1016 := H_1010.tr H_1016
      refine wp_if_eq 41 31 rfl rfl i_269_28 (fun c_1018 => ?_) (fun c_1018 => ?_)
      · rw [if_pos c_1018] at hd
        refine wp_s 42 [some (.ref 382), some (.int x1), some (.int x2), some (.int x3), none, none] [.int (-1 : Int32)] h_1015 i_269_41 rfl ?_
        obtain rfl := Option.some.inj hd
        exact wp_iret i_269_42 ⟨rfl, H_1016⟩
      · rw [if_neg c_1018] at hd
        refine wp_s 32 [some (.ref 382), some (.int x1), some (.int x2), some (.int x3), none, none] [.int x3] h_1015 i_269_31 rfl ?_
        refine wp_s 33 [some (.ref 382), some (.int x1), some (.int x2), some (.int x3), none, none] [.long (x3.toInt64)] h_1015 i_269_32 rfl ?_
        refine wp_s 34 [some (.ref 382), some (.int x1), some (.int x2), some (.int x3), none, none] [.long (0 : Int64), .long (x3.toInt64)] h_1015 i_269_33 rfl ?_
        refine wp_s 35 [some (.ref 382), some (.int x1), some (.int x2), some (.int x3), none, none] [.long (1 : Int64), .long (0 : Int64), .long (x3.toInt64)] h_1015 i_269_34 rfl ?_
        obtain ⟨z_1019, q_1020, hd⟩ := dk_bind hd
        refine wp_callS 38 rfl i_269_35 (by decide) (vs := [.long (x3.toInt64), .long (0 : Int64), .long (1 : Int64)]) (rest := []) rfl rfl rfl (y := m_140) rfl (Nat.le_of_ble_eq_true rfl) (d_140_ok (d := e) (by omega) H_1016.1 q_1020) ?_
        rintro v_1023 h_1021 ⟨rfl, H_1022⟩
        have H_1022 := H_1016.tr H_1022
        refine wp_if_ne 43 41 rfl rfl i_269_38 (fun c_1024 => ?_) (fun c_1024 => ?_)
        · rw [if_pos c_1024] at hd
          refine wp_s 44 [some (.ref 382), some (.int x1), some (.int x2), some (.int x3), none, none] [.ref 382] h_1021 i_269_43 rfl ?_
          refine wp_s 45 [some (.ref 382), some (.int x1), some (.int x2), some (.int x3), none, none] [.ref 382, .ref 382] h_1021 i_269_44 rfl ?_
          refine wp_get (v := .int (z_1019.2.1 22)) 48 rfl i_269_45 (H_1022.1 0 (by decide)) rfl ?_
          refine wp_s 49 [some (.ref 382), some (.int x1), some (.int x2), some (.int x3), none, none] [.long ((z_1019.2.1 22).toInt64), .ref 382] h_1021 i_269_48 rfl ?_
          refine rq_F40 52 rfl i_269_49 H_1022 (fun h_1025 H_1026 => ?_)
          refine wp_s 53 [some (.ref 382), some (.int x1), some (.int x2), some (.int x3), none, none] [.ref 382] h_1025 i_269_52 rfl ?_
          refine wp_s 54 [some (.ref 382), some (.int x1), some (.int x2), some (.int x3), none, none] [.int (0 : Int32), .ref 382] h_1025 i_269_53 rfl ?_
          refine rq_F41 57 rfl i_269_54 H_1026 (fun h_1027 H_1028 => ?_)
          refine wp_s 58 [some (.ref 382), some (.int x1), some (.int x2), some (.int x3), none, none] [.ref 382] h_1027 i_269_57 rfl ?_
          refine wp_s 59 [some (.ref 382), some (.int x1), some (.int x2), some (.int x3), none, none] [.int (0 : Int32), .ref 382] h_1027 i_269_58 rfl ?_
          refine rq_F42 62 rfl i_269_59 H_1028 (fun h_1029 H_1030 => ?_)
          refine wp_s 63 [some (.ref 382), some (.int x1), some (.int x2), some (.int x3), none, none] [.ref 382] h_1029 i_269_62 rfl ?_
          obtain ⟨z_1031, q_1032, hd⟩ := dk_bind hd
          refine wp_callV 66 rfl i_269_63 (by decide) rfl (vs := []) (rest := []) rfl rfl rfl (H_1030.1 0 (by decide)) (y := m_250) rfl (Nat.le_of_ble_eq_true rfl) (d_250_ok (d := e) (by omega) H_1030.1 q_1032) ?_
          rintro v_1035 h_1033 ⟨rfl, H_1034⟩
          have H_1034 := H_1030.tr H_1034
          refine wp_s 67 [some (.ref 382), some (.int x1), some (.int x2), some (.int x3), none, none] [.int (0 : Int32)] h_1033 i_269_66 rfl ?_
          refine wp_s 69 [some (.ref 382), some (.int x1), some (.int x2), some (.int x3), some (.int (0 : Int32)), none] [] h_1033 i_269_67 rfl ?_
          exact aWp.post (aWp.forget ((l_269_ok hdp g).1 _ _ _ _ _ _ _ _ H_1034.1 hd) ((lvS (lvS (lvS (lvS (lvS (lvN lvE)))))))) (fun _ _ hq => ⟨hq.1, H_1034.tr hq.2⟩)
        · rw [if_neg c_1024] at hd
          refine wp_s 42 [some (.ref 382), some (.int x1), some (.int x2), some (.int x3), none, none] [.int (-1 : Int32)] h_1021 i_269_41 rfl ?_
          obtain rfl := Option.some.inj hd
          exact wp_iret i_269_42 ⟨rfl, H_1022⟩
def d_270 (g : Nat) (x1 : Int32) (S : rS) : Option (Int32 × rS) := (if x1 = (0 : Int32) then (if aIn (4 : Int32) 181 = true then some (((S.2.1 20) (4 : Int32).toNatClampNeg), S) else none) else (if x1 = (1 : Int32) then (if aIn (5 : Int32) 181 = true then some (((S.2.1 20) (5 : Int32).toNatClampNeg), S) else none) else (if x1 = (2 : Int32) then (if aIn (1 : Int32) 181 = true then some (((S.2.1 20) (1 : Int32).toNatClampNeg), S) else none) else (if x1 = (3 : Int32) then (if aIn (2 : Int32) 181 = true then some (((S.2.1 20) (2 : Int32).toNatClampNeg), S) else none) else (if x1 = (4 : Int32) then (if aIn (3 : Int32) 181 = true then some (((S.2.1 20) (3 : Int32).toNatClampNeg), S) else none) else (if x1 = (5 : Int32) then some ((S.1 2), S) else (if x1 = (6 : Int32) then some ((S.1 21), S) else (if x1 = (7 : Int32) then (if aIn (7 : Int32) 181 = true then some (((S.2.1 20) (7 : Int32).toNatClampNeg), S) else none) else (if x1 = (8 : Int32) then (if aIn (8 : Int32) 181 = true then some (((S.2.1 20) (8 : Int32).toNatClampNeg), S) else none) else (if x1 = (9 : Int32) then ((d_209 g  S).bind (fun z_18 => some (z_18.1, z_18.2))) else (if x1 = (10 : Int32) then (if aIn (9 : Int32) 181 = true then some (((S.2.1 20) (9 : Int32).toNatClampNeg), S) else none) else (if x1 = (11 : Int32) then (if aIn (180 : Int32) 181 = true then some (((S.2.1 20) (180 : Int32).toNatClampNeg), S) else none) else (if x1 = (12 : Int32) then some ((S.1 27), S) else (if x1 = (13 : Int32) then some ((S.1 22), S) else (if x1 = (14 : Int32) then some ((S.1 1), S) else some ((-1 : Int32), S))))))))))))))))
set_option maxHeartbeats 4000000 in
set_option maxRecDepth 100000 in
theorem d_270_ok {X : aX} {g d : Nat} {x1 : Int32} {S : rS} {h0 : aH} {zz : Int32 × rS} (hdp : 2 ≤ d) (HS : rm h0 S) (hd : d_270 g x1 S = some zz) : aWp X d 270 0 (aEntL [.ref 382, .int x1] 2) [] h0 (fun w h' => w = some (.int zz.1) ∧ rTo h0 zz.2 h') := by
  unfold d_270 at hd
  have HH := rTo.rf HS
  refine wp_lv (l2 := [some (.ref 382), some (.int x1)]) rfl ?_
  obtain ⟨e, rfl⟩ : ∃ e, d = e + 1 := ⟨d - 1, by omega⟩
  refine wp_s 1 [some (.ref 382), some (.int x1)] [.int x1] h0 i_270_0 rfl ?_
  by_cases c_1 : x1 = (0 : Int32)
  · rw [if_pos c_1] at hd
    refine wp_tswC (j := 0) 76 i_270_1 (by rw [c_1]; decide) (by decide) rfl rfl ?_
    refine wp_s 77 [some (.ref 382), some (.int x1)] [.ref 382] h0 i_270_76 rfl ?_
    refine wp_get (v := .ref 392) 80 rfl i_270_77 (HH.1 0 (by decide)) rfl ?_
    refine wp_s 81 [some (.ref 382), some (.int x1)] [.int (4 : Int32), .ref 392] h0 i_270_80 rfl ?_
    obtain ⟨b_2, hd⟩ := dk_if hd
    refine wp_iald (f := (S.2.1 20)) 82 rfl i_270_81 (HH.1 10 (by decide)) b_2 ?_
    obtain rfl := Option.some.inj hd
    exact wp_iret i_270_82 ⟨rfl, HH⟩
  rw [if_neg c_1] at hd
  by_cases c_3 : x1 = (1 : Int32)
  · rw [if_pos c_3] at hd
    refine wp_tswC (j := 1) 83 i_270_1 (by rw [c_3]; decide) (by decide) rfl rfl ?_
    refine wp_s 84 [some (.ref 382), some (.int x1)] [.ref 382] h0 i_270_83 rfl ?_
    refine wp_get (v := .ref 392) 87 rfl i_270_84 (HH.1 0 (by decide)) rfl ?_
    refine wp_s 88 [some (.ref 382), some (.int x1)] [.int (5 : Int32), .ref 392] h0 i_270_87 rfl ?_
    obtain ⟨b_4, hd⟩ := dk_if hd
    refine wp_iald (f := (S.2.1 20)) 89 rfl i_270_88 (HH.1 10 (by decide)) b_4 ?_
    obtain rfl := Option.some.inj hd
    exact wp_iret i_270_89 ⟨rfl, HH⟩
  rw [if_neg c_3] at hd
  by_cases c_5 : x1 = (2 : Int32)
  · rw [if_pos c_5] at hd
    refine wp_tswC (j := 2) 90 i_270_1 (by rw [c_5]; decide) (by decide) rfl rfl ?_
    refine wp_s 91 [some (.ref 382), some (.int x1)] [.ref 382] h0 i_270_90 rfl ?_
    refine wp_get (v := .ref 392) 94 rfl i_270_91 (HH.1 0 (by decide)) rfl ?_
    refine wp_s 95 [some (.ref 382), some (.int x1)] [.int (1 : Int32), .ref 392] h0 i_270_94 rfl ?_
    obtain ⟨b_6, hd⟩ := dk_if hd
    refine wp_iald (f := (S.2.1 20)) 96 rfl i_270_95 (HH.1 10 (by decide)) b_6 ?_
    obtain rfl := Option.some.inj hd
    exact wp_iret i_270_96 ⟨rfl, HH⟩
  rw [if_neg c_5] at hd
  by_cases c_7 : x1 = (3 : Int32)
  · rw [if_pos c_7] at hd
    refine wp_tswC (j := 3) 97 i_270_1 (by rw [c_7]; decide) (by decide) rfl rfl ?_
    refine wp_s 98 [some (.ref 382), some (.int x1)] [.ref 382] h0 i_270_97 rfl ?_
    refine wp_get (v := .ref 392) 101 rfl i_270_98 (HH.1 0 (by decide)) rfl ?_
    refine wp_s 102 [some (.ref 382), some (.int x1)] [.int (2 : Int32), .ref 392] h0 i_270_101 rfl ?_
    obtain ⟨b_8, hd⟩ := dk_if hd
    refine wp_iald (f := (S.2.1 20)) 103 rfl i_270_102 (HH.1 10 (by decide)) b_8 ?_
    obtain rfl := Option.some.inj hd
    exact wp_iret i_270_103 ⟨rfl, HH⟩
  rw [if_neg c_7] at hd
  by_cases c_9 : x1 = (4 : Int32)
  · rw [if_pos c_9] at hd
    refine wp_tswC (j := 4) 104 i_270_1 (by rw [c_9]; decide) (by decide) rfl rfl ?_
    refine wp_s 105 [some (.ref 382), some (.int x1)] [.ref 382] h0 i_270_104 rfl ?_
    refine wp_get (v := .ref 392) 108 rfl i_270_105 (HH.1 0 (by decide)) rfl ?_
    refine wp_s 109 [some (.ref 382), some (.int x1)] [.int (3 : Int32), .ref 392] h0 i_270_108 rfl ?_
    obtain ⟨b_10, hd⟩ := dk_if hd
    refine wp_iald (f := (S.2.1 20)) 110 rfl i_270_109 (HH.1 10 (by decide)) b_10 ?_
    obtain rfl := Option.some.inj hd
    exact wp_iret i_270_110 ⟨rfl, HH⟩
  rw [if_neg c_9] at hd
  by_cases c_11 : x1 = (5 : Int32)
  · rw [if_pos c_11] at hd
    refine wp_tswC (j := 5) 111 i_270_1 (by rw [c_11]; decide) (by decide) rfl rfl ?_
    refine wp_s 112 [some (.ref 382), some (.int x1)] [.ref 382] h0 i_270_111 rfl ?_
    refine wp_get (v := .int (S.1 2)) 115 rfl i_270_112 (HH.1 0 (by decide)) rfl ?_
    obtain rfl := Option.some.inj hd
    exact wp_iret i_270_115 ⟨rfl, HH⟩
  rw [if_neg c_11] at hd
  by_cases c_12 : x1 = (6 : Int32)
  · rw [if_pos c_12] at hd
    refine wp_tswC (j := 6) 116 i_270_1 (by rw [c_12]; decide) (by decide) rfl rfl ?_
    refine wp_s 117 [some (.ref 382), some (.int x1)] [.ref 382] h0 i_270_116 rfl ?_
    refine wp_get (v := .int (S.1 21)) 120 rfl i_270_117 (HH.1 0 (by decide)) rfl ?_
    obtain rfl := Option.some.inj hd
    exact wp_iret i_270_120 ⟨rfl, HH⟩
  rw [if_neg c_12] at hd
  by_cases c_13 : x1 = (7 : Int32)
  · rw [if_pos c_13] at hd
    refine wp_tswC (j := 7) 121 i_270_1 (by rw [c_13]; decide) (by decide) rfl rfl ?_
    refine wp_s 122 [some (.ref 382), some (.int x1)] [.ref 382] h0 i_270_121 rfl ?_
    refine wp_get (v := .ref 392) 125 rfl i_270_122 (HH.1 0 (by decide)) rfl ?_
    refine wp_s 127 [some (.ref 382), some (.int x1)] [.int (7 : Int32), .ref 392] h0 i_270_125 rfl ?_
    obtain ⟨b_14, hd⟩ := dk_if hd
    refine wp_iald (f := (S.2.1 20)) 128 rfl i_270_127 (HH.1 10 (by decide)) b_14 ?_
    obtain rfl := Option.some.inj hd
    exact wp_iret i_270_128 ⟨rfl, HH⟩
  rw [if_neg c_13] at hd
  by_cases c_15 : x1 = (8 : Int32)
  · rw [if_pos c_15] at hd
    refine wp_tswC (j := 8) 129 i_270_1 (by rw [c_15]; decide) (by decide) rfl rfl ?_
    refine wp_s 130 [some (.ref 382), some (.int x1)] [.ref 382] h0 i_270_129 rfl ?_
    refine wp_get (v := .ref 392) 133 rfl i_270_130 (HH.1 0 (by decide)) rfl ?_
    refine wp_s 135 [some (.ref 382), some (.int x1)] [.int (8 : Int32), .ref 392] h0 i_270_133 rfl ?_
    obtain ⟨b_16, hd⟩ := dk_if hd
    refine wp_iald (f := (S.2.1 20)) 136 rfl i_270_135 (HH.1 10 (by decide)) b_16 ?_
    obtain rfl := Option.some.inj hd
    exact wp_iret i_270_136 ⟨rfl, HH⟩
  rw [if_neg c_15] at hd
  by_cases c_17 : x1 = (9 : Int32)
  · rw [if_pos c_17] at hd
    refine wp_tswC (j := 9) 137 i_270_1 (by rw [c_17]; decide) (by decide) rfl rfl ?_
    refine wp_s 138 [some (.ref 382), some (.int x1)] [.ref 382] h0 i_270_137 rfl ?_
    obtain ⟨z_18, q_19, hd⟩ := dk_bind hd
    refine wp_callV 141 rfl i_270_138 (by decide) rfl (vs := []) (rest := []) rfl rfl rfl (HH.1 0 (by decide)) (y := m_209) rfl (Nat.le_of_ble_eq_true rfl) (d_209_ok (d := e) (by omega) HH.1 q_19) ?_
    rintro v_22 h_20 ⟨rfl, H_21⟩
    have H_21 := HH.tr H_21
    obtain rfl := Option.some.inj hd
    exact wp_iret i_270_141 ⟨rfl, H_21⟩
  rw [if_neg c_17] at hd
  by_cases c_23 : x1 = (10 : Int32)
  · rw [if_pos c_23] at hd
    refine wp_tswC (j := 10) 142 i_270_1 (by rw [c_23]; decide) (by decide) rfl rfl ?_
    refine wp_s 143 [some (.ref 382), some (.int x1)] [.ref 382] h0 i_270_142 rfl ?_
    refine wp_get (v := .ref 392) 146 rfl i_270_143 (HH.1 0 (by decide)) rfl ?_
    refine wp_s 148 [some (.ref 382), some (.int x1)] [.int (9 : Int32), .ref 392] h0 i_270_146 rfl ?_
    obtain ⟨b_24, hd⟩ := dk_if hd
    refine wp_iald (f := (S.2.1 20)) 149 rfl i_270_148 (HH.1 10 (by decide)) b_24 ?_
    obtain rfl := Option.some.inj hd
    exact wp_iret i_270_149 ⟨rfl, HH⟩
  rw [if_neg c_23] at hd
  by_cases c_25 : x1 = (11 : Int32)
  · rw [if_pos c_25] at hd
    refine wp_tswC (j := 11) 150 i_270_1 (by rw [c_25]; decide) (by decide) rfl rfl ?_
    refine wp_s 151 [some (.ref 382), some (.int x1)] [.ref 382] h0 i_270_150 rfl ?_
    refine wp_get (v := .ref 392) 154 rfl i_270_151 (HH.1 0 (by decide)) rfl ?_
    refine wp_s 157 [some (.ref 382), some (.int x1)] [.int (180 : Int32), .ref 392] h0 i_270_154 rfl ?_
    obtain ⟨b_26, hd⟩ := dk_if hd
    refine wp_iald (f := (S.2.1 20)) 158 rfl i_270_157 (HH.1 10 (by decide)) b_26 ?_
    obtain rfl := Option.some.inj hd
    exact wp_iret i_270_158 ⟨rfl, HH⟩
  rw [if_neg c_25] at hd
  by_cases c_27 : x1 = (12 : Int32)
  · rw [if_pos c_27] at hd
    refine wp_tswC (j := 12) 159 i_270_1 (by rw [c_27]; decide) (by decide) rfl rfl ?_
    refine wp_s 160 [some (.ref 382), some (.int x1)] [.ref 382] h0 i_270_159 rfl ?_
    refine wp_get (v := .int (S.1 27)) 163 rfl i_270_160 (HH.1 0 (by decide)) rfl ?_
    obtain rfl := Option.some.inj hd
    exact wp_iret i_270_163 ⟨rfl, HH⟩
  rw [if_neg c_27] at hd
  by_cases c_28 : x1 = (13 : Int32)
  · rw [if_pos c_28] at hd
    refine wp_tswC (j := 13) 164 i_270_1 (by rw [c_28]; decide) (by decide) rfl rfl ?_
    refine wp_s 165 [some (.ref 382), some (.int x1)] [.ref 382] h0 i_270_164 rfl ?_
    refine wp_get (v := .int (S.1 22)) 168 rfl i_270_165 (HH.1 0 (by decide)) rfl ?_
    obtain rfl := Option.some.inj hd
    exact wp_iret i_270_168 ⟨rfl, HH⟩
  rw [if_neg c_28] at hd
  by_cases c_29 : x1 = (14 : Int32)
  · rw [if_pos c_29] at hd
    refine wp_tswC (j := 14) 169 i_270_1 (by rw [c_29]; decide) (by decide) rfl rfl ?_
    refine wp_s 170 [some (.ref 382), some (.int x1)] [.ref 382] h0 i_270_169 rfl ?_
    refine wp_get (v := .int (S.1 1)) 173 rfl i_270_170 (HH.1 0 (by decide)) rfl ?_
    obtain rfl := Option.some.inj hd
    exact wp_iret i_270_173 ⟨rfl, HH⟩
  rw [if_neg c_29] at hd
  have o_30 : (x1).toInt < (0 : Int) ∨ (14 : Int) < (x1).toInt := by
    have e_0 := lv_neT c_1 (a := 0) (by decide)
    have e_1 := lv_neT c_3 (a := 1) (by decide)
    have e_2 := lv_neT c_5 (a := 2) (by decide)
    have e_3 := lv_neT c_7 (a := 3) (by decide)
    have e_4 := lv_neT c_9 (a := 4) (by decide)
    have e_5 := lv_neT c_11 (a := 5) (by decide)
    have e_6 := lv_neT c_12 (a := 6) (by decide)
    have e_7 := lv_neT c_13 (a := 7) (by decide)
    have e_8 := lv_neT c_15 (a := 8) (by decide)
    have e_9 := lv_neT c_17 (a := 9) (by decide)
    have e_10 := lv_neT c_23 (a := 10) (by decide)
    have e_11 := lv_neT c_25 (a := 11) (by decide)
    have e_12 := lv_neT c_27 (a := 12) (by decide)
    have e_13 := lv_neT c_28 (a := 13) (by decide)
    have e_14 := lv_neT c_29 (a := 14) (by decide)
    omega
  refine wp_tswD 174 i_270_1 o_30 rfl ?_
  refine wp_s 175 [some (.ref 382), some (.int x1)] [.int (-1 : Int32)] h0 i_270_174 rfl ?_
  obtain rfl := Option.some.inj hd
  exact wp_iret i_270_175 ⟨rfl, HH⟩
def l_271 (g n tag : Nat) (x1 : Int32) (x2 : Int32) (S : rS) : Option (Int32 × rS) := match n with
  | 0 => none
  | n + 1 => if tag = 0 then (if (181 : Int32) ≤ x2 then (if aIn (7 : Int32) 181 = true then some (((S.2.1 20) (7 : Int32).toNatClampNeg), S) else none) else (if aIn x2 181 = true then (if aIn (((181 : Int32) * x1) + x2) 724 = true then (l_271 g n 0 x1 (x2 + (1 : Int32)) (rA S 43 (upd (S.2.1 43) (((181 : Int32) * x1) + x2).toNatClampNeg ((S.2.1 20) x2.toNatClampNeg)))) else none) else none)) else none
set_option maxHeartbeats 4000000 in
set_option maxRecDepth 100000 in
theorem l_271_ok {X : aX} {g d : Nat} (hdp : 1 ≤ d) : ∀ n, (∀ (x1 : Int32) (x2 : Int32) (S : rS) (h0 : aH) (zz : Int32 × rS), rm h0 S → l_271 g n 0 x1 x2 S = some zz → aWp X d 271 43 [some (.ref 382), some (.int x1), some (.int x2)] [] h0 (fun w h' => w = some (.int zz.1) ∧ rTo h0 zz.2 h')) := by
  intro n
  induction n with
  | zero => exact fun _ _ _ _ _ _ hd => by simp [l_271] at hd
  | succ n ih =>
    intro x1 x2 S h0 zz HS hd
    unfold l_271 at hd
    rw [if_pos rfl] at hd
    have HH := rTo.rf HS
    obtain ⟨e, rfl⟩ : ∃ e, d = e + 1 := ⟨d - 1, by omega⟩
    refine wp_s 44 [some (.ref 382), some (.int x1), some (.int x2)] [.int x2] h0 i_271_43 rfl ?_
    refine wp_s 47 [some (.ref 382), some (.int x1), some (.int x2)] [.int (181 : Int32), .int x2] h0 i_271_44 rfl ?_
    refine wp_cmp_ge 74 50 rfl rfl i_271_47 (fun c_1 => ?_) (fun c_1 => ?_)
    · rw [if_pos c_1] at hd
      refine wp_s 75 [some (.ref 382), some (.int x1), some (.int x2)] [.ref 382] h0 i_271_74 rfl ?_
      refine wp_get (v := .ref 392) 78 rfl i_271_75 (HH.1 0 (by decide)) rfl ?_
      refine wp_s 80 [some (.ref 382), some (.int x1), some (.int x2)] [.int (7 : Int32), .ref 392] h0 i_271_78 rfl ?_
      obtain ⟨b_2, hd⟩ := dk_if hd
      refine wp_iald (f := (S.2.1 20)) 81 rfl i_271_80 (HH.1 10 (by decide)) b_2 ?_
      obtain rfl := Option.some.inj hd
      exact wp_iret i_271_81 ⟨rfl, HH⟩
    · rw [if_neg c_1] at hd
      refine wp_s 51 [some (.ref 382), some (.int x1), some (.int x2)] [.ref 382] h0 i_271_50 rfl ?_
      refine wp_get (v := .ref 402) 54 rfl i_271_51 (HH.1 0 (by decide)) rfl ?_
      refine wp_s 57 [some (.ref 382), some (.int x1), some (.int x2)] [.int (181 : Int32), .ref 402] h0 i_271_54 rfl ?_
      refine wp_s 58 [some (.ref 382), some (.int x1), some (.int x2)] [.int x1, .int (181 : Int32), .ref 402] h0 i_271_57 rfl ?_
      refine wp_s 59 [some (.ref 382), some (.int x1), some (.int x2)] [.int ((181 : Int32) * x1), .ref 402] h0 i_271_58 rfl ?_
      refine wp_s 60 [some (.ref 382), some (.int x1), some (.int x2)] [.int x2, .int ((181 : Int32) * x1), .ref 402] h0 i_271_59 rfl ?_
      refine wp_s 61 [some (.ref 382), some (.int x1), some (.int x2)] [.int (((181 : Int32) * x1) + x2), .ref 402] h0 i_271_60 rfl ?_
      refine wp_s 62 [some (.ref 382), some (.int x1), some (.int x2)] [.ref 382, .int (((181 : Int32) * x1) + x2), .ref 402] h0 i_271_61 rfl ?_
      refine wp_get (v := .ref 392) 65 rfl i_271_62 (HH.1 0 (by decide)) rfl ?_
      refine wp_s 66 [some (.ref 382), some (.int x1), some (.int x2)] [.int x2, .ref 392, .int (((181 : Int32) * x1) + x2), .ref 402] h0 i_271_65 rfl ?_
      obtain ⟨b_3, hd⟩ := dk_if hd
      refine wp_iald (f := (S.2.1 20)) 67 rfl i_271_66 (HH.1 10 (by decide)) b_3 ?_
      obtain ⟨b_4, hd⟩ := dk_if hd
      refine rq_A43 68 rfl i_271_67 HH b_4 (fun h_5 H_6 => ?_)
      refine wp_s 71 [some (.ref 382), some (.int x1), some (.int (x2 + (1 : Int32)))] [] h_5 i_271_68 rfl ?_
      refine wp_s 43 [some (.ref 382), some (.int x1), some (.int (x2 + (1 : Int32)))] [] h_5 i_271_71 rfl ?_
      exact aWp.post (aWp.forget (ih _ _ _ _ _ H_6.1 hd) ((lvS (lvS (lvS lvE))))) (fun _ _ hq => ⟨hq.1, H_6.tr hq.2⟩)
def d_271 (g : Nat) (x1 : Int32) (S : rS) : Option (Int32 × rS) := ((d_140 g (x1.toInt64) (0 : Int64) (3 : Int64) S).bind (fun z_1001 => (if ¬ z_1001.1 = 0 then (if aIn x1 4 = true then (if aIn x1 4 = true then (if aIn x1 4 = true then (l_271 g g 0 x1 (0 : Int32) (rA (rA (rA z_1001.2 46 (upd (z_1001.2.2.1 46) x1.toNatClampNeg (vp_nar .boolean (1 : Int32)))) 44 (upd (z_1001.2.2.1 44) x1.toNatClampNeg (z_1001.2.1 21))) 45 (upd (z_1001.2.2.1 45) x1.toNatClampNeg (z_1001.2.1 22)))) else none) else none) else none) else some ((-1 : Int32), z_1001.2))))
set_option maxHeartbeats 4000000 in
set_option maxRecDepth 100000 in
theorem d_271_ok {X : aX} {g d : Nat} {x1 : Int32} {S : rS} {h0 : aH} {zz : Int32 × rS} (hdp : 1 ≤ d) (HS : rm h0 S) (hd : d_271 g x1 S = some zz) : aWp X d 271 0 (aEntL [.ref 382, .int x1] 3) [] h0 (fun w h' => w = some (.int zz.1) ∧ rTo h0 zz.2 h') := by
  unfold d_271 at hd
  have HH := rTo.rf HS
  refine wp_lv (l2 := [some (.ref 382), some (.int x1), none]) rfl ?_
  obtain ⟨e, rfl⟩ : ∃ e, d = e + 1 := ⟨d - 1, by omega⟩
  refine wp_s 1 [some (.ref 382), some (.int x1), none] [.int x1] h0 i_271_0 rfl ?_
  refine wp_s 2 [some (.ref 382), some (.int x1), none] [.long (x1.toInt64)] h0 i_271_1 rfl ?_
  refine wp_s 3 [some (.ref 382), some (.int x1), none] [.long (0 : Int64), .long (x1.toInt64)] h0 i_271_2 rfl ?_
  refine wp_s 6 [some (.ref 382), some (.int x1), none] [.long (3 : Int64), .long (0 : Int64), .long (x1.toInt64)] h0 i_271_3 rfl ?_
  obtain ⟨z_1001, q_1002, hd⟩ := dk_bind hd
  refine wp_callS 9 rfl i_271_6 (by decide) (vs := [.long (x1.toInt64), .long (0 : Int64), .long (3 : Int64)]) (rest := []) rfl rfl rfl (y := m_140) rfl (Nat.le_of_ble_eq_true rfl) (d_140_ok (d := e) (by omega) HH.1 q_1002) ?_
  rintro v_1005 h_1003 ⟨rfl, H_1004⟩
  have H_1004 := HH.tr H_1004
  refine wp_if_ne 14 12 rfl rfl i_271_9 (fun c_1006 => ?_) (fun c_1006 => ?_)
  · rw [if_pos c_1006] at hd
    refine wp_s 15 [some (.ref 382), some (.int x1), none] [.ref 382] h_1003 i_271_14 rfl ?_
    refine wp_get (v := .ref 405) 18 rfl i_271_15 (H_1004.1 0 (by decide)) rfl ?_
    refine wp_s 19 [some (.ref 382), some (.int x1), none] [.int x1, .ref 405] h_1003 i_271_18 rfl ?_
    refine wp_s 20 [some (.ref 382), some (.int x1), none] [.int (1 : Int32), .int x1, .ref 405] h_1003 i_271_19 rfl ?_
    obtain ⟨b_1007, hd⟩ := dk_if hd
    refine rq_A46 21 rfl i_271_20 H_1004 b_1007 (fun h_1008 H_1009 => ?_)
    refine wp_s 22 [some (.ref 382), some (.int x1), none] [.ref 382] h_1008 i_271_21 rfl ?_
    refine wp_get (v := .ref 403) 25 rfl i_271_22 (H_1009.1 0 (by decide)) rfl ?_
    refine wp_s 26 [some (.ref 382), some (.int x1), none] [.int x1, .ref 403] h_1008 i_271_25 rfl ?_
    refine wp_s 27 [some (.ref 382), some (.int x1), none] [.ref 382, .int x1, .ref 403] h_1008 i_271_26 rfl ?_
    refine wp_get (v := .int (z_1001.2.1 21)) 30 rfl i_271_27 (H_1009.1 0 (by decide)) rfl ?_
    obtain ⟨b_1010, hd⟩ := dk_if hd
    refine rq_A44 31 rfl i_271_30 H_1009 b_1010 (fun h_1011 H_1012 => ?_)
    refine wp_s 32 [some (.ref 382), some (.int x1), none] [.ref 382] h_1011 i_271_31 rfl ?_
    refine wp_get (v := .ref 404) 35 rfl i_271_32 (H_1012.1 0 (by decide)) rfl ?_
    refine wp_s 36 [some (.ref 382), some (.int x1), none] [.int x1, .ref 404] h_1011 i_271_35 rfl ?_
    refine wp_s 37 [some (.ref 382), some (.int x1), none] [.ref 382, .int x1, .ref 404] h_1011 i_271_36 rfl ?_
    refine wp_get (v := .int (z_1001.2.1 22)) 40 rfl i_271_37 (H_1012.1 0 (by decide)) rfl ?_
    obtain ⟨b_1013, hd⟩ := dk_if hd
    refine rq_A45 41 rfl i_271_40 H_1012 b_1013 (fun h_1014 H_1015 => ?_)
    refine wp_s 42 [some (.ref 382), some (.int x1), none] [.int (0 : Int32)] h_1014 i_271_41 rfl ?_
    refine wp_s 43 [some (.ref 382), some (.int x1), some (.int (0 : Int32))] [] h_1014 i_271_42 rfl ?_
    exact aWp.post (aWp.forget ((l_271_ok hdp g) _ _ _ _ _ H_1015.1 hd) ((lvS (lvS (lvS lvE))))) (fun _ _ hq => ⟨hq.1, H_1015.tr hq.2⟩)
  · rw [if_neg c_1006] at hd
    refine wp_s 13 [some (.ref 382), some (.int x1), none] [.int (-1 : Int32)] h_1003 i_271_12 rfl ?_
    obtain rfl := Option.some.inj hd
    exact wp_iret i_271_13 ⟨rfl, H_1004⟩
def l_272 (g n tag : Nat) (x1 : Int32) (x2 : Int32) (S : rS) : Option (Int32 × rS) := match n with
  | 0 => none
  | n + 1 => if tag = 0 then (if (181 : Int32) ≤ x2 then (if aIn (7 : Int32) 181 = true then some (((S.2.1 20) (7 : Int32).toNatClampNeg), S) else none) else (if aIn (((181 : Int32) * x1) + x2) 724 = true then (if aIn x2 181 = true then (l_272 g n 0 x1 (x2 + (1 : Int32)) (rA S 20 (upd (S.2.1 20) x2.toNatClampNeg ((S.2.1 43) (((181 : Int32) * x1) + x2).toNatClampNeg)))) else none) else none)) else none
set_option maxHeartbeats 4000000 in
set_option maxRecDepth 100000 in
theorem l_272_ok {X : aX} {g d : Nat} (hdp : 1 ≤ d) : ∀ n, (∀ (x1 : Int32) (x2 : Int32) (S : rS) (h0 : aH) (zz : Int32 × rS), rm h0 S → l_272 g n 0 x1 x2 S = some zz → aWp X d 272 50 [some (.ref 382), some (.int x1), some (.int x2)] [] h0 (fun w h' => w = some (.int zz.1) ∧ rTo h0 zz.2 h')) := by
  intro n
  induction n with
  | zero => exact fun _ _ _ _ _ _ hd => by simp [l_272] at hd
  | succ n ih =>
    intro x1 x2 S h0 zz HS hd
    unfold l_272 at hd
    rw [if_pos rfl] at hd
    have HH := rTo.rf HS
    obtain ⟨e, rfl⟩ : ∃ e, d = e + 1 := ⟨d - 1, by omega⟩
    refine wp_s 51 [some (.ref 382), some (.int x1), some (.int x2)] [.int x2] h0 i_272_50 rfl ?_
    refine wp_s 54 [some (.ref 382), some (.int x1), some (.int x2)] [.int (181 : Int32), .int x2] h0 i_272_51 rfl ?_
    refine wp_cmp_ge 81 57 rfl rfl i_272_54 (fun c_1 => ?_) (fun c_1 => ?_)
    · rw [if_pos c_1] at hd
      refine wp_s 82 [some (.ref 382), some (.int x1), some (.int x2)] [.ref 382] h0 i_272_81 rfl ?_
      refine wp_get (v := .ref 392) 85 rfl i_272_82 (HH.1 0 (by decide)) rfl ?_
      refine wp_s 87 [some (.ref 382), some (.int x1), some (.int x2)] [.int (7 : Int32), .ref 392] h0 i_272_85 rfl ?_
      obtain ⟨b_2, hd⟩ := dk_if hd
      refine wp_iald (f := (S.2.1 20)) 88 rfl i_272_87 (HH.1 10 (by decide)) b_2 ?_
      obtain rfl := Option.some.inj hd
      exact wp_iret i_272_88 ⟨rfl, HH⟩
    · rw [if_neg c_1] at hd
      refine wp_s 58 [some (.ref 382), some (.int x1), some (.int x2)] [.ref 382] h0 i_272_57 rfl ?_
      refine wp_get (v := .ref 392) 61 rfl i_272_58 (HH.1 0 (by decide)) rfl ?_
      refine wp_s 62 [some (.ref 382), some (.int x1), some (.int x2)] [.int x2, .ref 392] h0 i_272_61 rfl ?_
      refine wp_s 63 [some (.ref 382), some (.int x1), some (.int x2)] [.ref 382, .int x2, .ref 392] h0 i_272_62 rfl ?_
      refine wp_get (v := .ref 402) 66 rfl i_272_63 (HH.1 0 (by decide)) rfl ?_
      refine wp_s 69 [some (.ref 382), some (.int x1), some (.int x2)] [.int (181 : Int32), .ref 402, .int x2, .ref 392] h0 i_272_66 rfl ?_
      refine wp_s 70 [some (.ref 382), some (.int x1), some (.int x2)] [.int x1, .int (181 : Int32), .ref 402, .int x2, .ref 392] h0 i_272_69 rfl ?_
      refine wp_s 71 [some (.ref 382), some (.int x1), some (.int x2)] [.int ((181 : Int32) * x1), .ref 402, .int x2, .ref 392] h0 i_272_70 rfl ?_
      refine wp_s 72 [some (.ref 382), some (.int x1), some (.int x2)] [.int x2, .int ((181 : Int32) * x1), .ref 402, .int x2, .ref 392] h0 i_272_71 rfl ?_
      refine wp_s 73 [some (.ref 382), some (.int x1), some (.int x2)] [.int (((181 : Int32) * x1) + x2), .ref 402, .int x2, .ref 392] h0 i_272_72 rfl ?_
      obtain ⟨b_3, hd⟩ := dk_if hd
      refine wp_iald (f := (S.2.1 43)) 74 rfl i_272_73 (HH.1 20 (by decide)) b_3 ?_
      obtain ⟨b_4, hd⟩ := dk_if hd
      refine rq_A20 75 rfl i_272_74 HH b_4 (fun h_5 H_6 => ?_)
      refine wp_s 78 [some (.ref 382), some (.int x1), some (.int (x2 + (1 : Int32)))] [] h_5 i_272_75 rfl ?_
      refine wp_s 50 [some (.ref 382), some (.int x1), some (.int (x2 + (1 : Int32)))] [] h_5 i_272_78 rfl ?_
      exact aWp.post (aWp.forget (ih _ _ _ _ _ H_6.1 hd) ((lvS (lvS (lvS lvE))))) (fun _ _ hq => ⟨hq.1, H_6.tr hq.2⟩)
def d_272 (g : Nat) (x1 : Int32) (S : rS) : Option (Int32 × rS) := ((d_140 g (x1.toInt64) (0 : Int64) (3 : Int64) S).bind (fun z_1001 => (if z_1001.1 = 0 then some ((-1 : Int32), z_1001.2) else (if aIn x1 4 = true then (if ¬ ((z_1001.2.2.1 46) x1.toNatClampNeg) = 0 then (if aIn x1 4 = true then (if aIn x1 4 = true then (l_272 g g 0 x1 (0 : Int32) (rF (rF (rF z_1001.2 21 ((z_1001.2.2.1 44) x1.toNatClampNeg)) 22 ((z_1001.2.2.1 45) x1.toNatClampNeg)) 27 (0 : Int32))) else none) else none) else some ((-1 : Int32), z_1001.2)) else none))))
set_option maxHeartbeats 4000000 in
set_option maxRecDepth 100000 in
theorem d_272_ok {X : aX} {g d : Nat} {x1 : Int32} {S : rS} {h0 : aH} {zz : Int32 × rS} (hdp : 1 ≤ d) (HS : rm h0 S) (hd : d_272 g x1 S = some zz) : aWp X d 272 0 (aEntL [.ref 382, .int x1] 3) [] h0 (fun w h' => w = some (.int zz.1) ∧ rTo h0 zz.2 h') := by
  unfold d_272 at hd
  have HH := rTo.rf HS
  refine wp_lv (l2 := [some (.ref 382), some (.int x1), none]) rfl ?_
  obtain ⟨e, rfl⟩ : ∃ e, d = e + 1 := ⟨d - 1, by omega⟩
  refine wp_s 1 [some (.ref 382), some (.int x1), none] [.int x1] h0 i_272_0 rfl ?_
  refine wp_s 2 [some (.ref 382), some (.int x1), none] [.long (x1.toInt64)] h0 i_272_1 rfl ?_
  refine wp_s 3 [some (.ref 382), some (.int x1), none] [.long (0 : Int64), .long (x1.toInt64)] h0 i_272_2 rfl ?_
  refine wp_s 6 [some (.ref 382), some (.int x1), none] [.long (3 : Int64), .long (0 : Int64), .long (x1.toInt64)] h0 i_272_3 rfl ?_
  obtain ⟨z_1001, q_1002, hd⟩ := dk_bind hd
  refine wp_callS 9 rfl i_272_6 (by decide) (vs := [.long (x1.toInt64), .long (0 : Int64), .long (3 : Int64)]) (rest := []) rfl rfl rfl (y := m_140) rfl (Nat.le_of_ble_eq_true rfl) (d_140_ok (d := e) (by omega) HH.1 q_1002) ?_
  rintro v_1005 h_1003 ⟨rfl, H_1004⟩
  have H_1004 := HH.tr H_1004
  refine wp_if_eq 21 12 rfl rfl i_272_9 (fun c_1006 => ?_) (fun c_1006 => ?_)
  · rw [if_pos c_1006] at hd
    refine wp_s 22 [some (.ref 382), some (.int x1), none] [.int (-1 : Int32)] h_1003 i_272_21 rfl ?_
    obtain rfl := Option.some.inj hd
    exact wp_iret i_272_22 ⟨rfl, H_1004⟩
  · rw [if_neg c_1006] at hd
    refine wp_s 13 [some (.ref 382), some (.int x1), none] [.ref 382] h_1003 i_272_12 rfl ?_
    refine wp_get (v := .ref 405) 16 rfl i_272_13 (H_1004.1 0 (by decide)) rfl ?_
    refine wp_s 17 [some (.ref 382), some (.int x1), none] [.int x1, .ref 405] h_1003 i_272_16 rfl ?_
    obtain ⟨b_1007, hd⟩ := dk_if hd
    refine wp_bald (f := (z_1001.2.2.1 46)) 18 rfl i_272_17 (Or.inr rfl) (H_1004.1 23 (by decide)) b_1007 ?_
    refine wp_if_ne 23 21 rfl rfl i_272_18 (fun c_1008 => ?_) (fun c_1008 => ?_)
    · rw [if_pos c_1008] at hd
      refine wp_s 24 [some (.ref 382), some (.int x1), none] [.ref 382] h_1003 i_272_23 rfl ?_
      refine wp_s 25 [some (.ref 382), some (.int x1), none] [.ref 382, .ref 382] h_1003 i_272_24 rfl ?_
      refine wp_get (v := .ref 403) 28 rfl i_272_25 (H_1004.1 0 (by decide)) rfl ?_
      refine wp_s 29 [some (.ref 382), some (.int x1), none] [.int x1, .ref 403, .ref 382] h_1003 i_272_28 rfl ?_
      obtain ⟨b_1009, hd⟩ := dk_if hd
      refine wp_iald (f := (z_1001.2.2.1 44)) 30 rfl i_272_29 (H_1004.1 21 (by decide)) b_1009 ?_
      refine rq_F21 33 rfl i_272_30 H_1004 (fun h_1010 H_1011 => ?_)
      refine wp_s 34 [some (.ref 382), some (.int x1), none] [.ref 382] h_1010 i_272_33 rfl ?_
      refine wp_s 35 [some (.ref 382), some (.int x1), none] [.ref 382, .ref 382] h_1010 i_272_34 rfl ?_
      refine wp_get (v := .ref 404) 38 rfl i_272_35 (H_1011.1 0 (by decide)) rfl ?_
      refine wp_s 39 [some (.ref 382), some (.int x1), none] [.int x1, .ref 404, .ref 382] h_1010 i_272_38 rfl ?_
      obtain ⟨b_1012, hd⟩ := dk_if hd
      refine wp_iald (f := (z_1001.2.2.1 45)) 40 rfl i_272_39 (H_1011.1 22 (by decide)) b_1012 ?_
      refine rq_F22 43 rfl i_272_40 H_1011 (fun h_1013 H_1014 => ?_)
      refine wp_s 44 [some (.ref 382), some (.int x1), none] [.ref 382] h_1013 i_272_43 rfl ?_
      refine wp_s 45 [some (.ref 382), some (.int x1), none] [.int (0 : Int32), .ref 382] h_1013 i_272_44 rfl ?_
      refine rq_F27 48 rfl i_272_45 H_1014 (fun h_1015 H_1016 => ?_)
      refine wp_s 49 [some (.ref 382), some (.int x1), none] [.int (0 : Int32)] h_1015 i_272_48 rfl ?_
      refine wp_s 50 [some (.ref 382), some (.int x1), some (.int (0 : Int32))] [] h_1015 i_272_49 rfl ?_
      exact aWp.post (aWp.forget ((l_272_ok hdp g) _ _ _ _ _ H_1016.1 hd) ((lvS (lvS (lvS lvE))))) (fun _ _ hq => ⟨hq.1, H_1016.tr hq.2⟩)
    · rw [if_neg c_1008] at hd
      refine wp_s 22 [some (.ref 382), some (.int x1), none] [.int (-1 : Int32)] h_1003 i_272_21 rfl ?_
      obtain rfl := Option.some.inj hd
      exact wp_iret i_272_22 ⟨rfl, H_1004⟩
