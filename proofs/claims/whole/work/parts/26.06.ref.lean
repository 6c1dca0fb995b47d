theorem i_256_0 : aIns 256 0 = some (.aload_n 0, 1, 0, 0, .null) := by decide +kernel
theorem i_256_1 : aIns 256 1 = some (.invokevirtual 374, 3, 187, 0, .int 12) := by decide +kernel
theorem i_256_4 : aIns 256 4 = some (.ifCond .eq 15, 3, 0, 0, .null) := by decide +kernel
theorem i_256_7 : aIns 256 7 = some (.iload_n 1, 1, 0, 0, .null) := by decide +kernel
theorem i_256_8 : aIns 256 8 = some (.i2l, 1, 0, 0, .null) := by decide +kernel
theorem i_256_9 : aIns 256 9 = some (.lconst 1, 1, 0, 0, .long 1) := by decide +kernel
theorem i_256_10 : aIns 256 10 = some (.ldc2_w 320, 3, 0, 0, .long (9999)) := by decide +kernel
theorem i_256_13 : aIns 256 13 = some (.invokestatic 124, 3, 140, 3, .null) := by decide +kernel
theorem i_256_16 : aIns 256 16 = some (.ifCond .ne 7, 3, 0, 0, .null) := by decide +kernel
theorem i_256_19 : aIns 256 19 = some (.ldc_w 434, 3, 0, 0, .int (-1000000)) := by decide +kernel
theorem i_256_22 : aIns 256 22 = some (.ireturn, 1, 0, 0, .null) := by decide +kernel
theorem i_256_23 : aIns 256 23 = some (.aload_n 0, 1, 0, 0, .null) := by decide +kernel
theorem i_256_24 : aIns 256 24 = some (.aload_n 0, 1, 0, 0, .null) := by decide +kernel
theorem i_256_25 : aIns 256 25 = some (.getfield 39, 3, 12, 20, .null) := by decide +kernel
theorem i_256_28 : aIns 256 28 = some (.iconst 5, 1, 0, 0, .int (5)) := by decide +kernel
theorem i_256_29 : aIns 256 29 = some (.iaload, 1, 0, 0, .null) := by decide +kernel
theorem i_256_30 : aIns 256 30 = some (.invokevirtual 377, 3, 212, 1, .int 12) := by decide +kernel
theorem i_256_33 : aIns 256 33 = some (.iload_n 1, 1, 0, 0, .null) := by decide +kernel
theorem i_256_34 : aIns 256 34 = some (.iadd, 1, 0, 0, .null) := by decide +kernel
theorem i_256_35 : aIns 256 35 = some (.iload_n 1, 1, 0, 0, .null) := by decide +kernel
theorem i_256_36 : aIns 256 36 = some (.aload_n 0, 1, 0, 0, .null) := by decide +kernel
theorem i_256_37 : aIns 256 37 = some (.getfield 39, 3, 12, 20, .null) := by decide +kernel
theorem i_256_40 : aIns 256 40 = some (.iconst 5, 1, 0, 0, .int (5)) := by decide +kernel
theorem i_256_41 : aIns 256 41 = some (.iaload, 1, 0, 0, .null) := by decide +kernel
theorem i_256_42 : aIns 256 42 = some (.if_icmp .ge 12, 3, 0, 0, .null) := by decide +kernel
theorem i_256_45 : aIns 256 45 = some (.aload_n 0, 1, 0, 0, .null) := by decide +kernel
theorem i_256_46 : aIns 256 46 = some (.getfield 39, 3, 12, 20, .null) := by decide +kernel
theorem i_256_49 : aIns 256 49 = some (.iconst 4, 1, 0, 0, .int (4)) := by decide +kernel
theorem i_256_50 : aIns 256 50 = some (.iaload, 1, 0, 0, .null) := by decide +kernel
theorem i_256_51 : aIns 256 51 = some (.goto 4, 3, 0, 0, .null) := by decide +kernel
theorem i_256_54 : aIns 256 54 = some (.iconst 0, 1, 0, 0, .int (0)) := by decide +kernel
theorem i_256_55 : aIns 256 55 = some (.iadd, 1, 0, 0, .null) := by decide +kernel
theorem i_256_56 : aIns 256 56 = some (.istore_n 2, 1, 0, 0, .null) := by decide +kernel
theorem i_256_57 : aIns 256 57 = some (.aload_n 0, 1, 0, 0, .null) := by decide +kernel
theorem i_256_58 : aIns 256 58 = some (.bipush 64, 2, 0, 0, .int (64)) := by decide +kernel
theorem i_256_60 : aIns 256 60 = some (.aload_n 0, 1, 0, 0, .null) := by decide +kernel
theorem i_256_61 : aIns 256 61 = some (.getfield 39, 3, 12, 20, .null) := by decide +kernel
theorem i_256_64 : aIns 256 64 = some (.bipush 9, 2, 0, 0, .int (9)) := by decide +kernel
theorem i_256_66 : aIns 256 66 = some (.iaload, 1, 0, 0, .null) := by decide +kernel
theorem i_256_67 : aIns 256 67 = some (.invokevirtual 368, 3, 206, 2, .int 12) := by decide +kernel
theorem i_256_70 : aIns 256 70 = some (.iload_n 2, 1, 0, 0, .null) := by decide +kernel
theorem i_256_71 : aIns 256 71 = some (.aload_n 0, 1, 0, 0, .null) := by decide +kernel
theorem i_256_72 : aIns 256 72 = some (.aload_n 0, 1, 0, 0, .null) := by decide +kernel
theorem i_256_73 : aIns 256 73 = some (.invokevirtual 365, 3, 210, 0, .int 12) := by decide +kernel
theorem i_256_76 : aIns 256 76 = some (.iload_n 1, 1, 0, 0, .null) := by decide +kernel
theorem i_256_77 : aIns 256 77 = some (.iadd, 1, 0, 0, .null) := by decide +kernel
theorem i_256_78 : aIns 256 78 = some (.aload_n 0, 1, 0, 0, .null) := by decide +kernel
theorem i_256_79 : aIns 256 79 = some (.getfield 39, 3, 12, 20, .null) := by decide +kernel
theorem i_256_82 : aIns 256 82 = some (.iconst 5, 1, 0, 0, .int (5)) := by decide +kernel
theorem i_256_83 : aIns 256 83 = some (.iaload, 1, 0, 0, .null) := by decide +kernel
theorem i_256_84 : aIns 256 84 = some (.invokevirtual 359, 3, 207, 2, .int 12) := by decide +kernel
theorem i_256_87 : aIns 256 87 = some (.isub, 1, 0, 0, .null) := by decide +kernel
theorem i_256_88 : aIns 256 88 = some (.ireturn, 1, 0, 0, .null) := by decide +kernel
theorem i_257_0 : aIns 257 0 = some (.aload_n 0, 1, 0, 0, .null) := by decide +kernel
theorem i_257_1 : aIns 257 1 = some (.invokevirtual 374, 3, 187, 0, .int 12) := by decide +kernel
theorem i_257_4 : aIns 257 4 = some (.ifCond .eq 13, 3, 0, 0, .null) := by decide +kernel
theorem i_257_7 : aIns 257 7 = some (.iload_n 1, 1, 0, 0, .null) := by decide +kernel
theorem i_257_8 : aIns 257 8 = some (.i2l, 1, 0, 0, .null) := by decide +kernel
theorem i_257_9 : aIns 257 9 = some (.lconst 0, 1, 0, 0, .long 0) := by decide +kernel
theorem i_257_10 : aIns 257 10 = some (.lconst 1, 1, 0, 0, .long 1) := by decide +kernel
theorem i_257_11 : aIns 257 11 = some (.invokestatic 124, 3, 140, 3, .null) := by decide +kernel
theorem i_257_14 : aIns 257 14 = some (.ifCond .ne 7, 3, 0, 0, .null) := by decide +kernel
theorem i_257_17 : aIns 257 17 = some (.ldc_w 434, 3, 0, 0, .int (-1000000)) := by decide +kernel
theorem i_257_20 : aIns 257 20 = some (.ireturn, 1, 0, 0, .null) := by decide +kernel
theorem i_257_21 : aIns 257 21 = some (.iconst (-1), 1, 0, 0, .int (-1)) := by decide +kernel
theorem i_257_22 : aIns 257 22 = some (.istore_n 2, 1, 0, 0, .null) := by decide +kernel
theorem i_257_23 : aIns 257 23 = some (.iconst 0, 1, 0, 0, .int (0)) := by decide +kernel
theorem i_257_24 : aIns 257 24 = some (.istore_n 3, 1, 0, 0, .null) := by decide +kernel
theorem i_257_25 : aIns 257 25 = some (.iconst 0, 1, 0, 0, .int (0)) := by decide +kernel
theorem i_257_26 : aIns 257 26 = some (.istore 4, 2, 0, 0, .null) := by decide +kernel
theorem i_257_28 : aIns 257 28 = some (.iload 4, 2, 0, 0, .null) := by decide +kernel
theorem i_257_30 : aIns 257 30 = some (.sipush 9500, 3, 0, 0, .int (9500)) := by decide +kernel
theorem i_257_33 : aIns 257 33 = some (.if_icmp .gt 88, 3, 0, 0, .null) := by decide +kernel
theorem i_257_36 : aIns 257 36 = some (.aload_n 0, 1, 0, 0, .null) := by decide +kernel
theorem i_257_37 : aIns 257 37 = some (.iload 4, 2, 0, 0, .null) := by decide +kernel
theorem i_257_39 : aIns 257 39 = some (.invokevirtual 435, 3, 238, 1, .int 12) := by decide +kernel
theorem i_257_42 : aIns 257 42 = some (.iconst 0, 1, 0, 0, .int (0)) := by decide +kernel
theorem i_257_43 : aIns 257 43 = some (.istore 5, 2, 0, 0, .null) := by decide +kernel
theorem i_257_45 : aIns 257 45 = some (.iconst 0, 1, 0, 0, .int (0)) := by decide +kernel
theorem i_257_46 : aIns 257 46 = some (.istore 6, 2, 0, 0, .null) := by decide +kernel
theorem i_257_48 : aIns 257 48 = some (.iload 6, 2, 0, 0, .null) := by decide +kernel
theorem i_257_50 : aIns 257 50 = some (.aload_n 0, 1, 0, 0, .null) := by decide +kernel
theorem i_257_51 : aIns 257 51 = some (.getfield 408, 3, 12, 29, .null) := by decide +kernel
theorem i_257_54 : aIns 257 54 = some (.if_icmp .ge 25, 3, 0, 0, .null) := by decide +kernel
theorem i_257_57 : aIns 257 57 = some (.iload 5, 2, 0, 0, .null) := by decide +kernel
theorem i_257_59 : aIns 257 59 = some (.aload_n 0, 1, 0, 0, .null) := by decide +kernel
theorem i_257_60 : aIns 257 60 = some (.aload_n 0, 1, 0, 0, .null) := by decide +kernel
theorem i_257_61 : aIns 257 61 = some (.getfield 52, 3, 12, 28, .null) := by decide +kernel
theorem i_257_64 : aIns 257 64 = some (.iload 6, 2, 0, 0, .null) := by decide +kernel
theorem i_257_66 : aIns 257 66 = some (.iaload, 1, 0, 0, .null) := by decide +kernel
theorem i_257_67 : aIns 257 67 = some (.invokevirtual 313, 3, 193, 1, .int 12) := by decide +kernel
theorem i_257_70 : aIns 257 70 = some (.iadd, 1, 0, 0, .null) := by decide +kernel
theorem i_257_71 : aIns 257 71 = some (.istore 5, 2, 0, 0, .null) := by decide +kernel
theorem i_257_73 : aIns 257 73 = some (.iinc 6 1, 3, 0, 0, .null) := by decide +kernel
theorem i_257_76 : aIns 257 76 = some (.goto (-28), 3, 0, 0, .null) := by decide +kernel
theorem i_257_79 : aIns 257 79 = some (.aload_n 0, 1, 0, 0, .null) := by decide +kernel
theorem i_257_80 : aIns 257 80 = some (.getfield 411, 3, 12, 30, .null) := by decide +kernel
theorem i_257_83 : aIns 257 83 = some (.iload 5, 2, 0, 0, .null) := by decide +kernel
theorem i_257_85 : aIns 257 85 = some (.iadd, 1, 0, 0, .null) := by decide +kernel
theorem i_257_86 : aIns 257 86 = some (.iload 5, 2, 0, 0, .null) := by decide +kernel
theorem i_257_88 : aIns 257 88 = some (.iconst 2, 1, 0, 0, .int (2)) := by decide +kernel
theorem i_257_89 : aIns 257 89 = some (.idiv, 1, 0, 0, .null) := by decide +kernel
theorem i_257_90 : aIns 257 90 = some (.isub, 1, 0, 0, .null) := by decide +kernel
theorem i_257_91 : aIns 257 91 = some (.istore 6, 2, 0, 0, .null) := by decide +kernel
theorem i_257_93 : aIns 257 93 = some (.iload_n 2, 1, 0, 0, .null) := by decide +kernel
theorem i_257_94 : aIns 257 94 = some (.ifCond .lt 12, 3, 0, 0, .null) := by decide +kernel
theorem i_257_97 : aIns 257 97 = some (.iload 6, 2, 0, 0, .null) := by decide +kernel
theorem i_257_99 : aIns 257 99 = some (.iload_n 3, 1, 0, 0, .null) := by decide +kernel
theorem i_257_100 : aIns 257 100 = some (.if_icmp .gt 6, 3, 0, 0, .null) := by decide +kernel
theorem i_257_103 : aIns 257 103 = some (.goto 9, 3, 0, 0, .null) := by decide +kernel
theorem i_257_106 : aIns 257 106 = some (.iload 4, 2, 0, 0, .null) := by decide +kernel
theorem i_257_108 : aIns 257 108 = some (.istore_n 2, 1, 0, 0, .null) := by decide +kernel
theorem i_257_109 : aIns 257 109 = some (.iload 6, 2, 0, 0, .null) := by decide +kernel
theorem i_257_111 : aIns 257 111 = some (.istore_n 3, 1, 0, 0, .null) := by decide +kernel
theorem i_257_112 : aIns 257 112 = some (.iinc 4 500, 6, 0, 0, .null) := by decide +kernel
theorem i_257_118 : aIns 257 118 = some (.goto (-90), 3, 0, 0, .null) := by decide +kernel
theorem i_257_121 : aIns 257 121 = some (.iload_n 1, 1, 0, 0, .null) := by decide +kernel
theorem i_257_122 : aIns 257 122 = some (.ifCond .ne 7, 3, 0, 0, .null) := by decide +kernel
theorem i_257_125 : aIns 257 125 = some (.iload_n 2, 1, 0, 0, .null) := by decide +kernel
theorem i_257_126 : aIns 257 126 = some (.goto 4, 3, 0, 0, .null) := by decide +kernel
theorem i_257_129 : aIns 257 129 = some (.iload_n 3, 1, 0, 0, .null) := by decide +kernel
theorem i_257_130 : aIns 257 130 = some (.ireturn, 1, 0, 0, .null) := by decide +kernel
theorem i_258_0 : aIns 258 0 = some (.iconst 0, 1, 0, 0, .int (0)) := by decide +kernel
theorem i_258_1 : aIns 258 1 = some (.istore 4, 2, 0, 0, .null) := by decide +kernel
theorem i_258_3 : aIns 258 3 = some (.iconst 0, 1, 0, 0, .int (0)) := by decide +kernel
theorem i_258_4 : aIns 258 4 = some (.istore 5, 2, 0, 0, .null) := by decide +kernel
theorem i_258_6 : aIns 258 6 = some (.iconst 0, 1, 0, 0, .int (0)) := by decide +kernel
theorem i_258_7 : aIns 258 7 = some (.istore 6, 2, 0, 0, .null) := by decide +kernel
theorem i_258_9 : aIns 258 9 = some (.iload 6, 2, 0, 0, .null) := by decide +kernel
theorem i_258_11 : aIns 258 11 = some (.iload_n 1, 1, 0, 0, .null) := by decide +kernel
theorem i_258_12 : aIns 258 12 = some (.if_icmp .ge 40, 3, 0, 0, .null) := by decide +kernel
theorem i_258_15 : aIns 258 15 = some (.iload 4, 2, 0, 0, .null) := by decide +kernel
theorem i_258_17 : aIns 258 17 = some (.aload_n 0, 1, 0, 0, .null) := by decide +kernel
theorem i_258_18 : aIns 258 18 = some (.aload_n 0, 1, 0, 0, .null) := by decide +kernel
theorem i_258_19 : aIns 258 19 = some (.getfield 55, 3, 12, 31, .null) := by decide +kernel
theorem i_258_22 : aIns 258 22 = some (.iload 6, 2, 0, 0, .null) := by decide +kernel
theorem i_258_24 : aIns 258 24 = some (.iaload, 1, 0, 0, .null) := by decide +kernel
theorem i_258_25 : aIns 258 25 = some (.iload_n 3, 1, 0, 0, .null) := by decide +kernel
theorem i_258_26 : aIns 258 26 = some (.invokevirtual 326, 3, 199, 2, .int 12) := by decide +kernel
theorem i_258_29 : aIns 258 29 = some (.iadd, 1, 0, 0, .null) := by decide +kernel
theorem i_258_30 : aIns 258 30 = some (.istore 4, 2, 0, 0, .null) := by decide +kernel
theorem i_258_32 : aIns 258 32 = some (.iload 5, 2, 0, 0, .null) := by decide +kernel
theorem i_258_34 : aIns 258 34 = some (.iconst 1, 1, 0, 0, .int (1)) := by decide +kernel
theorem i_258_35 : aIns 258 35 = some (.aload_n 0, 1, 0, 0, .null) := by decide +kernel
theorem i_258_36 : aIns 258 36 = some (.getfield 55, 3, 12, 31, .null) := by decide +kernel
theorem i_258_39 : aIns 258 39 = some (.iload 6, 2, 0, 0, .null) := by decide +kernel
theorem i_258_41 : aIns 258 41 = some (.iaload, 1, 0, 0, .null) := by decide +kernel
theorem i_258_42 : aIns 258 42 = some (.ishl, 1, 0, 0, .null) := by decide +kernel
theorem i_258_43 : aIns 258 43 = some (.ior, 1, 0, 0, .null) := by decide +kernel
theorem i_258_44 : aIns 258 44 = some (.istore 5, 2, 0, 0, .null) := by decide +kernel
theorem i_258_46 : aIns 258 46 = some (.iinc 6 1, 3, 0, 0, .null) := by decide +kernel
theorem i_258_49 : aIns 258 49 = some (.goto (-40), 3, 0, 0, .null) := by decide +kernel
theorem i_258_52 : aIns 258 52 = some (.aload_n 0, 1, 0, 0, .null) := by decide +kernel
theorem i_258_53 : aIns 258 53 = some (.iload 4, 2, 0, 0, .null) := by decide +kernel
theorem i_258_55 : aIns 258 55 = some (.invokevirtual 441, 3, 208, 1, .int 12) := by decide +kernel
theorem i_258_58 : aIns 258 58 = some (.iload_n 2, 1, 0, 0, .null) := by decide +kernel
theorem i_258_59 : aIns 258 59 = some (.if_icmp .eq 4, 3, 0, 0, .null) := by decide +kernel
theorem i_258_62 : aIns 258 62 = some (.return_, 1, 0, 0, .null) := by decide +kernel
theorem i_258_63 : aIns 258 63 = some (.aload_n 0, 1, 0, 0, .null) := by decide +kernel
theorem i_258_64 : aIns 258 64 = some (.dup, 1, 0, 0, .null) := by decide +kernel
theorem i_258_65 : aIns 258 65 = some (.getfield 486, 3, 12, 37, .null) := by decide +kernel
theorem i_258_68 : aIns 258 68 = some (.iload 5, 2, 0, 0, .null) := by decide +kernel
theorem i_258_70 : aIns 258 70 = some (.iand, 1, 0, 0, .null) := by decide +kernel
theorem i_258_71 : aIns 258 71 = some (.putfield 486, 3, 12, 37, .null) := by decide +kernel
theorem i_258_74 : aIns 258 74 = some (.aload_n 0, 1, 0, 0, .null) := by decide +kernel
theorem i_258_75 : aIns 258 75 = some (.getfield 489, 3, 12, 36, .null) := by decide +kernel
theorem i_258_78 : aIns 258 78 = some (.ifCond .ne 37, 3, 0, 0, .null) := by decide +kernel
theorem i_258_81 : aIns 258 81 = some (.aload_n 0, 1, 0, 0, .null) := by decide +kernel
theorem i_258_82 : aIns 258 82 = some (.iload_n 1, 1, 0, 0, .null) := by decide +kernel
theorem i_258_83 : aIns 258 83 = some (.putfield 492, 3, 12, 38, .null) := by decide +kernel
theorem i_258_86 : aIns 258 86 = some (.iconst 0, 1, 0, 0, .int (0)) := by decide +kernel
theorem i_258_87 : aIns 258 87 = some (.istore 6, 2, 0, 0, .null) := by decide +kernel
theorem i_258_89 : aIns 258 89 = some (.iload 6, 2, 0, 0, .null) := by decide +kernel
theorem i_258_91 : aIns 258 91 = some (.iload_n 1, 1, 0, 0, .null) := by decide +kernel
theorem i_258_92 : aIns 258 92 = some (.if_icmp .ge 23, 3, 0, 0, .null) := by decide +kernel
theorem i_258_95 : aIns 258 95 = some (.aload_n 0, 1, 0, 0, .null) := by decide +kernel
theorem i_258_96 : aIns 258 96 = some (.getfield 52, 3, 12, 28, .null) := by decide +kernel
theorem i_258_99 : aIns 258 99 = some (.iload 6, 2, 0, 0, .null) := by decide +kernel
theorem i_258_101 : aIns 258 101 = some (.aload_n 0, 1, 0, 0, .null) := by decide +kernel
theorem i_258_102 : aIns 258 102 = some (.getfield 55, 3, 12, 31, .null) := by decide +kernel
theorem i_258_105 : aIns 258 105 = some (.iload 6, 2, 0, 0, .null) := by decide +kernel
theorem i_258_107 : aIns 258 107 = some (.iaload, 1, 0, 0, .null) := by decide +kernel
theorem i_258_108 : aIns 258 108 = some (.iastore, 1, 0, 0, .null) := by decide +kernel
theorem i_258_109 : aIns 258 109 = some (.iinc 6 1, 3, 0, 0, .null) := by decide +kernel
theorem i_258_112 : aIns 258 112 = some (.goto (-23), 3, 0, 0, .null) := by decide +kernel
theorem i_258_115 : aIns 258 115 = some (.aload_n 0, 1, 0, 0, .null) := by decide +kernel
theorem i_258_116 : aIns 258 116 = some (.dup, 1, 0, 0, .null) := by decide +kernel
theorem i_258_117 : aIns 258 117 = some (.getfield 489, 3, 12, 36, .null) := by decide +kernel
theorem i_258_120 : aIns 258 120 = some (.iconst 1, 1, 0, 0, .int (1)) := by decide +kernel
theorem i_258_121 : aIns 258 121 = some (.iadd, 1, 0, 0, .null) := by decide +kernel
theorem i_258_122 : aIns 258 122 = some (.putfield 489, 3, 12, 36, .null) := by decide +kernel
theorem i_258_125 : aIns 258 125 = some (.return_, 1, 0, 0, .null) := by decide +kernel
theorem i_259_0 : aIns 259 0 = some (.aload_n 0, 1, 0, 0, .null) := by decide +kernel
theorem i_259_1 : aIns 259 1 = some (.invokevirtual 374, 3, 187, 0, .int 12) := by decide +kernel
theorem i_259_4 : aIns 259 4 = some (.ifCond .eq 39, 3, 0, 0, .null) := by decide +kernel
theorem i_259_7 : aIns 259 7 = some (.iload_n 1, 1, 0, 0, .null) := by decide +kernel
theorem i_259_8 : aIns 259 8 = some (.i2l, 1, 0, 0, .null) := by decide +kernel
theorem i_259_9 : aIns 259 9 = some (.lconst 0, 1, 0, 0, .long 0) := by decide +kernel
theorem i_259_10 : aIns 259 10 = some (.ldc2_w 495, 3, 0, 0, .long (30000)) := by decide +kernel
theorem i_259_13 : aIns 259 13 = some (.invokestatic 124, 3, 140, 3, .null) := by decide +kernel
theorem i_259_16 : aIns 259 16 = some (.ifCond .eq 27, 3, 0, 0, .null) := by decide +kernel
theorem i_259_19 : aIns 259 19 = some (.iload_n 2, 1, 0, 0, .null) := by decide +kernel
theorem i_259_20 : aIns 259 20 = some (.i2l, 1, 0, 0, .null) := by decide +kernel
theorem i_259_21 : aIns 259 21 = some (.lconst 0, 1, 0, 0, .long 0) := by decide +kernel
theorem i_259_22 : aIns 259 22 = some (.ldc2_w 351, 3, 0, 0, .long (99)) := by decide +kernel
theorem i_259_25 : aIns 259 25 = some (.invokestatic 124, 3, 140, 3, .null) := by decide +kernel
theorem i_259_28 : aIns 259 28 = some (.ifCond .eq 15, 3, 0, 0, .null) := by decide +kernel
theorem i_259_31 : aIns 259 31 = some (.iload_n 3, 1, 0, 0, .null) := by decide +kernel
theorem i_259_32 : aIns 259 32 = some (.i2l, 1, 0, 0, .null) := by decide +kernel
theorem i_259_33 : aIns 259 33 = some (.lconst 0, 1, 0, 0, .long 0) := by decide +kernel
theorem i_259_34 : aIns 259 34 = some (.ldc2_w 338, 3, 0, 0, .long (5)) := by decide +kernel
theorem i_259_37 : aIns 259 37 = some (.invokestatic 124, 3, 140, 3, .null) := by decide +kernel
theorem i_259_40 : aIns 259 40 = some (.ifCond .ne 6, 3, 0, 0, .null) := by decide +kernel
theorem i_259_43 : aIns 259 43 = some (.bipush (-3), 2, 0, 0, .int (-3)) := by decide +kernel
theorem i_259_45 : aIns 259 45 = some (.ireturn, 1, 0, 0, .null) := by decide +kernel
theorem i_259_46 : aIns 259 46 = some (.aload_n 0, 1, 0, 0, .null) := by decide +kernel
theorem i_259_47 : aIns 259 47 = some (.iconst 0, 1, 0, 0, .int (0)) := by decide +kernel
theorem i_259_48 : aIns 259 48 = some (.putfield 489, 3, 12, 36, .null) := by decide +kernel
theorem i_259_51 : aIns 259 51 = some (.aload_n 0, 1, 0, 0, .null) := by decide +kernel
theorem i_259_52 : aIns 259 52 = some (.iconst 1, 1, 0, 0, .int (1)) := by decide +kernel
theorem i_259_53 : aIns 259 53 = some (.aload_n 0, 1, 0, 0, .null) := by decide +kernel
theorem i_259_54 : aIns 259 54 = some (.getfield 39, 3, 12, 20, .null) := by decide +kernel
theorem i_259_57 : aIns 259 57 = some (.iconst 1, 1, 0, 0, .int (1)) := by decide +kernel
theorem i_259_58 : aIns 259 58 = some (.iaload, 1, 0, 0, .null) := by decide +kernel
theorem i_259_59 : aIns 259 59 = some (.ishl, 1, 0, 0, .null) := by decide +kernel
theorem i_259_60 : aIns 259 60 = some (.iconst 1, 1, 0, 0, .int (1)) := by decide +kernel
theorem i_259_61 : aIns 259 61 = some (.isub, 1, 0, 0, .null) := by decide +kernel
theorem i_259_62 : aIns 259 62 = some (.putfield 486, 3, 12, 37, .null) := by decide +kernel
theorem i_259_65 : aIns 259 65 = some (.aload_n 0, 1, 0, 0, .null) := by decide +kernel
theorem i_259_66 : aIns 259 66 = some (.iconst 0, 1, 0, 0, .int (0)) := by decide +kernel
theorem i_259_67 : aIns 259 67 = some (.putfield 492, 3, 12, 38, .null) := by decide +kernel
theorem i_259_70 : aIns 259 70 = some (.iconst 1, 1, 0, 0, .int (1)) := by decide +kernel
theorem i_259_71 : aIns 259 71 = some (.istore 4, 2, 0, 0, .null) := by decide +kernel
theorem i_259_73 : aIns 259 73 = some (.iload 4, 2, 0, 0, .null) := by decide +kernel
theorem i_259_75 : aIns 259 75 = some (.iconst 4, 1, 0, 0, .int (4)) := by decide +kernel
theorem i_259_76 : aIns 259 76 = some (.if_icmp .gt 69, 3, 0, 0, .null) := by decide +kernel
theorem i_259_79 : aIns 259 79 = some (.aload_n 0, 1, 0, 0, .null) := by decide +kernel
theorem i_259_80 : aIns 259 80 = some (.getfield 39, 3, 12, 20, .null) := by decide +kernel
theorem i_259_83 : aIns 259 83 = some (.iconst 1, 1, 0, 0, .int (1)) := by decide +kernel
theorem i_259_84 : aIns 259 84 = some (.iaload, 1, 0, 0, .null) := by decide +kernel
theorem i_259_85 : aIns 259 85 = some (.ifCond .le 60, 3, 0, 0, .null) := by decide +kernel
theorem i_259_88 : aIns 259 88 = some (.iconst 0, 1, 0, 0, .int (0)) := by decide +kernel
theorem i_259_89 : aIns 259 89 = some (.istore 5, 2, 0, 0, .null) := by decide +kernel
theorem i_259_91 : aIns 259 91 = some (.iload 5, 2, 0, 0, .null) := by decide +kernel
theorem i_259_93 : aIns 259 93 = some (.iload 4, 2, 0, 0, .null) := by decide +kernel
theorem i_259_95 : aIns 259 95 = some (.if_icmp .ge 17, 3, 0, 0, .null) := by decide +kernel
theorem i_259_98 : aIns 259 98 = some (.aload_n 0, 1, 0, 0, .null) := by decide +kernel
theorem i_259_99 : aIns 259 99 = some (.getfield 55, 3, 12, 31, .null) := by decide +kernel
theorem i_259_102 : aIns 259 102 = some (.iload 5, 2, 0, 0, .null) := by decide +kernel
theorem i_259_104 : aIns 259 104 = some (.iconst 0, 1, 0, 0, .int (0)) := by decide +kernel
theorem i_259_105 : aIns 259 105 = some (.iastore, 1, 0, 0, .null) := by decide +kernel
theorem i_259_106 : aIns 259 106 = some (.iinc 5 1, 3, 0, 0, .null) := by decide +kernel
theorem i_259_109 : aIns 259 109 = some (.goto (-18), 3, 0, 0, .null) := by decide +kernel
theorem i_259_112 : aIns 259 112 = some (.iconst 1, 1, 0, 0, .int (1)) := by decide +kernel
theorem i_259_113 : aIns 259 113 = some (.istore 5, 2, 0, 0, .null) := by decide +kernel
theorem i_259_115 : aIns 259 115 = some (.iload 5, 2, 0, 0, .null) := by decide +kernel
theorem i_259_117 : aIns 259 117 = some (.ifCond .eq 22, 3, 0, 0, .null) := by decide +kernel
theorem i_259_120 : aIns 259 120 = some (.aload_n 0, 1, 0, 0, .null) := by decide +kernel
theorem i_259_121 : aIns 259 121 = some (.iload 4, 2, 0, 0, .null) := by decide +kernel
theorem i_259_123 : aIns 259 123 = some (.iload_n 1, 1, 0, 0, .null) := by decide +kernel
theorem i_259_124 : aIns 259 124 = some (.iload_n 2, 1, 0, 0, .null) := by decide +kernel
theorem i_259_125 : aIns 259 125 = some (.invokevirtual 497, 3, 258, 3, .int 12) := by decide +kernel
theorem i_259_128 : aIns 259 128 = some (.aload_n 0, 1, 0, 0, .null) := by decide +kernel
theorem i_259_129 : aIns 259 129 = some (.iload 4, 2, 0, 0, .null) := by decide +kernel
theorem i_259_131 : aIns 259 131 = some (.invokevirtual 429, 3, 237, 1, .int 12) := by decide +kernel
theorem i_259_134 : aIns 259 134 = some (.istore 5, 2, 0, 0, .null) := by decide +kernel
theorem i_259_136 : aIns 259 136 = some (.goto (-21), 3, 0, 0, .null) := by decide +kernel
theorem i_259_139 : aIns 259 139 = some (.iinc 4 1, 3, 0, 0, .null) := by decide +kernel
theorem i_259_142 : aIns 259 142 = some (.goto (-69), 3, 0, 0, .null) := by decide +kernel
theorem i_259_145 : aIns 259 145 = some (.iload_n 3, 1, 0, 0, .null) := by decide +kernel
theorem i_259_146 : aIns 259 146 = some (.ifCond .ne 8, 3, 0, 0, .null) := by decide +kernel
theorem i_259_149 : aIns 259 149 = some (.aload_n 0, 1, 0, 0, .null) := by decide +kernel
theorem i_259_150 : aIns 259 150 = some (.getfield 489, 3, 12, 36, .null) := by decide +kernel
theorem i_259_153 : aIns 259 153 = some (.ireturn, 1, 0, 0, .null) := by decide +kernel
theorem i_259_154 : aIns 259 154 = some (.iload_n 3, 1, 0, 0, .null) := by decide +kernel
theorem i_259_155 : aIns 259 155 = some (.iconst 5, 1, 0, 0, .int (5)) := by decide +kernel
theorem i_259_156 : aIns 259 156 = some (.if_icmp .ne 19, 3, 0, 0, .null) := by decide +kernel
theorem i_259_159 : aIns 259 159 = some (.aload_n 0, 1, 0, 0, .null) := by decide +kernel
theorem i_259_160 : aIns 259 160 = some (.getfield 489, 3, 12, 36, .null) := by decide +kernel
theorem i_259_163 : aIns 259 163 = some (.ifCond .ne 7, 3, 0, 0, .null) := by decide +kernel
theorem i_259_166 : aIns 259 166 = some (.iconst 0, 1, 0, 0, .int (0)) := by decide +kernel
theorem i_259_167 : aIns 259 167 = some (.goto 7, 3, 0, 0, .null) := by decide +kernel
theorem i_259_170 : aIns 259 170 = some (.aload_n 0, 1, 0, 0, .null) := by decide +kernel
theorem i_259_171 : aIns 259 171 = some (.getfield 486, 3, 12, 37, .null) := by decide +kernel
theorem i_259_174 : aIns 259 174 = some (.ireturn, 1, 0, 0, .null) := by decide +kernel
theorem i_259_175 : aIns 259 175 = some (.iload_n 3, 1, 0, 0, .null) := by decide +kernel
theorem i_259_176 : aIns 259 176 = some (.aload_n 0, 1, 0, 0, .null) := by decide +kernel
theorem i_259_177 : aIns 259 177 = some (.getfield 492, 3, 12, 38, .null) := by decide +kernel
theorem i_259_180 : aIns 259 180 = some (.if_icmp .gt 14, 3, 0, 0, .null) := by decide +kernel
theorem i_259_183 : aIns 259 183 = some (.aload_n 0, 1, 0, 0, .null) := by decide +kernel
theorem i_259_184 : aIns 259 184 = some (.getfield 52, 3, 12, 28, .null) := by decide +kernel
theorem i_259_187 : aIns 259 187 = some (.iload_n 3, 1, 0, 0, .null) := by decide +kernel
theorem i_259_188 : aIns 259 188 = some (.iconst 1, 1, 0, 0, .int (1)) := by decide +kernel
theorem i_259_189 : aIns 259 189 = some (.isub, 1, 0, 0, .null) := by decide +kernel
theorem i_259_190 : aIns 259 190 = some (.iaload, 1, 0, 0, .null) := by decide +kernel
theorem i_259_191 : aIns 259 191 = some (.goto 5, 3, 0, 0, .null) := by decide +kernel
theorem i_259_194 : aIns 259 194 = some (.bipush (-2), 2, 0, 0, .int (-2)) := by decide +kernel
theorem i_259_196 : aIns 259 196 = some (.ireturn, 1, 0, 0, .null) := by decide +kernel
theorem i_260_0 : aIns 260 0 = some (.iload_n 1, 1, 0, 0, .null) := by decide +kernel
theorem i_260_1 : aIns 260 1 = some (.iconst (-1), 1, 0, 0, .int (-1)) := by decide +kernel
theorem i_260_2 : aIns 260 2 = some (.if_icmp .ne 14, 3, 0, 0, .null) := by decide +kernel
theorem i_260_5 : aIns 260 5 = some (.aload_n 0, 1, 0, 0, .null) := by decide +kernel
theorem i_260_6 : aIns 260 6 = some (.getfield 39, 3, 12, 20, .null) := by decide +kernel
theorem i_260_9 : aIns 260 9 = some (.sipush 180, 3, 0, 0, .int (180)) := by decide +kernel
theorem i_260_12 : aIns 260 12 = some (.iconst 0, 1, 0, 0, .int (0)) := by decide +kernel
theorem i_260_13 : aIns 260 13 = some (.iastore, 1, 0, 0, .null) := by decide +kernel
theorem i_260_14 : aIns 260 14 = some (.iconst 0, 1, 0, 0, .int (0)) := by decide +kernel
theorem i_260_15 : aIns 260 15 = some (.ireturn, 1, 0, 0, .null) := by decide +kernel
theorem i_260_16 : aIns 260 16 = some (.aload_n 0, 1, 0, 0, .null) := by decide +kernel
theorem i_260_17 : aIns 260 17 = some (.iload_n 1, 1, 0, 0, .null) := by decide +kernel
theorem i_260_18 : aIns 260 18 = some (.invokevirtual 329, 3, 188, 1, .int 12) := by decide +kernel
theorem i_260_21 : aIns 260 21 = some (.ifCond .eq 53, 3, 0, 0, .null) := by decide +kernel
theorem i_260_24 : aIns 260 24 = some (.iload_n 2, 1, 0, 0, .null) := by decide +kernel
theorem i_260_25 : aIns 260 25 = some (.i2l, 1, 0, 0, .null) := by decide +kernel
theorem i_260_26 : aIns 260 26 = some (.lconst 0, 1, 0, 0, .long 0) := by decide +kernel
theorem i_260_27 : aIns 260 27 = some (.ldc2_w 351, 3, 0, 0, .long (99)) := by decide +kernel
theorem i_260_30 : aIns 260 30 = some (.invokestatic 124, 3, 140, 3, .null) := by decide +kernel
theorem i_260_33 : aIns 260 33 = some (.ifCond .eq 41, 3, 0, 0, .null) := by decide +kernel
theorem i_260_36 : aIns 260 36 = some (.iload_n 3, 1, 0, 0, .null) := by decide +kernel
theorem i_260_37 : aIns 260 37 = some (.i2l, 1, 0, 0, .null) := by decide +kernel
theorem i_260_38 : aIns 260 38 = some (.lconst 0, 1, 0, 0, .long 0) := by decide +kernel
theorem i_260_39 : aIns 260 39 = some (.ldc2_w 351, 3, 0, 0, .long (99)) := by decide +kernel
theorem i_260_42 : aIns 260 42 = some (.invokestatic 124, 3, 140, 3, .null) := by decide +kernel
theorem i_260_45 : aIns 260 45 = some (.ifCond .eq 29, 3, 0, 0, .null) := by decide +kernel
theorem i_260_48 : aIns 260 48 = some (.iload 4, 2, 0, 0, .null) := by decide +kernel
theorem i_260_50 : aIns 260 50 = some (.i2l, 1, 0, 0, .null) := by decide +kernel
theorem i_260_51 : aIns 260 51 = some (.lconst 1, 1, 0, 0, .long 1) := by decide +kernel
theorem i_260_52 : aIns 260 52 = some (.ldc2_w 320, 3, 0, 0, .long (9999)) := by decide +kernel
theorem i_260_55 : aIns 260 55 = some (.invokestatic 124, 3, 140, 3, .null) := by decide +kernel
theorem i_260_58 : aIns 260 58 = some (.ifCond .eq 16, 3, 0, 0, .null) := by decide +kernel
theorem i_260_61 : aIns 260 61 = some (.aload_n 0, 1, 0, 0, .null) := by decide +kernel
theorem i_260_62 : aIns 260 62 = some (.getfield 39, 3, 12, 20, .null) := by decide +kernel
theorem i_260_65 : aIns 260 65 = some (.sipush 180, 3, 0, 0, .int (180)) := by decide +kernel
theorem i_260_68 : aIns 260 68 = some (.iaload, 1, 0, 0, .null) := by decide +kernel
theorem i_260_69 : aIns 260 69 = some (.bipush 10, 2, 0, 0, .int (10)) := by decide +kernel
theorem i_260_71 : aIns 260 71 = some (.if_icmp .ne 6, 3, 0, 0, .null) := by decide +kernel
theorem i_260_74 : aIns 260 74 = some (.bipush (-2), 2, 0, 0, .int (-2)) := by decide +kernel
theorem i_260_76 : aIns 260 76 = some (.ireturn, 1, 0, 0, .null) := by decide +kernel
theorem i_260_77 : aIns 260 77 = some (.sipush 140, 3, 0, 0, .int (140)) := by decide +kernel
theorem i_260_80 : aIns 260 80 = some (.iconst 4, 1, 0, 0, .int (4)) := by decide +kernel
theorem i_260_81 : aIns 260 81 = some (.aload_n 0, 1, 0, 0, .null) := by decide +kernel
theorem i_260_82 : aIns 260 82 = some (.getfield 39, 3, 12, 20, .null) := by decide +kernel
theorem i_260_85 : aIns 260 85 = some (.sipush 180, 3, 0, 0, .int (180)) := by decide +kernel
theorem i_260_88 : aIns 260 88 = some (.iaload, 1, 0, 0, .null) := by decide +kernel
theorem i_260_89 : aIns 260 89 = some (.imul, 1, 0, 0, .null) := by decide +kernel
theorem i_260_90 : aIns 260 90 = some (.iadd, 1, 0, 0, .null) := by decide +kernel
theorem i_260_91 : aIns 260 91 = some (.istore 5, 2, 0, 0, .null) := by decide +kernel
theorem i_260_93 : aIns 260 93 = some (.aload_n 0, 1, 0, 0, .null) := by decide +kernel
theorem i_260_94 : aIns 260 94 = some (.getfield 39, 3, 12, 20, .null) := by decide +kernel
theorem i_260_97 : aIns 260 97 = some (.iload 5, 2, 0, 0, .null) := by decide +kernel
theorem i_260_99 : aIns 260 99 = some (.iload_n 1, 1, 0, 0, .null) := by decide +kernel
theorem i_260_100 : aIns 260 100 = some (.iastore, 1, 0, 0, .null) := by decide +kernel
theorem i_260_101 : aIns 260 101 = some (.aload_n 0, 1, 0, 0, .null) := by decide +kernel
theorem i_260_102 : aIns 260 102 = some (.getfield 39, 3, 12, 20, .null) := by decide +kernel
theorem i_260_105 : aIns 260 105 = some (.iload 5, 2, 0, 0, .null) := by decide +kernel
theorem i_260_107 : aIns 260 107 = some (.iconst 1, 1, 0, 0, .int (1)) := by decide +kernel
theorem i_260_108 : aIns 260 108 = some (.iadd, 1, 0, 0, .null) := by decide +kernel
theorem i_260_109 : aIns 260 109 = some (.iload_n 2, 1, 0, 0, .null) := by decide +kernel
theorem i_260_110 : aIns 260 110 = some (.iastore, 1, 0, 0, .null) := by decide +kernel
theorem i_260_111 : aIns 260 111 = some (.aload_n 0, 1, 0, 0, .null) := by decide +kernel
theorem i_260_112 : aIns 260 112 = some (.getfield 39, 3, 12, 20, .null) := by decide +kernel
theorem i_260_115 : aIns 260 115 = some (.iload 5, 2, 0, 0, .null) := by decide +kernel
theorem i_260_117 : aIns 260 117 = some (.iconst 2, 1, 0, 0, .int (2)) := by decide +kernel
theorem i_260_118 : aIns 260 118 = some (.iadd, 1, 0, 0, .null) := by decide +kernel
theorem i_260_119 : aIns 260 119 = some (.iload_n 3, 1, 0, 0, .null) := by decide +kernel
theorem i_260_120 : aIns 260 120 = some (.iastore, 1, 0, 0, .null) := by decide +kernel
theorem i_260_121 : aIns 260 121 = some (.aload_n 0, 1, 0, 0, .null) := by decide +kernel
theorem i_260_122 : aIns 260 122 = some (.getfield 39, 3, 12, 20, .null) := by decide +kernel
theorem i_260_125 : aIns 260 125 = some (.iload 5, 2, 0, 0, .null) := by decide +kernel
theorem i_260_127 : aIns 260 127 = some (.iconst 3, 1, 0, 0, .int (3)) := by decide +kernel
theorem i_260_128 : aIns 260 128 = some (.iadd, 1, 0, 0, .null) := by decide +kernel
theorem i_260_129 : aIns 260 129 = some (.iload 4, 2, 0, 0, .null) := by decide +kernel
theorem i_260_131 : aIns 260 131 = some (.iastore, 1, 0, 0, .null) := by decide +kernel
theorem i_260_132 : aIns 260 132 = some (.aload_n 0, 1, 0, 0, .null) := by decide +kernel
theorem i_260_133 : aIns 260 133 = some (.getfield 39, 3, 12, 20, .null) := by decide +kernel
theorem i_260_136 : aIns 260 136 = some (.sipush 180, 3, 0, 0, .int (180)) := by decide +kernel
theorem i_260_139 : aIns 260 139 = some (.dup2, 1, 0, 0, .null) := by decide +kernel
theorem i_260_140 : aIns 260 140 = some (.iaload, 1, 0, 0, .null) := by decide +kernel
theorem i_260_141 : aIns 260 141 = some (.iconst 1, 1, 0, 0, .int (1)) := by decide +kernel
theorem i_260_142 : aIns 260 142 = some (.iadd, 1, 0, 0, .null) := by decide +kernel
theorem i_260_143 : aIns 260 143 = some (.iastore, 1, 0, 0, .null) := by decide +kernel
theorem i_260_144 : aIns 260 144 = some (.aload_n 0, 1, 0, 0, .null) := by decide +kernel
theorem i_260_145 : aIns 260 145 = some (.getfield 39, 3, 12, 20, .null) := by decide +kernel
theorem i_260_148 : aIns 260 148 = some (.sipush 180, 3, 0, 0, .int (180)) := by decide +kernel
theorem i_260_151 : aIns 260 151 = some (.iaload, 1, 0, 0, .null) := by decide +kernel
theorem i_260_152 : aIns 260 152 = some (.ireturn, 1, 0, 0, .null) := by decide +kernel
theorem i_261_0 : aIns 261 0 = some (.iconst 0, 1, 0, 0, .int (0)) := by decide +kernel
theorem i_261_1 : aIns 261 1 = some (.istore_n 2, 1, 0, 0, .null) := by decide +kernel
theorem i_261_2 : aIns 261 2 = some (.iload_n 2, 1, 0, 0, .null) := by decide +kernel
theorem i_261_3 : aIns 261 3 = some (.aload_n 0, 1, 0, 0, .null) := by decide +kernel
theorem i_261_4 : aIns 261 4 = some (.getfield 39, 3, 12, 20, .null) := by decide +kernel
theorem i_261_7 : aIns 261 7 = some (.sipush 180, 3, 0, 0, .int (180)) := by decide +kernel
theorem i_261_10 : aIns 261 10 = some (.iaload, 1, 0, 0, .null) := by decide +kernel
theorem i_261_11 : aIns 261 11 = some (.if_icmp .ge 57, 3, 0, 0, .null) := by decide +kernel
theorem i_261_14 : aIns 261 14 = some (.sipush 140, 3, 0, 0, .int (140)) := by decide +kernel
theorem i_261_17 : aIns 261 17 = some (.iconst 4, 1, 0, 0, .int (4)) := by decide +kernel
theorem i_261_18 : aIns 261 18 = some (.iload_n 2, 1, 0, 0, .null) := by decide +kernel
theorem i_261_19 : aIns 261 19 = some (.imul, 1, 0, 0, .null) := by decide +kernel
theorem i_261_20 : aIns 261 20 = some (.iadd, 1, 0, 0, .null) := by decide +kernel
theorem i_261_21 : aIns 261 21 = some (.istore_n 3, 1, 0, 0, .null) := by decide +kernel
theorem i_261_22 : aIns 261 22 = some (.aload_n 0, 1, 0, 0, .null) := by decide +kernel
theorem i_261_23 : aIns 261 23 = some (.iload_n 1, 1, 0, 0, .null) := by decide +kernel
theorem i_261_24 : aIns 261 24 = some (.aload_n 0, 1, 0, 0, .null) := by decide +kernel
theorem i_261_25 : aIns 261 25 = some (.getfield 39, 3, 12, 20, .null) := by decide +kernel
theorem i_261_28 : aIns 261 28 = some (.iload_n 3, 1, 0, 0, .null) := by decide +kernel
theorem i_261_29 : aIns 261 29 = some (.iaload, 1, 0, 0, .null) := by decide +kernel
theorem i_261_30 : aIns 261 30 = some (.aload_n 0, 1, 0, 0, .null) := by decide +kernel
theorem i_261_31 : aIns 261 31 = some (.getfield 39, 3, 12, 20, .null) := by decide +kernel
theorem i_261_34 : aIns 261 34 = some (.iload_n 3, 1, 0, 0, .null) := by decide +kernel
theorem i_261_35 : aIns 261 35 = some (.iconst 1, 1, 0, 0, .int (1)) := by decide +kernel
theorem i_261_36 : aIns 261 36 = some (.iadd, 1, 0, 0, .null) := by decide +kernel
theorem i_261_37 : aIns 261 37 = some (.iaload, 1, 0, 0, .null) := by decide +kernel
theorem i_261_38 : aIns 261 38 = some (.aload_n 0, 1, 0, 0, .null) := by decide +kernel
theorem i_261_39 : aIns 261 39 = some (.getfield 39, 3, 12, 20, .null) := by decide +kernel
theorem i_261_42 : aIns 261 42 = some (.iload_n 3, 1, 0, 0, .null) := by decide +kernel
theorem i_261_43 : aIns 261 43 = some (.iconst 2, 1, 0, 0, .int (2)) := by decide +kernel
theorem i_261_44 : aIns 261 44 = some (.iadd, 1, 0, 0, .null) := by decide +kernel
theorem i_261_45 : aIns 261 45 = some (.iaload, 1, 0, 0, .null) := by decide +kernel
theorem i_261_46 : aIns 261 46 = some (.invokevirtual 322, 3, 198, 4, .int 12) := by decide +kernel
theorem i_261_49 : aIns 261 49 = some (.aload_n 0, 1, 0, 0, .null) := by decide +kernel
theorem i_261_50 : aIns 261 50 = some (.getfield 39, 3, 12, 20, .null) := by decide +kernel
theorem i_261_53 : aIns 261 53 = some (.iload_n 3, 1, 0, 0, .null) := by decide +kernel
theorem i_261_54 : aIns 261 54 = some (.iconst 3, 1, 0, 0, .int (3)) := by decide +kernel
theorem i_261_55 : aIns 261 55 = some (.iadd, 1, 0, 0, .null) := by decide +kernel
theorem i_261_56 : aIns 261 56 = some (.iaload, 1, 0, 0, .null) := by decide +kernel
theorem i_261_57 : aIns 261 57 = some (.if_icmp .eq 5, 3, 0, 0, .null) := by decide +kernel
theorem i_261_60 : aIns 261 60 = some (.iconst 0, 1, 0, 0, .int (0)) := by decide +kernel
theorem i_261_61 : aIns 261 61 = some (.ireturn, 1, 1, 0, .null) := by decide +kernel
theorem i_261_62 : aIns 261 62 = some (.iinc 2 1, 3, 0, 0, .null) := by decide +kernel
theorem i_261_65 : aIns 261 65 = some (.goto (-63), 3, 0, 0, .null) := by decide +kernel
theorem i_261_68 : aIns 261 68 = some (.iconst 1, 1, 0, 0, .int (1)) := by decide +kernel
theorem i_261_69 : aIns 261 69 = some (.ireturn, 1, 1, 0, .null) := by decide +kernel
theorem i_262_0 : aIns 262 0 = some (.aload_n 0, 1, 0, 0, .null) := by decide +kernel
theorem i_262_1 : aIns 262 1 = some (.invokevirtual 374, 3, 187, 0, .int 12) := by decide +kernel
theorem i_262_4 : aIns 262 4 = some (.ifCond .eq 13, 3, 0, 0, .null) := by decide +kernel
theorem i_262_7 : aIns 262 7 = some (.iload_n 1, 1, 0, 0, .null) := by decide +kernel
theorem i_262_8 : aIns 262 8 = some (.i2l, 1, 0, 0, .null) := by decide +kernel
theorem i_262_9 : aIns 262 9 = some (.lconst 0, 1, 0, 0, .long 0) := by decide +kernel
theorem i_262_10 : aIns 262 10 = some (.lconst 1, 1, 0, 0, .long 1) := by decide +kernel
theorem i_262_11 : aIns 262 11 = some (.invokestatic 124, 3, 140, 3, .null) := by decide +kernel
theorem i_262_14 : aIns 262 14 = some (.ifCond .ne 6, 3, 0, 0, .null) := by decide +kernel
theorem i_262_17 : aIns 262 17 = some (.bipush (-3), 2, 0, 0, .int (-3)) := by decide +kernel
theorem i_262_19 : aIns 262 19 = some (.ireturn, 1, 0, 0, .null) := by decide +kernel
theorem i_262_20 : aIns 262 20 = some (.iconst 0, 1, 0, 0, .int (0)) := by decide +kernel
theorem i_262_21 : aIns 262 21 = some (.istore_n 2, 1, 0, 0, .null) := by decide +kernel
theorem i_262_22 : aIns 262 22 = some (.bipush (-2), 2, 0, 0, .int (-2)) := by decide +kernel
theorem i_262_24 : aIns 262 24 = some (.istore_n 3, 1, 0, 0, .null) := by decide +kernel
theorem i_262_25 : aIns 262 25 = some (.aload_n 0, 1, 0, 0, .null) := by decide +kernel
theorem i_262_26 : aIns 262 26 = some (.getfield 272, 3, 12, 2, .null) := by decide +kernel
theorem i_262_29 : aIns 262 29 = some (.iconst 1, 1, 0, 0, .int (1)) := by decide +kernel
theorem i_262_30 : aIns 262 30 = some (.isub, 1, 0, 0, .null) := by decide +kernel
theorem i_262_31 : aIns 262 31 = some (.istore 4, 2, 0, 0, .null) := by decide +kernel
theorem i_262_33 : aIns 262 33 = some (.iload 4, 2, 0, 0, .null) := by decide +kernel
theorem i_262_35 : aIns 262 35 = some (.iconst (-1), 1, 0, 0, .int (-1)) := by decide +kernel
theorem i_262_36 : aIns 262 36 = some (.if_icmp .lt 27, 3, 0, 0, .null) := by decide +kernel
theorem i_262_39 : aIns 262 39 = some (.aload_n 0, 1, 0, 0, .null) := by decide +kernel
theorem i_262_40 : aIns 262 40 = some (.iload 4, 2, 0, 0, .null) := by decide +kernel
theorem i_262_42 : aIns 262 42 = some (.invokevirtual 500, 3, 261, 1, .int 12) := by decide +kernel
theorem i_262_45 : aIns 262 45 = some (.ifCond .ne 6, 3, 0, 0, .null) := by decide +kernel
theorem i_262_48 : aIns 262 48 = some (.goto 9, 3, 0, 0, .null) := by decide +kernel
theorem i_262_51 : aIns 262 51 = some (.iload 4, 2, 0, 0, .null) := by decide +kernel
theorem i_262_53 : aIns 262 53 = some (.istore_n 3, 1, 0, 0, .null) := by decide +kernel
theorem i_262_54 : aIns 262 54 = some (.iinc 2 1, 3, 0, 0, .null) := by decide +kernel
theorem i_262_57 : aIns 262 57 = some (.iinc 4 (-1), 3, 0, 0, .null) := by decide +kernel
theorem i_262_60 : aIns 262 60 = some (.goto (-27), 3, 0, 0, .null) := by decide +kernel
theorem i_262_63 : aIns 262 63 = some (.iload_n 1, 1, 0, 0, .null) := by decide +kernel
theorem i_262_64 : aIns 262 64 = some (.ifCond .ne 7, 3, 0, 0, .null) := by decide +kernel
theorem i_262_67 : aIns 262 67 = some (.iload_n 2, 1, 0, 0, .null) := by decide +kernel
theorem i_262_68 : aIns 262 68 = some (.goto 4, 3, 0, 0, .null) := by decide +kernel
theorem i_262_71 : aIns 262 71 = some (.iload_n 3, 1, 0, 0, .null) := by decide +kernel
theorem i_262_72 : aIns 262 72 = some (.ireturn, 1, 0, 0, .null) := by decide +kernel
theorem i_263_0 : aIns 263 0 = some (.iconst 0, 1, 0, 0, .int (0)) := by decide +kernel
theorem i_263_1 : aIns 263 1 = some (.istore 4, 2, 0, 0, .null) := by decide +kernel
theorem i_263_3 : aIns 263 3 = some (.iconst 0, 1, 0, 0, .int (0)) := by decide +kernel
theorem i_263_4 : aIns 263 4 = some (.istore 5, 2, 0, 0, .null) := by decide +kernel
theorem i_263_6 : aIns 263 6 = some (.iload 5, 2, 0, 0, .null) := by decide +kernel
theorem i_263_8 : aIns 263 8 = some (.aload_n 0, 1, 0, 0, .null) := by decide +kernel
theorem i_263_9 : aIns 263 9 = some (.getfield 272, 3, 12, 2, .null) := by decide +kernel
theorem i_263_12 : aIns 263 12 = some (.if_icmp .gt 42, 3, 0, 0, .null) := by decide +kernel
theorem i_263_15 : aIns 263 15 = some (.aload_n 0, 1, 0, 0, .null) := by decide +kernel
theorem i_263_16 : aIns 263 16 = some (.getfield 70, 3, 12, 39, .null) := by decide +kernel
theorem i_263_19 : aIns 263 19 = some (.iload 5, 2, 0, 0, .null) := by decide +kernel
theorem i_263_21 : aIns 263 21 = some (.aload_n 0, 1, 0, 0, .null) := by decide +kernel
theorem i_263_22 : aIns 263 22 = some (.iload 5, 2, 0, 0, .null) := by decide +kernel
theorem i_263_24 : aIns 263 24 = some (.iconst 1, 1, 0, 0, .int (1)) := by decide +kernel
theorem i_263_25 : aIns 263 25 = some (.isub, 1, 0, 0, .null) := by decide +kernel
theorem i_263_26 : aIns 263 26 = some (.invokevirtual 500, 3, 261, 1, .int 12) := by decide +kernel
theorem i_263_29 : aIns 263 29 = some (.ifCond .eq 17, 3, 0, 0, .null) := by decide +kernel
theorem i_263_32 : aIns 263 32 = some (.aload_n 0, 1, 0, 0, .null) := by decide +kernel
theorem i_263_33 : aIns 263 33 = some (.iload 5, 2, 0, 0, .null) := by decide +kernel
theorem i_263_35 : aIns 263 35 = some (.iconst 1, 1, 0, 0, .int (1)) := by decide +kernel
theorem i_263_36 : aIns 263 36 = some (.isub, 1, 0, 0, .null) := by decide +kernel
theorem i_263_37 : aIns 263 37 = some (.iload_n 1, 1, 0, 0, .null) := by decide +kernel
theorem i_263_38 : aIns 263 38 = some (.iload_n 2, 1, 0, 0, .null) := by decide +kernel
theorem i_263_39 : aIns 263 39 = some (.iload_n 3, 1, 0, 0, .null) := by decide +kernel
theorem i_263_40 : aIns 263 40 = some (.invokevirtual 322, 3, 198, 4, .int 12) := by decide +kernel
theorem i_263_43 : aIns 263 43 = some (.goto 4, 3, 0, 0, .null) := by decide +kernel
theorem i_263_46 : aIns 263 46 = some (.iconst 0, 1, 0, 0, .int (0)) := by decide +kernel
theorem i_263_47 : aIns 263 47 = some (.iastore, 1, 0, 0, .null) := by decide +kernel
theorem i_263_48 : aIns 263 48 = some (.iinc 5 1, 3, 0, 0, .null) := by decide +kernel
theorem i_263_51 : aIns 263 51 = some (.goto (-45), 3, 0, 0, .null) := by decide +kernel
theorem i_263_54 : aIns 263 54 = some (.iconst 0, 1, 0, 0, .int (0)) := by decide +kernel
theorem i_263_55 : aIns 263 55 = some (.istore 5, 2, 0, 0, .null) := by decide +kernel
theorem i_263_57 : aIns 263 57 = some (.iload 5, 2, 0, 0, .null) := by decide +kernel
theorem i_263_59 : aIns 263 59 = some (.aload_n 0, 1, 0, 0, .null) := by decide +kernel
theorem i_263_60 : aIns 263 60 = some (.getfield 272, 3, 12, 2, .null) := by decide +kernel
theorem i_263_63 : aIns 263 63 = some (.if_icmp .gt 83, 3, 0, 0, .null) := by decide +kernel
theorem i_263_66 : aIns 263 66 = some (.iconst 0, 1, 0, 0, .int (0)) := by decide +kernel
theorem i_263_67 : aIns 263 67 = some (.istore 6, 2, 0, 0, .null) := by decide +kernel
theorem i_263_69 : aIns 263 69 = some (.iconst 0, 1, 0, 0, .int (0)) := by decide +kernel
theorem i_263_70 : aIns 263 70 = some (.istore 7, 2, 0, 0, .null) := by decide +kernel
theorem i_263_72 : aIns 263 72 = some (.iload 7, 2, 0, 0, .null) := by decide +kernel
theorem i_263_74 : aIns 263 74 = some (.aload_n 0, 1, 0, 0, .null) := by decide +kernel
theorem i_263_75 : aIns 263 75 = some (.getfield 272, 3, 12, 2, .null) := by decide +kernel
theorem i_263_78 : aIns 263 78 = some (.if_icmp .gt 46, 3, 0, 0, .null) := by decide +kernel
theorem i_263_81 : aIns 263 81 = some (.iload 6, 2, 0, 0, .null) := by decide +kernel
theorem i_263_83 : aIns 263 83 = some (.aload_n 0, 1, 0, 0, .null) := by decide +kernel
theorem i_263_84 : aIns 263 84 = some (.getfield 70, 3, 12, 39, .null) := by decide +kernel
theorem i_263_87 : aIns 263 87 = some (.iload 5, 2, 0, 0, .null) := by decide +kernel
theorem i_263_89 : aIns 263 89 = some (.iaload, 1, 0, 0, .null) := by decide +kernel
theorem i_263_90 : aIns 263 90 = some (.ifCond .le 24, 3, 0, 0, .null) := by decide +kernel
theorem i_263_93 : aIns 263 93 = some (.aload_n 0, 1, 0, 0, .null) := by decide +kernel
theorem i_263_94 : aIns 263 94 = some (.getfield 70, 3, 12, 39, .null) := by decide +kernel
theorem i_263_97 : aIns 263 97 = some (.iload 5, 2, 0, 0, .null) := by decide +kernel
theorem i_263_99 : aIns 263 99 = some (.iaload, 1, 0, 0, .null) := by decide +kernel
theorem i_263_100 : aIns 263 100 = some (.aload_n 0, 1, 0, 0, .null) := by decide +kernel
theorem i_263_101 : aIns 263 101 = some (.getfield 70, 3, 12, 39, .null) := by decide +kernel
theorem i_263_104 : aIns 263 104 = some (.iload 7, 2, 0, 0, .null) := by decide +kernel
theorem i_263_106 : aIns 263 106 = some (.iaload, 1, 0, 0, .null) := by decide +kernel
theorem i_263_107 : aIns 263 107 = some (.if_icmp .ne 7, 3, 0, 0, .null) := by decide +kernel
theorem i_263_110 : aIns 263 110 = some (.iconst 1, 1, 0, 0, .int (1)) := by decide +kernel
theorem i_263_111 : aIns 263 111 = some (.goto 4, 3, 0, 0, .null) := by decide +kernel
theorem i_263_114 : aIns 263 114 = some (.iconst 0, 1, 0, 0, .int (0)) := by decide +kernel
theorem i_263_115 : aIns 263 115 = some (.iadd, 1, 0, 0, .null) := by decide +kernel
theorem i_263_116 : aIns 263 116 = some (.istore 6, 2, 0, 0, .null) := by decide +kernel
theorem i_263_118 : aIns 263 118 = some (.iinc 7 1, 3, 0, 0, .null) := by decide +kernel
theorem i_263_121 : aIns 263 121 = some (.goto (-49), 3, 0, 0, .null) := by decide +kernel
theorem i_263_124 : aIns 263 124 = some (.iload 6, 2, 0, 0, .null) := by decide +kernel
theorem i_263_126 : aIns 263 126 = some (.iload 4, 2, 0, 0, .null) := by decide +kernel
theorem i_263_128 : aIns 263 128 = some (.if_icmp .le 8, 3, 0, 0, .null) := by decide +kernel
theorem i_263_131 : aIns 263 131 = some (.iload 6, 2, 0, 0, .null) := by decide +kernel
theorem i_263_133 : aIns 263 133 = some (.goto 5, 3, 0, 0, .null) := by decide +kernel
theorem i_263_136 : aIns 263 136 = some (.iload 4, 2, 0, 0, .null) := by decide +kernel
theorem i_263_138 : aIns 263 138 = some (.istore 4, 2, 0, 0, .null) := by decide +kernel
theorem i_263_140 : aIns 263 140 = some (.iinc 5 1, 3, 0, 0, .null) := by decide +kernel
theorem i_263_143 : aIns 263 143 = some (.goto (-86), 3, 0, 0, .null) := by decide +kernel
theorem i_263_146 : aIns 263 146 = some (.iload 4, 2, 0, 0, .null) := by decide +kernel
theorem i_263_148 : aIns 263 148 = some (.ireturn, 1, 0, 0, .null) := by decide +kernel
theorem i_264_0 : aIns 264 0 = some (.aload_n 0, 1, 0, 0, .null) := by decide +kernel
theorem i_264_1 : aIns 264 1 = some (.iload_n 1, 1, 0, 0, .null) := by decide +kernel
theorem i_264_2 : aIns 264 2 = some (.invokevirtual 329, 3, 188, 1, .int 12) := by decide +kernel
theorem i_264_5 : aIns 264 5 = some (.ifCond .eq 25, 3, 0, 0, .null) := by decide +kernel
theorem i_264_8 : aIns 264 8 = some (.iload_n 2, 1, 0, 0, .null) := by decide +kernel
theorem i_264_9 : aIns 264 9 = some (.i2l, 1, 0, 0, .null) := by decide +kernel
theorem i_264_10 : aIns 264 10 = some (.lconst 0, 1, 0, 0, .long 0) := by decide +kernel
theorem i_264_11 : aIns 264 11 = some (.ldc2_w 351, 3, 0, 0, .long (99)) := by decide +kernel
theorem i_264_14 : aIns 264 14 = some (.invokestatic 124, 3, 140, 3, .null) := by decide +kernel
theorem i_264_17 : aIns 264 17 = some (.ifCond .eq 13, 3, 0, 0, .null) := by decide +kernel
theorem i_264_20 : aIns 264 20 = some (.iload_n 3, 1, 0, 0, .null) := by decide +kernel
theorem i_264_21 : aIns 264 21 = some (.i2l, 1, 0, 0, .null) := by decide +kernel
theorem i_264_22 : aIns 264 22 = some (.lconst 0, 1, 0, 0, .long 0) := by decide +kernel
theorem i_264_23 : aIns 264 23 = some (.lconst 1, 1, 0, 0, .long 1) := by decide +kernel
theorem i_264_24 : aIns 264 24 = some (.invokestatic 124, 3, 140, 3, .null) := by decide +kernel
theorem i_264_27 : aIns 264 27 = some (.ifCond .ne 5, 3, 0, 0, .null) := by decide +kernel
theorem i_264_30 : aIns 264 30 = some (.iconst (-1), 1, 0, 0, .int (-1)) := by decide +kernel
theorem i_264_31 : aIns 264 31 = some (.ireturn, 1, 0, 0, .null) := by decide +kernel
theorem i_264_32 : aIns 264 32 = some (.iconst 0, 1, 0, 0, .int (0)) := by decide +kernel
theorem i_264_33 : aIns 264 33 = some (.istore 4, 2, 0, 0, .null) := by decide +kernel
theorem i_264_35 : aIns 264 35 = some (.aload_n 0, 1, 0, 0, .null) := by decide +kernel
theorem i_264_36 : aIns 264 36 = some (.iload_n 1, 1, 0, 0, .null) := by decide +kernel
theorem i_264_37 : aIns 264 37 = some (.iload_n 2, 1, 0, 0, .null) := by decide +kernel
theorem i_264_38 : aIns 264 38 = some (.iconst 0, 1, 0, 0, .int (0)) := by decide +kernel
theorem i_264_39 : aIns 264 39 = some (.invokevirtual 503, 3, 263, 3, .int 12) := by decide +kernel
theorem i_264_42 : aIns 264 42 = some (.istore 5, 2, 0, 0, .null) := by decide +kernel
theorem i_264_44 : aIns 264 44 = some (.iload 5, 2, 0, 0, .null) := by decide +kernel
theorem i_264_46 : aIns 264 46 = some (.ifCond .ne 6, 3, 0, 0, .null) := by decide +kernel
theorem i_264_49 : aIns 264 49 = some (.bipush (-2), 2, 0, 0, .int (-2)) := by decide +kernel
theorem i_264_51 : aIns 264 51 = some (.ireturn, 1, 0, 0, .null) := by decide +kernel
theorem i_264_52 : aIns 264 52 = some (.iconst 1, 1, 0, 0, .int (1)) := by decide +kernel
theorem i_264_53 : aIns 264 53 = some (.istore 6, 2, 0, 0, .null) := by decide +kernel
theorem i_264_55 : aIns 264 55 = some (.iload 6, 2, 0, 0, .null) := by decide +kernel
theorem i_264_57 : aIns 264 57 = some (.bipush 9, 2, 0, 0, .int (9)) := by decide +kernel
theorem i_264_59 : aIns 264 59 = some (.if_icmp .gt 37, 3, 0, 0, .null) := by decide +kernel
theorem i_264_62 : aIns 264 62 = some (.aload_n 0, 1, 0, 0, .null) := by decide +kernel
theorem i_264_63 : aIns 264 63 = some (.iload_n 1, 1, 0, 0, .null) := by decide +kernel
theorem i_264_64 : aIns 264 64 = some (.iload_n 2, 1, 0, 0, .null) := by decide +kernel
theorem i_264_65 : aIns 264 65 = some (.iload 6, 2, 0, 0, .null) := by decide +kernel
theorem i_264_67 : aIns 264 67 = some (.invokevirtual 503, 3, 263, 3, .int 12) := by decide +kernel
theorem i_264_70 : aIns 264 70 = some (.istore 7, 2, 0, 0, .null) := by decide +kernel
theorem i_264_72 : aIns 264 72 = some (.iload 7, 2, 0, 0, .null) := by decide +kernel
theorem i_264_74 : aIns 264 74 = some (.iload 5, 2, 0, 0, .null) := by decide +kernel
theorem i_264_76 : aIns 264 76 = some (.if_icmp .lt 6, 3, 0, 0, .null) := by decide +kernel
theorem i_264_79 : aIns 264 79 = some (.goto 11, 3, 0, 0, .null) := by decide +kernel
theorem i_264_82 : aIns 264 82 = some (.iload 6, 2, 0, 0, .null) := by decide +kernel
theorem i_264_84 : aIns 264 84 = some (.istore 4, 2, 0, 0, .null) := by decide +kernel
theorem i_264_86 : aIns 264 86 = some (.iload 7, 2, 0, 0, .null) := by decide +kernel
theorem i_264_88 : aIns 264 88 = some (.istore 5, 2, 0, 0, .null) := by decide +kernel
theorem i_264_90 : aIns 264 90 = some (.iinc 6 1, 3, 0, 0, .null) := by decide +kernel
theorem i_264_93 : aIns 264 93 = some (.goto (-38), 3, 0, 0, .null) := by decide +kernel
theorem i_264_96 : aIns 264 96 = some (.iload_n 3, 1, 0, 0, .null) := by decide +kernel
theorem i_264_97 : aIns 264 97 = some (.ifCond .ne 8, 3, 0, 0, .null) := by decide +kernel
theorem i_264_100 : aIns 264 100 = some (.iload 4, 2, 0, 0, .null) := by decide +kernel
theorem i_264_102 : aIns 264 102 = some (.goto 5, 3, 0, 0, .null) := by decide +kernel
theorem i_264_105 : aIns 264 105 = some (.iload 5, 2, 0, 0, .null) := by decide +kernel
theorem i_264_107 : aIns 264 107 = some (.ireturn, 1, 0, 0, .null) := by decide +kernel
theorem i_265_0 : aIns 265 0 = some (.aload_n 0, 1, 0, 0, .null) := by decide +kernel
theorem i_265_1 : aIns 265 1 = some (.iload_n 1, 1, 0, 0, .null) := by decide +kernel
theorem i_265_2 : aIns 265 2 = some (.invokevirtual 329, 3, 188, 1, .int 12) := by decide +kernel
theorem i_265_5 : aIns 265 5 = some (.ifCond .eq 13, 3, 0, 0, .null) := by decide +kernel
theorem i_265_8 : aIns 265 8 = some (.iload_n 2, 1, 0, 0, .null) := by decide +kernel
theorem i_265_9 : aIns 265 9 = some (.i2l, 1, 0, 0, .null) := by decide +kernel
theorem i_265_10 : aIns 265 10 = some (.lconst 0, 1, 0, 0, .long 0) := by decide +kernel
theorem i_265_11 : aIns 265 11 = some (.lconst 1, 1, 0, 0, .long 1) := by decide +kernel
theorem i_265_12 : aIns 265 12 = some (.invokestatic 124, 3, 140, 3, .null) := by decide +kernel
theorem i_265_15 : aIns 265 15 = some (.ifCond .ne 5, 3, 0, 0, .null) := by decide +kernel
theorem i_265_18 : aIns 265 18 = some (.iconst (-1), 1, 0, 0, .int (-1)) := by decide +kernel
theorem i_265_19 : aIns 265 19 = some (.ireturn, 1, 0, 0, .null) := by decide +kernel
theorem i_265_20 : aIns 265 20 = some (.aload_n 0, 1, 0, 0, .null) := by decide +kernel
theorem i_265_21 : aIns 265 21 = some (.getfield 39, 3, 12, 20, .null) := by decide +kernel
theorem i_265_24 : aIns 265 24 = some (.bipush 7, 2, 0, 0, .int (7)) := by decide +kernel
theorem i_265_26 : aIns 265 26 = some (.iaload, 1, 0, 0, .null) := by decide +kernel
theorem i_265_27 : aIns 265 27 = some (.istore_n 3, 1, 0, 0, .null) := by decide +kernel
theorem i_265_28 : aIns 265 28 = some (.aload_n 0, 1, 0, 0, .null) := by decide +kernel
theorem i_265_29 : aIns 265 29 = some (.getfield 39, 3, 12, 20, .null) := by decide +kernel
theorem i_265_32 : aIns 265 32 = some (.bipush 7, 2, 0, 0, .int (7)) := by decide +kernel
theorem i_265_34 : aIns 265 34 = some (.iaload, 1, 0, 0, .null) := by decide +kernel
theorem i_265_35 : aIns 265 35 = some (.iconst 1, 1, 0, 0, .int (1)) := by decide +kernel
theorem i_265_36 : aIns 265 36 = some (.iadd, 1, 0, 0, .null) := by decide +kernel
theorem i_265_37 : aIns 265 37 = some (.istore 4, 2, 0, 0, .null) := by decide +kernel
theorem i_265_39 : aIns 265 39 = some (.iload 4, 2, 0, 0, .null) := by decide +kernel
theorem i_265_41 : aIns 265 41 = some (.aload_n 0, 1, 0, 0, .null) := by decide +kernel
theorem i_265_42 : aIns 265 42 = some (.getfield 39, 3, 12, 20, .null) := by decide +kernel
theorem i_265_45 : aIns 265 45 = some (.bipush 7, 2, 0, 0, .int (7)) := by decide +kernel
theorem i_265_47 : aIns 265 47 = some (.iaload, 1, 0, 0, .null) := by decide +kernel
theorem i_265_48 : aIns 265 48 = some (.bipush 30, 2, 0, 0, .int (30)) := by decide +kernel
theorem i_265_50 : aIns 265 50 = some (.iadd, 1, 0, 0, .null) := by decide +kernel
theorem i_265_51 : aIns 265 51 = some (.if_icmp .gt 28, 3, 0, 0, .null) := by decide +kernel
theorem i_265_54 : aIns 265 54 = some (.aload_n 0, 1, 0, 0, .null) := by decide +kernel
theorem i_265_55 : aIns 265 55 = some (.iload_n 1, 1, 0, 0, .null) := by decide +kernel
theorem i_265_56 : aIns 265 56 = some (.iload 4, 2, 0, 0, .null) := by decide +kernel
theorem i_265_58 : aIns 265 58 = some (.invokevirtual 326, 3, 199, 2, .int 12) := by decide +kernel
theorem i_265_61 : aIns 265 61 = some (.aload_n 0, 1, 0, 0, .null) := by decide +kernel
theorem i_265_62 : aIns 265 62 = some (.iload_n 1, 1, 0, 0, .null) := by decide +kernel
theorem i_265_63 : aIns 265 63 = some (.iload_n 3, 1, 0, 0, .null) := by decide +kernel
theorem i_265_64 : aIns 265 64 = some (.invokevirtual 326, 3, 199, 2, .int 12) := by decide +kernel
theorem i_265_67 : aIns 265 67 = some (.if_icmp .ge 6, 3, 0, 0, .null) := by decide +kernel
theorem i_265_70 : aIns 265 70 = some (.iload 4, 2, 0, 0, .null) := by decide +kernel
theorem i_265_72 : aIns 265 72 = some (.istore_n 3, 1, 0, 0, .null) := by decide +kernel
theorem i_265_73 : aIns 265 73 = some (.iinc 4 1, 3, 0, 0, .null) := by decide +kernel
theorem i_265_76 : aIns 265 76 = some (.goto (-37), 3, 0, 0, .null) := by decide +kernel
theorem i_265_79 : aIns 265 79 = some (.iload_n 2, 1, 0, 0, .null) := by decide +kernel
theorem i_265_80 : aIns 265 80 = some (.ifCond .ne 7, 3, 0, 0, .null) := by decide +kernel
theorem i_265_83 : aIns 265 83 = some (.iload_n 3, 1, 0, 0, .null) := by decide +kernel
theorem i_265_84 : aIns 265 84 = some (.goto 9, 3, 0, 0, .null) := by decide +kernel
theorem i_265_87 : aIns 265 87 = some (.aload_n 0, 1, 0, 0, .null) := by decide +kernel
theorem i_265_88 : aIns 265 88 = some (.iload_n 1, 1, 0, 0, .null) := by decide +kernel
theorem i_265_89 : aIns 265 89 = some (.iload_n 3, 1, 0, 0, .null) := by decide +kernel
theorem i_265_90 : aIns 265 90 = some (.invokevirtual 326, 3, 199, 2, .int 12) := by decide +kernel
theorem i_265_93 : aIns 265 93 = some (.ireturn, 1, 0, 0, .null) := by decide +kernel
theorem i_266_0 : aIns 266 0 = some (.iload_n 1, 1, 0, 0, .null) := by decide +kernel
theorem i_266_1 : aIns 266 1 = some (.ifCond .ge 5, 3, 0, 0, .null) := by decide +kernel
theorem i_266_4 : aIns 266 4 = some (.iconst (-1), 1, 0, 0, .int (-1)) := by decide +kernel
theorem i_266_5 : aIns 266 5 = some (.ireturn, 1, 0, 0, .null) := by decide +kernel
theorem i_266_6 : aIns 266 6 = some (.aload_n 0, 1, 0, 0, .null) := by decide +kernel
theorem i_266_7 : aIns 266 7 = some (.getfield 507, 3, 12, 22, .null) := by decide +kernel
theorem i_266_10 : aIns 266 10 = some (.istore_n 2, 1, 0, 0, .null) := by decide +kernel
theorem i_266_11 : aIns 266 11 = some (.aload_n 0, 1, 0, 0, .null) := by decide +kernel
theorem i_266_12 : aIns 266 12 = some (.iload_n 1, 1, 0, 0, .null) := by decide +kernel
theorem i_266_13 : aIns 266 13 = some (.putfield 507, 3, 12, 22, .null) := by decide +kernel
theorem i_266_16 : aIns 266 16 = some (.iload_n 2, 1, 0, 0, .null) := by decide +kernel
theorem i_266_17 : aIns 266 17 = some (.ireturn, 1, 0, 0, .null) := by decide +kernel
theorem i_267_0 : aIns 267 0 = some (.aload_n 0, 1, 0, 0, .null) := by decide +kernel
theorem i_267_1 : aIns 267 1 = some (.aload_n 0, 1, 0, 0, .null) := by decide +kernel
theorem i_267_2 : aIns 267 2 = some (.getfield 510, 3, 12, 40, .null) := by decide +kernel
theorem i_267_5 : aIns 267 5 = some (.ldc2_w 514, 3, 0, 0, .long (1103515245)) := by decide +kernel
theorem i_267_8 : aIns 267 8 = some (.lmul, 1, 0, 0, .null) := by decide +kernel
theorem i_267_9 : aIns 267 9 = some (.ldc2_w 516, 3, 0, 0, .long (12345)) := by decide +kernel
theorem i_267_12 : aIns 267 12 = some (.ladd, 1, 0, 0, .null) := by decide +kernel
theorem i_267_13 : aIns 267 13 = some (.ldc2_w 518, 3, 0, 0, .long (2147483648)) := by decide +kernel
theorem i_267_16 : aIns 267 16 = some (.lrem, 1, 0, 0, .null) := by decide +kernel
theorem i_267_17 : aIns 267 17 = some (.putfield 510, 3, 12, 40, .null) := by decide +kernel
theorem i_267_20 : aIns 267 20 = some (.aload_n 0, 1, 0, 0, .null) := by decide +kernel
theorem i_267_21 : aIns 267 21 = some (.getfield 510, 3, 12, 40, .null) := by decide +kernel
theorem i_267_24 : aIns 267 24 = some (.ldc2_w 520, 3, 0, 0, .long (65536)) := by decide +kernel
theorem i_267_27 : aIns 267 27 = some (.ldiv, 1, 0, 0, .null) := by decide +kernel
theorem i_267_28 : aIns 267 28 = some (.iload_n 1, 1, 0, 0, .null) := by decide +kernel
theorem i_267_29 : aIns 267 29 = some (.i2l, 1, 0, 0, .null) := by decide +kernel
theorem i_267_30 : aIns 267 30 = some (.lrem, 1, 0, 0, .null) := by decide +kernel
theorem i_267_31 : aIns 267 31 = some (.l2i, 1, 0, 0, .null) := by decide +kernel
theorem i_267_32 : aIns 267 32 = some (.ireturn, 1, 0, 0, .null) := by decide +kernel
theorem i_268_0 : aIns 268 0 = some (.aload_n 0, 1, 0, 0, .null) := by decide +kernel
theorem i_268_1 : aIns 268 1 = some (.aload_n 0, 1, 0, 0, .null) := by decide +kernel
theorem i_268_2 : aIns 268 2 = some (.getfield 39, 3, 12, 20, .null) := by decide +kernel
theorem i_268_5 : aIns 268 5 = some (.iconst 1, 1, 0, 0, .int (1)) := by decide +kernel
theorem i_268_6 : aIns 268 6 = some (.iaload, 1, 0, 0, .null) := by decide +kernel
theorem i_268_7 : aIns 268 7 = some (.iconst 1, 1, 0, 0, .int (1)) := by decide +kernel
theorem i_268_8 : aIns 268 8 = some (.iadd, 1, 0, 0, .null) := by decide +kernel
theorem i_268_9 : aIns 268 9 = some (.invokevirtual 522, 3, 267, 1, .int 12) := by decide +kernel
theorem i_268_12 : aIns 268 12 = some (.istore_n 1, 1, 0, 0, .null) := by decide +kernel
theorem i_268_13 : aIns 268 13 = some (.iload_n 1, 1, 0, 0, .null) := by decide +kernel
theorem i_268_14 : aIns 268 14 = some (.aload_n 0, 1, 0, 0, .null) := by decide +kernel
theorem i_268_15 : aIns 268 15 = some (.getfield 39, 3, 12, 20, .null) := by decide +kernel
theorem i_268_18 : aIns 268 18 = some (.iconst 1, 1, 0, 0, .int (1)) := by decide +kernel
theorem i_268_19 : aIns 268 19 = some (.iaload, 1, 0, 0, .null) := by decide +kernel
theorem i_268_20 : aIns 268 20 = some (.if_icmp .ge 24, 3, 0, 0, .null) := by decide +kernel
theorem i_268_23 : aIns 268 23 = some (.aload_n 0, 1, 0, 0, .null) := by decide +kernel
theorem i_268_24 : aIns 268 24 = some (.iload_n 1, 1, 0, 0, .null) := by decide +kernel
theorem i_268_25 : aIns 268 25 = some (.invokevirtual 393, 3, 223, 1, .int 12) := by decide +kernel
theorem i_268_28 : aIns 268 28 = some (.aload_n 0, 1, 0, 0, .null) := by decide +kernel
theorem i_268_29 : aIns 268 29 = some (.iload_n 1, 1, 0, 0, .null) := by decide +kernel
theorem i_268_30 : aIns 268 30 = some (.invokevirtual 380, 3, 216, 1, .int 12) := by decide +kernel
theorem i_268_33 : aIns 268 33 = some (.ifCond .eq 10, 3, 0, 0, .null) := by decide +kernel
theorem i_268_36 : aIns 268 36 = some (.aload_n 0, 1, 0, 0, .null) := by decide +kernel
theorem i_268_37 : aIns 268 37 = some (.iload_n 1, 1, 0, 0, .null) := by decide +kernel
theorem i_268_38 : aIns 268 38 = some (.iconst 1, 1, 0, 0, .int (1)) := by decide +kernel
theorem i_268_39 : aIns 268 39 = some (.iconst 1, 1, 0, 0, .int (1)) := by decide +kernel
theorem i_268_40 : aIns 268 40 = some (.invokevirtual 386, 3, 217, 3, .int 12) := by decide +kernel
theorem i_268_43 : aIns 268 43 = some (.return_, 1, 0, 0, .null) := by decide +kernel
theorem i_268_44 : aIns 268 44 = some (.aload_n 0, 1, 0, 0, .null) := by decide +kernel
theorem i_268_45 : aIns 268 45 = some (.invokevirtual 362, 3, 209, 0, .int 12) := by decide +kernel
theorem i_268_48 : aIns 268 48 = some (.istore_n 2, 1, 0, 0, .null) := by decide +kernel
theorem i_268_49 : aIns 268 49 = some (.iload_n 2, 1, 0, 0, .null) := by decide +kernel
theorem i_268_50 : aIns 268 50 = some (.ifCond .ne 4, 3, 0, 0, .null) := by decide +kernel
theorem i_268_53 : aIns 268 53 = some (.return_, 1, 0, 0, .null) := by decide +kernel
theorem i_268_54 : aIns 268 54 = some (.aload_n 0, 1, 0, 0, .null) := by decide +kernel
theorem i_268_55 : aIns 268 55 = some (.dup, 1, 0, 0, .null) := by decide +kernel
theorem i_268_56 : aIns 268 56 = some (.getfield 525, 3, 12, 42, .null) := by decide +kernel
theorem i_268_59 : aIns 268 59 = some (.iload_n 2, 1, 0, 0, .null) := by decide +kernel
theorem i_268_60 : aIns 268 60 = some (.iadd, 1, 0, 0, .null) := by decide +kernel
theorem i_268_61 : aIns 268 61 = some (.putfield 525, 3, 12, 42, .null) := by decide +kernel
theorem i_268_64 : aIns 268 64 = some (.aload_n 0, 1, 0, 0, .null) := by decide +kernel
theorem i_268_65 : aIns 268 65 = some (.dup, 1, 0, 0, .null) := by decide +kernel
theorem i_268_66 : aIns 268 66 = some (.getfield 528, 3, 12, 41, .null) := by decide +kernel
theorem i_268_69 : aIns 268 69 = some (.aload_n 0, 1, 0, 0, .null) := by decide +kernel
theorem i_268_70 : aIns 268 70 = some (.aload_n 0, 1, 0, 0, .null) := by decide +kernel
theorem i_268_71 : aIns 268 71 = some (.invokevirtual 365, 3, 210, 0, .int 12) := by decide +kernel
theorem i_268_74 : aIns 268 74 = some (.invokevirtual 441, 3, 208, 1, .int 12) := by decide +kernel
theorem i_268_77 : aIns 268 77 = some (.iadd, 1, 0, 0, .null) := by decide +kernel
theorem i_268_78 : aIns 268 78 = some (.putfield 528, 3, 12, 41, .null) := by decide +kernel
theorem i_268_81 : aIns 268 81 = some (.iconst 0, 1, 0, 0, .int (0)) := by decide +kernel
theorem i_268_82 : aIns 268 82 = some (.istore_n 3, 1, 0, 0, .null) := by decide +kernel
theorem i_268_83 : aIns 268 83 = some (.iload_n 3, 1, 0, 0, .null) := by decide +kernel
theorem i_268_84 : aIns 268 84 = some (.aload_n 0, 1, 0, 0, .null) := by decide +kernel
theorem i_268_85 : aIns 268 85 = some (.getfield 39, 3, 12, 20, .null) := by decide +kernel
theorem i_268_88 : aIns 268 88 = some (.iconst 1, 1, 0, 0, .int (1)) := by decide +kernel
theorem i_268_89 : aIns 268 89 = some (.iaload, 1, 0, 0, .null) := by decide +kernel
theorem i_268_90 : aIns 268 90 = some (.if_icmp .ge 14, 3, 0, 0, .null) := by decide +kernel
theorem i_268_93 : aIns 268 93 = some (.aload_n 0, 1, 0, 0, .null) := by decide +kernel
theorem i_268_94 : aIns 268 94 = some (.iload_n 3, 1, 0, 0, .null) := by decide +kernel
theorem i_268_95 : aIns 268 95 = some (.invokevirtual 396, 3, 226, 1, .int 12) := by decide +kernel
theorem i_268_98 : aIns 268 98 = some (.iinc 3 1, 3, 0, 0, .null) := by decide +kernel
theorem i_268_101 : aIns 268 101 = some (.goto (-18), 3, 0, 0, .null) := by decide +kernel
theorem i_268_104 : aIns 268 104 = some (.return_, 1, 0, 0, .null) := by decide +kernel
def j_256_55 (g : Nat) (x1 : Int32) (s0 : Int32) (s1 : Int32) (S : rS) : Option (Int32 × rS) := (if aIn (9 : Int32) 181 = true then ((d_206 g (64 : Int32) ((S.2.1 20) (9 : Int32).toNatClampNeg) S).bind (fun z_2 => ((d_210 g  z_2).bind (fun z_7 => (if aIn (5 : Int32) 181 = true then ((d_207 g (z_7.1 + x1) ((z_7.2.2.1 20) (5 : Int32).toNatClampNeg) z_7.2).bind (fun z_13 => some (((s1 + s0) - z_13.1), z_13.2))) else none))))) else none)
set_option maxHeartbeats 4000000 in
set_option maxRecDepth 100000 in
theorem j_256_55_ok {X : aX} {g d : Nat} {x1 : Int32} {s0 : Int32} {s1 : Int32} {S : rS} {h0 : aH} {zz : Int32 × rS} (hdp : 9 ≤ d) (HS : rm h0 S) (hd : j_256_55 g x1 s0 s1 S = some zz) : aWp X d 256 55 [some (.ref 382), some (.int x1), none] [.int s0, .int s1] h0 (fun w h' => w = some (.int zz.1) ∧ rTo h0 zz.2 h') := by
  unfold j_256_55 at hd
  have HH := rTo.rf HS
  obtain ⟨e, rfl⟩ : ∃ e, d = e + 1 := ⟨d - 1, by omega⟩
  refine wp_s 56 [some (.ref 382), some (.int x1), none] [.int (s1 + s0)] h0 i_256_55 rfl ?_
  refine wp_s 57 [some (.ref 382), some (.int x1), some (.int (s1 + s0))] [] h0 i_256_56 rfl ?_
  refine wp_s 58 [some (.ref 382), some (.int x1), some (.int (s1 + s0))] [.ref 382] h0 i_256_57 rfl ?_
  refine wp_s 60 [some (.ref 382), some (.int x1), some (.int (s1 + s0))] [.int (64 : Int32), .ref 382] h0 i_256_58 rfl ?_
  refine wp_s 61 [some (.ref 382), some (.int x1), some (.int (s1 + s0))] [.ref 382, .int (64 : Int32), .ref 382] h0 i_256_60 rfl ?_
  refine wp_get (v := .ref 392) 64 rfl i_256_61 (HH.1 0 (by decide)) rfl ?_
  refine wp_s 66 [some (.ref 382), some (.int x1), some (.int (s1 + s0))] [.int (9 : Int32), .ref 392, .int (64 : Int32), .ref 382] h0 i_256_64 rfl ?_
  obtain ⟨b_1, hd⟩ := dk_if hd
  refine wp_iald (f := (S.2.1 20)) 67 rfl i_256_66 (HH.1 10 (by decide)) b_1 ?_
  obtain ⟨z_2, q_3, hd⟩ := dk_bind hd
  refine wp_callV 70 rfl i_256_67 (by decide) rfl (vs := [.int (64 : Int32), .int ((S.2.1 20) (9 : Int32).toNatClampNeg)]) (rest := []) rfl rfl rfl (HH.1 0 (by decide)) (y := m_206) rfl (Nat.le_of_ble_eq_true rfl) (d_206_ok (d := e) (by omega) HH.1 q_3) ?_
  rintro v_6 h_4 ⟨rfl, H_5⟩
  have H_5 := HH.tr H_5
  refine wp_s 71 [some (.ref 382), some (.int x1), some (.int (s1 + s0))] [.int (s1 + s0)] h_4 i_256_70 rfl ?_
  refine wp_s 72 [some (.ref 382), some (.int x1), some (.int (s1 + s0))] [.ref 382, .int (s1 + s0)] h_4 i_256_71 rfl ?_
  refine wp_s 73 [some (.ref 382), some (.int x1), some (.int (s1 + s0))] [.ref 382, .ref 382, .int (s1 + s0)] h_4 i_256_72 rfl ?_
  obtain ⟨z_7, q_8, hd⟩ := dk_bind hd
  refine wp_callV 76 rfl i_256_73 (by decide) rfl (vs := []) (rest := [.ref 382, .int (s1 + s0)]) rfl rfl rfl (H_5.1 0 (by decide)) (y := m_210) rfl (Nat.le_of_ble_eq_true rfl) (d_210_ok (d := e) (by omega) H_5.1 q_8) ?_
  rintro v_11 h_9 ⟨rfl, H_10⟩
  have H_10 := H_5.tr H_10
  refine wp_s 77 [some (.ref 382), some (.int x1), some (.int (s1 + s0))] [.int x1, .int z_7.1, .ref 382, .int (s1 + s0)] h_9 i_256_76 rfl ?_
  refine wp_s 78 [some (.ref 382), some (.int x1), some (.int (s1 + s0))] [.int (z_7.1 + x1), .ref 382, .int (s1 + s0)] h_9 i_256_77 rfl ?_
  refine wp_s 79 [some (.ref 382), some (.int x1), some (.int (s1 + s0))] [.ref 382, .int (z_7.1 + x1), .ref 382, .int (s1 + s0)] h_9 i_256_78 rfl ?_
  refine wp_get (v := .ref 392) 82 rfl i_256_79 (H_10.1 0 (by decide)) rfl ?_
  refine wp_s 83 [some (.ref 382), some (.int x1), some (.int (s1 + s0))] [.int (5 : Int32), .ref 392, .int (z_7.1 + x1), .ref 382, .int (s1 + s0)] h_9 i_256_82 rfl ?_
  obtain ⟨b_12, hd⟩ := dk_if hd
  refine wp_iald (f := (z_7.2.2.1 20)) 84 rfl i_256_83 (H_10.1 10 (by decide)) b_12 ?_
  obtain ⟨z_13, q_14, hd⟩ := dk_bind hd
  refine wp_callV 87 rfl i_256_84 (by decide) rfl (vs := [.int (z_7.1 + x1), .int ((z_7.2.2.1 20) (5 : Int32).toNatClampNeg)]) (rest := [.int (s1 + s0)]) rfl rfl rfl (H_10.1 0 (by decide)) (y := m_207) rfl (Nat.le_of_ble_eq_true rfl) (d_207_ok (d := e) (by omega) H_10.1 q_14) ?_
  rintro v_17 h_15 ⟨rfl, H_16⟩
  have H_16 := H_10.tr H_16
  refine wp_s 88 [some (.ref 382), some (.int x1), some (.int (s1 + s0))] [.int ((s1 + s0) - z_13.1)] h_15 i_256_87 rfl ?_
  obtain rfl := Option.some.inj hd
  exact wp_iret i_256_88 ⟨rfl, H_16⟩
def d_256 (g : Nat) (x1 : Int32) (S : rS) : Option (Int32 × rS) := ((d_187 g  S).bind (fun z_1 => (if z_1.1 = 0 then some ((-1000000 : Int32), z_1.2) else ((d_140 g (x1.toInt64) (1 : Int64) (9999 : Int64) z_1.2).bind (fun z_7 => (if ¬ z_7.1 = 0 then (if aIn (5 : Int32) 181 = true then ((d_212 g ((z_7.2.2.1 20) (5 : Int32).toNatClampNeg) z_7.2).bind (fun z_14 => (if aIn (5 : Int32) 181 = true then (if ((z_14.2.2.1 20) (5 : Int32).toNatClampNeg) ≤ x1 then (j_256_55 g x1 (0 : Int32) (z_14.1 + x1) z_14.2) else (if aIn (4 : Int32) 181 = true then (j_256_55 g x1 ((z_14.2.2.1 20) (4 : Int32).toNatClampNeg) (z_14.1 + x1) z_14.2) else none)) else none))) else none) else some ((-1000000 : Int32), z_7.2)))))))
set_option maxHeartbeats 4000000 in
set_option maxRecDepth 100000 in
theorem d_256_ok {X : aX} {g d : Nat} {x1 : Int32} {S : rS} {h0 : aH} {zz : Int32 × rS} (hdp : 9 ≤ d) (HS : rm h0 S) (hd : d_256 g x1 S = some zz) : aWp X d 256 0 (aEntL [.ref 382, .int x1] 3) [] h0 (fun w h' => w = some (.int zz.1) ∧ rTo h0 zz.2 h') := by
  unfold d_256 at hd
  have HH := rTo.rf HS
  refine wp_lv (l2 := [some (.ref 382), some (.int x1), none]) rfl ?_
  obtain ⟨e, rfl⟩ : ∃ e, d = e + 1 := ⟨d - 1, by omega⟩
  refine wp_s 1 [some (.ref 382), some (.int x1), none] [.ref 382] h0 i_256_0 rfl ?_
  obtain ⟨z_1, q_2, hd⟩ := dk_bind hd
  refine wp_callV 4 rfl i_256_1 (by decide) rfl (vs := []) (rest := []) rfl rfl rfl (HH.1 0 (by decide)) (y := m_187) rfl (Nat.le_of_ble_eq_true rfl) (d_187_ok (d := e) (by omega) HH.1 q_2) ?_
  rintro v_5 h_3 ⟨rfl, H_4⟩
  have H_4 := HH.tr H_4
  refine wp_if_eq 19 7 rfl rfl i_256_4 (fun c_6 => ?_) (fun c_6 => ?_)
  · rw [if_pos c_6] at hd
    refine wp_s 22 [some (.ref 382), some (.int x1), none] [.int (-1000000 : Int32)] h_3 i_256_19 rfl ?_
    obtain rfl := Option.some.inj hd
    exact wp_iret i_256_22 ⟨rfl, H_4⟩
  · rw [if_neg c_6] at hd
    refine wp_s 8 [some (.ref 382), some (.int x1), none] [.int x1] h_3 i_256_7 rfl ?_
    refine wp_s 9 [some (.ref 382), some (.int x1), none] [.long (x1.toInt64)] h_3 i_256_8 rfl ?_
    refine wp_s 10 [some (.ref 382), some (.int x1), none] [.long (1 : Int64), .long (x1.toInt64)] h_3 i_256_9 rfl ?_
    refine wp_s 13 [some (.ref 382), some (.int x1), none] [.long (9999 : Int64), .long (1 : Int64), .long (x1.toInt64)] h_3 i_256_10 rfl ?_
    obtain ⟨z_7, q_8, hd⟩ := dk_bind hd
    refine wp_callS 16 rfl i_256_13 (by decide) (vs := [.long (x1.toInt64), .long (1 : Int64), .long (9999 : Int64)]) (rest := []) rfl rfl rfl (y := m_140) rfl (Nat.le_of_ble_eq_true rfl) (d_140_ok (d := e) (by omega) H_4.1 q_8) ?_
    rintro v_11 h_9 ⟨rfl, H_10⟩
    have H_10 := H_4.tr H_10
    refine wp_if_ne 23 19 rfl rfl i_256_16 (fun c_12 => ?_) (fun c_12 => ?_)
    · rw [if_pos c_12] at hd
      refine wp_s 24 [some (.ref 382), some (.int x1), none] [.ref 382] h_9 i_256_23 rfl ?_
      refine wp_s 25 [some (.ref 382), some (.int x1), none] [.ref 382, .ref 382] h_9 i_256_24 rfl ?_
      refine wp_get (v := .ref 392) 28 rfl i_256_25 (H_10.1 0 (by decide)) rfl ?_
      refine wp_s 29 [some (.ref 382), some (.int x1), none] [.int (5 : Int32), .ref 392, .ref 382] h_9 i_256_28 rfl ?_
      obtain ⟨b_13, hd⟩ := dk_if hd
      refine wp_iald (f := (z_7.2.2.1 20)) 30 rfl i_256_29 (H_10.1 10 (by decide)) b_13 ?_
      obtain ⟨z_14, q_15, hd⟩ := dk_bind hd
      refine wp_callV 33 rfl i_256_30 (by decide) rfl (vs := [.int ((z_7.2.2.1 20) (5 : Int32).toNatClampNeg)]) (rest := []) rfl rfl rfl (H_10.1 0 (by decide)) (y := m_212) rfl (Nat.le_of_ble_eq_true rfl) (d_212_ok (d := e) (by omega) H_10.1 q_15) ?_
      rintro v_18 h_16 ⟨rfl, H_17⟩
      have H_17 := H_10.tr H_17
      refine wp_s 34 [some (.ref 382), some (.int x1), none] [.int x1, .int z_14.1] h_16 i_256_33 rfl ?_
      refine wp_s 35 [some (.ref 382), some (.int x1), none] [.int (z_14.1 + x1)] h_16 i_256_34 rfl ?_
      refine wp_s 36 [some (.ref 382), some (.int x1), none] [.int x1, .int (z_14.1 + x1)] h_16 i_256_35 rfl ?_
      refine wp_s 37 [some (.ref 382), some (.int x1), none] [.ref 382, .int x1, .int (z_14.1 + x1)] h_16 i_256_36 rfl ?_
      refine wp_get (v := .ref 392) 40 rfl i_256_37 (H_17.1 0 (by decide)) rfl ?_
      refine wp_s 41 [some (.ref 382), some (.int x1), none] [.int (5 : Int32), .ref 392, .int x1, .int (z_14.1 + x1)] h_16 i_256_40 rfl ?_
      obtain ⟨b_19, hd⟩ := dk_if hd
      refine wp_iald (f := (z_14.2.2.1 20)) 42 rfl i_256_41 (H_17.1 10 (by decide)) b_19 ?_
      refine wp_cmp_ge 54 45 rfl rfl i_256_42 (fun c_20 => ?_) (fun c_20 => ?_)
      · rw [if_pos c_20] at hd
        refine wp_s 55 [some (.ref 382), some (.int x1), none] [.int (0 : Int32), .int (z_14.1 + x1)] h_16 i_256_54 rfl ?_
        exact aWp.post (aWp.forget (j_256_55_ok hdp H_17.1 hd) ((lvS (lvS (lvN lvE))))) (fun _ _ hq => ⟨hq.1, H_17.tr hq.2⟩)
      · rw [if_neg c_20] at hd
        refine wp_s 46 [some (.ref 382), some (.int x1), none] [.ref 382, .int (z_14.1 + x1)] h_16 i_256_45 rfl ?_
        refine wp_get (v := .ref 392) 49 rfl i_256_46 (H_17.1 0 (by decide)) rfl ?_
        refine wp_s 50 [some (.ref 382), some (.int x1), none] [.int (4 : Int32), .ref 392, .int (z_14.1 + x1)] h_16 i_256_49 rfl ?_
        obtain ⟨b_21, hd⟩ := dk_if hd
        refine wp_iald (f := (z_14.2.2.1 20)) 51 rfl i_256_50 (H_17.1 10 (by decide)) b_21 ?_
        refine wp_s 55 [some (.ref 382), some (.int x1), none] [.int ((z_14.2.2.1 20) (4 : Int32).toNatClampNeg), .int (z_14.1 + x1)] h_16 i_256_51 rfl ?_
        exact aWp.post (aWp.forget (j_256_55_ok hdp H_17.1 hd) ((lvS (lvS (lvN lvE))))) (fun _ _ hq => ⟨hq.1, H_17.tr hq.2⟩)
    · rw [if_neg c_12] at hd
      refine wp_s 22 [some (.ref 382), some (.int x1), none] [.int (-1000000 : Int32)] h_9 i_256_19 rfl ?_
      obtain rfl := Option.some.inj hd
      exact wp_iret i_256_22 ⟨rfl, H_10⟩
def l_257 (g n tag : Nat) (x1 : Int32) (x2 : Int32) (x3 : Int32) (x4 : Int32) (x5 : Int32) (x6 : Int32) (S : rS) : Option (Int32 × rS) := match n with
  | 0 => none
  | n + 1 => if tag = 0 then (if (9500 : Int32) < x4 then (if ¬ x1 = 0 then some (x3, S) else some (x2, S)) else ((d_238 g x4 S).bind (fun z_3 => (l_257 g n 1 x1 x2 x3 x4 (0 : Int32) (0 : Int32) z_3)))) else if tag = 1 then (if (S.1 29) ≤ x6 then (if ¬ (2 : Int32) = 0 then (if x2 < 0 then (l_257 g n 2 x1 x2 x3 x4 x5 (((S.1 30) + x5) - (x5 / (2 : Int32))) S) else (if x3 < (((S.1 30) + x5) - (x5 / (2 : Int32))) then (l_257 g n 2 x1 x2 x3 x4 x5 (((S.1 30) + x5) - (x5 / (2 : Int32))) S) else (l_257 g n 3 x1 x2 x3 x4 x5 (((S.1 30) + x5) - (x5 / (2 : Int32))) S))) else none) else (if aIn x6 8 = true then ((d_193 g ((S.2.1 28) x6.toNatClampNeg) S).bind (fun z_13 => (l_257 g n 1 x1 x2 x3 x4 (x5 + z_13.1) (x6 + (1 : Int32)) z_13.2))) else none)) else if tag = 2 then (l_257 g n 3 x1 x4 x6 x4 x5 x6 S) else if tag = 3 then (l_257 g n 0 x1 x2 x3 (x4 + (500 : Int32)) 0 0 S) else none
set_option maxHeartbeats 4000000 in
set_option maxRecDepth 100000 in
theorem l_257_ok {X : aX} {g d : Nat} (hdp : 11 ≤ d) : ∀ n, (∀ (x1 : Int32) (x2 : Int32) (x3 : Int32) (x4 : Int32) (x5 : Int32) (x6 : Int32) (S : rS) (h0 : aH) (zz : Int32 × rS), rm h0 S → l_257 g n 0 x1 x2 x3 x4 x5 x6 S = some zz → aWp X d 257 28 [some (.ref 382), some (.int x1), some (.int x2), some (.int x3), some (.int x4), none, none] [] h0 (fun w h' => w = some (.int zz.1) ∧ rTo h0 zz.2 h')) ∧ (∀ (x1 : Int32) (x2 : Int32) (x3 : Int32) (x4 : Int32) (x5 : Int32) (x6 : Int32) (S : rS) (h0 : aH) (zz : Int32 × rS), rm h0 S → l_257 g n 1 x1 x2 x3 x4 x5 x6 S = some zz → aWp X d 257 48 [some (.ref 382), some (.int x1), some (.int x2), some (.int x3), some (.int x4), some (.int x5), some (.int x6)] [] h0 (fun w h' => w = some (.int zz.1) ∧ rTo h0 zz.2 h')) ∧ (∀ (x1 : Int32) (x2 : Int32) (x3 : Int32) (x4 : Int32) (x5 : Int32) (x6 : Int32) (S : rS) (h0 : aH) (zz : Int32 × rS), rm h0 S → l_257 g n 2 x1 x2 x3 x4 x5 x6 S = some zz → aWp X d 257 106 [some (.ref 382), some (.int x1), some (.int x2), some (.int x3), some (.int x4), some (.int x5), some (.int x6)] [] h0 (fun w h' => w = some (.int zz.1) ∧ rTo h0 zz.2 h')) ∧ (∀ (x1 : Int32) (x2 : Int32) (x3 : Int32) (x4 : Int32) (x5 : Int32) (x6 : Int32) (S : rS) (h0 : aH) (zz : Int32 × rS), rm h0 S → l_257 g n 3 x1 x2 x3 x4 x5 x6 S = some zz → aWp X d 257 112 [some (.ref 382), some (.int x1), some (.int x2), some (.int x3), some (.int x4), some (.int x5), some (.int x6)] [] h0 (fun w h' => w = some (.int zz.1) ∧ rTo h0 zz.2 h')) := by
  intro n
  induction n with
  | zero => exact ⟨fun _ _ _ _ _ _ _ _ _ _ hd => by simp [l_257] at hd, fun _ _ _ _ _ _ _ _ _ _ hd => by simp [l_257] at hd, fun _ _ _ _ _ _ _ _ _ _ hd => by simp [l_257] at hd, fun _ _ _ _ _ _ _ _ _ _ hd => by simp [l_257] at hd⟩
  | succ n ih =>
    refine ⟨?_, ?_, ?_, ?_⟩
    · intro x1 x2 x3 x4 x5 x6 S h0 zz HS hd
      unfold l_257 at hd
      rw [if_pos rfl] at hd
      have HH := rTo.rf HS
      obtain ⟨e, rfl⟩ : ∃ e, d = e + 1 := ⟨d - 1, by omega⟩
      refine wp_s 30 [some (.ref 382), some (.int x1), some (.int x2), some (.int x3), some (.int x4), none, none] [.int x4] h0 i_257_28 rfl ?_
      refine wp_s 33 [some (.ref 382), some (.int x1), some (.int x2), some (.int x3), some (.int x4), none, none] [.int (9500 : Int32), .int x4] h0 i_257_30 rfl ?_
      refine wp_cmp_gt 121 36 rfl rfl i_257_33 (fun c_1 => ?_) (fun c_1 => ?_)
      · rw [if_pos c_1] at hd
        refine wp_s 122 [some (.ref 382), some (.int x1), some (.int x2), some (.int x3), some (.int x4), none, none] [.int x1] h0 i_257_121 rfl ?_
        refine wp_if_ne 129 125 rfl rfl i_257_122 (fun c_2 => ?_) (fun c_2 => ?_)
        · rw [if_pos c_2] at hd
          refine wp_s 130 [some (.ref 382), some (.int x1), some (.int x2), some (.int x3), some (.int x4), none, none] [.int x3] h0 i_257_129 rfl ?_
          obtain rfl := Option.some.inj hd
          exact wp_iret i_257_130 ⟨rfl, HH⟩
        · rw [if_neg c_2] at hd
          refine wp_s 126 [some (.ref 382), some (.int x1), some (.int x2), some (.int x3), some (.int x4), none, none] [.int x2] h0 i_257_125 rfl ?_
          refine wp_s 130 [some (.ref 382), some (.int x1), some (.int x2), some (.int x3), some (.int x4), none, none] [.int x2] h0 i_257_126 rfl ?_
          obtain rfl := Option.some.inj hd
          exact wp_iret i_257_130 ⟨rfl, HH⟩
      · rw [if_neg c_1] at hd
        refine wp_s 37 [some (.ref 382), some (.int x1), some (.int x2), some (.int x3), some (.int x4), none, none] [.ref 382] h0 i_257_36 rfl ?_
        refine wp_s 39 [some (.ref 382), some (.int x1), some (.int x2), some (.int x3), some (.int x4), none, none] [.int x4, .ref 382] h0 i_257_37 rfl ?_
        obtain ⟨z_3, q_4, hd⟩ := dk_bind hd
        refine wp_callV 42 rfl i_257_39 (by decide) rfl (vs := [.int x4]) (rest := []) rfl rfl rfl (HH.1 0 (by decide)) (y := m_238) rfl (Nat.le_of_ble_eq_true rfl) (d_238_ok (d := e) (by omega) HH.1 q_4) ?_
        rintro v_7 h_5 ⟨rfl, H_6⟩
        have H_6 := HH.tr H_6
        refine wp_s 43 [some (.ref 382), some (.int x1), some (.int x2), some (.int x3), some (.int x4), none, none] [.int (0 : Int32)] h_5 i_257_42 rfl ?_
        refine wp_s 45 [some (.ref 382), some (.int x1), some (.int x2), some (.int x3), some (.int x4), some (.int (0 : Int32)), none] [] h_5 i_257_43 rfl ?_
        refine wp_s 46 [some (.ref 382), some (.int x1), some (.int x2), some (.int x3), some (.int x4), some (.int (0 : Int32)), none] [.int (0 : Int32)] h_5 i_257_45 rfl ?_
        refine wp_s 48 [some (.ref 382), some (.int x1), some (.int x2), some (.int x3), some (.int x4), some (.int (0 : Int32)), some (.int (0 : Int32))] [] h_5 i_257_46 rfl ?_
        exact aWp.post (aWp.forget (ih.2.1 _ _ _ _ _ _ _ _ _ H_6.1 hd) ((lvS (lvS (lvS (lvS (lvS (lvS (lvS lvE))))))))) (fun _ _ hq => ⟨hq.1, H_6.tr hq.2⟩)
    · intro x1 x2 x3 x4 x5 x6 S h0 zz HS hd
      unfold l_257 at hd
      rw [if_neg (by decide), if_pos rfl] at hd
      have HH := rTo.rf HS
      obtain ⟨e, rfl⟩ : ∃ e, d = e + 1 := ⟨d - 1, by omega⟩
      refine wp_s 50 [some (.ref 382), some (.int x1), some (.int x2), some (.int x3), some (.int x4), some (.int x5), some (.int x6)] [.int x6] h0 i_257_48 rfl ?_
      refine wp_s 51 [some (.ref 382), some (.int x1), some (.int x2), some (.int x3), some (.int x4), some (.int x5), some (.int x6)] [.ref 382, .int x6] h0 i_257_50 rfl ?_
      refine wp_get (v := .int (S.1 29)) 54 rfl i_257_51 (HH.1 0 (by decide)) rfl ?_
      refine wp_cmp_ge 79 57 rfl rfl i_257_54 (fun c_8 => ?_) (fun c_8 => ?_)
      · rw [if_pos c_8] at hd
        refine wp_s 80 [some (.ref 382), some (.int x1), some (.int x2), some (.int x3), some (.int x4), some (.int x5), some (.int x6)] [.ref 382] h0 i_257_79 rfl ?_
        refine wp_get (v := .int (S.1 30)) 83 rfl i_257_80 (HH.1 0 (by decide)) rfl ?_
        refine wp_s 85 [some (.ref 382), some (.int x1), some (.int x2), some (.int x3), some (.int x4), some (.int x5), some (.int x6)] [.int x5, .int (S.1 30)] h0 i_257_83 rfl ?_
        refine wp_s 86 [some (.ref 382), some (.int x1), some (.int x2), some (.int x3), some (.int x4), some (.int x5), some (.int x6)] [.int ((S.1 30) + x5)] h0 i_257_85 rfl ?_
        refine wp_s 88 [some (.ref 382), some (.int x1), some (.int x2), some (.int x3), some (.int x4), some (.int x5), some (.int x6)] [.int x5, .int ((S.1 30) + x5)] h0 i_257_86 rfl ?_
        refine wp_s 89 [some (.ref 382), some (.int x1), some (.int x2), some (.int x3), some (.int x4), some (.int x5), some (.int x6)] [.int (2 : Int32), .int x5, .int ((S.1 30) + x5)] h0 i_257_88 rfl ?_
        obtain ⟨b_9, hd⟩ := dk_if hd
        refine wp_idiv 90 rfl i_257_89 b_9 ?_
        refine wp_s 91 [some (.ref 382), some (.int x1), some (.int x2), some (.int x3), some (.int x4), some (.int x5), some (.int x6)] [.int (((S.1 30) + x5) - (x5 / (2 : Int32)))] h0 i_257_90 rfl ?_
        refine wp_s 93 [some (.ref 382), some (.int x1), some (.int x2), some (.int x3), some (.int x4), some (.int x5), some (.int (((S.1 30) + x5) - (x5 / (2 : Int32))))] [] h0 i_257_91 rfl ?_
        refine wp_s 94 [some (.ref 382), some (.int x1), some (.int x2), some (.int x3), some (.int x4), some (.int x5), some (.int (((S.1 30) + x5) - (x5 / (2 : Int32))))] [.int x2] h0 i_257_93 rfl ?_
        refine wp_if_lt 106 97 rfl rfl i_257_94 (fun c_10 => ?_) (fun c_10 => ?_)
        · rw [if_pos c_10] at hd
          exact aWp.post (aWp.forget (ih.2.2.1 _ _ _ _ _ _ _ _ _ HH.1 hd) ((lvS (lvS (lvS (lvS (lvS (lvS (lvS lvE))))))))) (fun _ _ hq => ⟨hq.1, HH.tr hq.2⟩)
        · rw [if_neg c_10] at hd
          refine wp_s 99 [some (.ref 382), some (.int x1), some (.int x2), some (.int x3), some (.int x4), some (.int x5), some (.int (((S.1 30) + x5) - (x5 / (2 : Int32))))] [.int (((S.1 30) + x5) - (x5 / (2 : Int32)))] h0 i_257_97 rfl ?_
          refine wp_s 100 [some (.ref 382), some (.int x1), some (.int x2), some (.int x3), some (.int x4), some (.int x5), some (.int (((S.1 30) + x5) - (x5 / (2 : Int32))))] [.int x3, .int (((S.1 30) + x5) - (x5 / (2 : Int32)))] h0 i_257_99 rfl ?_
          refine wp_cmp_gt 106 103 rfl rfl i_257_100 (fun c_11 => ?_) (fun c_11 => ?_)
          · rw [if_pos c_11] at hd
            exact aWp.post (aWp.forget (ih.2.2.1 _ _ _ _ _ _ _ _ _ HH.1 hd) ((lvS (lvS (lvS (lvS (lvS (lvS (lvS lvE))))))))) (fun _ _ hq => ⟨hq.1, HH.tr hq.2⟩)
          · rw [if_neg c_11] at hd
            refine wp_s 112 [some (.ref 382), some (.int x1), some (.int x2), some (.int x3), some (.int x4), some (.int x5), some (.int (((S.1 30) + x5) - (x5 / (2 : Int32))))] [] h0 i_257_103 rfl ?_
            exact aWp.post (aWp.forget (ih.2.2.2 _ _ _ _ _ _ _ _ _ HH.1 hd) ((lvS (lvS (lvS (lvS (lvS (lvS (lvS lvE))))))))) (fun _ _ hq => ⟨hq.1, HH.tr hq.2⟩)
      · rw [if_neg c_8] at hd
        refine wp_s 59 [some (.ref 382), some (.int x1), some (.int x2), some (.int x3), some (.int x4), some (.int x5), some (.int x6)] [.int x5] h0 i_257_57 rfl ?_
        refine wp_s 60 [some (.ref 382), some (.int x1), some (.int x2), some (.int x3), some (.int x4), some (.int x5), some (.int x6)] [.ref 382, .int x5] h0 i_257_59 rfl ?_
        refine wp_s 61 [some (.ref 382), some (.int x1), some (.int x2), some (.int x3), some (.int x4), some (.int x5), some (.int x6)] [.ref 382, .ref 382, .int x5] h0 i_257_60 rfl ?_
        refine wp_get (v := .ref 395) 64 rfl i_257_61 (HH.1 0 (by decide)) rfl ?_
        refine wp_s 66 [some (.ref 382), some (.int x1), some (.int x2), some (.int x3), some (.int x4), some (.int x5), some (.int x6)] [.int x6, .ref 395, .ref 382, .int x5] h0 i_257_64 rfl ?_
        obtain ⟨b_12, hd⟩ := dk_if hd
        refine wp_iald (f := (S.2.1 28)) 67 rfl i_257_66 (HH.1 13 (by decide)) b_12 ?_
        obtain ⟨z_13, q_14, hd⟩ := dk_bind hd
        refine wp_callV 70 rfl i_257_67 (by decide) rfl (vs := [.int ((S.2.1 28) x6.toNatClampNeg)]) (rest := [.int x5]) rfl rfl rfl (HH.1 0 (by decide)) (y := m_193) rfl (Nat.le_of_ble_eq_true rfl) (d_193_ok (d := e) (by omega) HH.1 q_14) ?_
        rintro v_17 h_15 ⟨rfl, H_16⟩
        have H_16 := HH.tr H_16
        refine wp_s 71 [some (.ref 382), some (.int x1), some (.int x2), some (.int x3), some (.int x4), some (.int x5), some (.int x6)] [.int (x5 + z_13.1)] h_15 i_257_70 rfl ?_
        refine wp_s 73 [some (.ref 382), some (.int x1), some (.int x2), some (.int x3), some (.int x4), some (.int (x5 + z_13.1)), some (.int x6)] [] h_15 i_257_71 rfl ?_
        refine wp_s 76 [some (.ref 382), some (.int x1), some (.int x2), some (.int x3), some (.int x4), some (.int (x5 + z_13.1)), some (.int (x6 + (1 : Int32)))] [] h_15 i_257_73 rfl ?_
        refine wp_s 48 [some (.ref 382), some (.int x1), some (.int x2), some (.int x3), some (.int x4), some (.int (x5 + z_13.1)), some (.int (x6 + (1 : Int32)))] [] h_15 i_257_76 rfl ?_
        exact aWp.post (aWp.forget (ih.2.1 _ _ _ _ _ _ _ _ _ H_16.1 hd) ((lvS (lvS (lvS (lvS (lvS (lvS (lvS lvE))))))))) (fun _ _ hq => ⟨hq.1, H_16.tr hq.2⟩)
    · intro x1 x2 x3 x4 x5 x6 S h0 zz HS hd
      unfold l_257 at hd
      rw [if_neg (by decide), if_neg (by decide), if_pos rfl] at hd
      have HH := rTo.rf HS
      obtain ⟨e, rfl⟩ : ∃ e, d = e + 1 := ⟨d - 1, by omega⟩
      refine wp_s 108 [some (.ref 382), some (.int x1), some (.int x2), some (.int x3), some (.int x4), some (.int x5), some (.int x6)] [.int x4] h0 i_257_106 rfl ?_
      refine wp_s 109 [some (.ref 382), some (.int x1), some (.int x4), some (.int x3), some (.int x4), some (.int x5), some (.int x6)] [] h0 i_257_108 rfl ?_
      refine wp_s 111 [some (.ref 382), some (.int x1), some (.int x4), some (.int x3), some (.int x4), some (.int x5), some (.int x6)] [.int x6] h0 i_257_109 rfl ?_
      refine wp_s 112 [some (.ref 382), some (.int x1), some (.int x4), some (.int x6), some (.int x4), some (.int x5), some (.int x6)] [] h0 i_257_111 rfl ?_
      exact aWp.post (aWp.forget (ih.2.2.2 _ _ _ _ _ _ _ _ _ HH.1 hd) ((lvS (lvS (lvS (lvS (lvS (lvS (lvS lvE))))))))) (fun _ _ hq => ⟨hq.1, HH.tr hq.2⟩)
    · intro x1 x2 x3 x4 x5 x6 S h0 zz HS hd
      unfold l_257 at hd
      rw [if_neg (by decide), if_neg (by decide), if_neg (by decide), if_pos rfl] at hd
      have HH := rTo.rf HS
      obtain ⟨e, rfl⟩ : ∃ e, d = e + 1 := ⟨d - 1, by omega⟩
      refine wp_s 118 [some (.ref 382), some (.int x1), some (.int x2), some (.int x3), some (.int (x4 + (500 : Int32))), some (.int x5), some (.int x6)] [] h0 i_257_112 rfl ?_
      refine wp_s 28 [some (.ref 382), some (.int x1), some (.int x2), some (.int x3), some (.int (x4 + (500 : Int32))), some (.int x5), some (.int x6)] [] h0 i_257_118 rfl ?_
      exact aWp.post (aWp.forget (ih.1 _ _ _ _ _ _ _ _ _ HH.1 hd) ((lvS (lvS (lvS (lvS (lvS (lvN (lvN lvE))))))))) (fun _ _ hq => ⟨hq.1, HH.tr hq.2⟩)
def d_257 (g : Nat) (x1 : Int32) (S : rS) : Option (Int32 × rS) := ((d_187 g  S).bind (fun z_1001 => (if z_1001.1 = 0 then some ((-1000000 : Int32), z_1001.2) else ((d_140 g (x1.toInt64) (0 : Int64) (1 : Int64) z_1001.2).bind (fun z_1007 => (if ¬ z_1007.1 = 0 then (l_257 g g 0 x1 (-1 : Int32) (0 : Int32) (0 : Int32) 0 0 z_1007.2) else some ((-1000000 : Int32), z_1007.2)))))))
set_option maxHeartbeats 4000000 in
set_option maxRecDepth 100000 in
theorem d_257_ok {X : aX} {g d : Nat} {x1 : Int32} {S : rS} {h0 : aH} {zz : Int32 × rS} (hdp : 11 ≤ d) (HS : rm h0 S) (hd : d_257 g x1 S = some zz) : aWp X d 257 0 (aEntL [.ref 382, .int x1] 7) [] h0 (fun w h' => w = some (.int zz.1) ∧ rTo h0 zz.2 h') := by
  unfold d_257 at hd
  have HH := rTo.rf HS
  refine wp_lv (l2 := [some (.ref 382), some (.int x1), none, none, none, none, none]) rfl ?_
  obtain ⟨e, rfl⟩ : ∃ e, d = e + 1 := ⟨d - 1, by omega⟩
  refine wp_s 1 [some (.ref 382), some (.int x1), none, none, none, none, none] [.ref 382] h0 i_257_0 rfl ?_
  obtain ⟨z_1001, q_1002, hd⟩ := dk_bind hd
  refine wp_callV 4 rfl i_257_1 (by decide) rfl (vs := []) (rest := []) rfl rfl rfl (HH.1 0 (by decide)) (y := m_187) rfl (Nat.le_of_ble_eq_true rfl) (d_187_ok (d := e) (by omega) HH.1 q_1002) ?_
  rintro v_1005 h_1003 ⟨rfl, H_1004⟩
  have H_1004 := HH.tr H_1004
  refine wp_if_eq 17 7 rfl rfl i_257_4 (fun c_1006 => ?_) (fun c_1006 => ?_)
  · rw [if_pos c_1006] at hd
    refine wp_s 20 [some (.ref 382), some (.int x1), none, none, none, none, none] [.int (-1000000 : Int32)] h_1003 i_257_17 rfl ?_
    obtain rfl := Option.some.inj hd
    exact wp_iret i_257_20 ⟨rfl, H_1004⟩
  · rw [if_neg c_1006] at hd
    refine wp_s 8 [some (.ref 382), some (.int x1), none, none, none, none, none] [.int x1] h_1003 i_257_7 rfl ?_
    refine wp_s 9 [some (.ref 382), some (.int x1), none, none, none, none, none] [.long (x1.toInt64)] h_1003 i_257_8 rfl ?_
    refine wp_s 10 [some (.ref 382), some (.int x1), none, none, none, none, none] [.long (0 : Int64), .long (x1.toInt64)] h_1003 i_257_9 rfl ?_
    refine wp_s 11 [some (.ref 382), some (.int x1), none, none, none, none, none] [.long (1 : Int64), .long (0 : Int64), .long (x1.toInt64)] h_1003 i_257_10 rfl ?_
    obtain ⟨z_1007, q_1008, hd⟩ := dk_bind hd
    refine wp_callS 14 rfl i_257_11 (by decide) (vs := [.long (x1.toInt64), .long (0 : Int64), .long (1 : Int64)]) (rest := []) rfl rfl rfl (y := m_140) rfl (Nat.le_of_ble_eq_true rfl) (d_140_ok (d := e) (by omega) H_1004.1 q_1008) ?_
    rintro v_1011 h_1009 ⟨rfl, H_1010⟩
    have H_1010 := H_1004.tr H_1010
    refine wp_if_ne 21 17 rfl rfl i_257_14 (fun c_1012 => ?_) (fun c_1012 => ?_)
    · rw [if_pos c_1012] at hd
      refine wp_s 22 [some (.ref 382), some (.int x1), none, none, none, none, none] [.int (-1 : Int32)] h_1009 i_257_21 rfl ?_
      refine wp_s 23 [some (.ref 382), some (.int x1), some (.int (-1 : Int32)), none, none, none, none] [] h_1009 i_257_22 rfl ?_
      refine wp_s 24 [some (.ref 382), some (.int x1), some (.int (-1 : Int32)), none, none, none, none] [.int (0 : Int32)] h_1009 i_257_23 rfl ?_
      refine wp_s 25 [some (.ref 382), some (.int x1), some (.int (-1 : Int32)), some (.int (0 : Int32)), none, none, none] [] h_1009 i_257_24 rfl ?_
      refine wp_s 26 [some (.ref 382), some (.int x1), some (.int (-1 : Int32)), some (.int (0 : Int32)), none, none, none] [.int (0 : Int32)] h_1009 i_257_25 rfl ?_
      refine wp_s 28 [some (.ref 382), some (.int x1), some (.int (-1 : Int32)), some (.int (0 : Int32)), some (.int (0 : Int32)), none, none] [] h_1009 i_257_26 rfl ?_
      exact aWp.post (aWp.forget ((l_257_ok hdp g).1 _ _ _ _ _ _ _ _ _ H_1010.1 hd) ((lvS (lvS (lvS (lvS (lvS (lvN (lvN lvE))))))))) (fun _ _ hq => ⟨hq.1, H_1010.tr hq.2⟩)
    · rw [if_neg c_1012] at hd
      refine wp_s 20 [some (.ref 382), some (.int x1), none, none, none, none, none] [.int (-1000000 : Int32)] h_1009 i_257_17 rfl ?_
      obtain rfl := Option.some.inj hd
      exact wp_iret i_257_20 ⟨rfl, H_1010⟩
def l_258 (g n tag : Nat) (x1 : Int32) (x2 : Int32) (x3 : Int32) (x4 : Int32) (x5 : Int32) (x6 : Int32) (S : rS) : Option (rS) := match n with
  | 0 => none
  | n + 1 => if tag = 0 then (if x1 ≤ x6 then ((d_208 g x4 S).bind (fun z_2 => (if z_2.1 = x2 then (if ¬ (z_2.2.1 36) = 0 then (l_258 g n 2 x1 x2 x3 x4 x5 x6 (rF z_2.2 37 ((z_2.2.1 37) &&& x5))) else (l_258 g n 1 x1 x2 x3 x4 x5 (0 : Int32) (rF (rF z_2.2 37 ((z_2.2.1 37) &&& x5)) 38 x1))) else some z_2.2))) else (if aIn x6 4 = true then ((d_199 g ((S.2.1 31) x6.toNatClampNeg) x3 S).bind (fun z_14 => (if aIn x6 4 = true then (l_258 g n 0 x1 x2 x3 (x4 + z_14.1) (x5 ||| ((1 : Int32) <<< (((z_14.2.2.1 31) x6.toNatClampNeg) &&& 31))) (x6 + (1 : Int32)) z_14.2) else none))) else none)) else if tag = 1 then (if x1 ≤ x6 then (l_258 g n 2 x1 x2 x3 x4 x5 x6 S) else (if aIn x6 4 = true then (if aIn x6 8 = true then (l_258 g n 1 x1 x2 x3 x4 x5 (x6 + (1 : Int32)) (rA S 28 (upd (S.2.1 28) x6.toNatClampNeg ((S.2.1 31) x6.toNatClampNeg)))) else none) else none)) else if tag = 2 then some (rF S 36 ((S.1 36) + (1 : Int32))) else none
set_option maxHeartbeats 4000000 in
set_option maxRecDepth 100000 in
theorem l_258_ok {X : aX} {g d : Nat} (hdp : 5 ≤ d) : ∀ n, (∀ (x1 : Int32) (x2 : Int32) (x3 : Int32) (x4 : Int32) (x5 : Int32) (x6 : Int32) (S : rS) (h0 : aH) (zz : rS), rm h0 S → l_258 g n 0 x1 x2 x3 x4 x5 x6 S = some zz → aWp X d 258 9 [some (.ref 382), some (.int x1), some (.int x2), some (.int x3), some (.int x4), some (.int x5), some (.int x6)] [] h0 (fun w h' => w = none ∧ rTo h0 zz h')) ∧ (∀ (x1 : Int32) (x2 : Int32) (x3 : Int32) (x4 : Int32) (x5 : Int32) (x6 : Int32) (S : rS) (h0 : aH) (zz : rS), rm h0 S → l_258 g n 1 x1 x2 x3 x4 x5 x6 S = some zz → aWp X d 258 89 [some (.ref 382), some (.int x1), some (.int x2), some (.int x3), some (.int x4), some (.int x5), some (.int x6)] [] h0 (fun w h' => w = none ∧ rTo h0 zz h')) ∧ (∀ (x1 : Int32) (x2 : Int32) (x3 : Int32) (x4 : Int32) (x5 : Int32) (x6 : Int32) (S : rS) (h0 : aH) (zz : rS), rm h0 S → l_258 g n 2 x1 x2 x3 x4 x5 x6 S = some zz → aWp X d 258 115 [some (.ref 382), some (.int x1), some (.int x2), some (.int x3), some (.int x4), some (.int x5), some (.int x6)] [] h0 (fun w h' => w = none ∧ rTo h0 zz h')) := by
  intro n
  induction n with
  | zero => exact ⟨fun _ _ _ _ _ _ _ _ _ _ hd => by simp [l_258] at hd, fun _ _ _ _ _ _ _ _ _ _ hd => by simp [l_258] at hd, fun _ _ _ _ _ _ _ _ _ _ hd => by simp [l_258] at hd⟩
  | succ n ih =>
    refine ⟨?_, ?_, ?_⟩
    · intro x1 x2 x3 x4 x5 x6 S h0 zz HS hd
      unfold l_258 at hd
      rw [if_pos rfl] at hd
      have HH := rTo.rf HS
      obtain ⟨e, rfl⟩ : ∃ e, d = e + 1 := ⟨d - 1, by omega⟩
      refine wp_s 11 [some (.ref 382), some (.int x1), some (.int x2), some (.int x3), some (.int x4), some (.int x5), some (.int x6)] [.int x6] h0 i_258_9 rfl ?_
      refine wp_s 12 [some (.ref 382), some (.int x1), some (.int x2), some (.int x3), some (.int x4), some (.int x5), some (.int x6)] [.int x1, .int x6] h0 i_258_11 rfl ?_
      refine wp_cmp_ge 52 15 rfl rfl i_258_12 (fun c_1 => ?_) (fun c_1 => ?_)
      · rw [if_pos c_1] at hd
        refine wp_s 53 [some (.ref 382), some (.int x1), some (.int x2), some (.int x3), some (.int x4), some (.int x5), some (.int x6)] [.ref 382] h0 i_258_52 rfl ?_
        refine wp_s 55 [some (.ref 382), some (.int x1), some (.int x2), some (.int x3), some (.int x4), some (.int x5), some (.int x6)] [.int x4, .ref 382] h0 i_258_53 rfl ?_
        obtain ⟨z_2, q_3, hd⟩ := dk_bind hd
        refine wp_callV 58 rfl i_258_55 (by decide) rfl (vs := [.int x4]) (rest := []) rfl rfl rfl (HH.1 0 (by decide)) (y := m_208) rfl (Nat.le_of_ble_eq_true rfl) (d_208_ok (d := e) (by omega) HH.1 q_3) ?_
        rintro v_6 h_4 ⟨rfl, H_5⟩
        have H_5 := HH.tr H_5
        refine wp_s 59 [some (.ref 382), some (.int x1), some (.int x2), some (.int x3), some (.int x4), some (.int x5), some (.int x6)] [.int x2, .int z_2.1] h_4 i_258_58 rfl ?_
        refine wp_cmp_eq 63 62 rfl rfl i_258_59 (fun c_7 => ?_) (fun c_7 => ?_)
        · rw [if_pos c_7] at hd
          refine wp_s 64 [some (.ref 382), some (.int x1), some (.int x2), some (.int x3), some (.int x4), some (.int x5), some (.int x6)] [.ref 382] h_4 i_258_63 rfl ?_
          refine wp_s 65 [some (.ref 382), some (.int x1), some (.int x2), some (.int x3), some (.int x4), some (.int x5), some (.int x6)] [.ref 382, .ref 382] h_4 i_258_64 rfl ?_
          refine wp_get (v := .int (z_2.2.1 37)) 68 rfl i_258_65 (H_5.1 0 (by decide)) rfl ?_
          refine wp_s 70 [some (.ref 382), some (.int x1), some (.int x2), some (.int x3), some (.int x4), some (.int x5), some (.int x6)] [.int x5, .int (z_2.2.1 37), .ref 382] h_4 i_258_68 rfl ?_
          refine wp_s 71 [some (.ref 382), some (.int x1), some (.int x2), some (.int x3), some (.int x4), some (.int x5), some (.int x6)] [.int ((z_2.2.1 37) &&& x5), .ref 382] h_4 i_258_70 rfl ?_
          refine rq_F37 74 rfl i_258_71 H_5 (fun h_8 H_9 => ?_)
          refine wp_s 75 [some (.ref 382), some (.int x1), some (.int x2), some (.int x3), some (.int x4), some (.int x5), some (.int x6)] [.ref 382] h_8 i_258_74 rfl ?_
          refine wp_get (v := .int (z_2.2.1 36)) 78 rfl i_258_75 (H_9.1 0 (by decide)) rfl ?_
          refine wp_if_ne 115 81 rfl rfl i_258_78 (fun c_10 => ?_) (fun c_10 => ?_)
          · rw [if_pos c_10] at hd
            exact aWp.post (aWp.forget (ih.2.2 _ _ _ _ _ _ _ _ _ H_9.1 hd) ((lvS (lvS (lvS (lvS (lvS (lvS (lvS lvE))))))))) (fun _ _ hq => ⟨hq.1, H_9.tr hq.2⟩)
          · rw [if_neg c_10] at hd
            refine wp_s 82 [some (.ref 382), some (.int x1), some (.int x2), some (.int x3), some (.int x4), some (.int x5), some (.int x6)] [.ref 382] h_8 i_258_81 rfl ?_
            refine wp_s 83 [some (.ref 382), some (.int x1), some (.int x2), some (.int x3), some (.int x4), some (.int x5), some (.int x6)] [.int x1, .ref 382] h_8 i_258_82 rfl ?_
            refine rq_F38 86 rfl i_258_83 H_9 (fun h_11 H_12 => ?_)
            refine wp_s 87 [some (.ref 382), some (.int x1), some (.int x2), some (.int x3), some (.int x4), some (.int x5), some (.int x6)] [.int (0 : Int32)] h_11 i_258_86 rfl ?_
            refine wp_s 89 [some (.ref 382), some (.int x1), some (.int x2), some (.int x3), some (.int x4), some (.int x5), some (.int (0 : Int32))] [] h_11 i_258_87 rfl ?_
            exact aWp.post (aWp.forget (ih.2.1 _ _ _ _ _ _ _ _ _ H_12.1 hd) ((lvS (lvS (lvS (lvS (lvS (lvS (lvS lvE))))))))) (fun _ _ hq => ⟨hq.1, H_12.tr hq.2⟩)
        · rw [if_neg c_7] at hd
          obtain rfl := Option.some.inj hd
          exact wp_ret i_258_62 rfl ⟨rfl, H_5⟩
      · rw [if_neg c_1] at hd
        refine wp_s 17 [some (.ref 382), some (.int x1), some (.int x2), some (.int x3), some (.int x4), some (.int x5), some (.int x6)] [.int x4] h0 i_258_15 rfl ?_
        refine wp_s 18 [some (.ref 382), some (.int x1), some (.int x2), some (.int x3), some (.int x4), some (.int x5), some (.int x6)] [.ref 382, .int x4] h0 i_258_17 rfl ?_
        refine wp_s 19 [some (.ref 382), some (.int x1), some (.int x2), some (.int x3), some (.int x4), some (.int x5), some (.int x6)] [.ref 382, .ref 382, .int x4] h0 i_258_18 rfl ?_
        refine wp_get (v := .ref 396) 22 rfl i_258_19 (HH.1 0 (by decide)) rfl ?_
        refine wp_s 24 [some (.ref 382), some (.int x1), some (.int x2), some (.int x3), some (.int x4), some (.int x5), some (.int x6)] [.int x6, .ref 396, .ref 382, .int x4] h0 i_258_22 rfl ?_
        obtain ⟨b_13, hd⟩ := dk_if hd
        refine wp_iald (f := (S.2.1 31)) 25 rfl i_258_24 (HH.1 14 (by decide)) b_13 ?_
        refine wp_s 26 [some (.ref 382), some (.int x1), some (.int x2), some (.int x3), some (.int x4), some (.int x5), some (.int x6)] [.int x3, .int ((S.2.1 31) x6.toNatClampNeg), .ref 382, .int x4] h0 i_258_25 rfl ?_
        obtain ⟨z_14, q_15, hd⟩ := dk_bind hd
        refine wp_callV 29 rfl i_258_26 (by decide) rfl (vs := [.int ((S.2.1 31) x6.toNatClampNeg), .int x3]) (rest := [.int x4]) rfl rfl rfl (HH.1 0 (by decide)) (y := m_199) rfl (Nat.le_of_ble_eq_true rfl) (d_199_ok (d := e) (by omega) HH.1 q_15) ?_
        rintro v_18 h_16 ⟨rfl, H_17⟩
        have H_17 := HH.tr H_17
        refine wp_s 30 [some (.ref 382), some (.int x1), some (.int x2), some (.int x3), some (.int x4), some (.int x5), some (.int x6)] [.int (x4 + z_14.1)] h_16 i_258_29 rfl ?_
        refine wp_s 32 [some (.ref 382), some (.int x1), some (.int x2), some (.int x3), some (.int (x4 + z_14.1)), some (.int x5), some (.int x6)] [] h_16 i_258_30 rfl ?_
        refine wp_s 34 [some (.ref 382), some (.int x1), some (.int x2), some (.int x3), some (.int (x4 + z_14.1)), some (.int x5), some (.int x6)] [.int x5] h_16 i_258_32 rfl ?_
        refine wp_s 35 [some (.ref 382), some (.int x1), some (.int x2), some (.int x3), some (.int (x4 + z_14.1)), some (.int x5), some (.int x6)] [.int (1 : Int32), .int x5] h_16 i_258_34 rfl ?_
        refine wp_s 36 [some (.ref 382), some (.int x1), some (.int x2), some (.int x3), some (.int (x4 + z_14.1)), some (.int x5), some (.int x6)] [.ref 382, .int (1 : Int32), .int x5] h_16 i_258_35 rfl ?_
        refine wp_get (v := .ref 396) 39 rfl i_258_36 (H_17.1 0 (by decide)) rfl ?_
        refine wp_s 41 [some (.ref 382), some (.int x1), some (.int x2), some (.int x3), some (.int (x4 + z_14.1)), some (.int x5), some (.int x6)] [.int x6, .ref 396, .int (1 : Int32), .int x5] h_16 i_258_39 rfl ?_
        obtain ⟨b_19, hd⟩ := dk_if hd
        refine wp_iald (f := (z_14.2.2.1 31)) 42 rfl i_258_41 (H_17.1 14 (by decide)) b_19 ?_
        refine wp_s 43 [some (.ref 382), some (.int x1), some (.int x2), some (.int x3), some (.int (x4 + z_14.1)), some (.int x5), some (.int x6)] [.int ((1 : Int32) <<< (((z_14.2.2.1 31) x6.toNatClampNeg) &&& 31)), .int x5] h_16 i_258_42 rfl ?_
        refine wp_s 44 [some (.ref 382), some (.int x1), some (.int x2), some (.int x3), some (.int (x4 + z_14.1)), some (.int x5), some (.int x6)] [.int (x5 ||| ((1 : Int32) <<< (((z_14.2.2.1 31) x6.toNatClampNeg) &&& 31)))] h_16 i_258_43 rfl ?_
        refine wp_s 46 [some (.ref 382), some (.int x1), some (.int x2), some (.int x3), some (.int (x4 + z_14.1)), some (.int (x5 ||| ((1 : Int32) <<< (((z_14.2.2.1 31) x6.toNatClampNeg) &&& 31)))), some (.int x6)] [] h_16 i_258_44 rfl ?_
        refine wp_s 49 [some (.ref 382), some (.int x1), some (.int x2), some (.int x3), some (.int (x4 + z_14.1)), some (.int (x5 ||| ((1 : Int32) <<< (((z_14.2.2.1 31) x6.toNatClampNeg) &&& 31)))), some (.int (x6 + (1 : Int32)))] [] h_16 i_258_46 rfl ?_
        refine wp_s 9 [some (.ref 382), some (.int x1), some (.int x2), some (.int x3), some (.int (x4 + z_14.1)), some (.int (x5 ||| ((1 : Int32) <<< (((z_14.2.2.1 31) x6.toNatClampNeg) &&& 31)))), some (.int (x6 + (1 : Int32)))] [] h_16 i_258_49 rfl ?_
        exact aWp.post (aWp.forget (ih.1 _ _ _ _ _ _ _ _ _ H_17.1 hd) ((lvS (lvS (lvS (lvS (lvS (lvS (lvS lvE))))))))) (fun _ _ hq => ⟨hq.1, H_17.tr hq.2⟩)
    · intro x1 x2 x3 x4 x5 x6 S h0 zz HS hd
      unfold l_258 at hd
      rw [if_neg (by decide), if_pos rfl] at hd
      have HH := rTo.rf HS
      obtain ⟨e, rfl⟩ : ∃ e, d = e + 1 := ⟨d - 1, by omega⟩
      refine wp_s 91 [some (.ref 382), some (.int x1), some (.int x2), some (.int x3), some (.int x4), some (.int x5), some (.int x6)] [.int x6] h0 i_258_89 rfl ?_
      refine wp_s 92 [some (.ref 382), some (.int x1), some (.int x2), some (.int x3), some (.int x4), some (.int x5), some (.int x6)] [.int x1, .int x6] h0 i_258_91 rfl ?_
      refine wp_cmp_ge 115 95 rfl rfl i_258_92 (fun c_20 => ?_) (fun c_20 => ?_)
      · rw [if_pos c_20] at hd
        exact aWp.post (aWp.forget (ih.2.2 _ _ _ _ _ _ _ _ _ HH.1 hd) ((lvS (lvS (lvS (lvS (lvS (lvS (lvS lvE))))))))) (fun _ _ hq => ⟨hq.1, HH.tr hq.2⟩)
      · rw [if_neg c_20] at hd
        refine wp_s 96 [some (.ref 382), some (.int x1), some (.int x2), some (.int x3), some (.int x4), some (.int x5), some (.int x6)] [.ref 382] h0 i_258_95 rfl ?_
        refine wp_get (v := .ref 395) 99 rfl i_258_96 (HH.1 0 (by decide)) rfl ?_
        refine wp_s 101 [some (.ref 382), some (.int x1), some (.int x2), some (.int x3), some (.int x4), some (.int x5), some (.int x6)] [.int x6, .ref 395] h0 i_258_99 rfl ?_
        refine wp_s 102 [some (.ref 382), some (.int x1), some (.int x2), some (.int x3), some (.int x4), some (.int x5), some (.int x6)] [.ref 382, .int x6, .ref 395] h0 i_258_101 rfl ?_
        refine wp_get (v := .ref 396) 105 rfl i_258_102 (HH.1 0 (by decide)) rfl ?_
        refine wp_s 107 [some (.ref 382), some (.int x1), some (.int x2), some (.int x3), some (.int x4), some (.int x5), some (.int x6)] [.int x6, .ref 396, .int x6, .ref 395] h0 i_258_105 rfl ?_
        obtain ⟨b_21, hd⟩ := dk_if hd
        refine wp_iald (f := (S.2.1 31)) 108 rfl i_258_107 (HH.1 14 (by decide)) b_21 ?_
        obtain ⟨b_22, hd⟩ := dk_if hd
        refine rq_A28 109 rfl i_258_108 HH b_22 (fun h_23 H_24 => ?_)
        refine wp_s 112 [some (.ref 382), some (.int x1), some (.int x2), some (.int x3), some (.int x4), some (.int x5), some (.int (x6 + (1 : Int32)))] [] h_23 i_258_109 rfl ?_
        refine wp_s 89 [some (.ref 382), some (.int x1), some (.int x2), some (.int x3), some (.int x4), some (.int x5), some (.int (x6 + (1 : Int32)))] [] h_23 i_258_112 rfl ?_
        exact aWp.post (aWp.forget (ih.2.1 _ _ _ _ _ _ _ _ _ H_24.1 hd) ((lvS (lvS (lvS (lvS (lvS (lvS (lvS lvE))))))))) (fun _ _ hq => ⟨hq.1, H_24.tr hq.2⟩)
    · intro x1 x2 x3 x4 x5 x6 S h0 zz HS hd
      unfold l_258 at hd
      rw [if_neg (by decide), if_neg (by decide), if_pos rfl] at hd
      have HH := rTo.rf HS
      obtain ⟨e, rfl⟩ : ∃ e, d = e + 1 := ⟨d - 1, by omega⟩
      refine wp_s 116 [some (.ref 382), some (.int x1), some (.int x2), some (.int x3), some (.int x4), some (.int x5), some (.int x6)] [.ref 382] h0 i_258_115 rfl ?_
      refine wp_s 117 [some (.ref 382), some (.int x1), some (.int x2), some (.int x3), some (.int x4), some (.int x5), some (.int x6)] [.ref 382, .ref 382] h0 i_258_116 rfl ?_
      refine wp_get (v := .int (S.1 36)) 120 rfl i_258_117 (HH.1 0 (by decide)) rfl ?_
      refine wp_s 121 [some (.ref 382), some (.int x1), some (.int x2), some (.int x3), some (.int x4), some (.int x5), some (.int x6)] [.int (1 : Int32), .int (S.1 36), .ref 382] h0 i_258_120 rfl ?_
      refine wp_s 122 [some (.ref 382), some (.int x1), some (.int x2), some (.int x3), some (.int x4), some (.int x5), some (.int x6)] [.int ((S.1 36) + (1 : Int32)), .ref 382] h0 i_258_121 rfl ?_
      refine rq_F36 125 rfl i_258_122 HH (fun h_25 H_26 => ?_)
      obtain rfl := Option.some.inj hd
      exact wp_ret i_258_125 rfl ⟨rfl, H_26⟩
def d_258 (g : Nat) (x1 : Int32) (x2 : Int32) (x3 : Int32) (S : rS) : Option (rS) := (l_258 g g 0 x1 x2 x3 (0 : Int32) (0 : Int32) (0 : Int32) S)
set_option maxHeartbeats 4000000 in
set_option maxRecDepth 100000 in
theorem d_258_ok {X : aX} {g d : Nat} {x1 : Int32} {x2 : Int32} {x3 : Int32} {S : rS} {h0 : aH} {zz : rS} (hdp : 5 ≤ d) (HS : rm h0 S) (hd : d_258 g x1 x2 x3 S = some zz) : aWp X d 258 0 (aEntL [.ref 382, .int x1, .int x2, .int x3] 7) [] h0 (fun w h' => w = none ∧ rTo h0 zz h') := by
  unfold d_258 at hd
  have HH := rTo.rf HS
  refine wp_lv (l2 := [some (.ref 382), some (.int x1), some (.int x2), some (.int x3), none, none, none]) rfl ?_
  obtain ⟨e, rfl⟩ : ∃ e, d = e + 1 := ⟨d - 1, by omega⟩
  refine wp_s 1 [some (.ref 382), some (.int x1), some (.int x2), some (.int x3), none, none, none] [.int (0 : Int32)] h0 i_258_0 rfl ?_
  refine wp_s 3 [some (.ref 382), some (.int x1), some (.int x2), some (.int x3), some (.int (0 : Int32)), none, none] [] h0 i_258_1 rfl ?_
  refine wp_s 4 [some (.ref 382), some (.int x1), some (.int x2), some (.int x3), some (.int (0 : Int32)), none, none] [.int (0 : Int32)] h0 i_258_3 rfl ?_
  refine wp_s 6 [some (.ref 382), some (.int x1), some (.int x2), some (.int x3), some (.int (0 : Int32)), some (.int (0 : Int32)), none] [] h0 i_258_4 rfl ?_
  refine wp_s 7 [some (.ref 382), some (.int x1), some (.int x2), some (.int x3), some (.int (0 : Int32)), some (.int (0 : Int32)), none] [.int (0 : Int32)] h0 i_258_6 rfl ?_
  refine wp_s 9 [some (.ref 382), some (.int x1), some (.int x2), some (.int x3), some (.int (0 : Int32)), some (.int (0 : Int32)), some (.int (0 : Int32))] [] h0 i_258_7 rfl ?_
  exact aWp.post (aWp.forget ((l_258_ok hdp g).1 _ _ _ _ _ _ _ _ _ HH.1 hd) ((lvS (lvS (lvS (lvS (lvS (lvS (lvS lvE))))))))) (fun _ _ hq => ⟨hq.1, HH.tr hq.2⟩)
def l_259 (g n tag : Nat) (x1 : Int32) (x2 : Int32) (x3 : Int32) (x4 : Int32) (x5 : Int32) (S : rS) : Option (Int32 × rS) := match n with
  | 0 => none
  | n + 1 => if tag = 0 then (if (4 : Int32) < x4 then (l_259 g n 3 x1 x2 x3 x4 0 S) else (if aIn (1 : Int32) 181 = true then (if ((S.2.1 20) (1 : Int32).toNatClampNeg) ≤ 0 then (l_259 g n 3 x1 x2 x3 x4 0 S) else (l_259 g n 1 x1 x2 x3 x4 (0 : Int32) S)) else none)) else if tag = 1 then (if x4 ≤ x5 then (l_259 g n 2 x1 x2 x3 x4 (1 : Int32) S) else (if aIn x5 4 = true then (l_259 g n 1 x1 x2 x3 x4 (x5 + (1 : Int32)) (rA S 31 (upd (S.2.1 31) x5.toNatClampNeg (0 : Int32)))) else none)) else if tag = 2 then (if x5 = 0 then (l_259 g n 0 x1 x2 x3 (x4 + (1 : Int32)) 0 S) else ((d_258 g x4 x1 x2 S).bind (fun z_9 => ((d_237 g x4 z_9).bind (fun z_14 => (l_259 g n 2 x1 x2 x3 x4 z_14.1 z_14.2)))))) else if tag = 3 then (if ¬ x3 = 0 then (if ¬ x3 = (5 : Int32) then (if (S.1 38) < x3 then some ((-2 : Int32), S) else (if aIn (x3 - (1 : Int32)) 8 = true then some (((S.2.1 28) (x3 - (1 : Int32)).toNatClampNeg), S) else none)) else (if ¬ (S.1 36) = 0 then some ((S.1 37), S) else some ((0 : Int32), S))) else some ((S.1 36), S)) else none
set_option maxHeartbeats 4000000 in
set_option maxRecDepth 100000 in
theorem l_259_ok {X : aX} {g d : Nat} (hdp : 6 ≤ d) : ∀ n, (∀ (x1 : Int32) (x2 : Int32) (x3 : Int32) (x4 : Int32) (x5 : Int32) (S : rS) (h0 : aH) (zz : Int32 × rS), rm h0 S → l_259 g n 0 x1 x2 x3 x4 x5 S = some zz → aWp X d 259 73 [some (.ref 382), some (.int x1), some (.int x2), some (.int x3), some (.int x4), none] [] h0 (fun w h' => w = some (.int zz.1) ∧ rTo h0 zz.2 h')) ∧ (∀ (x1 : Int32) (x2 : Int32) (x3 : Int32) (x4 : Int32) (x5 : Int32) (S : rS) (h0 : aH) (zz : Int32 × rS), rm h0 S → l_259 g n 1 x1 x2 x3 x4 x5 S = some zz → aWp X d 259 91 [some (.ref 382), some (.int x1), some (.int x2), some (.int x3), some (.int x4), some (.int x5)] [] h0 (fun w h' => w = some (.int zz.1) ∧ rTo h0 zz.2 h')) ∧ (∀ (x1 : Int32) (x2 : Int32) (x3 : Int32) (x4 : Int32) (x5 : Int32) (S : rS) (h0 : aH) (zz : Int32 × rS), rm h0 S → l_259 g n 2 x1 x2 x3 x4 x5 S = some zz → aWp X d 259 115 [some (.ref 382), some (.int x1), some (.int x2), some (.int x3), some (.int x4), some (.int x5)] [] h0 (fun w h' => w = some (.int zz.1) ∧ rTo h0 zz.2 h')) ∧ (∀ (x1 : Int32) (x2 : Int32) (x3 : Int32) (x4 : Int32) (x5 : Int32) (S : rS) (h0 : aH) (zz : Int32 × rS), rm h0 S → l_259 g n 3 x1 x2 x3 x4 x5 S = some zz → aWp X d 259 145 [some (.ref 382), some (.int x1), some (.int x2), some (.int x3), some (.int x4), none] [] h0 (fun w h' => w = some (.int zz.1) ∧ rTo h0 zz.2 h')) := by
  intro n
  induction n with
  | zero => exact ⟨fun _ _ _ _ _ _ _ _ _ hd => by simp [l_259] at hd, fun _ _ _ _ _ _ _ _ _ hd => by simp [l_259] at hd, fun _ _ _ _ _ _ _ _ _ hd => by simp [l_259] at hd, fun _ _ _ _ _ _ _ _ _ hd => by simp [l_259] at hd⟩
  | succ n ih =>
    refine ⟨?_, ?_, ?_, ?_⟩
    · intro x1 x2 x3 x4 x5 S h0 zz HS hd
      unfold l_259 at hd
      rw [if_pos rfl] at hd
      have HH := rTo.rf HS
      obtain ⟨e, rfl⟩ : ∃ e, d = e + 1 := ⟨d - 1, by omega⟩
      refine wp_s 75 [some (.ref 382), some (.int x1), some (.int x2), some (.int x3), some (.int x4), none] [.int x4] h0 i_259_73 rfl ?_
      refine wp_s 76 [some (.ref 382), some (.int x1), some (.int x2), some (.int x3), some (.int x4), none] [.int (4 : Int32), .int x4] h0 i_259_75 rfl ?_
      refine wp_cmp_gt 145 79 rfl rfl i_259_76 (fun c_1 => ?_) (fun c_1 => ?_)
      · rw [if_pos c_1] at hd
        exact aWp.post (aWp.forget (ih.2.2.2 _ _ _ _ _ _ _ _ HH.1 hd) ((lvS (lvS (lvS (lvS (lvS (lvN lvE)))))))) (fun _ _ hq => ⟨hq.1, HH.tr hq.2⟩)
      · rw [if_neg c_1] at hd
        refine wp_s 80 [some (.ref 382), some (.int x1), some (.int x2), some (.int x3), some (.int x4), none] [.ref 382] h0 i_259_79 rfl ?_
        refine wp_get (v := .ref 392) 83 rfl i_259_80 (HH.1 0 (by decide)) rfl ?_
        refine wp_s 84 [some (.ref 382), some (.int x1), some (.int x2), some (.int x3), some (.int x4), none] [.int (1 : Int32), .ref 392] h0 i_259_83 rfl ?_
        obtain ⟨b_2, hd⟩ := dk_if hd
        refine wp_iald (f := (S.2.1 20)) 85 rfl i_259_84 (HH.1 10 (by decide)) b_2 ?_
        refine wp_if_le 145 88 rfl rfl i_259_85 (fun c_3 => ?_) (fun c_3 => ?_)
        · rw [if_pos c_3] at hd
          exact aWp.post (aWp.forget (ih.2.2.2 _ _ _ _ _ _ _ _ HH.1 hd) ((lvS (lvS (lvS (lvS (lvS (lvN lvE)))))))) (fun _ _ hq => ⟨hq.1, HH.tr hq.2⟩)
        · rw [if_neg c_3] at hd
          refine wp_s 89 [some (.ref 382), some (.int x1), some (.int x2), some (.int x3), some (.int x4), none] [.int (0 : Int32)] h0 i_259_88 rfl ?_
          refine wp_s 91 [some (.ref 382), some (.int x1), some (.int x2), some (.int x3), some (.int x4), some (.int (0 : Int32))] [] h0 i_259_89 rfl ?_
          exact aWp.post (aWp.forget (ih.2.1 _ _ _ _ _ _ _ _ HH.1 hd) ((lvS (lvS (lvS (lvS (lvS (lvS lvE)))))))) (fun _ _ hq => ⟨hq.1, HH.tr hq.2⟩)
    · intro x1 x2 x3 x4 x5 S h0 zz HS hd
      unfold l_259 at hd
      rw [if_neg (by decide), if_pos rfl] at hd
      have HH := rTo.rf HS
      obtain ⟨e, rfl⟩ : ∃ e, d = e + 1 := ⟨d - 1, by omega⟩
      refine wp_s 93 [some (.ref 382), some (.int x1), some (.int x2), some (.int x3), some (.int x4), some (.int x5)] [.int x5] h0 i_259_91 rfl ?_
      refine wp_s 95 [some (.ref 382), some (.int x1), some (.int x2), some (.int x3), some (.int x4), some (.int x5)] [.int x4, .int x5] h0 i_259_93 rfl ?_
      refine wp_cmp_ge 112 98 rfl rfl i_259_95 (fun c_4 => ?_) (fun c_4 => ?_)
      · rw [if_pos c_4] at hd
        refine wp_s 113 [some (.ref 382), some (.int x1), some (.int x2), some (.int x3), some (.int x4), some (.int x5)] [.int (1 : Int32)] h0 i_259_112 rfl ?_
        refine wp_s 115 [some (.ref 382), some (.int x1), some (.int x2), some (.int x3), some (.int x4), some (.int (1 : Int32))] [] h0 i_259_113 rfl ?_
        exact aWp.post (aWp.forget (ih.2.2.1 _ _ _ _ _ _ _ _ HH.1 hd) ((lvS (lvS (lvS (lvS (lvS (lvS lvE)))))))) (fun _ _ hq => ⟨hq.1, HH.tr hq.2⟩)
      · rw [if_neg c_4] at hd
        refine wp_s 99 [some (.ref 382), some (.int x1), some (.int x2), some (.int x3), some (.int x4), some (.int x5)] [.ref 382] h0 i_259_98 rfl ?_
        refine wp_get (v := .ref 396) 102 rfl i_259_99 (HH.1 0 (by decide)) rfl ?_
        refine wp_s 104 [some (.ref 382), some (.int x1), some (.int x2), some (.int x3), some (.int x4), some (.int x5)] [.int x5, .ref 396] h0 i_259_102 rfl ?_
        refine wp_s 105 [some (.ref 382), some (.int x1), some (.int x2), some (.int x3), some (.int x4), some (.int x5)] [.int (0 : Int32), .int x5, .ref 396] h0 i_259_104 rfl ?_
        obtain ⟨b_5, hd⟩ := dk_if hd
        refine rq_A31 106 rfl i_259_105 HH b_5 (fun h_6 H_7 => ?_)
        refine wp_s 109 [some (.ref 382), some (.int x1), some (.int x2), some (.int x3), some (.int x4), some (.int (x5 + (1 : Int32)))] [] h_6 i_259_106 rfl ?_
        refine wp_s 91 [some (.ref 382), some (.int x1), some (.int x2), some (.int x3), some (.int x4), some (.int (x5 + (1 : Int32)))] [] h_6 i_259_109 rfl ?_
        exact aWp.post (aWp.forget (ih.2.1 _ _ _ _ _ _ _ _ H_7.1 hd) ((lvS (lvS (lvS (lvS (lvS (lvS lvE)))))))) (fun _ _ hq => ⟨hq.1, H_7.tr hq.2⟩)
    · intro x1 x2 x3 x4 x5 S h0 zz HS hd
      unfold l_259 at hd
      rw [if_neg (by decide), if_neg (by decide), if_pos rfl] at hd
      have HH := rTo.rf HS
      obtain ⟨e, rfl⟩ : ∃ e, d = e + 1 := ⟨d - 1, by omega⟩
      refine wp_s 117 [some (.ref 382), some (.int x1), some (.int x2), some (.int x3), some (.int x4), some (.int x5)] [.int x5] h0 i_259_115 rfl ?_
      refine wp_if_eq 139 120 rfl rfl i_259_117 (fun c_8 => ?_) (fun c_8 => ?_)
      · rw [if_pos c_8] at hd
        refine wp_s 142 [some (.ref 382), some (.int x1), some (.int x2), some (.int x3), some (.int (x4 + (1 : Int32))), some (.int x5)] [] h0 i_259_139 rfl ?_
        refine wp_s 73 [some (.ref 382), some (.int x1), some (.int x2), some (.int x3), some (.int (x4 + (1 : Int32))), some (.int x5)] [] h0 i_259_142 rfl ?_
        exact aWp.post (aWp.forget (ih.1 _ _ _ _ _ _ _ _ HH.1 hd) ((lvS (lvS (lvS (lvS (lvS (lvN lvE)))))))) (fun _ _ hq => ⟨hq.1, HH.tr hq.2⟩)
      · rw [if_neg c_8] at hd
        refine wp_s 121 [some (.ref 382), some (.int x1), some (.int x2), some (.int x3), some (.int x4), some (.int x5)] [.ref 382] h0 i_259_120 rfl ?_
        refine wp_s 123 [some (.ref 382), some (.int x1), some (.int x2), some (.int x3), some (.int x4), some (.int x5)] [.int x4, .ref 382] h0 i_259_121 rfl ?_
        refine wp_s 124 [some (.ref 382), some (.int x1), some (.int x2), some (.int x3), some (.int x4), some (.int x5)] [.int x1, .int x4, .ref 382] h0 i_259_123 rfl ?_
        refine wp_s 125 [some (.ref 382), some (.int x1), some (.int x2), some (.int x3), some (.int x4), some (.int x5)] [.int x2, .int x1, .int x4, .ref 382] h0 i_259_124 rfl ?_
        obtain ⟨z_9, q_10, hd⟩ := dk_bind hd
        refine wp_callV 128 rfl i_259_125 (by decide) rfl (vs := [.int x4, .int x1, .int x2]) (rest := []) rfl rfl rfl (HH.1 0 (by decide)) (y := m_258) rfl (Nat.le_of_ble_eq_true rfl) (d_258_ok (d := e) (by omega) HH.1 q_10) ?_
        rintro v_13 h_11 ⟨rfl, H_12⟩
        have H_12 := HH.tr H_12
        refine wp_s 129 [some (.ref 382), some (.int x1), some (.int x2), some (.int x3), some (.int x4), some (.int x5)] [.ref 382] h_11 i_259_128 rfl ?_
        refine wp_s 131 [some (.ref 382), some (.int x1), some (.int x2), some (.int x3), some (.int x4), some (.int x5)] [.int x4, .ref 382] h_11 i_259_129 rfl ?_
        obtain ⟨z_14, q_15, hd⟩ := dk_bind hd
        refine wp_callV 134 rfl i_259_131 (by decide) rfl (vs := [.int x4]) (rest := []) rfl rfl rfl (H_12.1 0 (by decide)) (y := m_237) rfl (Nat.le_of_ble_eq_true rfl) (d_237_ok (d := e) (by omega) H_12.1 q_15) ?_
        rintro v_18 h_16 ⟨rfl, H_17⟩
        have H_17 := H_12.tr H_17
        refine wp_s 136 [some (.ref 382), some (.int x1), some (.int x2), some (.int x3), some (.int x4), some (.int z_14.1)] [] h_16 i_259_134 rfl ?_
        refine wp_s 115 [some (.ref 382), some (.int x1), some (.int x2), some (.int x3), some (.int x4), some (.int z_14.1)] [] h_16 i_259_136 rfl ?_
        exact aWp.post (aWp.forget (ih.2.2.1 _ _ _ _ _ _ _ _ H_17.1 hd) ((lvS (lvS (lvS (lvS (lvS (lvS lvE)))))))) (fun _ _ hq => ⟨hq.1, H_17.tr hq.2⟩)
    · intro x1 x2 x3 x4 x5 S h0 zz HS hd
      unfold l_259 at hd
      rw [if_neg (by decide), if_neg (by decide), if_neg (by decide), if_pos rfl] at hd
      have HH := rTo.rf HS
      obtain ⟨e, rfl⟩ : ∃ e, d = e + 1 := ⟨d - 1, by omega⟩
      refine wp_s 146 [some (.ref 382), some (.int x1), some (.int x2), some (.int x3), some (.int x4), none] [.int x3] h0 i_259_145 rfl ?_
      refine wp_if_ne 154 149 rfl rfl i_259_146 (fun c_19 => ?_) (fun c_19 => ?_)
      · rw [if_pos c_19] at hd
        refine wp_s 155 [some (.ref 382), some (.int x1), some (.int x2), some (.int x3), some (.int x4), none] [.int x3] h0 i_259_154 rfl ?_
        refine wp_s 156 [some (.ref 382), some (.int x1), some (.int x2), some (.int x3), some (.int x4), none] [.int (5 : Int32), .int x3] h0 i_259_155 rfl ?_
        refine wp_cmp_ne 175 159 rfl rfl i_259_156 (fun c_20 => ?_) (fun c_20 => ?_)
        · rw [if_pos c_20] at hd
          refine wp_s 176 [some (.ref 382), some (.int x1), some (.int x2), some (.int x3), some (.int x4), none] [.int x3] h0 i_259_175 rfl ?_
          refine wp_s 177 [some (.ref 382), some (.int x1), some (.int x2), some (.int x3), some (.int x4), none] [.ref 382, .int x3] h0 i_259_176 rfl ?_
          refine wp_get (v := .int (S.1 38)) 180 rfl i_259_177 (HH.1 0 (by decide)) rfl ?_
          refine wp_cmp_gt 194 183 rfl rfl i_259_180 (fun c_21 => ?_) (fun c_21 => ?_)
          · rw [if_pos c_21] at hd
            refine wp_s 196 [some (.ref 382), some (.int x1), some (.int x2), some (.int x3), some (.int x4), none] [.int (-2 : Int32)] h0 i_259_194 rfl ?_
            obtain rfl := Option.some.inj hd
            exact wp_iret i_259_196 ⟨rfl, HH⟩
          · rw [if_neg c_21] at hd
            refine wp_s 184 [some (.ref 382), some (.int x1), some (.int x2), some (.int x3), some (.int x4), none] [.ref 382] h0 i_259_183 rfl ?_
            refine wp_get (v := .ref 395) 187 rfl i_259_184 (HH.1 0 (by decide)) rfl ?_
            refine wp_s 188 [some (.ref 382), some (.int x1), some (.int x2), some (.int x3), some (.int x4), none] [.int x3, .ref 395] h0 i_259_187 rfl ?_
            refine wp_s 189 [some (.ref 382), some (.int x1), some (.int x2), some (.int x3), some (.int x4), none] [.int (1 : Int32), .int x3, .ref 395] h0 i_259_188 rfl ?_
            refine wp_s 190 [some (.ref 382), some (.int x1), some (.int x2), some (.int x3), some (.int x4), none] [.int (x3 - (1 : Int32)), .ref 395] h0 i_259_189 rfl ?_
            obtain ⟨b_22, hd⟩ := dk_if hd
            refine wp_iald (f := (S.2.1 28)) 191 rfl i_259_190 (HH.1 13 (by decide)) b_22 ?_
            refine wp_s 196 [some (.ref 382), some (.int x1), some (.int x2), some (.int x3), some (.int x4), none] [.int ((S.2.1 28) (x3 - (1 : Int32)).toNatClampNeg)] h0 i_259_191 rfl ?_
            obtain rfl := Option.some.inj hd
            exact wp_iret i_259_196 ⟨rfl, HH⟩
        · rw [if_neg c_20] at hd
          refine wp_s 160 [some (.ref 382), some (.int x1), some (.int x2), some (.int x3), some (.int x4), none] [.ref 382] h0 i_259_159 rfl ?_
          refine wp_get (v := .int (S.1 36)) 163 rfl i_259_160 (HH.1 0 (by decide)) rfl ?_
          refine wp_if_ne 170 166 rfl rfl i_259_163 (fun c_23 => ?_) (fun c_23 => ?_)
          · rw [if_pos c_23] at hd
            refine wp_s 171 [some (.ref 382), some (.int x1), some (.int x2), some (.int x3), some (.int x4), none] [.ref 382] h0 i_259_170 rfl ?_
            refine wp_get (v := .int (S.1 37)) 174 rfl i_259_171 (HH.1 0 (by decide)) rfl ?_
            obtain rfl := Option.some.inj hd
            exact wp_iret i_259_174 ⟨rfl, HH⟩
          · rw [if_neg c_23] at hd
            refine wp_s 167 [some (.ref 382), some (.int x1), some (.int x2), some (.int x3), some (.int x4), none] [.int (0 : Int32)] h0 i_259_166 rfl ?_
            refine wp_s 174 [some (.ref 382), some (.int x1), some (.int x2), some (.int x3), some (.int x4), none] [.int (0 : Int32)] h0 i_259_167 rfl ?_
            obtain rfl := Option.some.inj hd
            exact wp_iret i_259_174 ⟨rfl, HH⟩
      · rw [if_neg c_19] at hd
        refine wp_s 150 [some (.ref 382), some (.int x1), some (.int x2), some (.int x3), some (.int x4), none] [.ref 382] h0 i_259_149 rfl ?_
        refine wp_get (v := .int (S.1 36)) 153 rfl i_259_150 (HH.1 0 (by decide)) rfl ?_
        obtain rfl := Option.some.inj hd
        exact wp_iret i_259_153 ⟨rfl, HH⟩
def d_259 (g : Nat) (x1 : Int32) (x2 : Int32) (x3 : Int32) (S : rS) : Option (Int32 × rS) := ((d_187 g  S).bind (fun z_1001 => (if z_1001.1 = 0 then some ((-3 : Int32), z_1001.2) else ((d_140 g (x1.toInt64) (0 : Int64) (30000 : Int64) z_1001.2).bind (fun z_1007 => (if z_1007.1 = 0 then some ((-3 : Int32), z_1007.2) else ((d_140 g (x2.toInt64) (0 : Int64) (99 : Int64) z_1007.2).bind (fun z_1013 => (if z_1013.1 = 0 then some ((-3 : Int32), z_1013.2) else ((d_140 g (x3.toInt64) (0 : Int64) (5 : Int64) z_1013.2).bind (fun z_1019 => (if ¬ z_1019.1 = 0 then (if aIn (1 : Int32) 181 = true then (l_259 g g 0 x1 x2 x3 (1 : Int32) 0 (rF (rF (rF z_1019.2 36 (0 : Int32)) 37 (((1 : Int32) <<< (((z_1019.2.2.1 20) (1 : Int32).toNatClampNeg) &&& 31)) - (1 : Int32))) 38 (0 : Int32))) else none) else some ((-3 : Int32), z_1019.2)))))))))))))
set_option maxHeartbeats 4000000 in
set_option maxRecDepth 100000 in
theorem d_259_ok {X : aX} {g d : Nat} {x1 : Int32} {x2 : Int32} {x3 : Int32} {S : rS} {h0 : aH} {zz : Int32 × rS} (hdp : 6 ≤ d) (HS : rm h0 S) (hd : d_259 g x1 x2 x3 S = some zz) : aWp X d 259 0 (aEntL [.ref 382, .int x1, .int x2, .int x3] 6) [] h0 (fun w h' => w = some (.int zz.1) ∧ rTo h0 zz.2 h') := by
  unfold d_259 at hd
  have HH := rTo.rf HS
  refine wp_lv (l2 := [some (.ref 382), some (.int x1), some (.int x2), some (.int x3), none, none]) rfl ?_
  obtain ⟨e, rfl⟩ : ∃ e, d = e + 1 := ⟨d - 1, by omega⟩
  refine wp_s 1 [some (.ref 382), some (.int x1), some (.int x2), some (.int x3), none, none] [.ref 382] h0 i_259_0 rfl ?_
  obtain ⟨z_1001, q_1002, hd⟩ := dk_bind hd
  refine wp_callV 4 rfl i_259_1 (by decide) rfl (vs := []) (rest := []) rfl rfl rfl (HH.1 0 (by decide)) (y := m_187) rfl (Nat.le_of_ble_eq_true rfl) (d_187_ok (d := e) (by omega) HH.1 q_1002) ?_
  rintro v_1005 h_1003 ⟨rfl, H_1004⟩
  have H_1004 := HH.tr H_1004
  refine wp_if_eq 43 7 rfl rfl i_259_4 (fun c_1006 => ?_) (fun c_1006 => ?_)
  · rw [if_pos c_1006] at hd
    refine wp_s 45 [some (.ref 382), some (.int x1), some (.int x2), some (.int x3), none, none] [.int (-3 : Int32)] h_1003 i_259_43 rfl ?_
    obtain rfl := Option.some.inj hd
    exact wp_iret i_259_45 ⟨rfl, H_1004⟩
  · rw [if_neg c_1006] at hd
    refine wp_s 8 [some (.ref 382), some (.int x1), some (.int x2), some (.int x3), none, none] [.int x1] h_1003 i_259_7 rfl ?_
    refine wp_s 9 [some (.ref 382), some (.int x1), some (.int x2), some (.int x3), none, none] [.long (x1.toInt64)] h_1003 i_259_8 rfl ?_
    refine wp_s 10 [some (.ref 382), some (.int x1), some (.int x2), some (.int x3), none, none] [.long (0 : Int64), .long (x1.toInt64)] h_1003 i_259_9 rfl ?_
    refine wp_s 13 [some (.ref 382), some (.int x1), some (.int x2), some (.int x3), none, none] [.long (30000 : Int64), .long (0 : Int64), .long (x1.toInt64)] h_1003 i_259_10 rfl ?_
    obtain ⟨z_1007, q_1008, hd⟩ := dk_bind hd
    refine wp_callS 16 rfl i_259_13 (by decide) (vs := [.long (x1.toInt64), .long (0 : Int64), .long (30000 : Int64)]) (rest := []) rfl rfl rfl (y := m_140) rfl (Nat.le_of_ble_eq_true rfl) (d_140_ok (d := e) (by omega) H_1004.1 q_1008) ?_
    rintro v_1011 h_1009 ⟨rfl, H_1010⟩
    have H_1010 := H_1004.tr H_1010
    refine wp_if_eq 43 19 rfl rfl i_259_16 (fun c_1012 => ?_) (fun c_1012 => ?_)
    · rw [if_pos c_1012] at hd
      refine wp_s 45 [some (.ref 382), some (.int x1), some (.int x2), some (.int x3), none, none] [.int (-3 : Int32)] h_1009 i_259_43 rfl ?_
      obtain rfl := Option.some.inj hd
      exact wp_iret i_259_45 ⟨rfl, H_1010⟩
    · rw [if_neg c_1012] at hd
      refine wp_s 20 [some (.ref 382), some (.int x1), some (.int x2), some (.int x3), none, none] [.int x2] h_1009 i_259_19 rfl ?_
      refine wp_s 21 [some (.ref 382), some (.int x1), some (.int x2), some (.int x3), none, none] [.long (x2.toInt64)] h_1009 i_259_20 rfl ?_
      refine wp_s 22 [some (.ref 382), some (.int x1), some (.int x2), some (.int x3), none, none] [.long (0 : Int64), .long (x2.toInt64)] h_1009 i_259_21 rfl ?_
      refine wp_s 25 [some (.ref 382), some (.int x1), some (.int x2), some (.int x3), none, none] [.long (99 : Int64), .long (0 : Int64), .long (x2.toInt64)] h_1009 i_259_22 rfl ?_
      obtain ⟨z_1013, q_1014, hd⟩ := dk_bind hd
      refine wp_callS 28 rfl i_259_25 (by decide) (vs := [.long (x2.toInt64), .long (0 : Int64), .long (99 : Int64)]) (rest := []) rfl rfl rfl (y := m_140) rfl (Nat.le_of_ble_eq_true rfl) (d_140_ok (d := e) (by omega) H_1010.1 q_1014) ?_
      rintro v_1017 h_1015 ⟨rfl, H_1016⟩
      have H_1016 := H_1010.tr H_1016
      refine wp_if_eq 43 31 rfl rfl i_259_28 (fun c_1018 => ?_) (fun c_1018 => ?_)
      · rw [if_pos c_1018] at hd
        refine wp_s 45 [some (.ref 382), some (.int x1), some (.int x2), some (.int x3), none, none] [.int (-3 : Int32)] h_1015 i_259_43 rfl ?_
        obtain rfl := Option.some.inj hd
        exact wp_iret i_259_45 ⟨rfl, H_1016⟩
      · rw [if_neg c_1018] at hd
        refine wp_s 32 [some (.ref 382), some (.int x1), some (.int x2), some (.int x3), none, none] [.int x3] h_1015 i_259_31 rfl ?_
        refine wp_s 33 [some (.ref 382), some (.int x1), some (.int x2), some (.int x3), none, none] [.long (x3.toInt64)] h_1015 i_259_32 rfl ?_
        refine wp_s 34 [some (.ref 382), some (.int x1), some (.int x2), some (.int x3), none, none] [.long (0 : Int64), .long (x3.toInt64)] h_1015 i_259_33 rfl ?_
        refine wp_s 37 [some (.ref 382), some (.int x1), some (.int x2), some (.int x3), none, none] [.long (5 : Int64), .long (0 : Int64), .long (x3.toInt64)] h_1015 i_259_34 rfl ?_
        obtain ⟨z_1019, q_1020, hd⟩ := dk_bind hd
        refine wp_callS 40 rfl i_259_37 (by decide) (vs := [.long (x3.toInt64), .long (0 : Int64), .long (5 : Int64)]) (rest := []) rfl rfl rfl (y := m_140) rfl (Nat.le_of_ble_eq_true rfl) (d_140_ok (d := e) (by omega) H_1016.1 q_1020) ?_
        rintro v_1023 h_1021 ⟨rfl, H_1022⟩
        have H_1022 := H_1016.tr H_1022
        refine wp_if_ne 46 43 rfl rfl i_259_40 (fun c_1024 => ?_) (fun c_1024 => ?_)
        · rw [if_pos c_1024] at hd
          refine wp_s 47 [some (.ref 382), some (.int x1), some (.int x2), some (.int x3), none, none] [.ref 382] h_1021 i_259_46 rfl ?_
          refine wp_s 48 [some (.ref 382), some (.int x1), some (.int x2), some (.int x3), none, none] [.int (0 : Int32), .ref 382] h_1021 i_259_47 rfl ?_
          refine rq_F36 51 rfl i_259_48 H_1022 (fun h_1025 H_1026 => ?_)
          refine wp_s 52 [some (.ref 382), some (.int x1), some (.int x2), some (.int x3), none, none] [.ref 382] h_1025 i_259_51 rfl ?_
          refine wp_s 53 [some (.ref 382), some (.int x1), some (.int x2), some (.int x3), none, none] [.int (1 : Int32), .ref 382] h_1025 i_259_52 rfl ?_
          refine wp_s 54 [some (.ref 382), some (.int x1), some (.int x2), some (.int x3), none, none] [.ref 382, .int (1 : Int32), .ref 382] h_1025 i_259_53 rfl ?_
          refine wp_get (v := .ref 392) 57 rfl i_259_54 (H_1026.1 0 (by decide)) rfl ?_
          refine wp_s 58 [some (.ref 382), some (.int x1), some (.int x2), some (.int x3), none, none] [.int (1 : Int32), .ref 392, .int (1 : Int32), .ref 382] h_1025 i_259_57 rfl ?_
          obtain ⟨b_1027, hd⟩ := dk_if hd
          refine wp_iald (f := (z_1019.2.2.1 20)) 59 rfl i_259_58 (H_1026.1 10 (by decide)) b_1027 ?_
          refine wp_s 60 [some (.ref 382), some (.int x1), some (.int x2), some (.int x3), none, none] [.int ((1 : Int32) <<< (((z_1019.2.2.1 20) (1 : Int32).toNatClampNeg) &&& 31)), .ref 382] h_1025 i_259_59 rfl ?_
          refine wp_s 61 [some (.ref 382), some (.int x1), some (.int x2), some (.int x3), none, none] [.int (1 : Int32), .int ((1 : Int32) <<< (((z_1019.2.2.1 20) (1 : Int32).toNatClampNeg) &&& 31)), .ref 382] h_1025 i_259_60 rfl ?_
          refine wp_s 62 [some (.ref 382), some (.int x1), some (.int x2), some (.int x3), none, none] [.int (((1 : Int32) <<< (((z_1019.2.2.1 20) (1 : Int32).toNatClampNeg) &&& 31)) - (1 : Int32)), .ref 382] h_1025 i_259_61 rfl ?_
          refine rq_F37 65 rfl i_259_62 H_1026 (fun h_1028 H_1029 => ?_)
          refine wp_s 66 [some (.ref 382), some (.int x1), some (.int x2), some (.int x3), none, none] [.ref 382] h_1028 i_259_65 rfl ?_
          refine wp_s 67 [some (.ref 382), some (.int x1), some (.int x2), some (.int x3), none, none] [.int (0 : Int32), .ref 382] h_1028 i_259_66 rfl ?_
          refine rq_F38 70 rfl i_259_67 H_1029 (fun h_1030 H_1031 => ?_)
          refine wp_s 71 [some (.ref 382), some (.int x1), some (.int x2), some (.int x3), none, none] [.int (1 : Int32)] h_1030 i_259_70 rfl ?_
          refine wp_s 73 [some (.ref 382), some (.int x1), some (.int x2), some (.int x3), some (.int (1 : Int32)), none] [] h_1030 i_259_71 rfl ?_
          exact aWp.post (aWp.forget ((l_259_ok hdp g).1 _ _ _ _ _ _ _ _ H_1031.1 hd) ((lvS (lvS (lvS (lvS (lvS (lvN lvE)))))))) (fun _ _ hq => ⟨hq.1, H_1031.tr hq.2⟩)
        · rw [if_neg c_1024] at hd
          refine wp_s 45 [some (.ref 382), some (.int x1), some (.int x2), some (.int x3), none, none] [.int (-3 : Int32)] h_1021 i_259_43 rfl ?_
          obtain rfl := Option.some.inj hd
          exact wp_iret i_259_45 ⟨rfl, H_1022⟩
def d_260 (g : Nat) (x1 : Int32) (x2 : Int32) (x3 : Int32) (x4 : Int32) (S : rS) : Option (Int32 × rS) := (if ¬ x1 = (-1 : Int32) then ((d_188 g x1 S).bind (fun z_2 => (if z_2.1 = 0 then some ((-2 : Int32), z_2.2) else ((d_140 g (x2.toInt64) (0 : Int64) (99 : Int64) z_2.2).bind (fun z_8 => (if z_8.1 = 0 then some ((-2 : Int32), z_8.2) else ((d_140 g (x3.toInt64) (0 : Int64) (99 : Int64) z_8.2).bind (fun z_14 => (if z_14.1 = 0 then some ((-2 : Int32), z_14.2) else ((d_140 g (x4.toInt64) (1 : Int64) (9999 : Int64) z_14.2).bind (fun z_20 => (if z_20.1 = 0 then some ((-2 : Int32), z_20.2) else (if aIn (180 : Int32) 181 = true then (if ¬ ((z_20.2.2.1 20) (180 : Int32).toNatClampNeg) = (10 : Int32) then (if aIn (180 : Int32) 181 = true then (if aIn ((140 : Int32) + ((4 : Int32) * ((z_20.2.2.1 20) (180 : Int32).toNatClampNeg))) 181 = true then (if aIn (((140 : Int32) + ((4 : Int32) * ((z_20.2.2.1 20) (180 : Int32).toNatClampNeg))) + (1 : Int32)) 181 = true then (if aIn (((140 : Int32) + ((4 : Int32) * ((z_20.2.2.1 20) (180 : Int32).toNatClampNeg))) + (2 : Int32)) 181 = true then (if aIn (((140 : Int32) + ((4 : Int32) * ((z_20.2.2.1 20) (180 : Int32).toNatClampNeg))) + (3 : Int32)) 181 = true then (if aIn (180 : Int32) 181 = true then (if aIn (180 : Int32) 181 = true then (if aIn (180 : Int32) 181 = true then some (((upd (upd (upd (upd (upd (z_20.2.2.1 20) ((140 : Int32) + ((4 : Int32) * ((z_20.2.2.1 20) (180 : Int32).toNatClampNeg))).toNatClampNeg x1) (((140 : Int32) + ((4 : Int32) * ((z_20.2.2.1 20) (180 : Int32).toNatClampNeg))) + (1 : Int32)).toNatClampNeg x2) (((140 : Int32) + ((4 : Int32) * ((z_20.2.2.1 20) (180 : Int32).toNatClampNeg))) + (2 : Int32)).toNatClampNeg x3) (((140 : Int32) + ((4 : Int32) * ((z_20.2.2.1 20) (180 : Int32).toNatClampNeg))) + (3 : Int32)).toNatClampNeg x4) (180 : Int32).toNatClampNeg (((upd (upd (upd (upd (z_20.2.2.1 20) ((140 : Int32) + ((4 : Int32) * ((z_20.2.2.1 20) (180 : Int32).toNatClampNeg))).toNatClampNeg x1) (((140 : Int32) + ((4 : Int32) * ((z_20.2.2.1 20) (180 : Int32).toNatClampNeg))) + (1 : Int32)).toNatClampNeg x2) (((140 : Int32) + ((4 : Int32) * ((z_20.2.2.1 20) (180 : Int32).toNatClampNeg))) + (2 : Int32)).toNatClampNeg x3) (((140 : Int32) + ((4 : Int32) * ((z_20.2.2.1 20) (180 : Int32).toNatClampNeg))) + (3 : Int32)).toNatClampNeg x4) (180 : Int32).toNatClampNeg) + (1 : Int32))) (180 : Int32).toNatClampNeg), (rA (rA (rA (rA (rA z_20.2 20 (upd (z_20.2.2.1 20) ((140 : Int32) + ((4 : Int32) * ((z_20.2.2.1 20) (180 : Int32).toNatClampNeg))).toNatClampNeg x1)) 20 (upd (upd (z_20.2.2.1 20) ((140 : Int32) + ((4 : Int32) * ((z_20.2.2.1 20) (180 : Int32).toNatClampNeg))).toNatClampNeg x1) (((140 : Int32) + ((4 : Int32) * ((z_20.2.2.1 20) (180 : Int32).toNatClampNeg))) + (1 : Int32)).toNatClampNeg x2)) 20 (upd (upd (upd (z_20.2.2.1 20) ((140 : Int32) + ((4 : Int32) * ((z_20.2.2.1 20) (180 : Int32).toNatClampNeg))).toNatClampNeg x1) (((140 : Int32) + ((4 : Int32) * ((z_20.2.2.1 20) (180 : Int32).toNatClampNeg))) + (1 : Int32)).toNatClampNeg x2) (((140 : Int32) + ((4 : Int32) * ((z_20.2.2.1 20) (180 : Int32).toNatClampNeg))) + (2 : Int32)).toNatClampNeg x3)) 20 (upd (upd (upd (upd (z_20.2.2.1 20) ((140 : Int32) + ((4 : Int32) * ((z_20.2.2.1 20) (180 : Int32).toNatClampNeg))).toNatClampNeg x1) (((140 : Int32) + ((4 : Int32) * ((z_20.2.2.1 20) (180 : Int32).toNatClampNeg))) + (1 : Int32)).toNatClampNeg x2) (((140 : Int32) + ((4 : Int32) * ((z_20.2.2.1 20) (180 : Int32).toNatClampNeg))) + (2 : Int32)).toNatClampNeg x3) (((140 : Int32) + ((4 : Int32) * ((z_20.2.2.1 20) (180 : Int32).toNatClampNeg))) + (3 : Int32)).toNatClampNeg x4)) 20 (upd (upd (upd (upd (upd (z_20.2.2.1 20) ((140 : Int32) + ((4 : Int32) * ((z_20.2.2.1 20) (180 : Int32).toNatClampNeg))).toNatClampNeg x1) (((140 : Int32) + ((4 : Int32) * ((z_20.2.2.1 20) (180 : Int32).toNatClampNeg))) + (1 : Int32)).toNatClampNeg x2) (((140 : Int32) + ((4 : Int32) * ((z_20.2.2.1 20) (180 : Int32).toNatClampNeg))) + (2 : Int32)).toNatClampNeg x3) (((140 : Int32) + ((4 : Int32) * ((z_20.2.2.1 20) (180 : Int32).toNatClampNeg))) + (3 : Int32)).toNatClampNeg x4) (180 : Int32).toNatClampNeg (((upd (upd (upd (upd (z_20.2.2.1 20) ((140 : Int32) + ((4 : Int32) * ((z_20.2.2.1 20) (180 : Int32).toNatClampNeg))).toNatClampNeg x1) (((140 : Int32) + ((4 : Int32) * ((z_20.2.2.1 20) (180 : Int32).toNatClampNeg))) + (1 : Int32)).toNatClampNeg x2) (((140 : Int32) + ((4 : Int32) * ((z_20.2.2.1 20) (180 : Int32).toNatClampNeg))) + (2 : Int32)).toNatClampNeg x3) (((140 : Int32) + ((4 : Int32) * ((z_20.2.2.1 20) (180 : Int32).toNatClampNeg))) + (3 : Int32)).toNatClampNeg x4) (180 : Int32).toNatClampNeg) + (1 : Int32))))) else none) else none) else none) else none) else none) else none) else none) else none) else some ((-2 : Int32), z_20.2)) else none))))))))))))) else (if aIn (180 : Int32) 181 = true then some ((0 : Int32), (rA S 20 (upd (S.2.1 20) (180 : Int32).toNatClampNeg (0 : Int32)))) else none))
set_option maxHeartbeats 4000000 in
set_option maxRecDepth 100000 in
theorem d_260_ok {X : aX} {g d : Nat} {x1 : Int32} {x2 : Int32} {x3 : Int32} {x4 : Int32} {S : rS} {h0 : aH} {zz : Int32 × rS} (hdp : 1 ≤ d) (HS : rm h0 S) (hd : d_260 g x1 x2 x3 x4 S = some zz) : aWp X d 260 0 (aEntL [.ref 382, .int x1, .int x2, .int x3, .int x4] 6) [] h0 (fun w h' => w = some (.int zz.1) ∧ rTo h0 zz.2 h') := by
  unfold d_260 at hd
  have HH := rTo.rf HS
  refine wp_lv (l2 := [some (.ref 382), some (.int x1), some (.int x2), some (.int x3), some (.int x4), none]) rfl ?_
  obtain ⟨e, rfl⟩ : ∃ e, d = e + 1 := ⟨d - 1, by omega⟩
  refine wp_s 1 [some (.ref 382), some (.int x1), some (.int x2), some (.int x3), some (.int x4), none] [.int x1] h0 i_260_0 rfl ?_
  refine wp_s 2 [some (.ref 382), some (.int x1), some (.int x2), some (.int x3), some (.int x4), none] [.int (-1 : Int32), .int x1] h0 i_260_1 rfl ?_
  refine wp_cmp_ne 16 5 rfl rfl i_260_2 (fun c_1 => ?_) (fun c_1 => ?_)
  · rw [if_pos c_1] at hd
    refine wp_s 17 [some (.ref 382), some (.int x1), some (.int x2), some (.int x3), some (.int x4), none] [.ref 382] h0 i_260_16 rfl ?_
    refine wp_s 18 [some (.ref 382), some (.int x1), some (.int x2), some (.int x3), some (.int x4), none] [.int x1, .ref 382] h0 i_260_17 rfl ?_
    obtain ⟨z_2, q_3, hd⟩ := dk_bind hd
    refine wp_callV 21 rfl i_260_18 (by decide) rfl (vs := [.int x1]) (rest := []) rfl rfl rfl (HH.1 0 (by decide)) (y := m_188) rfl (Nat.le_of_ble_eq_true rfl) (d_188_ok (d := e) (by omega) HH.1 q_3) ?_
    rintro v_6 h_4 ⟨rfl, H_5⟩
    have H_5 := HH.tr H_5
    refine wp_if_eq 74 24 rfl rfl i_260_21 (fun c_7 => ?_) (fun c_7 => ?_)
    · rw [if_pos c_7] at hd
      refine wp_s 76 [some (.ref 382), some (.int x1), some (.int x2), some (.int x3), some (.int x4), none] [.int (-2 : Int32)] h_4 i_260_74 rfl ?_
      obtain rfl := Option.some.inj hd
      exact wp_iret i_260_76 ⟨rfl, H_5⟩
    · rw [if_neg c_7] at hd
      refine wp_s 25 [some (.ref 382), some (.int x1), some (.int x2), some (.int x3), some (.int x4), none] [.int x2] h_4 i_260_24 rfl ?_
      refine wp_s 26 [some (.ref 382), some (.int x1), some (.int x2), some (.int x3), some (.int x4), none] [.long (x2.toInt64)] h_4 i_260_25 rfl ?_
      refine wp_s 27 [some (.ref 382), some (.int x1), some (.int x2), some (.int x3), some (.int x4), none] [.long (0 : Int64), .long (x2.toInt64)] h_4 i_260_26 rfl ?_
      refine wp_s 30 [some (.ref 382), some (.int x1), some (.int x2), some (.int x3), some (.int x4), none] [.long (99 : Int64), .long (0 : Int64), .long (x2.toInt64)] h_4 i_260_27 rfl ?_
      obtain ⟨z_8, q_9, hd⟩ := dk_bind hd
      refine wp_callS 33 rfl i_260_30 (by decide) (vs := [.long (x2.toInt64), .long (0 : Int64), .long (99 : Int64)]) (rest := []) rfl rfl rfl (y := m_140) rfl (Nat.le_of_ble_eq_true rfl) (d_140_ok (d := e) (by omega) H_5.1 q_9) ?_
      rintro v_12 h_10 ⟨rfl, H_11⟩
      have H_11 := H_5.tr H_11
      refine wp_if_eq 74 36 rfl rfl i_260_33 (fun c_13 => ?_) (fun c_13 => ?_)
      · rw [if_pos c_13] at hd
        refine wp_s 76 [some (.ref 382), some (.int x1), some (.int x2), some (.int x3), some (.int x4), none] [.int (-2 : Int32)] h_10 i_260_74 rfl ?_
        obtain rfl := Option.some.inj hd
        exact wp_iret i_260_76 ⟨rfl, H_11⟩
      · rw [if_neg c_13] at hd
        refine wp_s 37 [some (.ref 382), some (.int x1), some (.int x2), some (.int x3), some (.int x4), none] [.int x3] h_10 i_260_36 rfl ?_
        refine wp_s 38 [some (.ref 382), some (.int x1), some (.int x2), some (.int x3), some (.int x4), none] [.long (x3.toInt64)] h_10 i_260_37 rfl ?_
        refine wp_s 39 [some (.ref 382), some (.int x1), some (.int x2), some (.int x3), some (.int x4), none] [.long (0 : Int64), .long (x3.toInt64)] h_10 i_260_38 rfl ?_
        refine wp_s 42 [some (.ref 382), some (.int x1), some (.int x2), some (.int x3), some (.int x4), none] [.long (99 : Int64), .long (0 : Int64), .long (x3.toInt64)] h_10 i_260_39 rfl ?_
        obtain ⟨z_14, q_15, hd⟩ := dk_bind hd
        refine wp_callS 45 rfl i_260_42 (by decide) (vs := [.long (x3.toInt64), .long (0 : Int64), .long (99 : Int64)]) (rest := []) rfl rfl rfl (y := m_140) rfl (Nat.le_of_ble_eq_true rfl) (d_140_ok (d := e) (by omega) H_11.1 q_15) ?_
        rintro v_18 h_16 ⟨rfl, H_17⟩
        have H_17 := H_11.tr H_17
        refine wp_if_eq 74 48 rfl rfl i_260_45 (fun c_19 => ?_) (fun c_19 => ?_)
        · rw [if_pos c_19] at hd
          refine wp_s 76 [some (.ref 382), some (.int x1), some (.int x2), some (.int x3), some (.int x4), none] [.int (-2 : Int32)] h_16 i_260_74 rfl ?_
          obtain rfl := Option.some.inj hd
          exact wp_iret i_260_76 ⟨rfl, H_17⟩
        · rw [if_neg c_19] at hd
          refine wp_s 50 [some (.ref 382), some (.int x1), some (.int x2), some (.int x3), some (.int x4), none] [.int x4] h_16 i_260_48 rfl ?_
          refine wp_s 51 [some (.ref 382), some (.int x1), some (.int x2), some (.int x3), some (.int x4), none] [.long (x4.toInt64)] h_16 i_260_50 rfl ?_
          refine wp_s 52 [some (.ref 382), some (.int x1), some (.int x2), some (.int x3), some (.int x4), none] [.long (1 : Int64), .long (x4.toInt64)] h_16 i_260_51 rfl ?_
          refine wp_s 55 [some (.ref 382), some (.int x1), some (.int x2), some (.int x3), some (.int x4), none] [.long (9999 : Int64), .long (1 : Int64), .long (x4.toInt64)] h_16 i_260_52 rfl ?_
          obtain ⟨z_20, q_21, hd⟩ := dk_bind hd
          refine wp_callS 58 rfl i_260_55 (by decide) (vs := [.long (x4.toInt64), .long (1 : Int64), .long (9999 : Int64)]) (rest := []) rfl rfl rfl (y := m_140) rfl (Nat.le_of_ble_eq_true rfl) (d_140_ok (d := e) (by omega) H_17.1 q_21) ?_
          rintro v_24 h_22 ⟨rfl, H_23⟩
          have H_23 := H_17.tr H_23
          refine wp_if_eq 74 61 rfl rfl i_260_58 (fun c_25 => ?_) (fun c_25 => ?_)
          · rw [if_pos c_25] at hd
            refine wp_s 76 [some (.ref 382), some (.int x1), some (.int x2), some (.int x3), some (.int x4), none] [.int (-2 : Int32)] h_22 i_260_74 rfl ?_
            obtain rfl := Option.some.inj hd
            exact wp_iret i_260_76 ⟨rfl, H_23⟩
          · rw [if_neg c_25] at hd
            refine wp_s 62 [some (.ref 382), some (.int x1), some (.int x2), some (.int x3), some (.int x4), none] [.ref 382] h_22 i_260_61 rfl ?_
            refine wp_get (v := .ref 392) 65 rfl i_260_62 (H_23.1 0 (by decide)) rfl ?_
            refine wp_s 68 [some (.ref 382), some (.int x1), some (.int x2), some (.int x3), some (.int x4), none] [.int (180 : Int32), .ref 392] h_22 i_260_65 rfl ?_
            obtain ⟨b_26, hd⟩ := dk_if hd
            refine wp_iald (f := (z_20.2.2.1 20)) 69 rfl i_260_68 (H_23.1 10 (by decide)) b_26 ?_
            refine wp_s 71 [some (.ref 382), some (.int x1), some (.int x2), some (.int x3), some (.int x4), none] [.int (10 : Int32), .int ((z_20.2.2.1 20) (180 : Int32).toNatClampNeg)] h_22 i_260_69 rfl ?_
            refine wp_cmp_ne 77 74 rfl rfl i_260_71 (fun c_27 => ?_) (fun c_27 => ?_)
            · rw [if_pos c_27] at hd
              refine wp_s 80 [some (.ref 382), some (.int x1), some (.int x2), some (.int x3), some (.int x4), none] [.int (140 : Int32)] h_22 i_260_77 rfl ?_
              refine wp_s 81 [some (.ref 382), some (.int x1), some (.int x2), some (.int x3), some (.int x4), none] [.int (4 : Int32), .int (140 : Int32)] h_22 i_260_80 rfl ?_
              refine wp_s 82 [some (.ref 382), some (.int x1), some (.int x2), some (.int x3), some (.int x4), none] [.ref 382, .int (4 : Int32), .int (140 : Int32)] h_22 i_260_81 rfl ?_
              refine wp_get (v := .ref 392) 85 rfl i_260_82 (H_23.1 0 (by decide)) rfl ?_
              refine wp_s 88 [some (.ref 382), some (.int x1), some (.int x2), some (.int x3), some (.int x4), none] [.int (180 : Int32), .ref 392, .int (4 : Int32), .int (140 : Int32)] h_22 i_260_85 rfl ?_
              obtain ⟨b_28, hd⟩ := dk_if hd
              refine wp_iald (f := (z_20.2.2.1 20)) 89 rfl i_260_88 (H_23.1 10 (by decide)) b_28 ?_
              refine wp_s 90 [some (.ref 382), some (.int x1), some (.int x2), some (.int x3), some (.int x4), none] [.int ((4 : Int32) * ((z_20.2.2.1 20) (180 : Int32).toNatClampNeg)), .int (140 : Int32)] h_22 i_260_89 rfl ?_
              refine wp_s 91 [some (.ref 382), some (.int x1), some (.int x2), some (.int x3), some (.int x4), none] [.int ((140 : Int32) + ((4 : Int32) * ((z_20.2.2.1 20) (180 : Int32).toNatClampNeg)))] h_22 i_260_90 rfl ?_
              refine wp_s 93 [some (.ref 382), some (.int x1), some (.int x2), some (.int x3), some (.int x4), some (.int ((140 : Int32) + ((4 : Int32) * ((z_20.2.2.1 20) (180 : Int32).toNatClampNeg))))] [] h_22 i_260_91 rfl ?_
              refine wp_s 94 [some (.ref 382), some (.int x1), some (.int x2), some (.int x3), some (.int x4), some (.int ((140 : Int32) + ((4 : Int32) * ((z_20.2.2.1 20) (180 : Int32).toNatClampNeg))))] [.ref 382] h_22 i_260_93 rfl ?_
              refine wp_get (v := .ref 392) 97 rfl i_260_94 (H_23.1 0 (by decide)) rfl ?_
              refine wp_s 99 [some (.ref 382), some (.int x1), some (.int x2), some (.int x3), some (.int x4), some (.int ((140 : Int32) + ((4 : Int32) * ((z_20.2.2.1 20) (180 : Int32).toNatClampNeg))))] [.int ((140 : Int32) + ((4 : Int32) * ((z_20.2.2.1 20) (180 : Int32).toNatClampNeg))), .ref 392] h_22 i_260_97 rfl ?_
              refine wp_s 100 [some (.ref 382), some (.int x1), some (.int x2), some (.int x3), some (.int x4), some (.int ((140 : Int32) + ((4 : Int32) * ((z_20.2.2.1 20) (180 : Int32).toNatClampNeg))))] [.int x1, .int ((140 : Int32) + ((4 : Int32) * ((z_20.2.2.1 20) (180 : Int32).toNatClampNeg))), .ref 392] h_22 i_260_99 rfl ?_
              obtain ⟨b_29, hd⟩ := dk_if hd
              refine rq_A20 101 rfl i_260_100 H_23 b_29 (fun h_30 H_31 => ?_)
              refine wp_s 102 [some (.ref 382), some (.int x1), some (.int x2), some (.int x3), some (.int x4), some (.int ((140 : Int32) + ((4 : Int32) * ((z_20.2.2.1 20) (180 : Int32).toNatClampNeg))))] [.ref 382] h_30 i_260_101 rfl ?_
              refine wp_get (v := .ref 392) 105 rfl i_260_102 (H_31.1 0 (by decide)) rfl ?_
              refine wp_s 107 [some (.ref 382), some (.int x1), some (.int x2), some (.int x3), some (.int x4), some (.int ((140 : Int32) + ((4 : Int32) * ((z_20.2.2.1 20) (180 : Int32).toNatClampNeg))))] [.int ((140 : Int32) + ((4 : Int32) * ((z_20.2.2.1 20) (180 : Int32).toNatClampNeg))), .ref 392] h_30 i_260_105 rfl ?_
              refine wp_s 108 [some (.ref 382), some (.int x1), some (.int x2), some (.int x3), some (.int x4), some (.int ((140 : Int32) + ((4 : Int32) * ((z_20.2.2.1 20) (180 : Int32).toNatClampNeg))))] [.int (1 : Int32), .int ((140 : Int32) + ((4 : Int32) * ((z_20.2.2.1 20) (180 : Int32).toNatClampNeg))), .ref 392] h_30 i_260_107 rfl ?_
              refine wp_s 109 [some (.ref 382), some (.int x1), some (.int x2), some (.int x3), some (.int x4), some (.int ((140 : Int32) + ((4 : Int32) * ((z_20.2.2.1 20) (180 : Int32).toNatClampNeg))))] [.int (((140 : Int32) + ((4 : Int32) * ((z_20.2.2.1 20) (180 : Int32).toNatClampNeg))) + (1 : Int32)), .ref 392] h_30 i_260_108 rfl ?_
              refine wp_s 110 [some (.ref 382), some (.int x1), some (.int x2), some (.int x3), some (.int x4), some (.int ((140 : Int32) + ((4 : Int32) * ((z_20.2.2.1 20) (180 : Int32).toNatClampNeg))))] [.int x2, .int (((140 : Int32) + ((4 : Int32) * ((z_20.2.2.1 20) (180 : Int32).toNatClampNeg))) + (1 : Int32)), .ref 392] h_30 i_260_109 rfl ?_
              obtain ⟨b_32, hd⟩ := dk_if hd
              refine rq_A20 111 rfl i_260_110 H_31 b_32 (fun h_33 H_34 => ?_)
              refine wp_s 112 [some (.ref 382), some (.int x1), some (.int x2), some (.int x3), some (.int x4), some (.int ((140 : Int32) + ((4 : Int32) * ((z_20.2.2.1 20) (180 : Int32).toNatClampNeg))))] [.ref 382] h_33 i_260_111 rfl ?_
              refine wp_get (v := .ref 392) 115 rfl i_260_112 (H_34.1 0 (by decide)) rfl ?_
              refine wp_s 117 [some (.ref 382), some (.int x1), some (.int x2), some (.int x3), some (.int x4), some (.int ((140 : Int32) + ((4 : Int32) * ((z_20.2.2.1 20) (180 : Int32).toNatClampNeg))))] [.int ((140 : Int32) + ((4 : Int32) * ((z_20.2.2.1 20) (180 : Int32).toNatClampNeg))), .ref 392] h_33 i_260_115 rfl ?_
              refine wp_s 118 [some (.ref 382), some (.int x1), some (.int x2), some (.int x3), some (.int x4), some (.int ((140 : Int32) + ((4 : Int32) * ((z_20.2.2.1 20) (180 : Int32).toNatClampNeg))))] [.int (2 : Int32), .int ((140 : Int32) + ((4 : Int32) * ((z_20.2.2.1 20) (180 : Int32).toNatClampNeg))), .ref 392] h_33 i_260_117 rfl ?_
              refine wp_s 119 [some (.ref 382), some (.int x1), some (.int x2), some (.int x3), some (.int x4), some (.int ((140 : Int32) + ((4 : Int32) * ((z_20.2.2.1 20) (180 : Int32).toNatClampNeg))))] [.int (((140 : Int32) + ((4 : Int32) * ((z_20.2.2.1 20) (180 : Int32).toNatClampNeg))) + (2 : Int32)), .ref 392] h_33 i_260_118 rfl ?_
              refine wp_s 120 [some (.ref 382), some (.int x1), some (.int x2), some (.int x3), some (.int x4), some (.int ((140 : Int32) + ((4 : Int32) * ((z_20.2.2.1 20) (180 : Int32).toNatClampNeg))))] [.int x3, .int (((140 : Int32) + ((4 : Int32) * ((z_20.2.2.1 20) (180 : Int32).toNatClampNeg))) + (2 : Int32)), .ref 392] h_33 i_260_119 rfl ?_
              obtain ⟨b_35, hd⟩ := dk_if hd
              refine rq_A20 121 rfl i_260_120 H_34 b_35 (fun h_36 H_37 => ?_)
              refine wp_s 122 [some (.ref 382), some (.int x1), some (.int x2), some (.int x3), some (.int x4), some (.int ((140 : Int32) + ((4 : Int32) * ((z_20.2.2.1 20) (180 : Int32).toNatClampNeg))))] [.ref 382] h_36 i_260_121 rfl ?_
              refine wp_get (v := .ref 392) 125 rfl i_260_122 (H_37.1 0 (by decide)) rfl ?_
              refine wp_s 127 [some (.ref 382), some (.int x1), some (.int x2), some (.int x3), some (.int x4), some (.int ((140 : Int32) + ((4 : Int32) * ((z_20.2.2.1 20) (180 : Int32).toNatClampNeg))))] [.int ((140 : Int32) + ((4 : Int32) * ((z_20.2.2.1 20) (180 : Int32).toNatClampNeg))), .ref 392] h_36 i_260_125 rfl ?_
              refine wp_s 128 [some (.ref 382), some (.int x1), some (.int x2), some (.int x3), some (.int x4), some (.int ((140 : Int32) + ((4 : Int32) * ((z_20.2.2.1 20) (180 : Int32).toNatClampNeg))))] [.int (3 : Int32), .int ((140 : Int32) + ((4 : Int32) * ((z_20.2.2.1 20) (180 : Int32).toNatClampNeg))), .ref 392] h_36 i_260_127 rfl ?_
              refine wp_s 129 [some (.ref 382), some (.int x1), some (.int x2), some (.int x3), some (.int x4), some (.int ((140 : Int32) + ((4 : Int32) * ((z_20.2.2.1 20) (180 : Int32).toNatClampNeg))))] [.int (((140 : Int32) + ((4 : Int32) * ((z_20.2.2.1 20) (180 : Int32).toNatClampNeg))) + (3 : Int32)), .ref 392] h_36 i_260_128 rfl ?_
              refine wp_s 131 [some (.ref 382), some (.int x1), some (.int x2), some (.int x3), some (.int x4), some (.int ((140 : Int32) + ((4 : Int32) * ((z_20.2.2.1 20) (180 : Int32).toNatClampNeg))))] [.int x4, .int (((140 : Int32) + ((4 : Int32) * ((z_20.2.2.1 20) (180 : Int32).toNatClampNeg))) + (3 : Int32)), .ref 392] h_36 i_260_129 rfl ?_
              obtain ⟨b_38, hd⟩ := dk_if hd
              refine rq_A20 132 rfl i_260_131 H_37 b_38 (fun h_39 H_40 => ?_)
              refine wp_s 133 [some (.ref 382), some (.int x1), some (.int x2), some (.int x3), some (.int x4), some (.int ((140 : Int32) + ((4 : Int32) * ((z_20.2.2.1 20) (180 : Int32).toNatClampNeg))))] [.ref 382] h_39 i_260_132 rfl ?_
              refine wp_get (v := .ref 392) 136 rfl i_260_133 (H_40.1 0 (by decide)) rfl ?_
              refine wp_s 139 [some (.ref 382), some (.int x1), some (.int x2), some (.int x3), some (.int x4), some (.int ((140 : Int32) + ((4 : Int32) * ((z_20.2.2.1 20) (180 : Int32).toNatClampNeg))))] [.int (180 : Int32), .ref 392] h_39 i_260_136 rfl ?_
              refine wp_s 140 [some (.ref 382), some (.int x1), some (.int x2), some (.int x3), some (.int x4), some (.int ((140 : Int32) + ((4 : Int32) * ((z_20.2.2.1 20) (180 : Int32).toNatClampNeg))))] [.int (180 : Int32), .ref 392, .int (180 : Int32), .ref 392] h_39 i_260_139 rfl ?_
              obtain ⟨b_41, hd⟩ := dk_if hd
              refine wp_iald (f := (upd (upd (upd (upd (z_20.2.2.1 20) ((140 : Int32) + ((4 : Int32) * ((z_20.2.2.1 20) (180 : Int32).toNatClampNeg))).toNatClampNeg x1) (((140 : Int32) + ((4 : Int32) * ((z_20.2.2.1 20) (180 : Int32).toNatClampNeg))) + (1 : Int32)).toNatClampNeg x2) (((140 : Int32) + ((4 : Int32) * ((z_20.2.2.1 20) (180 : Int32).toNatClampNeg))) + (2 : Int32)).toNatClampNeg x3) (((140 : Int32) + ((4 : Int32) * ((z_20.2.2.1 20) (180 : Int32).toNatClampNeg))) + (3 : Int32)).toNatClampNeg x4)) 141 rfl i_260_140 (H_40.1 10 (by decide)) b_41 ?_
              refine wp_s 142 [some (.ref 382), some (.int x1), some (.int x2), some (.int x3), some (.int x4), some (.int ((140 : Int32) + ((4 : Int32) * ((z_20.2.2.1 20) (180 : Int32).toNatClampNeg))))] [.int (1 : Int32), .int ((upd (upd (upd (upd (z_20.2.2.1 20) ((140 : Int32) + ((4 : Int32) * ((z_20.2.2.1 20) (180 : Int32).toNatClampNeg))).toNatClampNeg x1) (((140 : Int32) + ((4 : Int32) * ((z_20.2.2.1 20) (180 : Int32).toNatClampNeg))) + (1 : Int32)).toNatClampNeg x2) (((140 : Int32) + ((4 : Int32) * ((z_20.2.2.1 20) (180 : Int32).toNatClampNeg))) + (2 : Int32)).toNatClampNeg x3) (((140 : Int32) + ((4 : Int32) * ((z_20.2.2.1 20) (180 : Int32).toNatClampNeg))) + (3 : Int32)).toNatClampNeg x4) (180 : Int32).toNatClampNeg), .int (180 : Int32), .ref 392] h_39 i_260_141 rfl ?_
              refine wp_s 143 [some (.ref 382), some (.int x1), some (.int x2), some (.int x3), some (.int x4), some (.int ((140 : Int32) + ((4 : Int32) * ((z_20.2.2.1 20) (180 : Int32).toNatClampNeg))))] [.int (((upd (upd (upd (upd (z_20.2.2.1 20) ((140 : Int32) + ((4 : Int32) * ((z_20.2.2.1 20) (180 : Int32).toNatClampNeg))).toNatClampNeg x1) (((140 : Int32) + ((4 : Int32) * ((z_20.2.2.1 20) (180 : Int32).toNatClampNeg))) + (1 : Int32)).toNatClampNeg x2) (((140 : Int32) + ((4 : Int32) * ((z_20.2.2.1 20) (180 : Int32).toNatClampNeg))) + (2 : Int32)).toNatClampNeg x3) (((140 : Int32) + ((4 : Int32) * ((z_20.2.2.1 20) (180 : Int32).toNatClampNeg))) + (3 : Int32)).toNatClampNeg x4) (180 : Int32).toNatClampNeg) + (1 : Int32)), .int (180 : Int32), .ref 392] h_39 i_260_142 rfl ?_
              obtain ⟨b_42, hd⟩ := dk_if hd
              refine rq_A20 144 rfl i_260_143 H_40 b_42 (fun h_43 H_44 => ?_)
              refine wp_s 145 [some (.ref 382), some (.int x1), some (.int x2), some (.int x3), some (.int x4), some (.int ((140 : Int32) + ((4 : Int32) * ((z_20.2.2.1 20) (180 : Int32).toNatClampNeg))))] [.ref 382] h_43 i_260_144 rfl ?_
              refine wp_get (v := .ref 392) 148 rfl i_260_145 (H_44.1 0 (by decide)) rfl ?_
              refine wp_s 151 [some (.ref 382), some (.int x1), some (.int x2), some (.int x3), some (.int x4), some (.int ((140 : Int32) + ((4 : Int32) * ((z_20.2.2.1 20) (180 : Int32).toNatClampNeg))))] [.int (180 : Int32), .ref 392] h_43 i_260_148 rfl ?_
              obtain ⟨b_45, hd⟩ := dk_if hd
              refine wp_iald (f := (upd (upd (upd (upd (upd (z_20.2.2.1 20) ((140 : Int32) + ((4 : Int32) * ((z_20.2.2.1 20) (180 : Int32).toNatClampNeg))).toNatClampNeg x1) (((140 : Int32) + ((4 : Int32) * ((z_20.2.2.1 20) (180 : Int32).toNatClampNeg))) + (1 : Int32)).toNatClampNeg x2) (((140 : Int32) + ((4 : Int32) * ((z_20.2.2.1 20) (180 : Int32).toNatClampNeg))) + (2 : Int32)).toNatClampNeg x3) (((140 : Int32) + ((4 : Int32) * ((z_20.2.2.1 20) (180 : Int32).toNatClampNeg))) + (3 : Int32)).toNatClampNeg x4) (180 : Int32).toNatClampNeg (((upd (upd (upd (upd (z_20.2.2.1 20) ((140 : Int32) + ((4 : Int32) * ((z_20.2.2.1 20) (180 : Int32).toNatClampNeg))).toNatClampNeg x1) (((140 : Int32) + ((4 : Int32) * ((z_20.2.2.1 20) (180 : Int32).toNatClampNeg))) + (1 : Int32)).toNatClampNeg x2) (((140 : Int32) + ((4 : Int32) * ((z_20.2.2.1 20) (180 : Int32).toNatClampNeg))) + (2 : Int32)).toNatClampNeg x3) (((140 : Int32) + ((4 : Int32) * ((z_20.2.2.1 20) (180 : Int32).toNatClampNeg))) + (3 : Int32)).toNatClampNeg x4) (180 : Int32).toNatClampNeg) + (1 : Int32)))) 152 rfl i_260_151 (H_44.1 10 (by decide)) b_45 ?_
              obtain rfl := Option.some.inj hd
              exact wp_iret i_260_152 ⟨rfl, H_44⟩
            · rw [if_neg c_27] at hd
              refine wp_s 76 [some (.ref 382), some (.int x1), some (.int x2), some (.int x3), some (.int x4), none] [.int (-2 : Int32)] h_22 i_260_74 rfl ?_
              obtain rfl := Option.some.inj hd
              exact wp_iret i_260_76 ⟨rfl, H_23⟩
  · rw [if_neg c_1] at hd
    refine wp_s 6 [some (.ref 382), some (.int x1), some (.int x2), some (.int x3), some (.int x4), none] [.ref 382] h0 i_260_5 rfl ?_
    refine wp_get (v := .ref 392) 9 rfl i_260_6 (HH.1 0 (by decide)) rfl ?_
    refine wp_s 12 [some (.ref 382), some (.int x1), some (.int x2), some (.int x3), some (.int x4), none] [.int (180 : Int32), .ref 392] h0 i_260_9 rfl ?_
    refine wp_s 13 [some (.ref 382), some (.int x1), some (.int x2), some (.int x3), some (.int x4), none] [.int (0 : Int32), .int (180 : Int32), .ref 392] h0 i_260_12 rfl ?_
    obtain ⟨b_46, hd⟩ := dk_if hd
    refine rq_A20 14 rfl i_260_13 HH b_46 (fun h_47 H_48 => ?_)
    refine wp_s 15 [some (.ref 382), some (.int x1), some (.int x2), some (.int x3), some (.int x4), none] [.int (0 : Int32)] h_47 i_260_14 rfl ?_
    obtain rfl := Option.some.inj hd
    exact wp_iret i_260_15 ⟨rfl, H_48⟩
def l_261 (g n tag : Nat) (x1 : Int32) (x2 : Int32) (S : rS) : Option (Int32 × rS) := match n with
  | 0 => none
  | n + 1 => if tag = 0 then (if aIn (180 : Int32) 181 = true then (if ((S.2.1 20) (180 : Int32).toNatClampNeg) ≤ x2 then some ((1 : Int32), S) else (if aIn ((140 : Int32) + ((4 : Int32) * x2)) 181 = true then (if aIn (((140 : Int32) + ((4 : Int32) * x2)) + (1 : Int32)) 181 = true then (if aIn (((140 : Int32) + ((4 : Int32) * x2)) + (2 : Int32)) 181 = true then ((d_198 g x1 ((S.2.1 20) ((140 : Int32) + ((4 : Int32) * x2)).toNatClampNeg) ((S.2.1 20) (((140 : Int32) + ((4 : Int32) * x2)) + (1 : Int32)).toNatClampNeg) ((S.2.1 20) (((140 : Int32) + ((4 : Int32) * x2)) + (2 : Int32)).toNatClampNeg) S).bind (fun z_6 => (if aIn (((140 : Int32) + ((4 : Int32) * x2)) + (3 : Int32)) 181 = true then (if z_6.1 = ((z_6.2.2.1 20) (((140 : Int32) + ((4 : Int32) * x2)) + (3 : Int32)).toNatClampNeg) then (l_261 g n 0 x1 (x2 + (1 : Int32)) z_6.2) else some ((0 : Int32), z_6.2)) else none))) else none) else none) else none)) else none) else none
set_option maxHeartbeats 4000000 in
set_option maxRecDepth 100000 in
theorem l_261_ok {X : aX} {g d : Nat} (hdp : 4 ≤ d) : ∀ n, (∀ (x1 : Int32) (x2 : Int32) (S : rS) (h0 : aH) (zz : Int32 × rS), rm h0 S → l_261 g n 0 x1 x2 S = some zz → aWp X d 261 2 [some (.ref 382), some (.int x1), some (.int x2), none] [] h0 (fun w h' => w = some (.int zz.1) ∧ rTo h0 zz.2 h')) := by
  intro n
  induction n with
  | zero => exact fun _ _ _ _ _ _ hd => by simp [l_261] at hd
  | succ n ih =>
    intro x1 x2 S h0 zz HS hd
    unfold l_261 at hd
    rw [if_pos rfl] at hd
    have HH := rTo.rf HS
    obtain ⟨e, rfl⟩ : ∃ e, d = e + 1 := ⟨d - 1, by omega⟩
    refine wp_s 3 [some (.ref 382), some (.int x1), some (.int x2), none] [.int x2] h0 i_261_2 rfl ?_
    refine wp_s 4 [some (.ref 382), some (.int x1), some (.int x2), none] [.ref 382, .int x2] h0 i_261_3 rfl ?_
    refine wp_get (v := .ref 392) 7 rfl i_261_4 (HH.1 0 (by decide)) rfl ?_
    refine wp_s 10 [some (.ref 382), some (.int x1), some (.int x2), none] [.int (180 : Int32), .ref 392, .int x2] h0 i_261_7 rfl ?_
    obtain ⟨b_1, hd⟩ := dk_if hd
    refine wp_iald (f := (S.2.1 20)) 11 rfl i_261_10 (HH.1 10 (by decide)) b_1 ?_
    refine wp_cmp_ge 68 14 rfl rfl i_261_11 (fun c_2 => ?_) (fun c_2 => ?_)
    · rw [if_pos c_2] at hd
      refine wp_s 69 [some (.ref 382), some (.int x1), some (.int x2), none] [.int (1 : Int32)] h0 i_261_68 rfl ?_
      obtain rfl := Option.some.inj hd
      exact wp_iretZ (z := 0) i_261_69 (by decide) ⟨rfl, HH⟩
    · rw [if_neg c_2] at hd
      refine wp_s 17 [some (.ref 382), some (.int x1), some (.int x2), none] [.int (140 : Int32)] h0 i_261_14 rfl ?_
      refine wp_s 18 [some (.ref 382), some (.int x1), some (.int x2), none] [.int (4 : Int32), .int (140 : Int32)] h0 i_261_17 rfl ?_
      refine wp_s 19 [some (.ref 382), some (.int x1), some (.int x2), none] [.int x2, .int (4 : Int32), .int (140 : Int32)] h0 i_261_18 rfl ?_
      refine wp_s 20 [some (.ref 382), some (.int x1), some (.int x2), none] [.int ((4 : Int32) * x2), .int (140 : Int32)] h0 i_261_19 rfl ?_
      refine wp_s 21 [some (.ref 382), some (.int x1), some (.int x2), none] [.int ((140 : Int32) + ((4 : Int32) * x2))] h0 i_261_20 rfl ?_
      refine wp_s 22 [some (.ref 382), some (.int x1), some (.int x2), some (.int ((140 : Int32) + ((4 : Int32) * x2)))] [] h0 i_261_21 rfl ?_
      refine wp_s 23 [some (.ref 382), some (.int x1), some (.int x2), some (.int ((140 : Int32) + ((4 : Int32) * x2)))] [.ref 382] h0 i_261_22 rfl ?_
      refine wp_s 24 [some (.ref 382), some (.int x1), some (.int x2), some (.int ((140 : Int32) + ((4 : Int32) * x2)))] [.int x1, .ref 382] h0 i_261_23 rfl ?_
      refine wp_s 25 [some (.ref 382), some (.int x1), some (.int x2), some (.int ((140 : Int32) + ((4 : Int32) * x2)))] [.ref 382, .int x1, .ref 382] h0 i_261_24 rfl ?_
      refine wp_get (v := .ref 392) 28 rfl i_261_25 (HH.1 0 (by decide)) rfl ?_
      refine wp_s 29 [some (.ref 382), some (.int x1), some (.int x2), some (.int ((140 : Int32) + ((4 : Int32) * x2)))] [.int ((140 : Int32) + ((4 : Int32) * x2)), .ref 392, .int x1, .ref 382] h0 i_261_28 rfl ?_
      obtain ⟨b_3, hd⟩ := dk_if hd
      refine wp_iald (f := (S.2.1 20)) 30 rfl i_261_29 (HH.1 10 (by decide)) b_3 ?_
      refine wp_s 31 [some (.ref 382), some (.int x1), some (.int x2), some (.int ((140 : Int32) + ((4 : Int32) * x2)))] [.ref 382, .int ((S.2.1 20) ((140 : Int32) + ((4 : Int32) * x2)).toNatClampNeg), .int x1, .ref 382] h0 i_261_30 rfl ?_
      refine wp_get (v := .ref 392) 34 rfl i_261_31 (HH.1 0 (by decide)) rfl ?_
      refine wp_s 35 [some (.ref 382), some (.int x1), some (.int x2), some (.int ((140 : Int32) + ((4 : Int32) * x2)))] [.int ((140 : Int32) + ((4 : Int32) * x2)), .ref 392, .int ((S.2.1 20) ((140 : Int32) + ((4 : Int32) * x2)).toNatClampNeg), .int x1, .ref 382] h0 i_261_34 rfl ?_
      refine wp_s 36 [some (.ref 382), some (.int x1), some (.int x2), some (.int ((140 : Int32) + ((4 : Int32) * x2)))] [.int (1 : Int32), .int ((140 : Int32) + ((4 : Int32) * x2)), .ref 392, .int ((S.2.1 20) ((140 : Int32) + ((4 : Int32) * x2)).toNatClampNeg), .int x1, .ref 382] h0 i_261_35 rfl ?_
      refine wp_s 37 [some (.ref 382), some (.int x1), some (.int x2), some (.int ((140 : Int32) + ((4 : Int32) * x2)))] [.int (((140 : Int32) + ((4 : Int32) * x2)) + (1 : Int32)), .ref 392, .int ((S.2.1 20) ((140 : Int32) + ((4 : Int32) * x2)).toNatClampNeg), .int x1, .ref 382] h0 i_261_36 rfl ?_
      obtain ⟨b_4, hd⟩ := dk_if hd
      refine wp_iald (f := (S.2.1 20)) 38 rfl i_261_37 (HH.1 10 (by decide)) b_4 ?_
      refine wp_s 39 [some (.ref 382), some (.int x1), some (.int x2), some (.int ((140 : Int32) + ((4 : Int32) * x2)))] [.ref 382, .int ((S.2.1 20) (((140 : Int32) + ((4 : Int32) * x2)) + (1 : Int32)).toNatClampNeg), .int ((S.2.1 20) ((140 : Int32) + ((4 : Int32) * x2)).toNatClampNeg), .int x1, .ref 382] h0 i_261_38 rfl ?_
      refine wp_get (v := .ref 392) 42 rfl i_261_39 (HH.1 0 (by decide)) rfl ?_
      refine wp_s 43 [some (.ref 382), some (.int x1), some (.int x2), some (.int ((140 : Int32) + ((4 : Int32) * x2)))] [.int ((140 : Int32) + ((4 : Int32) * x2)), .ref 392, .int ((S.2.1 20) (((140 : Int32) + ((4 : Int32) * x2)) + (1 : Int32)).toNatClampNeg), .int ((S.2.1 20) ((140 : Int32) + ((4 : Int32) * x2)).toNatClampNeg), .int x1, .ref 382] h0 i_261_42 rfl ?_
      refine wp_s 44 [some (.ref 382), some (.int x1), some (.int x2), some (.int ((140 : Int32) + ((4 : Int32) * x2)))] [.int (2 : Int32), .int ((140 : Int32) + ((4 : Int32) * x2)), .ref 392, .int ((S.2.1 20) (((140 : Int32) + ((4 : Int32) * x2)) + (1 : Int32)).toNatClampNeg), .int ((S.2.1 20) ((140 : Int32) + ((4 : Int32) * x2)).toNatClampNeg), .int x1, .ref 382] h0 i_261_43 rfl ?_
      refine wp_s 45 [some (.ref 382), some (.int x1), some (.int x2), some (.int ((140 : Int32) + ((4 : Int32) * x2)))] [.int (((140 : Int32) + ((4 : Int32) * x2)) + (2 : Int32)), .ref 392, .int ((S.2.1 20) (((140 : Int32) + ((4 : Int32) * x2)) + (1 : Int32)).toNatClampNeg), .int ((S.2.1 20) ((140 : Int32) + ((4 : Int32) * x2)).toNatClampNeg), .int x1, .ref 382] h0 i_261_44 rfl ?_
      obtain ⟨b_5, hd⟩ := dk_if hd
      refine wp_iald (f := (S.2.1 20)) 46 rfl i_261_45 (HH.1 10 (by decide)) b_5 ?_
      obtain ⟨z_6, q_7, hd⟩ := dk_bind hd
      refine wp_callV 49 rfl i_261_46 (by decide) rfl (vs := [.int x1, .int ((S.2.1 20) ((140 : Int32) + ((4 : Int32) * x2)).toNatClampNeg), .int ((S.2.1 20) (((140 : Int32) + ((4 : Int32) * x2)) + (1 : Int32)).toNatClampNeg), .int ((S.2.1 20) (((140 : Int32) + ((4 : Int32) * x2)) + (2 : Int32)).toNatClampNeg)]) (rest := []) rfl rfl rfl (HH.1 0 (by decide)) (y := m_198) rfl (Nat.le_of_ble_eq_true rfl) (d_198_ok (d := e) (by omega) HH.1 q_7) ?_
      rintro v_10 h_8 ⟨rfl, H_9⟩
      have H_9 := HH.tr H_9
      refine wp_s 50 [some (.ref 382), some (.int x1), some (.int x2), some (.int ((140 : Int32) + ((4 : Int32) * x2)))] [.ref 382, .int z_6.1] h_8 i_261_49 rfl ?_
      refine wp_get (v := .ref 392) 53 rfl i_261_50 (H_9.1 0 (by decide)) rfl ?_
      refine wp_s 54 [some (.ref 382), some (.int x1), some (.int x2), some (.int ((140 : Int32) + ((4 : Int32) * x2)))] [.int ((140 : Int32) + ((4 : Int32) * x2)), .ref 392, .int z_6.1] h_8 i_261_53 rfl ?_
      refine wp_s 55 [some (.ref 382), some (.int x1), some (.int x2), some (.int ((140 : Int32) + ((4 : Int32) * x2)))] [.int (3 : Int32), .int ((140 : Int32) + ((4 : Int32) * x2)), .ref 392, .int z_6.1] h_8 i_261_54 rfl ?_
      refine wp_s 56 [some (.ref 382), some (.int x1), some (.int x2), some (.int ((140 : Int32) + ((4 : Int32) * x2)))] [.int (((140 : Int32) + ((4 : Int32) * x2)) + (3 : Int32)), .ref 392, .int z_6.1] h_8 i_261_55 rfl ?_
      obtain ⟨b_11, hd⟩ := dk_if hd
      refine wp_iald (f := (z_6.2.2.1 20)) 57 rfl i_261_56 (H_9.1 10 (by decide)) b_11 ?_
      refine wp_cmp_eq 62 60 rfl rfl i_261_57 (fun c_12 => ?_) (fun c_12 => ?_)
      · rw [if_pos c_12] at hd
        refine wp_s 65 [some (.ref 382), some (.int x1), some (.int (x2 + (1 : Int32))), some (.int ((140 : Int32) + ((4 : Int32) * x2)))] [] h_8 i_261_62 rfl ?_
        refine wp_s 2 [some (.ref 382), some (.int x1), some (.int (x2 + (1 : Int32))), some (.int ((140 : Int32) + ((4 : Int32) * x2)))] [] h_8 i_261_65 rfl ?_
        exact aWp.post (aWp.forget (ih _ _ _ _ _ H_9.1 hd) ((lvS (lvS (lvS (lvN lvE)))))) (fun _ _ hq => ⟨hq.1, H_9.tr hq.2⟩)
      · rw [if_neg c_12] at hd
        refine wp_s 61 [some (.ref 382), some (.int x1), some (.int x2), some (.int ((140 : Int32) + ((4 : Int32) * x2)))] [.int (0 : Int32)] h_8 i_261_60 rfl ?_
        obtain rfl := Option.some.inj hd
        exact wp_iretZ (z := 0) i_261_61 (by decide) ⟨rfl, H_9⟩
def d_261 (g : Nat) (x1 : Int32) (S : rS) : Option (Int32 × rS) := (l_261 g g 0 x1 (0 : Int32) S)
set_option maxHeartbeats 4000000 in
set_option maxRecDepth 100000 in
theorem d_261_ok {X : aX} {g d : Nat} {x1 : Int32} {S : rS} {h0 : aH} {zz : Int32 × rS} (hdp : 4 ≤ d) (HS : rm h0 S) (hd : d_261 g x1 S = some zz) : aWp X d 261 0 (aEntL [.ref 382, .int x1] 4) [] h0 (fun w h' => w = some (.int zz.1) ∧ rTo h0 zz.2 h') := by
  unfold d_261 at hd
  have HH := rTo.rf HS
  refine wp_lv (l2 := [some (.ref 382), some (.int x1), none, none]) rfl ?_
  obtain ⟨e, rfl⟩ : ∃ e, d = e + 1 := ⟨d - 1, by omega⟩
  refine wp_s 1 [some (.ref 382), some (.int x1), none, none] [.int (0 : Int32)] h0 i_261_0 rfl ?_
  refine wp_s 2 [some (.ref 382), some (.int x1), some (.int (0 : Int32)), none] [] h0 i_261_1 rfl ?_
  exact aWp.post (aWp.forget ((l_261_ok hdp g) _ _ _ _ _ HH.1 hd) ((lvS (lvS (lvS (lvN lvE)))))) (fun _ _ hq => ⟨hq.1, HH.tr hq.2⟩)
def l_262 (g n tag : Nat) (x1 : Int32) (x2 : Int32) (x3 : Int32) (x4 : Int32) (S : rS) : Option (Int32 × rS) := match n with
  | 0 => none
  | n + 1 => if tag = 0 then (if x4 < (-1 : Int32) then (if ¬ x1 = 0 then some (x3, S) else some (x2, S)) else ((d_261 g x4 S).bind (fun z_3 => (if ¬ z_3.1 = 0 then (l_262 g n 1 x1 (x2 + (1 : Int32)) x4 x4 z_3.2) else (l_262 g n 1 x1 x2 x3 x4 z_3.2))))) else if tag = 1 then (l_262 g n 0 x1 x2 x3 (x4 + (-1 : Int32)) S) else none
set_option maxHeartbeats 4000000 in
set_option maxRecDepth 100000 in
theorem l_262_ok {X : aX} {g d : Nat} (hdp : 5 ≤ d) : ∀ n, (∀ (x1 : Int32) (x2 : Int32) (x3 : Int32) (x4 : Int32) (S : rS) (h0 : aH) (zz : Int32 × rS), rm h0 S → l_262 g n 0 x1 x2 x3 x4 S = some zz → aWp X d 262 33 [some (.ref 382), some (.int x1), some (.int x2), some (.int x3), some (.int x4)] [] h0 (fun w h' => w = some (.int zz.1) ∧ rTo h0 zz.2 h')) ∧ (∀ (x1 : Int32) (x2 : Int32) (x3 : Int32) (x4 : Int32) (S : rS) (h0 : aH) (zz : Int32 × rS), rm h0 S → l_262 g n 1 x1 x2 x3 x4 S = some zz → aWp X d 262 57 [some (.ref 382), some (.int x1), some (.int x2), some (.int x3), some (.int x4)] [] h0 (fun w h' => w = some (.int zz.1) ∧ rTo h0 zz.2 h')) := by
  intro n
  induction n with
  | zero => exact ⟨fun _ _ _ _ _ _ _ _ hd => by simp [l_262] at hd, fun _ _ _ _ _ _ _ _ hd => by simp [l_262] at hd⟩
  | succ n ih =>
    refine ⟨?_, ?_⟩
    · intro x1 x2 x3 x4 S h0 zz HS hd
      unfold l_262 at hd
      rw [if_pos rfl] at hd
      have HH := rTo.rf HS
      obtain ⟨e, rfl⟩ : ∃ e, d = e + 1 := ⟨d - 1, by omega⟩
      refine wp_s 35 [some (.ref 382), some (.int x1), some (.int x2), some (.int x3), some (.int x4)] [.int x4] h0 i_262_33 rfl ?_
      refine wp_s 36 [some (.ref 382), some (.int x1), some (.int x2), some (.int x3), some (.int x4)] [.int (-1 : Int32), .int x4] h0 i_262_35 rfl ?_
      refine wp_cmp_lt 63 39 rfl rfl i_262_36 (fun c_1 => ?_) (fun c_1 => ?_)
      · rw [if_pos c_1] at hd
        refine wp_s 64 [some (.ref 382), some (.int x1), some (.int x2), some (.int x3), some (.int x4)] [.int x1] h0 i_262_63 rfl ?_
        refine wp_if_ne 71 67 rfl rfl i_262_64 (fun c_2 => ?_) (fun c_2 => ?_)
        · rw [if_pos c_2] at hd
          refine wp_s 72 [some (.ref 382), some (.int x1), some (.int x2), some (.int x3), some (.int x4)] [.int x3] h0 i_262_71 rfl ?_
          obtain rfl := Option.some.inj hd
          exact wp_iret i_262_72 ⟨rfl, HH⟩
        · rw [if_neg c_2] at hd
          refine wp_s 68 [some (.ref 382), some (.int x1), some (.int x2), some (.int x3), some (.int x4)] [.int x2] h0 i_262_67 rfl ?_
          refine wp_s 72 [some (.ref 382), some (.int x1), some (.int x2), some (.int x3), some (.int x4)] [.int x2] h0 i_262_68 rfl ?_
          obtain rfl := Option.some.inj hd
          exact wp_iret i_262_72 ⟨rfl, HH⟩
      · rw [if_neg c_1] at hd
        refine wp_s 40 [some (.ref 382), some (.int x1), some (.int x2), some (.int x3), some (.int x4)] [.ref 382] h0 i_262_39 rfl ?_
        refine wp_s 42 [some (.ref 382), some (.int x1), some (.int x2), some (.int x3), some (.int x4)] [.int x4, .ref 382] h0 i_262_40 rfl ?_
        obtain ⟨z_3, q_4, hd⟩ := dk_bind hd
        refine wp_callV 45 rfl i_262_42 (by decide) rfl (vs := [.int x4]) (rest := []) rfl rfl rfl (HH.1 0 (by decide)) (y := m_261) rfl (Nat.le_of_ble_eq_true rfl) (d_261_ok (d := e) (by omega) HH.1 q_4) ?_
        rintro v_7 h_5 ⟨rfl, H_6⟩
        have H_6 := HH.tr H_6
        refine wp_if_ne 51 48 rfl rfl i_262_45 (fun c_8 => ?_) (fun c_8 => ?_)
        · rw [if_pos c_8] at hd
          refine wp_s 53 [some (.ref 382), some (.int x1), some (.int x2), some (.int x3), some (.int x4)] [.int x4] h_5 i_262_51 rfl ?_
          refine wp_s 54 [some (.ref 382), some (.int x1), some (.int x2), some (.int x4), some (.int x4)] [] h_5 i_262_53 rfl ?_
          refine wp_s 57 [some (.ref 382), some (.int x1), some (.int (x2 + (1 : Int32))), some (.int x4), some (.int x4)] [] h_5 i_262_54 rfl ?_
          exact aWp.post (aWp.forget (ih.2 _ _ _ _ _ _ _ H_6.1 hd) ((lvS (lvS (lvS (lvS (lvS lvE))))))) (fun _ _ hq => ⟨hq.1, H_6.tr hq.2⟩)
        · rw [if_neg c_8] at hd
          refine wp_s 57 [some (.ref 382), some (.int x1), some (.int x2), some (.int x3), some (.int x4)] [] h_5 i_262_48 rfl ?_
          exact aWp.post (aWp.forget (ih.2 _ _ _ _ _ _ _ H_6.1 hd) ((lvS (lvS (lvS (lvS (lvS lvE))))))) (fun _ _ hq => ⟨hq.1, H_6.tr hq.2⟩)
    · intro x1 x2 x3 x4 S h0 zz HS hd
      unfold l_262 at hd
      rw [if_neg (by decide), if_pos rfl] at hd
      have HH := rTo.rf HS
      obtain ⟨e, rfl⟩ : ∃ e, d = e + 1 := ⟨d - 1, by omega⟩
      refine wp_s 60 [some (.ref 382), some (.int x1), some (.int x2), some (.int x3), some (.int (x4 + (-1 : Int32)))] [] h0 i_262_57 rfl ?_
      refine wp_s 33 [some (.ref 382), some (.int x1), some (.int x2), some (.int x3), some (.int (x4 + (-1 : Int32)))] [] h0 i_262_60 rfl ?_
      exact aWp.post (aWp.forget (ih.1 _ _ _ _ _ _ _ HH.1 hd) ((lvS (lvS (lvS (lvS (lvS lvE))))))) (fun _ _ hq => ⟨hq.1, HH.tr hq.2⟩)
def d_262 (g : Nat) (x1 : Int32) (S : rS) : Option (Int32 × rS) := ((d_187 g  S).bind (fun z_1001 => (if z_1001.1 = 0 then some ((-3 : Int32), z_1001.2) else ((d_140 g (x1.toInt64) (0 : Int64) (1 : Int64) z_1001.2).bind (fun z_1007 => (if ¬ z_1007.1 = 0 then (l_262 g g 0 x1 (0 : Int32) (-2 : Int32) ((z_1007.2.1 2) - (1 : Int32)) z_1007.2) else some ((-3 : Int32), z_1007.2)))))))
set_option maxHeartbeats 4000000 in
set_option maxRecDepth 100000 in
theorem d_262_ok {X : aX} {g d : Nat} {x1 : Int32} {S : rS} {h0 : aH} {zz : Int32 × rS} (hdp : 5 ≤ d) (HS : rm h0 S) (hd : d_262 g x1 S = some zz) : aWp X d 262 0 (aEntL [.ref 382, .int x1] 5) [] h0 (fun w h' => w = some (.int zz.1) ∧ rTo h0 zz.2 h') := by
  unfold d_262 at hd
  have HH := rTo.rf HS
  refine wp_lv (l2 := [some (.ref 382), some (.int x1), none, none, none]) rfl ?_
  obtain ⟨e, rfl⟩ : ∃ e, d = e + 1 := ⟨d - 1, by omega⟩
  refine wp_s 1 [some (.ref 382), some (.int x1), none, none, none] [.ref 382] h0 i_262_0 rfl ?_
  obtain ⟨z_1001, q_1002, hd⟩ := dk_bind hd
  refine wp_callV 4 rfl i_262_1 (by decide) rfl (vs := []) (rest := []) rfl rfl rfl (HH.1 0 (by decide)) (y := m_187) rfl (Nat.le_of_ble_eq_true rfl) (d_187_ok (d := e) (by omega) HH.1 q_1002) ?_
  rintro v_1005 h_1003 ⟨rfl, H_1004⟩
  have H_1004 := HH.tr H_1004
  refine wp_if_eq 17 7 rfl rfl i_262_4 (fun c_1006 => ?_) (fun c_1006 => ?_)
  · rw [if_pos c_1006] at hd
    refine wp_s 19 [some (.ref 382), some (.int x1), none, none, none] [.int (-3 : Int32)] h_1003 i_262_17 rfl ?_
    obtain rfl := Option.some.inj hd
    exact wp_iret i_262_19 ⟨rfl, H_1004⟩
  · rw [if_neg c_1006] at hd
    refine wp_s 8 [some (.ref 382), some (.int x1), none, none, none] [.int x1] h_1003 i_262_7 rfl ?_
    refine wp_s 9 [some (.ref 382), some (.int x1), none, none, none] [.long (x1.toInt64)] h_1003 i_262_8 rfl ?_
    refine wp_s 10 [some (.ref 382), some (.int x1), none, none, none] [.long (0 : Int64), .long (x1.toInt64)] h_1003 i_262_9 rfl ?_
    refine wp_s 11 [some (.ref 382), some (.int x1), none, none, none] [.long (1 : Int64), .long (0 : Int64), .long (x1.toInt64)] h_1003 i_262_10 rfl ?_
    obtain ⟨z_1007, q_1008, hd⟩ := dk_bind hd
    refine wp_callS 14 rfl i_262_11 (by decide) (vs := [.long (x1.toInt64), .long (0 : Int64), .long (1 : Int64)]) (rest := []) rfl rfl rfl (y := m_140) rfl (Nat.le_of_ble_eq_true rfl) (d_140_ok (d := e) (by omega) H_1004.1 q_1008) ?_
    rintro v_1011 h_1009 ⟨rfl, H_1010⟩
    have H_1010 := H_1004.tr H_1010
    refine wp_if_ne 20 17 rfl rfl i_262_14 (fun c_1012 => ?_) (fun c_1012 => ?_)
    · rw [if_pos c_1012] at hd
      refine wp_s 21 [some (.ref 382), some (.int x1), none, none, none] [.int (0 : Int32)] h_1009 i_262_20 rfl ?_
      refine wp_s 22 [some (.ref 382), some (.int x1), some (.int (0 : Int32)), none, none] [] h_1009 i_262_21 rfl ?_
      refine wp_s 24 [some (.ref 382), some (.int x1), some (.int (0 : Int32)), none, none] [.int (-2 : Int32)] h_1009 i_262_22 rfl ?_
      refine wp_s 25 [some (.ref 382), some (.int x1), some (.int (0 : Int32)), some (.int (-2 : Int32)), none] [] h_1009 i_262_24 rfl ?_
      refine wp_s 26 [some (.ref 382), some (.int x1), some (.int (0 : Int32)), some (.int (-2 : Int32)), none] [.ref 382] h_1009 i_262_25 rfl ?_
      refine wp_get (v := .int (z_1007.2.1 2)) 29 rfl i_262_26 (H_1010.1 0 (by decide)) rfl ?_
      refine wp_s 30 [some (.ref 382), some (.int x1), some (.int (0 : Int32)), some (.int (-2 : Int32)), none] [.int (1 : Int32), .int (z_1007.2.1 2)] h_1009 i_262_29 rfl ?_
      refine wp_s 31 [some (.ref 382), some (.int x1), some (.int (0 : Int32)), some (.int (-2 : Int32)), none] [.int ((z_1007.2.1 2) - (1 : Int32))] h_1009 i_262_30 rfl ?_
      refine wp_s 33 [some (.ref 382), some (.int x1), some (.int (0 : Int32)), some (.int (-2 : Int32)), some (.int ((z_1007.2.1 2) - (1 : Int32)))] [] h_1009 i_262_31 rfl ?_
      exact aWp.post (aWp.forget ((l_262_ok hdp g).1 _ _ _ _ _ _ _ H_1010.1 hd) ((lvS (lvS (lvS (lvS (lvS lvE))))))) (fun _ _ hq => ⟨hq.1, H_1010.tr hq.2⟩)
    · rw [if_neg c_1012] at hd
      refine wp_s 19 [some (.ref 382), some (.int x1), none, none, none] [.int (-3 : Int32)] h_1009 i_262_17 rfl ?_
      obtain rfl := Option.some.inj hd
      exact wp_iret i_262_19 ⟨rfl, H_1010⟩
def l_263 (g n tag : Nat) (x1 : Int32) (x2 : Int32) (x3 : Int32) (x4 : Int32) (x5 : Int32) (s0 : Int32) (s1 : Int32) (x6 : Int32) (x7 : Int32) (S : rS) : Option (Int32 × rS) := match n with
  | 0 => none
  | n + 1 => if tag = 0 then (if (S.1 2) < x5 then (l_263 g n 2 x1 x2 x3 x4 (0 : Int32) 0 0 0 0 S) else ((d_261 g (x5 - (1 : Int32)) S).bind (fun z_2 => (if z_2.1 = 0 then (l_263 g n 1 x1 x2 x3 x4 x5 (0 : Int32) x5 0 0 z_2.2) else ((d_198 g (x5 - (1 : Int32)) x1 x2 x3 z_2.2).bind (fun z_8 => (l_263 g n 1 x1 x2 x3 x4 x5 z_8.1 x5 0 0 z_8.2))))))) else if tag = 1 then (if aIn s1 7 = true then (l_263 g n 0 x1 x2 x3 x4 (x5 + (1 : Int32)) 0 0 0 0 (rA S 39 (upd (S.2.1 39) s1.toNatClampNeg s0))) else none) else if tag = 2 then (if (S.1 2) < x5 then some (x4, S) else (l_263 g n 3 x1 x2 x3 x4 x5 0 0 (0 : Int32) (0 : Int32) S)) else if tag = 3 then (if (S.1 2) < x7 then (if x6 ≤ x4 then (l_263 g n 6 x1 x2 x3 x4 x5 x4 0 x6 x7 S) else (l_263 g n 6 x1 x2 x3 x4 x5 x6 0 x6 x7 S)) else (if aIn x5 7 = true then (if ((S.2.1 39) x5.toNatClampNeg) ≤ 0 then (l_263 g n 4 x1 x2 x3 x4 x5 x6 0 x6 x7 S) else (if aIn x5 7 = true then (if aIn x7 7 = true then (if ¬ ((S.2.1 39) x5.toNatClampNeg) = ((S.2.1 39) x7.toNatClampNeg) then (l_263 g n 4 x1 x2 x3 x4 x5 x6 0 x6 x7 S) else (l_263 g n 5 x1 x2 x3 x4 x5 (1 : Int32) x6 x6 x7 S)) else none) else none)) else none)) else if tag = 4 then (l_263 g n 5 x1 x2 x3 x4 x5 (0 : Int32) s0 x6 x7 S) else if tag = 5 then (l_263 g n 3 x1 x2 x3 x4 x5 0 0 (s1 + s0) (x7 + (1 : Int32)) S) else if tag = 6 then (l_263 g n 2 x1 x2 x3 s0 (x5 + (1 : Int32)) 0 0 0 0 S) else none
set_option maxHeartbeats 4000000 in
set_option maxRecDepth 100000 in
theorem l_263_ok {X : aX} {g d : Nat} (hdp : 5 ≤ d) : ∀ n, (∀ (x1 : Int32) (x2 : Int32) (x3 : Int32) (x4 : Int32) (x5 : Int32) (s0 : Int32) (s1 : Int32) (x6 : Int32) (x7 : Int32) (S : rS) (h0 : aH) (zz : Int32 × rS), rm h0 S → l_263 g n 0 x1 x2 x3 x4 x5 s0 s1 x6 x7 S = some zz → aWp X d 263 6 [some (.ref 382), some (.int x1), some (.int x2), some (.int x3), some (.int x4), some (.int x5), none, none] [] h0 (fun w h' => w = some (.int zz.1) ∧ rTo h0 zz.2 h')) ∧ (∀ (x1 : Int32) (x2 : Int32) (x3 : Int32) (x4 : Int32) (x5 : Int32) (s0 : Int32) (s1 : Int32) (x6 : Int32) (x7 : Int32) (S : rS) (h0 : aH) (zz : Int32 × rS), rm h0 S → l_263 g n 1 x1 x2 x3 x4 x5 s0 s1 x6 x7 S = some zz → aWp X d 263 47 [some (.ref 382), some (.int x1), some (.int x2), some (.int x3), some (.int x4), some (.int x5), none, none] [.int s0, .int s1, .ref 401] h0 (fun w h' => w = some (.int zz.1) ∧ rTo h0 zz.2 h')) ∧ (∀ (x1 : Int32) (x2 : Int32) (x3 : Int32) (x4 : Int32) (x5 : Int32) (s0 : Int32) (s1 : Int32) (x6 : Int32) (x7 : Int32) (S : rS) (h0 : aH) (zz : Int32 × rS), rm h0 S → l_263 g n 2 x1 x2 x3 x4 x5 s0 s1 x6 x7 S = some zz → aWp X d 263 57 [some (.ref 382), some (.int x1), some (.int x2), some (.int x3), some (.int x4), some (.int x5), none, none] [] h0 (fun w h' => w = some (.int zz.1) ∧ rTo h0 zz.2 h')) ∧ (∀ (x1 : Int32) (x2 : Int32) (x3 : Int32) (x4 : Int32) (x5 : Int32) (s0 : Int32) (s1 : Int32) (x6 : Int32) (x7 : Int32) (S : rS) (h0 : aH) (zz : Int32 × rS), rm h0 S → l_263 g n 3 x1 x2 x3 x4 x5 s0 s1 x6 x7 S = some zz → aWp X d 263 72 [some (.ref 382), some (.int x1), some (.int x2), some (.int x3), some (.int x4), some (.int x5), some (.int x6), some (.int x7)] [] h0 (fun w h' => w = some (.int zz.1) ∧ rTo h0 zz.2 h')) ∧ (∀ (x1 : Int32) (x2 : Int32) (x3 : Int32) (x4 : Int32) (x5 : Int32) (s0 : Int32) (s1 : Int32) (x6 : Int32) (x7 : Int32) (S : rS) (h0 : aH) (zz : Int32 × rS), rm h0 S → l_263 g n 4 x1 x2 x3 x4 x5 s0 s1 x6 x7 S = some zz → aWp X d 263 114 [some (.ref 382), some (.int x1), some (.int x2), some (.int x3), some (.int x4), some (.int x5), some (.int x6), some (.int x7)] [.int s0] h0 (fun w h' => w = some (.int zz.1) ∧ rTo h0 zz.2 h')) ∧ (∀ (x1 : Int32) (x2 : Int32) (x3 : Int32) (x4 : Int32) (x5 : Int32) (s0 : Int32) (s1 : Int32) (x6 : Int32) (x7 : Int32) (S : rS) (h0 : aH) (zz : Int32 × rS), rm h0 S → l_263 g n 5 x1 x2 x3 x4 x5 s0 s1 x6 x7 S = some zz → aWp X d 263 115 [some (.ref 382), some (.int x1), some (.int x2), some (.int x3), some (.int x4), some (.int x5), some (.int x6), some (.int x7)] [.int s0, .int s1] h0 (fun w h' => w = some (.int zz.1) ∧ rTo h0 zz.2 h')) ∧ (∀ (x1 : Int32) (x2 : Int32) (x3 : Int32) (x4 : Int32) (x5 : Int32) (s0 : Int32) (s1 : Int32) (x6 : Int32) (x7 : Int32) (S : rS) (h0 : aH) (zz : Int32 × rS), rm h0 S → l_263 g n 6 x1 x2 x3 x4 x5 s0 s1 x6 x7 S = some zz → aWp X d 263 138 [some (.ref 382), some (.int x1), some (.int x2), some (.int x3), some (.int x4), some (.int x5), some (.int x6), some (.int x7)] [.int s0] h0 (fun w h' => w = some (.int zz.1) ∧ rTo h0 zz.2 h')) := by
  intro n
  induction n with
  | zero => exact ⟨fun _ _ _ _ _ _ _ _ _ _ _ _ _ hd => by simp [l_263] at hd, fun _ _ _ _ _ _ _ _ _ _ _ _ _ hd => by simp [l_263] at hd, fun _ _ _ _ _ _ _ _ _ _ _ _ _ hd => by simp [l_263] at hd, fun _ _ _ _ _ _ _ _ _ _ _ _ _ hd => by simp [l_263] at hd, fun _ _ _ _ _ _ _ _ _ _ _ _ _ hd => by simp [l_263] at hd, fun _ _ _ _ _ _ _ _ _ _ _ _ _ hd => by simp [l_263] at hd, fun _ _ _ _ _ _ _ _ _ _ _ _ _ hd => by simp [l_263] at hd⟩
  | succ n ih =>
    refine ⟨?_, ?_, ?_, ?_, ?_, ?_, ?_⟩
    · intro x1 x2 x3 x4 x5 s0 s1 x6 x7 S h0 zz HS hd
      unfold l_263 at hd
      rw [if_pos rfl] at hd
      have HH := rTo.rf HS
      obtain ⟨e, rfl⟩ : ∃ e, d = e + 1 := ⟨d - 1, by omega⟩
      refine wp_s 8 [some (.ref 382), some (.int x1), some (.int x2), some (.int x3), some (.int x4), some (.int x5), none, none] [.int x5] h0 i_263_6 rfl ?_
      refine wp_s 9 [some (.ref 382), some (.int x1), some (.int x2), some (.int x3), some (.int x4), some (.int x5), none, none] [.ref 382, .int x5] h0 i_263_8 rfl ?_
      refine wp_get (v := .int (S.1 2)) 12 rfl i_263_9 (HH.1 0 (by decide)) rfl ?_
      refine wp_cmp_gt 54 15 rfl rfl i_263_12 (fun c_1 => ?_) (fun c_1 => ?_)
      · rw [if_pos c_1] at hd
        refine wp_s 55 [some (.ref 382), some (.int x1), some (.int x2), some (.int x3), some (.int x4), some (.int x5), none, none] [.int (0 : Int32)] h0 i_263_54 rfl ?_
        refine wp_s 57 [some (.ref 382), some (.int x1), some (.int x2), some (.int x3), some (.int x4), some (.int (0 : Int32)), none, none] [] h0 i_263_55 rfl ?_
        exact aWp.post (aWp.forget (ih.2.2.1 _ _ _ _ _ _ _ _ _ _ _ _ HH.1 hd) ((lvS (lvS (lvS (lvS (lvS (lvS (lvN (lvN lvE)))))))))) (fun _ _ hq => ⟨hq.1, HH.tr hq.2⟩)
      · rw [if_neg c_1] at hd
        refine wp_s 16 [some (.ref 382), some (.int x1), some (.int x2), some (.int x3), some (.int x4), some (.int x5), none, none] [.ref 382] h0 i_263_15 rfl ?_
        refine wp_get (v := .ref 401) 19 rfl i_263_16 (HH.1 0 (by decide)) rfl ?_
        refine wp_s 21 [some (.ref 382), some (.int x1), some (.int x2), some (.int x3), some (.int x4), some (.int x5), none, none] [.int x5, .ref 401] h0 i_263_19 rfl ?_
        refine wp_s 22 [some (.ref 382), some (.int x1), some (.int x2), some (.int x3), some (.int x4), some (.int x5), none, none] [.ref 382, .int x5, .ref 401] h0 i_263_21 rfl ?_
        refine wp_s 24 [some (.ref 382), some (.int x1), some (.int x2), some (.int x3), some (.int x4), some (.int x5), none, none] [.int x5, .ref 382, .int x5, .ref 401] h0 i_263_22 rfl ?_
        refine wp_s 25 [some (.ref 382), some (.int x1), some (.int x2), some (.int x3), some (.int x4), some (.int x5), none, none] [.int (1 : Int32), .int x5, .ref 382, .int x5, .ref 401] h0 i_263_24 rfl ?_
        refine wp_s 26 [some (.ref 382), some (.int x1), some (.int x2), some (.int x3), some (.int x4), some (.int x5), none, none] [.int (x5 - (1 : Int32)), .ref 382, .int x5, .ref 401] h0 i_263_25 rfl ?_
        obtain ⟨z_2, q_3, hd⟩ := dk_bind hd
        refine wp_callV 29 rfl i_263_26 (by decide) rfl (vs := [.int (x5 - (1 : Int32))]) (rest := [.int x5, .ref 401]) rfl rfl rfl (HH.1 0 (by decide)) (y := m_261) rfl (Nat.le_of_ble_eq_true rfl) (d_261_ok (d := e) (by omega) HH.1 q_3) ?_
        rintro v_6 h_4 ⟨rfl, H_5⟩
        have H_5 := HH.tr H_5
        refine wp_if_eq 46 32 rfl rfl i_263_29 (fun c_7 => ?_) (fun c_7 => ?_)
        · rw [if_pos c_7] at hd
          refine wp_s 47 [some (.ref 382), some (.int x1), some (.int x2), some (.int x3), some (.int x4), some (.int x5), none, none] [.int (0 : Int32), .int x5, .ref 401] h_4 i_263_46 rfl ?_
          exact aWp.post (aWp.forget (ih.2.1 _ _ _ _ _ _ _ _ _ _ _ _ H_5.1 hd) ((lvS (lvS (lvS (lvS (lvS (lvS (lvN (lvN lvE)))))))))) (fun _ _ hq => ⟨hq.1, H_5.tr hq.2⟩)
        · rw [if_neg c_7] at hd
          refine wp_s 33 [some (.ref 382), some (.int x1), some (.int x2), some (.int x3), some (.int x4), some (.int x5), none, none] [.ref 382, .int x5, .ref 401] h_4 i_263_32 rfl ?_
          refine wp_s 35 [some (.ref 382), some (.int x1), some (.int x2), some (.int x3), some (.int x4), some (.int x5), none, none] [.int x5, .ref 382, .int x5, .ref 401] h_4 i_263_33 rfl ?_
          refine wp_s 36 [some (.ref 382), some (.int x1), some (.int x2), some (.int x3), some (.int x4), some (.int x5), none, none] [.int (1 : Int32), .int x5, .ref 382, .int x5, .ref 401] h_4 i_263_35 rfl ?_
          refine wp_s 37 [some (.ref 382), some (.int x1), some (.int x2), some (.int x3), some (.int x4), some (.int x5), none, none] [.int (x5 - (1 : Int32)), .ref 382, .int x5, .ref 401] h_4 i_263_36 rfl ?_
          refine wp_s 38 [some (.ref 382), some (.int x1), some (.int x2), some (.int x3), some (.int x4), some (.int x5), none, none] [.int x1, .int (x5 - (1 : Int32)), .ref 382, .int x5, .ref 401] h_4 i_263_37 rfl ?_
          refine wp_s 39 [some (.ref 382), some (.int x1), some (.int x2), some (.int x3), some (.int x4), some (.int x5), none, none] [.int x2, .int x1, .int (x5 - (1 : Int32)), .ref 382, .int x5, .ref 401] h_4 i_263_38 rfl ?_
          refine wp_s 40 [some (.ref 382), some (.int x1), some (.int x2), some (.int x3), some (.int x4), some (.int x5), none, none] [.int x3, .int x2, .int x1, .int (x5 - (1 : Int32)), .ref 382, .int x5, .ref 401] h_4 i_263_39 rfl ?_
          obtain ⟨z_8, q_9, hd⟩ := dk_bind hd
          refine wp_callV 43 rfl i_263_40 (by decide) rfl (vs := [.int (x5 - (1 : Int32)), .int x1, .int x2, .int x3]) (rest := [.int x5, .ref 401]) rfl rfl rfl (H_5.1 0 (by decide)) (y := m_198) rfl (Nat.le_of_ble_eq_true rfl) (d_198_ok (d := e) (by omega) H_5.1 q_9) ?_
          rintro v_12 h_10 ⟨rfl, H_11⟩
          have H_11 := H_5.tr H_11
          refine wp_s 47 [some (.ref 382), some (.int x1), some (.int x2), some (.int x3), some (.int x4), some (.int x5), none, none] [.int z_8.1, .int x5, .ref 401] h_10 i_263_43 rfl ?_
          exact aWp.post (aWp.forget (ih.2.1 _ _ _ _ _ _ _ _ _ _ _ _ H_11.1 hd) ((lvS (lvS (lvS (lvS (lvS (lvS (lvN (lvN lvE)))))))))) (fun _ _ hq => ⟨hq.1, H_11.tr hq.2⟩)
    · intro x1 x2 x3 x4 x5 s0 s1 x6 x7 S h0 zz HS hd
      unfold l_263 at hd
      rw [if_neg (by decide), if_pos rfl] at hd
      have HH := rTo.rf HS
      obtain ⟨e, rfl⟩ : ∃ e, d = e + 1 := ⟨d - 1, by omega⟩
      obtain ⟨b_13, hd⟩ := dk_if hd
      refine rq_A39 48 rfl i_263_47 HH b_13 (fun h_14 H_15 => ?_)
      refine wp_s 51 [some (.ref 382), some (.int x1), some (.int x2), some (.int x3), some (.int x4), some (.int (x5 + (1 : Int32))), none, none] [] h_14 i_263_48 rfl ?_
      refine wp_s 6 [some (.ref 382), some (.int x1), some (.int x2), some (.int x3), some (.int x4), some (.int (x5 + (1 : Int32))), none, none] [] h_14 i_263_51 rfl ?_
      exact aWp.post (aWp.forget (ih.1 _ _ _ _ _ _ _ _ _ _ _ _ H_15.1 hd) ((lvS (lvS (lvS (lvS (lvS (lvS (lvN (lvN lvE)))))))))) (fun _ _ hq => ⟨hq.1, H_15.tr hq.2⟩)
    · intro x1 x2 x3 x4 x5 s0 s1 x6 x7 S h0 zz HS hd
      unfold l_263 at hd
      rw [if_neg (by decide), if_neg (by decide), if_pos rfl] at hd
      have HH := rTo.rf HS
      obtain ⟨e, rfl⟩ : ∃ e, d = e + 1 := ⟨d - 1, by omega⟩
      refine wp_s 59 [some (.ref 382), some (.int x1), some (.int x2), some (.int x3), some (.int x4), some (.int x5), none, none] [.int x5] h0 i_263_57 rfl ?_
      refine wp_s 60 [some (.ref 382), some (.int x1), some (.int x2), some (.int x3), some (.int x4), some (.int x5), none, none] [.ref 382, .int x5] h0 i_263_59 rfl ?_
      refine wp_get (v := .int (S.1 2)) 63 rfl i_263_60 (HH.1 0 (by decide)) rfl ?_
      refine wp_cmp_gt 146 66 rfl rfl i_263_63 (fun c_16 => ?_) (fun c_16 => ?_)
      · rw [if_pos c_16] at hd
        refine wp_s 148 [some (.ref 382), some (.int x1), some (.int x2), some (.int x3), some (.int x4), some (.int x5), none, none] [.int x4] h0 i_263_146 rfl ?_
        obtain rfl := Option.some.inj hd
        exact wp_iret i_263_148 ⟨rfl, HH⟩
      · rw [if_neg c_16] at hd
        refine wp_s 67 [some (.ref 382), some (.int x1), some (.int x2), some (.int x3), some (.int x4), some (.int x5), none, none] [.int (0 : Int32)] h0 i_263_66 rfl ?_
        refine wp_s 69 [some (.ref 382), some (.int x1), some (.int x2), some (.int x3), some (.int x4), some (.int x5), some (.int (0 : Int32)), none] [] h0 i_263_67 rfl ?_
        refine wp_s 70 [some (.ref 382), some (.int x1), some (.int x2), some (.int x3), some (.int x4), some (.int x5), some (.int (0 : Int32)), none] [.int (0 : Int32)] h0 i_263_69 rfl ?_
        refine wp_s 72 [some (.ref 382), some (.int x1), some (.int x2), some (.int x3), some (.int x4), some (.int x5), some (.int (0 : Int32)), some (.int (0 : Int32))] [] h0 i_263_70 rfl ?_
        exact aWp.post (aWp.forget (ih.2.2.2.1 _ _ _ _ _ _ _ _ _ _ _ _ HH.1 hd) ((lvS (lvS (lvS (lvS (lvS (lvS (lvS (lvS lvE)))))))))) (fun _ _ hq => ⟨hq.1, HH.tr hq.2⟩)
    · intro x1 x2 x3 x4 x5 s0 s1 x6 x7 S h0 zz HS hd
      unfold l_263 at hd
      rw [if_neg (by decide), if_neg (by decide), if_neg (by decide), if_pos rfl] at hd
      have HH := rTo.rf HS
      obtain ⟨e, rfl⟩ : ∃ e, d = e + 1 := ⟨d - 1, by omega⟩
      refine wp_s 74 [some (.ref 382), some (.int x1), some (.int x2), some (.int x3), some (.int x4), some (.int x5), some (.int x6), some (.int x7)] [.int x7] h0 i_263_72 rfl ?_
      refine wp_s 75 [some (.ref 382), some (.int x1), some (.int x2), some (.int x3), some (.int x4), some (.int x5), some (.int x6), some (.int x7)] [.ref 382, .int x7] h0 i_263_74 rfl ?_
      refine wp_get (v := .int (S.1 2)) 78 rfl i_263_75 (HH.1 0 (by decide)) rfl ?_
      refine wp_cmp_gt 124 81 rfl rfl i_263_78 (fun c_17 => ?_) (fun c_17 => ?_)
      · rw [if_pos c_17] at hd
        refine wp_s 126 [some (.ref 382), some (.int x1), some (.int x2), some (.int x3), some (.int x4), some (.int x5), some (.int x6), some (.int x7)] [.int x6] h0 i_263_124 rfl ?_
        refine wp_s 128 [some (.ref 382), some (.int x1), some (.int x2), some (.int x3), some (.int x4), some (.int x5), some (.int x6), some (.int x7)] [.int x4, .int x6] h0 i_263_126 rfl ?_
        refine wp_cmp_le 136 131 rfl rfl i_263_128 (fun c_18 => ?_) (fun c_18 => ?_)
        · rw [if_pos c_18] at hd
          refine wp_s 138 [some (.ref 382), some (.int x1), some (.int x2), some (.int x3), some (.int x4), some (.int x5), some (.int x6), some (.int x7)] [.int x4] h0 i_263_136 rfl ?_
          exact aWp.post (aWp.forget (ih.2.2.2.2.2.2 _ _ _ _ _ _ _ _ _ _ _ _ HH.1 hd) ((lvS (lvS (lvS (lvS (lvS (lvS (lvS (lvS lvE)))))))))) (fun _ _ hq => ⟨hq.1, HH.tr hq.2⟩)
        · rw [if_neg c_18] at hd
          refine wp_s 133 [some (.ref 382), some (.int x1), some (.int x2), some (.int x3), some (.int x4), some (.int x5), some (.int x6), some (.int x7)] [.int x6] h0 i_263_131 rfl ?_
          refine wp_s 138 [some (.ref 382), some (.int x1), some (.int x2), some (.int x3), some (.int x4), some (.int x5), some (.int x6), some (.int x7)] [.int x6] h0 i_263_133 rfl ?_
          exact aWp.post (aWp.forget (ih.2.2.2.2.2.2 _ _ _ _ _ _ _ _ _ _ _ _ HH.1 hd) ((lvS (lvS (lvS (lvS (lvS (lvS (lvS (lvS lvE)))))))))) (fun _ _ hq => ⟨hq.1, HH.tr hq.2⟩)
      · rw [if_neg c_17] at hd
        refine wp_s 83 [some (.ref 382), some (.int x1), some (.int x2), some (.int x3), some (.int x4), some (.int x5), some (.int x6), some (.int x7)] [.int x6] h0 i_263_81 rfl ?_
        refine wp_s 84 [some (.ref 382), some (.int x1), some (.int x2), some (.int x3), some (.int x4), some (.int x5), some (.int x6), some (.int x7)] [.ref 382, .int x6] h0 i_263_83 rfl ?_
        refine wp_get (v := .ref 401) 87 rfl i_263_84 (HH.1 0 (by decide)) rfl ?_
        refine wp_s 89 [some (.ref 382), some (.int x1), some (.int x2), some (.int x3), some (.int x4), some (.int x5), some (.int x6), some (.int x7)] [.int x5, .ref 401, .int x6] h0 i_263_87 rfl ?_
        obtain ⟨b_19, hd⟩ := dk_if hd
        refine wp_iald (f := (S.2.1 39)) 90 rfl i_263_89 (HH.1 19 (by decide)) b_19 ?_
        refine wp_if_le 114 93 rfl rfl i_263_90 (fun c_20 => ?_) (fun c_20 => ?_)
        · rw [if_pos c_20] at hd
          exact aWp.post (aWp.forget (ih.2.2.2.2.1 _ _ _ _ _ _ _ _ _ _ _ _ HH.1 hd) ((lvS (lvS (lvS (lvS (lvS (lvS (lvS (lvS lvE)))))))))) (fun _ _ hq => ⟨hq.1, HH.tr hq.2⟩)
        · rw [if_neg c_20] at hd
          refine wp_s 94 [some (.ref 382), some (.int x1), some (.int x2), some (.int x3), some (.int x4), some (.int x5), some (.int x6), some (.int x7)] [.ref 382, .int x6] h0 i_263_93 rfl ?_
          refine wp_get (v := .ref 401) 97 rfl i_263_94 (HH.1 0 (by decide)) rfl ?_
          refine wp_s 99 [some (.ref 382), some (.int x1), some (.int x2), some (.int x3), some (.int x4), some (.int x5), some (.int x6), some (.int x7)] [.int x5, .ref 401, .int x6] h0 i_263_97 rfl ?_
          obtain ⟨b_21, hd⟩ := dk_if hd
          refine wp_iald (f := (S.2.1 39)) 100 rfl i_263_99 (HH.1 19 (by decide)) b_21 ?_
          refine wp_s 101 [some (.ref 382), some (.int x1), some (.int x2), some (.int x3), some (.int x4), some (.int x5), some (.int x6), some (.int x7)] [.ref 382, .int ((S.2.1 39) x5.toNatClampNeg), .int x6] h0 i_263_100 rfl ?_
          refine wp_get (v := .ref 401) 104 rfl i_263_101 (HH.1 0 (by decide)) rfl ?_
          refine wp_s 106 [some (.ref 382), some (.int x1), some (.int x2), some (.int x3), some (.int x4), some (.int x5), some (.int x6), some (.int x7)] [.int x7, .ref 401, .int ((S.2.1 39) x5.toNatClampNeg), .int x6] h0 i_263_104 rfl ?_
          obtain ⟨b_22, hd⟩ := dk_if hd
          refine wp_iald (f := (S.2.1 39)) 107 rfl i_263_106 (HH.1 19 (by decide)) b_22 ?_
          refine wp_cmp_ne 114 110 rfl rfl i_263_107 (fun c_23 => ?_) (fun c_23 => ?_)
          · rw [if_pos c_23] at hd
            exact aWp.post (aWp.forget (ih.2.2.2.2.1 _ _ _ _ _ _ _ _ _ _ _ _ HH.1 hd) ((lvS (lvS (lvS (lvS (lvS (lvS (lvS (lvS lvE)))))))))) (fun _ _ hq => ⟨hq.1, HH.tr hq.2⟩)
          · rw [if_neg c_23] at hd
            refine wp_s 111 [some (.ref 382), some (.int x1), some (.int x2), some (.int x3), some (.int x4), some (.int x5), some (.int x6), some (.int x7)] [.int (1 : Int32), .int x6] h0 i_263_110 rfl ?_
            refine wp_s 115 [some (.ref 382), some (.int x1), some (.int x2), some (.int x3), some (.int x4), some (.int x5), some (.int x6), some (.int x7)] [.int (1 : Int32), .int x6] h0 i_263_111 rfl ?_
            exact aWp.post (aWp.forget (ih.2.2.2.2.2.1 _ _ _ _ _ _ _ _ _ _ _ _ HH.1 hd) ((lvS (lvS (lvS (lvS (lvS (lvS (lvS (lvS lvE)))))))))) (fun _ _ hq => ⟨hq.1, HH.tr hq.2⟩)
    · intro x1 x2 x3 x4 x5 s0 s1 x6 x7 S h0 zz HS hd
      unfold l_263 at hd
      rw [if_neg (by decide), if_neg (by decide), if_neg (by decide), if_neg (by decide), if_pos rfl] at hd
      have HH := rTo.rf HS
      obtain ⟨e, rfl⟩ : ∃ e, d = e + 1 := ⟨d - 1, by omega⟩
      refine wp_s 115 [some (.ref 382), some (.int x1), some (.int x2), some (.int x3), some (.int x4), some (.int x5), some (.int x6), some (.int x7)] [.int (0 : Int32), .int s0] h0 i_263_114 rfl ?_
      exact aWp.post (aWp.forget (ih.2.2.2.2.2.1 _ _ _ _ _ _ _ _ _ _ _ _ HH.1 hd) ((lvS (lvS (lvS (lvS (lvS (lvS (lvS (lvS lvE)))))))))) (fun _ _ hq => ⟨hq.1, HH.tr hq.2⟩)
    · intro x1 x2 x3 x4 x5 s0 s1 x6 x7 S h0 zz HS hd
      unfold l_263 at hd
      rw [if_neg (by decide), if_neg (by decide), if_neg (by decide), if_neg (by decide), if_neg (by decide), if_pos rfl] at hd
      have HH := rTo.rf HS
      obtain ⟨e, rfl⟩ : ∃ e, d = e + 1 := ⟨d - 1, by omega⟩
      refine wp_s 116 [some (.ref 382), some (.int x1), some (.int x2), some (.int x3), some (.int x4), some (.int x5), some (.int x6), some (.int x7)] [.int (s1 + s0)] h0 i_263_115 rfl ?_
      refine wp_s 118 [some (.ref 382), some (.int x1), some (.int x2), some (.int x3), some (.int x4), some (.int x5), some (.int (s1 + s0)), some (.int x7)] [] h0 i_263_116 rfl ?_
      refine wp_s 121 [some (.ref 382), some (.int x1), some (.int x2), some (.int x3), some (.int x4), some (.int x5), some (.int (s1 + s0)), some (.int (x7 + (1 : Int32)))] [] h0 i_263_118 rfl ?_
      refine wp_s 72 [some (.ref 382), some (.int x1), some (.int x2), some (.int x3), some (.int x4), some (.int x5), some (.int (s1 + s0)), some (.int (x7 + (1 : Int32)))] [] h0 i_263_121 rfl ?_
      exact aWp.post (aWp.forget (ih.2.2.2.1 _ _ _ _ _ _ _ _ _ _ _ _ HH.1 hd) ((lvS (lvS (lvS (lvS (lvS (lvS (lvS (lvS lvE)))))))))) (fun _ _ hq => ⟨hq.1, HH.tr hq.2⟩)
    · intro x1 x2 x3 x4 x5 s0 s1 x6 x7 S h0 zz HS hd
      unfold l_263 at hd
      rw [if_neg (by decide), if_neg (by decide), if_neg (by decide), if_neg (by decide), if_neg (by decide), if_neg (by decide), if_pos rfl] at hd
      have HH := rTo.rf HS
      obtain ⟨e, rfl⟩ : ∃ e, d = e + 1 := ⟨d - 1, by omega⟩
      refine wp_s 140 [some (.ref 382), some (.int x1), some (.int x2), some (.int x3), some (.int s0), some (.int x5), some (.int x6), some (.int x7)] [] h0 i_263_138 rfl ?_
      refine wp_s 143 [some (.ref 382), some (.int x1), some (.int x2), some (.int x3), some (.int s0), some (.int (x5 + (1 : Int32))), some (.int x6), some (.int x7)] [] h0 i_263_140 rfl ?_
      refine wp_s 57 [some (.ref 382), some (.int x1), some (.int x2), some (.int x3), some (.int s0), some (.int (x5 + (1 : Int32))), some (.int x6), some (.int x7)] [] h0 i_263_143 rfl ?_
      exact aWp.post (aWp.forget (ih.2.2.1 _ _ _ _ _ _ _ _ _ _ _ _ HH.1 hd) ((lvS (lvS (lvS (lvS (lvS (lvS (lvN (lvN lvE)))))))))) (fun _ _ hq => ⟨hq.1, HH.tr hq.2⟩)
def d_263 (g : Nat) (x1 : Int32) (x2 : Int32) (x3 : Int32) (S : rS) : Option (Int32 × rS) := (l_263 g g 0 x1 x2 x3 (0 : Int32) (0 : Int32) 0 0 0 0 S)
set_option maxHeartbeats 4000000 in
set_option maxRecDepth 100000 in
theorem d_263_ok {X : aX} {g d : Nat} {x1 : Int32} {x2 : Int32} {x3 : Int32} {S : rS} {h0 : aH} {zz : Int32 × rS} (hdp : 5 ≤ d) (HS : rm h0 S) (hd : d_263 g x1 x2 x3 S = some zz) : aWp X d 263 0 (aEntL [.ref 382, .int x1, .int x2, .int x3] 8) [] h0 (fun w h' => w = some (.int zz.1) ∧ rTo h0 zz.2 h') := by
  unfold d_263 at hd
  have HH := rTo.rf HS
  refine wp_lv (l2 := [some (.ref 382), some (.int x1), some (.int x2), some (.int x3), none, none, none, none]) rfl ?_
  obtain ⟨e, rfl⟩ : ∃ e, d = e + 1 := ⟨d - 1, by omega⟩
  refine wp_s 1 [some (.ref 382), some (.int x1), some (.int x2), some (.int x3), none, none, none, none] [.int (0 : Int32)] h0 i_263_0 rfl ?_
  refine wp_s 3 [some (.ref 382), some (.int x1), some (.int x2), some (.int x3), some (.int (0 : Int32)), none, none, none] [] h0 i_263_1 rfl ?_
  refine wp_s 4 [some (.ref 382), some (.int x1), some (.int x2), some (.int x3), some (.int (0 : Int32)), none, none, none] [.int (0 : Int32)] h0 i_263_3 rfl ?_
  refine wp_s 6 [some (.ref 382), some (.int x1), some (.int x2), some (.int x3), some (.int (0 : Int32)), some (.int (0 : Int32)), none, none] [] h0 i_263_4 rfl ?_
  exact aWp.post (aWp.forget ((l_263_ok hdp g).1 _ _ _ _ _ _ _ _ _ _ _ _ HH.1 hd) ((lvS (lvS (lvS (lvS (lvS (lvS (lvN (lvN lvE)))))))))) (fun _ _ hq => ⟨hq.1, HH.tr hq.2⟩)
def l_264 (g n tag : Nat) (x1 : Int32) (x2 : Int32) (x3 : Int32) (x4 : Int32) (x5 : Int32) (x6 : Int32) (x7 : Int32) (S : rS) : Option (Int32 × rS) := match n with
  | 0 => none
  | n + 1 => if tag = 0 then (if (9 : Int32) < x6 then (if ¬ x3 = 0 then some (x5, S) else some (x4, S)) else ((d_263 g x1 x2 x6 S).bind (fun z_3 => (if z_3.1 < x5 then (l_264 g n 1 x1 x2 x3 x6 z_3.1 x6 z_3.1 z_3.2) else (l_264 g n 1 x1 x2 x3 x4 x5 x6 z_3.1 z_3.2))))) else if tag = 1 then (l_264 g n 0 x1 x2 x3 x4 x5 (x6 + (1 : Int32)) 0 S) else none
set_option maxHeartbeats 4000000 in
set_option maxRecDepth 100000 in
theorem l_264_ok {X : aX} {g d : Nat} (hdp : 6 ≤ d) : ∀ n, (∀ (x1 : Int32) (x2 : Int32) (x3 : Int32) (x4 : Int32) (x5 : Int32) (x6 : Int32) (x7 : Int32) (S : rS) (h0 : aH) (zz : Int32 × rS), rm h0 S → l_264 g n 0 x1 x2 x3 x4 x5 x6 x7 S = some zz → aWp X d 264 55 [some (.ref 382), some (.int x1), some (.int x2), some (.int x3), some (.int x4), some (.int x5), some (.int x6), none] [] h0 (fun w h' => w = some (.int zz.1) ∧ rTo h0 zz.2 h')) ∧ (∀ (x1 : Int32) (x2 : Int32) (x3 : Int32) (x4 : Int32) (x5 : Int32) (x6 : Int32) (x7 : Int32) (S : rS) (h0 : aH) (zz : Int32 × rS), rm h0 S → l_264 g n 1 x1 x2 x3 x4 x5 x6 x7 S = some zz → aWp X d 264 90 [some (.ref 382), some (.int x1), some (.int x2), some (.int x3), some (.int x4), some (.int x5), some (.int x6), some (.int x7)] [] h0 (fun w h' => w = some (.int zz.1) ∧ rTo h0 zz.2 h')) := by
  intro n
  induction n with
  | zero => exact ⟨fun _ _ _ _ _ _ _ _ _ _ _ hd => by simp [l_264] at hd, fun _ _ _ _ _ _ _ _ _ _ _ hd => by simp [l_264] at hd⟩
  | succ n ih =>
    refine ⟨?_, ?_⟩
    · intro x1 x2 x3 x4 x5 x6 x7 S h0 zz HS hd
      unfold l_264 at hd
      rw [if_pos rfl] at hd
      have HH := rTo.rf HS
      obtain ⟨e, rfl⟩ : ∃ e, d = e + 1 := ⟨d - 1, by omega⟩
      refine wp_s 57 [some (.ref 382), some (.int x1), some (.int x2), some (.int x3), some (.int x4), some (.int x5), some (.int x6), none] [.int x6] h0 i_264_55 rfl ?_
      refine wp_s 59 [some (.ref 382), some (.int x1), some (.int x2), some (.int x3), some (.int x4), some (.int x5), some (.int x6), none] [.int (9 : Int32), .int x6] h0 i_264_57 rfl ?_
      refine wp_cmp_gt 96 62 rfl rfl i_264_59 (fun c_1 => ?_) (fun c_1 => ?_)
      · rw [if_pos c_1] at hd
        refine wp_s 97 [some (.ref 382), some (.int x1), some (.int x2), some (.int x3), some (.int x4), some (.int x5), some (.int x6), none] [.int x3] h0 i_264_96 rfl ?_
        refine wp_if_ne 105 100 rfl rfl i_264_97 (fun c_2 => ?_) (fun c_2 => ?_)
        · rw [if_pos c_2] at hd
          refine wp_s 107 [some (.ref 382), some (.int x1), some (.int x2), some (.int x3), some (.int x4), some (.int x5), some (.int x6), none] [.int x5] h0 i_264_105 rfl ?_
          obtain rfl := Option.some.inj hd
          exact wp_iret i_264_107 ⟨rfl, HH⟩
        · rw [if_neg c_2] at hd
          refine wp_s 102 [some (.ref 382), some (.int x1), some (.int x2), some (.int x3), some (.int x4), some (.int x5), some (.int x6), none] [.int x4] h0 i_264_100 rfl ?_
          refine wp_s 107 [some (.ref 382), some (.int x1), some (.int x2), some (.int x3), some (.int x4), some (.int x5), some (.int x6), none] [.int x4] h0 i_264_102 rfl ?_
          obtain rfl := Option.some.inj hd
          exact wp_iret i_264_107 ⟨rfl, HH⟩
      · rw [if_neg c_1] at hd
        refine wp_s 63 [some (.ref 382), some (.int x1), some (.int x2), some (.int x3), some (.int x4), some (.int x5), some (.int x6), none] [.ref 382] h0 i_264_62 rfl ?_
        refine wp_s 64 [some (.ref 382), some (.int x1), some (.int x2), some (.int x3), some (.int x4), some (.int x5), some (.int x6), none] [.int x1, .ref 382] h0 i_264_63 rfl ?_
        refine wp_s 65 [some (.ref 382), some (.int x1), some (.int x2), some (.int x3), some (.int x4), some (.int x5), some (.int x6), none] [.int x2, .int x1, .ref 382] h0 i_264_64 rfl ?_
        refine wp_s 67 [some (.ref 382), some (.int x1), some (.int x2), some (.int x3), some (.int x4), some (.int x5), some (.int x6), none] [.int x6, .int x2, .int x1, .ref 382] h0 i_264_65 rfl ?_
        obtain ⟨z_3, q_4, hd⟩ := dk_bind hd
        refine wp_callV 70 rfl i_264_67 (by decide) rfl (vs := [.int x1, .int x2, .int x6]) (rest := []) rfl rfl rfl (HH.1 0 (by decide)) (y := m_263) rfl (Nat.le_of_ble_eq_true rfl) (d_263_ok (d := e) (by omega) HH.1 q_4) ?_
        rintro v_7 h_5 ⟨rfl, H_6⟩
        have H_6 := HH.tr H_6
        refine wp_s 72 [some (.ref 382), some (.int x1), some (.int x2), some (.int x3), some (.int x4), some (.int x5), some (.int x6), some (.int z_3.1)] [] h_5 i_264_70 rfl ?_
        refine wp_s 74 [some (.ref 382), some (.int x1), some (.int x2), some (.int x3), some (.int x4), some (.int x5), some (.int x6), some (.int z_3.1)] [.int z_3.1] h_5 i_264_72 rfl ?_
        refine wp_s 76 [some (.ref 382), some (.int x1), some (.int x2), some (.int x3), some (.int x4), some (.int x5), some (.int x6), some (.int z_3.1)] [.int x5, .int z_3.1] h_5 i_264_74 rfl ?_
        refine wp_cmp_lt 82 79 rfl rfl i_264_76 (fun c_8 => ?_) (fun c_8 => ?_)
        · rw [if_pos c_8] at hd
          refine wp_s 84 [some (.ref 382), some (.int x1), some (.int x2), some (.int x3), some (.int x4), some (.int x5), some (.int x6), some (.int z_3.1)] [.int x6] h_5 i_264_82 rfl ?_
          refine wp_s 86 [some (.ref 382), some (.int x1), some (.int x2), some (.int x3), some (.int x6), some (.int x5), some (.int x6), some (.int z_3.1)] [] h_5 i_264_84 rfl ?_
          refine wp_s 88 [some (.ref 382), some (.int x1), some (.int x2), some (.int x3), some (.int x6), some (.int x5), some (.int x6), some (.int z_3.1)] [.int z_3.1] h_5 i_264_86 rfl ?_
          refine wp_s 90 [some (.ref 382), some (.int x1), some (.int x2), some (.int x3), some (.int x6), some (.int z_3.1), some (.int x6), some (.int z_3.1)] [] h_5 i_264_88 rfl ?_
          exact aWp.post (aWp.forget (ih.2 _ _ _ _ _ _ _ _ _ _ H_6.1 hd) ((lvS (lvS (lvS (lvS (lvS (lvS (lvS (lvS lvE)))))))))) (fun _ _ hq => ⟨hq.1, H_6.tr hq.2⟩)
        · rw [if_neg c_8] at hd
          refine wp_s 90 [some (.ref 382), some (.int x1), some (.int x2), some (.int x3), some (.int x4), some (.int x5), some (.int x6), some (.int z_3.1)] [] h_5 i_264_79 rfl ?_
          exact aWp.post (aWp.forget (ih.2 _ _ _ _ _ _ _ _ _ _ H_6.1 hd) ((lvS (lvS (lvS (lvS (lvS (lvS (lvS (lvS lvE)))))))))) (fun _ _ hq => ⟨hq.1, H_6.tr hq.2⟩)
    · intro x1 x2 x3 x4 x5 x6 x7 S h0 zz HS hd
      unfold l_264 at hd
      rw [if_neg (by decide), if_pos rfl] at hd
      have HH := rTo.rf HS
      obtain ⟨e, rfl⟩ : ∃ e, d = e + 1 := ⟨d - 1, by omega⟩
      refine wp_s 93 [some (.ref 382), some (.int x1), some (.int x2), some (.int x3), some (.int x4), some (.int x5), some (.int (x6 + (1 : Int32))), some (.int x7)] [] h0 i_264_90 rfl ?_
      refine wp_s 55 [some (.ref 382), some (.int x1), some (.int x2), some (.int x3), some (.int x4), some (.int x5), some (.int (x6 + (1 : Int32))), some (.int x7)] [] h0 i_264_93 rfl ?_
      exact aWp.post (aWp.forget (ih.1 _ _ _ _ _ _ _ _ _ _ HH.1 hd) ((lvS (lvS (lvS (lvS (lvS (lvS (lvS (lvN lvE)))))))))) (fun _ _ hq => ⟨hq.1, HH.tr hq.2⟩)
def d_264 (g : Nat) (x1 : Int32) (x2 : Int32) (x3 : Int32) (S : rS) : Option (Int32 × rS) := ((d_188 g x1 S).bind (fun z_1001 => (if z_1001.1 = 0 then some ((-1 : Int32), z_1001.2) else ((d_140 g (x2.toInt64) (0 : Int64) (99 : Int64) z_1001.2).bind (fun z_1007 => (if z_1007.1 = 0 then some ((-1 : Int32), z_1007.2) else ((d_140 g (x3.toInt64) (0 : Int64) (1 : Int64) z_1007.2).bind (fun z_1013 => (if ¬ z_1013.1 = 0 then ((d_263 g x1 x2 (0 : Int32) z_1013.2).bind (fun z_1019 => (if ¬ z_1019.1 = 0 then (l_264 g g 0 x1 x2 x3 (0 : Int32) z_1019.1 (1 : Int32) 0 z_1019.2) else some ((-2 : Int32), z_1019.2)))) else some ((-1 : Int32), z_1013.2))))))))))
set_option maxHeartbeats 4000000 in
set_option maxRecDepth 100000 in
theorem d_264_ok {X : aX} {g d : Nat} {x1 : Int32} {x2 : Int32} {x3 : Int32} {S : rS} {h0 : aH} {zz : Int32 × rS} (hdp : 6 ≤ d) (HS : rm h0 S) (hd : d_264 g x1 x2 x3 S = some zz) : aWp X d 264 0 (aEntL [.ref 382, .int x1, .int x2, .int x3] 8) [] h0 (fun w h' => w = some (.int zz.1) ∧ rTo h0 zz.2 h') := by
  unfold d_264 at hd
  have HH := rTo.rf HS
  refine wp_lv (l2 := [some (.ref 382), some (.int x1), some (.int x2), some (.int x3), none, none, none, none]) rfl ?_
  obtain ⟨e, rfl⟩ : ∃ e, d = e + 1 := ⟨d - 1, by omega⟩
  refine wp_s 1 [some (.ref 382), some (.int x1), some (.int x2), some (.int x3), none, none, none, none] [.ref 382] h0 i_264_0 rfl ?_
  refine wp_s 2 [some (.ref 382), some (.int x1), some (.int x2), some (.int x3), none, none, none, none] [.int x1, .ref 382] h0 i_264_1 rfl ?_
  obtain ⟨z_1001, q_1002, hd⟩ := dk_bind hd
  refine wp_callV 5 rfl i_264_2 (by decide) rfl (vs := [.int x1]) (rest := []) rfl rfl rfl (HH.1 0 (by decide)) (y := m_188) rfl (Nat.le_of_ble_eq_true rfl) (d_188_ok (d := e) (by omega) HH.1 q_1002) ?_
  rintro v_1005 h_1003 ⟨rfl, H_1004⟩
  have H_1004 := HH.tr H_1004
  refine wp_if_eq 30 8 rfl rfl i_264_5 (fun c_1006 => ?_) (fun c_1006 => ?_)
  · rw [if_pos c_1006] at hd
    refine wp_s 31 [some (.ref 382), some (.int x1), some (.int x2), some (.int x3), none, none, none, none] [.int (-1 : Int32)] h_1003 i_264_30 rfl ?_
    obtain rfl := Option.some.inj hd
    exact wp_iret i_264_31 ⟨rfl, H_1004⟩
  · rw [if_neg c_1006] at hd
    refine wp_s 9 [some (.ref 382), some (.int x1), some (.int x2), some (.int x3), none, none, none, none] [.int x2] h_1003 i_264_8 rfl ?_
    refine wp_s 10 [some (.ref 382), some (.int x1), some (.int x2), some (.int x3), none, none, none, none] [.long (x2.toInt64)] h_1003 i_264_9 rfl ?_
    refine wp_s 11 [some (.ref 382), some (.int x1), some (.int x2), some (.int x3), none, none, none, none] [.long (0 : Int64), .long (x2.toInt64)] h_1003 i_264_10 rfl ?_
    refine wp_s 14 [some (.ref 382), some (.int x1), some (.int x2), some (.int x3), none, none, none, none] [.long (99 : Int64), .long (0 : Int64), .long (x2.toInt64)] h_1003 i_264_11 rfl ?_
    obtain ⟨z_1007, q_1008, hd⟩ := dk_bind hd
    refine wp_callS 17 rfl i_264_14 (by decide) (vs := [.long (x2.toInt64), .long (0 : Int64), .long (99 : Int64)]) (rest := []) rfl rfl rfl (y := m_140) rfl (Nat.le_of_ble_eq_true rfl) (d_140_ok (d := e) (by omega) H_1004.1 q_1008) ?_
    rintro v_1011 h_1009 ⟨rfl, H_1010⟩
    have H_1010 := H_1004.tr H_1010
    refine wp_if_eq 30 20 rfl rfl i_264_17 (fun c_1012 => ?_) (fun c_1012 => ?_)
    · rw [if_pos c_1012] at hd
      refine wp_s 31 [some (.ref 382), some (.int x1), some (.int x2), some (.int x3), none, none, none, none] [.int (-1 : Int32)] h_1009 i_264_30 rfl ?_
      obtain rfl := Option.some.inj hd
      exact wp_iret i_264_31 ⟨rfl, H_1010⟩
    · rw [if_neg c_1012] at hd
      refine wp_s 21 [some (.ref 382), some (.int x1), some (.int x2), some (.int x3), none, none, none, none] [.int x3] h_1009 i_264_20 rfl ?_
      refine wp_s 22 [some (.ref 382), some (.int x1), some (.int x2), some (.int x3), none, none, none, none] [.long (x3.toInt64)] h_1009 i_264_21 rfl ?_
      refine wp_s 23 [some (.ref 382), some (.int x1), some (.int x2), some (.int x3), none, none, none, none] [.long (0 : Int64), .long (x3.toInt64)] h_1009 i_264_22 rfl ?_
      refine wp_s 24 [some (.ref 382), some (.int x1), some (.int x2), some (.int x3), none, none, none, none] [.long (1 : Int64), .long (0 : Int64), .long (x3.toInt64)] h_1009 i_264_23 rfl ?_
      obtain ⟨z_1013, q_1014, hd⟩ := dk_bind hd
      refine wp_callS 27 rfl i_264_24 (by decide) (vs := [.long (x3.toInt64), .long (0 : Int64), .long (1 : Int64)]) (rest := []) rfl rfl rfl (y := m_140) rfl (Nat.le_of_ble_eq_true rfl) (d_140_ok (d := e) (by omega) H_1010.1 q_1014) ?_
      rintro v_1017 h_1015 ⟨rfl, H_1016⟩
      have H_1016 := H_1010.tr H_1016
      refine wp_if_ne 32 30 rfl rfl i_264_27 (fun c_1018 => ?_) (fun c_1018 => ?_)
      · rw [if_pos c_1018] at hd
        refine wp_s 33 [some (.ref 382), some (.int x1), some (.int x2), some (.int x3), none, none, none, none] [.int (0 : Int32)] h_1015 i_264_32 rfl ?_
        refine wp_s 35 [some (.ref 382), some (.int x1), some (.int x2), some (.int x3), some (.int (0 : Int32)), none, none, none] [] h_1015 i_264_33 rfl ?_
        refine wp_s 36 [some (.ref 382), some (.int x1), some (.int x2), some (.int x3), some (.int (0 : Int32)), none, none, none] [.ref 382] h_1015 i_264_35 rfl ?_
        refine wp_s 37 [some (.ref 382), some (.int x1), some (.int x2), some (.int x3), some (.int (0 : Int32)), none, none, none] [.int x1, .ref 382] h_1015 i_264_36 rfl ?_
        refine wp_s 38 [some (.ref 382), some (.int x1), some (.int x2), some (.int x3), some (.int (0 : Int32)), none, none, none] [.int x2, .int x1, .ref 382] h_1015 i_264_37 rfl ?_
        refine wp_s 39 [some (.ref 382), some (.int x1), some (.int x2), some (.int x3), some (.int (0 : Int32)), none, none, none] [.int (0 : Int32), .int x2, .int x1, .ref 382] h_1015 i_264_38 rfl ?_
        obtain ⟨z_1019, q_1020, hd⟩ := dk_bind hd
        refine wp_callV 42 rfl i_264_39 (by decide) rfl (vs := [.int x1, .int x2, .int (0 : Int32)]) (rest := []) rfl rfl rfl (H_1016.1 0 (by decide)) (y := m_263) rfl (Nat.le_of_ble_eq_true rfl) (d_263_ok (d := e) (by omega) H_1016.1 q_1020) ?_
        rintro v_1023 h_1021 ⟨rfl, H_1022⟩
        have H_1022 := H_1016.tr H_1022
        refine wp_s 44 [some (.ref 382), some (.int x1), some (.int x2), some (.int x3), some (.int (0 : Int32)), some (.int z_1019.1), none, none] [] h_1021 i_264_42 rfl ?_
        refine wp_s 46 [some (.ref 382), some (.int x1), some (.int x2), some (.int x3), some (.int (0 : Int32)), some (.int z_1019.1), none, none] [.int z_1019.1] h_1021 i_264_44 rfl ?_
        refine wp_if_ne 52 49 rfl rfl i_264_46 (fun c_1024 => ?_) (fun c_1024 => ?_)
        · rw [if_pos c_1024] at hd
          refine wp_s 53 [some (.ref 382), some (.int x1), some (.int x2), some (.int x3), some (.int (0 : Int32)), some (.int z_1019.1), none, none] [.int (1 : Int32)] h_1021 i_264_52 rfl ?_
          refine wp_s 55 [some (.ref 382), some (.int x1), some (.int x2), some (.int x3), some (.int (0 : Int32)), some (.int z_1019.1), some (.int (1 : Int32)), none] [] h_1021 i_264_53 rfl ?_
          exact aWp.post (aWp.forget ((l_264_ok hdp g).1 _ _ _ _ _ _ _ _ _ _ H_1022.1 hd) ((lvS (lvS (lvS (lvS (lvS (lvS (lvS (lvN lvE)))))))))) (fun _ _ hq => ⟨hq.1, H_1022.tr hq.2⟩)
        · rw [if_neg c_1024] at hd
          refine wp_s 51 [some (.ref 382), some (.int x1), some (.int x2), some (.int x3), some (.int (0 : Int32)), some (.int z_1019.1), none, none] [.int (-2 : Int32)] h_1021 i_264_49 rfl ?_
          obtain rfl := Option.some.inj hd
          exact wp_iret i_264_51 ⟨rfl, H_1022⟩
      · rw [if_neg c_1018] at hd
        refine wp_s 31 [some (.ref 382), some (.int x1), some (.int x2), some (.int x3), none, none, none, none] [.int (-1 : Int32)] h_1015 i_264_30 rfl ?_
        obtain rfl := Option.some.inj hd
        exact wp_iret i_264_31 ⟨rfl, H_1016⟩
def l_265 (g n tag : Nat) (x1 : Int32) (x2 : Int32) (x3 : Int32) (x4 : Int32) (S : rS) : Option (Int32 × rS) := match n with
  | 0 => none
  | n + 1 => if tag = 0 then (if aIn (7 : Int32) 181 = true then (if (((S.2.1 20) (7 : Int32).toNatClampNeg) + (30 : Int32)) < x4 then (if ¬ x2 = 0 then ((d_199 g x1 x3 S).bind (fun z_4 => some (z_4.1, z_4.2))) else some (x3, S)) else ((d_199 g x1 x4 S).bind (fun z_9 => ((d_199 g x1 x3 z_9.2).bind (fun z_14 => (if z_14.1 ≤ z_9.1 then (l_265 g n 1 x1 x2 x3 x4 z_14.2) else (l_265 g n 1 x1 x2 x4 x4 z_14.2))))))) else none) else if tag = 1 then (l_265 g n 0 x1 x2 x3 (x4 + (1 : Int32)) S) else none
set_option maxHeartbeats 4000000 in
set_option maxRecDepth 100000 in
theorem l_265_ok {X : aX} {g d : Nat} (hdp : 5 ≤ d) : ∀ n, (∀ (x1 : Int32) (x2 : Int32) (x3 : Int32) (x4 : Int32) (S : rS) (h0 : aH) (zz : Int32 × rS), rm h0 S → l_265 g n 0 x1 x2 x3 x4 S = some zz → aWp X d 265 39 [some (.ref 382), some (.int x1), some (.int x2), some (.int x3), some (.int x4)] [] h0 (fun w h' => w = some (.int zz.1) ∧ rTo h0 zz.2 h')) ∧ (∀ (x1 : Int32) (x2 : Int32) (x3 : Int32) (x4 : Int32) (S : rS) (h0 : aH) (zz : Int32 × rS), rm h0 S → l_265 g n 1 x1 x2 x3 x4 S = some zz → aWp X d 265 73 [some (.ref 382), some (.int x1), some (.int x2), some (.int x3), some (.int x4)] [] h0 (fun w h' => w = some (.int zz.1) ∧ rTo h0 zz.2 h')) := by
  intro n
  induction n with
  | zero => exact ⟨fun _ _ _ _ _ _ _ _ hd => by simp [l_265] at hd, fun _ _ _ _ _ _ _ _ hd => by simp [l_265] at hd⟩
  | succ n ih =>
    refine ⟨?_, ?_⟩
    · intro x1 x2 x3 x4 S h0 zz HS hd
      unfold l_265 at hd
      rw [if_pos rfl] at hd
      have HH := rTo.rf HS
      obtain ⟨e, rfl⟩ : ∃ e, d = e + 1 := ⟨d - 1, by omega⟩
      refine wp_s 41 [some (.ref 382), some (.int x1), some (.int x2), some (.int x3), some (.int x4)] [.int x4] h0 i_265_39 rfl ?_
      refine wp_s 42 [some (.ref 382), some (.int x1), some (.int x2), some (.int x3), some (.int x4)] [.ref 382, .int x4] h0 i_265_41 rfl ?_
      refine wp_get (v := .ref 392) 45 rfl i_265_42 (HH.1 0 (by decide)) rfl ?_
      refine wp_s 47 [some (.ref 382), some (.int x1), some (.int x2), some (.int x3), some (.int x4)] [.int (7 : Int32), .ref 392, .int x4] h0 i_265_45 rfl ?_
      obtain ⟨b_1, hd⟩ := dk_if hd
      refine wp_iald (f := (S.2.1 20)) 48 rfl i_265_47 (HH.1 10 (by decide)) b_1 ?_
      refine wp_s 50 [some (.ref 382), some (.int x1), some (.int x2), some (.int x3), some (.int x4)] [.int (30 : Int32), .int ((S.2.1 20) (7 : Int32).toNatClampNeg), .int x4] h0 i_265_48 rfl ?_
      refine wp_s 51 [some (.ref 382), some (.int x1), some (.int x2), some (.int x3), some (.int x4)] [.int (((S.2.1 20) (7 : Int32).toNatClampNeg) + (30 : Int32)), .int x4] h0 i_265_50 rfl ?_
      refine wp_cmp_gt 79 54 rfl rfl i_265_51 (fun c_2 => ?_) (fun c_2 => ?_)
      · rw [if_pos c_2] at hd
        refine wp_s 80 [some (.ref 382), some (.int x1), some (.int x2), some (.int x3), some (.int x4)] [.int x2] h0 i_265_79 rfl ?_
        refine wp_if_ne 87 83 rfl rfl i_265_80 (fun c_3 => ?_) (fun c_3 => ?_)
        · rw [if_pos c_3] at hd
          refine wp_s 88 [some (.ref 382), some (.int x1), some (.int x2), some (.int x3), some (.int x4)] [.ref 382] h0 i_265_87 rfl ?_
          refine wp_s 89 [some (.ref 382), some (.int x1), some (.int x2), some (.int x3), some (.int x4)] [.int x1, .ref 382] h0 i_265_88 rfl ?_
          refine wp_s 90 [some (.ref 382), some (.int x1), some (.int x2), some (.int x3), some (.int x4)] [.int x3, .int x1, .ref 382] h0 i_265_89 rfl ?_
          obtain ⟨z_4, q_5, hd⟩ := dk_bind hd
          refine wp_callV 93 rfl i_265_90 (by decide) rfl (vs := [.int x1, .int x3]) (rest := []) rfl rfl rfl (HH.1 0 (by decide)) (y := m_199) rfl (Nat.le_of_ble_eq_true rfl) (d_199_ok (d := e) (by omega) HH.1 q_5) ?_
          rintro v_8 h_6 ⟨rfl, H_7⟩
          have H_7 := HH.tr H_7
          obtain rfl := Option.some.inj hd
          exact wp_iret i_265_93 ⟨rfl, H_7⟩
        · rw [if_neg c_3] at hd
          refine wp_s 84 [some (.ref 382), some (.int x1), some (.int x2), some (.int x3), some (.int x4)] [.int x3] h0 i_265_83 rfl ?_
          refine wp_s 93 [some (.ref 382), some (.int x1), some (.int x2), some (.int x3), some (.int x4)] [.int x3] h0 i_265_84 rfl ?_
          obtain rfl := Option.some.inj hd
          exact wp_iret i_265_93 ⟨rfl, HH⟩
      · rw [if_neg c_2] at hd
        refine wp_s 55 [some (.ref 382), some (.int x1), some (.int x2), some (.int x3), some (.int x4)] [.ref 382] h0 i_265_54 rfl ?_
        refine wp_s 56 [some (.ref 382), some (.int x1), some (.int x2), some (.int x3), some (.int x4)] [.int x1, .ref 382] h0 i_265_55 rfl ?_
        refine wp_s 58 [some (.ref 382), some (.int x1), some (.int x2), some (.int x3), some (.int x4)] [.int x4, .int x1, .ref 382] h0 i_265_56 rfl ?_
        obtain ⟨z_9, q_10, hd⟩ := dk_bind hd
        refine wp_callV 61 rfl i_265_58 (by decide) rfl (vs := [.int x1, .int x4]) (rest := []) rfl rfl rfl (HH.1 0 (by decide)) (y := m_199) rfl (Nat.le_of_ble_eq_true rfl) (d_199_ok (d := e) (by omega) HH.1 q_10) ?_
        rintro v_13 h_11 ⟨rfl, H_12⟩
        have H_12 := HH.tr H_12
        refine wp_s 62 [some (.ref 382), some (.int x1), some (.int x2), some (.int x3), some (.int x4)] [.ref 382, .int z_9.1] h_11 i_265_61 rfl ?_
        refine wp_s 63 [some (.ref 382), some (.int x1), some (.int x2), some (.int x3), some (.int x4)] [.int x1, .ref 382, .int z_9.1] h_11 i_265_62 rfl ?_
        refine wp_s 64 [some (.ref 382), some (.int x1), some (.int x2), some (.int x3), some (.int x4)] [.int x3, .int x1, .ref 382, .int z_9.1] h_11 i_265_63 rfl ?_
        obtain ⟨z_14, q_15, hd⟩ := dk_bind hd
        refine wp_callV 67 rfl i_265_64 (by decide) rfl (vs := [.int x1, .int x3]) (rest := [.int z_9.1]) rfl rfl rfl (H_12.1 0 (by decide)) (y := m_199) rfl (Nat.le_of_ble_eq_true rfl) (d_199_ok (d := e) (by omega) H_12.1 q_15) ?_
        rintro v_18 h_16 ⟨rfl, H_17⟩
        have H_17 := H_12.tr H_17
        refine wp_cmp_ge 73 70 rfl rfl i_265_67 (fun c_19 => ?_) (fun c_19 => ?_)
        · rw [if_pos c_19] at hd
          exact aWp.post (aWp.forget (ih.2 _ _ _ _ _ _ _ H_17.1 hd) ((lvS (lvS (lvS (lvS (lvS lvE))))))) (fun _ _ hq => ⟨hq.1, H_17.tr hq.2⟩)
        · rw [if_neg c_19] at hd
          refine wp_s 72 [some (.ref 382), some (.int x1), some (.int x2), some (.int x3), some (.int x4)] [.int x4] h_16 i_265_70 rfl ?_
          refine wp_s 73 [some (.ref 382), some (.int x1), some (.int x2), some (.int x4), some (.int x4)] [] h_16 i_265_72 rfl ?_
          exact aWp.post (aWp.forget (ih.2 _ _ _ _ _ _ _ H_17.1 hd) ((lvS (lvS (lvS (lvS (lvS lvE))))))) (fun _ _ hq => ⟨hq.1, H_17.tr hq.2⟩)
    · intro x1 x2 x3 x4 S h0 zz HS hd
      unfold l_265 at hd
      rw [if_neg (by decide), if_pos rfl] at hd
      have HH := rTo.rf HS
      obtain ⟨e, rfl⟩ : ∃ e, d = e + 1 := ⟨d - 1, by omega⟩
      refine wp_s 76 [some (.ref 382), some (.int x1), some (.int x2), some (.int x3), some (.int (x4 + (1 : Int32)))] [] h0 i_265_73 rfl ?_
      refine wp_s 39 [some (.ref 382), some (.int x1), some (.int x2), some (.int x3), some (.int (x4 + (1 : Int32)))] [] h0 i_265_76 rfl ?_
      exact aWp.post (aWp.forget (ih.1 _ _ _ _ _ _ _ HH.1 hd) ((lvS (lvS (lvS (lvS (lvS lvE))))))) (fun _ _ hq => ⟨hq.1, HH.tr hq.2⟩)
def d_265 (g : Nat) (x1 : Int32) (x2 : Int32) (S : rS) : Option (Int32 × rS) := ((d_188 g x1 S).bind (fun z_1001 => (if z_1001.1 = 0 then some ((-1 : Int32), z_1001.2) else ((d_140 g (x2.toInt64) (0 : Int64) (1 : Int64) z_1001.2).bind (fun z_1007 => (if ¬ z_1007.1 = 0 then (if aIn (7 : Int32) 181 = true then (if aIn (7 : Int32) 181 = true then (l_265 g g 0 x1 x2 ((z_1007.2.2.1 20) (7 : Int32).toNatClampNeg) (((z_1007.2.2.1 20) (7 : Int32).toNatClampNeg) + (1 : Int32)) z_1007.2) else none) else none) else some ((-1 : Int32), z_1007.2)))))))
set_option maxHeartbeats 4000000 in
set_option maxRecDepth 100000 in
theorem d_265_ok {X : aX} {g d : Nat} {x1 : Int32} {x2 : Int32} {S : rS} {h0 : aH} {zz : Int32 × rS} (hdp : 5 ≤ d) (HS : rm h0 S) (hd : d_265 g x1 x2 S = some zz) : aWp X d 265 0 (aEntL [.ref 382, .int x1, .int x2] 5) [] h0 (fun w h' => w = some (.int zz.1) ∧ rTo h0 zz.2 h') := by
  unfold d_265 at hd
  have HH := rTo.rf HS
  refine wp_lv (l2 := [some (.ref 382), some (.int x1), some (.int x2), none, none]) rfl ?_
  obtain ⟨e, rfl⟩ : ∃ e, d = e + 1 := ⟨d - 1, by omega⟩
  refine wp_s 1 [some (.ref 382), some (.int x1), some (.int x2), none, none] [.ref 382] h0 i_265_0 rfl ?_
  refine wp_s 2 [some (.ref 382), some (.int x1), some (.int x2), none, none] [.int x1, .ref 382] h0 i_265_1 rfl ?_
  obtain ⟨z_1001, q_1002, hd⟩ := dk_bind hd
  refine wp_callV 5 rfl i_265_2 (by decide) rfl (vs := [.int x1]) (rest := []) rfl rfl rfl (HH.1 0 (by decide)) (y := m_188) rfl (Nat.le_of_ble_eq_true rfl) (d_188_ok (d := e) (by omega) HH.1 q_1002) ?_
  rintro v_1005 h_1003 ⟨rfl, H_1004⟩
  have H_1004 := HH.tr H_1004
  refine wp_if_eq 18 8 rfl rfl i_265_5 (fun c_1006 => ?_) (fun c_1006 => ?_)
  · rw [if_pos c_1006] at hd
    refine wp_s 19 [some (.ref 382), some (.int x1), some (.int x2), none, none] [.int (-1 : Int32)] h_1003 i_265_18 rfl ?_
    obtain rfl := Option.some.inj hd
    exact wp_iret i_265_19 ⟨rfl, H_1004⟩
  · rw [if_neg c_1006] at hd
    refine wp_s 9 [some (.ref 382), some (.int x1), some (.int x2), none, none] [.int x2] h_1003 i_265_8 rfl ?_
    refine wp_s 10 [some (.ref 382), some (.int x1), some (.int x2), none, none] [.long (x2.toInt64)] h_1003 i_265_9 rfl ?_
    refine wp_s 11 [some (.ref 382), some (.int x1), some (.int x2), none, none] [.long (0 : Int64), .long (x2.toInt64)] h_1003 i_265_10 rfl ?_
    refine wp_s 12 [some (.ref 382), some (.int x1), some (.int x2), none, none] [.long (1 : Int64), .long (0 : Int64), .long (x2.toInt64)] h_1003 i_265_11 rfl ?_
    obtain ⟨z_1007, q_1008, hd⟩ := dk_bind hd
    refine wp_callS 15 rfl i_265_12 (by decide) (vs := [.long (x2.toInt64), .long (0 : Int64), .long (1 : Int64)]) (rest := []) rfl rfl rfl (y := m_140) rfl (Nat.le_of_ble_eq_true rfl) (d_140_ok (d := e) (by omega) H_1004.1 q_1008) ?_
    rintro v_1011 h_1009 ⟨rfl, H_1010⟩
    have H_1010 := H_1004.tr H_1010
    refine wp_if_ne 20 18 rfl rfl i_265_15 (fun c_1012 => ?_) (fun c_1012 => ?_)
    · rw [if_pos c_1012] at hd
      refine wp_s 21 [some (.ref 382), some (.int x1), some (.int x2), none, none] [.ref 382] h_1009 i_265_20 rfl ?_
      refine wp_get (v := .ref 392) 24 rfl i_265_21 (H_1010.1 0 (by decide)) rfl ?_
      refine wp_s 26 [some (.ref 382), some (.int x1), some (.int x2), none, none] [.int (7 : Int32), .ref 392] h_1009 i_265_24 rfl ?_
      obtain ⟨b_1013, hd⟩ := dk_if hd
      refine wp_iald (f := (z_1007.2.2.1 20)) 27 rfl i_265_26 (H_1010.1 10 (by decide)) b_1013 ?_
      refine wp_s 28 [some (.ref 382), some (.int x1), some (.int x2), some (.int ((z_1007.2.2.1 20) (7 : Int32).toNatClampNeg)), none] [] h_1009 i_265_27 rfl ?_
      refine wp_s 29 [some (.ref 382), some (.int x1), some (.int x2), some (.int ((z_1007.2.2.1 20) (7 : Int32).toNatClampNeg)), none] [.ref 382] h_1009 i_265_28 rfl ?_
      refine wp_get (v := .ref 392) 32 rfl i_265_29 (H_1010.1 0 (by decide)) rfl ?_
      refine wp_s 34 [some (.ref 382), some (.int x1), some (.int x2), some (.int ((z_1007.2.2.1 20) (7 : Int32).toNatClampNeg)), none] [.int (7 : Int32), .ref 392] h_1009 i_265_32 rfl ?_
      obtain ⟨b_1014, hd⟩ := dk_if hd
      refine wp_iald (f := (z_1007.2.2.1 20)) 35 rfl i_265_34 (H_1010.1 10 (by decide)) b_1014 ?_
      refine wp_s 36 [some (.ref 382), some (.int x1), some (.int x2), some (.int ((z_1007.2.2.1 20) (7 : Int32).toNatClampNeg)), none] [.int (1 : Int32), .int ((z_1007.2.2.1 20) (7 : Int32).toNatClampNeg)] h_1009 i_265_35 rfl ?_
      refine wp_s 37 [some (.ref 382), some (.int x1), some (.int x2), some (.int ((z_1007.2.2.1 20) (7 : Int32).toNatClampNeg)), none] [.int (((z_1007.2.2.1 20) (7 : Int32).toNatClampNeg) + (1 : Int32))] h_1009 i_265_36 rfl ?_
      refine wp_s 39 [some (.ref 382), some (.int x1), some (.int x2), some (.int ((z_1007.2.2.1 20) (7 : Int32).toNatClampNeg)), some (.int (((z_1007.2.2.1 20) (7 : Int32).toNatClampNeg) + (1 : Int32)))] [] h_1009 i_265_37 rfl ?_
      exact aWp.post (aWp.forget ((l_265_ok hdp g).1 _ _ _ _ _ _ _ H_1010.1 hd) ((lvS (lvS (lvS (lvS (lvS lvE))))))) (fun _ _ hq => ⟨hq.1, H_1010.tr hq.2⟩)
    · rw [if_neg c_1012] at hd
      refine wp_s 19 [some (.ref 382), some (.int x1), some (.int x2), none, none] [.int (-1 : Int32)] h_1009 i_265_18 rfl ?_
      obtain rfl := Option.some.inj hd
      exact wp_iret i_265_19 ⟨rfl, H_1010⟩
def d_266 (g : Nat) (x1 : Int32) (S : rS) : Option (Int32 × rS) := (if 0 ≤ x1 then some ((S.1 22), (rF S 22 x1)) else some ((-1 : Int32), S))
set_option maxHeartbeats 4000000 in
set_option maxRecDepth 100000 in
theorem d_266_ok {X : aX} {g d : Nat} {x1 : Int32} {S : rS} {h0 : aH} {zz : Int32 × rS} (hdp : 0 ≤ d) (HS : rm h0 S) (hd : d_266 g x1 S = some zz) : aWp X d 266 0 (aEntL [.ref 382, .int x1] 3) [] h0 (fun w h' => w = some (.int zz.1) ∧ rTo h0 zz.2 h') := by
  unfold d_266 at hd
  have HH := rTo.rf HS
  refine wp_lv (l2 := [some (.ref 382), some (.int x1), none]) rfl ?_
  refine wp_s 1 [some (.ref 382), some (.int x1), none] [.int x1] h0 i_266_0 rfl ?_
  refine wp_if_ge 6 4 rfl rfl i_266_1 (fun c_1 => ?_) (fun c_1 => ?_)
  · rw [if_pos c_1] at hd
    refine wp_s 7 [some (.ref 382), some (.int x1), none] [.ref 382] h0 i_266_6 rfl ?_
    refine wp_get (v := .int (S.1 22)) 10 rfl i_266_7 (HH.1 0 (by decide)) rfl ?_
    refine wp_s 11 [some (.ref 382), some (.int x1), some (.int (S.1 22))] [] h0 i_266_10 rfl ?_
    refine wp_s 12 [some (.ref 382), some (.int x1), some (.int (S.1 22))] [.ref 382] h0 i_266_11 rfl ?_
    refine wp_s 13 [some (.ref 382), some (.int x1), some (.int (S.1 22))] [.int x1, .ref 382] h0 i_266_12 rfl ?_
    refine rq_F22 16 rfl i_266_13 HH (fun h_2 H_3 => ?_)
    refine wp_s 17 [some (.ref 382), some (.int x1), some (.int (S.1 22))] [.int (S.1 22)] h_2 i_266_16 rfl ?_
    obtain rfl := Option.some.inj hd
    exact wp_iret i_266_17 ⟨rfl, H_3⟩
  · rw [if_neg c_1] at hd
    refine wp_s 5 [some (.ref 382), some (.int x1), none] [.int (-1 : Int32)] h0 i_266_4 rfl ?_
    obtain rfl := Option.some.inj hd
    exact wp_iret i_266_5 ⟨rfl, HH⟩
def d_267 (g : Nat) (x1 : Int32) (S : rS) : Option (Int32 × rS) := (if ¬ (2147483648 : Int64) = 0 then (if ¬ (65536 : Int64) = 0 then (if ¬ (x1.toInt64) = 0 then some (((((((S.2.2.2.2 * (1103515245 : Int64)) + (12345 : Int64)) - ((S.2.2.2.2 * (1103515245 : Int64)) + (12345 : Int64)) / (2147483648 : Int64) * (2147483648 : Int64)) / (65536 : Int64)) - ((((S.2.2.2.2 * (1103515245 : Int64)) + (12345 : Int64)) - ((S.2.2.2.2 * (1103515245 : Int64)) + (12345 : Int64)) / (2147483648 : Int64) * (2147483648 : Int64)) / (65536 : Int64)) / (x1.toInt64) * (x1.toInt64)).toInt32), (rX S (((S.2.2.2.2 * (1103515245 : Int64)) + (12345 : Int64)) - ((S.2.2.2.2 * (1103515245 : Int64)) + (12345 : Int64)) / (2147483648 : Int64) * (2147483648 : Int64)))) else none) else none) else none)
set_option maxHeartbeats 4000000 in
set_option maxRecDepth 100000 in
theorem d_267_ok {X : aX} {g d : Nat} {x1 : Int32} {S : rS} {h0 : aH} {zz : Int32 × rS} (hdp : 0 ≤ d) (HS : rm h0 S) (hd : d_267 g x1 S = some zz) : aWp X d 267 0 (aEntL [.ref 382, .int x1] 2) [] h0 (fun w h' => w = some (.int zz.1) ∧ rTo h0 zz.2 h') := by
  unfold d_267 at hd
  have HH := rTo.rf HS
  refine wp_lv (l2 := [some (.ref 382), some (.int x1)]) rfl ?_
  refine wp_s 1 [some (.ref 382), some (.int x1)] [.ref 382] h0 i_267_0 rfl ?_
  refine wp_s 2 [some (.ref 382), some (.int x1)] [.ref 382, .ref 382] h0 i_267_1 rfl ?_
  refine wp_get (v := .long S.2.2.2.2) 5 rfl i_267_2 (HH.1 0 (by decide)) rfl ?_
  refine wp_s 8 [some (.ref 382), some (.int x1)] [.long (1103515245 : Int64), .long S.2.2.2.2, .ref 382] h0 i_267_5 rfl ?_
  refine wp_s 9 [some (.ref 382), some (.int x1)] [.long (S.2.2.2.2 * (1103515245 : Int64)), .ref 382] h0 i_267_8 rfl ?_
  refine wp_s 12 [some (.ref 382), some (.int x1)] [.long (12345 : Int64), .long (S.2.2.2.2 * (1103515245 : Int64)), .ref 382] h0 i_267_9 rfl ?_
  refine wp_s 13 [some (.ref 382), some (.int x1)] [.long ((S.2.2.2.2 * (1103515245 : Int64)) + (12345 : Int64)), .ref 382] h0 i_267_12 rfl ?_
  refine wp_s 16 [some (.ref 382), some (.int x1)] [.long (2147483648 : Int64), .long ((S.2.2.2.2 * (1103515245 : Int64)) + (12345 : Int64)), .ref 382] h0 i_267_13 rfl ?_
  obtain ⟨b_1, hd⟩ := dk_if hd
  refine wp_lrem 17 rfl i_267_16 b_1 ?_
  refine rq_F40 20 rfl i_267_17 HH (fun h_2 H_3 => ?_)
  refine wp_s 21 [some (.ref 382), some (.int x1)] [.ref 382] h_2 i_267_20 rfl ?_
  refine wp_get (v := .long (((S.2.2.2.2 * (1103515245 : Int64)) + (12345 : Int64)) - ((S.2.2.2.2 * (1103515245 : Int64)) + (12345 : Int64)) / (2147483648 : Int64) * (2147483648 : Int64))) 24 rfl i_267_21 (H_3.1 0 (by decide)) rfl ?_
  refine wp_s 27 [some (.ref 382), some (.int x1)] [.long (65536 : Int64), .long (((S.2.2.2.2 * (1103515245 : Int64)) + (12345 : Int64)) - ((S.2.2.2.2 * (1103515245 : Int64)) + (12345 : Int64)) / (2147483648 : Int64) * (2147483648 : Int64))] h_2 i_267_24 rfl ?_
  obtain ⟨b_4, hd⟩ := dk_if hd
  refine wp_ldiv 28 rfl i_267_27 b_4 ?_
  refine wp_s 29 [some (.ref 382), some (.int x1)] [.int x1, .long ((((S.2.2.2.2 * (1103515245 : Int64)) + (12345 : Int64)) - ((S.2.2.2.2 * (1103515245 : Int64)) + (12345 : Int64)) / (2147483648 : Int64) * (2147483648 : Int64)) / (65536 : Int64))] h_2 i_267_28 rfl ?_
  refine wp_s 30 [some (.ref 382), some (.int x1)] [.long (x1.toInt64), .long ((((S.2.2.2.2 * (1103515245 : Int64)) + (12345 : Int64)) - ((S.2.2.2.2 * (1103515245 : Int64)) + (12345 : Int64)) / (2147483648 : Int64) * (2147483648 : Int64)) / (65536 : Int64))] h_2 i_267_29 rfl ?_
  obtain ⟨b_5, hd⟩ := dk_if hd
  refine wp_lrem 31 rfl i_267_30 b_5 ?_
  refine wp_s 32 [some (.ref 382), some (.int x1)] [.int ((((((S.2.2.2.2 * (1103515245 : Int64)) + (12345 : Int64)) - ((S.2.2.2.2 * (1103515245 : Int64)) + (12345 : Int64)) / (2147483648 : Int64) * (2147483648 : Int64)) / (65536 : Int64)) - ((((S.2.2.2.2 * (1103515245 : Int64)) + (12345 : Int64)) - ((S.2.2.2.2 * (1103515245 : Int64)) + (12345 : Int64)) / (2147483648 : Int64) * (2147483648 : Int64)) / (65536 : Int64)) / (x1.toInt64) * (x1.toInt64)).toInt32)] h_2 i_267_31 rfl ?_
  obtain rfl := Option.some.inj hd
  exact wp_iret i_267_32 ⟨rfl, H_3⟩
def l_268 (g n tag : Nat) (x1 : Int32) (x2 : Int32) (x3 : Int32) (S : rS) : Option (rS) := match n with
  | 0 => none
  | n + 1 => if tag = 0 then (if aIn (1 : Int32) 181 = true then (if ((S.2.1 20) (1 : Int32).toNatClampNeg) ≤ x3 then some S else ((d_226 g x3 S).bind (fun z_3 => (l_268 g n 0 x1 x2 (x3 + (1 : Int32)) z_3)))) else none) else none
set_option maxHeartbeats 4000000 in
set_option maxRecDepth 100000 in
theorem l_268_ok {X : aX} {g d : Nat} (hdp : 7 ≤ d) : ∀ n, (∀ (x1 : Int32) (x2 : Int32) (x3 : Int32) (S : rS) (h0 : aH) (zz : rS), rm h0 S → l_268 g n 0 x1 x2 x3 S = some zz → aWp X d 268 83 [some (.ref 382), some (.int x1), some (.int x2), some (.int x3)] [] h0 (fun w h' => w = none ∧ rTo h0 zz h')) := by
  intro n
  induction n with
  | zero => exact fun _ _ _ _ _ _ _ hd => by simp [l_268] at hd
  | succ n ih =>
    intro x1 x2 x3 S h0 zz HS hd
    unfold l_268 at hd
    rw [if_pos rfl] at hd
    have HH := rTo.rf HS
    obtain ⟨e, rfl⟩ : ∃ e, d = e + 1 := ⟨d - 1, by omega⟩
    refine wp_s 84 [some (.ref 382), some (.int x1), some (.int x2), some (.int x3)] [.int x3] h0 i_268_83 rfl ?_
    refine wp_s 85 [some (.ref 382), some (.int x1), some (.int x2), some (.int x3)] [.ref 382, .int x3] h0 i_268_84 rfl ?_
    refine wp_get (v := .ref 392) 88 rfl i_268_85 (HH.1 0 (by decide)) rfl ?_
    refine wp_s 89 [some (.ref 382), some (.int x1), some (.int x2), some (.int x3)] [.int (1 : Int32), .ref 392, .int x3] h0 i_268_88 rfl ?_
    obtain ⟨b_1, hd⟩ := dk_if hd
    refine wp_iald (f := (S.2.1 20)) 90 rfl i_268_89 (HH.1 10 (by decide)) b_1 ?_
    refine wp_cmp_ge 104 93 rfl rfl i_268_90 (fun c_2 => ?_) (fun c_2 => ?_)
    · rw [if_pos c_2] at hd
      obtain rfl := Option.some.inj hd
      exact wp_ret i_268_104 rfl ⟨rfl, HH⟩
    · rw [if_neg c_2] at hd
      refine wp_s 94 [some (.ref 382), some (.int x1), some (.int x2), some (.int x3)] [.ref 382] h0 i_268_93 rfl ?_
      refine wp_s 95 [some (.ref 382), some (.int x1), some (.int x2), some (.int x3)] [.int x3, .ref 382] h0 i_268_94 rfl ?_
      obtain ⟨z_3, q_4, hd⟩ := dk_bind hd
      refine wp_callV 98 rfl i_268_95 (by decide) rfl (vs := [.int x3]) (rest := []) rfl rfl rfl (HH.1 0 (by decide)) (y := m_226) rfl (Nat.le_of_ble_eq_true rfl) (d_226_ok (d := e) (by omega) HH.1 q_4) ?_
      rintro v_7 h_5 ⟨rfl, H_6⟩
      have H_6 := HH.tr H_6
      refine wp_s 101 [some (.ref 382), some (.int x1), some (.int x2), some (.int (x3 + (1 : Int32)))] [] h_5 i_268_98 rfl ?_
      refine wp_s 83 [some (.ref 382), some (.int x1), some (.int x2), some (.int (x3 + (1 : Int32)))] [] h_5 i_268_101 rfl ?_
      exact aWp.post (aWp.forget (ih _ _ _ _ _ _ H_6.1 hd) ((lvS (lvS (lvS (lvS lvE)))))) (fun _ _ hq => ⟨hq.1, H_6.tr hq.2⟩)
def d_268 (g : Nat)  (S : rS) : Option (rS) := (if aIn (1 : Int32) 181 = true then ((d_267 g (((S.2.1 20) (1 : Int32).toNatClampNeg) + (1 : Int32)) S).bind (fun z_1002 => (if aIn (1 : Int32) 181 = true then (if ((z_1002.2.2.1 20) (1 : Int32).toNatClampNeg) ≤ z_1002.1 then ((d_209 g  z_1002.2).bind (fun z_1009 => (if ¬ z_1009.1 = 0 then ((d_210 g  (rF z_1009.2 42 ((z_1009.2.1 42) + z_1009.1))).bind (fun z_1017 => ((d_208 g z_1017.1 z_1017.2).bind (fun z_1022 => (l_268 g g 0 z_1002.1 z_1009.1 (0 : Int32) (rF z_1022.2 41 ((z_1009.2.1 41) + z_1022.1))))))) else some z_1009.2))) else ((d_223 g z_1002.1 z_1002.2).bind (fun z_1029 => ((d_216 g z_1002.1 z_1029).bind (fun z_1034 => (if z_1034.1 = 0 then some z_1034.2 else ((d_217 g z_1002.1 (1 : Int32) (1 : Int32) z_1034.2).bind (fun z_1040 => some z_1040)))))))) else none))) else none)
set_option maxHeartbeats 4000000 in
set_option maxRecDepth 100000 in
theorem d_268_ok {X : aX} {g d : Nat}  {S : rS} {h0 : aH} {zz : rS} (hdp : 7 ≤ d) (HS : rm h0 S) (hd : d_268 g  S = some zz) : aWp X d 268 0 (aEntL [.ref 382] 4) [] h0 (fun w h' => w = none ∧ rTo h0 zz h') := by
  unfold d_268 at hd
  have HH := rTo.rf HS
  refine wp_lv (l2 := [some (.ref 382), none, none, none]) rfl ?_
  obtain ⟨e, rfl⟩ : ∃ e, d = e + 1 := ⟨d - 1, by omega⟩
  refine wp_s 1 [some (.ref 382), none, none, none] [.ref 382] h0 i_268_0 rfl ?_
  refine wp_s 2 [some (.ref 382), none, none, none] [.ref 382, .ref 382] h0 i_268_1 rfl ?_
  refine wp_get (v := .ref 392) 5 rfl i_268_2 (HH.1 0 (by decide)) rfl ?_
  refine wp_s 6 [some (.ref 382), none, none, none] [.int (1 : Int32), .ref 392, .ref 382] h0 i_268_5 rfl ?_
  obtain ⟨b_1001, hd⟩ := dk_if hd
  refine wp_iald (f := (S.2.1 20)) 7 rfl i_268_6 (HH.1 10 (by decide)) b_1001 ?_
  refine wp_s 8 [some (.ref 382), none, none, none] [.int (1 : Int32), .int ((S.2.1 20) (1 : Int32).toNatClampNeg), .ref 382] h0 i_268_7 rfl ?_
  refine wp_s 9 [some (.ref 382), none, none, none] [.int (((S.2.1 20) (1 : Int32).toNatClampNeg) + (1 : Int32)), .ref 382] h0 i_268_8 rfl ?_
  obtain ⟨z_1002, q_1003, hd⟩ := dk_bind hd
  refine wp_callV 12 rfl i_268_9 (by decide) rfl (vs := [.int (((S.2.1 20) (1 : Int32).toNatClampNeg) + (1 : Int32))]) (rest := []) rfl rfl rfl (HH.1 0 (by decide)) (y := m_267) rfl (Nat.le_of_ble_eq_true rfl) (d_267_ok (d := e) (by omega) HH.1 q_1003) ?_
  rintro v_1006 h_1004 ⟨rfl, H_1005⟩
  have H_1005 := HH.tr H_1005
  refine wp_s 13 [some (.ref 382), some (.int z_1002.1), none, none] [] h_1004 i_268_12 rfl ?_
  refine wp_s 14 [some (.ref 382), some (.int z_1002.1), none, none] [.int z_1002.1] h_1004 i_268_13 rfl ?_
  refine wp_s 15 [some (.ref 382), some (.int z_1002.1), none, none] [.ref 382, .int z_1002.1] h_1004 i_268_14 rfl ?_
  refine wp_get (v := .ref 392) 18 rfl i_268_15 (H_1005.1 0 (by decide)) rfl ?_
  refine wp_s 19 [some (.ref 382), some (.int z_1002.1), none, none] [.int (1 : Int32), .ref 392, .int z_1002.1] h_1004 i_268_18 rfl ?_
  obtain ⟨b_1007, hd⟩ := dk_if hd
  refine wp_iald (f := (z_1002.2.2.1 20)) 20 rfl i_268_19 (H_1005.1 10 (by decide)) b_1007 ?_
  refine wp_cmp_ge 44 23 rfl rfl i_268_20 (fun c_1008 => ?_) (fun c_1008 => ?_)
  · rw [if_pos c_1008] at hd
    refine wp_s 45 [some (.ref 382), some (.int z_1002.1), none, none] [.ref 382] h_1004 i_268_44 rfl ?_
    obtain ⟨z_1009, q_1010, hd⟩ := dk_bind hd
    refine wp_callV 48 rfl i_268_45 (by decide) rfl (vs := []) (rest := []) rfl rfl rfl (H_1005.1 0 (by decide)) (y := m_209) rfl (Nat.le_of_ble_eq_true rfl) (d_209_ok (d := e) (by omega) H_1005.1 q_1010) ?_
    rintro v_1013 h_1011 ⟨rfl, H_1012⟩
    have H_1012 := H_1005.tr H_1012
    refine wp_s 49 [some (.ref 382), some (.int z_1002.1), some (.int z_1009.1), none] [] h_1011 i_268_48 rfl ?_
    refine wp_s 50 [some (.ref 382), some (.int z_1002.1), some (.int z_1009.1), none] [.int z_1009.1] h_1011 i_268_49 rfl ?_
    refine wp_if_ne 54 53 rfl rfl i_268_50 (fun c_1014 => ?_) (fun c_1014 => ?_)
    · rw [if_pos c_1014] at hd
      refine wp_s 55 [some (.ref 382), some (.int z_1002.1), some (.int z_1009.1), none] [.ref 382] h_1011 i_268_54 rfl ?_
      refine wp_s 56 [some (.ref 382), some (.int z_1002.1), some (.int z_1009.1), none] [.ref 382, .ref 382] h_1011 i_268_55 rfl ?_
      refine wp_get (v := .int (z_1009.2.1 42)) 59 rfl i_268_56 (H_1012.1 0 (by decide)) rfl ?_
      refine wp_s 60 [some (.ref 382), some (.int z_1002.1), some (.int z_1009.1), none] [.int z_1009.1, .int (z_1009.2.1 42), .ref 382] h_1011 i_268_59 rfl ?_
      refine wp_s 61 [some (.ref 382), some (.int z_1002.1), some (.int z_1009.1), none] [.int ((z_1009.2.1 42) + z_1009.1), .ref 382] h_1011 i_268_60 rfl ?_
      refine rq_F42 64 rfl i_268_61 H_1012 (fun h_1015 H_1016 => ?_)
      refine wp_s 65 [some (.ref 382), some (.int z_1002.1), some (.int z_1009.1), none] [.ref 382] h_1015 i_268_64 rfl ?_
      refine wp_s 66 [some (.ref 382), some (.int z_1002.1), some (.int z_1009.1), none] [.ref 382, .ref 382] h_1015 i_268_65 rfl ?_
      refine wp_get (v := .int (z_1009.2.1 41)) 69 rfl i_268_66 (H_1016.1 0 (by decide)) rfl ?_
      refine wp_s 70 [some (.ref 382), some (.int z_1002.1), some (.int z_1009.1), none] [.ref 382, .int (z_1009.2.1 41), .ref 382] h_1015 i_268_69 rfl ?_
      refine wp_s 71 [some (.ref 382), some (.int z_1002.1), some (.int z_1009.1), none] [.ref 382, .ref 382, .int (z_1009.2.1 41), .ref 382] h_1015 i_268_70 rfl ?_
      obtain ⟨z_1017, q_1018, hd⟩ := dk_bind hd
      refine wp_callV 74 rfl i_268_71 (by decide) rfl (vs := []) (rest := [.ref 382, .int (z_1009.2.1 41), .ref 382]) rfl rfl rfl (H_1016.1 0 (by decide)) (y := m_210) rfl (Nat.le_of_ble_eq_true rfl) (d_210_ok (d := e) (by omega) H_1016.1 q_1018) ?_
      rintro v_1021 h_1019 ⟨rfl, H_1020⟩
      have H_1020 := H_1016.tr H_1020
      obtain ⟨z_1022, q_1023, hd⟩ := dk_bind hd
      refine wp_callV 77 rfl i_268_74 (by decide) rfl (vs := [.int z_1017.1]) (rest := [.int (z_1009.2.1 41), .ref 382]) rfl rfl rfl (H_1020.1 0 (by decide)) (y := m_208) rfl (Nat.le_of_ble_eq_true rfl) (d_208_ok (d := e) (by omega) H_1020.1 q_1023) ?_
      rintro v_1026 h_1024 ⟨rfl, H_1025⟩
      have H_1025 := H_1020.tr H_1025
      refine wp_s 78 [some (.ref 382), some (.int z_1002.1), some (.int z_1009.1), none] [.int ((z_1009.2.1 41) + z_1022.1), .ref 382] h_1024 i_268_77 rfl ?_
      refine rq_F41 81 rfl i_268_78 H_1025 (fun h_1027 H_1028 => ?_)
      refine wp_s 82 [some (.ref 382), some (.int z_1002.1), some (.int z_1009.1), none] [.int (0 : Int32)] h_1027 i_268_81 rfl ?_
      refine wp_s 83 [some (.ref 382), some (.int z_1002.1), some (.int z_1009.1), some (.int (0 : Int32))] [] h_1027 i_268_82 rfl ?_
      exact aWp.post (aWp.forget ((l_268_ok hdp g) _ _ _ _ _ _ H_1028.1 hd) ((lvS (lvS (lvS (lvS lvE)))))) (fun _ _ hq => ⟨hq.1, H_1028.tr hq.2⟩)
    · rw [if_neg c_1014] at hd
      obtain rfl := Option.some.inj hd
      exact wp_ret i_268_53 rfl ⟨rfl, H_1012⟩
  · rw [if_neg c_1008] at hd
    refine wp_s 24 [some (.ref 382), some (.int z_1002.1), none, none] [.ref 382] h_1004 i_268_23 rfl ?_
    refine wp_s 25 [some (.ref 382), some (.int z_1002.1), none, none] [.int z_1002.1, .ref 382] h_1004 i_268_24 rfl ?_
    obtain ⟨z_1029, q_1030, hd⟩ := dk_bind hd
    refine wp_callV 28 rfl i_268_25 (by decide) rfl (vs := [.int z_1002.1]) (rest := []) rfl rfl rfl (H_1005.1 0 (by decide)) (y := m_223) rfl (Nat.le_of_ble_eq_true rfl) (d_223_ok (d := e) (by omega) H_1005.1 q_1030) ?_
    rintro v_1033 h_1031 ⟨rfl, H_1032⟩
    have H_1032 := H_1005.tr H_1032
    refine wp_s 29 [some (.ref 382), some (.int z_1002.1), none, none] [.ref 382] h_1031 i_268_28 rfl ?_
    refine wp_s 30 [some (.ref 382), some (.int z_1002.1), none, none] [.int z_1002.1, .ref 382] h_1031 i_268_29 rfl ?_
    obtain ⟨z_1034, q_1035, hd⟩ := dk_bind hd
    refine wp_callV 33 rfl i_268_30 (by decide) rfl (vs := [.int z_1002.1]) (rest := []) rfl rfl rfl (H_1032.1 0 (by decide)) (y := m_216) rfl (Nat.le_of_ble_eq_true rfl) (d_216_ok (d := e) (by omega) H_1032.1 q_1035) ?_
    rintro v_1038 h_1036 ⟨rfl, H_1037⟩
    have H_1037 := H_1032.tr H_1037
    refine wp_if_eq 43 36 rfl rfl i_268_33 (fun c_1039 => ?_) (fun c_1039 => ?_)
    · rw [if_pos c_1039] at hd
      obtain rfl := Option.some.inj hd
      exact wp_ret i_268_43 rfl ⟨rfl, H_1037⟩
    · rw [if_neg c_1039] at hd
      refine wp_s 37 [some (.ref 382), some (.int z_1002.1), none, none] [.ref 382] h_1036 i_268_36 rfl ?_
      refine wp_s 38 [some (.ref 382), some (.int z_1002.1), none, none] [.int z_1002.1, .ref 382] h_1036 i_268_37 rfl ?_
      refine wp_s 39 [some (.ref 382), some (.int z_1002.1), none, none] [.int (1 : Int32), .int z_1002.1, .ref 382] h_1036 i_268_38 rfl ?_
      refine wp_s 40 [some (.ref 382), some (.int z_1002.1), none, none] [.int (1 : Int32), .int (1 : Int32), .int z_1002.1, .ref 382] h_1036 i_268_39 rfl ?_
      obtain ⟨z_1040, q_1041, hd⟩ := dk_bind hd
      refine wp_callV 43 rfl i_268_40 (by decide) rfl (vs := [.int z_1002.1, .int (1 : Int32), .int (1 : Int32)]) (rest := []) rfl rfl rfl (H_1037.1 0 (by decide)) (y := m_217) rfl (Nat.le_of_ble_eq_true rfl) (d_217_ok (d := e) (by omega) H_1037.1 q_1041) ?_
      rintro v_1044 h_1042 ⟨rfl, H_1043⟩
      have H_1043 := H_1037.tr H_1043
      obtain rfl := Option.some.inj hd
      exact wp_ret i_268_43 rfl ⟨rfl, H_1043⟩
