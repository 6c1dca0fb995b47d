theorem i_106_0 : aIns 106 0 = some (.iload_n 1, 1, 0, 0, .null) := by decide +kernel
theorem i_106_1 : aIns 106 1 = some (.iconst (-1), 1, 0, 0, .int (-1)) := by decide +kernel
theorem i_106_2 : aIns 106 2 = some (.if_icmp .lt 14, 3, 0, 0, .null) := by decide +kernel
theorem i_106_5 : aIns 106 5 = some (.iload_n 1, 1, 0, 0, .null) := by decide +kernel
theorem i_106_6 : aIns 106 6 = some (.aload_n 0, 1, 0, 0, .null) := by decide +kernel
theorem i_106_7 : aIns 106 7 = some (.getfield 44, 3, 11, 4, .null) := by decide +kernel
theorem i_106_10 : aIns 106 10 = some (.getfield 97, 3, 9, 2, .null) := by decide +kernel
theorem i_106_13 : aIns 106 13 = some (.if_icmp .lt 6, 3, 0, 0, .null) := by decide +kernel
theorem i_106_16 : aIns 106 16 = some (.bipush (-2), 2, 0, 0, .int (-2)) := by decide +kernel
theorem i_106_18 : aIns 106 18 = some (.ireturn, 1, 0, 0, .null) := by decide +kernel
theorem i_106_19 : aIns 106 19 = some (.aload_n 0, 1, 0, 0, .null) := by decide +kernel
theorem i_106_20 : aIns 106 20 = some (.getfield 35, 3, 11, 3, .null) := by decide +kernel
theorem i_106_23 : aIns 106 23 = some (.getfield 107, 3, 10, 2, .null) := by decide +kernel
theorem i_106_26 : aIns 106 26 = some (.istore_n 2, 1, 0, 0, .null) := by decide +kernel
theorem i_106_27 : aIns 106 27 = some (.aload_n 0, 1, 0, 0, .null) := by decide +kernel
theorem i_106_28 : aIns 106 28 = some (.getfield 35, 3, 11, 3, .null) := by decide +kernel
theorem i_106_31 : aIns 106 31 = some (.iload_n 1, 1, 0, 0, .null) := by decide +kernel
theorem i_106_32 : aIns 106 32 = some (.putfield 107, 3, 10, 2, .null) := by decide +kernel
theorem i_106_35 : aIns 106 35 = some (.iload_n 2, 1, 0, 0, .null) := by decide +kernel
theorem i_106_36 : aIns 106 36 = some (.ireturn, 1, 0, 0, .null) := by decide +kernel
theorem i_107_0 : aIns 107 0 = some (.aload_n 0, 1, 0, 0, .null) := by decide +kernel
theorem i_107_1 : aIns 107 1 = some (.getfield 35, 3, 11, 3, .null) := by decide +kernel
theorem i_107_4 : aIns 107 4 = some (.getfield 110, 3, 10, 0, .null) := by decide +kernel
theorem i_107_7 : aIns 107 7 = some (.iload_n 1, 1, 0, 0, .null) := by decide +kernel
theorem i_107_8 : aIns 107 8 = some (.invokevirtual 114, 3, 55, 1, .int 5) := by decide +kernel
theorem i_107_11 : aIns 107 11 = some (.ifCond .ne 5, 3, 0, 0, .null) := by decide +kernel
theorem i_107_14 : aIns 107 14 = some (.iconst (-1), 1, 0, 0, .int (-1)) := by decide +kernel
theorem i_107_15 : aIns 107 15 = some (.ireturn, 1, 0, 0, .null) := by decide +kernel
theorem i_107_16 : aIns 107 16 = some (.aload_n 0, 1, 0, 0, .null) := by decide +kernel
theorem i_107_17 : aIns 107 17 = some (.getfield 35, 3, 11, 3, .null) := by decide +kernel
theorem i_107_20 : aIns 107 20 = some (.getfield 118, 3, 10, 1, .null) := by decide +kernel
theorem i_107_23 : aIns 107 23 = some (.astore_n 3, 1, 0, 0, .null) := by decide +kernel
theorem i_107_24 : aIns 107 24 = some (.iload_n 2, 1, 0, 0, .null) := by decide +kernel
theorem i_107_25 : aIns 107 25 = some (.tableswitch 117 0 7 #[47, 56, 63, 70, 77, 84, 91, 104], 47, 0, 0, .null) := by decide +kernel
theorem i_107_72 : aIns 107 72 = some (.aload_n 0, 1, 0, 0, .null) := by decide +kernel
theorem i_107_73 : aIns 107 73 = some (.getfield 44, 3, 11, 4, .null) := by decide +kernel
theorem i_107_76 : aIns 107 76 = some (.iload_n 1, 1, 0, 0, .null) := by decide +kernel
theorem i_107_77 : aIns 107 77 = some (.invokevirtual 122, 3, 91, 1, .int 9) := by decide +kernel
theorem i_107_80 : aIns 107 80 = some (.ireturn, 1, 0, 0, .null) := by decide +kernel
theorem i_107_81 : aIns 107 81 = some (.aload_n 3, 1, 0, 0, .null) := by decide +kernel
theorem i_107_82 : aIns 107 82 = some (.getfield 126, 3, 7, 1, .null) := by decide +kernel
theorem i_107_85 : aIns 107 85 = some (.iload_n 1, 1, 0, 0, .null) := by decide +kernel
theorem i_107_86 : aIns 107 86 = some (.iaload, 1, 0, 0, .null) := by decide +kernel
theorem i_107_87 : aIns 107 87 = some (.ireturn, 1, 0, 0, .null) := by decide +kernel
theorem i_107_88 : aIns 107 88 = some (.aload_n 3, 1, 0, 0, .null) := by decide +kernel
theorem i_107_89 : aIns 107 89 = some (.getfield 132, 3, 7, 0, .null) := by decide +kernel
theorem i_107_92 : aIns 107 92 = some (.iload_n 1, 1, 0, 0, .null) := by decide +kernel
theorem i_107_93 : aIns 107 93 = some (.iaload, 1, 0, 0, .null) := by decide +kernel
theorem i_107_94 : aIns 107 94 = some (.ireturn, 1, 0, 0, .null) := by decide +kernel
theorem i_107_95 : aIns 107 95 = some (.aload_n 3, 1, 0, 0, .null) := by decide +kernel
theorem i_107_96 : aIns 107 96 = some (.getfield 135, 3, 7, 2, .null) := by decide +kernel
theorem i_107_99 : aIns 107 99 = some (.iload_n 1, 1, 0, 0, .null) := by decide +kernel
theorem i_107_100 : aIns 107 100 = some (.iaload, 1, 0, 0, .null) := by decide +kernel
theorem i_107_101 : aIns 107 101 = some (.ireturn, 1, 0, 0, .null) := by decide +kernel
theorem i_107_102 : aIns 107 102 = some (.aload_n 3, 1, 0, 0, .null) := by decide +kernel
theorem i_107_103 : aIns 107 103 = some (.getfield 138, 3, 7, 3, .null) := by decide +kernel
theorem i_107_106 : aIns 107 106 = some (.iload_n 1, 1, 0, 0, .null) := by decide +kernel
theorem i_107_107 : aIns 107 107 = some (.iaload, 1, 0, 0, .null) := by decide +kernel
theorem i_107_108 : aIns 107 108 = some (.ireturn, 1, 0, 0, .null) := by decide +kernel
theorem i_107_109 : aIns 107 109 = some (.aload_n 3, 1, 0, 0, .null) := by decide +kernel
theorem i_107_110 : aIns 107 110 = some (.getfield 141, 3, 7, 4, .null) := by decide +kernel
theorem i_107_113 : aIns 107 113 = some (.iload_n 1, 1, 0, 0, .null) := by decide +kernel
theorem i_107_114 : aIns 107 114 = some (.iaload, 1, 0, 0, .null) := by decide +kernel
theorem i_107_115 : aIns 107 115 = some (.ireturn, 1, 0, 0, .null) := by decide +kernel
theorem i_107_116 : aIns 107 116 = some (.aload_n 0, 1, 0, 0, .null) := by decide +kernel
theorem i_107_117 : aIns 107 117 = some (.getfield 35, 3, 11, 3, .null) := by decide +kernel
theorem i_107_120 : aIns 107 120 = some (.getfield 110, 3, 10, 0, .null) := by decide +kernel
theorem i_107_123 : aIns 107 123 = some (.getfield 144, 3, 5, 5, .null) := by decide +kernel
theorem i_107_126 : aIns 107 126 = some (.iload_n 1, 1, 0, 0, .null) := by decide +kernel
theorem i_107_127 : aIns 107 127 = some (.iaload, 1, 0, 0, .null) := by decide +kernel
theorem i_107_128 : aIns 107 128 = some (.ireturn, 1, 0, 0, .null) := by decide +kernel
theorem i_107_129 : aIns 107 129 = some (.aload_n 0, 1, 0, 0, .null) := by decide +kernel
theorem i_107_130 : aIns 107 130 = some (.getfield 35, 3, 11, 3, .null) := by decide +kernel
theorem i_107_133 : aIns 107 133 = some (.getfield 110, 3, 10, 0, .null) := by decide +kernel
theorem i_107_136 : aIns 107 136 = some (.getfield 147, 3, 5, 6, .null) := by decide +kernel
theorem i_107_139 : aIns 107 139 = some (.iload_n 1, 1, 0, 0, .null) := by decide +kernel
theorem i_107_140 : aIns 107 140 = some (.iaload, 1, 0, 0, .null) := by decide +kernel
theorem i_107_141 : aIns 107 141 = some (.ireturn, 1, 0, 0, .null) := by decide +kernel
theorem i_107_142 : aIns 107 142 = some (.iconst (-1), 1, 0, 0, .int (-1)) := by decide +kernel
theorem i_107_143 : aIns 107 143 = some (.ireturn, 1, 0, 0, .null) := by decide +kernel
theorem i_108_0 : aIns 108 0 = some (.aload_n 0, 1, 0, 0, .null) := by decide +kernel
theorem i_108_1 : aIns 108 1 = some (.getfield 35, 3, 11, 3, .null) := by decide +kernel
theorem i_108_4 : aIns 108 4 = some (.getfield 110, 3, 10, 0, .null) := by decide +kernel
theorem i_108_7 : aIns 108 7 = some (.astore_n 3, 1, 0, 0, .null) := by decide +kernel
theorem i_108_8 : aIns 108 8 = some (.aload_n 3, 1, 0, 0, .null) := by decide +kernel
theorem i_108_9 : aIns 108 9 = some (.iload_n 1, 1, 0, 0, .null) := by decide +kernel
theorem i_108_10 : aIns 108 10 = some (.invokevirtual 150, 3, 56, 1, .int 5) := by decide +kernel
theorem i_108_13 : aIns 108 13 = some (.ifCond .ne 6, 3, 0, 0, .null) := by decide +kernel
theorem i_108_16 : aIns 108 16 = some (.bipush (-2), 2, 0, 0, .int (-2)) := by decide +kernel
theorem i_108_18 : aIns 108 18 = some (.ireturn, 1, 0, 0, .null) := by decide +kernel
theorem i_108_19 : aIns 108 19 = some (.iload_n 2, 1, 0, 0, .null) := by decide +kernel
theorem i_108_20 : aIns 108 20 = some (.tableswitch 103 0 5 #[40, 50, 57, 64, 76, 96], 40, 0, 0, .null) := by decide +kernel
theorem i_108_60 : aIns 108 60 = some (.aload_n 3, 1, 0, 0, .null) := by decide +kernel
theorem i_108_61 : aIns 108 61 = some (.getfield 153, 3, 5, 16, .null) := by decide +kernel
theorem i_108_64 : aIns 108 64 = some (.iload_n 1, 1, 0, 0, .null) := by decide +kernel
theorem i_108_65 : aIns 108 65 = some (.iaload, 1, 0, 0, .null) := by decide +kernel
theorem i_108_66 : aIns 108 66 = some (.bipush 10, 2, 0, 0, .int (10)) := by decide +kernel
theorem i_108_68 : aIns 108 68 = some (.isub, 1, 0, 0, .null) := by decide +kernel
theorem i_108_69 : aIns 108 69 = some (.ireturn, 1, 0, 0, .null) := by decide +kernel
theorem i_108_70 : aIns 108 70 = some (.aload_n 3, 1, 0, 0, .null) := by decide +kernel
theorem i_108_71 : aIns 108 71 = some (.getfield 156, 3, 5, 17, .null) := by decide +kernel
theorem i_108_74 : aIns 108 74 = some (.iload_n 1, 1, 0, 0, .null) := by decide +kernel
theorem i_108_75 : aIns 108 75 = some (.iaload, 1, 0, 0, .null) := by decide +kernel
theorem i_108_76 : aIns 108 76 = some (.ireturn, 1, 0, 0, .null) := by decide +kernel
theorem i_108_77 : aIns 108 77 = some (.aload_n 3, 1, 0, 0, .null) := by decide +kernel
theorem i_108_78 : aIns 108 78 = some (.getfield 159, 3, 5, 18, .null) := by decide +kernel
theorem i_108_81 : aIns 108 81 = some (.iload_n 1, 1, 0, 0, .null) := by decide +kernel
theorem i_108_82 : aIns 108 82 = some (.iaload, 1, 0, 0, .null) := by decide +kernel
theorem i_108_83 : aIns 108 83 = some (.ireturn, 1, 0, 0, .null) := by decide +kernel
theorem i_108_84 : aIns 108 84 = some (.aload_n 0, 1, 0, 0, .null) := by decide +kernel
theorem i_108_85 : aIns 108 85 = some (.getfield 35, 3, 11, 3, .null) := by decide +kernel
theorem i_108_88 : aIns 108 88 = some (.getfield 118, 3, 10, 1, .null) := by decide +kernel
theorem i_108_91 : aIns 108 91 = some (.iload_n 1, 1, 0, 0, .null) := by decide +kernel
theorem i_108_92 : aIns 108 92 = some (.invokevirtual 162, 3, 76, 1, .int 7) := by decide +kernel
theorem i_108_95 : aIns 108 95 = some (.ireturn, 1, 0, 0, .null) := by decide +kernel
theorem i_108_96 : aIns 108 96 = some (.aload_n 0, 1, 0, 0, .null) := by decide +kernel
theorem i_108_97 : aIns 108 97 = some (.getfield 35, 3, 11, 3, .null) := by decide +kernel
theorem i_108_100 : aIns 108 100 = some (.getfield 118, 3, 10, 1, .null) := by decide +kernel
theorem i_108_103 : aIns 108 103 = some (.iload_n 1, 1, 0, 0, .null) := by decide +kernel
theorem i_108_104 : aIns 108 104 = some (.invokevirtual 165, 3, 77, 1, .int 7) := by decide +kernel
theorem i_108_107 : aIns 108 107 = some (.ifCond .eq 7, 3, 0, 0, .null) := by decide +kernel
theorem i_108_110 : aIns 108 110 = some (.iconst 1, 1, 0, 0, .int (1)) := by decide +kernel
theorem i_108_111 : aIns 108 111 = some (.goto 4, 3, 0, 0, .null) := by decide +kernel
theorem i_108_114 : aIns 108 114 = some (.iconst 0, 1, 0, 0, .int (0)) := by decide +kernel
theorem i_108_115 : aIns 108 115 = some (.ireturn, 1, 0, 0, .null) := by decide +kernel
theorem i_108_116 : aIns 108 116 = some (.aload_n 3, 1, 0, 0, .null) := by decide +kernel
theorem i_108_117 : aIns 108 117 = some (.getfield 168, 3, 5, 19, .null) := by decide +kernel
theorem i_108_120 : aIns 108 120 = some (.iload_n 1, 1, 0, 0, .null) := by decide +kernel
theorem i_108_121 : aIns 108 121 = some (.iaload, 1, 0, 0, .null) := by decide +kernel
theorem i_108_122 : aIns 108 122 = some (.ireturn, 1, 0, 0, .null) := by decide +kernel
theorem i_108_123 : aIns 108 123 = some (.bipush (-2), 2, 0, 0, .int (-2)) := by decide +kernel
theorem i_108_125 : aIns 108 125 = some (.ireturn, 1, 0, 0, .null) := by decide +kernel
theorem i_109_0 : aIns 109 0 = some (.iload_n 1, 1, 0, 0, .null) := by decide +kernel
theorem i_109_1 : aIns 109 1 = some (.ifCond .lt 26, 3, 0, 0, .null) := by decide +kernel
theorem i_109_4 : aIns 109 4 = some (.iload_n 1, 1, 0, 0, .null) := by decide +kernel
theorem i_109_5 : aIns 109 5 = some (.aload_n 0, 1, 0, 0, .null) := by decide +kernel
theorem i_109_6 : aIns 109 6 = some (.getfield 35, 3, 11, 3, .null) := by decide +kernel
theorem i_109_9 : aIns 109 9 = some (.getfield 110, 3, 10, 0, .null) := by decide +kernel
theorem i_109_12 : aIns 109 12 = some (.getfield 171, 3, 5, 8, .null) := by decide +kernel
theorem i_109_15 : aIns 109 15 = some (.if_icmp .ge 12, 3, 0, 0, .null) := by decide +kernel
theorem i_109_18 : aIns 109 18 = some (.iload_n 2, 1, 0, 0, .null) := by decide +kernel
theorem i_109_19 : aIns 109 19 = some (.ifCond .lt 8, 3, 0, 0, .null) := by decide +kernel
theorem i_109_22 : aIns 109 22 = some (.iload_n 2, 1, 0, 0, .null) := by decide +kernel
theorem i_109_23 : aIns 109 23 = some (.iconst 1, 1, 0, 0, .int (1)) := by decide +kernel
theorem i_109_24 : aIns 109 24 = some (.if_icmp .le 5, 3, 0, 0, .null) := by decide +kernel
theorem i_109_27 : aIns 109 27 = some (.iconst (-1), 1, 0, 0, .int (-1)) := by decide +kernel
theorem i_109_28 : aIns 109 28 = some (.ireturn, 1, 0, 0, .null) := by decide +kernel
theorem i_109_29 : aIns 109 29 = some (.iload_n 2, 1, 0, 0, .null) := by decide +kernel
theorem i_109_30 : aIns 109 30 = some (.ifCond .ne 18, 3, 0, 0, .null) := by decide +kernel
theorem i_109_33 : aIns 109 33 = some (.aload_n 0, 1, 0, 0, .null) := by decide +kernel
theorem i_109_34 : aIns 109 34 = some (.getfield 35, 3, 11, 3, .null) := by decide +kernel
theorem i_109_37 : aIns 109 37 = some (.getfield 110, 3, 10, 0, .null) := by decide +kernel
theorem i_109_40 : aIns 109 40 = some (.getfield 174, 3, 5, 9, .null) := by decide +kernel
theorem i_109_43 : aIns 109 43 = some (.iload_n 1, 1, 0, 0, .null) := by decide +kernel
theorem i_109_44 : aIns 109 44 = some (.iaload, 1, 0, 0, .null) := by decide +kernel
theorem i_109_45 : aIns 109 45 = some (.goto 15, 3, 0, 0, .null) := by decide +kernel
theorem i_109_48 : aIns 109 48 = some (.aload_n 0, 1, 0, 0, .null) := by decide +kernel
theorem i_109_49 : aIns 109 49 = some (.getfield 35, 3, 11, 3, .null) := by decide +kernel
theorem i_109_52 : aIns 109 52 = some (.getfield 110, 3, 10, 0, .null) := by decide +kernel
theorem i_109_55 : aIns 109 55 = some (.getfield 177, 3, 5, 10, .null) := by decide +kernel
theorem i_109_58 : aIns 109 58 = some (.iload_n 1, 1, 0, 0, .null) := by decide +kernel
theorem i_109_59 : aIns 109 59 = some (.iaload, 1, 0, 0, .null) := by decide +kernel
theorem i_109_60 : aIns 109 60 = some (.ireturn, 1, 0, 0, .null) := by decide +kernel
theorem i_110_0 : aIns 110 0 = some (.aload_n 0, 1, 0, 0, .null) := by decide +kernel
theorem i_110_1 : aIns 110 1 = some (.getfield 35, 3, 11, 3, .null) := by decide +kernel
theorem i_110_4 : aIns 110 4 = some (.getfield 110, 3, 10, 0, .null) := by decide +kernel
theorem i_110_7 : aIns 110 7 = some (.iload_n 1, 1, 0, 0, .null) := by decide +kernel
theorem i_110_8 : aIns 110 8 = some (.invokevirtual 114, 3, 55, 1, .int 5) := by decide +kernel
theorem i_110_11 : aIns 110 11 = some (.ifCond .eq 24, 3, 0, 0, .null) := by decide +kernel
theorem i_110_14 : aIns 110 14 = some (.iload_n 2, 1, 0, 0, .null) := by decide +kernel
theorem i_110_15 : aIns 110 15 = some (.iconst 0, 1, 0, 0, .int (0)) := by decide +kernel
theorem i_110_16 : aIns 110 16 = some (.sipush 999, 3, 0, 0, .int (999)) := by decide +kernel
theorem i_110_19 : aIns 110 19 = some (.invokestatic 180, 3, 138, 3, .null) := by decide +kernel
theorem i_110_22 : aIns 110 22 = some (.ifCond .eq 13, 3, 0, 0, .null) := by decide +kernel
theorem i_110_25 : aIns 110 25 = some (.iload_n 3, 1, 0, 0, .null) := by decide +kernel
theorem i_110_26 : aIns 110 26 = some (.iconst 0, 1, 0, 0, .int (0)) := by decide +kernel
theorem i_110_27 : aIns 110 27 = some (.bipush 99, 2, 0, 0, .int (99)) := by decide +kernel
theorem i_110_29 : aIns 110 29 = some (.invokestatic 180, 3, 138, 3, .null) := by decide +kernel
theorem i_110_32 : aIns 110 32 = some (.ifCond .ne 5, 3, 0, 0, .null) := by decide +kernel
theorem i_110_35 : aIns 110 35 = some (.iconst (-1), 1, 0, 0, .int (-1)) := by decide +kernel
theorem i_110_36 : aIns 110 36 = some (.ireturn, 1, 0, 0, .null) := by decide +kernel
theorem i_110_37 : aIns 110 37 = some (.aload_n 0, 1, 0, 0, .null) := by decide +kernel
theorem i_110_38 : aIns 110 38 = some (.getfield 44, 3, 11, 4, .null) := by decide +kernel
theorem i_110_41 : aIns 110 41 = some (.aload_n 0, 1, 0, 0, .null) := by decide +kernel
theorem i_110_42 : aIns 110 42 = some (.getfield 35, 3, 11, 3, .null) := by decide +kernel
theorem i_110_45 : aIns 110 45 = some (.getfield 118, 3, 10, 1, .null) := by decide +kernel
theorem i_110_48 : aIns 110 48 = some (.aload_n 0, 1, 0, 0, .null) := by decide +kernel
theorem i_110_49 : aIns 110 49 = some (.getfield 35, 3, 11, 3, .null) := by decide +kernel
theorem i_110_52 : aIns 110 52 = some (.getfield 107, 3, 10, 2, .null) := by decide +kernel
theorem i_110_55 : aIns 110 55 = some (.iload_n 1, 1, 0, 0, .null) := by decide +kernel
theorem i_110_56 : aIns 110 56 = some (.iload_n 2, 1, 0, 0, .null) := by decide +kernel
theorem i_110_57 : aIns 110 57 = some (.iload_n 3, 1, 0, 0, .null) := by decide +kernel
theorem i_110_58 : aIns 110 58 = some (.invokevirtual 184, 3, 89, 5, .int 9) := by decide +kernel
theorem i_110_61 : aIns 110 61 = some (.ireturn, 1, 0, 0, .null) := by decide +kernel
theorem i_111_0 : aIns 111 0 = some (.aload_n 0, 1, 0, 0, .null) := by decide +kernel
theorem i_111_1 : aIns 111 1 = some (.getfield 35, 3, 11, 3, .null) := by decide +kernel
theorem i_111_4 : aIns 111 4 = some (.getfield 110, 3, 10, 0, .null) := by decide +kernel
theorem i_111_7 : aIns 111 7 = some (.getfield 188, 3, 5, 0, .null) := by decide +kernel
theorem i_111_10 : aIns 111 10 = some (.ifCond .eq 12, 3, 0, 0, .null) := by decide +kernel
theorem i_111_13 : aIns 111 13 = some (.iload_n 1, 1, 0, 0, .null) := by decide +kernel
theorem i_111_14 : aIns 111 14 = some (.ifCond .lt 8, 3, 0, 0, .null) := by decide +kernel
theorem i_111_17 : aIns 111 17 = some (.iload_n 1, 1, 0, 0, .null) := by decide +kernel
theorem i_111_18 : aIns 111 18 = some (.iconst 1, 1, 0, 0, .int (1)) := by decide +kernel
theorem i_111_19 : aIns 111 19 = some (.if_icmp .le 5, 3, 0, 0, .null) := by decide +kernel
theorem i_111_22 : aIns 111 22 = some (.iconst (-1), 1, 0, 0, .int (-1)) := by decide +kernel
theorem i_111_23 : aIns 111 23 = some (.ireturn, 1, 0, 0, .null) := by decide +kernel
theorem i_111_24 : aIns 111 24 = some (.aload_n 0, 1, 0, 0, .null) := by decide +kernel
theorem i_111_25 : aIns 111 25 = some (.getfield 44, 3, 11, 4, .null) := by decide +kernel
theorem i_111_28 : aIns 111 28 = some (.invokevirtual 191, 3, 93, 0, .int 9) := by decide +kernel
theorem i_111_31 : aIns 111 31 = some (.istore_n 2, 1, 0, 0, .null) := by decide +kernel
theorem i_111_32 : aIns 111 32 = some (.iload_n 1, 1, 0, 0, .null) := by decide +kernel
theorem i_111_33 : aIns 111 33 = some (.ifCond .ne 7, 3, 0, 0, .null) := by decide +kernel
theorem i_111_36 : aIns 111 36 = some (.iload_n 2, 1, 0, 0, .null) := by decide +kernel
theorem i_111_37 : aIns 111 37 = some (.goto 10, 3, 0, 0, .null) := by decide +kernel
theorem i_111_40 : aIns 111 40 = some (.aload_n 0, 1, 0, 0, .null) := by decide +kernel
theorem i_111_41 : aIns 111 41 = some (.getfield 44, 3, 11, 4, .null) := by decide +kernel
theorem i_111_44 : aIns 111 44 = some (.getfield 195, 3, 9, 4, .null) := by decide +kernel
theorem i_111_47 : aIns 111 47 = some (.ireturn, 1, 0, 0, .null) := by decide +kernel
theorem i_112_0 : aIns 112 0 = some (.aload_n 0, 1, 0, 0, .null) := by decide +kernel
theorem i_112_1 : aIns 112 1 = some (.getfield 35, 3, 11, 3, .null) := by decide +kernel
theorem i_112_4 : aIns 112 4 = some (.getfield 118, 3, 10, 1, .null) := by decide +kernel
theorem i_112_7 : aIns 112 7 = some (.astore_n 2, 1, 0, 0, .null) := by decide +kernel
theorem i_112_8 : aIns 112 8 = some (.aload_n 0, 1, 0, 0, .null) := by decide +kernel
theorem i_112_9 : aIns 112 9 = some (.getfield 35, 3, 11, 3, .null) := by decide +kernel
theorem i_112_12 : aIns 112 12 = some (.getfield 110, 3, 10, 0, .null) := by decide +kernel
theorem i_112_15 : aIns 112 15 = some (.iload_n 1, 1, 0, 0, .null) := by decide +kernel
theorem i_112_16 : aIns 112 16 = some (.invokevirtual 114, 3, 55, 1, .int 5) := by decide +kernel
theorem i_112_19 : aIns 112 19 = some (.ifCond .eq 11, 3, 0, 0, .null) := by decide +kernel
theorem i_112_22 : aIns 112 22 = some (.aload_n 2, 1, 0, 0, .null) := by decide +kernel
theorem i_112_23 : aIns 112 23 = some (.iload_n 1, 1, 0, 0, .null) := by decide +kernel
theorem i_112_24 : aIns 112 24 = some (.invokevirtual 198, 3, 74, 1, .int 7) := by decide +kernel
theorem i_112_27 : aIns 112 27 = some (.ifCond .ne 5, 3, 0, 0, .null) := by decide +kernel
theorem i_112_30 : aIns 112 30 = some (.iconst (-1), 1, 0, 0, .int (-1)) := by decide +kernel
theorem i_112_31 : aIns 112 31 = some (.ireturn, 1, 0, 0, .null) := by decide +kernel
theorem i_112_32 : aIns 112 32 = some (.aload_n 0, 1, 0, 0, .null) := by decide +kernel
theorem i_112_33 : aIns 112 33 = some (.getfield 60, 3, 11, 6, .null) := by decide +kernel
theorem i_112_36 : aIns 112 36 = some (.aload_n 2, 1, 0, 0, .null) := by decide +kernel
theorem i_112_37 : aIns 112 37 = some (.invokevirtual 201, 3, 8, 1, .int 1) := by decide +kernel
theorem i_112_40 : aIns 112 40 = some (.aload_n 2, 1, 0, 0, .null) := by decide +kernel
theorem i_112_41 : aIns 112 41 = some (.getfield 132, 3, 7, 0, .null) := by decide +kernel
theorem i_112_44 : aIns 112 44 = some (.iload_n 1, 1, 0, 0, .null) := by decide +kernel
theorem i_112_45 : aIns 112 45 = some (.dup2, 1, 0, 0, .null) := by decide +kernel
theorem i_112_46 : aIns 112 46 = some (.iaload, 1, 0, 0, .null) := by decide +kernel
theorem i_112_47 : aIns 112 47 = some (.iconst 1, 1, 0, 0, .int (1)) := by decide +kernel
theorem i_112_48 : aIns 112 48 = some (.iadd, 1, 0, 0, .null) := by decide +kernel
theorem i_112_49 : aIns 112 49 = some (.iastore, 1, 0, 0, .null) := by decide +kernel
theorem i_112_50 : aIns 112 50 = some (.aload_n 2, 1, 0, 0, .null) := by decide +kernel
theorem i_112_51 : aIns 112 51 = some (.getfield 132, 3, 7, 0, .null) := by decide +kernel
theorem i_112_54 : aIns 112 54 = some (.iload_n 1, 1, 0, 0, .null) := by decide +kernel
theorem i_112_55 : aIns 112 55 = some (.iaload, 1, 0, 0, .null) := by decide +kernel
theorem i_112_56 : aIns 112 56 = some (.ireturn, 1, 0, 0, .null) := by decide +kernel
theorem i_113_0 : aIns 113 0 = some (.aload_n 0, 1, 0, 0, .null) := by decide +kernel
theorem i_113_1 : aIns 113 1 = some (.getfield 35, 3, 11, 3, .null) := by decide +kernel
theorem i_113_4 : aIns 113 4 = some (.getfield 118, 3, 10, 1, .null) := by decide +kernel
theorem i_113_7 : aIns 113 7 = some (.astore_n 2, 1, 0, 0, .null) := by decide +kernel
theorem i_113_8 : aIns 113 8 = some (.aload_n 0, 1, 0, 0, .null) := by decide +kernel
theorem i_113_9 : aIns 113 9 = some (.getfield 35, 3, 11, 3, .null) := by decide +kernel
theorem i_113_12 : aIns 113 12 = some (.getfield 110, 3, 10, 0, .null) := by decide +kernel
theorem i_113_15 : aIns 113 15 = some (.iload_n 1, 1, 0, 0, .null) := by decide +kernel
theorem i_113_16 : aIns 113 16 = some (.invokevirtual 114, 3, 55, 1, .int 5) := by decide +kernel
theorem i_113_19 : aIns 113 19 = some (.ifCond .eq 13, 3, 0, 0, .null) := by decide +kernel
theorem i_113_22 : aIns 113 22 = some (.aload_n 2, 1, 0, 0, .null) := by decide +kernel
theorem i_113_23 : aIns 113 23 = some (.getfield 132, 3, 7, 0, .null) := by decide +kernel
theorem i_113_26 : aIns 113 26 = some (.iload_n 1, 1, 0, 0, .null) := by decide +kernel
theorem i_113_27 : aIns 113 27 = some (.iaload, 1, 0, 0, .null) := by decide +kernel
theorem i_113_28 : aIns 113 28 = some (.iconst 1, 1, 0, 0, .int (1)) := by decide +kernel
theorem i_113_29 : aIns 113 29 = some (.if_icmp .ge 5, 3, 0, 0, .null) := by decide +kernel
theorem i_113_32 : aIns 113 32 = some (.iconst (-1), 1, 0, 0, .int (-1)) := by decide +kernel
theorem i_113_33 : aIns 113 33 = some (.ireturn, 1, 0, 0, .null) := by decide +kernel
theorem i_113_34 : aIns 113 34 = some (.aload_n 0, 1, 0, 0, .null) := by decide +kernel
theorem i_113_35 : aIns 113 35 = some (.getfield 60, 3, 11, 6, .null) := by decide +kernel
theorem i_113_38 : aIns 113 38 = some (.aload_n 2, 1, 0, 0, .null) := by decide +kernel
theorem i_113_39 : aIns 113 39 = some (.invokevirtual 201, 3, 8, 1, .int 1) := by decide +kernel
theorem i_113_42 : aIns 113 42 = some (.aload_n 2, 1, 0, 0, .null) := by decide +kernel
theorem i_113_43 : aIns 113 43 = some (.getfield 132, 3, 7, 0, .null) := by decide +kernel
theorem i_113_46 : aIns 113 46 = some (.iload_n 1, 1, 0, 0, .null) := by decide +kernel
theorem i_113_47 : aIns 113 47 = some (.dup2, 1, 0, 0, .null) := by decide +kernel
theorem i_113_48 : aIns 113 48 = some (.iaload, 1, 0, 0, .null) := by decide +kernel
theorem i_113_49 : aIns 113 49 = some (.iconst 1, 1, 0, 0, .int (1)) := by decide +kernel
theorem i_113_50 : aIns 113 50 = some (.isub, 1, 0, 0, .null) := by decide +kernel
theorem i_113_51 : aIns 113 51 = some (.iastore, 1, 0, 0, .null) := by decide +kernel
theorem i_113_52 : aIns 113 52 = some (.aload_n 2, 1, 0, 0, .null) := by decide +kernel
theorem i_113_53 : aIns 113 53 = some (.getfield 132, 3, 7, 0, .null) := by decide +kernel
theorem i_113_56 : aIns 113 56 = some (.iload_n 1, 1, 0, 0, .null) := by decide +kernel
theorem i_113_57 : aIns 113 57 = some (.iaload, 1, 0, 0, .null) := by decide +kernel
theorem i_113_58 : aIns 113 58 = some (.ireturn, 1, 0, 0, .null) := by decide +kernel
theorem i_114_0 : aIns 114 0 = some (.aload_n 0, 1, 0, 0, .null) := by decide +kernel
theorem i_114_1 : aIns 114 1 = some (.getfield 35, 3, 11, 3, .null) := by decide +kernel
theorem i_114_4 : aIns 114 4 = some (.getfield 118, 3, 10, 1, .null) := by decide +kernel
theorem i_114_7 : aIns 114 7 = some (.astore_n 2, 1, 0, 0, .null) := by decide +kernel
theorem i_114_8 : aIns 114 8 = some (.aload_n 0, 1, 0, 0, .null) := by decide +kernel
theorem i_114_9 : aIns 114 9 = some (.getfield 35, 3, 11, 3, .null) := by decide +kernel
theorem i_114_12 : aIns 114 12 = some (.getfield 110, 3, 10, 0, .null) := by decide +kernel
theorem i_114_15 : aIns 114 15 = some (.iload_n 1, 1, 0, 0, .null) := by decide +kernel
theorem i_114_16 : aIns 114 16 = some (.invokevirtual 150, 3, 56, 1, .int 5) := by decide +kernel
theorem i_114_19 : aIns 114 19 = some (.ifCond .eq 33, 3, 0, 0, .null) := by decide +kernel
theorem i_114_22 : aIns 114 22 = some (.aload_n 2, 1, 0, 0, .null) := by decide +kernel
theorem i_114_23 : aIns 114 23 = some (.iload_n 1, 1, 0, 0, .null) := by decide +kernel
theorem i_114_24 : aIns 114 24 = some (.invokevirtual 165, 3, 77, 1, .int 7) := by decide +kernel
theorem i_114_27 : aIns 114 27 = some (.ifCond .ne 25, 3, 0, 0, .null) := by decide +kernel
theorem i_114_30 : aIns 114 30 = some (.aload_n 0, 1, 0, 0, .null) := by decide +kernel
theorem i_114_31 : aIns 114 31 = some (.getfield 35, 3, 11, 3, .null) := by decide +kernel
theorem i_114_34 : aIns 114 34 = some (.getfield 110, 3, 10, 0, .null) := by decide +kernel
theorem i_114_37 : aIns 114 37 = some (.iload_n 1, 1, 0, 0, .null) := by decide +kernel
theorem i_114_38 : aIns 114 38 = some (.aload_n 2, 1, 0, 0, .null) := by decide +kernel
theorem i_114_39 : aIns 114 39 = some (.getfield 205, 3, 7, 6, .null) := by decide +kernel
theorem i_114_42 : aIns 114 42 = some (.aload_n 2, 1, 0, 0, .null) := by decide +kernel
theorem i_114_43 : aIns 114 43 = some (.getfield 208, 3, 7, 8, .null) := by decide +kernel
theorem i_114_46 : aIns 114 46 = some (.invokevirtual 211, 3, 58, 3, .int 5) := by decide +kernel
theorem i_114_49 : aIns 114 49 = some (.ifCond .ne 5, 3, 0, 0, .null) := by decide +kernel
theorem i_114_52 : aIns 114 52 = some (.iconst (-1), 1, 0, 0, .int (-1)) := by decide +kernel
theorem i_114_53 : aIns 114 53 = some (.ireturn, 1, 0, 0, .null) := by decide +kernel
theorem i_114_54 : aIns 114 54 = some (.aload_n 0, 1, 0, 0, .null) := by decide +kernel
theorem i_114_55 : aIns 114 55 = some (.getfield 60, 3, 11, 6, .null) := by decide +kernel
theorem i_114_58 : aIns 114 58 = some (.aload_n 2, 1, 0, 0, .null) := by decide +kernel
theorem i_114_59 : aIns 114 59 = some (.invokevirtual 201, 3, 8, 1, .int 1) := by decide +kernel
theorem i_114_62 : aIns 114 62 = some (.aload_n 2, 1, 0, 0, .null) := by decide +kernel
theorem i_114_63 : aIns 114 63 = some (.getfield 205, 3, 7, 6, .null) := by decide +kernel
theorem i_114_66 : aIns 114 66 = some (.aload_n 2, 1, 0, 0, .null) := by decide +kernel
theorem i_114_67 : aIns 114 67 = some (.getfield 208, 3, 7, 8, .null) := by decide +kernel
theorem i_114_70 : aIns 114 70 = some (.iload_n 1, 1, 0, 0, .null) := by decide +kernel
theorem i_114_71 : aIns 114 71 = some (.iastore, 1, 0, 0, .null) := by decide +kernel
theorem i_114_72 : aIns 114 72 = some (.aload_n 2, 1, 0, 0, .null) := by decide +kernel
theorem i_114_73 : aIns 114 73 = some (.dup, 1, 0, 0, .null) := by decide +kernel
theorem i_114_74 : aIns 114 74 = some (.getfield 208, 3, 7, 8, .null) := by decide +kernel
theorem i_114_77 : aIns 114 77 = some (.iconst 1, 1, 0, 0, .int (1)) := by decide +kernel
theorem i_114_78 : aIns 114 78 = some (.iadd, 1, 0, 0, .null) := by decide +kernel
theorem i_114_79 : aIns 114 79 = some (.putfield 208, 3, 7, 8, .null) := by decide +kernel
theorem i_114_82 : aIns 114 82 = some (.aload_n 2, 1, 0, 0, .null) := by decide +kernel
theorem i_114_83 : aIns 114 83 = some (.getfield 208, 3, 7, 8, .null) := by decide +kernel
theorem i_114_86 : aIns 114 86 = some (.ireturn, 1, 0, 0, .null) := by decide +kernel
theorem i_115_0 : aIns 115 0 = some (.aload_n 0, 1, 0, 0, .null) := by decide +kernel
theorem i_115_1 : aIns 115 1 = some (.getfield 35, 3, 11, 3, .null) := by decide +kernel
theorem i_115_4 : aIns 115 4 = some (.getfield 118, 3, 10, 1, .null) := by decide +kernel
theorem i_115_7 : aIns 115 7 = some (.astore_n 2, 1, 0, 0, .null) := by decide +kernel
theorem i_115_8 : aIns 115 8 = some (.aload_n 2, 1, 0, 0, .null) := by decide +kernel
theorem i_115_9 : aIns 115 9 = some (.iload_n 1, 1, 0, 0, .null) := by decide +kernel
theorem i_115_10 : aIns 115 10 = some (.invokevirtual 162, 3, 76, 1, .int 7) := by decide +kernel
theorem i_115_13 : aIns 115 13 = some (.istore_n 3, 1, 0, 0, .null) := by decide +kernel
theorem i_115_14 : aIns 115 14 = some (.iload_n 3, 1, 0, 0, .null) := by decide +kernel
theorem i_115_15 : aIns 115 15 = some (.ifCond .ge 5, 3, 0, 0, .null) := by decide +kernel
theorem i_115_18 : aIns 115 18 = some (.iconst (-1), 1, 0, 0, .int (-1)) := by decide +kernel
theorem i_115_19 : aIns 115 19 = some (.ireturn, 1, 0, 0, .null) := by decide +kernel
theorem i_115_20 : aIns 115 20 = some (.aload_n 0, 1, 0, 0, .null) := by decide +kernel
theorem i_115_21 : aIns 115 21 = some (.getfield 60, 3, 11, 6, .null) := by decide +kernel
theorem i_115_24 : aIns 115 24 = some (.aload_n 2, 1, 0, 0, .null) := by decide +kernel
theorem i_115_25 : aIns 115 25 = some (.invokevirtual 201, 3, 8, 1, .int 1) := by decide +kernel
theorem i_115_28 : aIns 115 28 = some (.iload_n 3, 1, 0, 0, .null) := by decide +kernel
theorem i_115_29 : aIns 115 29 = some (.istore 4, 2, 0, 0, .null) := by decide +kernel
theorem i_115_31 : aIns 115 31 = some (.iload 4, 2, 0, 0, .null) := by decide +kernel
theorem i_115_33 : aIns 115 33 = some (.iconst 1, 1, 0, 0, .int (1)) := by decide +kernel
theorem i_115_34 : aIns 115 34 = some (.iadd, 1, 0, 0, .null) := by decide +kernel
theorem i_115_35 : aIns 115 35 = some (.aload_n 2, 1, 0, 0, .null) := by decide +kernel
theorem i_115_36 : aIns 115 36 = some (.getfield 208, 3, 7, 8, .null) := by decide +kernel
theorem i_115_39 : aIns 115 39 = some (.if_icmp .ge 25, 3, 0, 0, .null) := by decide +kernel
theorem i_115_42 : aIns 115 42 = some (.aload_n 2, 1, 0, 0, .null) := by decide +kernel
theorem i_115_43 : aIns 115 43 = some (.getfield 205, 3, 7, 6, .null) := by decide +kernel
theorem i_115_46 : aIns 115 46 = some (.iload 4, 2, 0, 0, .null) := by decide +kernel
theorem i_115_48 : aIns 115 48 = some (.aload_n 2, 1, 0, 0, .null) := by decide +kernel
theorem i_115_49 : aIns 115 49 = some (.getfield 205, 3, 7, 6, .null) := by decide +kernel
theorem i_115_52 : aIns 115 52 = some (.iload 4, 2, 0, 0, .null) := by decide +kernel
theorem i_115_54 : aIns 115 54 = some (.iconst 1, 1, 0, 0, .int (1)) := by decide +kernel
theorem i_115_55 : aIns 115 55 = some (.iadd, 1, 0, 0, .null) := by decide +kernel
theorem i_115_56 : aIns 115 56 = some (.iaload, 1, 0, 0, .null) := by decide +kernel
theorem i_115_57 : aIns 115 57 = some (.iastore, 1, 0, 0, .null) := by decide +kernel
theorem i_115_58 : aIns 115 58 = some (.iinc 4 1, 3, 0, 0, .null) := by decide +kernel
theorem i_115_61 : aIns 115 61 = some (.goto (-30), 3, 0, 0, .null) := by decide +kernel
theorem i_115_64 : aIns 115 64 = some (.aload_n 2, 1, 0, 0, .null) := by decide +kernel
theorem i_115_65 : aIns 115 65 = some (.dup, 1, 0, 0, .null) := by decide +kernel
theorem i_115_66 : aIns 115 66 = some (.getfield 208, 3, 7, 8, .null) := by decide +kernel
theorem i_115_69 : aIns 115 69 = some (.iconst 1, 1, 0, 0, .int (1)) := by decide +kernel
theorem i_115_70 : aIns 115 70 = some (.isub, 1, 0, 0, .null) := by decide +kernel
theorem i_115_71 : aIns 115 71 = some (.putfield 208, 3, 7, 8, .null) := by decide +kernel
theorem i_115_74 : aIns 115 74 = some (.aload_n 2, 1, 0, 0, .null) := by decide +kernel
theorem i_115_75 : aIns 115 75 = some (.getfield 208, 3, 7, 8, .null) := by decide +kernel
theorem i_115_78 : aIns 115 78 = some (.ireturn, 1, 0, 0, .null) := by decide +kernel
theorem i_116_0 : aIns 116 0 = some (.aload_n 0, 1, 0, 0, .null) := by decide +kernel
theorem i_116_1 : aIns 116 1 = some (.getfield 35, 3, 11, 3, .null) := by decide +kernel
theorem i_116_4 : aIns 116 4 = some (.getfield 110, 3, 10, 0, .null) := by decide +kernel
theorem i_116_7 : aIns 116 7 = some (.iload_n 1, 1, 0, 0, .null) := by decide +kernel
theorem i_116_8 : aIns 116 8 = some (.invokevirtual 114, 3, 55, 1, .int 5) := by decide +kernel
theorem i_116_11 : aIns 116 11 = some (.ifCond .ne 5, 3, 0, 0, .null) := by decide +kernel
theorem i_116_14 : aIns 116 14 = some (.iconst (-1), 1, 0, 0, .int (-1)) := by decide +kernel
theorem i_116_15 : aIns 116 15 = some (.ireturn, 1, 0, 0, .null) := by decide +kernel
theorem i_116_16 : aIns 116 16 = some (.aload_n 0, 1, 0, 0, .null) := by decide +kernel
theorem i_116_17 : aIns 116 17 = some (.getfield 60, 3, 11, 6, .null) := by decide +kernel
theorem i_116_20 : aIns 116 20 = some (.aload_n 0, 1, 0, 0, .null) := by decide +kernel
theorem i_116_21 : aIns 116 21 = some (.getfield 35, 3, 11, 3, .null) := by decide +kernel
theorem i_116_24 : aIns 116 24 = some (.getfield 118, 3, 10, 1, .null) := by decide +kernel
theorem i_116_27 : aIns 116 27 = some (.invokevirtual 201, 3, 8, 1, .int 1) := by decide +kernel
theorem i_116_30 : aIns 116 30 = some (.aload_n 0, 1, 0, 0, .null) := by decide +kernel
theorem i_116_31 : aIns 116 31 = some (.getfield 35, 3, 11, 3, .null) := by decide +kernel
theorem i_116_34 : aIns 116 34 = some (.getfield 118, 3, 10, 1, .null) := by decide +kernel
theorem i_116_37 : aIns 116 37 = some (.iload_n 1, 1, 0, 0, .null) := by decide +kernel
theorem i_116_38 : aIns 116 38 = some (.invokevirtual 215, 3, 75, 1, .int 7) := by decide +kernel
theorem i_116_41 : aIns 116 41 = some (.aload_n 0, 1, 0, 0, .null) := by decide +kernel
theorem i_116_42 : aIns 116 42 = some (.getfield 44, 3, 11, 4, .null) := by decide +kernel
theorem i_116_45 : aIns 116 45 = some (.iload_n 1, 1, 0, 0, .null) := by decide +kernel
theorem i_116_46 : aIns 116 46 = some (.invokevirtual 122, 3, 91, 1, .int 9) := by decide +kernel
theorem i_116_49 : aIns 116 49 = some (.ireturn, 1, 0, 0, .null) := by decide +kernel
theorem i_117_0 : aIns 117 0 = some (.aload_n 0, 1, 0, 0, .null) := by decide +kernel
theorem i_117_1 : aIns 117 1 = some (.getfield 35, 3, 11, 3, .null) := by decide +kernel
theorem i_117_4 : aIns 117 4 = some (.getfield 118, 3, 10, 1, .null) := by decide +kernel
theorem i_117_7 : aIns 117 7 = some (.astore_n 1, 1, 0, 0, .null) := by decide +kernel
theorem i_117_8 : aIns 117 8 = some (.aload_n 1, 1, 0, 0, .null) := by decide +kernel
theorem i_117_9 : aIns 117 9 = some (.invokevirtual 218, 3, 73, 0, .int 7) := by decide +kernel
theorem i_117_12 : aIns 117 12 = some (.iconst 1, 1, 0, 0, .int (1)) := by decide +kernel
theorem i_117_13 : aIns 117 13 = some (.if_icmp .ge 5, 3, 0, 0, .null) := by decide +kernel
theorem i_117_16 : aIns 117 16 = some (.iconst (-1), 1, 0, 0, .int (-1)) := by decide +kernel
theorem i_117_17 : aIns 117 17 = some (.ireturn, 1, 0, 0, .null) := by decide +kernel
theorem i_117_18 : aIns 117 18 = some (.aload_n 0, 1, 0, 0, .null) := by decide +kernel
theorem i_117_19 : aIns 117 19 = some (.getfield 60, 3, 11, 6, .null) := by decide +kernel
theorem i_117_22 : aIns 117 22 = some (.aload_n 1, 1, 0, 0, .null) := by decide +kernel
theorem i_117_23 : aIns 117 23 = some (.invokevirtual 201, 3, 8, 1, .int 1) := by decide +kernel
theorem i_117_26 : aIns 117 26 = some (.aload_n 0, 1, 0, 0, .null) := by decide +kernel
theorem i_117_27 : aIns 117 27 = some (.getfield 44, 3, 11, 4, .null) := by decide +kernel
theorem i_117_30 : aIns 117 30 = some (.invokevirtual 191, 3, 93, 0, .int 9) := by decide +kernel
theorem i_117_33 : aIns 117 33 = some (.istore_n 2, 1, 0, 0, .null) := by decide +kernel
theorem i_117_34 : aIns 117 34 = some (.iconst 0, 1, 0, 0, .int (0)) := by decide +kernel
theorem i_117_35 : aIns 117 35 = some (.istore_n 3, 1, 0, 0, .null) := by decide +kernel
theorem i_117_36 : aIns 117 36 = some (.iload_n 3, 1, 0, 0, .null) := by decide +kernel
theorem i_117_37 : aIns 117 37 = some (.aload_n 0, 1, 0, 0, .null) := by decide +kernel
theorem i_117_38 : aIns 117 38 = some (.getfield 35, 3, 11, 3, .null) := by decide +kernel
theorem i_117_41 : aIns 117 41 = some (.getfield 110, 3, 10, 0, .null) := by decide +kernel
theorem i_117_44 : aIns 117 44 = some (.getfield 94, 3, 5, 4, .null) := by decide +kernel
theorem i_117_47 : aIns 117 47 = some (.if_icmp .ge 23, 3, 0, 0, .null) := by decide +kernel
theorem i_117_50 : aIns 117 50 = some (.aload_n 1, 1, 0, 0, .null) := by decide +kernel
theorem i_117_51 : aIns 117 51 = some (.getfield 221, 3, 7, 5, .null) := by decide +kernel
theorem i_117_54 : aIns 117 54 = some (.iload_n 3, 1, 0, 0, .null) := by decide +kernel
theorem i_117_55 : aIns 117 55 = some (.aload_n 0, 1, 0, 0, .null) := by decide +kernel
theorem i_117_56 : aIns 117 56 = some (.getfield 44, 3, 11, 4, .null) := by decide +kernel
theorem i_117_59 : aIns 117 59 = some (.iload_n 3, 1, 0, 0, .null) := by decide +kernel
theorem i_117_60 : aIns 117 60 = some (.invokevirtual 122, 3, 91, 1, .int 9) := by decide +kernel
theorem i_117_63 : aIns 117 63 = some (.iastore, 1, 0, 0, .null) := by decide +kernel
theorem i_117_64 : aIns 117 64 = some (.iinc 3 1, 3, 0, 0, .null) := by decide +kernel
theorem i_117_67 : aIns 117 67 = some (.goto (-31), 3, 0, 0, .null) := by decide +kernel
theorem i_117_70 : aIns 117 70 = some (.aload_n 1, 1, 0, 0, .null) := by decide +kernel
theorem i_117_71 : aIns 117 71 = some (.iload_n 2, 1, 0, 0, .null) := by decide +kernel
theorem i_117_72 : aIns 117 72 = some (.invokevirtual 224, 3, 78, 1, .int 7) := by decide +kernel
theorem i_117_75 : aIns 117 75 = some (.aload_n 1, 1, 0, 0, .null) := by decide +kernel
theorem i_117_76 : aIns 117 76 = some (.invokevirtual 227, 3, 79, 0, .int 7) := by decide +kernel
theorem i_117_79 : aIns 117 79 = some (.iload_n 2, 1, 0, 0, .null) := by decide +kernel
theorem i_117_80 : aIns 117 80 = some (.ireturn, 1, 0, 0, .null) := by decide +kernel
theorem i_118_0 : aIns 118 0 = some (.aload_n 0, 1, 0, 0, .null) := by decide +kernel
theorem i_118_1 : aIns 118 1 = some (.getfield 35, 3, 11, 3, .null) := by decide +kernel
theorem i_118_4 : aIns 118 4 = some (.getfield 118, 3, 10, 1, .null) := by decide +kernel
theorem i_118_7 : aIns 118 7 = some (.astore_n 2, 1, 0, 0, .null) := by decide +kernel
theorem i_118_8 : aIns 118 8 = some (.aload_n 0, 1, 0, 0, .null) := by decide +kernel
theorem i_118_9 : aIns 118 9 = some (.getfield 35, 3, 11, 3, .null) := by decide +kernel
theorem i_118_12 : aIns 118 12 = some (.getfield 110, 3, 10, 0, .null) := by decide +kernel
theorem i_118_15 : aIns 118 15 = some (.iload_n 1, 1, 0, 0, .null) := by decide +kernel
theorem i_118_16 : aIns 118 16 = some (.invokevirtual 114, 3, 55, 1, .int 5) := by decide +kernel
theorem i_118_19 : aIns 118 19 = some (.ifCond .eq 13, 3, 0, 0, .null) := by decide +kernel
theorem i_118_22 : aIns 118 22 = some (.aload_n 2, 1, 0, 0, .null) := by decide +kernel
theorem i_118_23 : aIns 118 23 = some (.getfield 141, 3, 7, 4, .null) := by decide +kernel
theorem i_118_26 : aIns 118 26 = some (.iload_n 1, 1, 0, 0, .null) := by decide +kernel
theorem i_118_27 : aIns 118 27 = some (.iaload, 1, 0, 0, .null) := by decide +kernel
theorem i_118_28 : aIns 118 28 = some (.iconst 1, 1, 0, 0, .int (1)) := by decide +kernel
theorem i_118_29 : aIns 118 29 = some (.if_icmp .ge 5, 3, 0, 0, .null) := by decide +kernel
theorem i_118_32 : aIns 118 32 = some (.iconst (-1), 1, 0, 0, .int (-1)) := by decide +kernel
theorem i_118_33 : aIns 118 33 = some (.ireturn, 1, 0, 0, .null) := by decide +kernel
theorem i_118_34 : aIns 118 34 = some (.aload_n 0, 1, 0, 0, .null) := by decide +kernel
theorem i_118_35 : aIns 118 35 = some (.getfield 60, 3, 11, 6, .null) := by decide +kernel
theorem i_118_38 : aIns 118 38 = some (.aload_n 2, 1, 0, 0, .null) := by decide +kernel
theorem i_118_39 : aIns 118 39 = some (.invokevirtual 201, 3, 8, 1, .int 1) := by decide +kernel
theorem i_118_42 : aIns 118 42 = some (.aload_n 2, 1, 0, 0, .null) := by decide +kernel
theorem i_118_43 : aIns 118 43 = some (.getfield 141, 3, 7, 4, .null) := by decide +kernel
theorem i_118_46 : aIns 118 46 = some (.iload_n 1, 1, 0, 0, .null) := by decide +kernel
theorem i_118_47 : aIns 118 47 = some (.dup2, 1, 0, 0, .null) := by decide +kernel
theorem i_118_48 : aIns 118 48 = some (.iaload, 1, 0, 0, .null) := by decide +kernel
theorem i_118_49 : aIns 118 49 = some (.iconst 1, 1, 0, 0, .int (1)) := by decide +kernel
theorem i_118_50 : aIns 118 50 = some (.isub, 1, 0, 0, .null) := by decide +kernel
theorem i_118_51 : aIns 118 51 = some (.iastore, 1, 0, 0, .null) := by decide +kernel
theorem i_118_52 : aIns 118 52 = some (.aload_n 2, 1, 0, 0, .null) := by decide +kernel
theorem i_118_53 : aIns 118 53 = some (.getfield 135, 3, 7, 2, .null) := by decide +kernel
theorem i_118_56 : aIns 118 56 = some (.iload_n 1, 1, 0, 0, .null) := by decide +kernel
theorem i_118_57 : aIns 118 57 = some (.dup2, 1, 0, 0, .null) := by decide +kernel
theorem i_118_58 : aIns 118 58 = some (.iaload, 1, 0, 0, .null) := by decide +kernel
theorem i_118_59 : aIns 118 59 = some (.iconst 1, 1, 0, 0, .int (1)) := by decide +kernel
theorem i_118_60 : aIns 118 60 = some (.isub, 1, 0, 0, .null) := by decide +kernel
theorem i_118_61 : aIns 118 61 = some (.iastore, 1, 0, 0, .null) := by decide +kernel
theorem i_118_62 : aIns 118 62 = some (.aload_n 2, 1, 0, 0, .null) := by decide +kernel
theorem i_118_63 : aIns 118 63 = some (.getfield 126, 3, 7, 1, .null) := by decide +kernel
theorem i_118_66 : aIns 118 66 = some (.iload_n 1, 1, 0, 0, .null) := by decide +kernel
theorem i_118_67 : aIns 118 67 = some (.bipush 9, 2, 0, 0, .int (9)) := by decide +kernel
theorem i_118_69 : aIns 118 69 = some (.aload_n 2, 1, 0, 0, .null) := by decide +kernel
theorem i_118_70 : aIns 118 70 = some (.getfield 126, 3, 7, 1, .null) := by decide +kernel
theorem i_118_73 : aIns 118 73 = some (.iload_n 1, 1, 0, 0, .null) := by decide +kernel
theorem i_118_74 : aIns 118 74 = some (.iaload, 1, 0, 0, .null) := by decide +kernel
theorem i_118_75 : aIns 118 75 = some (.iconst 1, 1, 0, 0, .int (1)) := by decide +kernel
theorem i_118_76 : aIns 118 76 = some (.iadd, 1, 0, 0, .null) := by decide +kernel
theorem i_118_77 : aIns 118 77 = some (.invokestatic 230, 3, 1002, 0, .null) := by decide +kernel
theorem i_118_80 : aIns 118 80 = some (.iastore, 1, 0, 0, .null) := by decide +kernel
theorem i_118_81 : aIns 118 81 = some (.aload_n 0, 1, 0, 0, .null) := by decide +kernel
theorem i_118_82 : aIns 118 82 = some (.getfield 44, 3, 11, 4, .null) := by decide +kernel
theorem i_118_85 : aIns 118 85 = some (.iload_n 1, 1, 0, 0, .null) := by decide +kernel
theorem i_118_86 : aIns 118 86 = some (.aload_n 2, 1, 0, 0, .null) := by decide +kernel
theorem i_118_87 : aIns 118 87 = some (.getfield 141, 3, 7, 4, .null) := by decide +kernel
theorem i_118_90 : aIns 118 90 = some (.aload_n 2, 1, 0, 0, .null) := by decide +kernel
theorem i_118_91 : aIns 118 91 = some (.getfield 236, 3, 7, 12, .null) := by decide +kernel
theorem i_118_94 : aIns 118 94 = some (.invokevirtual 239, 3, 96, 3, .int 9) := by decide +kernel
theorem i_118_97 : aIns 118 97 = some (.istore_n 3, 1, 0, 0, .null) := by decide +kernel
theorem i_118_98 : aIns 118 98 = some (.aload_n 2, 1, 0, 0, .null) := by decide +kernel
theorem i_118_99 : aIns 118 99 = some (.dup, 1, 0, 0, .null) := by decide +kernel
theorem i_118_100 : aIns 118 100 = some (.getfield 236, 3, 7, 12, .null) := by decide +kernel
theorem i_118_103 : aIns 118 103 = some (.iload_n 3, 1, 0, 0, .null) := by decide +kernel
theorem i_118_104 : aIns 118 104 = some (.isub, 1, 0, 0, .null) := by decide +kernel
theorem i_118_105 : aIns 118 105 = some (.putfield 236, 3, 7, 12, .null) := by decide +kernel
theorem i_118_108 : aIns 118 108 = some (.aload_n 2, 1, 0, 0, .null) := by decide +kernel
theorem i_118_109 : aIns 118 109 = some (.dup, 1, 0, 0, .null) := by decide +kernel
theorem i_118_110 : aIns 118 110 = some (.getfield 243, 3, 7, 11, .null) := by decide +kernel
theorem i_118_113 : aIns 118 113 = some (.iload_n 3, 1, 0, 0, .null) := by decide +kernel
theorem i_118_114 : aIns 118 114 = some (.isub, 1, 0, 0, .null) := by decide +kernel
theorem i_118_115 : aIns 118 115 = some (.putfield 243, 3, 7, 11, .null) := by decide +kernel
theorem i_118_118 : aIns 118 118 = some (.iload_n 3, 1, 0, 0, .null) := by decide +kernel
theorem i_118_119 : aIns 118 119 = some (.ireturn, 1, 0, 0, .null) := by decide +kernel
theorem i_119_0 : aIns 119 0 = some (.aload_n 0, 1, 0, 0, .null) := by decide +kernel
theorem i_119_1 : aIns 119 1 = some (.getfield 35, 3, 11, 3, .null) := by decide +kernel
theorem i_119_4 : aIns 119 4 = some (.getfield 110, 3, 10, 0, .null) := by decide +kernel
theorem i_119_7 : aIns 119 7 = some (.getfield 188, 3, 5, 0, .null) := by decide +kernel
theorem i_119_10 : aIns 119 10 = some (.ifCond .eq 19, 3, 0, 0, .null) := by decide +kernel
theorem i_119_13 : aIns 119 13 = some (.aload_n 0, 1, 0, 0, .null) := by decide +kernel
theorem i_119_14 : aIns 119 14 = some (.getfield 35, 3, 11, 3, .null) := by decide +kernel
theorem i_119_17 : aIns 119 17 = some (.getfield 118, 3, 10, 1, .null) := by decide +kernel
theorem i_119_20 : aIns 119 20 = some (.getfield 246, 3, 7, 13, .null) := by decide +kernel
theorem i_119_23 : aIns 119 23 = some (.sipush 999, 3, 0, 0, .int (999)) := by decide +kernel
theorem i_119_26 : aIns 119 26 = some (.if_icmp .lt 5, 3, 0, 0, .null) := by decide +kernel
theorem i_119_29 : aIns 119 29 = some (.iconst (-1), 1, 0, 0, .int (-1)) := by decide +kernel
theorem i_119_30 : aIns 119 30 = some (.ireturn, 1, 0, 0, .null) := by decide +kernel
theorem i_119_31 : aIns 119 31 = some (.aload_n 0, 1, 0, 0, .null) := by decide +kernel
theorem i_119_32 : aIns 119 32 = some (.getfield 60, 3, 11, 6, .null) := by decide +kernel
theorem i_119_35 : aIns 119 35 = some (.aload_n 0, 1, 0, 0, .null) := by decide +kernel
theorem i_119_36 : aIns 119 36 = some (.getfield 35, 3, 11, 3, .null) := by decide +kernel
theorem i_119_39 : aIns 119 39 = some (.getfield 118, 3, 10, 1, .null) := by decide +kernel
theorem i_119_42 : aIns 119 42 = some (.invokevirtual 201, 3, 8, 1, .int 1) := by decide +kernel
theorem i_119_45 : aIns 119 45 = some (.aload_n 0, 1, 0, 0, .null) := by decide +kernel
theorem i_119_46 : aIns 119 46 = some (.getfield 35, 3, 11, 3, .null) := by decide +kernel
theorem i_119_49 : aIns 119 49 = some (.getfield 118, 3, 10, 1, .null) := by decide +kernel
theorem i_119_52 : aIns 119 52 = some (.dup, 1, 0, 0, .null) := by decide +kernel
theorem i_119_53 : aIns 119 53 = some (.getfield 246, 3, 7, 13, .null) := by decide +kernel
theorem i_119_56 : aIns 119 56 = some (.iconst 1, 1, 0, 0, .int (1)) := by decide +kernel
theorem i_119_57 : aIns 119 57 = some (.iadd, 1, 0, 0, .null) := by decide +kernel
theorem i_119_58 : aIns 119 58 = some (.putfield 246, 3, 7, 13, .null) := by decide +kernel
theorem i_119_61 : aIns 119 61 = some (.aload_n 0, 1, 0, 0, .null) := by decide +kernel
theorem i_119_62 : aIns 119 62 = some (.getfield 35, 3, 11, 3, .null) := by decide +kernel
theorem i_119_65 : aIns 119 65 = some (.getfield 110, 3, 10, 0, .null) := by decide +kernel
theorem i_119_68 : aIns 119 68 = some (.aload_n 0, 1, 0, 0, .null) := by decide +kernel
theorem i_119_69 : aIns 119 69 = some (.getfield 35, 3, 11, 3, .null) := by decide +kernel
theorem i_119_72 : aIns 119 72 = some (.getfield 118, 3, 10, 1, .null) := by decide +kernel
theorem i_119_75 : aIns 119 75 = some (.getfield 246, 3, 7, 13, .null) := by decide +kernel
theorem i_119_78 : aIns 119 78 = some (.invokevirtual 249, 3, 57, 1, .int 5) := by decide +kernel
theorem i_119_81 : aIns 119 81 = some (.ireturn, 1, 0, 0, .null) := by decide +kernel
theorem i_120_0 : aIns 120 0 = some (.aload_n 0, 1, 0, 0, .null) := by decide +kernel
theorem i_120_1 : aIns 120 1 = some (.getfield 60, 3, 11, 6, .null) := by decide +kernel
theorem i_120_4 : aIns 120 4 = some (.getfield 252, 3, 1, 2, .null) := by decide +kernel
theorem i_120_7 : aIns 120 7 = some (.iconst 1, 1, 0, 0, .int (1)) := by decide +kernel
theorem i_120_8 : aIns 120 8 = some (.if_icmp .ge 5, 3, 0, 0, .null) := by decide +kernel
theorem i_120_11 : aIns 120 11 = some (.iconst (-1), 1, 0, 0, .int (-1)) := by decide +kernel
theorem i_120_12 : aIns 120 12 = some (.ireturn, 1, 0, 0, .null) := by decide +kernel
theorem i_120_13 : aIns 120 13 = some (.aload_n 0, 1, 0, 0, .null) := by decide +kernel
theorem i_120_14 : aIns 120 14 = some (.getfield 60, 3, 11, 6, .null) := by decide +kernel
theorem i_120_17 : aIns 120 17 = some (.aload_n 0, 1, 0, 0, .null) := by decide +kernel
theorem i_120_18 : aIns 120 18 = some (.getfield 35, 3, 11, 3, .null) := by decide +kernel
theorem i_120_21 : aIns 120 21 = some (.getfield 118, 3, 10, 1, .null) := by decide +kernel
theorem i_120_24 : aIns 120 24 = some (.invokevirtual 255, 3, 9, 1, .int 1) := by decide +kernel
theorem i_120_27 : aIns 120 27 = some (.aload_n 0, 1, 0, 0, .null) := by decide +kernel
theorem i_120_28 : aIns 120 28 = some (.getfield 60, 3, 11, 6, .null) := by decide +kernel
theorem i_120_31 : aIns 120 31 = some (.getfield 252, 3, 1, 2, .null) := by decide +kernel
theorem i_120_34 : aIns 120 34 = some (.ireturn, 1, 0, 0, .null) := by decide +kernel
theorem i_121_0 : aIns 121 0 = some (.aload_n 0, 1, 0, 0, .null) := by decide +kernel
theorem i_121_1 : aIns 121 1 = some (.getfield 35, 3, 11, 3, .null) := by decide +kernel
theorem i_121_4 : aIns 121 4 = some (.getfield 110, 3, 10, 0, .null) := by decide +kernel
theorem i_121_7 : aIns 121 7 = some (.getfield 188, 3, 5, 0, .null) := by decide +kernel
theorem i_121_10 : aIns 121 10 = some (.ifCond .eq 12, 3, 0, 0, .null) := by decide +kernel
theorem i_121_13 : aIns 121 13 = some (.iload_n 1, 1, 0, 0, .null) := by decide +kernel
theorem i_121_14 : aIns 121 14 = some (.ifCond .lt 8, 3, 0, 0, .null) := by decide +kernel
theorem i_121_17 : aIns 121 17 = some (.iload_n 1, 1, 0, 0, .null) := by decide +kernel
theorem i_121_18 : aIns 121 18 = some (.iconst 5, 1, 0, 0, .int (5)) := by decide +kernel
theorem i_121_19 : aIns 121 19 = some (.if_icmp .le 6, 3, 0, 0, .null) := by decide +kernel
theorem i_121_22 : aIns 121 22 = some (.bipush (-3), 2, 0, 0, .int (-3)) := by decide +kernel
theorem i_121_24 : aIns 121 24 = some (.ireturn, 1, 0, 0, .null) := by decide +kernel
theorem i_121_25 : aIns 121 25 = some (.aload_n 0, 1, 0, 0, .null) := by decide +kernel
theorem i_121_26 : aIns 121 26 = some (.getfield 53, 3, 11, 5, .null) := by decide +kernel
theorem i_121_29 : aIns 121 29 = some (.invokevirtual 258, 3, 13, 0, .int 2) := by decide +kernel
theorem i_121_32 : aIns 121 32 = some (.aload_n 0, 1, 0, 0, .null) := by decide +kernel
theorem i_121_33 : aIns 121 33 = some (.getfield 53, 3, 11, 5, .null) := by decide +kernel
theorem i_121_36 : aIns 121 36 = some (.getfield 261, 3, 2, 2, .null) := by decide +kernel
theorem i_121_39 : aIns 121 39 = some (.iload_n 1, 1, 0, 0, .null) := by decide +kernel
theorem i_121_40 : aIns 121 40 = some (.invokevirtual 265, 3, 4, 1, .int 0) := by decide +kernel
theorem i_121_43 : aIns 121 43 = some (.ireturn, 1, 0, 0, .null) := by decide +kernel
theorem i_122_0 : aIns 122 0 = some (.aload_n 0, 1, 0, 0, .null) := by decide +kernel
theorem i_122_1 : aIns 122 1 = some (.getfield 35, 3, 11, 3, .null) := by decide +kernel
theorem i_122_4 : aIns 122 4 = some (.getfield 110, 3, 10, 0, .null) := by decide +kernel
theorem i_122_7 : aIns 122 7 = some (.getfield 188, 3, 5, 0, .null) := by decide +kernel
theorem i_122_10 : aIns 122 10 = some (.ifCond .eq 12, 3, 0, 0, .null) := by decide +kernel
theorem i_122_13 : aIns 122 13 = some (.iload_n 1, 1, 0, 0, .null) := by decide +kernel
theorem i_122_14 : aIns 122 14 = some (.ifCond .lt 8, 3, 0, 0, .null) := by decide +kernel
theorem i_122_17 : aIns 122 17 = some (.iload_n 1, 1, 0, 0, .null) := by decide +kernel
theorem i_122_18 : aIns 122 18 = some (.iconst 3, 1, 0, 0, .int (3)) := by decide +kernel
theorem i_122_19 : aIns 122 19 = some (.if_icmp .le 7, 3, 0, 0, .null) := by decide +kernel
theorem i_122_22 : aIns 122 22 = some (.ldc_w 270, 3, 0, 0, .int (-1000000)) := by decide +kernel
theorem i_122_25 : aIns 122 25 = some (.ireturn, 1, 0, 0, .null) := by decide +kernel
theorem i_122_26 : aIns 122 26 = some (.aload_n 0, 1, 0, 0, .null) := by decide +kernel
theorem i_122_27 : aIns 122 27 = some (.getfield 53, 3, 11, 5, .null) := by decide +kernel
theorem i_122_30 : aIns 122 30 = some (.aload_n 0, 1, 0, 0, .null) := by decide +kernel
theorem i_122_31 : aIns 122 31 = some (.getfield 35, 3, 11, 3, .null) := by decide +kernel
theorem i_122_34 : aIns 122 34 = some (.getfield 118, 3, 10, 1, .null) := by decide +kernel
theorem i_122_37 : aIns 122 37 = some (.getfield 246, 3, 7, 13, .null) := by decide +kernel
theorem i_122_40 : aIns 122 40 = some (.invokevirtual 271, 3, 12, 1, .int 2) := by decide +kernel
theorem i_122_43 : aIns 122 43 = some (.aload_n 0, 1, 0, 0, .null) := by decide +kernel
theorem i_122_44 : aIns 122 44 = some (.getfield 53, 3, 11, 5, .null) := by decide +kernel
theorem i_122_47 : aIns 122 47 = some (.aload_n 0, 1, 0, 0, .null) := by decide +kernel
theorem i_122_48 : aIns 122 48 = some (.getfield 35, 3, 11, 3, .null) := by decide +kernel
theorem i_122_51 : aIns 122 51 = some (.getfield 110, 3, 10, 0, .null) := by decide +kernel
theorem i_122_54 : aIns 122 54 = some (.getfield 274, 3, 5, 2, .null) := by decide +kernel
theorem i_122_57 : aIns 122 57 = some (.invokevirtual 277, 3, 15, 1, .int 2) := by decide +kernel
theorem i_122_60 : aIns 122 60 = some (.aload_n 0, 1, 0, 0, .null) := by decide +kernel
theorem i_122_61 : aIns 122 61 = some (.getfield 53, 3, 11, 5, .null) := by decide +kernel
theorem i_122_64 : aIns 122 64 = some (.getfield 261, 3, 2, 2, .null) := by decide +kernel
theorem i_122_67 : aIns 122 67 = some (.iload_n 1, 1, 0, 0, .null) := by decide +kernel
theorem i_122_68 : aIns 122 68 = some (.invokevirtual 265, 3, 4, 1, .int 0) := by decide +kernel
theorem i_122_71 : aIns 122 71 = some (.ireturn, 1, 0, 0, .null) := by decide +kernel
theorem i_123_0 : aIns 123 0 = some (.aload_n 0, 1, 0, 0, .null) := by decide +kernel
theorem i_123_1 : aIns 123 1 = some (.getfield 35, 3, 11, 3, .null) := by decide +kernel
theorem i_123_4 : aIns 123 4 = some (.getfield 110, 3, 10, 0, .null) := by decide +kernel
theorem i_123_7 : aIns 123 7 = some (.getfield 188, 3, 5, 0, .null) := by decide +kernel
theorem i_123_10 : aIns 123 10 = some (.ifCond .eq 13, 3, 0, 0, .null) := by decide +kernel
theorem i_123_13 : aIns 123 13 = some (.iload_n 1, 1, 0, 0, .null) := by decide +kernel
theorem i_123_14 : aIns 123 14 = some (.ifCond .lt 9, 3, 0, 0, .null) := by decide +kernel
theorem i_123_17 : aIns 123 17 = some (.iload_n 1, 1, 0, 0, .null) := by decide +kernel
theorem i_123_18 : aIns 123 18 = some (.bipush 7, 2, 0, 0, .int (7)) := by decide +kernel
theorem i_123_20 : aIns 123 20 = some (.if_icmp .le 6, 3, 0, 0, .null) := by decide +kernel
theorem i_123_23 : aIns 123 23 = some (.bipush (-3), 2, 0, 0, .int (-3)) := by decide +kernel
theorem i_123_25 : aIns 123 25 = some (.ireturn, 1, 0, 0, .null) := by decide +kernel
theorem i_123_26 : aIns 123 26 = some (.aload_n 0, 1, 0, 0, .null) := by decide +kernel
theorem i_123_27 : aIns 123 27 = some (.getfield 53, 3, 11, 5, .null) := by decide +kernel
theorem i_123_30 : aIns 123 30 = some (.invokevirtual 280, 3, 23, 0, .int 2) := by decide +kernel
theorem i_123_33 : aIns 123 33 = some (.iload_n 1, 1, 0, 0, .null) := by decide +kernel
theorem i_123_34 : aIns 123 34 = some (.bipush 6, 2, 0, 0, .int (6)) := by decide +kernel
theorem i_123_36 : aIns 123 36 = some (.if_icmp .le 18, 3, 0, 0, .null) := by decide +kernel
theorem i_123_39 : aIns 123 39 = some (.aload_n 0, 1, 0, 0, .null) := by decide +kernel
theorem i_123_40 : aIns 123 40 = some (.getfield 53, 3, 11, 5, .null) := by decide +kernel
theorem i_123_43 : aIns 123 43 = some (.getfield 261, 3, 2, 2, .null) := by decide +kernel
theorem i_123_46 : aIns 123 46 = some (.invokevirtual 283, 3, 6, 0, .int 0) := by decide +kernel
theorem i_123_49 : aIns 123 49 = some (.iconst 1, 1, 0, 0, .int (1)) := by decide +kernel
theorem i_123_50 : aIns 123 50 = some (.iadd, 1, 0, 0, .null) := by decide +kernel
theorem i_123_51 : aIns 123 51 = some (.goto 14, 3, 0, 0, .null) := by decide +kernel
theorem i_123_54 : aIns 123 54 = some (.aload_n 0, 1, 0, 0, .null) := by decide +kernel
theorem i_123_55 : aIns 123 55 = some (.getfield 53, 3, 11, 5, .null) := by decide +kernel
theorem i_123_58 : aIns 123 58 = some (.getfield 261, 3, 2, 2, .null) := by decide +kernel
theorem i_123_61 : aIns 123 61 = some (.iload_n 1, 1, 0, 0, .null) := by decide +kernel
theorem i_123_62 : aIns 123 62 = some (.invokevirtual 265, 3, 4, 1, .int 0) := by decide +kernel
theorem i_123_65 : aIns 123 65 = some (.ireturn, 1, 0, 0, .null) := by decide +kernel
def d_106 (g : Nat) (a0 : Nat) (x1 : Int32) (h0 : aH) : Option (Int32 × aH) := (if x1 < (-1 : Int32) then some ((-2 : Int32), h0) else ((gR h0 a0 11 4).bind (fun f_2 => ((gI h0 f_2 9 2).bind (fun f_4 => (if x1 < f_4 then ((gR h0 a0 11 3).bind (fun f_7 => ((gI h0 f_7 10 2).bind (fun f_9 => ((gR h0 a0 11 3).bind (fun f_11 => ((sF h0 f_11 10 2 (.int x1)).bind (fun h_13 => some (f_9, h_13))))))))) else some ((-2 : Int32), h0)))))))
set_option maxHeartbeats 4000000 in
set_option maxRecDepth 100000 in
theorem d_106_ok {X : aX} {g : Nat} {a0 : Nat} {x1 : Int32} {h0 : aH} {zz : Int32 × aH} {d : Nat} (hdp : 0 ≤ d) (hd : d_106 g a0 x1 h0 = some zz) : aWp X d 106 0 (aEntL [.ref a0, .int x1] 3) [] h0 (fun w h' => w = some (.int zz.1) ∧ h' = zz.2) := by
  unfold d_106 at hd
  refine wp_lv (l2 := [some (.ref a0), some (.int x1), none]) rfl ?_
  refine wp_s 1 [some (.ref a0), some (.int x1), none] [.int x1] h0 i_106_0 rfl ?_
  refine wp_s 2 [some (.ref a0), some (.int x1), none] [.int (-1 : Int32), .int x1] h0 i_106_1 rfl ?_
  refine wp_cmp_lt 16 5 rfl rfl i_106_2 (fun c_1 => ?_) (fun c_1 => ?_)
  · rw [if_pos c_1] at hd
    refine wp_s 18 [some (.ref a0), some (.int x1), none] [.int (-2 : Int32)] h0 i_106_16 rfl ?_
    obtain rfl := Option.some.inj hd
    exact wp_iret i_106_18 ⟨rfl, rfl⟩
  · rw [if_neg c_1] at hd
    refine wp_s 6 [some (.ref a0), some (.int x1), none] [.int x1] h0 i_106_5 rfl ?_
    refine wp_s 7 [some (.ref a0), some (.int x1), none] [.ref a0, .int x1] h0 i_106_6 rfl ?_
    obtain ⟨f_2, q_3, hd⟩ := dk_bind hd
    refine hp_gR 10 rfl i_106_7 q_3 ?_
    obtain ⟨f_4, q_5, hd⟩ := dk_bind hd
    refine hp_gI 13 rfl i_106_10 q_5 ?_
    refine wp_cmp_lt 19 16 rfl rfl i_106_13 (fun c_6 => ?_) (fun c_6 => ?_)
    · rw [if_pos c_6] at hd
      refine wp_s 20 [some (.ref a0), some (.int x1), none] [.ref a0] h0 i_106_19 rfl ?_
      obtain ⟨f_7, q_8, hd⟩ := dk_bind hd
      refine hp_gR 23 rfl i_106_20 q_8 ?_
      obtain ⟨f_9, q_10, hd⟩ := dk_bind hd
      refine hp_gI 26 rfl i_106_23 q_10 ?_
      refine wp_s 27 [some (.ref a0), some (.int x1), some (.int f_9)] [] h0 i_106_26 rfl ?_
      refine wp_s 28 [some (.ref a0), some (.int x1), some (.int f_9)] [.ref a0] h0 i_106_27 rfl ?_
      obtain ⟨f_11, q_12, hd⟩ := dk_bind hd
      refine hp_gR 31 rfl i_106_28 q_12 ?_
      refine wp_s 32 [some (.ref a0), some (.int x1), some (.int f_9)] [.int x1, .ref f_11] h0 i_106_31 rfl ?_
      obtain ⟨h_13, q_14, hd⟩ := dk_bind hd
      refine hp_sF 35 rfl i_106_32 q_14 ?_
      refine wp_s 36 [some (.ref a0), some (.int x1), some (.int f_9)] [.int f_9] h_13 i_106_35 rfl ?_
      obtain rfl := Option.some.inj hd
      exact wp_iret i_106_36 ⟨rfl, rfl⟩
    · rw [if_neg c_6] at hd
      refine wp_s 18 [some (.ref a0), some (.int x1), none] [.int (-2 : Int32)] h0 i_106_16 rfl ?_
      obtain rfl := Option.some.inj hd
      exact wp_iret i_106_18 ⟨rfl, rfl⟩
def d_107 (g : Nat) (a0 : Nat) (x1 : Int32) (x2 : Int32) (h0 : aH) : Option (Int32 × aH) := ((gR h0 a0 11 3).bind (fun f_1 => ((gR h0 f_1 10 0).bind (fun f_3 => (if isO h0 f_3 5 = true then ((d_55 g f_3 x1 h0).bind (fun z_8 => (if ¬ z_8.1 = 0 then ((gR z_8.2 a0 11 3).bind (fun f_13 => ((gR z_8.2 f_13 10 1).bind (fun f_15 => (if x2 = (0 : Int32) then ((gR z_8.2 a0 11 4).bind (fun f_18 => (if isO z_8.2 f_18 9 = true then ((d_91 g f_18 x1 z_8.2).bind (fun z_23 => some (z_23.1, z_23.2))) else none))) else (if x2 = (1 : Int32) then ((gR z_8.2 f_15 7 1).bind (fun f_28 => ((gA z_8.2 f_28 x1).bind (fun f_30 => some (f_30, z_8.2))))) else (if x2 = (2 : Int32) then ((gR z_8.2 f_15 7 0).bind (fun f_33 => ((gA z_8.2 f_33 x1).bind (fun f_35 => some (f_35, z_8.2))))) else (if x2 = (3 : Int32) then ((gR z_8.2 f_15 7 2).bind (fun f_38 => ((gA z_8.2 f_38 x1).bind (fun f_40 => some (f_40, z_8.2))))) else (if x2 = (4 : Int32) then ((gR z_8.2 f_15 7 3).bind (fun f_43 => ((gA z_8.2 f_43 x1).bind (fun f_45 => some (f_45, z_8.2))))) else (if x2 = (5 : Int32) then ((gR z_8.2 f_15 7 4).bind (fun f_48 => ((gA z_8.2 f_48 x1).bind (fun f_50 => some (f_50, z_8.2))))) else (if x2 = (6 : Int32) then ((gR z_8.2 a0 11 3).bind (fun f_53 => ((gR z_8.2 f_53 10 0).bind (fun f_55 => ((gR z_8.2 f_55 5 5).bind (fun f_57 => ((gA z_8.2 f_57 x1).bind (fun f_59 => some (f_59, z_8.2))))))))) else (if x2 = (7 : Int32) then ((gR z_8.2 a0 11 3).bind (fun f_62 => ((gR z_8.2 f_62 10 0).bind (fun f_64 => ((gR z_8.2 f_64 5 6).bind (fun f_66 => ((gA z_8.2 f_66 x1).bind (fun f_68 => some (f_68, z_8.2))))))))) else some ((-1 : Int32), z_8.2))))))))))))) else some ((-1 : Int32), z_8.2)))) else none)))))
set_option maxHeartbeats 4000000 in
set_option maxRecDepth 100000 in
theorem d_107_ok {X : aX} {g : Nat} {a0 : Nat} {x1 : Int32} {x2 : Int32} {h0 : aH} {zz : Int32 × aH} {d : Nat} (hdp : 6 ≤ d) (hd : d_107 g a0 x1 x2 h0 = some zz) : aWp X d 107 0 (aEntL [.ref a0, .int x1, .int x2] 4) [] h0 (fun w h' => w = some (.int zz.1) ∧ h' = zz.2) := by
  unfold d_107 at hd
  refine wp_lv (l2 := [some (.ref a0), some (.int x1), some (.int x2), none]) rfl ?_
  obtain ⟨e, rfl⟩ : ∃ e, d = e + 1 := ⟨d - 1, by omega⟩
  refine wp_s 1 [some (.ref a0), some (.int x1), some (.int x2), none] [.ref a0] h0 i_107_0 rfl ?_
  obtain ⟨f_1, q_2, hd⟩ := dk_bind hd
  refine hp_gR 4 rfl i_107_1 q_2 ?_
  obtain ⟨f_3, q_4, hd⟩ := dk_bind hd
  refine hp_gR 7 rfl i_107_4 q_4 ?_
  refine wp_s 8 [some (.ref a0), some (.int x1), some (.int x2), none] [.int x1, .ref f_3] h0 i_107_7 rfl ?_
  obtain ⟨k_5, hd⟩ := dk_if hd
  obtain ⟨fs_6, o_7⟩ := isO_of k_5
  obtain ⟨z_8, q_9, hd⟩ := dk_bind hd
  refine wp_callV 11 rfl i_107_8 (by decide) rfl (vs := [.int x1]) (rest := []) rfl rfl rfl o_7 (y := m_55) rfl (Nat.le_of_ble_eq_true rfl) (d_55_ok (d := e) (by omega) q_9) ?_
  rintro v_10 h_11 ⟨rfl, rfl⟩
  refine wp_if_ne 16 14 rfl rfl i_107_11 (fun c_12 => ?_) (fun c_12 => ?_)
  · rw [if_pos c_12] at hd
    refine wp_s 17 [some (.ref a0), some (.int x1), some (.int x2), none] [.ref a0] z_8.2 i_107_16 rfl ?_
    obtain ⟨f_13, q_14, hd⟩ := dk_bind hd
    refine hp_gR 20 rfl i_107_17 q_14 ?_
    obtain ⟨f_15, q_16, hd⟩ := dk_bind hd
    refine hp_gR 23 rfl i_107_20 q_16 ?_
    refine wp_s 24 [some (.ref a0), some (.int x1), some (.int x2), some (.ref f_15)] [] z_8.2 i_107_23 rfl ?_
    refine wp_s 25 [some (.ref a0), some (.int x1), some (.int x2), some (.ref f_15)] [.int x2] z_8.2 i_107_24 rfl ?_
    by_cases c_17 : x2 = (0 : Int32)
    · rw [if_pos c_17] at hd
      refine wp_tswC (j := 0) 72 i_107_25 (by rw [c_17]; decide) (by decide) rfl rfl ?_
      refine wp_s 73 [some (.ref a0), some (.int x1), some (.int x2), some (.ref f_15)] [.ref a0] z_8.2 i_107_72 rfl ?_
      obtain ⟨f_18, q_19, hd⟩ := dk_bind hd
      refine hp_gR 76 rfl i_107_73 q_19 ?_
      refine wp_s 77 [some (.ref a0), some (.int x1), some (.int x2), some (.ref f_15)] [.int x1, .ref f_18] z_8.2 i_107_76 rfl ?_
      obtain ⟨k_20, hd⟩ := dk_if hd
      obtain ⟨fs_21, o_22⟩ := isO_of k_20
      obtain ⟨z_23, q_24, hd⟩ := dk_bind hd
      refine wp_callV 80 rfl i_107_77 (by decide) rfl (vs := [.int x1]) (rest := []) rfl rfl rfl o_22 (y := m_91) rfl (Nat.le_of_ble_eq_true rfl) (d_91_ok (d := e) (by omega) q_24) ?_
      rintro v_25 h_26 ⟨rfl, rfl⟩
      obtain rfl := Option.some.inj hd
      exact wp_iret i_107_80 ⟨rfl, rfl⟩
    rw [if_neg c_17] at hd
    by_cases c_27 : x2 = (1 : Int32)
    · rw [if_pos c_27] at hd
      refine wp_tswC (j := 1) 81 i_107_25 (by rw [c_27]; decide) (by decide) rfl rfl ?_
      refine wp_s 82 [some (.ref a0), some (.int x1), some (.int x2), some (.ref f_15)] [.ref f_15] z_8.2 i_107_81 rfl ?_
      obtain ⟨f_28, q_29, hd⟩ := dk_bind hd
      refine hp_gR 85 rfl i_107_82 q_29 ?_
      refine wp_s 86 [some (.ref a0), some (.int x1), some (.int x2), some (.ref f_15)] [.int x1, .ref f_28] z_8.2 i_107_85 rfl ?_
      obtain ⟨f_30, q_31, hd⟩ := dk_bind hd
      refine hp_gA 87 rfl i_107_86 q_31 ?_
      obtain rfl := Option.some.inj hd
      exact wp_iret i_107_87 ⟨rfl, rfl⟩
    rw [if_neg c_27] at hd
    by_cases c_32 : x2 = (2 : Int32)
    · rw [if_pos c_32] at hd
      refine wp_tswC (j := 2) 88 i_107_25 (by rw [c_32]; decide) (by decide) rfl rfl ?_
      refine wp_s 89 [some (.ref a0), some (.int x1), some (.int x2), some (.ref f_15)] [.ref f_15] z_8.2 i_107_88 rfl ?_
      obtain ⟨f_33, q_34, hd⟩ := dk_bind hd
      refine hp_gR 92 rfl i_107_89 q_34 ?_
      refine wp_s 93 [some (.ref a0), some (.int x1), some (.int x2), some (.ref f_15)] [.int x1, .ref f_33] z_8.2 i_107_92 rfl ?_
      obtain ⟨f_35, q_36, hd⟩ := dk_bind hd
      refine hp_gA 94 rfl i_107_93 q_36 ?_
      obtain rfl := Option.some.inj hd
      exact wp_iret i_107_94 ⟨rfl, rfl⟩
    rw [if_neg c_32] at hd
    by_cases c_37 : x2 = (3 : Int32)
    · rw [if_pos c_37] at hd
      refine wp_tswC (j := 3) 95 i_107_25 (by rw [c_37]; decide) (by decide) rfl rfl ?_
      refine wp_s 96 [some (.ref a0), some (.int x1), some (.int x2), some (.ref f_15)] [.ref f_15] z_8.2 i_107_95 rfl ?_
      obtain ⟨f_38, q_39, hd⟩ := dk_bind hd
      refine hp_gR 99 rfl i_107_96 q_39 ?_
      refine wp_s 100 [some (.ref a0), some (.int x1), some (.int x2), some (.ref f_15)] [.int x1, .ref f_38] z_8.2 i_107_99 rfl ?_
      obtain ⟨f_40, q_41, hd⟩ := dk_bind hd
      refine hp_gA 101 rfl i_107_100 q_41 ?_
      obtain rfl := Option.some.inj hd
      exact wp_iret i_107_101 ⟨rfl, rfl⟩
    rw [if_neg c_37] at hd
    by_cases c_42 : x2 = (4 : Int32)
    · rw [if_pos c_42] at hd
      refine wp_tswC (j := 4) 102 i_107_25 (by rw [c_42]; decide) (by decide) rfl rfl ?_
      refine wp_s 103 [some (.ref a0), some (.int x1), some (.int x2), some (.ref f_15)] [.ref f_15] z_8.2 i_107_102 rfl ?_
      obtain ⟨f_43, q_44, hd⟩ := dk_bind hd
      refine hp_gR 106 rfl i_107_103 q_44 ?_
      refine wp_s 107 [some (.ref a0), some (.int x1), some (.int x2), some (.ref f_15)] [.int x1, .ref f_43] z_8.2 i_107_106 rfl ?_
      obtain ⟨f_45, q_46, hd⟩ := dk_bind hd
      refine hp_gA 108 rfl i_107_107 q_46 ?_
      obtain rfl := Option.some.inj hd
      exact wp_iret i_107_108 ⟨rfl, rfl⟩
    rw [if_neg c_42] at hd
    by_cases c_47 : x2 = (5 : Int32)
    · rw [if_pos c_47] at hd
      refine wp_tswC (j := 5) 109 i_107_25 (by rw [c_47]; decide) (by decide) rfl rfl ?_
      refine wp_s 110 [some (.ref a0), some (.int x1), some (.int x2), some (.ref f_15)] [.ref f_15] z_8.2 i_107_109 rfl ?_
      obtain ⟨f_48, q_49, hd⟩ := dk_bind hd
      refine hp_gR 113 rfl i_107_110 q_49 ?_
      refine wp_s 114 [some (.ref a0), some (.int x1), some (.int x2), some (.ref f_15)] [.int x1, .ref f_48] z_8.2 i_107_113 rfl ?_
      obtain ⟨f_50, q_51, hd⟩ := dk_bind hd
      refine hp_gA 115 rfl i_107_114 q_51 ?_
      obtain rfl := Option.some.inj hd
      exact wp_iret i_107_115 ⟨rfl, rfl⟩
    rw [if_neg c_47] at hd
    by_cases c_52 : x2 = (6 : Int32)
    · rw [if_pos c_52] at hd
      refine wp_tswC (j := 6) 116 i_107_25 (by rw [c_52]; decide) (by decide) rfl rfl ?_
      refine wp_s 117 [some (.ref a0), some (.int x1), some (.int x2), some (.ref f_15)] [.ref a0] z_8.2 i_107_116 rfl ?_
      obtain ⟨f_53, q_54, hd⟩ := dk_bind hd
      refine hp_gR 120 rfl i_107_117 q_54 ?_
      obtain ⟨f_55, q_56, hd⟩ := dk_bind hd
      refine hp_gR 123 rfl i_107_120 q_56 ?_
      obtain ⟨f_57, q_58, hd⟩ := dk_bind hd
      refine hp_gR 126 rfl i_107_123 q_58 ?_
      refine wp_s 127 [some (.ref a0), some (.int x1), some (.int x2), some (.ref f_15)] [.int x1, .ref f_57] z_8.2 i_107_126 rfl ?_
      obtain ⟨f_59, q_60, hd⟩ := dk_bind hd
      refine hp_gA 128 rfl i_107_127 q_60 ?_
      obtain rfl := Option.some.inj hd
      exact wp_iret i_107_128 ⟨rfl, rfl⟩
    rw [if_neg c_52] at hd
    by_cases c_61 : x2 = (7 : Int32)
    · rw [if_pos c_61] at hd
      refine wp_tswC (j := 7) 129 i_107_25 (by rw [c_61]; decide) (by decide) rfl rfl ?_
      refine wp_s 130 [some (.ref a0), some (.int x1), some (.int x2), some (.ref f_15)] [.ref a0] z_8.2 i_107_129 rfl ?_
      obtain ⟨f_62, q_63, hd⟩ := dk_bind hd
      refine hp_gR 133 rfl i_107_130 q_63 ?_
      obtain ⟨f_64, q_65, hd⟩ := dk_bind hd
      refine hp_gR 136 rfl i_107_133 q_65 ?_
      obtain ⟨f_66, q_67, hd⟩ := dk_bind hd
      refine hp_gR 139 rfl i_107_136 q_67 ?_
      refine wp_s 140 [some (.ref a0), some (.int x1), some (.int x2), some (.ref f_15)] [.int x1, .ref f_66] z_8.2 i_107_139 rfl ?_
      obtain ⟨f_68, q_69, hd⟩ := dk_bind hd
      refine hp_gA 141 rfl i_107_140 q_69 ?_
      obtain rfl := Option.some.inj hd
      exact wp_iret i_107_141 ⟨rfl, rfl⟩
    rw [if_neg c_61] at hd
    have o_70 : (x2).toInt < (0 : Int) ∨ (7 : Int) < (x2).toInt := by
      have e_0 := lv_neT c_17 (a := 0) (by decide)
      have e_1 := lv_neT c_27 (a := 1) (by decide)
      have e_2 := lv_neT c_32 (a := 2) (by decide)
      have e_3 := lv_neT c_37 (a := 3) (by decide)
      have e_4 := lv_neT c_42 (a := 4) (by decide)
      have e_5 := lv_neT c_47 (a := 5) (by decide)
      have e_6 := lv_neT c_52 (a := 6) (by decide)
      have e_7 := lv_neT c_61 (a := 7) (by decide)
      omega
    refine wp_tswD 142 i_107_25 o_70 rfl ?_
    refine wp_s 143 [some (.ref a0), some (.int x1), some (.int x2), some (.ref f_15)] [.int (-1 : Int32)] z_8.2 i_107_142 rfl ?_
    obtain rfl := Option.some.inj hd
    exact wp_iret i_107_143 ⟨rfl, rfl⟩
  · rw [if_neg c_12] at hd
    refine wp_s 15 [some (.ref a0), some (.int x1), some (.int x2), none] [.int (-1 : Int32)] z_8.2 i_107_14 rfl ?_
    obtain rfl := Option.some.inj hd
    exact wp_iret i_107_15 ⟨rfl, rfl⟩
def d_108 (g : Nat) (a0 : Nat) (x1 : Int32) (x2 : Int32) (h0 : aH) : Option (Int32 × aH) := ((gR h0 a0 11 3).bind (fun f_1 => ((gR h0 f_1 10 0).bind (fun f_3 => (if isO h0 f_3 5 = true then ((d_56 g f_3 x1 h0).bind (fun z_8 => (if ¬ z_8.1 = 0 then (if x2 = (0 : Int32) then ((gR z_8.2 f_3 5 16).bind (fun f_14 => ((gA z_8.2 f_14 x1).bind (fun f_16 => some ((f_16 - (10 : Int32)), z_8.2))))) else (if x2 = (1 : Int32) then ((gR z_8.2 f_3 5 17).bind (fun f_19 => ((gA z_8.2 f_19 x1).bind (fun f_21 => some (f_21, z_8.2))))) else (if x2 = (2 : Int32) then ((gR z_8.2 f_3 5 18).bind (fun f_24 => ((gA z_8.2 f_24 x1).bind (fun f_26 => some (f_26, z_8.2))))) else (if x2 = (3 : Int32) then ((gR z_8.2 a0 11 3).bind (fun f_29 => ((gR z_8.2 f_29 10 1).bind (fun f_31 => (if isO z_8.2 f_31 7 = true then ((d_76 g f_31 x1 z_8.2).bind (fun z_36 => some (z_36.1, z_36.2))) else none))))) else (if x2 = (4 : Int32) then ((gR z_8.2 a0 11 3).bind (fun f_41 => ((gR z_8.2 f_41 10 1).bind (fun f_43 => (if isO z_8.2 f_43 7 = true then ((d_77 g f_43 x1 z_8.2).bind (fun z_48 => (if z_48.1 = 0 then some ((0 : Int32), z_48.2) else some ((1 : Int32), z_48.2)))) else none))))) else (if x2 = (5 : Int32) then ((gR z_8.2 f_3 5 19).bind (fun f_54 => ((gA z_8.2 f_54 x1).bind (fun f_56 => some (f_56, z_8.2))))) else some ((-2 : Int32), z_8.2))))))) else some ((-2 : Int32), z_8.2)))) else none)))))
set_option maxHeartbeats 4000000 in
set_option maxRecDepth 100000 in
theorem d_108_ok {X : aX} {g : Nat} {a0 : Nat} {x1 : Int32} {x2 : Int32} {h0 : aH} {zz : Int32 × aH} {d : Nat} (hdp : 1 ≤ d) (hd : d_108 g a0 x1 x2 h0 = some zz) : aWp X d 108 0 (aEntL [.ref a0, .int x1, .int x2] 4) [] h0 (fun w h' => w = some (.int zz.1) ∧ h' = zz.2) := by
  unfold d_108 at hd
  refine wp_lv (l2 := [some (.ref a0), some (.int x1), some (.int x2), none]) rfl ?_
  obtain ⟨e, rfl⟩ : ∃ e, d = e + 1 := ⟨d - 1, by omega⟩
  refine wp_s 1 [some (.ref a0), some (.int x1), some (.int x2), none] [.ref a0] h0 i_108_0 rfl ?_
  obtain ⟨f_1, q_2, hd⟩ := dk_bind hd
  refine hp_gR 4 rfl i_108_1 q_2 ?_
  obtain ⟨f_3, q_4, hd⟩ := dk_bind hd
  refine hp_gR 7 rfl i_108_4 q_4 ?_
  refine wp_s 8 [some (.ref a0), some (.int x1), some (.int x2), some (.ref f_3)] [] h0 i_108_7 rfl ?_
  refine wp_s 9 [some (.ref a0), some (.int x1), some (.int x2), some (.ref f_3)] [.ref f_3] h0 i_108_8 rfl ?_
  refine wp_s 10 [some (.ref a0), some (.int x1), some (.int x2), some (.ref f_3)] [.int x1, .ref f_3] h0 i_108_9 rfl ?_
  obtain ⟨k_5, hd⟩ := dk_if hd
  obtain ⟨fs_6, o_7⟩ := isO_of k_5
  obtain ⟨z_8, q_9, hd⟩ := dk_bind hd
  refine wp_callV 13 rfl i_108_10 (by decide) rfl (vs := [.int x1]) (rest := []) rfl rfl rfl o_7 (y := m_56) rfl (Nat.le_of_ble_eq_true rfl) (d_56_ok (d := e) (by omega) q_9) ?_
  rintro v_10 h_11 ⟨rfl, rfl⟩
  refine wp_if_ne 19 16 rfl rfl i_108_13 (fun c_12 => ?_) (fun c_12 => ?_)
  · rw [if_pos c_12] at hd
    refine wp_s 20 [some (.ref a0), some (.int x1), some (.int x2), some (.ref f_3)] [.int x2] z_8.2 i_108_19 rfl ?_
    by_cases c_13 : x2 = (0 : Int32)
    · rw [if_pos c_13] at hd
      refine wp_tswC (j := 0) 60 i_108_20 (by rw [c_13]; decide) (by decide) rfl rfl ?_
      refine wp_s 61 [some (.ref a0), some (.int x1), some (.int x2), some (.ref f_3)] [.ref f_3] z_8.2 i_108_60 rfl ?_
      obtain ⟨f_14, q_15, hd⟩ := dk_bind hd
      refine hp_gR 64 rfl i_108_61 q_15 ?_
      refine wp_s 65 [some (.ref a0), some (.int x1), some (.int x2), some (.ref f_3)] [.int x1, .ref f_14] z_8.2 i_108_64 rfl ?_
      obtain ⟨f_16, q_17, hd⟩ := dk_bind hd
      refine hp_gA 66 rfl i_108_65 q_17 ?_
      refine wp_s 68 [some (.ref a0), some (.int x1), some (.int x2), some (.ref f_3)] [.int (10 : Int32), .int f_16] z_8.2 i_108_66 rfl ?_
      refine wp_s 69 [some (.ref a0), some (.int x1), some (.int x2), some (.ref f_3)] [.int (f_16 - (10 : Int32))] z_8.2 i_108_68 rfl ?_
      obtain rfl := Option.some.inj hd
      exact wp_iret i_108_69 ⟨rfl, rfl⟩
    rw [if_neg c_13] at hd
    by_cases c_18 : x2 = (1 : Int32)
    · rw [if_pos c_18] at hd
      refine wp_tswC (j := 1) 70 i_108_20 (by rw [c_18]; decide) (by decide) rfl rfl ?_
      refine wp_s 71 [some (.ref a0), some (.int x1), some (.int x2), some (.ref f_3)] [.ref f_3] z_8.2 i_108_70 rfl ?_
      obtain ⟨f_19, q_20, hd⟩ := dk_bind hd
      refine hp_gR 74 rfl i_108_71 q_20 ?_
      refine wp_s 75 [some (.ref a0), some (.int x1), some (.int x2), some (.ref f_3)] [.int x1, .ref f_19] z_8.2 i_108_74 rfl ?_
      obtain ⟨f_21, q_22, hd⟩ := dk_bind hd
      refine hp_gA 76 rfl i_108_75 q_22 ?_
      obtain rfl := Option.some.inj hd
      exact wp_iret i_108_76 ⟨rfl, rfl⟩
    rw [if_neg c_18] at hd
    by_cases c_23 : x2 = (2 : Int32)
    · rw [if_pos c_23] at hd
      refine wp_tswC (j := 2) 77 i_108_20 (by rw [c_23]; decide) (by decide) rfl rfl ?_
      refine wp_s 78 [some (.ref a0), some (.int x1), some (.int x2), some (.ref f_3)] [.ref f_3] z_8.2 i_108_77 rfl ?_
      obtain ⟨f_24, q_25, hd⟩ := dk_bind hd
      refine hp_gR 81 rfl i_108_78 q_25 ?_
      refine wp_s 82 [some (.ref a0), some (.int x1), some (.int x2), some (.ref f_3)] [.int x1, .ref f_24] z_8.2 i_108_81 rfl ?_
      obtain ⟨f_26, q_27, hd⟩ := dk_bind hd
      refine hp_gA 83 rfl i_108_82 q_27 ?_
      obtain rfl := Option.some.inj hd
      exact wp_iret i_108_83 ⟨rfl, rfl⟩
    rw [if_neg c_23] at hd
    by_cases c_28 : x2 = (3 : Int32)
    · rw [if_pos c_28] at hd
      refine wp_tswC (j := 3) 84 i_108_20 (by rw [c_28]; decide) (by decide) rfl rfl ?_
      refine wp_s 85 [some (.ref a0), some (.int x1), some (.int x2), some (.ref f_3)] [.ref a0] z_8.2 i_108_84 rfl ?_
      obtain ⟨f_29, q_30, hd⟩ := dk_bind hd
      refine hp_gR 88 rfl i_108_85 q_30 ?_
      obtain ⟨f_31, q_32, hd⟩ := dk_bind hd
      refine hp_gR 91 rfl i_108_88 q_32 ?_
      refine wp_s 92 [some (.ref a0), some (.int x1), some (.int x2), some (.ref f_3)] [.int x1, .ref f_31] z_8.2 i_108_91 rfl ?_
      obtain ⟨k_33, hd⟩ := dk_if hd
      obtain ⟨fs_34, o_35⟩ := isO_of k_33
      obtain ⟨z_36, q_37, hd⟩ := dk_bind hd
      refine wp_callV 95 rfl i_108_92 (by decide) rfl (vs := [.int x1]) (rest := []) rfl rfl rfl o_35 (y := m_76) rfl (Nat.le_of_ble_eq_true rfl) (d_76_ok (d := e) (by omega) q_37) ?_
      rintro v_38 h_39 ⟨rfl, rfl⟩
      obtain rfl := Option.some.inj hd
      exact wp_iret i_108_95 ⟨rfl, rfl⟩
    rw [if_neg c_28] at hd
    by_cases c_40 : x2 = (4 : Int32)
    · rw [if_pos c_40] at hd
      refine wp_tswC (j := 4) 96 i_108_20 (by rw [c_40]; decide) (by decide) rfl rfl ?_
      refine wp_s 97 [some (.ref a0), some (.int x1), some (.int x2), some (.ref f_3)] [.ref a0] z_8.2 i_108_96 rfl ?_
      obtain ⟨f_41, q_42, hd⟩ := dk_bind hd
      refine hp_gR 100 rfl i_108_97 q_42 ?_
      obtain ⟨f_43, q_44, hd⟩ := dk_bind hd
      refine hp_gR 103 rfl i_108_100 q_44 ?_
      refine wp_s 104 [some (.ref a0), some (.int x1), some (.int x2), some (.ref f_3)] [.int x1, .ref f_43] z_8.2 i_108_103 rfl ?_
      obtain ⟨k_45, hd⟩ := dk_if hd
      obtain ⟨fs_46, o_47⟩ := isO_of k_45
      obtain ⟨z_48, q_49, hd⟩ := dk_bind hd
      refine wp_callV 107 rfl i_108_104 (by decide) rfl (vs := [.int x1]) (rest := []) rfl rfl rfl o_47 (y := m_77) rfl (Nat.le_of_ble_eq_true rfl) (d_77_ok (d := e) (by omega) q_49) ?_
      rintro v_50 h_51 ⟨rfl, rfl⟩
      refine wp_if_eq 114 110 rfl rfl i_108_107 (fun c_52 => ?_) (fun c_52 => ?_)
      · rw [if_pos c_52] at hd
        refine wp_s 115 [some (.ref a0), some (.int x1), some (.int x2), some (.ref f_3)] [.int (0 : Int32)] z_48.2 i_108_114 rfl ?_
        obtain rfl := Option.some.inj hd
        exact wp_iret i_108_115 ⟨rfl, rfl⟩
      · rw [if_neg c_52] at hd
        refine wp_s 111 [some (.ref a0), some (.int x1), some (.int x2), some (.ref f_3)] [.int (1 : Int32)] z_48.2 i_108_110 rfl ?_
        refine wp_s 115 [some (.ref a0), some (.int x1), some (.int x2), some (.ref f_3)] [.int (1 : Int32)] z_48.2 i_108_111 rfl ?_
        obtain rfl := Option.some.inj hd
        exact wp_iret i_108_115 ⟨rfl, rfl⟩
    rw [if_neg c_40] at hd
    by_cases c_53 : x2 = (5 : Int32)
    · rw [if_pos c_53] at hd
      refine wp_tswC (j := 5) 116 i_108_20 (by rw [c_53]; decide) (by decide) rfl rfl ?_
      refine wp_s 117 [some (.ref a0), some (.int x1), some (.int x2), some (.ref f_3)] [.ref f_3] z_8.2 i_108_116 rfl ?_
      obtain ⟨f_54, q_55, hd⟩ := dk_bind hd
      refine hp_gR 120 rfl i_108_117 q_55 ?_
      refine wp_s 121 [some (.ref a0), some (.int x1), some (.int x2), some (.ref f_3)] [.int x1, .ref f_54] z_8.2 i_108_120 rfl ?_
      obtain ⟨f_56, q_57, hd⟩ := dk_bind hd
      refine hp_gA 122 rfl i_108_121 q_57 ?_
      obtain rfl := Option.some.inj hd
      exact wp_iret i_108_122 ⟨rfl, rfl⟩
    rw [if_neg c_53] at hd
    have o_58 : (x2).toInt < (0 : Int) ∨ (5 : Int) < (x2).toInt := by
      have e_0 := lv_neT c_13 (a := 0) (by decide)
      have e_1 := lv_neT c_18 (a := 1) (by decide)
      have e_2 := lv_neT c_23 (a := 2) (by decide)
      have e_3 := lv_neT c_28 (a := 3) (by decide)
      have e_4 := lv_neT c_40 (a := 4) (by decide)
      have e_5 := lv_neT c_53 (a := 5) (by decide)
      omega
    refine wp_tswD 123 i_108_20 o_58 rfl ?_
    refine wp_s 125 [some (.ref a0), some (.int x1), some (.int x2), some (.ref f_3)] [.int (-2 : Int32)] z_8.2 i_108_123 rfl ?_
    obtain rfl := Option.some.inj hd
    exact wp_iret i_108_125 ⟨rfl, rfl⟩
  · rw [if_neg c_12] at hd
    refine wp_s 18 [some (.ref a0), some (.int x1), some (.int x2), some (.ref f_3)] [.int (-2 : Int32)] z_8.2 i_108_16 rfl ?_
    obtain rfl := Option.some.inj hd
    exact wp_iret i_108_18 ⟨rfl, rfl⟩
def d_109 (g : Nat) (a0 : Nat) (x1 : Int32) (x2 : Int32) (h0 : aH) : Option (Int32 × aH) := (if x1 < 0 then some ((-1 : Int32), h0) else ((gR h0 a0 11 3).bind (fun f_2 => ((gR h0 f_2 10 0).bind (fun f_4 => ((gI h0 f_4 5 8).bind (fun f_6 => (if f_6 ≤ x1 then some ((-1 : Int32), h0) else (if x2 < 0 then some ((-1 : Int32), h0) else (if x2 ≤ (1 : Int32) then (if ¬ x2 = 0 then ((gR h0 a0 11 3).bind (fun f_12 => ((gR h0 f_12 10 0).bind (fun f_14 => ((gR h0 f_14 5 10).bind (fun f_16 => ((gA h0 f_16 x1).bind (fun f_18 => some (f_18, h0))))))))) else ((gR h0 a0 11 3).bind (fun f_20 => ((gR h0 f_20 10 0).bind (fun f_22 => ((gR h0 f_22 5 9).bind (fun f_24 => ((gA h0 f_24 x1).bind (fun f_26 => some (f_26, h0)))))))))) else some ((-1 : Int32), h0)))))))))))
set_option maxHeartbeats 4000000 in
set_option maxRecDepth 100000 in
theorem d_109_ok {X : aX} {g : Nat} {a0 : Nat} {x1 : Int32} {x2 : Int32} {h0 : aH} {zz : Int32 × aH} {d : Nat} (hdp : 0 ≤ d) (hd : d_109 g a0 x1 x2 h0 = some zz) : aWp X d 109 0 (aEntL [.ref a0, .int x1, .int x2] 3) [] h0 (fun w h' => w = some (.int zz.1) ∧ h' = zz.2) := by
  unfold d_109 at hd
  refine wp_lv (l2 := [some (.ref a0), some (.int x1), some (.int x2)]) rfl ?_
  refine wp_s 1 [some (.ref a0), some (.int x1), some (.int x2)] [.int x1] h0 i_109_0 rfl ?_
  refine wp_if_lt 27 4 rfl rfl i_109_1 (fun c_1 => ?_) (fun c_1 => ?_)
  · rw [if_pos c_1] at hd
    refine wp_s 28 [some (.ref a0), some (.int x1), some (.int x2)] [.int (-1 : Int32)] h0 i_109_27 rfl ?_
    obtain rfl := Option.some.inj hd
    exact wp_iret i_109_28 ⟨rfl, rfl⟩
  · rw [if_neg c_1] at hd
    refine wp_s 5 [some (.ref a0), some (.int x1), some (.int x2)] [.int x1] h0 i_109_4 rfl ?_
    refine wp_s 6 [some (.ref a0), some (.int x1), some (.int x2)] [.ref a0, .int x1] h0 i_109_5 rfl ?_
    obtain ⟨f_2, q_3, hd⟩ := dk_bind hd
    refine hp_gR 9 rfl i_109_6 q_3 ?_
    obtain ⟨f_4, q_5, hd⟩ := dk_bind hd
    refine hp_gR 12 rfl i_109_9 q_5 ?_
    obtain ⟨f_6, q_7, hd⟩ := dk_bind hd
    refine hp_gI 15 rfl i_109_12 q_7 ?_
    refine wp_cmp_ge 27 18 rfl rfl i_109_15 (fun c_8 => ?_) (fun c_8 => ?_)
    · rw [if_pos c_8] at hd
      refine wp_s 28 [some (.ref a0), some (.int x1), some (.int x2)] [.int (-1 : Int32)] h0 i_109_27 rfl ?_
      obtain rfl := Option.some.inj hd
      exact wp_iret i_109_28 ⟨rfl, rfl⟩
    · rw [if_neg c_8] at hd
      refine wp_s 19 [some (.ref a0), some (.int x1), some (.int x2)] [.int x2] h0 i_109_18 rfl ?_
      refine wp_if_lt 27 22 rfl rfl i_109_19 (fun c_9 => ?_) (fun c_9 => ?_)
      · rw [if_pos c_9] at hd
        refine wp_s 28 [some (.ref a0), some (.int x1), some (.int x2)] [.int (-1 : Int32)] h0 i_109_27 rfl ?_
        obtain rfl := Option.some.inj hd
        exact wp_iret i_109_28 ⟨rfl, rfl⟩
      · rw [if_neg c_9] at hd
        refine wp_s 23 [some (.ref a0), some (.int x1), some (.int x2)] [.int x2] h0 i_109_22 rfl ?_
        refine wp_s 24 [some (.ref a0), some (.int x1), some (.int x2)] [.int (1 : Int32), .int x2] h0 i_109_23 rfl ?_
        refine wp_cmp_le 29 27 rfl rfl i_109_24 (fun c_10 => ?_) (fun c_10 => ?_)
        · rw [if_pos c_10] at hd
          refine wp_s 30 [some (.ref a0), some (.int x1), some (.int x2)] [.int x2] h0 i_109_29 rfl ?_
          refine wp_if_ne 48 33 rfl rfl i_109_30 (fun c_11 => ?_) (fun c_11 => ?_)
          · rw [if_pos c_11] at hd
            refine wp_s 49 [some (.ref a0), some (.int x1), some (.int x2)] [.ref a0] h0 i_109_48 rfl ?_
            obtain ⟨f_12, q_13, hd⟩ := dk_bind hd
            refine hp_gR 52 rfl i_109_49 q_13 ?_
            obtain ⟨f_14, q_15, hd⟩ := dk_bind hd
            refine hp_gR 55 rfl i_109_52 q_15 ?_
            obtain ⟨f_16, q_17, hd⟩ := dk_bind hd
            refine hp_gR 58 rfl i_109_55 q_17 ?_
            refine wp_s 59 [some (.ref a0), some (.int x1), some (.int x2)] [.int x1, .ref f_16] h0 i_109_58 rfl ?_
            obtain ⟨f_18, q_19, hd⟩ := dk_bind hd
            refine hp_gA 60 rfl i_109_59 q_19 ?_
            obtain rfl := Option.some.inj hd
            exact wp_iret i_109_60 ⟨rfl, rfl⟩
          · rw [if_neg c_11] at hd
            refine wp_s 34 [some (.ref a0), some (.int x1), some (.int x2)] [.ref a0] h0 i_109_33 rfl ?_
            obtain ⟨f_20, q_21, hd⟩ := dk_bind hd
            refine hp_gR 37 rfl i_109_34 q_21 ?_
            obtain ⟨f_22, q_23, hd⟩ := dk_bind hd
            refine hp_gR 40 rfl i_109_37 q_23 ?_
            obtain ⟨f_24, q_25, hd⟩ := dk_bind hd
            refine hp_gR 43 rfl i_109_40 q_25 ?_
            refine wp_s 44 [some (.ref a0), some (.int x1), some (.int x2)] [.int x1, .ref f_24] h0 i_109_43 rfl ?_
            obtain ⟨f_26, q_27, hd⟩ := dk_bind hd
            refine hp_gA 45 rfl i_109_44 q_27 ?_
            refine wp_s 60 [some (.ref a0), some (.int x1), some (.int x2)] [.int f_26] h0 i_109_45 rfl ?_
            obtain rfl := Option.some.inj hd
            exact wp_iret i_109_60 ⟨rfl, rfl⟩
        · rw [if_neg c_10] at hd
          refine wp_s 28 [some (.ref a0), some (.int x1), some (.int x2)] [.int (-1 : Int32)] h0 i_109_27 rfl ?_
          obtain rfl := Option.some.inj hd
          exact wp_iret i_109_28 ⟨rfl, rfl⟩
def d_110 (g : Nat) (a0 : Nat) (x1 : Int32) (x2 : Int32) (x3 : Int32) (h0 : aH) : Option (Int32 × aH) := ((gR h0 a0 11 3).bind (fun f_1 => ((gR h0 f_1 10 0).bind (fun f_3 => (if isO h0 f_3 5 = true then ((d_55 g f_3 x1 h0).bind (fun z_8 => (if z_8.1 = 0 then some ((-1 : Int32), z_8.2) else ((d_138 g x2 (0 : Int32) (999 : Int32) z_8.2).bind (fun z_13 => (if z_13.1 = 0 then some ((-1 : Int32), z_13.2) else ((d_138 g x3 (0 : Int32) (99 : Int32) z_13.2).bind (fun z_18 => (if ¬ z_18.1 = 0 then ((gR z_18.2 a0 11 4).bind (fun f_23 => ((gR z_18.2 a0 11 3).bind (fun f_25 => ((gR z_18.2 f_25 10 1).bind (fun f_27 => ((gR z_18.2 a0 11 3).bind (fun f_29 => ((gI z_18.2 f_29 10 2).bind (fun f_31 => (if isO z_18.2 f_23 9 = true then ((d_89 g f_23 f_27 f_31 x1 x2 x3 z_18.2).bind (fun z_36 => some (z_36.1, z_36.2))) else none))))))))))) else some ((-1 : Int32), z_18.2)))))))))) else none)))))
set_option maxHeartbeats 4000000 in
set_option maxRecDepth 100000 in
theorem d_110_ok {X : aX} {g : Nat} {a0 : Nat} {x1 : Int32} {x2 : Int32} {x3 : Int32} {h0 : aH} {zz : Int32 × aH} {d : Nat} (hdp : 4 ≤ d) (hd : d_110 g a0 x1 x2 x3 h0 = some zz) : aWp X d 110 0 (aEntL [.ref a0, .int x1, .int x2, .int x3] 4) [] h0 (fun w h' => w = some (.int zz.1) ∧ h' = zz.2) := by
  unfold d_110 at hd
  refine wp_lv (l2 := [some (.ref a0), some (.int x1), some (.int x2), some (.int x3)]) rfl ?_
  obtain ⟨e, rfl⟩ : ∃ e, d = e + 1 := ⟨d - 1, by omega⟩
  refine wp_s 1 [some (.ref a0), some (.int x1), some (.int x2), some (.int x3)] [.ref a0] h0 i_110_0 rfl ?_
  obtain ⟨f_1, q_2, hd⟩ := dk_bind hd
  refine hp_gR 4 rfl i_110_1 q_2 ?_
  obtain ⟨f_3, q_4, hd⟩ := dk_bind hd
  refine hp_gR 7 rfl i_110_4 q_4 ?_
  refine wp_s 8 [some (.ref a0), some (.int x1), some (.int x2), some (.int x3)] [.int x1, .ref f_3] h0 i_110_7 rfl ?_
  obtain ⟨k_5, hd⟩ := dk_if hd
  obtain ⟨fs_6, o_7⟩ := isO_of k_5
  obtain ⟨z_8, q_9, hd⟩ := dk_bind hd
  refine wp_callV 11 rfl i_110_8 (by decide) rfl (vs := [.int x1]) (rest := []) rfl rfl rfl o_7 (y := m_55) rfl (Nat.le_of_ble_eq_true rfl) (d_55_ok (d := e) (by omega) q_9) ?_
  rintro v_10 h_11 ⟨rfl, rfl⟩
  refine wp_if_eq 35 14 rfl rfl i_110_11 (fun c_12 => ?_) (fun c_12 => ?_)
  · rw [if_pos c_12] at hd
    refine wp_s 36 [some (.ref a0), some (.int x1), some (.int x2), some (.int x3)] [.int (-1 : Int32)] z_8.2 i_110_35 rfl ?_
    obtain rfl := Option.some.inj hd
    exact wp_iret i_110_36 ⟨rfl, rfl⟩
  · rw [if_neg c_12] at hd
    refine wp_s 15 [some (.ref a0), some (.int x1), some (.int x2), some (.int x3)] [.int x2] z_8.2 i_110_14 rfl ?_
    refine wp_s 16 [some (.ref a0), some (.int x1), some (.int x2), some (.int x3)] [.int (0 : Int32), .int x2] z_8.2 i_110_15 rfl ?_
    refine wp_s 19 [some (.ref a0), some (.int x1), some (.int x2), some (.int x3)] [.int (999 : Int32), .int (0 : Int32), .int x2] z_8.2 i_110_16 rfl ?_
    obtain ⟨z_13, q_14, hd⟩ := dk_bind hd
    refine wp_callS 22 rfl i_110_19 (by decide) (vs := [.int x2, .int (0 : Int32), .int (999 : Int32)]) (rest := []) rfl rfl rfl (y := m_138) rfl (Nat.le_of_ble_eq_true rfl) (d_138_ok (d := e) (by omega) q_14) ?_
    rintro v_15 h_16 ⟨rfl, rfl⟩
    refine wp_if_eq 35 25 rfl rfl i_110_22 (fun c_17 => ?_) (fun c_17 => ?_)
    · rw [if_pos c_17] at hd
      refine wp_s 36 [some (.ref a0), some (.int x1), some (.int x2), some (.int x3)] [.int (-1 : Int32)] z_13.2 i_110_35 rfl ?_
      obtain rfl := Option.some.inj hd
      exact wp_iret i_110_36 ⟨rfl, rfl⟩
    · rw [if_neg c_17] at hd
      refine wp_s 26 [some (.ref a0), some (.int x1), some (.int x2), some (.int x3)] [.int x3] z_13.2 i_110_25 rfl ?_
      refine wp_s 27 [some (.ref a0), some (.int x1), some (.int x2), some (.int x3)] [.int (0 : Int32), .int x3] z_13.2 i_110_26 rfl ?_
      refine wp_s 29 [some (.ref a0), some (.int x1), some (.int x2), some (.int x3)] [.int (99 : Int32), .int (0 : Int32), .int x3] z_13.2 i_110_27 rfl ?_
      obtain ⟨z_18, q_19, hd⟩ := dk_bind hd
      refine wp_callS 32 rfl i_110_29 (by decide) (vs := [.int x3, .int (0 : Int32), .int (99 : Int32)]) (rest := []) rfl rfl rfl (y := m_138) rfl (Nat.le_of_ble_eq_true rfl) (d_138_ok (d := e) (by omega) q_19) ?_
      rintro v_20 h_21 ⟨rfl, rfl⟩
      refine wp_if_ne 37 35 rfl rfl i_110_32 (fun c_22 => ?_) (fun c_22 => ?_)
      · rw [if_pos c_22] at hd
        refine wp_s 38 [some (.ref a0), some (.int x1), some (.int x2), some (.int x3)] [.ref a0] z_18.2 i_110_37 rfl ?_
        obtain ⟨f_23, q_24, hd⟩ := dk_bind hd
        refine hp_gR 41 rfl i_110_38 q_24 ?_
        refine wp_s 42 [some (.ref a0), some (.int x1), some (.int x2), some (.int x3)] [.ref a0, .ref f_23] z_18.2 i_110_41 rfl ?_
        obtain ⟨f_25, q_26, hd⟩ := dk_bind hd
        refine hp_gR 45 rfl i_110_42 q_26 ?_
        obtain ⟨f_27, q_28, hd⟩ := dk_bind hd
        refine hp_gR 48 rfl i_110_45 q_28 ?_
        refine wp_s 49 [some (.ref a0), some (.int x1), some (.int x2), some (.int x3)] [.ref a0, .ref f_27, .ref f_23] z_18.2 i_110_48 rfl ?_
        obtain ⟨f_29, q_30, hd⟩ := dk_bind hd
        refine hp_gR 52 rfl i_110_49 q_30 ?_
        obtain ⟨f_31, q_32, hd⟩ := dk_bind hd
        refine hp_gI 55 rfl i_110_52 q_32 ?_
        refine wp_s 56 [some (.ref a0), some (.int x1), some (.int x2), some (.int x3)] [.int x1, .int f_31, .ref f_27, .ref f_23] z_18.2 i_110_55 rfl ?_
        refine wp_s 57 [some (.ref a0), some (.int x1), some (.int x2), some (.int x3)] [.int x2, .int x1, .int f_31, .ref f_27, .ref f_23] z_18.2 i_110_56 rfl ?_
        refine wp_s 58 [some (.ref a0), some (.int x1), some (.int x2), some (.int x3)] [.int x3, .int x2, .int x1, .int f_31, .ref f_27, .ref f_23] z_18.2 i_110_57 rfl ?_
        obtain ⟨k_33, hd⟩ := dk_if hd
        obtain ⟨fs_34, o_35⟩ := isO_of k_33
        obtain ⟨z_36, q_37, hd⟩ := dk_bind hd
        refine wp_callV 61 rfl i_110_58 (by decide) rfl (vs := [.ref f_27, .int f_31, .int x1, .int x2, .int x3]) (rest := []) rfl rfl rfl o_35 (y := m_89) rfl (Nat.le_of_ble_eq_true rfl) (d_89_ok (d := e) (by omega) q_37) ?_
        rintro v_38 h_39 ⟨rfl, rfl⟩
        obtain rfl := Option.some.inj hd
        exact wp_iret i_110_61 ⟨rfl, rfl⟩
      · rw [if_neg c_22] at hd
        refine wp_s 36 [some (.ref a0), some (.int x1), some (.int x2), some (.int x3)] [.int (-1 : Int32)] z_18.2 i_110_35 rfl ?_
        obtain rfl := Option.some.inj hd
        exact wp_iret i_110_36 ⟨rfl, rfl⟩
def d_111 (g : Nat) (a0 : Nat) (x1 : Int32) (h0 : aH) : Option (Int32 × aH) := ((gR h0 a0 11 3).bind (fun f_1 => ((gR h0 f_1 10 0).bind (fun f_3 => ((gI h0 f_3 5 0).bind (fun f_5 => (if f_5 = 0 then some ((-1 : Int32), h0) else (if x1 < 0 then some ((-1 : Int32), h0) else (if x1 ≤ (1 : Int32) then ((gR h0 a0 11 4).bind (fun f_10 => (if isO h0 f_10 9 = true then ((d_93 g f_10 h0).bind (fun z_15 => (if ¬ x1 = 0 then ((gR z_15.2 a0 11 4).bind (fun f_20 => ((gI z_15.2 f_20 9 4).bind (fun f_22 => some (f_22, z_15.2))))) else some (z_15.1, z_15.2)))) else none))) else some ((-1 : Int32), h0))))))))))
set_option maxHeartbeats 4000000 in
set_option maxRecDepth 100000 in
theorem d_111_ok {X : aX} {g : Nat} {a0 : Nat} {x1 : Int32} {h0 : aH} {zz : Int32 × aH} {d : Nat} (hdp : 7 ≤ d) (hd : d_111 g a0 x1 h0 = some zz) : aWp X d 111 0 (aEntL [.ref a0, .int x1] 3) [] h0 (fun w h' => w = some (.int zz.1) ∧ h' = zz.2) := by
  unfold d_111 at hd
  refine wp_lv (l2 := [some (.ref a0), some (.int x1), none]) rfl ?_
  obtain ⟨e, rfl⟩ : ∃ e, d = e + 1 := ⟨d - 1, by omega⟩
  refine wp_s 1 [some (.ref a0), some (.int x1), none] [.ref a0] h0 i_111_0 rfl ?_
  obtain ⟨f_1, q_2, hd⟩ := dk_bind hd
  refine hp_gR 4 rfl i_111_1 q_2 ?_
  obtain ⟨f_3, q_4, hd⟩ := dk_bind hd
  refine hp_gR 7 rfl i_111_4 q_4 ?_
  obtain ⟨f_5, q_6, hd⟩ := dk_bind hd
  refine hp_gI 10 rfl i_111_7 q_6 ?_
  refine wp_if_eq 22 13 rfl rfl i_111_10 (fun c_7 => ?_) (fun c_7 => ?_)
  · rw [if_pos c_7] at hd
    refine wp_s 23 [some (.ref a0), some (.int x1), none] [.int (-1 : Int32)] h0 i_111_22 rfl ?_
    obtain rfl := Option.some.inj hd
    exact wp_iret i_111_23 ⟨rfl, rfl⟩
  · rw [if_neg c_7] at hd
    refine wp_s 14 [some (.ref a0), some (.int x1), none] [.int x1] h0 i_111_13 rfl ?_
    refine wp_if_lt 22 17 rfl rfl i_111_14 (fun c_8 => ?_) (fun c_8 => ?_)
    · rw [if_pos c_8] at hd
      refine wp_s 23 [some (.ref a0), some (.int x1), none] [.int (-1 : Int32)] h0 i_111_22 rfl ?_
      obtain rfl := Option.some.inj hd
      exact wp_iret i_111_23 ⟨rfl, rfl⟩
    · rw [if_neg c_8] at hd
      refine wp_s 18 [some (.ref a0), some (.int x1), none] [.int x1] h0 i_111_17 rfl ?_
      refine wp_s 19 [some (.ref a0), some (.int x1), none] [.int (1 : Int32), .int x1] h0 i_111_18 rfl ?_
      refine wp_cmp_le 24 22 rfl rfl i_111_19 (fun c_9 => ?_) (fun c_9 => ?_)
      · rw [if_pos c_9] at hd
        refine wp_s 25 [some (.ref a0), some (.int x1), none] [.ref a0] h0 i_111_24 rfl ?_
        obtain ⟨f_10, q_11, hd⟩ := dk_bind hd
        refine hp_gR 28 rfl i_111_25 q_11 ?_
        obtain ⟨k_12, hd⟩ := dk_if hd
        obtain ⟨fs_13, o_14⟩ := isO_of k_12
        obtain ⟨z_15, q_16, hd⟩ := dk_bind hd
        refine wp_callV 31 rfl i_111_28 (by decide) rfl (vs := []) (rest := []) rfl rfl rfl o_14 (y := m_93) rfl (Nat.le_of_ble_eq_true rfl) (d_93_ok (d := e) (by omega) q_16) ?_
        rintro v_17 h_18 ⟨rfl, rfl⟩
        refine wp_s 32 [some (.ref a0), some (.int x1), some (.int z_15.1)] [] z_15.2 i_111_31 rfl ?_
        refine wp_s 33 [some (.ref a0), some (.int x1), some (.int z_15.1)] [.int x1] z_15.2 i_111_32 rfl ?_
        refine wp_if_ne 40 36 rfl rfl i_111_33 (fun c_19 => ?_) (fun c_19 => ?_)
        · rw [if_pos c_19] at hd
          refine wp_s 41 [some (.ref a0), some (.int x1), some (.int z_15.1)] [.ref a0] z_15.2 i_111_40 rfl ?_
          obtain ⟨f_20, q_21, hd⟩ := dk_bind hd
          refine hp_gR 44 rfl i_111_41 q_21 ?_
          obtain ⟨f_22, q_23, hd⟩ := dk_bind hd
          refine hp_gI 47 rfl i_111_44 q_23 ?_
          obtain rfl := Option.some.inj hd
          exact wp_iret i_111_47 ⟨rfl, rfl⟩
        · rw [if_neg c_19] at hd
          refine wp_s 37 [some (.ref a0), some (.int x1), some (.int z_15.1)] [.int z_15.1] z_15.2 i_111_36 rfl ?_
          refine wp_s 47 [some (.ref a0), some (.int x1), some (.int z_15.1)] [.int z_15.1] z_15.2 i_111_37 rfl ?_
          obtain rfl := Option.some.inj hd
          exact wp_iret i_111_47 ⟨rfl, rfl⟩
      · rw [if_neg c_9] at hd
        refine wp_s 23 [some (.ref a0), some (.int x1), none] [.int (-1 : Int32)] h0 i_111_22 rfl ?_
        obtain rfl := Option.some.inj hd
        exact wp_iret i_111_23 ⟨rfl, rfl⟩
def d_112 (g : Nat) (a0 : Nat) (x1 : Int32) (h0 : aH) : Option (Int32 × aH) := ((gR h0 a0 11 3).bind (fun f_1 => ((gR h0 f_1 10 1).bind (fun f_3 => ((gR h0 a0 11 3).bind (fun f_5 => ((gR h0 f_5 10 0).bind (fun f_7 => (if isO h0 f_7 5 = true then ((d_55 g f_7 x1 h0).bind (fun z_12 => (if z_12.1 = 0 then some ((-1 : Int32), z_12.2) else (if isO z_12.2 f_3 7 = true then ((d_74 g f_3 x1 z_12.2).bind (fun z_20 => (if ¬ z_20.1 = 0 then ((gR z_20.2 a0 11 6).bind (fun f_25 => (if isO z_20.2 f_25 1 = true then ((d_8 g f_25 f_3 z_20.2).bind (fun z_30 => ((gR z_30 f_3 7 0).bind (fun f_34 => ((gA z_30 f_34 x1).bind (fun f_36 => ((sA z_30 f_34 x1 (f_36 + (1 : Int32))).bind (fun h_38 => ((gR h_38 f_3 7 0).bind (fun f_40 => ((gA h_38 f_40 x1).bind (fun f_42 => some (f_42, h_38))))))))))))) else none))) else some ((-1 : Int32), z_20.2)))) else none)))) else none)))))))))
set_option maxHeartbeats 4000000 in
set_option maxRecDepth 100000 in
theorem d_112_ok {X : aX} {g : Nat} {a0 : Nat} {x1 : Int32} {h0 : aH} {zz : Int32 × aH} {d : Nat} (hdp : 2 ≤ d) (hd : d_112 g a0 x1 h0 = some zz) : aWp X d 112 0 (aEntL [.ref a0, .int x1] 3) [] h0 (fun w h' => w = some (.int zz.1) ∧ h' = zz.2) := by
  unfold d_112 at hd
  refine wp_lv (l2 := [some (.ref a0), some (.int x1), none]) rfl ?_
  obtain ⟨e, rfl⟩ : ∃ e, d = e + 1 := ⟨d - 1, by omega⟩
  refine wp_s 1 [some (.ref a0), some (.int x1), none] [.ref a0] h0 i_112_0 rfl ?_
  obtain ⟨f_1, q_2, hd⟩ := dk_bind hd
  refine hp_gR 4 rfl i_112_1 q_2 ?_
  obtain ⟨f_3, q_4, hd⟩ := dk_bind hd
  refine hp_gR 7 rfl i_112_4 q_4 ?_
  refine wp_s 8 [some (.ref a0), some (.int x1), some (.ref f_3)] [] h0 i_112_7 rfl ?_
  refine wp_s 9 [some (.ref a0), some (.int x1), some (.ref f_3)] [.ref a0] h0 i_112_8 rfl ?_
  obtain ⟨f_5, q_6, hd⟩ := dk_bind hd
  refine hp_gR 12 rfl i_112_9 q_6 ?_
  obtain ⟨f_7, q_8, hd⟩ := dk_bind hd
  refine hp_gR 15 rfl i_112_12 q_8 ?_
  refine wp_s 16 [some (.ref a0), some (.int x1), some (.ref f_3)] [.int x1, .ref f_7] h0 i_112_15 rfl ?_
  obtain ⟨k_9, hd⟩ := dk_if hd
  obtain ⟨fs_10, o_11⟩ := isO_of k_9
  obtain ⟨z_12, q_13, hd⟩ := dk_bind hd
  refine wp_callV 19 rfl i_112_16 (by decide) rfl (vs := [.int x1]) (rest := []) rfl rfl rfl o_11 (y := m_55) rfl (Nat.le_of_ble_eq_true rfl) (d_55_ok (d := e) (by omega) q_13) ?_
  rintro v_14 h_15 ⟨rfl, rfl⟩
  refine wp_if_eq 30 22 rfl rfl i_112_19 (fun c_16 => ?_) (fun c_16 => ?_)
  · rw [if_pos c_16] at hd
    refine wp_s 31 [some (.ref a0), some (.int x1), some (.ref f_3)] [.int (-1 : Int32)] z_12.2 i_112_30 rfl ?_
    obtain rfl := Option.some.inj hd
    exact wp_iret i_112_31 ⟨rfl, rfl⟩
  · rw [if_neg c_16] at hd
    refine wp_s 23 [some (.ref a0), some (.int x1), some (.ref f_3)] [.ref f_3] z_12.2 i_112_22 rfl ?_
    refine wp_s 24 [some (.ref a0), some (.int x1), some (.ref f_3)] [.int x1, .ref f_3] z_12.2 i_112_23 rfl ?_
    obtain ⟨k_17, hd⟩ := dk_if hd
    obtain ⟨fs_18, o_19⟩ := isO_of k_17
    obtain ⟨z_20, q_21, hd⟩ := dk_bind hd
    refine wp_callV 27 rfl i_112_24 (by decide) rfl (vs := [.int x1]) (rest := []) rfl rfl rfl o_19 (y := m_74) rfl (Nat.le_of_ble_eq_true rfl) (d_74_ok (d := e) (by omega) q_21) ?_
    rintro v_22 h_23 ⟨rfl, rfl⟩
    refine wp_if_ne 32 30 rfl rfl i_112_27 (fun c_24 => ?_) (fun c_24 => ?_)
    · rw [if_pos c_24] at hd
      refine wp_s 33 [some (.ref a0), some (.int x1), some (.ref f_3)] [.ref a0] z_20.2 i_112_32 rfl ?_
      obtain ⟨f_25, q_26, hd⟩ := dk_bind hd
      refine hp_gR 36 rfl i_112_33 q_26 ?_
      refine wp_s 37 [some (.ref a0), some (.int x1), some (.ref f_3)] [.ref f_3, .ref f_25] z_20.2 i_112_36 rfl ?_
      obtain ⟨k_27, hd⟩ := dk_if hd
      obtain ⟨fs_28, o_29⟩ := isO_of k_27
      obtain ⟨z_30, q_31, hd⟩ := dk_bind hd
      refine wp_callV 40 rfl i_112_37 (by decide) rfl (vs := [.ref f_3]) (rest := []) rfl rfl rfl o_29 (y := m_8) rfl (Nat.le_of_ble_eq_true rfl) (d_8_ok (d := e) (by omega) q_31) ?_
      rintro v_32 h_33 ⟨rfl, hz⟩
      have hz := hz.symm
      subst hz
      refine wp_s 41 [some (.ref a0), some (.int x1), some (.ref f_3)] [.ref f_3] z_30 i_112_40 rfl ?_
      obtain ⟨f_34, q_35, hd⟩ := dk_bind hd
      refine hp_gR 44 rfl i_112_41 q_35 ?_
      refine wp_s 45 [some (.ref a0), some (.int x1), some (.ref f_3)] [.int x1, .ref f_34] z_30 i_112_44 rfl ?_
      refine wp_s 46 [some (.ref a0), some (.int x1), some (.ref f_3)] [.int x1, .ref f_34, .int x1, .ref f_34] z_30 i_112_45 rfl ?_
      obtain ⟨f_36, q_37, hd⟩ := dk_bind hd
      refine hp_gA 47 rfl i_112_46 q_37 ?_
      refine wp_s 48 [some (.ref a0), some (.int x1), some (.ref f_3)] [.int (1 : Int32), .int f_36, .int x1, .ref f_34] z_30 i_112_47 rfl ?_
      refine wp_s 49 [some (.ref a0), some (.int x1), some (.ref f_3)] [.int (f_36 + (1 : Int32)), .int x1, .ref f_34] z_30 i_112_48 rfl ?_
      obtain ⟨h_38, q_39, hd⟩ := dk_bind hd
      refine hp_sA 50 rfl i_112_49 q_39 ?_
      refine wp_s 51 [some (.ref a0), some (.int x1), some (.ref f_3)] [.ref f_3] h_38 i_112_50 rfl ?_
      obtain ⟨f_40, q_41, hd⟩ := dk_bind hd
      refine hp_gR 54 rfl i_112_51 q_41 ?_
      refine wp_s 55 [some (.ref a0), some (.int x1), some (.ref f_3)] [.int x1, .ref f_40] h_38 i_112_54 rfl ?_
      obtain ⟨f_42, q_43, hd⟩ := dk_bind hd
      refine hp_gA 56 rfl i_112_55 q_43 ?_
      obtain rfl := Option.some.inj hd
      exact wp_iret i_112_56 ⟨rfl, rfl⟩
    · rw [if_neg c_24] at hd
      refine wp_s 31 [some (.ref a0), some (.int x1), some (.ref f_3)] [.int (-1 : Int32)] z_20.2 i_112_30 rfl ?_
      obtain rfl := Option.some.inj hd
      exact wp_iret i_112_31 ⟨rfl, rfl⟩
def d_113 (g : Nat) (a0 : Nat) (x1 : Int32) (h0 : aH) : Option (Int32 × aH) := ((gR h0 a0 11 3).bind (fun f_1 => ((gR h0 f_1 10 1).bind (fun f_3 => ((gR h0 a0 11 3).bind (fun f_5 => ((gR h0 f_5 10 0).bind (fun f_7 => (if isO h0 f_7 5 = true then ((d_55 g f_7 x1 h0).bind (fun z_12 => (if z_12.1 = 0 then some ((-1 : Int32), z_12.2) else ((gR z_12.2 f_3 7 0).bind (fun f_17 => ((gA z_12.2 f_17 x1).bind (fun f_19 => (if (1 : Int32) ≤ f_19 then ((gR z_12.2 a0 11 6).bind (fun f_22 => (if isO z_12.2 f_22 1 = true then ((d_8 g f_22 f_3 z_12.2).bind (fun z_27 => ((gR z_27 f_3 7 0).bind (fun f_31 => ((gA z_27 f_31 x1).bind (fun f_33 => ((sA z_27 f_31 x1 (f_33 - (1 : Int32))).bind (fun h_35 => ((gR h_35 f_3 7 0).bind (fun f_37 => ((gA h_35 f_37 x1).bind (fun f_39 => some (f_39, h_35))))))))))))) else none))) else some ((-1 : Int32), z_12.2))))))))) else none)))))))))
set_option maxHeartbeats 4000000 in
set_option maxRecDepth 100000 in
theorem d_113_ok {X : aX} {g : Nat} {a0 : Nat} {x1 : Int32} {h0 : aH} {zz : Int32 × aH} {d : Nat} (hdp : 2 ≤ d) (hd : d_113 g a0 x1 h0 = some zz) : aWp X d 113 0 (aEntL [.ref a0, .int x1] 3) [] h0 (fun w h' => w = some (.int zz.1) ∧ h' = zz.2) := by
  unfold d_113 at hd
  refine wp_lv (l2 := [some (.ref a0), some (.int x1), none]) rfl ?_
  obtain ⟨e, rfl⟩ : ∃ e, d = e + 1 := ⟨d - 1, by omega⟩
  refine wp_s 1 [some (.ref a0), some (.int x1), none] [.ref a0] h0 i_113_0 rfl ?_
  obtain ⟨f_1, q_2, hd⟩ := dk_bind hd
  refine hp_gR 4 rfl i_113_1 q_2 ?_
  obtain ⟨f_3, q_4, hd⟩ := dk_bind hd
  refine hp_gR 7 rfl i_113_4 q_4 ?_
  refine wp_s 8 [some (.ref a0), some (.int x1), some (.ref f_3)] [] h0 i_113_7 rfl ?_
  refine wp_s 9 [some (.ref a0), some (.int x1), some (.ref f_3)] [.ref a0] h0 i_113_8 rfl ?_
  obtain ⟨f_5, q_6, hd⟩ := dk_bind hd
  refine hp_gR 12 rfl i_113_9 q_6 ?_
  obtain ⟨f_7, q_8, hd⟩ := dk_bind hd
  refine hp_gR 15 rfl i_113_12 q_8 ?_
  refine wp_s 16 [some (.ref a0), some (.int x1), some (.ref f_3)] [.int x1, .ref f_7] h0 i_113_15 rfl ?_
  obtain ⟨k_9, hd⟩ := dk_if hd
  obtain ⟨fs_10, o_11⟩ := isO_of k_9
  obtain ⟨z_12, q_13, hd⟩ := dk_bind hd
  refine wp_callV 19 rfl i_113_16 (by decide) rfl (vs := [.int x1]) (rest := []) rfl rfl rfl o_11 (y := m_55) rfl (Nat.le_of_ble_eq_true rfl) (d_55_ok (d := e) (by omega) q_13) ?_
  rintro v_14 h_15 ⟨rfl, rfl⟩
  refine wp_if_eq 32 22 rfl rfl i_113_19 (fun c_16 => ?_) (fun c_16 => ?_)
  · rw [if_pos c_16] at hd
    refine wp_s 33 [some (.ref a0), some (.int x1), some (.ref f_3)] [.int (-1 : Int32)] z_12.2 i_113_32 rfl ?_
    obtain rfl := Option.some.inj hd
    exact wp_iret i_113_33 ⟨rfl, rfl⟩
  · rw [if_neg c_16] at hd
    refine wp_s 23 [some (.ref a0), some (.int x1), some (.ref f_3)] [.ref f_3] z_12.2 i_113_22 rfl ?_
    obtain ⟨f_17, q_18, hd⟩ := dk_bind hd
    refine hp_gR 26 rfl i_113_23 q_18 ?_
    refine wp_s 27 [some (.ref a0), some (.int x1), some (.ref f_3)] [.int x1, .ref f_17] z_12.2 i_113_26 rfl ?_
    obtain ⟨f_19, q_20, hd⟩ := dk_bind hd
    refine hp_gA 28 rfl i_113_27 q_20 ?_
    refine wp_s 29 [some (.ref a0), some (.int x1), some (.ref f_3)] [.int (1 : Int32), .int f_19] z_12.2 i_113_28 rfl ?_
    refine wp_cmp_ge 34 32 rfl rfl i_113_29 (fun c_21 => ?_) (fun c_21 => ?_)
    · rw [if_pos c_21] at hd
      refine wp_s 35 [some (.ref a0), some (.int x1), some (.ref f_3)] [.ref a0] z_12.2 i_113_34 rfl ?_
      obtain ⟨f_22, q_23, hd⟩ := dk_bind hd
      refine hp_gR 38 rfl i_113_35 q_23 ?_
      refine wp_s 39 [some (.ref a0), some (.int x1), some (.ref f_3)] [.ref f_3, .ref f_22] z_12.2 i_113_38 rfl ?_
      obtain ⟨k_24, hd⟩ := dk_if hd
      obtain ⟨fs_25, o_26⟩ := isO_of k_24
      obtain ⟨z_27, q_28, hd⟩ := dk_bind hd
      refine wp_callV 42 rfl i_113_39 (by decide) rfl (vs := [.ref f_3]) (rest := []) rfl rfl rfl o_26 (y := m_8) rfl (Nat.le_of_ble_eq_true rfl) (d_8_ok (d := e) (by omega) q_28) ?_
      rintro v_29 h_30 ⟨rfl, hz⟩
      have hz := hz.symm
      subst hz
      refine wp_s 43 [some (.ref a0), some (.int x1), some (.ref f_3)] [.ref f_3] z_27 i_113_42 rfl ?_
      obtain ⟨f_31, q_32, hd⟩ := dk_bind hd
      refine hp_gR 46 rfl i_113_43 q_32 ?_
      refine wp_s 47 [some (.ref a0), some (.int x1), some (.ref f_3)] [.int x1, .ref f_31] z_27 i_113_46 rfl ?_
      refine wp_s 48 [some (.ref a0), some (.int x1), some (.ref f_3)] [.int x1, .ref f_31, .int x1, .ref f_31] z_27 i_113_47 rfl ?_
      obtain ⟨f_33, q_34, hd⟩ := dk_bind hd
      refine hp_gA 49 rfl i_113_48 q_34 ?_
      refine wp_s 50 [some (.ref a0), some (.int x1), some (.ref f_3)] [.int (1 : Int32), .int f_33, .int x1, .ref f_31] z_27 i_113_49 rfl ?_
      refine wp_s 51 [some (.ref a0), some (.int x1), some (.ref f_3)] [.int (f_33 - (1 : Int32)), .int x1, .ref f_31] z_27 i_113_50 rfl ?_
      obtain ⟨h_35, q_36, hd⟩ := dk_bind hd
      refine hp_sA 52 rfl i_113_51 q_36 ?_
      refine wp_s 53 [some (.ref a0), some (.int x1), some (.ref f_3)] [.ref f_3] h_35 i_113_52 rfl ?_
      obtain ⟨f_37, q_38, hd⟩ := dk_bind hd
      refine hp_gR 56 rfl i_113_53 q_38 ?_
      refine wp_s 57 [some (.ref a0), some (.int x1), some (.ref f_3)] [.int x1, .ref f_37] h_35 i_113_56 rfl ?_
      obtain ⟨f_39, q_40, hd⟩ := dk_bind hd
      refine hp_gA 58 rfl i_113_57 q_40 ?_
      obtain rfl := Option.some.inj hd
      exact wp_iret i_113_58 ⟨rfl, rfl⟩
    · rw [if_neg c_21] at hd
      refine wp_s 33 [some (.ref a0), some (.int x1), some (.ref f_3)] [.int (-1 : Int32)] z_12.2 i_113_32 rfl ?_
      obtain rfl := Option.some.inj hd
      exact wp_iret i_113_33 ⟨rfl, rfl⟩
def d_114 (g : Nat) (a0 : Nat) (x1 : Int32) (h0 : aH) : Option (Int32 × aH) := ((gR h0 a0 11 3).bind (fun f_1 => ((gR h0 f_1 10 1).bind (fun f_3 => ((gR h0 a0 11 3).bind (fun f_5 => ((gR h0 f_5 10 0).bind (fun f_7 => (if isO h0 f_7 5 = true then ((d_56 g f_7 x1 h0).bind (fun z_12 => (if z_12.1 = 0 then some ((-1 : Int32), z_12.2) else (if isO z_12.2 f_3 7 = true then ((d_77 g f_3 x1 z_12.2).bind (fun z_20 => (if ¬ z_20.1 = 0 then some ((-1 : Int32), z_20.2) else ((gR z_20.2 a0 11 3).bind (fun f_25 => ((gR z_20.2 f_25 10 0).bind (fun f_27 => ((gR z_20.2 f_3 7 6).bind (fun f_29 => ((gI z_20.2 f_3 7 8).bind (fun f_31 => (if isO z_20.2 f_27 5 = true then ((d_58 g f_27 x1 f_29 f_31 z_20.2).bind (fun z_36 => (if ¬ z_36.1 = 0 then ((gR z_36.2 a0 11 6).bind (fun f_41 => (if isO z_36.2 f_41 1 = true then ((d_8 g f_41 f_3 z_36.2).bind (fun z_46 => ((gR z_46 f_3 7 6).bind (fun f_50 => ((gI z_46 f_3 7 8).bind (fun f_52 => ((sA z_46 f_50 f_52 x1).bind (fun h_54 => ((gI h_54 f_3 7 8).bind (fun f_56 => ((sF h_54 f_3 7 8 (.int (f_56 + (1 : Int32)))).bind (fun h_58 => ((gI h_58 f_3 7 8).bind (fun f_60 => some (f_60, h_58))))))))))))))) else none))) else some ((-1 : Int32), z_36.2)))) else none)))))))))))) else none)))) else none)))))))))
set_option maxHeartbeats 4000000 in
set_option maxRecDepth 100000 in
theorem d_114_ok {X : aX} {g : Nat} {a0 : Nat} {x1 : Int32} {h0 : aH} {zz : Int32 × aH} {d : Nat} (hdp : 2 ≤ d) (hd : d_114 g a0 x1 h0 = some zz) : aWp X d 114 0 (aEntL [.ref a0, .int x1] 3) [] h0 (fun w h' => w = some (.int zz.1) ∧ h' = zz.2) := by
  unfold d_114 at hd
  refine wp_lv (l2 := [some (.ref a0), some (.int x1), none]) rfl ?_
  obtain ⟨e, rfl⟩ : ∃ e, d = e + 1 := ⟨d - 1, by omega⟩
  refine wp_s 1 [some (.ref a0), some (.int x1), none] [.ref a0] h0 i_114_0 rfl ?_
  obtain ⟨f_1, q_2, hd⟩ := dk_bind hd
  refine hp_gR 4 rfl i_114_1 q_2 ?_
  obtain ⟨f_3, q_4, hd⟩ := dk_bind hd
  refine hp_gR 7 rfl i_114_4 q_4 ?_
  refine wp_s 8 [some (.ref a0), some (.int x1), some (.ref f_3)] [] h0 i_114_7 rfl ?_
  refine wp_s 9 [some (.ref a0), some (.int x1), some (.ref f_3)] [.ref a0] h0 i_114_8 rfl ?_
  obtain ⟨f_5, q_6, hd⟩ := dk_bind hd
  refine hp_gR 12 rfl i_114_9 q_6 ?_
  obtain ⟨f_7, q_8, hd⟩ := dk_bind hd
  refine hp_gR 15 rfl i_114_12 q_8 ?_
  refine wp_s 16 [some (.ref a0), some (.int x1), some (.ref f_3)] [.int x1, .ref f_7] h0 i_114_15 rfl ?_
  obtain ⟨k_9, hd⟩ := dk_if hd
  obtain ⟨fs_10, o_11⟩ := isO_of k_9
  obtain ⟨z_12, q_13, hd⟩ := dk_bind hd
  refine wp_callV 19 rfl i_114_16 (by decide) rfl (vs := [.int x1]) (rest := []) rfl rfl rfl o_11 (y := m_56) rfl (Nat.le_of_ble_eq_true rfl) (d_56_ok (d := e) (by omega) q_13) ?_
  rintro v_14 h_15 ⟨rfl, rfl⟩
  refine wp_if_eq 52 22 rfl rfl i_114_19 (fun c_16 => ?_) (fun c_16 => ?_)
  · rw [if_pos c_16] at hd
    refine wp_s 53 [some (.ref a0), some (.int x1), some (.ref f_3)] [.int (-1 : Int32)] z_12.2 i_114_52 rfl ?_
    obtain rfl := Option.some.inj hd
    exact wp_iret i_114_53 ⟨rfl, rfl⟩
  · rw [if_neg c_16] at hd
    refine wp_s 23 [some (.ref a0), some (.int x1), some (.ref f_3)] [.ref f_3] z_12.2 i_114_22 rfl ?_
    refine wp_s 24 [some (.ref a0), some (.int x1), some (.ref f_3)] [.int x1, .ref f_3] z_12.2 i_114_23 rfl ?_
    obtain ⟨k_17, hd⟩ := dk_if hd
    obtain ⟨fs_18, o_19⟩ := isO_of k_17
    obtain ⟨z_20, q_21, hd⟩ := dk_bind hd
    refine wp_callV 27 rfl i_114_24 (by decide) rfl (vs := [.int x1]) (rest := []) rfl rfl rfl o_19 (y := m_77) rfl (Nat.le_of_ble_eq_true rfl) (d_77_ok (d := e) (by omega) q_21) ?_
    rintro v_22 h_23 ⟨rfl, rfl⟩
    refine wp_if_ne 52 30 rfl rfl i_114_27 (fun c_24 => ?_) (fun c_24 => ?_)
    · rw [if_pos c_24] at hd
      refine wp_s 53 [some (.ref a0), some (.int x1), some (.ref f_3)] [.int (-1 : Int32)] z_20.2 i_114_52 rfl ?_
      obtain rfl := Option.some.inj hd
      exact wp_iret i_114_53 ⟨rfl, rfl⟩
    · rw [if_neg c_24] at hd
      refine wp_s 31 [some (.ref a0), some (.int x1), some (.ref f_3)] [.ref a0] z_20.2 i_114_30 rfl ?_
      obtain ⟨f_25, q_26, hd⟩ := dk_bind hd
      refine hp_gR 34 rfl i_114_31 q_26 ?_
      obtain ⟨f_27, q_28, hd⟩ := dk_bind hd
      refine hp_gR 37 rfl i_114_34 q_28 ?_
      refine wp_s 38 [some (.ref a0), some (.int x1), some (.ref f_3)] [.int x1, .ref f_27] z_20.2 i_114_37 rfl ?_
      refine wp_s 39 [some (.ref a0), some (.int x1), some (.ref f_3)] [.ref f_3, .int x1, .ref f_27] z_20.2 i_114_38 rfl ?_
      obtain ⟨f_29, q_30, hd⟩ := dk_bind hd
      refine hp_gR 42 rfl i_114_39 q_30 ?_
      refine wp_s 43 [some (.ref a0), some (.int x1), some (.ref f_3)] [.ref f_3, .ref f_29, .int x1, .ref f_27] z_20.2 i_114_42 rfl ?_
      obtain ⟨f_31, q_32, hd⟩ := dk_bind hd
      refine hp_gI 46 rfl i_114_43 q_32 ?_
      obtain ⟨k_33, hd⟩ := dk_if hd
      obtain ⟨fs_34, o_35⟩ := isO_of k_33
      obtain ⟨z_36, q_37, hd⟩ := dk_bind hd
      refine wp_callV 49 rfl i_114_46 (by decide) rfl (vs := [.int x1, .ref f_29, .int f_31]) (rest := []) rfl rfl rfl o_35 (y := m_58) rfl (Nat.le_of_ble_eq_true rfl) (d_58_ok (d := e) (by omega) q_37) ?_
      rintro v_38 h_39 ⟨rfl, rfl⟩
      refine wp_if_ne 54 52 rfl rfl i_114_49 (fun c_40 => ?_) (fun c_40 => ?_)
      · rw [if_pos c_40] at hd
        refine wp_s 55 [some (.ref a0), some (.int x1), some (.ref f_3)] [.ref a0] z_36.2 i_114_54 rfl ?_
        obtain ⟨f_41, q_42, hd⟩ := dk_bind hd
        refine hp_gR 58 rfl i_114_55 q_42 ?_
        refine wp_s 59 [some (.ref a0), some (.int x1), some (.ref f_3)] [.ref f_3, .ref f_41] z_36.2 i_114_58 rfl ?_
        obtain ⟨k_43, hd⟩ := dk_if hd
        obtain ⟨fs_44, o_45⟩ := isO_of k_43
        obtain ⟨z_46, q_47, hd⟩ := dk_bind hd
        refine wp_callV 62 rfl i_114_59 (by decide) rfl (vs := [.ref f_3]) (rest := []) rfl rfl rfl o_45 (y := m_8) rfl (Nat.le_of_ble_eq_true rfl) (d_8_ok (d := e) (by omega) q_47) ?_
        rintro v_48 h_49 ⟨rfl, hz⟩
        have hz := hz.symm
        subst hz
        refine wp_s 63 [some (.ref a0), some (.int x1), some (.ref f_3)] [.ref f_3] z_46 i_114_62 rfl ?_
        obtain ⟨f_50, q_51, hd⟩ := dk_bind hd
        refine hp_gR 66 rfl i_114_63 q_51 ?_
        refine wp_s 67 [some (.ref a0), some (.int x1), some (.ref f_3)] [.ref f_3, .ref f_50] z_46 i_114_66 rfl ?_
        obtain ⟨f_52, q_53, hd⟩ := dk_bind hd
        refine hp_gI 70 rfl i_114_67 q_53 ?_
        refine wp_s 71 [some (.ref a0), some (.int x1), some (.ref f_3)] [.int x1, .int f_52, .ref f_50] z_46 i_114_70 rfl ?_
        obtain ⟨h_54, q_55, hd⟩ := dk_bind hd
        refine hp_sA 72 rfl i_114_71 q_55 ?_
        refine wp_s 73 [some (.ref a0), some (.int x1), some (.ref f_3)] [.ref f_3] h_54 i_114_72 rfl ?_
        refine wp_s 74 [some (.ref a0), some (.int x1), some (.ref f_3)] [.ref f_3, .ref f_3] h_54 i_114_73 rfl ?_
        obtain ⟨f_56, q_57, hd⟩ := dk_bind hd
        refine hp_gI 77 rfl i_114_74 q_57 ?_
        refine wp_s 78 [some (.ref a0), some (.int x1), some (.ref f_3)] [.int (1 : Int32), .int f_56, .ref f_3] h_54 i_114_77 rfl ?_
        refine wp_s 79 [some (.ref a0), some (.int x1), some (.ref f_3)] [.int (f_56 + (1 : Int32)), .ref f_3] h_54 i_114_78 rfl ?_
        obtain ⟨h_58, q_59, hd⟩ := dk_bind hd
        refine hp_sF 82 rfl i_114_79 q_59 ?_
        refine wp_s 83 [some (.ref a0), some (.int x1), some (.ref f_3)] [.ref f_3] h_58 i_114_82 rfl ?_
        obtain ⟨f_60, q_61, hd⟩ := dk_bind hd
        refine hp_gI 86 rfl i_114_83 q_61 ?_
        obtain rfl := Option.some.inj hd
        exact wp_iret i_114_86 ⟨rfl, rfl⟩
      · rw [if_neg c_40] at hd
        refine wp_s 53 [some (.ref a0), some (.int x1), some (.ref f_3)] [.int (-1 : Int32)] z_36.2 i_114_52 rfl ?_
        obtain rfl := Option.some.inj hd
        exact wp_iret i_114_53 ⟨rfl, rfl⟩
def l_115 (g n tag : Nat) (a0 : Nat) (x1 : Int32) (a2 : Nat) (x3 : Int32) (x4 : Int32) (h0 : aH) : Option (Int32 × aH) := match n with
  | 0 => none
  | n + 1 => if tag = 0 then ((gI h0 a2 7 8).bind (fun f_1 => (if f_1 ≤ (x4 + (1 : Int32)) then ((gI h0 a2 7 8).bind (fun f_4 => ((sF h0 a2 7 8 (.int (f_4 - (1 : Int32)))).bind (fun h_6 => ((gI h_6 a2 7 8).bind (fun f_8 => some (f_8, h_6))))))) else ((gR h0 a2 7 6).bind (fun f_10 => ((gR h0 a2 7 6).bind (fun f_12 => ((gA h0 f_12 (x4 + (1 : Int32))).bind (fun f_14 => ((sA h0 f_10 x4 f_14).bind (fun h_16 => (l_115 g n 0 a0 x1 a2 x3 (x4 + (1 : Int32)) h_16)))))))))))) else none
set_option maxHeartbeats 4000000 in
set_option maxRecDepth 100000 in
theorem l_115_ok {X : aX} {g : Nat} {d : Nat} (hdp : 2 ≤ d) : ∀ n, (∀ (a0 : Nat) (x1 : Int32) (a2 : Nat) (x3 : Int32) (x4 : Int32) (h0 : aH) (zz : Int32 × aH), l_115 g n 0 a0 x1 a2 x3 x4 h0 = some zz → aWp X d 115 31 [some (.ref a0), some (.int x1), some (.ref a2), some (.int x3), some (.int x4)] [] h0 (fun w h' => w = some (.int zz.1) ∧ h' = zz.2)) := by
  intro n
  induction n with
  | zero => exact fun _ _ _ _ _ _ _ hd => by simp [l_115] at hd
  | succ n ih =>
    intro a0 x1 a2 x3 x4 h0 zz hd
    unfold l_115 at hd
    rw [if_pos rfl] at hd
    obtain ⟨e, rfl⟩ : ∃ e, d = e + 1 := ⟨d - 1, by omega⟩
    refine wp_s 33 [some (.ref a0), some (.int x1), some (.ref a2), some (.int x3), some (.int x4)] [.int x4] h0 i_115_31 rfl ?_
    refine wp_s 34 [some (.ref a0), some (.int x1), some (.ref a2), some (.int x3), some (.int x4)] [.int (1 : Int32), .int x4] h0 i_115_33 rfl ?_
    refine wp_s 35 [some (.ref a0), some (.int x1), some (.ref a2), some (.int x3), some (.int x4)] [.int (x4 + (1 : Int32))] h0 i_115_34 rfl ?_
    refine wp_s 36 [some (.ref a0), some (.int x1), some (.ref a2), some (.int x3), some (.int x4)] [.ref a2, .int (x4 + (1 : Int32))] h0 i_115_35 rfl ?_
    obtain ⟨f_1, q_2, hd⟩ := dk_bind hd
    refine hp_gI 39 rfl i_115_36 q_2 ?_
    refine wp_cmp_ge 64 42 rfl rfl i_115_39 (fun c_3 => ?_) (fun c_3 => ?_)
    · rw [if_pos c_3] at hd
      refine wp_s 65 [some (.ref a0), some (.int x1), some (.ref a2), some (.int x3), some (.int x4)] [.ref a2] h0 i_115_64 rfl ?_
      refine wp_s 66 [some (.ref a0), some (.int x1), some (.ref a2), some (.int x3), some (.int x4)] [.ref a2, .ref a2] h0 i_115_65 rfl ?_
      obtain ⟨f_4, q_5, hd⟩ := dk_bind hd
      refine hp_gI 69 rfl i_115_66 q_5 ?_
      refine wp_s 70 [some (.ref a0), some (.int x1), some (.ref a2), some (.int x3), some (.int x4)] [.int (1 : Int32), .int f_4, .ref a2] h0 i_115_69 rfl ?_
      refine wp_s 71 [some (.ref a0), some (.int x1), some (.ref a2), some (.int x3), some (.int x4)] [.int (f_4 - (1 : Int32)), .ref a2] h0 i_115_70 rfl ?_
      obtain ⟨h_6, q_7, hd⟩ := dk_bind hd
      refine hp_sF 74 rfl i_115_71 q_7 ?_
      refine wp_s 75 [some (.ref a0), some (.int x1), some (.ref a2), some (.int x3), some (.int x4)] [.ref a2] h_6 i_115_74 rfl ?_
      obtain ⟨f_8, q_9, hd⟩ := dk_bind hd
      refine hp_gI 78 rfl i_115_75 q_9 ?_
      obtain rfl := Option.some.inj hd
      exact wp_iret i_115_78 ⟨rfl, rfl⟩
    · rw [if_neg c_3] at hd
      refine wp_s 43 [some (.ref a0), some (.int x1), some (.ref a2), some (.int x3), some (.int x4)] [.ref a2] h0 i_115_42 rfl ?_
      obtain ⟨f_10, q_11, hd⟩ := dk_bind hd
      refine hp_gR 46 rfl i_115_43 q_11 ?_
      refine wp_s 48 [some (.ref a0), some (.int x1), some (.ref a2), some (.int x3), some (.int x4)] [.int x4, .ref f_10] h0 i_115_46 rfl ?_
      refine wp_s 49 [some (.ref a0), some (.int x1), some (.ref a2), some (.int x3), some (.int x4)] [.ref a2, .int x4, .ref f_10] h0 i_115_48 rfl ?_
      obtain ⟨f_12, q_13, hd⟩ := dk_bind hd
      refine hp_gR 52 rfl i_115_49 q_13 ?_
      refine wp_s 54 [some (.ref a0), some (.int x1), some (.ref a2), some (.int x3), some (.int x4)] [.int x4, .ref f_12, .int x4, .ref f_10] h0 i_115_52 rfl ?_
      refine wp_s 55 [some (.ref a0), some (.int x1), some (.ref a2), some (.int x3), some (.int x4)] [.int (1 : Int32), .int x4, .ref f_12, .int x4, .ref f_10] h0 i_115_54 rfl ?_
      refine wp_s 56 [some (.ref a0), some (.int x1), some (.ref a2), some (.int x3), some (.int x4)] [.int (x4 + (1 : Int32)), .ref f_12, .int x4, .ref f_10] h0 i_115_55 rfl ?_
      obtain ⟨f_14, q_15, hd⟩ := dk_bind hd
      refine hp_gA 57 rfl i_115_56 q_15 ?_
      obtain ⟨h_16, q_17, hd⟩ := dk_bind hd
      refine hp_sA 58 rfl i_115_57 q_17 ?_
      refine wp_s 61 [some (.ref a0), some (.int x1), some (.ref a2), some (.int x3), some (.int (x4 + (1 : Int32)))] [] h_16 i_115_58 rfl ?_
      refine wp_s 31 [some (.ref a0), some (.int x1), some (.ref a2), some (.int x3), some (.int (x4 + (1 : Int32)))] [] h_16 i_115_61 rfl ?_
      exact aWp.forget (ih _ _ _ _ _ _ _ hd) (lvS (lvS (lvS (lvS (lvS lvE)))))
def d_115 (g : Nat) (a0 : Nat) (x1 : Int32) (h0 : aH) : Option (Int32 × aH) := ((gR h0 a0 11 3).bind (fun f_1001 => ((gR h0 f_1001 10 1).bind (fun f_1003 => (if isO h0 f_1003 7 = true then ((d_76 g f_1003 x1 h0).bind (fun z_1008 => (if 0 ≤ z_1008.1 then ((gR z_1008.2 a0 11 6).bind (fun f_1013 => (if isO z_1008.2 f_1013 1 = true then ((d_8 g f_1013 f_1003 z_1008.2).bind (fun z_1018 => (l_115 g g 0 a0 x1 f_1003 z_1008.1 z_1008.1 z_1018))) else none))) else some ((-1 : Int32), z_1008.2)))) else none)))))
set_option maxHeartbeats 4000000 in
set_option maxRecDepth 100000 in
theorem d_115_ok {X : aX} {g : Nat} {a0 : Nat} {x1 : Int32} {h0 : aH} {zz : Int32 × aH} {d : Nat} (hdp : 2 ≤ d) (hd : d_115 g a0 x1 h0 = some zz) : aWp X d 115 0 (aEntL [.ref a0, .int x1] 5) [] h0 (fun w h' => w = some (.int zz.1) ∧ h' = zz.2) := by
  unfold d_115 at hd
  refine wp_lv (l2 := [some (.ref a0), some (.int x1), none, none, none]) rfl ?_
  obtain ⟨e, rfl⟩ : ∃ e, d = e + 1 := ⟨d - 1, by omega⟩
  refine wp_s 1 [some (.ref a0), some (.int x1), none, none, none] [.ref a0] h0 i_115_0 rfl ?_
  obtain ⟨f_1001, q_1002, hd⟩ := dk_bind hd
  refine hp_gR 4 rfl i_115_1 q_1002 ?_
  obtain ⟨f_1003, q_1004, hd⟩ := dk_bind hd
  refine hp_gR 7 rfl i_115_4 q_1004 ?_
  refine wp_s 8 [some (.ref a0), some (.int x1), some (.ref f_1003), none, none] [] h0 i_115_7 rfl ?_
  refine wp_s 9 [some (.ref a0), some (.int x1), some (.ref f_1003), none, none] [.ref f_1003] h0 i_115_8 rfl ?_
  refine wp_s 10 [some (.ref a0), some (.int x1), some (.ref f_1003), none, none] [.int x1, .ref f_1003] h0 i_115_9 rfl ?_
  obtain ⟨k_1005, hd⟩ := dk_if hd
  obtain ⟨fs_1006, o_1007⟩ := isO_of k_1005
  obtain ⟨z_1008, q_1009, hd⟩ := dk_bind hd
  refine wp_callV 13 rfl i_115_10 (by decide) rfl (vs := [.int x1]) (rest := []) rfl rfl rfl o_1007 (y := m_76) rfl (Nat.le_of_ble_eq_true rfl) (d_76_ok (d := e) (by omega) q_1009) ?_
  rintro v_1010 h_1011 ⟨rfl, rfl⟩
  refine wp_s 14 [some (.ref a0), some (.int x1), some (.ref f_1003), some (.int z_1008.1), none] [] z_1008.2 i_115_13 rfl ?_
  refine wp_s 15 [some (.ref a0), some (.int x1), some (.ref f_1003), some (.int z_1008.1), none] [.int z_1008.1] z_1008.2 i_115_14 rfl ?_
  refine wp_if_ge 20 18 rfl rfl i_115_15 (fun c_1012 => ?_) (fun c_1012 => ?_)
  · rw [if_pos c_1012] at hd
    refine wp_s 21 [some (.ref a0), some (.int x1), some (.ref f_1003), some (.int z_1008.1), none] [.ref a0] z_1008.2 i_115_20 rfl ?_
    obtain ⟨f_1013, q_1014, hd⟩ := dk_bind hd
    refine hp_gR 24 rfl i_115_21 q_1014 ?_
    refine wp_s 25 [some (.ref a0), some (.int x1), some (.ref f_1003), some (.int z_1008.1), none] [.ref f_1003, .ref f_1013] z_1008.2 i_115_24 rfl ?_
    obtain ⟨k_1015, hd⟩ := dk_if hd
    obtain ⟨fs_1016, o_1017⟩ := isO_of k_1015
    obtain ⟨z_1018, q_1019, hd⟩ := dk_bind hd
    refine wp_callV 28 rfl i_115_25 (by decide) rfl (vs := [.ref f_1003]) (rest := []) rfl rfl rfl o_1017 (y := m_8) rfl (Nat.le_of_ble_eq_true rfl) (d_8_ok (d := e) (by omega) q_1019) ?_
    rintro v_1020 h_1021 ⟨rfl, hz⟩
    have hz := hz.symm
    subst hz
    refine wp_s 29 [some (.ref a0), some (.int x1), some (.ref f_1003), some (.int z_1008.1), none] [.int z_1008.1] z_1018 i_115_28 rfl ?_
    refine wp_s 31 [some (.ref a0), some (.int x1), some (.ref f_1003), some (.int z_1008.1), some (.int z_1008.1)] [] z_1018 i_115_29 rfl ?_
    exact aWp.forget ((l_115_ok hdp g) _ _ _ _ _ _ _ hd) (lvS (lvS (lvS (lvS (lvS lvE)))))
  · rw [if_neg c_1012] at hd
    refine wp_s 19 [some (.ref a0), some (.int x1), some (.ref f_1003), some (.int z_1008.1), none] [.int (-1 : Int32)] z_1008.2 i_115_18 rfl ?_
    obtain rfl := Option.some.inj hd
    exact wp_iret i_115_19 ⟨rfl, rfl⟩
def d_116 (g : Nat) (a0 : Nat) (x1 : Int32) (h0 : aH) : Option (Int32 × aH) := ((gR h0 a0 11 3).bind (fun f_1 => ((gR h0 f_1 10 0).bind (fun f_3 => (if isO h0 f_3 5 = true then ((d_55 g f_3 x1 h0).bind (fun z_8 => (if ¬ z_8.1 = 0 then ((gR z_8.2 a0 11 6).bind (fun f_13 => ((gR z_8.2 a0 11 3).bind (fun f_15 => ((gR z_8.2 f_15 10 1).bind (fun f_17 => (if isO z_8.2 f_13 1 = true then ((d_8 g f_13 f_17 z_8.2).bind (fun z_22 => ((gR z_22 a0 11 3).bind (fun f_26 => ((gR z_22 f_26 10 1).bind (fun f_28 => (if isO z_22 f_28 7 = true then ((d_75 g f_28 x1 z_22).bind (fun z_33 => ((gR z_33 a0 11 4).bind (fun f_37 => (if isO z_33 f_37 9 = true then ((d_91 g f_37 x1 z_33).bind (fun z_42 => some (z_42.1, z_42.2))) else none))))) else none))))))) else none))))))) else some ((-1 : Int32), z_8.2)))) else none)))))
set_option maxHeartbeats 4000000 in
set_option maxRecDepth 100000 in
theorem d_116_ok {X : aX} {g : Nat} {a0 : Nat} {x1 : Int32} {h0 : aH} {zz : Int32 × aH} {d : Nat} (hdp : 6 ≤ d) (hd : d_116 g a0 x1 h0 = some zz) : aWp X d 116 0 (aEntL [.ref a0, .int x1] 2) [] h0 (fun w h' => w = some (.int zz.1) ∧ h' = zz.2) := by
  unfold d_116 at hd
  refine wp_lv (l2 := [some (.ref a0), some (.int x1)]) rfl ?_
  obtain ⟨e, rfl⟩ : ∃ e, d = e + 1 := ⟨d - 1, by omega⟩
  refine wp_s 1 [some (.ref a0), some (.int x1)] [.ref a0] h0 i_116_0 rfl ?_
  obtain ⟨f_1, q_2, hd⟩ := dk_bind hd
  refine hp_gR 4 rfl i_116_1 q_2 ?_
  obtain ⟨f_3, q_4, hd⟩ := dk_bind hd
  refine hp_gR 7 rfl i_116_4 q_4 ?_
  refine wp_s 8 [some (.ref a0), some (.int x1)] [.int x1, .ref f_3] h0 i_116_7 rfl ?_
  obtain ⟨k_5, hd⟩ := dk_if hd
  obtain ⟨fs_6, o_7⟩ := isO_of k_5
  obtain ⟨z_8, q_9, hd⟩ := dk_bind hd
  refine wp_callV 11 rfl i_116_8 (by decide) rfl (vs := [.int x1]) (rest := []) rfl rfl rfl o_7 (y := m_55) rfl (Nat.le_of_ble_eq_true rfl) (d_55_ok (d := e) (by omega) q_9) ?_
  rintro v_10 h_11 ⟨rfl, rfl⟩
  refine wp_if_ne 16 14 rfl rfl i_116_11 (fun c_12 => ?_) (fun c_12 => ?_)
  · rw [if_pos c_12] at hd
    refine wp_s 17 [some (.ref a0), some (.int x1)] [.ref a0] z_8.2 i_116_16 rfl ?_
    obtain ⟨f_13, q_14, hd⟩ := dk_bind hd
    refine hp_gR 20 rfl i_116_17 q_14 ?_
    refine wp_s 21 [some (.ref a0), some (.int x1)] [.ref a0, .ref f_13] z_8.2 i_116_20 rfl ?_
    obtain ⟨f_15, q_16, hd⟩ := dk_bind hd
    refine hp_gR 24 rfl i_116_21 q_16 ?_
    obtain ⟨f_17, q_18, hd⟩ := dk_bind hd
    refine hp_gR 27 rfl i_116_24 q_18 ?_
    obtain ⟨k_19, hd⟩ := dk_if hd
    obtain ⟨fs_20, o_21⟩ := isO_of k_19
    obtain ⟨z_22, q_23, hd⟩ := dk_bind hd
    refine wp_callV 30 rfl i_116_27 (by decide) rfl (vs := [.ref f_17]) (rest := []) rfl rfl rfl o_21 (y := m_8) rfl (Nat.le_of_ble_eq_true rfl) (d_8_ok (d := e) (by omega) q_23) ?_
    rintro v_24 h_25 ⟨rfl, hz⟩
    have hz := hz.symm
    subst hz
    refine wp_s 31 [some (.ref a0), some (.int x1)] [.ref a0] z_22 i_116_30 rfl ?_
    obtain ⟨f_26, q_27, hd⟩ := dk_bind hd
    refine hp_gR 34 rfl i_116_31 q_27 ?_
    obtain ⟨f_28, q_29, hd⟩ := dk_bind hd
    refine hp_gR 37 rfl i_116_34 q_29 ?_
    refine wp_s 38 [some (.ref a0), some (.int x1)] [.int x1, .ref f_28] z_22 i_116_37 rfl ?_
    obtain ⟨k_30, hd⟩ := dk_if hd
    obtain ⟨fs_31, o_32⟩ := isO_of k_30
    obtain ⟨z_33, q_34, hd⟩ := dk_bind hd
    refine wp_callV 41 rfl i_116_38 (by decide) rfl (vs := [.int x1]) (rest := []) rfl rfl rfl o_32 (y := m_75) rfl (Nat.le_of_ble_eq_true rfl) (d_75_ok (d := e) (by omega) q_34) ?_
    rintro v_35 h_36 ⟨rfl, hz⟩
    have hz := hz.symm
    subst hz
    refine wp_s 42 [some (.ref a0), some (.int x1)] [.ref a0] z_33 i_116_41 rfl ?_
    obtain ⟨f_37, q_38, hd⟩ := dk_bind hd
    refine hp_gR 45 rfl i_116_42 q_38 ?_
    refine wp_s 46 [some (.ref a0), some (.int x1)] [.int x1, .ref f_37] z_33 i_116_45 rfl ?_
    obtain ⟨k_39, hd⟩ := dk_if hd
    obtain ⟨fs_40, o_41⟩ := isO_of k_39
    obtain ⟨z_42, q_43, hd⟩ := dk_bind hd
    refine wp_callV 49 rfl i_116_46 (by decide) rfl (vs := [.int x1]) (rest := []) rfl rfl rfl o_41 (y := m_91) rfl (Nat.le_of_ble_eq_true rfl) (d_91_ok (d := e) (by omega) q_43) ?_
    rintro v_44 h_45 ⟨rfl, rfl⟩
    obtain rfl := Option.some.inj hd
    exact wp_iret i_116_49 ⟨rfl, rfl⟩
  · rw [if_neg c_12] at hd
    refine wp_s 15 [some (.ref a0), some (.int x1)] [.int (-1 : Int32)] z_8.2 i_116_14 rfl ?_
    obtain rfl := Option.some.inj hd
    exact wp_iret i_116_15 ⟨rfl, rfl⟩
def l_117 (g n tag : Nat) (a0 : Nat) (a1 : Nat) (x2 : Int32) (x3 : Int32) (h0 : aH) : Option (Int32 × aH) := match n with
  | 0 => none
  | n + 1 => if tag = 0 then ((gR h0 a0 11 3).bind (fun f_1 => ((gR h0 f_1 10 0).bind (fun f_3 => ((gI h0 f_3 5 4).bind (fun f_5 => (if f_5 ≤ x3 then (if isO h0 a1 7 = true then ((d_78 g a1 x2 h0).bind (fun z_11 => (if isO z_11 a1 7 = true then ((d_79 g a1 z_11).bind (fun z_18 => some (x2, z_18))) else none))) else none) else ((gR h0 a1 7 5).bind (fun f_22 => ((gR h0 a0 11 4).bind (fun f_24 => (if isO h0 f_24 9 = true then ((d_91 g f_24 x3 h0).bind (fun z_29 => ((sA z_29.2 f_22 x3 z_29.1).bind (fun h_33 => (l_117 g n 0 a0 a1 x2 (x3 + (1 : Int32)) h_33))))) else none)))))))))))) else none
set_option maxHeartbeats 4000000 in
set_option maxRecDepth 100000 in
theorem l_117_ok {X : aX} {g : Nat} {d : Nat} (hdp : 7 ≤ d) : ∀ n, (∀ (a0 : Nat) (a1 : Nat) (x2 : Int32) (x3 : Int32) (h0 : aH) (zz : Int32 × aH), l_117 g n 0 a0 a1 x2 x3 h0 = some zz → aWp X d 117 36 [some (.ref a0), some (.ref a1), some (.int x2), some (.int x3)] [] h0 (fun w h' => w = some (.int zz.1) ∧ h' = zz.2)) := by
  intro n
  induction n with
  | zero => exact fun _ _ _ _ _ _ hd => by simp [l_117] at hd
  | succ n ih =>
    intro a0 a1 x2 x3 h0 zz hd
    unfold l_117 at hd
    rw [if_pos rfl] at hd
    obtain ⟨e, rfl⟩ : ∃ e, d = e + 1 := ⟨d - 1, by omega⟩
    refine wp_s 37 [some (.ref a0), some (.ref a1), some (.int x2), some (.int x3)] [.int x3] h0 i_117_36 rfl ?_
    refine wp_s 38 [some (.ref a0), some (.ref a1), some (.int x2), some (.int x3)] [.ref a0, .int x3] h0 i_117_37 rfl ?_
    obtain ⟨f_1, q_2, hd⟩ := dk_bind hd
    refine hp_gR 41 rfl i_117_38 q_2 ?_
    obtain ⟨f_3, q_4, hd⟩ := dk_bind hd
    refine hp_gR 44 rfl i_117_41 q_4 ?_
    obtain ⟨f_5, q_6, hd⟩ := dk_bind hd
    refine hp_gI 47 rfl i_117_44 q_6 ?_
    refine wp_cmp_ge 70 50 rfl rfl i_117_47 (fun c_7 => ?_) (fun c_7 => ?_)
    · rw [if_pos c_7] at hd
      refine wp_s 71 [some (.ref a0), some (.ref a1), some (.int x2), some (.int x3)] [.ref a1] h0 i_117_70 rfl ?_
      refine wp_s 72 [some (.ref a0), some (.ref a1), some (.int x2), some (.int x3)] [.int x2, .ref a1] h0 i_117_71 rfl ?_
      obtain ⟨k_8, hd⟩ := dk_if hd
      obtain ⟨fs_9, o_10⟩ := isO_of k_8
      obtain ⟨z_11, q_12, hd⟩ := dk_bind hd
      refine wp_callV 75 rfl i_117_72 (by decide) rfl (vs := [.int x2]) (rest := []) rfl rfl rfl o_10 (y := m_78) rfl (Nat.le_of_ble_eq_true rfl) (d_78_ok (d := e) (by omega) q_12) ?_
      rintro v_13 h_14 ⟨rfl, hz⟩
      have hz := hz.symm
      subst hz
      refine wp_s 76 [some (.ref a0), some (.ref a1), some (.int x2), some (.int x3)] [.ref a1] z_11 i_117_75 rfl ?_
      obtain ⟨k_15, hd⟩ := dk_if hd
      obtain ⟨fs_16, o_17⟩ := isO_of k_15
      obtain ⟨z_18, q_19, hd⟩ := dk_bind hd
      refine wp_callV 79 rfl i_117_76 (by decide) rfl (vs := []) (rest := []) rfl rfl rfl o_17 (y := m_79) rfl (Nat.le_of_ble_eq_true rfl) (d_79_ok (d := e) (by omega) q_19) ?_
      rintro v_20 h_21 ⟨rfl, hz⟩
      have hz := hz.symm
      subst hz
      refine wp_s 80 [some (.ref a0), some (.ref a1), some (.int x2), some (.int x3)] [.int x2] z_18 i_117_79 rfl ?_
      obtain rfl := Option.some.inj hd
      exact wp_iret i_117_80 ⟨rfl, rfl⟩
    · rw [if_neg c_7] at hd
      refine wp_s 51 [some (.ref a0), some (.ref a1), some (.int x2), some (.int x3)] [.ref a1] h0 i_117_50 rfl ?_
      obtain ⟨f_22, q_23, hd⟩ := dk_bind hd
      refine hp_gR 54 rfl i_117_51 q_23 ?_
      refine wp_s 55 [some (.ref a0), some (.ref a1), some (.int x2), some (.int x3)] [.int x3, .ref f_22] h0 i_117_54 rfl ?_
      refine wp_s 56 [some (.ref a0), some (.ref a1), some (.int x2), some (.int x3)] [.ref a0, .int x3, .ref f_22] h0 i_117_55 rfl ?_
      obtain ⟨f_24, q_25, hd⟩ := dk_bind hd
      refine hp_gR 59 rfl i_117_56 q_25 ?_
      refine wp_s 60 [some (.ref a0), some (.ref a1), some (.int x2), some (.int x3)] [.int x3, .ref f_24, .int x3, .ref f_22] h0 i_117_59 rfl ?_
      obtain ⟨k_26, hd⟩ := dk_if hd
      obtain ⟨fs_27, o_28⟩ := isO_of k_26
      obtain ⟨z_29, q_30, hd⟩ := dk_bind hd
      refine wp_callV 63 rfl i_117_60 (by decide) rfl (vs := [.int x3]) (rest := [.int x3, .ref f_22]) rfl rfl rfl o_28 (y := m_91) rfl (Nat.le_of_ble_eq_true rfl) (d_91_ok (d := e) (by omega) q_30) ?_
      rintro v_31 h_32 ⟨rfl, rfl⟩
      obtain ⟨h_33, q_34, hd⟩ := dk_bind hd
      refine hp_sA 64 rfl i_117_63 q_34 ?_
      refine wp_s 67 [some (.ref a0), some (.ref a1), some (.int x2), some (.int (x3 + (1 : Int32)))] [] h_33 i_117_64 rfl ?_
      refine wp_s 36 [some (.ref a0), some (.ref a1), some (.int x2), some (.int (x3 + (1 : Int32)))] [] h_33 i_117_67 rfl ?_
      exact aWp.forget (ih _ _ _ _ _ _ hd) (lvS (lvS (lvS (lvS lvE))))
def d_117 (g : Nat) (a0 : Nat) (h0 : aH) : Option (Int32 × aH) := ((gR h0 a0 11 3).bind (fun f_1001 => ((gR h0 f_1001 10 1).bind (fun f_1003 => (if isO h0 f_1003 7 = true then ((d_73 g f_1003 h0).bind (fun z_1008 => (if (1 : Int32) ≤ z_1008.1 then ((gR z_1008.2 a0 11 6).bind (fun f_1013 => (if isO z_1008.2 f_1013 1 = true then ((d_8 g f_1013 f_1003 z_1008.2).bind (fun z_1018 => ((gR z_1018 a0 11 4).bind (fun f_1022 => (if isO z_1018 f_1022 9 = true then ((d_93 g f_1022 z_1018).bind (fun z_1027 => (l_117 g g 0 a0 f_1003 z_1027.1 (0 : Int32) z_1027.2))) else none))))) else none))) else some ((-1 : Int32), z_1008.2)))) else none)))))
set_option maxHeartbeats 4000000 in
set_option maxRecDepth 100000 in
theorem d_117_ok {X : aX} {g : Nat} {a0 : Nat} {h0 : aH} {zz : Int32 × aH} {d : Nat} (hdp : 7 ≤ d) (hd : d_117 g a0 h0 = some zz) : aWp X d 117 0 (aEntL [.ref a0] 4) [] h0 (fun w h' => w = some (.int zz.1) ∧ h' = zz.2) := by
  unfold d_117 at hd
  refine wp_lv (l2 := [some (.ref a0), none, none, none]) rfl ?_
  obtain ⟨e, rfl⟩ : ∃ e, d = e + 1 := ⟨d - 1, by omega⟩
  refine wp_s 1 [some (.ref a0), none, none, none] [.ref a0] h0 i_117_0 rfl ?_
  obtain ⟨f_1001, q_1002, hd⟩ := dk_bind hd
  refine hp_gR 4 rfl i_117_1 q_1002 ?_
  obtain ⟨f_1003, q_1004, hd⟩ := dk_bind hd
  refine hp_gR 7 rfl i_117_4 q_1004 ?_
  refine wp_s 8 [some (.ref a0), some (.ref f_1003), none, none] [] h0 i_117_7 rfl ?_
  refine wp_s 9 [some (.ref a0), some (.ref f_1003), none, none] [.ref f_1003] h0 i_117_8 rfl ?_
  obtain ⟨k_1005, hd⟩ := dk_if hd
  obtain ⟨fs_1006, o_1007⟩ := isO_of k_1005
  obtain ⟨z_1008, q_1009, hd⟩ := dk_bind hd
  refine wp_callV 12 rfl i_117_9 (by decide) rfl (vs := []) (rest := []) rfl rfl rfl o_1007 (y := m_73) rfl (Nat.le_of_ble_eq_true rfl) (d_73_ok (d := e) (by omega) q_1009) ?_
  rintro v_1010 h_1011 ⟨rfl, rfl⟩
  refine wp_s 13 [some (.ref a0), some (.ref f_1003), none, none] [.int (1 : Int32), .int z_1008.1] z_1008.2 i_117_12 rfl ?_
  refine wp_cmp_ge 18 16 rfl rfl i_117_13 (fun c_1012 => ?_) (fun c_1012 => ?_)
  · rw [if_pos c_1012] at hd
    refine wp_s 19 [some (.ref a0), some (.ref f_1003), none, none] [.ref a0] z_1008.2 i_117_18 rfl ?_
    obtain ⟨f_1013, q_1014, hd⟩ := dk_bind hd
    refine hp_gR 22 rfl i_117_19 q_1014 ?_
    refine wp_s 23 [some (.ref a0), some (.ref f_1003), none, none] [.ref f_1003, .ref f_1013] z_1008.2 i_117_22 rfl ?_
    obtain ⟨k_1015, hd⟩ := dk_if hd
    obtain ⟨fs_1016, o_1017⟩ := isO_of k_1015
    obtain ⟨z_1018, q_1019, hd⟩ := dk_bind hd
    refine wp_callV 26 rfl i_117_23 (by decide) rfl (vs := [.ref f_1003]) (rest := []) rfl rfl rfl o_1017 (y := m_8) rfl (Nat.le_of_ble_eq_true rfl) (d_8_ok (d := e) (by omega) q_1019) ?_
    rintro v_1020 h_1021 ⟨rfl, hz⟩
    have hz := hz.symm
    subst hz
    refine wp_s 27 [some (.ref a0), some (.ref f_1003), none, none] [.ref a0] z_1018 i_117_26 rfl ?_
    obtain ⟨f_1022, q_1023, hd⟩ := dk_bind hd
    refine hp_gR 30 rfl i_117_27 q_1023 ?_
    obtain ⟨k_1024, hd⟩ := dk_if hd
    obtain ⟨fs_1025, o_1026⟩ := isO_of k_1024
    obtain ⟨z_1027, q_1028, hd⟩ := dk_bind hd
    refine wp_callV 33 rfl i_117_30 (by decide) rfl (vs := []) (rest := []) rfl rfl rfl o_1026 (y := m_93) rfl (Nat.le_of_ble_eq_true rfl) (d_93_ok (d := e) (by omega) q_1028) ?_
    rintro v_1029 h_1030 ⟨rfl, rfl⟩
    refine wp_s 34 [some (.ref a0), some (.ref f_1003), some (.int z_1027.1), none] [] z_1027.2 i_117_33 rfl ?_
    refine wp_s 35 [some (.ref a0), some (.ref f_1003), some (.int z_1027.1), none] [.int (0 : Int32)] z_1027.2 i_117_34 rfl ?_
    refine wp_s 36 [some (.ref a0), some (.ref f_1003), some (.int z_1027.1), some (.int (0 : Int32))] [] z_1027.2 i_117_35 rfl ?_
    exact aWp.forget ((l_117_ok hdp g) _ _ _ _ _ _ hd) (lvS (lvS (lvS (lvS lvE))))
  · rw [if_neg c_1012] at hd
    refine wp_s 17 [some (.ref a0), some (.ref f_1003), none, none] [.int (-1 : Int32)] z_1008.2 i_117_16 rfl ?_
    obtain rfl := Option.some.inj hd
    exact wp_iret i_117_17 ⟨rfl, rfl⟩
def d_118 (g : Nat) (a0 : Nat) (x1 : Int32) (h0 : aH) : Option (Int32 × aH) := ((gR h0 a0 11 3).bind (fun f_1 => ((gR h0 f_1 10 1).bind (fun f_3 => ((gR h0 a0 11 3).bind (fun f_5 => ((gR h0 f_5 10 0).bind (fun f_7 => (if isO h0 f_7 5 = true then ((d_55 g f_7 x1 h0).bind (fun z_12 => (if z_12.1 = 0 then some ((-1 : Int32), z_12.2) else ((gR z_12.2 f_3 7 4).bind (fun f_17 => ((gA z_12.2 f_17 x1).bind (fun f_19 => (if (1 : Int32) ≤ f_19 then ((gR z_12.2 a0 11 6).bind (fun f_22 => (if isO z_12.2 f_22 1 = true then ((d_8 g f_22 f_3 z_12.2).bind (fun z_27 => ((gR z_27 f_3 7 4).bind (fun f_31 => ((gA z_27 f_31 x1).bind (fun f_33 => ((sA z_27 f_31 x1 (f_33 - (1 : Int32))).bind (fun h_35 => ((gR h_35 f_3 7 2).bind (fun f_37 => ((gA h_35 f_37 x1).bind (fun f_39 => ((sA h_35 f_37 x1 (f_39 - (1 : Int32))).bind (fun h_41 => ((gR h_41 f_3 7 1).bind (fun f_43 => ((gR h_41 f_3 7 1).bind (fun f_45 => ((gA h_41 f_45 x1).bind (fun f_47 => ((sA h_41 f_43 x1 (if (f_47 + (1 : Int32)) < (9 : Int32) then (f_47 + (1 : Int32)) else (9 : Int32))).bind (fun h_49 => ((gR h_49 a0 11 4).bind (fun f_51 => ((gR h_49 f_3 7 4).bind (fun f_53 => ((gI h_49 f_3 7 12).bind (fun f_55 => (if isO h_49 f_51 9 = true then ((d_96 g f_51 x1 f_53 f_55 h_49).bind (fun z_60 => ((gI z_60.2 f_3 7 12).bind (fun f_64 => ((sF z_60.2 f_3 7 12 (.int (f_64 - z_60.1))).bind (fun h_66 => ((gI h_66 f_3 7 11).bind (fun f_68 => ((sF h_66 f_3 7 11 (.int (f_68 - z_60.1))).bind (fun h_70 => some (z_60.1, h_70))))))))))) else none))))))))))))))))))))))))))))) else none))) else some ((-1 : Int32), z_12.2))))))))) else none)))))))))
set_option maxHeartbeats 4000000 in
set_option maxRecDepth 100000 in
theorem d_118_ok {X : aX} {g : Nat} {a0 : Nat} {x1 : Int32} {h0 : aH} {zz : Int32 × aH} {d : Nat} (hdp : 2 ≤ d) (hd : d_118 g a0 x1 h0 = some zz) : aWp X d 118 0 (aEntL [.ref a0, .int x1] 4) [] h0 (fun w h' => w = some (.int zz.1) ∧ h' = zz.2) := by
  unfold d_118 at hd
  refine wp_lv (l2 := [some (.ref a0), some (.int x1), none, none]) rfl ?_
  obtain ⟨e, rfl⟩ : ∃ e, d = e + 1 := ⟨d - 1, by omega⟩
  refine wp_s 1 [some (.ref a0), some (.int x1), none, none] [.ref a0] h0 i_118_0 rfl ?_
  obtain ⟨f_1, q_2, hd⟩ := dk_bind hd
  refine hp_gR 4 rfl i_118_1 q_2 ?_
  obtain ⟨f_3, q_4, hd⟩ := dk_bind hd
  refine hp_gR 7 rfl i_118_4 q_4 ?_
  refine wp_s 8 [some (.ref a0), some (.int x1), some (.ref f_3), none] [] h0 i_118_7 rfl ?_
  refine wp_s 9 [some (.ref a0), some (.int x1), some (.ref f_3), none] [.ref a0] h0 i_118_8 rfl ?_
  obtain ⟨f_5, q_6, hd⟩ := dk_bind hd
  refine hp_gR 12 rfl i_118_9 q_6 ?_
  obtain ⟨f_7, q_8, hd⟩ := dk_bind hd
  refine hp_gR 15 rfl i_118_12 q_8 ?_
  refine wp_s 16 [some (.ref a0), some (.int x1), some (.ref f_3), none] [.int x1, .ref f_7] h0 i_118_15 rfl ?_
  obtain ⟨k_9, hd⟩ := dk_if hd
  obtain ⟨fs_10, o_11⟩ := isO_of k_9
  obtain ⟨z_12, q_13, hd⟩ := dk_bind hd
  refine wp_callV 19 rfl i_118_16 (by decide) rfl (vs := [.int x1]) (rest := []) rfl rfl rfl o_11 (y := m_55) rfl (Nat.le_of_ble_eq_true rfl) (d_55_ok (d := e) (by omega) q_13) ?_
  rintro v_14 h_15 ⟨rfl, rfl⟩
  refine wp_if_eq 32 22 rfl rfl i_118_19 (fun c_16 => ?_) (fun c_16 => ?_)
  · rw [if_pos c_16] at hd
    refine wp_s 33 [some (.ref a0), some (.int x1), some (.ref f_3), none] [.int (-1 : Int32)] z_12.2 i_118_32 rfl ?_
    obtain rfl := Option.some.inj hd
    exact wp_iret i_118_33 ⟨rfl, rfl⟩
  · rw [if_neg c_16] at hd
    refine wp_s 23 [some (.ref a0), some (.int x1), some (.ref f_3), none] [.ref f_3] z_12.2 i_118_22 rfl ?_
    obtain ⟨f_17, q_18, hd⟩ := dk_bind hd
    refine hp_gR 26 rfl i_118_23 q_18 ?_
    refine wp_s 27 [some (.ref a0), some (.int x1), some (.ref f_3), none] [.int x1, .ref f_17] z_12.2 i_118_26 rfl ?_
    obtain ⟨f_19, q_20, hd⟩ := dk_bind hd
    refine hp_gA 28 rfl i_118_27 q_20 ?_
    refine wp_s 29 [some (.ref a0), some (.int x1), some (.ref f_3), none] [.int (1 : Int32), .int f_19] z_12.2 i_118_28 rfl ?_
    refine wp_cmp_ge 34 32 rfl rfl i_118_29 (fun c_21 => ?_) (fun c_21 => ?_)
    · rw [if_pos c_21] at hd
      refine wp_s 35 [some (.ref a0), some (.int x1), some (.ref f_3), none] [.ref a0] z_12.2 i_118_34 rfl ?_
      obtain ⟨f_22, q_23, hd⟩ := dk_bind hd
      refine hp_gR 38 rfl i_118_35 q_23 ?_
      refine wp_s 39 [some (.ref a0), some (.int x1), some (.ref f_3), none] [.ref f_3, .ref f_22] z_12.2 i_118_38 rfl ?_
      obtain ⟨k_24, hd⟩ := dk_if hd
      obtain ⟨fs_25, o_26⟩ := isO_of k_24
      obtain ⟨z_27, q_28, hd⟩ := dk_bind hd
      refine wp_callV 42 rfl i_118_39 (by decide) rfl (vs := [.ref f_3]) (rest := []) rfl rfl rfl o_26 (y := m_8) rfl (Nat.le_of_ble_eq_true rfl) (d_8_ok (d := e) (by omega) q_28) ?_
      rintro v_29 h_30 ⟨rfl, hz⟩
      have hz := hz.symm
      subst hz
      refine wp_s 43 [some (.ref a0), some (.int x1), some (.ref f_3), none] [.ref f_3] z_27 i_118_42 rfl ?_
      obtain ⟨f_31, q_32, hd⟩ := dk_bind hd
      refine hp_gR 46 rfl i_118_43 q_32 ?_
      refine wp_s 47 [some (.ref a0), some (.int x1), some (.ref f_3), none] [.int x1, .ref f_31] z_27 i_118_46 rfl ?_
      refine wp_s 48 [some (.ref a0), some (.int x1), some (.ref f_3), none] [.int x1, .ref f_31, .int x1, .ref f_31] z_27 i_118_47 rfl ?_
      obtain ⟨f_33, q_34, hd⟩ := dk_bind hd
      refine hp_gA 49 rfl i_118_48 q_34 ?_
      refine wp_s 50 [some (.ref a0), some (.int x1), some (.ref f_3), none] [.int (1 : Int32), .int f_33, .int x1, .ref f_31] z_27 i_118_49 rfl ?_
      refine wp_s 51 [some (.ref a0), some (.int x1), some (.ref f_3), none] [.int (f_33 - (1 : Int32)), .int x1, .ref f_31] z_27 i_118_50 rfl ?_
      obtain ⟨h_35, q_36, hd⟩ := dk_bind hd
      refine hp_sA 52 rfl i_118_51 q_36 ?_
      refine wp_s 53 [some (.ref a0), some (.int x1), some (.ref f_3), none] [.ref f_3] h_35 i_118_52 rfl ?_
      obtain ⟨f_37, q_38, hd⟩ := dk_bind hd
      refine hp_gR 56 rfl i_118_53 q_38 ?_
      refine wp_s 57 [some (.ref a0), some (.int x1), some (.ref f_3), none] [.int x1, .ref f_37] h_35 i_118_56 rfl ?_
      refine wp_s 58 [some (.ref a0), some (.int x1), some (.ref f_3), none] [.int x1, .ref f_37, .int x1, .ref f_37] h_35 i_118_57 rfl ?_
      obtain ⟨f_39, q_40, hd⟩ := dk_bind hd
      refine hp_gA 59 rfl i_118_58 q_40 ?_
      refine wp_s 60 [some (.ref a0), some (.int x1), some (.ref f_3), none] [.int (1 : Int32), .int f_39, .int x1, .ref f_37] h_35 i_118_59 rfl ?_
      refine wp_s 61 [some (.ref a0), some (.int x1), some (.ref f_3), none] [.int (f_39 - (1 : Int32)), .int x1, .ref f_37] h_35 i_118_60 rfl ?_
      obtain ⟨h_41, q_42, hd⟩ := dk_bind hd
      refine hp_sA 62 rfl i_118_61 q_42 ?_
      refine wp_s 63 [some (.ref a0), some (.int x1), some (.ref f_3), none] [.ref f_3] h_41 i_118_62 rfl ?_
      obtain ⟨f_43, q_44, hd⟩ := dk_bind hd
      refine hp_gR 66 rfl i_118_63 q_44 ?_
      refine wp_s 67 [some (.ref a0), some (.int x1), some (.ref f_3), none] [.int x1, .ref f_43] h_41 i_118_66 rfl ?_
      refine wp_s 69 [some (.ref a0), some (.int x1), some (.ref f_3), none] [.int (9 : Int32), .int x1, .ref f_43] h_41 i_118_67 rfl ?_
      refine wp_s 70 [some (.ref a0), some (.int x1), some (.ref f_3), none] [.ref f_3, .int (9 : Int32), .int x1, .ref f_43] h_41 i_118_69 rfl ?_
      obtain ⟨f_45, q_46, hd⟩ := dk_bind hd
      refine hp_gR 73 rfl i_118_70 q_46 ?_
      refine wp_s 74 [some (.ref a0), some (.int x1), some (.ref f_3), none] [.int x1, .ref f_45, .int (9 : Int32), .int x1, .ref f_43] h_41 i_118_73 rfl ?_
      obtain ⟨f_47, q_48, hd⟩ := dk_bind hd
      refine hp_gA 75 rfl i_118_74 q_48 ?_
      refine wp_s 76 [some (.ref a0), some (.int x1), some (.ref f_3), none] [.int (1 : Int32), .int f_47, .int (9 : Int32), .int x1, .ref f_43] h_41 i_118_75 rfl ?_
      refine wp_s 77 [some (.ref a0), some (.int x1), some (.ref f_3), none] [.int (f_47 + (1 : Int32)), .int (9 : Int32), .int x1, .ref f_43] h_41 i_118_76 rfl ?_
      refine hp_min 80 rfl i_118_77 rfl ?_
      obtain ⟨h_49, q_50, hd⟩ := dk_bind hd
      refine hp_sA 81 rfl i_118_80 q_50 ?_
      refine wp_s 82 [some (.ref a0), some (.int x1), some (.ref f_3), none] [.ref a0] h_49 i_118_81 rfl ?_
      obtain ⟨f_51, q_52, hd⟩ := dk_bind hd
      refine hp_gR 85 rfl i_118_82 q_52 ?_
      refine wp_s 86 [some (.ref a0), some (.int x1), some (.ref f_3), none] [.int x1, .ref f_51] h_49 i_118_85 rfl ?_
      refine wp_s 87 [some (.ref a0), some (.int x1), some (.ref f_3), none] [.ref f_3, .int x1, .ref f_51] h_49 i_118_86 rfl ?_
      obtain ⟨f_53, q_54, hd⟩ := dk_bind hd
      refine hp_gR 90 rfl i_118_87 q_54 ?_
      refine wp_s 91 [some (.ref a0), some (.int x1), some (.ref f_3), none] [.ref f_3, .ref f_53, .int x1, .ref f_51] h_49 i_118_90 rfl ?_
      obtain ⟨f_55, q_56, hd⟩ := dk_bind hd
      refine hp_gI 94 rfl i_118_91 q_56 ?_
      obtain ⟨k_57, hd⟩ := dk_if hd
      obtain ⟨fs_58, o_59⟩ := isO_of k_57
      obtain ⟨z_60, q_61, hd⟩ := dk_bind hd
      refine wp_callV 97 rfl i_118_94 (by decide) rfl (vs := [.int x1, .ref f_53, .int f_55]) (rest := []) rfl rfl rfl o_59 (y := m_96) rfl (Nat.le_of_ble_eq_true rfl) (d_96_ok (d := e) (by omega) q_61) ?_
      rintro v_62 h_63 ⟨rfl, rfl⟩
      refine wp_s 98 [some (.ref a0), some (.int x1), some (.ref f_3), some (.int z_60.1)] [] z_60.2 i_118_97 rfl ?_
      refine wp_s 99 [some (.ref a0), some (.int x1), some (.ref f_3), some (.int z_60.1)] [.ref f_3] z_60.2 i_118_98 rfl ?_
      refine wp_s 100 [some (.ref a0), some (.int x1), some (.ref f_3), some (.int z_60.1)] [.ref f_3, .ref f_3] z_60.2 i_118_99 rfl ?_
      obtain ⟨f_64, q_65, hd⟩ := dk_bind hd
      refine hp_gI 103 rfl i_118_100 q_65 ?_
      refine wp_s 104 [some (.ref a0), some (.int x1), some (.ref f_3), some (.int z_60.1)] [.int z_60.1, .int f_64, .ref f_3] z_60.2 i_118_103 rfl ?_
      refine wp_s 105 [some (.ref a0), some (.int x1), some (.ref f_3), some (.int z_60.1)] [.int (f_64 - z_60.1), .ref f_3] z_60.2 i_118_104 rfl ?_
      obtain ⟨h_66, q_67, hd⟩ := dk_bind hd
      refine hp_sF 108 rfl i_118_105 q_67 ?_
      refine wp_s 109 [some (.ref a0), some (.int x1), some (.ref f_3), some (.int z_60.1)] [.ref f_3] h_66 i_118_108 rfl ?_
      refine wp_s 110 [some (.ref a0), some (.int x1), some (.ref f_3), some (.int z_60.1)] [.ref f_3, .ref f_3] h_66 i_118_109 rfl ?_
      obtain ⟨f_68, q_69, hd⟩ := dk_bind hd
      refine hp_gI 113 rfl i_118_110 q_69 ?_
      refine wp_s 114 [some (.ref a0), some (.int x1), some (.ref f_3), some (.int z_60.1)] [.int z_60.1, .int f_68, .ref f_3] h_66 i_118_113 rfl ?_
      refine wp_s 115 [some (.ref a0), some (.int x1), some (.ref f_3), some (.int z_60.1)] [.int (f_68 - z_60.1), .ref f_3] h_66 i_118_114 rfl ?_
      obtain ⟨h_70, q_71, hd⟩ := dk_bind hd
      refine hp_sF 118 rfl i_118_115 q_71 ?_
      refine wp_s 119 [some (.ref a0), some (.int x1), some (.ref f_3), some (.int z_60.1)] [.int z_60.1] h_70 i_118_118 rfl ?_
      obtain rfl := Option.some.inj hd
      exact wp_iret i_118_119 ⟨rfl, rfl⟩
    · rw [if_neg c_21] at hd
      refine wp_s 33 [some (.ref a0), some (.int x1), some (.ref f_3), none] [.int (-1 : Int32)] z_12.2 i_118_32 rfl ?_
      obtain rfl := Option.some.inj hd
      exact wp_iret i_118_33 ⟨rfl, rfl⟩
def d_119 (g : Nat) (a0 : Nat) (h0 : aH) : Option (Int32 × aH) := ((gR h0 a0 11 3).bind (fun f_1 => ((gR h0 f_1 10 0).bind (fun f_3 => ((gI h0 f_3 5 0).bind (fun f_5 => (if f_5 = 0 then some ((-1 : Int32), h0) else ((gR h0 a0 11 3).bind (fun f_8 => ((gR h0 f_8 10 1).bind (fun f_10 => ((gI h0 f_10 7 13).bind (fun f_12 => (if f_12 < (999 : Int32) then ((gR h0 a0 11 6).bind (fun f_15 => ((gR h0 a0 11 3).bind (fun f_17 => ((gR h0 f_17 10 1).bind (fun f_19 => (if isO h0 f_15 1 = true then ((d_8 g f_15 f_19 h0).bind (fun z_24 => ((gR z_24 a0 11 3).bind (fun f_28 => ((gR z_24 f_28 10 1).bind (fun f_30 => ((gI z_24 f_30 7 13).bind (fun f_32 => ((sF z_24 f_30 7 13 (.int (f_32 + (1 : Int32)))).bind (fun h_34 => ((gR h_34 a0 11 3).bind (fun f_36 => ((gR h_34 f_36 10 0).bind (fun f_38 => ((gR h_34 a0 11 3).bind (fun f_40 => ((gR h_34 f_40 10 1).bind (fun f_42 => ((gI h_34 f_42 7 13).bind (fun f_44 => (if isO h_34 f_38 5 = true then ((d_57 g f_38 f_44 h_34).bind (fun z_49 => some (z_49.1, z_49.2))) else none))))))))))))))))))))) else none))))))) else some ((-1 : Int32), h0)))))))))))))))
set_option maxHeartbeats 4000000 in
set_option maxRecDepth 100000 in
theorem d_119_ok {X : aX} {g : Nat} {a0 : Nat} {h0 : aH} {zz : Int32 × aH} {d : Nat} (hdp : 2 ≤ d) (hd : d_119 g a0 h0 = some zz) : aWp X d 119 0 (aEntL [.ref a0] 1) [] h0 (fun w h' => w = some (.int zz.1) ∧ h' = zz.2) := by
  unfold d_119 at hd
  refine wp_lv (l2 := [some (.ref a0)]) rfl ?_
  obtain ⟨e, rfl⟩ : ∃ e, d = e + 1 := ⟨d - 1, by omega⟩
  refine wp_s 1 [some (.ref a0)] [.ref a0] h0 i_119_0 rfl ?_
  obtain ⟨f_1, q_2, hd⟩ := dk_bind hd
  refine hp_gR 4 rfl i_119_1 q_2 ?_
  obtain ⟨f_3, q_4, hd⟩ := dk_bind hd
  refine hp_gR 7 rfl i_119_4 q_4 ?_
  obtain ⟨f_5, q_6, hd⟩ := dk_bind hd
  refine hp_gI 10 rfl i_119_7 q_6 ?_
  refine wp_if_eq 29 13 rfl rfl i_119_10 (fun c_7 => ?_) (fun c_7 => ?_)
  · rw [if_pos c_7] at hd
    refine wp_s 30 [some (.ref a0)] [.int (-1 : Int32)] h0 i_119_29 rfl ?_
    obtain rfl := Option.some.inj hd
    exact wp_iret i_119_30 ⟨rfl, rfl⟩
  · rw [if_neg c_7] at hd
    refine wp_s 14 [some (.ref a0)] [.ref a0] h0 i_119_13 rfl ?_
    obtain ⟨f_8, q_9, hd⟩ := dk_bind hd
    refine hp_gR 17 rfl i_119_14 q_9 ?_
    obtain ⟨f_10, q_11, hd⟩ := dk_bind hd
    refine hp_gR 20 rfl i_119_17 q_11 ?_
    obtain ⟨f_12, q_13, hd⟩ := dk_bind hd
    refine hp_gI 23 rfl i_119_20 q_13 ?_
    refine wp_s 26 [some (.ref a0)] [.int (999 : Int32), .int f_12] h0 i_119_23 rfl ?_
    refine wp_cmp_lt 31 29 rfl rfl i_119_26 (fun c_14 => ?_) (fun c_14 => ?_)
    · rw [if_pos c_14] at hd
      refine wp_s 32 [some (.ref a0)] [.ref a0] h0 i_119_31 rfl ?_
      obtain ⟨f_15, q_16, hd⟩ := dk_bind hd
      refine hp_gR 35 rfl i_119_32 q_16 ?_
      refine wp_s 36 [some (.ref a0)] [.ref a0, .ref f_15] h0 i_119_35 rfl ?_
      obtain ⟨f_17, q_18, hd⟩ := dk_bind hd
      refine hp_gR 39 rfl i_119_36 q_18 ?_
      obtain ⟨f_19, q_20, hd⟩ := dk_bind hd
      refine hp_gR 42 rfl i_119_39 q_20 ?_
      obtain ⟨k_21, hd⟩ := dk_if hd
      obtain ⟨fs_22, o_23⟩ := isO_of k_21
      obtain ⟨z_24, q_25, hd⟩ := dk_bind hd
      refine wp_callV 45 rfl i_119_42 (by decide) rfl (vs := [.ref f_19]) (rest := []) rfl rfl rfl o_23 (y := m_8) rfl (Nat.le_of_ble_eq_true rfl) (d_8_ok (d := e) (by omega) q_25) ?_
      rintro v_26 h_27 ⟨rfl, hz⟩
      have hz := hz.symm
      subst hz
      refine wp_s 46 [some (.ref a0)] [.ref a0] z_24 i_119_45 rfl ?_
      obtain ⟨f_28, q_29, hd⟩ := dk_bind hd
      refine hp_gR 49 rfl i_119_46 q_29 ?_
      obtain ⟨f_30, q_31, hd⟩ := dk_bind hd
      refine hp_gR 52 rfl i_119_49 q_31 ?_
      refine wp_s 53 [some (.ref a0)] [.ref f_30, .ref f_30] z_24 i_119_52 rfl ?_
      obtain ⟨f_32, q_33, hd⟩ := dk_bind hd
      refine hp_gI 56 rfl i_119_53 q_33 ?_
      refine wp_s 57 [some (.ref a0)] [.int (1 : Int32), .int f_32, .ref f_30] z_24 i_119_56 rfl ?_
      refine wp_s 58 [some (.ref a0)] [.int (f_32 + (1 : Int32)), .ref f_30] z_24 i_119_57 rfl ?_
      obtain ⟨h_34, q_35, hd⟩ := dk_bind hd
      refine hp_sF 61 rfl i_119_58 q_35 ?_
      refine wp_s 62 [some (.ref a0)] [.ref a0] h_34 i_119_61 rfl ?_
      obtain ⟨f_36, q_37, hd⟩ := dk_bind hd
      refine hp_gR 65 rfl i_119_62 q_37 ?_
      obtain ⟨f_38, q_39, hd⟩ := dk_bind hd
      refine hp_gR 68 rfl i_119_65 q_39 ?_
      refine wp_s 69 [some (.ref a0)] [.ref a0, .ref f_38] h_34 i_119_68 rfl ?_
      obtain ⟨f_40, q_41, hd⟩ := dk_bind hd
      refine hp_gR 72 rfl i_119_69 q_41 ?_
      obtain ⟨f_42, q_43, hd⟩ := dk_bind hd
      refine hp_gR 75 rfl i_119_72 q_43 ?_
      obtain ⟨f_44, q_45, hd⟩ := dk_bind hd
      refine hp_gI 78 rfl i_119_75 q_45 ?_
      obtain ⟨k_46, hd⟩ := dk_if hd
      obtain ⟨fs_47, o_48⟩ := isO_of k_46
      obtain ⟨z_49, q_50, hd⟩ := dk_bind hd
      refine wp_callV 81 rfl i_119_78 (by decide) rfl (vs := [.int f_44]) (rest := []) rfl rfl rfl o_48 (y := m_57) rfl (Nat.le_of_ble_eq_true rfl) (d_57_ok (d := e) (by omega) q_50) ?_
      rintro v_51 h_52 ⟨rfl, rfl⟩
      obtain rfl := Option.some.inj hd
      exact wp_iret i_119_81 ⟨rfl, rfl⟩
    · rw [if_neg c_14] at hd
      refine wp_s 30 [some (.ref a0)] [.int (-1 : Int32)] h0 i_119_29 rfl ?_
      obtain rfl := Option.some.inj hd
      exact wp_iret i_119_30 ⟨rfl, rfl⟩
def d_120 (g : Nat) (a0 : Nat) (h0 : aH) : Option (Int32 × aH) := ((gR h0 a0 11 6).bind (fun f_1 => ((gI h0 f_1 1 2).bind (fun f_3 => (if (1 : Int32) ≤ f_3 then ((gR h0 a0 11 6).bind (fun f_6 => ((gR h0 a0 11 3).bind (fun f_8 => ((gR h0 f_8 10 1).bind (fun f_10 => (if isO h0 f_6 1 = true then ((d_9 g f_6 f_10 h0).bind (fun z_15 => ((gR z_15 a0 11 6).bind (fun f_19 => ((gI z_15 f_19 1 2).bind (fun f_21 => some (f_21, z_15))))))) else none))))))) else some ((-1 : Int32), h0))))))
set_option maxHeartbeats 4000000 in
set_option maxRecDepth 100000 in
theorem d_120_ok {X : aX} {g : Nat} {a0 : Nat} {h0 : aH} {zz : Int32 × aH} {d : Nat} (hdp : 2 ≤ d) (hd : d_120 g a0 h0 = some zz) : aWp X d 120 0 (aEntL [.ref a0] 1) [] h0 (fun w h' => w = some (.int zz.1) ∧ h' = zz.2) := by
  unfold d_120 at hd
  refine wp_lv (l2 := [some (.ref a0)]) rfl ?_
  obtain ⟨e, rfl⟩ : ∃ e, d = e + 1 := ⟨d - 1, by omega⟩
  refine wp_s 1 [some (.ref a0)] [.ref a0] h0 i_120_0 rfl ?_
  obtain ⟨f_1, q_2, hd⟩ := dk_bind hd
  refine hp_gR 4 rfl i_120_1 q_2 ?_
  obtain ⟨f_3, q_4, hd⟩ := dk_bind hd
  refine hp_gI 7 rfl i_120_4 q_4 ?_
  refine wp_s 8 [some (.ref a0)] [.int (1 : Int32), .int f_3] h0 i_120_7 rfl ?_
  refine wp_cmp_ge 13 11 rfl rfl i_120_8 (fun c_5 => ?_) (fun c_5 => ?_)
  · rw [if_pos c_5] at hd
    refine wp_s 14 [some (.ref a0)] [.ref a0] h0 i_120_13 rfl ?_
    obtain ⟨f_6, q_7, hd⟩ := dk_bind hd
    refine hp_gR 17 rfl i_120_14 q_7 ?_
    refine wp_s 18 [some (.ref a0)] [.ref a0, .ref f_6] h0 i_120_17 rfl ?_
    obtain ⟨f_8, q_9, hd⟩ := dk_bind hd
    refine hp_gR 21 rfl i_120_18 q_9 ?_
    obtain ⟨f_10, q_11, hd⟩ := dk_bind hd
    refine hp_gR 24 rfl i_120_21 q_11 ?_
    obtain ⟨k_12, hd⟩ := dk_if hd
    obtain ⟨fs_13, o_14⟩ := isO_of k_12
    obtain ⟨z_15, q_16, hd⟩ := dk_bind hd
    refine wp_callV 27 rfl i_120_24 (by decide) rfl (vs := [.ref f_10]) (rest := []) rfl rfl rfl o_14 (y := m_9) rfl (Nat.le_of_ble_eq_true rfl) (d_9_ok (d := e) (by omega) q_16) ?_
    rintro v_17 h_18 ⟨rfl, hz⟩
    have hz := hz.symm
    subst hz
    refine wp_s 28 [some (.ref a0)] [.ref a0] z_15 i_120_27 rfl ?_
    obtain ⟨f_19, q_20, hd⟩ := dk_bind hd
    refine hp_gR 31 rfl i_120_28 q_20 ?_
    obtain ⟨f_21, q_22, hd⟩ := dk_bind hd
    refine hp_gI 34 rfl i_120_31 q_22 ?_
    obtain rfl := Option.some.inj hd
    exact wp_iret i_120_34 ⟨rfl, rfl⟩
  · rw [if_neg c_5] at hd
    refine wp_s 12 [some (.ref a0)] [.int (-1 : Int32)] h0 i_120_11 rfl ?_
    obtain rfl := Option.some.inj hd
    exact wp_iret i_120_12 ⟨rfl, rfl⟩
def d_121 (g : Nat) (a0 : Nat) (x1 : Int32) (h0 : aH) : Option (Int32 × aH) := ((gR h0 a0 11 3).bind (fun f_1 => ((gR h0 f_1 10 0).bind (fun f_3 => ((gI h0 f_3 5 0).bind (fun f_5 => (if f_5 = 0 then some ((-3 : Int32), h0) else (if x1 < 0 then some ((-3 : Int32), h0) else (if x1 ≤ (5 : Int32) then ((gR h0 a0 11 5).bind (fun f_10 => (if isO h0 f_10 2 = true then ((d_13 g f_10 h0).bind (fun z_15 => ((gR z_15 a0 11 5).bind (fun f_19 => ((gR z_15 f_19 2 2).bind (fun f_21 => (if isO z_15 f_21 0 = true then ((d_4 g f_21 x1 z_15).bind (fun z_26 => some (z_26.1, z_26.2))) else none))))))) else none))) else some ((-3 : Int32), h0))))))))))
set_option maxHeartbeats 4000000 in
set_option maxRecDepth 100000 in
theorem d_121_ok {X : aX} {g : Nat} {a0 : Nat} {x1 : Int32} {h0 : aH} {zz : Int32 × aH} {d : Nat} (hdp : 11 ≤ d) (hd : d_121 g a0 x1 h0 = some zz) : aWp X d 121 0 (aEntL [.ref a0, .int x1] 2) [] h0 (fun w h' => w = some (.int zz.1) ∧ h' = zz.2) := by
  unfold d_121 at hd
  refine wp_lv (l2 := [some (.ref a0), some (.int x1)]) rfl ?_
  obtain ⟨e, rfl⟩ : ∃ e, d = e + 1 := ⟨d - 1, by omega⟩
  refine wp_s 1 [some (.ref a0), some (.int x1)] [.ref a0] h0 i_121_0 rfl ?_
  obtain ⟨f_1, q_2, hd⟩ := dk_bind hd
  refine hp_gR 4 rfl i_121_1 q_2 ?_
  obtain ⟨f_3, q_4, hd⟩ := dk_bind hd
  refine hp_gR 7 rfl i_121_4 q_4 ?_
  obtain ⟨f_5, q_6, hd⟩ := dk_bind hd
  refine hp_gI 10 rfl i_121_7 q_6 ?_
  refine wp_if_eq 22 13 rfl rfl i_121_10 (fun c_7 => ?_) (fun c_7 => ?_)
  · rw [if_pos c_7] at hd
    refine wp_s 24 [some (.ref a0), some (.int x1)] [.int (-3 : Int32)] h0 i_121_22 rfl ?_
    obtain rfl := Option.some.inj hd
    exact wp_iret i_121_24 ⟨rfl, rfl⟩
  · rw [if_neg c_7] at hd
    refine wp_s 14 [some (.ref a0), some (.int x1)] [.int x1] h0 i_121_13 rfl ?_
    refine wp_if_lt 22 17 rfl rfl i_121_14 (fun c_8 => ?_) (fun c_8 => ?_)
    · rw [if_pos c_8] at hd
      refine wp_s 24 [some (.ref a0), some (.int x1)] [.int (-3 : Int32)] h0 i_121_22 rfl ?_
      obtain rfl := Option.some.inj hd
      exact wp_iret i_121_24 ⟨rfl, rfl⟩
    · rw [if_neg c_8] at hd
      refine wp_s 18 [some (.ref a0), some (.int x1)] [.int x1] h0 i_121_17 rfl ?_
      refine wp_s 19 [some (.ref a0), some (.int x1)] [.int (5 : Int32), .int x1] h0 i_121_18 rfl ?_
      refine wp_cmp_le 25 22 rfl rfl i_121_19 (fun c_9 => ?_) (fun c_9 => ?_)
      · rw [if_pos c_9] at hd
        refine wp_s 26 [some (.ref a0), some (.int x1)] [.ref a0] h0 i_121_25 rfl ?_
        obtain ⟨f_10, q_11, hd⟩ := dk_bind hd
        refine hp_gR 29 rfl i_121_26 q_11 ?_
        obtain ⟨k_12, hd⟩ := dk_if hd
        obtain ⟨fs_13, o_14⟩ := isO_of k_12
        obtain ⟨z_15, q_16, hd⟩ := dk_bind hd
        refine wp_callV 32 rfl i_121_29 (by decide) rfl (vs := []) (rest := []) rfl rfl rfl o_14 (y := m_13) rfl (Nat.le_of_ble_eq_true rfl) (d_13_ok (d := e) (by omega) q_16) ?_
        rintro v_17 h_18 ⟨rfl, hz⟩
        have hz := hz.symm
        subst hz
        refine wp_s 33 [some (.ref a0), some (.int x1)] [.ref a0] z_15 i_121_32 rfl ?_
        obtain ⟨f_19, q_20, hd⟩ := dk_bind hd
        refine hp_gR 36 rfl i_121_33 q_20 ?_
        obtain ⟨f_21, q_22, hd⟩ := dk_bind hd
        refine hp_gR 39 rfl i_121_36 q_22 ?_
        refine wp_s 40 [some (.ref a0), some (.int x1)] [.int x1, .ref f_21] z_15 i_121_39 rfl ?_
        obtain ⟨k_23, hd⟩ := dk_if hd
        obtain ⟨fs_24, o_25⟩ := isO_of k_23
        obtain ⟨z_26, q_27, hd⟩ := dk_bind hd
        refine wp_callV 43 rfl i_121_40 (by decide) rfl (vs := [.int x1]) (rest := []) rfl rfl rfl o_25 (y := m_4) rfl (Nat.le_of_ble_eq_true rfl) (d_4_ok (d := e) (by omega) q_27) ?_
        rintro v_28 h_29 ⟨rfl, rfl⟩
        obtain rfl := Option.some.inj hd
        exact wp_iret i_121_43 ⟨rfl, rfl⟩
      · rw [if_neg c_9] at hd
        refine wp_s 24 [some (.ref a0), some (.int x1)] [.int (-3 : Int32)] h0 i_121_22 rfl ?_
        obtain rfl := Option.some.inj hd
        exact wp_iret i_121_24 ⟨rfl, rfl⟩
def d_122 (g : Nat) (a0 : Nat) (x1 : Int32) (h0 : aH) : Option (Int32 × aH) := ((gR h0 a0 11 3).bind (fun f_1 => ((gR h0 f_1 10 0).bind (fun f_3 => ((gI h0 f_3 5 0).bind (fun f_5 => (if f_5 = 0 then some ((-1000000 : Int32), h0) else (if x1 < 0 then some ((-1000000 : Int32), h0) else (if x1 ≤ (3 : Int32) then ((gR h0 a0 11 5).bind (fun f_10 => ((gR h0 a0 11 3).bind (fun f_12 => ((gR h0 f_12 10 1).bind (fun f_14 => ((gI h0 f_14 7 13).bind (fun f_16 => (if isO h0 f_10 2 = true then ((d_12 g f_10 f_16 h0).bind (fun z_21 => ((gR z_21 a0 11 5).bind (fun f_25 => ((gR z_21 a0 11 3).bind (fun f_27 => ((gR z_21 f_27 10 0).bind (fun f_29 => ((gI z_21 f_29 5 2).bind (fun f_31 => (if isO z_21 f_25 2 = true then ((d_15 g f_25 f_31 z_21).bind (fun z_36 => ((gR z_36 a0 11 5).bind (fun f_40 => ((gR z_36 f_40 2 2).bind (fun f_42 => (if isO z_36 f_42 0 = true then ((d_4 g f_42 x1 z_36).bind (fun z_47 => some (z_47.1, z_47.2))) else none))))))) else none))))))))))) else none))))))))) else some ((-1000000 : Int32), h0))))))))))
set_option maxHeartbeats 4000000 in
set_option maxRecDepth 100000 in
theorem d_122_ok {X : aX} {g : Nat} {a0 : Nat} {x1 : Int32} {h0 : aH} {zz : Int32 × aH} {d : Nat} (hdp : 6 ≤ d) (hd : d_122 g a0 x1 h0 = some zz) : aWp X d 122 0 (aEntL [.ref a0, .int x1] 2) [] h0 (fun w h' => w = some (.int zz.1) ∧ h' = zz.2) := by
  unfold d_122 at hd
  refine wp_lv (l2 := [some (.ref a0), some (.int x1)]) rfl ?_
  obtain ⟨e, rfl⟩ : ∃ e, d = e + 1 := ⟨d - 1, by omega⟩
  refine wp_s 1 [some (.ref a0), some (.int x1)] [.ref a0] h0 i_122_0 rfl ?_
  obtain ⟨f_1, q_2, hd⟩ := dk_bind hd
  refine hp_gR 4 rfl i_122_1 q_2 ?_
  obtain ⟨f_3, q_4, hd⟩ := dk_bind hd
  refine hp_gR 7 rfl i_122_4 q_4 ?_
  obtain ⟨f_5, q_6, hd⟩ := dk_bind hd
  refine hp_gI 10 rfl i_122_7 q_6 ?_
  refine wp_if_eq 22 13 rfl rfl i_122_10 (fun c_7 => ?_) (fun c_7 => ?_)
  · rw [if_pos c_7] at hd
    refine wp_s 25 [some (.ref a0), some (.int x1)] [.int (-1000000 : Int32)] h0 i_122_22 rfl ?_
    obtain rfl := Option.some.inj hd
    exact wp_iret i_122_25 ⟨rfl, rfl⟩
  · rw [if_neg c_7] at hd
    refine wp_s 14 [some (.ref a0), some (.int x1)] [.int x1] h0 i_122_13 rfl ?_
    refine wp_if_lt 22 17 rfl rfl i_122_14 (fun c_8 => ?_) (fun c_8 => ?_)
    · rw [if_pos c_8] at hd
      refine wp_s 25 [some (.ref a0), some (.int x1)] [.int (-1000000 : Int32)] h0 i_122_22 rfl ?_
      obtain rfl := Option.some.inj hd
      exact wp_iret i_122_25 ⟨rfl, rfl⟩
    · rw [if_neg c_8] at hd
      refine wp_s 18 [some (.ref a0), some (.int x1)] [.int x1] h0 i_122_17 rfl ?_
      refine wp_s 19 [some (.ref a0), some (.int x1)] [.int (3 : Int32), .int x1] h0 i_122_18 rfl ?_
      refine wp_cmp_le 26 22 rfl rfl i_122_19 (fun c_9 => ?_) (fun c_9 => ?_)
      · rw [if_pos c_9] at hd
        refine wp_s 27 [some (.ref a0), some (.int x1)] [.ref a0] h0 i_122_26 rfl ?_
        obtain ⟨f_10, q_11, hd⟩ := dk_bind hd
        refine hp_gR 30 rfl i_122_27 q_11 ?_
        refine wp_s 31 [some (.ref a0), some (.int x1)] [.ref a0, .ref f_10] h0 i_122_30 rfl ?_
        obtain ⟨f_12, q_13, hd⟩ := dk_bind hd
        refine hp_gR 34 rfl i_122_31 q_13 ?_
        obtain ⟨f_14, q_15, hd⟩ := dk_bind hd
        refine hp_gR 37 rfl i_122_34 q_15 ?_
        obtain ⟨f_16, q_17, hd⟩ := dk_bind hd
        refine hp_gI 40 rfl i_122_37 q_17 ?_
        obtain ⟨k_18, hd⟩ := dk_if hd
        obtain ⟨fs_19, o_20⟩ := isO_of k_18
        obtain ⟨z_21, q_22, hd⟩ := dk_bind hd
        refine wp_callV 43 rfl i_122_40 (by decide) rfl (vs := [.int f_16]) (rest := []) rfl rfl rfl o_20 (y := m_12) rfl (Nat.le_of_ble_eq_true rfl) (d_12_ok (d := e) (by omega) q_22) ?_
        rintro v_23 h_24 ⟨rfl, hz⟩
        have hz := hz.symm
        subst hz
        refine wp_s 44 [some (.ref a0), some (.int x1)] [.ref a0] z_21 i_122_43 rfl ?_
        obtain ⟨f_25, q_26, hd⟩ := dk_bind hd
        refine hp_gR 47 rfl i_122_44 q_26 ?_
        refine wp_s 48 [some (.ref a0), some (.int x1)] [.ref a0, .ref f_25] z_21 i_122_47 rfl ?_
        obtain ⟨f_27, q_28, hd⟩ := dk_bind hd
        refine hp_gR 51 rfl i_122_48 q_28 ?_
        obtain ⟨f_29, q_30, hd⟩ := dk_bind hd
        refine hp_gR 54 rfl i_122_51 q_30 ?_
        obtain ⟨f_31, q_32, hd⟩ := dk_bind hd
        refine hp_gI 57 rfl i_122_54 q_32 ?_
        obtain ⟨k_33, hd⟩ := dk_if hd
        obtain ⟨fs_34, o_35⟩ := isO_of k_33
        obtain ⟨z_36, q_37, hd⟩ := dk_bind hd
        refine wp_callV 60 rfl i_122_57 (by decide) rfl (vs := [.int f_31]) (rest := []) rfl rfl rfl o_35 (y := m_15) rfl (Nat.le_of_ble_eq_true rfl) (d_15_ok (d := e) (by omega) q_37) ?_
        rintro v_38 h_39 ⟨rfl, hz⟩
        have hz := hz.symm
        subst hz
        refine wp_s 61 [some (.ref a0), some (.int x1)] [.ref a0] z_36 i_122_60 rfl ?_
        obtain ⟨f_40, q_41, hd⟩ := dk_bind hd
        refine hp_gR 64 rfl i_122_61 q_41 ?_
        obtain ⟨f_42, q_43, hd⟩ := dk_bind hd
        refine hp_gR 67 rfl i_122_64 q_43 ?_
        refine wp_s 68 [some (.ref a0), some (.int x1)] [.int x1, .ref f_42] z_36 i_122_67 rfl ?_
        obtain ⟨k_44, hd⟩ := dk_if hd
        obtain ⟨fs_45, o_46⟩ := isO_of k_44
        obtain ⟨z_47, q_48, hd⟩ := dk_bind hd
        refine wp_callV 71 rfl i_122_68 (by decide) rfl (vs := [.int x1]) (rest := []) rfl rfl rfl o_46 (y := m_4) rfl (Nat.le_of_ble_eq_true rfl) (d_4_ok (d := e) (by omega) q_48) ?_
        rintro v_49 h_50 ⟨rfl, rfl⟩
        obtain rfl := Option.some.inj hd
        exact wp_iret i_122_71 ⟨rfl, rfl⟩
      · rw [if_neg c_9] at hd
        refine wp_s 25 [some (.ref a0), some (.int x1)] [.int (-1000000 : Int32)] h0 i_122_22 rfl ?_
        obtain rfl := Option.some.inj hd
        exact wp_iret i_122_25 ⟨rfl, rfl⟩
def d_123 (g : Nat) (a0 : Nat) (x1 : Int32) (h0 : aH) : Option (Int32 × aH) := ((gR h0 a0 11 3).bind (fun f_1 => ((gR h0 f_1 10 0).bind (fun f_3 => ((gI h0 f_3 5 0).bind (fun f_5 => (if f_5 = 0 then some ((-3 : Int32), h0) else (if x1 < 0 then some ((-3 : Int32), h0) else (if x1 ≤ (7 : Int32) then ((gR h0 a0 11 5).bind (fun f_10 => (if isO h0 f_10 2 = true then ((d_23 g f_10 h0).bind (fun z_15 => (if x1 ≤ (6 : Int32) then ((gR z_15 a0 11 5).bind (fun f_20 => ((gR z_15 f_20 2 2).bind (fun f_22 => (if isO z_15 f_22 0 = true then ((d_4 g f_22 x1 z_15).bind (fun z_27 => some (z_27.1, z_27.2))) else none))))) else ((gR z_15 a0 11 5).bind (fun f_31 => ((gR z_15 f_31 2 2).bind (fun f_33 => (if isO z_15 f_33 0 = true then ((d_6 g f_33 z_15).bind (fun z_38 => some ((z_38.1 + (1 : Int32)), z_38.2))) else none)))))))) else none))) else some ((-3 : Int32), h0))))))))))
set_option maxHeartbeats 4000000 in
set_option maxRecDepth 100000 in
theorem d_123_ok {X : aX} {g : Nat} {a0 : Nat} {x1 : Int32} {h0 : aH} {zz : Int32 × aH} {d : Nat} (hdp : 12 ≤ d) (hd : d_123 g a0 x1 h0 = some zz) : aWp X d 123 0 (aEntL [.ref a0, .int x1] 2) [] h0 (fun w h' => w = some (.int zz.1) ∧ h' = zz.2) := by
  unfold d_123 at hd
  refine wp_lv (l2 := [some (.ref a0), some (.int x1)]) rfl ?_
  obtain ⟨e, rfl⟩ : ∃ e, d = e + 1 := ⟨d - 1, by omega⟩
  refine wp_s 1 [some (.ref a0), some (.int x1)] [.ref a0] h0 i_123_0 rfl ?_
  obtain ⟨f_1, q_2, hd⟩ := dk_bind hd
  refine hp_gR 4 rfl i_123_1 q_2 ?_
  obtain ⟨f_3, q_4, hd⟩ := dk_bind hd
  refine hp_gR 7 rfl i_123_4 q_4 ?_
  obtain ⟨f_5, q_6, hd⟩ := dk_bind hd
  refine hp_gI 10 rfl i_123_7 q_6 ?_
  refine wp_if_eq 23 13 rfl rfl i_123_10 (fun c_7 => ?_) (fun c_7 => ?_)
  · rw [if_pos c_7] at hd
    refine wp_s 25 [some (.ref a0), some (.int x1)] [.int (-3 : Int32)] h0 i_123_23 rfl ?_
    obtain rfl := Option.some.inj hd
    exact wp_iret i_123_25 ⟨rfl, rfl⟩
  · rw [if_neg c_7] at hd
    refine wp_s 14 [some (.ref a0), some (.int x1)] [.int x1] h0 i_123_13 rfl ?_
    refine wp_if_lt 23 17 rfl rfl i_123_14 (fun c_8 => ?_) (fun c_8 => ?_)
    · rw [if_pos c_8] at hd
      refine wp_s 25 [some (.ref a0), some (.int x1)] [.int (-3 : Int32)] h0 i_123_23 rfl ?_
      obtain rfl := Option.some.inj hd
      exact wp_iret i_123_25 ⟨rfl, rfl⟩
    · rw [if_neg c_8] at hd
      refine wp_s 18 [some (.ref a0), some (.int x1)] [.int x1] h0 i_123_17 rfl ?_
      refine wp_s 20 [some (.ref a0), some (.int x1)] [.int (7 : Int32), .int x1] h0 i_123_18 rfl ?_
      refine wp_cmp_le 26 23 rfl rfl i_123_20 (fun c_9 => ?_) (fun c_9 => ?_)
      · rw [if_pos c_9] at hd
        refine wp_s 27 [some (.ref a0), some (.int x1)] [.ref a0] h0 i_123_26 rfl ?_
        obtain ⟨f_10, q_11, hd⟩ := dk_bind hd
        refine hp_gR 30 rfl i_123_27 q_11 ?_
        obtain ⟨k_12, hd⟩ := dk_if hd
        obtain ⟨fs_13, o_14⟩ := isO_of k_12
        obtain ⟨z_15, q_16, hd⟩ := dk_bind hd
        refine wp_callV 33 rfl i_123_30 (by decide) rfl (vs := []) (rest := []) rfl rfl rfl o_14 (y := m_23) rfl (Nat.le_of_ble_eq_true rfl) (d_23_ok (d := e) (by omega) q_16) ?_
        rintro v_17 h_18 ⟨rfl, hz⟩
        have hz := hz.symm
        subst hz
        refine wp_s 34 [some (.ref a0), some (.int x1)] [.int x1] z_15 i_123_33 rfl ?_
        refine wp_s 36 [some (.ref a0), some (.int x1)] [.int (6 : Int32), .int x1] z_15 i_123_34 rfl ?_
        refine wp_cmp_le 54 39 rfl rfl i_123_36 (fun c_19 => ?_) (fun c_19 => ?_)
        · rw [if_pos c_19] at hd
          refine wp_s 55 [some (.ref a0), some (.int x1)] [.ref a0] z_15 i_123_54 rfl ?_
          obtain ⟨f_20, q_21, hd⟩ := dk_bind hd
          refine hp_gR 58 rfl i_123_55 q_21 ?_
          obtain ⟨f_22, q_23, hd⟩ := dk_bind hd
          refine hp_gR 61 rfl i_123_58 q_23 ?_
          refine wp_s 62 [some (.ref a0), some (.int x1)] [.int x1, .ref f_22] z_15 i_123_61 rfl ?_
          obtain ⟨k_24, hd⟩ := dk_if hd
          obtain ⟨fs_25, o_26⟩ := isO_of k_24
          obtain ⟨z_27, q_28, hd⟩ := dk_bind hd
          refine wp_callV 65 rfl i_123_62 (by decide) rfl (vs := [.int x1]) (rest := []) rfl rfl rfl o_26 (y := m_4) rfl (Nat.le_of_ble_eq_true rfl) (d_4_ok (d := e) (by omega) q_28) ?_
          rintro v_29 h_30 ⟨rfl, rfl⟩
          obtain rfl := Option.some.inj hd
          exact wp_iret i_123_65 ⟨rfl, rfl⟩
        · rw [if_neg c_19] at hd
          refine wp_s 40 [some (.ref a0), some (.int x1)] [.ref a0] z_15 i_123_39 rfl ?_
          obtain ⟨f_31, q_32, hd⟩ := dk_bind hd
          refine hp_gR 43 rfl i_123_40 q_32 ?_
          obtain ⟨f_33, q_34, hd⟩ := dk_bind hd
          refine hp_gR 46 rfl i_123_43 q_34 ?_
          obtain ⟨k_35, hd⟩ := dk_if hd
          obtain ⟨fs_36, o_37⟩ := isO_of k_35
          obtain ⟨z_38, q_39, hd⟩ := dk_bind hd
          refine wp_callV 49 rfl i_123_46 (by decide) rfl (vs := []) (rest := []) rfl rfl rfl o_37 (y := m_6) rfl (Nat.le_of_ble_eq_true rfl) (d_6_ok (d := e) (by omega) q_39) ?_
          rintro v_40 h_41 ⟨rfl, rfl⟩
          refine wp_s 50 [some (.ref a0), some (.int x1)] [.int (1 : Int32), .int z_38.1] z_38.2 i_123_49 rfl ?_
          refine wp_s 51 [some (.ref a0), some (.int x1)] [.int (z_38.1 + (1 : Int32))] z_38.2 i_123_50 rfl ?_
          refine wp_s 65 [some (.ref a0), some (.int x1)] [.int (z_38.1 + (1 : Int32))] z_38.2 i_123_51 rfl ?_
          obtain rfl := Option.some.inj hd
          exact wp_iret i_123_65 ⟨rfl, rfl⟩
      · rw [if_neg c_9] at hd
        refine wp_s 25 [some (.ref a0), some (.int x1)] [.int (-3 : Int32)] h0 i_123_23 rfl ?_
        obtain rfl := Option.some.inj hd
        exact wp_iret i_123_25 ⟨rfl, rfl⟩
