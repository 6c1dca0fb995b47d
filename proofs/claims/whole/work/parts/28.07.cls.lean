theorem i_124_0 : aIns 124 0 = some (.aload_n 0, 1, 0, 0, .null) := by decide +kernel
theorem i_124_1 : aIns 124 1 = some (.getfield 35, 3, 11, 3, .null) := by decide +kernel
theorem i_124_4 : aIns 124 4 = some (.getfield 110, 3, 10, 0, .null) := by decide +kernel
theorem i_124_7 : aIns 124 7 = some (.getfield 188, 3, 5, 0, .null) := by decide +kernel
theorem i_124_10 : aIns 124 10 = some (.ifCond .eq 13, 3, 0, 0, .null) := by decide +kernel
theorem i_124_13 : aIns 124 13 = some (.iload_n 1, 1, 0, 0, .null) := by decide +kernel
theorem i_124_14 : aIns 124 14 = some (.ifCond .lt 9, 3, 0, 0, .null) := by decide +kernel
theorem i_124_17 : aIns 124 17 = some (.iload_n 1, 1, 0, 0, .null) := by decide +kernel
theorem i_124_18 : aIns 124 18 = some (.bipush 6, 2, 0, 0, .int (6)) := by decide +kernel
theorem i_124_20 : aIns 124 20 = some (.if_icmp .le 6, 3, 0, 0, .null) := by decide +kernel
theorem i_124_23 : aIns 124 23 = some (.bipush (-3), 2, 0, 0, .int (-3)) := by decide +kernel
theorem i_124_25 : aIns 124 25 = some (.ireturn, 1, 0, 0, .null) := by decide +kernel
theorem i_124_26 : aIns 124 26 = some (.aload_n 0, 1, 0, 0, .null) := by decide +kernel
theorem i_124_27 : aIns 124 27 = some (.getfield 53, 3, 11, 5, .null) := by decide +kernel
theorem i_124_30 : aIns 124 30 = some (.invokevirtual 286, 3, 26, 0, .int 2) := by decide +kernel
theorem i_124_33 : aIns 124 33 = some (.aload_n 0, 1, 0, 0, .null) := by decide +kernel
theorem i_124_34 : aIns 124 34 = some (.getfield 53, 3, 11, 5, .null) := by decide +kernel
theorem i_124_37 : aIns 124 37 = some (.getfield 261, 3, 2, 2, .null) := by decide +kernel
theorem i_124_40 : aIns 124 40 = some (.iload_n 1, 1, 0, 0, .null) := by decide +kernel
theorem i_124_41 : aIns 124 41 = some (.invokevirtual 265, 3, 4, 1, .int 0) := by decide +kernel
theorem i_124_44 : aIns 124 44 = some (.ireturn, 1, 0, 0, .null) := by decide +kernel
theorem i_125_0 : aIns 125 0 = some (.aload_n 0, 1, 0, 0, .null) := by decide +kernel
theorem i_125_1 : aIns 125 1 = some (.getfield 35, 3, 11, 3, .null) := by decide +kernel
theorem i_125_4 : aIns 125 4 = some (.getfield 110, 3, 10, 0, .null) := by decide +kernel
theorem i_125_7 : aIns 125 7 = some (.getfield 188, 3, 5, 0, .null) := by decide +kernel
theorem i_125_10 : aIns 125 10 = some (.ifCond .eq 13, 3, 0, 0, .null) := by decide +kernel
theorem i_125_13 : aIns 125 13 = some (.iload_n 1, 1, 0, 0, .null) := by decide +kernel
theorem i_125_14 : aIns 125 14 = some (.ifCond .lt 9, 3, 0, 0, .null) := by decide +kernel
theorem i_125_17 : aIns 125 17 = some (.iload_n 1, 1, 0, 0, .null) := by decide +kernel
theorem i_125_18 : aIns 125 18 = some (.bipush 8, 2, 0, 0, .int (8)) := by decide +kernel
theorem i_125_20 : aIns 125 20 = some (.if_icmp .le 7, 3, 0, 0, .null) := by decide +kernel
theorem i_125_23 : aIns 125 23 = some (.ldc_w 270, 3, 0, 0, .int (-1000000)) := by decide +kernel
theorem i_125_26 : aIns 125 26 = some (.ireturn, 1, 0, 0, .null) := by decide +kernel
theorem i_125_27 : aIns 125 27 = some (.aload_n 0, 1, 0, 0, .null) := by decide +kernel
theorem i_125_28 : aIns 125 28 = some (.getfield 53, 3, 11, 5, .null) := by decide +kernel
theorem i_125_31 : aIns 125 31 = some (.invokevirtual 289, 3, 28, 0, .int 2) := by decide +kernel
theorem i_125_34 : aIns 125 34 = some (.iload_n 1, 1, 0, 0, .null) := by decide +kernel
theorem i_125_35 : aIns 125 35 = some (.ifCond .ne 17, 3, 0, 0, .null) := by decide +kernel
theorem i_125_38 : aIns 125 38 = some (.aload_n 0, 1, 0, 0, .null) := by decide +kernel
theorem i_125_39 : aIns 125 39 = some (.getfield 53, 3, 11, 5, .null) := by decide +kernel
theorem i_125_42 : aIns 125 42 = some (.getfield 261, 3, 2, 2, .null) := by decide +kernel
theorem i_125_45 : aIns 125 45 = some (.getfield 292, 3, 0, 1, .null) := by decide +kernel
theorem i_125_48 : aIns 125 48 = some (.ineg, 1, 0, 0, .null) := by decide +kernel
theorem i_125_49 : aIns 125 49 = some (.goto 14, 3, 0, 0, .null) := by decide +kernel
theorem i_125_52 : aIns 125 52 = some (.aload_n 0, 1, 0, 0, .null) := by decide +kernel
theorem i_125_53 : aIns 125 53 = some (.getfield 53, 3, 11, 5, .null) := by decide +kernel
theorem i_125_56 : aIns 125 56 = some (.getfield 261, 3, 2, 2, .null) := by decide +kernel
theorem i_125_59 : aIns 125 59 = some (.iload_n 1, 1, 0, 0, .null) := by decide +kernel
theorem i_125_60 : aIns 125 60 = some (.invokevirtual 265, 3, 4, 1, .int 0) := by decide +kernel
theorem i_125_63 : aIns 125 63 = some (.ireturn, 1, 0, 0, .null) := by decide +kernel
theorem i_126_0 : aIns 126 0 = some (.aload_n 0, 1, 0, 0, .null) := by decide +kernel
theorem i_126_1 : aIns 126 1 = some (.getfield 35, 3, 11, 3, .null) := by decide +kernel
theorem i_126_4 : aIns 126 4 = some (.getfield 110, 3, 10, 0, .null) := by decide +kernel
theorem i_126_7 : aIns 126 7 = some (.getfield 188, 3, 5, 0, .null) := by decide +kernel
theorem i_126_10 : aIns 126 10 = some (.ifCond .eq 14, 3, 0, 0, .null) := by decide +kernel
theorem i_126_13 : aIns 126 13 = some (.iload_n 1, 1, 0, 0, .null) := by decide +kernel
theorem i_126_14 : aIns 126 14 = some (.iconst 1, 1, 0, 0, .int (1)) := by decide +kernel
theorem i_126_15 : aIns 126 15 = some (.sipush 9999, 3, 0, 0, .int (9999)) := by decide +kernel
theorem i_126_18 : aIns 126 18 = some (.invokestatic 180, 3, 138, 3, .null) := by decide +kernel
theorem i_126_21 : aIns 126 21 = some (.ifCond .ne 7, 3, 0, 0, .null) := by decide +kernel
theorem i_126_24 : aIns 126 24 = some (.ldc_w 270, 3, 0, 0, .int (-1000000)) := by decide +kernel
theorem i_126_27 : aIns 126 27 = some (.ireturn, 1, 0, 0, .null) := by decide +kernel
theorem i_126_28 : aIns 126 28 = some (.aload_n 0, 1, 0, 0, .null) := by decide +kernel
theorem i_126_29 : aIns 126 29 = some (.getfield 35, 3, 11, 3, .null) := by decide +kernel
theorem i_126_32 : aIns 126 32 = some (.getfield 118, 3, 10, 1, .null) := by decide +kernel
theorem i_126_35 : aIns 126 35 = some (.astore_n 2, 1, 0, 0, .null) := by decide +kernel
theorem i_126_36 : aIns 126 36 = some (.aload_n 0, 1, 0, 0, .null) := by decide +kernel
theorem i_126_37 : aIns 126 37 = some (.getfield 44, 3, 11, 4, .null) := by decide +kernel
theorem i_126_40 : aIns 126 40 = some (.invokevirtual 191, 3, 93, 0, .int 9) := by decide +kernel
theorem i_126_43 : aIns 126 43 = some (.aload_n 0, 1, 0, 0, .null) := by decide +kernel
theorem i_126_44 : aIns 126 44 = some (.getfield 44, 3, 11, 4, .null) := by decide +kernel
theorem i_126_47 : aIns 126 47 = some (.iload_n 1, 1, 0, 0, .null) := by decide +kernel
theorem i_126_48 : aIns 126 48 = some (.invokevirtual 295, 3, 95, 1, .int 9) := by decide +kernel
theorem i_126_51 : aIns 126 51 = some (.iadd, 1, 0, 0, .null) := by decide +kernel
theorem i_126_52 : aIns 126 52 = some (.istore_n 3, 1, 0, 0, .null) := by decide +kernel
theorem i_126_53 : aIns 126 53 = some (.aload_n 2, 1, 0, 0, .null) := by decide +kernel
theorem i_126_54 : aIns 126 54 = some (.invokevirtual 218, 3, 73, 0, .int 7) := by decide +kernel
theorem i_126_57 : aIns 126 57 = some (.iconst 1, 1, 0, 0, .int (1)) := by decide +kernel
theorem i_126_58 : aIns 126 58 = some (.iadd, 1, 0, 0, .null) := by decide +kernel
theorem i_126_59 : aIns 126 59 = some (.istore 4, 2, 0, 0, .null) := by decide +kernel
theorem i_126_61 : aIns 126 61 = some (.iload_n 3, 1, 0, 0, .null) := by decide +kernel
theorem i_126_62 : aIns 126 62 = some (.aload_n 0, 1, 0, 0, .null) := by decide +kernel
theorem i_126_63 : aIns 126 63 = some (.getfield 44, 3, 11, 4, .null) := by decide +kernel
theorem i_126_66 : aIns 126 66 = some (.iload 4, 2, 0, 0, .null) := by decide +kernel
theorem i_126_68 : aIns 126 68 = some (.aload_n 0, 1, 0, 0, .null) := by decide +kernel
theorem i_126_69 : aIns 126 69 = some (.getfield 44, 3, 11, 4, .null) := by decide +kernel
theorem i_126_72 : aIns 126 72 = some (.invokevirtual 298, 3, 92, 0, .int 9) := by decide +kernel
theorem i_126_75 : aIns 126 75 = some (.iload_n 1, 1, 0, 0, .null) := by decide +kernel
theorem i_126_76 : aIns 126 76 = some (.iadd, 1, 0, 0, .null) := by decide +kernel
theorem i_126_77 : aIns 126 77 = some (.aload_n 2, 1, 0, 0, .null) := by decide +kernel
theorem i_126_78 : aIns 126 78 = some (.getfield 205, 3, 7, 6, .null) := by decide +kernel
theorem i_126_81 : aIns 126 81 = some (.aload_n 2, 1, 0, 0, .null) := by decide +kernel
theorem i_126_82 : aIns 126 82 = some (.getfield 208, 3, 7, 8, .null) := by decide +kernel
theorem i_126_85 : aIns 126 85 = some (.aload_n 0, 1, 0, 0, .null) := by decide +kernel
theorem i_126_86 : aIns 126 86 = some (.getfield 35, 3, 11, 3, .null) := by decide +kernel
theorem i_126_89 : aIns 126 89 = some (.getfield 110, 3, 10, 0, .null) := by decide +kernel
theorem i_126_92 : aIns 126 92 = some (.getfield 274, 3, 5, 2, .null) := by decide +kernel
theorem i_126_95 : aIns 126 95 = some (.invokevirtual 301, 3, 94, 5, .int 9) := by decide +kernel
theorem i_126_98 : aIns 126 98 = some (.isub, 1, 0, 0, .null) := by decide +kernel
theorem i_126_99 : aIns 126 99 = some (.ireturn, 1, 0, 0, .null) := by decide +kernel
theorem i_127_0 : aIns 127 0 = some (.aload_n 0, 1, 0, 0, .null) := by decide +kernel
theorem i_127_1 : aIns 127 1 = some (.getfield 35, 3, 11, 3, .null) := by decide +kernel
theorem i_127_4 : aIns 127 4 = some (.getfield 110, 3, 10, 0, .null) := by decide +kernel
theorem i_127_7 : aIns 127 7 = some (.getfield 188, 3, 5, 0, .null) := by decide +kernel
theorem i_127_10 : aIns 127 10 = some (.ifCond .eq 12, 3, 0, 0, .null) := by decide +kernel
theorem i_127_13 : aIns 127 13 = some (.iload_n 1, 1, 0, 0, .null) := by decide +kernel
theorem i_127_14 : aIns 127 14 = some (.ifCond .lt 8, 3, 0, 0, .null) := by decide +kernel
theorem i_127_17 : aIns 127 17 = some (.iload_n 1, 1, 0, 0, .null) := by decide +kernel
theorem i_127_18 : aIns 127 18 = some (.iconst 1, 1, 0, 0, .int (1)) := by decide +kernel
theorem i_127_19 : aIns 127 19 = some (.if_icmp .le 7, 3, 0, 0, .null) := by decide +kernel
theorem i_127_22 : aIns 127 22 = some (.ldc_w 270, 3, 0, 0, .int (-1000000)) := by decide +kernel
theorem i_127_25 : aIns 127 25 = some (.ireturn, 1, 0, 0, .null) := by decide +kernel
theorem i_127_26 : aIns 127 26 = some (.aload_n 0, 1, 0, 0, .null) := by decide +kernel
theorem i_127_27 : aIns 127 27 = some (.getfield 53, 3, 11, 5, .null) := by decide +kernel
theorem i_127_30 : aIns 127 30 = some (.invokevirtual 305, 3, 22, 0, .int 2) := by decide +kernel
theorem i_127_33 : aIns 127 33 = some (.iload_n 1, 1, 0, 0, .null) := by decide +kernel
theorem i_127_34 : aIns 127 34 = some (.ifCond .ne 13, 3, 0, 0, .null) := by decide +kernel
theorem i_127_37 : aIns 127 37 = some (.aload_n 0, 1, 0, 0, .null) := by decide +kernel
theorem i_127_38 : aIns 127 38 = some (.getfield 53, 3, 11, 5, .null) := by decide +kernel
theorem i_127_41 : aIns 127 41 = some (.getfield 308, 3, 2, 13, .null) := by decide +kernel
theorem i_127_44 : aIns 127 44 = some (.goto 10, 3, 0, 0, .null) := by decide +kernel
theorem i_127_47 : aIns 127 47 = some (.aload_n 0, 1, 0, 0, .null) := by decide +kernel
theorem i_127_48 : aIns 127 48 = some (.getfield 53, 3, 11, 5, .null) := by decide +kernel
theorem i_127_51 : aIns 127 51 = some (.getfield 311, 3, 2, 14, .null) := by decide +kernel
theorem i_127_54 : aIns 127 54 = some (.ireturn, 1, 0, 0, .null) := by decide +kernel
theorem i_128_0 : aIns 128 0 = some (.aload_n 0, 1, 0, 0, .null) := by decide +kernel
theorem i_128_1 : aIns 128 1 = some (.getfield 35, 3, 11, 3, .null) := by decide +kernel
theorem i_128_4 : aIns 128 4 = some (.getfield 110, 3, 10, 0, .null) := by decide +kernel
theorem i_128_7 : aIns 128 7 = some (.getfield 188, 3, 5, 0, .null) := by decide +kernel
theorem i_128_10 : aIns 128 10 = some (.ifCond .eq 33, 3, 0, 0, .null) := by decide +kernel
theorem i_128_13 : aIns 128 13 = some (.iload_n 1, 1, 0, 0, .null) := by decide +kernel
theorem i_128_14 : aIns 128 14 = some (.iconst 0, 1, 0, 0, .int (0)) := by decide +kernel
theorem i_128_15 : aIns 128 15 = some (.sipush 30000, 3, 0, 0, .int (30000)) := by decide +kernel
theorem i_128_18 : aIns 128 18 = some (.invokestatic 180, 3, 138, 3, .null) := by decide +kernel
theorem i_128_21 : aIns 128 21 = some (.ifCond .eq 22, 3, 0, 0, .null) := by decide +kernel
theorem i_128_24 : aIns 128 24 = some (.iload_n 2, 1, 0, 0, .null) := by decide +kernel
theorem i_128_25 : aIns 128 25 = some (.iconst 0, 1, 0, 0, .int (0)) := by decide +kernel
theorem i_128_26 : aIns 128 26 = some (.bipush 99, 2, 0, 0, .int (99)) := by decide +kernel
theorem i_128_28 : aIns 128 28 = some (.invokestatic 180, 3, 138, 3, .null) := by decide +kernel
theorem i_128_31 : aIns 128 31 = some (.ifCond .eq 12, 3, 0, 0, .null) := by decide +kernel
theorem i_128_34 : aIns 128 34 = some (.iload_n 3, 1, 0, 0, .null) := by decide +kernel
theorem i_128_35 : aIns 128 35 = some (.iconst 0, 1, 0, 0, .int (0)) := by decide +kernel
theorem i_128_36 : aIns 128 36 = some (.iconst 5, 1, 0, 0, .int (5)) := by decide +kernel
theorem i_128_37 : aIns 128 37 = some (.invokestatic 180, 3, 138, 3, .null) := by decide +kernel
theorem i_128_40 : aIns 128 40 = some (.ifCond .ne 6, 3, 0, 0, .null) := by decide +kernel
theorem i_128_43 : aIns 128 43 = some (.bipush (-3), 2, 0, 0, .int (-3)) := by decide +kernel
theorem i_128_45 : aIns 128 45 = some (.ireturn, 1, 0, 0, .null) := by decide +kernel
theorem i_128_46 : aIns 128 46 = some (.aload_n 0, 1, 0, 0, .null) := by decide +kernel
theorem i_128_47 : aIns 128 47 = some (.getfield 53, 3, 11, 5, .null) := by decide +kernel
theorem i_128_50 : aIns 128 50 = some (.iload_n 1, 1, 0, 0, .null) := by decide +kernel
theorem i_128_51 : aIns 128 51 = some (.iload_n 2, 1, 0, 0, .null) := by decide +kernel
theorem i_128_52 : aIns 128 52 = some (.invokevirtual 314, 3, 30, 2, .int 2) := by decide +kernel
theorem i_128_55 : aIns 128 55 = some (.iload_n 3, 1, 0, 0, .null) := by decide +kernel
theorem i_128_56 : aIns 128 56 = some (.ifCond .ne 11, 3, 0, 0, .null) := by decide +kernel
theorem i_128_59 : aIns 128 59 = some (.aload_n 0, 1, 0, 0, .null) := by decide +kernel
theorem i_128_60 : aIns 128 60 = some (.getfield 53, 3, 11, 5, .null) := by decide +kernel
theorem i_128_63 : aIns 128 63 = some (.getfield 318, 3, 2, 15, .null) := by decide +kernel
theorem i_128_66 : aIns 128 66 = some (.ireturn, 1, 0, 0, .null) := by decide +kernel
theorem i_128_67 : aIns 128 67 = some (.iload_n 3, 1, 0, 0, .null) := by decide +kernel
theorem i_128_68 : aIns 128 68 = some (.iconst 4, 1, 0, 0, .int (4)) := by decide +kernel
theorem i_128_69 : aIns 128 69 = some (.if_icmp .le 13, 3, 0, 0, .null) := by decide +kernel
theorem i_128_72 : aIns 128 72 = some (.aload_n 0, 1, 0, 0, .null) := by decide +kernel
theorem i_128_73 : aIns 128 73 = some (.getfield 53, 3, 11, 5, .null) := by decide +kernel
theorem i_128_76 : aIns 128 76 = some (.getfield 321, 3, 2, 16, .null) := by decide +kernel
theorem i_128_79 : aIns 128 79 = some (.goto 14, 3, 0, 0, .null) := by decide +kernel
theorem i_128_82 : aIns 128 82 = some (.aload_n 0, 1, 0, 0, .null) := by decide +kernel
theorem i_128_83 : aIns 128 83 = some (.getfield 53, 3, 11, 5, .null) := by decide +kernel
theorem i_128_86 : aIns 128 86 = some (.getfield 261, 3, 2, 2, .null) := by decide +kernel
theorem i_128_89 : aIns 128 89 = some (.iload_n 3, 1, 0, 0, .null) := by decide +kernel
theorem i_128_90 : aIns 128 90 = some (.invokevirtual 265, 3, 4, 1, .int 0) := by decide +kernel
theorem i_128_93 : aIns 128 93 = some (.ireturn, 1, 0, 0, .null) := by decide +kernel
theorem i_129_0 : aIns 129 0 = some (.iload_n 1, 1, 0, 0, .null) := by decide +kernel
theorem i_129_1 : aIns 129 1 = some (.iconst (-1), 1, 0, 0, .int (-1)) := by decide +kernel
theorem i_129_2 : aIns 129 2 = some (.if_icmp .ne 13, 3, 0, 0, .null) := by decide +kernel
theorem i_129_5 : aIns 129 5 = some (.aload_n 0, 1, 0, 0, .null) := by decide +kernel
theorem i_129_6 : aIns 129 6 = some (.getfield 35, 3, 11, 3, .null) := by decide +kernel
theorem i_129_9 : aIns 129 9 = some (.iconst 0, 1, 0, 0, .int (0)) := by decide +kernel
theorem i_129_10 : aIns 129 10 = some (.putfield 324, 3, 10, 8, .null) := by decide +kernel
theorem i_129_13 : aIns 129 13 = some (.iconst 0, 1, 0, 0, .int (0)) := by decide +kernel
theorem i_129_14 : aIns 129 14 = some (.ireturn, 1, 0, 0, .null) := by decide +kernel
theorem i_129_15 : aIns 129 15 = some (.aload_n 0, 1, 0, 0, .null) := by decide +kernel
theorem i_129_16 : aIns 129 16 = some (.getfield 35, 3, 11, 3, .null) := by decide +kernel
theorem i_129_19 : aIns 129 19 = some (.getfield 110, 3, 10, 0, .null) := by decide +kernel
theorem i_129_22 : aIns 129 22 = some (.iload_n 1, 1, 0, 0, .null) := by decide +kernel
theorem i_129_23 : aIns 129 23 = some (.invokevirtual 114, 3, 55, 1, .int 5) := by decide +kernel
theorem i_129_26 : aIns 129 26 = some (.ifCond .eq 47, 3, 0, 0, .null) := by decide +kernel
theorem i_129_29 : aIns 129 29 = some (.iload_n 2, 1, 0, 0, .null) := by decide +kernel
theorem i_129_30 : aIns 129 30 = some (.iconst 0, 1, 0, 0, .int (0)) := by decide +kernel
theorem i_129_31 : aIns 129 31 = some (.bipush 99, 2, 0, 0, .int (99)) := by decide +kernel
theorem i_129_33 : aIns 129 33 = some (.invokestatic 180, 3, 138, 3, .null) := by decide +kernel
theorem i_129_36 : aIns 129 36 = some (.ifCond .eq 37, 3, 0, 0, .null) := by decide +kernel
theorem i_129_39 : aIns 129 39 = some (.iload_n 3, 1, 0, 0, .null) := by decide +kernel
theorem i_129_40 : aIns 129 40 = some (.iconst 0, 1, 0, 0, .int (0)) := by decide +kernel
theorem i_129_41 : aIns 129 41 = some (.bipush 99, 2, 0, 0, .int (99)) := by decide +kernel
theorem i_129_43 : aIns 129 43 = some (.invokestatic 180, 3, 138, 3, .null) := by decide +kernel
theorem i_129_46 : aIns 129 46 = some (.ifCond .eq 27, 3, 0, 0, .null) := by decide +kernel
theorem i_129_49 : aIns 129 49 = some (.iload 4, 2, 0, 0, .null) := by decide +kernel
theorem i_129_51 : aIns 129 51 = some (.iconst 1, 1, 0, 0, .int (1)) := by decide +kernel
theorem i_129_52 : aIns 129 52 = some (.sipush 9999, 3, 0, 0, .int (9999)) := by decide +kernel
theorem i_129_55 : aIns 129 55 = some (.invokestatic 180, 3, 138, 3, .null) := by decide +kernel
theorem i_129_58 : aIns 129 58 = some (.ifCond .eq 15, 3, 0, 0, .null) := by decide +kernel
theorem i_129_61 : aIns 129 61 = some (.aload_n 0, 1, 0, 0, .null) := by decide +kernel
theorem i_129_62 : aIns 129 62 = some (.getfield 35, 3, 11, 3, .null) := by decide +kernel
theorem i_129_65 : aIns 129 65 = some (.getfield 324, 3, 10, 8, .null) := by decide +kernel
theorem i_129_68 : aIns 129 68 = some (.bipush 10, 2, 0, 0, .int (10)) := by decide +kernel
theorem i_129_70 : aIns 129 70 = some (.if_icmp .lt 6, 3, 0, 0, .null) := by decide +kernel
theorem i_129_73 : aIns 129 73 = some (.bipush (-2), 2, 0, 0, .int (-2)) := by decide +kernel
theorem i_129_75 : aIns 129 75 = some (.ireturn, 1, 0, 0, .null) := by decide +kernel
theorem i_129_76 : aIns 129 76 = some (.aload_n 0, 1, 0, 0, .null) := by decide +kernel
theorem i_129_77 : aIns 129 77 = some (.getfield 35, 3, 11, 3, .null) := by decide +kernel
theorem i_129_80 : aIns 129 80 = some (.iload_n 1, 1, 0, 0, .null) := by decide +kernel
theorem i_129_81 : aIns 129 81 = some (.iload_n 2, 1, 0, 0, .null) := by decide +kernel
theorem i_129_82 : aIns 129 82 = some (.iload_n 3, 1, 0, 0, .null) := by decide +kernel
theorem i_129_83 : aIns 129 83 = some (.iload 4, 2, 0, 0, .null) := by decide +kernel
theorem i_129_85 : aIns 129 85 = some (.invokevirtual 327, 3, 100, 4, .int 10) := by decide +kernel
theorem i_129_88 : aIns 129 88 = some (.aload_n 0, 1, 0, 0, .null) := by decide +kernel
theorem i_129_89 : aIns 129 89 = some (.getfield 35, 3, 11, 3, .null) := by decide +kernel
theorem i_129_92 : aIns 129 92 = some (.getfield 324, 3, 10, 8, .null) := by decide +kernel
theorem i_129_95 : aIns 129 95 = some (.ireturn, 1, 0, 0, .null) := by decide +kernel
theorem i_130_0 : aIns 130 0 = some (.aload_n 0, 1, 0, 0, .null) := by decide +kernel
theorem i_130_1 : aIns 130 1 = some (.getfield 35, 3, 11, 3, .null) := by decide +kernel
theorem i_130_4 : aIns 130 4 = some (.getfield 110, 3, 10, 0, .null) := by decide +kernel
theorem i_130_7 : aIns 130 7 = some (.getfield 188, 3, 5, 0, .null) := by decide +kernel
theorem i_130_10 : aIns 130 10 = some (.ifCond .eq 12, 3, 0, 0, .null) := by decide +kernel
theorem i_130_13 : aIns 130 13 = some (.iload_n 1, 1, 0, 0, .null) := by decide +kernel
theorem i_130_14 : aIns 130 14 = some (.ifCond .lt 8, 3, 0, 0, .null) := by decide +kernel
theorem i_130_17 : aIns 130 17 = some (.iload_n 1, 1, 0, 0, .null) := by decide +kernel
theorem i_130_18 : aIns 130 18 = some (.iconst 1, 1, 0, 0, .int (1)) := by decide +kernel
theorem i_130_19 : aIns 130 19 = some (.if_icmp .le 6, 3, 0, 0, .null) := by decide +kernel
theorem i_130_22 : aIns 130 22 = some (.bipush (-3), 2, 0, 0, .int (-3)) := by decide +kernel
theorem i_130_24 : aIns 130 24 = some (.ireturn, 1, 0, 0, .null) := by decide +kernel
theorem i_130_25 : aIns 130 25 = some (.aload_n 0, 1, 0, 0, .null) := by decide +kernel
theorem i_130_26 : aIns 130 26 = some (.getfield 53, 3, 11, 5, .null) := by decide +kernel
theorem i_130_29 : aIns 130 29 = some (.invokevirtual 331, 3, 32, 0, .int 2) := by decide +kernel
theorem i_130_32 : aIns 130 32 = some (.iload_n 1, 1, 0, 0, .null) := by decide +kernel
theorem i_130_33 : aIns 130 33 = some (.ifCond .ne 11, 3, 0, 0, .null) := by decide +kernel
theorem i_130_36 : aIns 130 36 = some (.aload_n 0, 1, 0, 0, .null) := by decide +kernel
theorem i_130_37 : aIns 130 37 = some (.getfield 53, 3, 11, 5, .null) := by decide +kernel
theorem i_130_40 : aIns 130 40 = some (.getfield 334, 3, 2, 17, .null) := by decide +kernel
theorem i_130_43 : aIns 130 43 = some (.ireturn, 1, 0, 0, .null) := by decide +kernel
theorem i_130_44 : aIns 130 44 = some (.aload_n 0, 1, 0, 0, .null) := by decide +kernel
theorem i_130_45 : aIns 130 45 = some (.getfield 53, 3, 11, 5, .null) := by decide +kernel
theorem i_130_48 : aIns 130 48 = some (.getfield 334, 3, 2, 17, .null) := by decide +kernel
theorem i_130_51 : aIns 130 51 = some (.ifCond .le 15, 3, 0, 0, .null) := by decide +kernel
theorem i_130_54 : aIns 130 54 = some (.aload_n 0, 1, 0, 0, .null) := by decide +kernel
theorem i_130_55 : aIns 130 55 = some (.getfield 53, 3, 11, 5, .null) := by decide +kernel
theorem i_130_58 : aIns 130 58 = some (.getfield 337, 3, 2, 8, .null) := by decide +kernel
theorem i_130_61 : aIns 130 61 = some (.iconst 0, 1, 0, 0, .int (0)) := by decide +kernel
theorem i_130_62 : aIns 130 62 = some (.iaload, 1, 0, 0, .null) := by decide +kernel
theorem i_130_63 : aIns 130 63 = some (.goto 5, 3, 0, 0, .null) := by decide +kernel
theorem i_130_66 : aIns 130 66 = some (.bipush (-2), 2, 0, 0, .int (-2)) := by decide +kernel
theorem i_130_68 : aIns 130 68 = some (.ireturn, 1, 0, 0, .null) := by decide +kernel
theorem i_131_0 : aIns 131 0 = some (.aload_n 0, 1, 0, 0, .null) := by decide +kernel
theorem i_131_1 : aIns 131 1 = some (.getfield 35, 3, 11, 3, .null) := by decide +kernel
theorem i_131_4 : aIns 131 4 = some (.getfield 110, 3, 10, 0, .null) := by decide +kernel
theorem i_131_7 : aIns 131 7 = some (.iload_n 1, 1, 0, 0, .null) := by decide +kernel
theorem i_131_8 : aIns 131 8 = some (.invokevirtual 114, 3, 55, 1, .int 5) := by decide +kernel
theorem i_131_11 : aIns 131 11 = some (.ifCond .eq 22, 3, 0, 0, .null) := by decide +kernel
theorem i_131_14 : aIns 131 14 = some (.iload_n 2, 1, 0, 0, .null) := by decide +kernel
theorem i_131_15 : aIns 131 15 = some (.iconst 0, 1, 0, 0, .int (0)) := by decide +kernel
theorem i_131_16 : aIns 131 16 = some (.bipush 99, 2, 0, 0, .int (99)) := by decide +kernel
theorem i_131_18 : aIns 131 18 = some (.invokestatic 180, 3, 138, 3, .null) := by decide +kernel
theorem i_131_21 : aIns 131 21 = some (.ifCond .eq 12, 3, 0, 0, .null) := by decide +kernel
theorem i_131_24 : aIns 131 24 = some (.iload_n 3, 1, 0, 0, .null) := by decide +kernel
theorem i_131_25 : aIns 131 25 = some (.ifCond .lt 8, 3, 0, 0, .null) := by decide +kernel
theorem i_131_28 : aIns 131 28 = some (.iload_n 3, 1, 0, 0, .null) := by decide +kernel
theorem i_131_29 : aIns 131 29 = some (.iconst 1, 1, 0, 0, .int (1)) := by decide +kernel
theorem i_131_30 : aIns 131 30 = some (.if_icmp .le 5, 3, 0, 0, .null) := by decide +kernel
theorem i_131_33 : aIns 131 33 = some (.iconst (-1), 1, 0, 0, .int (-1)) := by decide +kernel
theorem i_131_34 : aIns 131 34 = some (.ireturn, 1, 0, 0, .null) := by decide +kernel
theorem i_131_35 : aIns 131 35 = some (.aload_n 0, 1, 0, 0, .null) := by decide +kernel
theorem i_131_36 : aIns 131 36 = some (.getfield 53, 3, 11, 5, .null) := by decide +kernel
theorem i_131_39 : aIns 131 39 = some (.invokevirtual 331, 3, 32, 0, .int 2) := by decide +kernel
theorem i_131_42 : aIns 131 42 = some (.aload_n 0, 1, 0, 0, .null) := by decide +kernel
theorem i_131_43 : aIns 131 43 = some (.getfield 53, 3, 11, 5, .null) := by decide +kernel
theorem i_131_46 : aIns 131 46 = some (.getfield 334, 3, 2, 17, .null) := by decide +kernel
theorem i_131_49 : aIns 131 49 = some (.iconst 1, 1, 0, 0, .int (1)) := by decide +kernel
theorem i_131_50 : aIns 131 50 = some (.if_icmp .ge 6, 3, 0, 0, .null) := by decide +kernel
theorem i_131_53 : aIns 131 53 = some (.bipush (-2), 2, 0, 0, .int (-2)) := by decide +kernel
theorem i_131_55 : aIns 131 55 = some (.ireturn, 1, 0, 0, .null) := by decide +kernel
theorem i_131_56 : aIns 131 56 = some (.aload_n 0, 1, 0, 0, .null) := by decide +kernel
theorem i_131_57 : aIns 131 57 = some (.getfield 53, 3, 11, 5, .null) := by decide +kernel
theorem i_131_60 : aIns 131 60 = some (.iload_n 1, 1, 0, 0, .null) := by decide +kernel
theorem i_131_61 : aIns 131 61 = some (.iload_n 2, 1, 0, 0, .null) := by decide +kernel
theorem i_131_62 : aIns 131 62 = some (.invokevirtual 340, 3, 34, 2, .int 2) := by decide +kernel
theorem i_131_65 : aIns 131 65 = some (.aload_n 0, 1, 0, 0, .null) := by decide +kernel
theorem i_131_66 : aIns 131 66 = some (.getfield 53, 3, 11, 5, .null) := by decide +kernel
theorem i_131_69 : aIns 131 69 = some (.getfield 261, 3, 2, 2, .null) := by decide +kernel
theorem i_131_72 : aIns 131 72 = some (.iconst 1, 1, 0, 0, .int (1)) := by decide +kernel
theorem i_131_73 : aIns 131 73 = some (.iload_n 3, 1, 0, 0, .null) := by decide +kernel
theorem i_131_74 : aIns 131 74 = some (.isub, 1, 0, 0, .null) := by decide +kernel
theorem i_131_75 : aIns 131 75 = some (.invokevirtual 265, 3, 4, 1, .int 0) := by decide +kernel
theorem i_131_78 : aIns 131 78 = some (.ireturn, 1, 0, 0, .null) := by decide +kernel
theorem i_132_0 : aIns 132 0 = some (.aload_n 0, 1, 0, 0, .null) := by decide +kernel
theorem i_132_1 : aIns 132 1 = some (.getfield 35, 3, 11, 3, .null) := by decide +kernel
theorem i_132_4 : aIns 132 4 = some (.getfield 110, 3, 10, 0, .null) := by decide +kernel
theorem i_132_7 : aIns 132 7 = some (.iload_n 1, 1, 0, 0, .null) := by decide +kernel
theorem i_132_8 : aIns 132 8 = some (.invokevirtual 114, 3, 55, 1, .int 5) := by decide +kernel
theorem i_132_11 : aIns 132 11 = some (.ifCond .eq 12, 3, 0, 0, .null) := by decide +kernel
theorem i_132_14 : aIns 132 14 = some (.iload_n 2, 1, 0, 0, .null) := by decide +kernel
theorem i_132_15 : aIns 132 15 = some (.ifCond .lt 8, 3, 0, 0, .null) := by decide +kernel
theorem i_132_18 : aIns 132 18 = some (.iload_n 2, 1, 0, 0, .null) := by decide +kernel
theorem i_132_19 : aIns 132 19 = some (.iconst 1, 1, 0, 0, .int (1)) := by decide +kernel
theorem i_132_20 : aIns 132 20 = some (.if_icmp .le 5, 3, 0, 0, .null) := by decide +kernel
theorem i_132_23 : aIns 132 23 = some (.iconst (-1), 1, 0, 0, .int (-1)) := by decide +kernel
theorem i_132_24 : aIns 132 24 = some (.ireturn, 1, 0, 0, .null) := by decide +kernel
theorem i_132_25 : aIns 132 25 = some (.aload_n 0, 1, 0, 0, .null) := by decide +kernel
theorem i_132_26 : aIns 132 26 = some (.getfield 53, 3, 11, 5, .null) := by decide +kernel
theorem i_132_29 : aIns 132 29 = some (.iload_n 1, 1, 0, 0, .null) := by decide +kernel
theorem i_132_30 : aIns 132 30 = some (.invokevirtual 343, 3, 36, 1, .int 2) := by decide +kernel
theorem i_132_33 : aIns 132 33 = some (.aload_n 0, 1, 0, 0, .null) := by decide +kernel
theorem i_132_34 : aIns 132 34 = some (.getfield 53, 3, 11, 5, .null) := by decide +kernel
theorem i_132_37 : aIns 132 37 = some (.getfield 261, 3, 2, 2, .null) := by decide +kernel
theorem i_132_40 : aIns 132 40 = some (.iconst 1, 1, 0, 0, .int (1)) := by decide +kernel
theorem i_132_41 : aIns 132 41 = some (.iload_n 2, 1, 0, 0, .null) := by decide +kernel
theorem i_132_42 : aIns 132 42 = some (.isub, 1, 0, 0, .null) := by decide +kernel
theorem i_132_43 : aIns 132 43 = some (.invokevirtual 265, 3, 4, 1, .int 0) := by decide +kernel
theorem i_132_46 : aIns 132 46 = some (.ireturn, 1, 0, 0, .null) := by decide +kernel
theorem i_133_0 : aIns 133 0 = some (.iload_n 1, 1, 0, 0, .null) := by decide +kernel
theorem i_133_1 : aIns 133 1 = some (.ifCond .ge 5, 3, 0, 0, .null) := by decide +kernel
theorem i_133_4 : aIns 133 4 = some (.iconst (-1), 1, 0, 0, .int (-1)) := by decide +kernel
theorem i_133_5 : aIns 133 5 = some (.ireturn, 1, 0, 0, .null) := by decide +kernel
theorem i_133_6 : aIns 133 6 = some (.aload_n 0, 1, 0, 0, .null) := by decide +kernel
theorem i_133_7 : aIns 133 7 = some (.getfield 35, 3, 11, 3, .null) := by decide +kernel
theorem i_133_10 : aIns 133 10 = some (.getfield 346, 3, 10, 3, .null) := by decide +kernel
theorem i_133_13 : aIns 133 13 = some (.istore_n 2, 1, 0, 0, .null) := by decide +kernel
theorem i_133_14 : aIns 133 14 = some (.aload_n 0, 1, 0, 0, .null) := by decide +kernel
theorem i_133_15 : aIns 133 15 = some (.getfield 35, 3, 11, 3, .null) := by decide +kernel
theorem i_133_18 : aIns 133 18 = some (.iload_n 1, 1, 0, 0, .null) := by decide +kernel
theorem i_133_19 : aIns 133 19 = some (.putfield 346, 3, 10, 3, .null) := by decide +kernel
theorem i_133_22 : aIns 133 22 = some (.iload_n 2, 1, 0, 0, .null) := by decide +kernel
theorem i_133_23 : aIns 133 23 = some (.ireturn, 1, 0, 0, .null) := by decide +kernel
theorem i_134_0 : aIns 134 0 = some (.aload_n 0, 1, 0, 0, .null) := by decide +kernel
theorem i_134_1 : aIns 134 1 = some (.getfield 35, 3, 11, 3, .null) := by decide +kernel
theorem i_134_4 : aIns 134 4 = some (.getfield 110, 3, 10, 0, .null) := by decide +kernel
theorem i_134_7 : aIns 134 7 = some (.getfield 188, 3, 5, 0, .null) := by decide +kernel
theorem i_134_10 : aIns 134 10 = some (.ifCond .eq 32, 3, 0, 0, .null) := by decide +kernel
theorem i_134_13 : aIns 134 13 = some (.iload_n 1, 1, 0, 0, .null) := by decide +kernel
theorem i_134_14 : aIns 134 14 = some (.iconst 1, 1, 0, 0, .int (1)) := by decide +kernel
theorem i_134_15 : aIns 134 15 = some (.bipush 10, 2, 0, 0, .int (10)) := by decide +kernel
theorem i_134_17 : aIns 134 17 = some (.invokestatic 180, 3, 138, 3, .null) := by decide +kernel
theorem i_134_20 : aIns 134 20 = some (.ifCond .eq 22, 3, 0, 0, .null) := by decide +kernel
theorem i_134_23 : aIns 134 23 = some (.iload_n 2, 1, 0, 0, .null) := by decide +kernel
theorem i_134_24 : aIns 134 24 = some (.iconst 1, 1, 0, 0, .int (1)) := by decide +kernel
theorem i_134_25 : aIns 134 25 = some (.bipush 60, 2, 0, 0, .int (60)) := by decide +kernel
theorem i_134_27 : aIns 134 27 = some (.invokestatic 180, 3, 138, 3, .null) := by decide +kernel
theorem i_134_30 : aIns 134 30 = some (.ifCond .eq 12, 3, 0, 0, .null) := by decide +kernel
theorem i_134_33 : aIns 134 33 = some (.iload_n 3, 1, 0, 0, .null) := by decide +kernel
theorem i_134_34 : aIns 134 34 = some (.ifCond .lt 8, 3, 0, 0, .null) := by decide +kernel
theorem i_134_37 : aIns 134 37 = some (.iload_n 3, 1, 0, 0, .null) := by decide +kernel
theorem i_134_38 : aIns 134 38 = some (.iconst 1, 1, 0, 0, .int (1)) := by decide +kernel
theorem i_134_39 : aIns 134 39 = some (.if_icmp .le 5, 3, 0, 0, .null) := by decide +kernel
theorem i_134_42 : aIns 134 42 = some (.iconst (-1), 1, 0, 0, .int (-1)) := by decide +kernel
theorem i_134_43 : aIns 134 43 = some (.ireturn, 1, 0, 0, .null) := by decide +kernel
theorem i_134_44 : aIns 134 44 = some (.aload_n 0, 1, 0, 0, .null) := by decide +kernel
theorem i_134_45 : aIns 134 45 = some (.getfield 53, 3, 11, 5, .null) := by decide +kernel
theorem i_134_48 : aIns 134 48 = some (.iload_n 1, 1, 0, 0, .null) := by decide +kernel
theorem i_134_49 : aIns 134 49 = some (.iload_n 2, 1, 0, 0, .null) := by decide +kernel
theorem i_134_50 : aIns 134 50 = some (.invokevirtual 349, 3, 37, 2, .int 2) := by decide +kernel
theorem i_134_53 : aIns 134 53 = some (.iload_n 3, 1, 0, 0, .null) := by decide +kernel
theorem i_134_54 : aIns 134 54 = some (.ifCond .ne 13, 3, 0, 0, .null) := by decide +kernel
theorem i_134_57 : aIns 134 57 = some (.aload_n 0, 1, 0, 0, .null) := by decide +kernel
theorem i_134_58 : aIns 134 58 = some (.getfield 53, 3, 11, 5, .null) := by decide +kernel
theorem i_134_61 : aIns 134 61 = some (.getfield 352, 3, 2, 18, .null) := by decide +kernel
theorem i_134_64 : aIns 134 64 = some (.goto 10, 3, 0, 0, .null) := by decide +kernel
theorem i_134_67 : aIns 134 67 = some (.aload_n 0, 1, 0, 0, .null) := by decide +kernel
theorem i_134_68 : aIns 134 68 = some (.getfield 53, 3, 11, 5, .null) := by decide +kernel
theorem i_134_71 : aIns 134 71 = some (.getfield 355, 3, 2, 19, .null) := by decide +kernel
theorem i_134_74 : aIns 134 74 = some (.ireturn, 1, 0, 0, .null) := by decide +kernel
theorem i_135_0 : aIns 135 0 = some (.iload_n 1, 1, 0, 0, .null) := by decide +kernel
theorem i_135_1 : aIns 135 1 = some (.tableswitch 222 0 14 #[75, 86, 97, 108, 119, 130, 138, 146, 157, 168, 179, 190, 198, 206, 214], 75, 0, 0, .null) := by decide +kernel
theorem i_135_76 : aIns 135 76 = some (.aload_n 0, 1, 0, 0, .null) := by decide +kernel
theorem i_135_77 : aIns 135 77 = some (.getfield 35, 3, 11, 3, .null) := by decide +kernel
theorem i_135_80 : aIns 135 80 = some (.getfield 110, 3, 10, 0, .null) := by decide +kernel
theorem i_135_83 : aIns 135 83 = some (.getfield 358, 3, 5, 1, .null) := by decide +kernel
theorem i_135_86 : aIns 135 86 = some (.ireturn, 1, 0, 0, .null) := by decide +kernel
theorem i_135_87 : aIns 135 87 = some (.aload_n 0, 1, 0, 0, .null) := by decide +kernel
theorem i_135_88 : aIns 135 88 = some (.getfield 35, 3, 11, 3, .null) := by decide +kernel
theorem i_135_91 : aIns 135 91 = some (.getfield 110, 3, 10, 0, .null) := by decide +kernel
theorem i_135_94 : aIns 135 94 = some (.getfield 274, 3, 5, 2, .null) := by decide +kernel
theorem i_135_97 : aIns 135 97 = some (.ireturn, 1, 0, 0, .null) := by decide +kernel
theorem i_135_98 : aIns 135 98 = some (.aload_n 0, 1, 0, 0, .null) := by decide +kernel
theorem i_135_99 : aIns 135 99 = some (.getfield 35, 3, 11, 3, .null) := by decide +kernel
theorem i_135_102 : aIns 135 102 = some (.getfield 110, 3, 10, 0, .null) := by decide +kernel
theorem i_135_105 : aIns 135 105 = some (.getfield 94, 3, 5, 4, .null) := by decide +kernel
theorem i_135_108 : aIns 135 108 = some (.ireturn, 1, 0, 0, .null) := by decide +kernel
theorem i_135_109 : aIns 135 109 = some (.aload_n 0, 1, 0, 0, .null) := by decide +kernel
theorem i_135_110 : aIns 135 110 = some (.getfield 35, 3, 11, 3, .null) := by decide +kernel
theorem i_135_113 : aIns 135 113 = some (.getfield 110, 3, 10, 0, .null) := by decide +kernel
theorem i_135_116 : aIns 135 116 = some (.getfield 171, 3, 5, 8, .null) := by decide +kernel
theorem i_135_119 : aIns 135 119 = some (.ireturn, 1, 0, 0, .null) := by decide +kernel
theorem i_135_120 : aIns 135 120 = some (.aload_n 0, 1, 0, 0, .null) := by decide +kernel
theorem i_135_121 : aIns 135 121 = some (.getfield 35, 3, 11, 3, .null) := by decide +kernel
theorem i_135_124 : aIns 135 124 = some (.getfield 110, 3, 10, 0, .null) := by decide +kernel
theorem i_135_127 : aIns 135 127 = some (.getfield 359, 3, 5, 15, .null) := by decide +kernel
theorem i_135_130 : aIns 135 130 = some (.ireturn, 1, 0, 0, .null) := by decide +kernel
theorem i_135_131 : aIns 135 131 = some (.aload_n 0, 1, 0, 0, .null) := by decide +kernel
theorem i_135_132 : aIns 135 132 = some (.getfield 44, 3, 11, 4, .null) := by decide +kernel
theorem i_135_135 : aIns 135 135 = some (.getfield 97, 3, 9, 2, .null) := by decide +kernel
theorem i_135_138 : aIns 135 138 = some (.ireturn, 1, 0, 0, .null) := by decide +kernel
theorem i_135_139 : aIns 135 139 = some (.aload_n 0, 1, 0, 0, .null) := by decide +kernel
theorem i_135_140 : aIns 135 140 = some (.getfield 35, 3, 11, 3, .null) := by decide +kernel
theorem i_135_143 : aIns 135 143 = some (.getfield 107, 3, 10, 2, .null) := by decide +kernel
theorem i_135_146 : aIns 135 146 = some (.ireturn, 1, 0, 0, .null) := by decide +kernel
theorem i_135_147 : aIns 135 147 = some (.aload_n 0, 1, 0, 0, .null) := by decide +kernel
theorem i_135_148 : aIns 135 148 = some (.getfield 35, 3, 11, 3, .null) := by decide +kernel
theorem i_135_151 : aIns 135 151 = some (.getfield 118, 3, 10, 1, .null) := by decide +kernel
theorem i_135_154 : aIns 135 154 = some (.getfield 246, 3, 7, 13, .null) := by decide +kernel
theorem i_135_157 : aIns 135 157 = some (.ireturn, 1, 0, 0, .null) := by decide +kernel
theorem i_135_158 : aIns 135 158 = some (.aload_n 0, 1, 0, 0, .null) := by decide +kernel
theorem i_135_159 : aIns 135 159 = some (.getfield 35, 3, 11, 3, .null) := by decide +kernel
theorem i_135_162 : aIns 135 162 = some (.getfield 118, 3, 10, 1, .null) := by decide +kernel
theorem i_135_165 : aIns 135 165 = some (.getfield 243, 3, 7, 11, .null) := by decide +kernel
theorem i_135_168 : aIns 135 168 = some (.ireturn, 1, 0, 0, .null) := by decide +kernel
theorem i_135_169 : aIns 135 169 = some (.aload_n 0, 1, 0, 0, .null) := by decide +kernel
theorem i_135_170 : aIns 135 170 = some (.getfield 35, 3, 11, 3, .null) := by decide +kernel
theorem i_135_173 : aIns 135 173 = some (.getfield 118, 3, 10, 1, .null) := by decide +kernel
theorem i_135_176 : aIns 135 176 = some (.invokevirtual 218, 3, 73, 0, .int 7) := by decide +kernel
theorem i_135_179 : aIns 135 179 = some (.ireturn, 1, 0, 0, .null) := by decide +kernel
theorem i_135_180 : aIns 135 180 = some (.aload_n 0, 1, 0, 0, .null) := by decide +kernel
theorem i_135_181 : aIns 135 181 = some (.getfield 35, 3, 11, 3, .null) := by decide +kernel
theorem i_135_184 : aIns 135 184 = some (.getfield 118, 3, 10, 1, .null) := by decide +kernel
theorem i_135_187 : aIns 135 187 = some (.getfield 208, 3, 7, 8, .null) := by decide +kernel
theorem i_135_190 : aIns 135 190 = some (.ireturn, 1, 0, 0, .null) := by decide +kernel
theorem i_135_191 : aIns 135 191 = some (.aload_n 0, 1, 0, 0, .null) := by decide +kernel
theorem i_135_192 : aIns 135 192 = some (.getfield 35, 3, 11, 3, .null) := by decide +kernel
theorem i_135_195 : aIns 135 195 = some (.getfield 324, 3, 10, 8, .null) := by decide +kernel
theorem i_135_198 : aIns 135 198 = some (.ireturn, 1, 0, 0, .null) := by decide +kernel
theorem i_135_199 : aIns 135 199 = some (.aload_n 0, 1, 0, 0, .null) := by decide +kernel
theorem i_135_200 : aIns 135 200 = some (.getfield 60, 3, 11, 6, .null) := by decide +kernel
theorem i_135_203 : aIns 135 203 = some (.getfield 252, 3, 1, 2, .null) := by decide +kernel
theorem i_135_206 : aIns 135 206 = some (.ireturn, 1, 0, 0, .null) := by decide +kernel
theorem i_135_207 : aIns 135 207 = some (.aload_n 0, 1, 0, 0, .null) := by decide +kernel
theorem i_135_208 : aIns 135 208 = some (.getfield 35, 3, 11, 3, .null) := by decide +kernel
theorem i_135_211 : aIns 135 211 = some (.getfield 346, 3, 10, 3, .null) := by decide +kernel
theorem i_135_214 : aIns 135 214 = some (.ireturn, 1, 0, 0, .null) := by decide +kernel
theorem i_135_215 : aIns 135 215 = some (.aload_n 0, 1, 0, 0, .null) := by decide +kernel
theorem i_135_216 : aIns 135 216 = some (.getfield 10, 3, 11, 0, .null) := by decide +kernel
theorem i_135_219 : aIns 135 219 = some (.getfield 72, 3, 8, 1, .null) := by decide +kernel
theorem i_135_222 : aIns 135 222 = some (.ireturn, 1, 0, 0, .null) := by decide +kernel
theorem i_135_223 : aIns 135 223 = some (.iconst (-1), 1, 0, 0, .int (-1)) := by decide +kernel
theorem i_135_224 : aIns 135 224 = some (.ireturn, 1, 0, 0, .null) := by decide +kernel
theorem i_136_0 : aIns 136 0 = some (.iload_n 1, 1, 0, 0, .null) := by decide +kernel
theorem i_136_1 : aIns 136 1 = some (.ifCond .lt 8, 3, 0, 0, .null) := by decide +kernel
theorem i_136_4 : aIns 136 4 = some (.iload_n 1, 1, 0, 0, .null) := by decide +kernel
theorem i_136_5 : aIns 136 5 = some (.iconst 4, 1, 0, 0, .int (4)) := by decide +kernel
theorem i_136_6 : aIns 136 6 = some (.if_icmp .lt 5, 3, 0, 0, .null) := by decide +kernel
theorem i_136_9 : aIns 136 9 = some (.iconst (-1), 1, 0, 0, .int (-1)) := by decide +kernel
theorem i_136_10 : aIns 136 10 = some (.ireturn, 1, 0, 0, .null) := by decide +kernel
theorem i_136_11 : aIns 136 11 = some (.aload_n 0, 1, 0, 0, .null) := by decide +kernel
theorem i_136_12 : aIns 136 12 = some (.getfield 64, 3, 11, 7, .null) := by decide +kernel
theorem i_136_15 : aIns 136 15 = some (.iload_n 1, 1, 0, 0, .null) := by decide +kernel
theorem i_136_16 : aIns 136 16 = some (.aaload, 1, 0, 0, .null) := by decide +kernel
theorem i_136_17 : aIns 136 17 = some (.aload_n 0, 1, 0, 0, .null) := by decide +kernel
theorem i_136_18 : aIns 136 18 = some (.getfield 35, 3, 11, 3, .null) := by decide +kernel
theorem i_136_21 : aIns 136 21 = some (.invokevirtual 362, 3, 99, 1, .int 10) := by decide +kernel
theorem i_136_24 : aIns 136 24 = some (.aload_n 0, 1, 0, 0, .null) := by decide +kernel
theorem i_136_25 : aIns 136 25 = some (.getfield 68, 3, 11, 8, .null) := by decide +kernel
theorem i_136_28 : aIns 136 28 = some (.iload_n 1, 1, 0, 0, .null) := by decide +kernel
theorem i_136_29 : aIns 136 29 = some (.iconst 1, 1, 0, 0, .int (1)) := by decide +kernel
theorem i_136_30 : aIns 136 30 = some (.bastore, 1, 0, 0, .null) := by decide +kernel
theorem i_136_31 : aIns 136 31 = some (.aload_n 0, 1, 0, 0, .null) := by decide +kernel
theorem i_136_32 : aIns 136 32 = some (.getfield 35, 3, 11, 3, .null) := by decide +kernel
theorem i_136_35 : aIns 136 35 = some (.getfield 118, 3, 10, 1, .null) := by decide +kernel
theorem i_136_38 : aIns 136 38 = some (.getfield 246, 3, 7, 13, .null) := by decide +kernel
theorem i_136_41 : aIns 136 41 = some (.ireturn, 1, 0, 0, .null) := by decide +kernel
theorem i_137_0 : aIns 137 0 = some (.iload_n 1, 1, 0, 0, .null) := by decide +kernel
theorem i_137_1 : aIns 137 1 = some (.ifCond .lt 17, 3, 0, 0, .null) := by decide +kernel
theorem i_137_4 : aIns 137 4 = some (.iload_n 1, 1, 0, 0, .null) := by decide +kernel
theorem i_137_5 : aIns 137 5 = some (.iconst 4, 1, 0, 0, .int (4)) := by decide +kernel
theorem i_137_6 : aIns 137 6 = some (.if_icmp .ge 12, 3, 0, 0, .null) := by decide +kernel
theorem i_137_9 : aIns 137 9 = some (.aload_n 0, 1, 0, 0, .null) := by decide +kernel
theorem i_137_10 : aIns 137 10 = some (.getfield 68, 3, 11, 8, .null) := by decide +kernel
theorem i_137_13 : aIns 137 13 = some (.iload_n 1, 1, 0, 0, .null) := by decide +kernel
theorem i_137_14 : aIns 137 14 = some (.baload, 1, 0, 0, .null) := by decide +kernel
theorem i_137_15 : aIns 137 15 = some (.ifCond .ne 5, 3, 0, 0, .null) := by decide +kernel
theorem i_137_18 : aIns 137 18 = some (.iconst (-1), 1, 0, 0, .int (-1)) := by decide +kernel
theorem i_137_19 : aIns 137 19 = some (.ireturn, 1, 0, 0, .null) := by decide +kernel
theorem i_137_20 : aIns 137 20 = some (.aload_n 0, 1, 0, 0, .null) := by decide +kernel
theorem i_137_21 : aIns 137 21 = some (.getfield 35, 3, 11, 3, .null) := by decide +kernel
theorem i_137_24 : aIns 137 24 = some (.aload_n 0, 1, 0, 0, .null) := by decide +kernel
theorem i_137_25 : aIns 137 25 = some (.getfield 64, 3, 11, 7, .null) := by decide +kernel
theorem i_137_28 : aIns 137 28 = some (.iload_n 1, 1, 0, 0, .null) := by decide +kernel
theorem i_137_29 : aIns 137 29 = some (.aaload, 1, 0, 0, .null) := by decide +kernel
theorem i_137_30 : aIns 137 30 = some (.invokevirtual 362, 3, 99, 1, .int 10) := by decide +kernel
theorem i_137_33 : aIns 137 33 = some (.aload_n 0, 1, 0, 0, .null) := by decide +kernel
theorem i_137_34 : aIns 137 34 = some (.getfield 60, 3, 11, 6, .null) := by decide +kernel
theorem i_137_37 : aIns 137 37 = some (.invokevirtual 91, 3, 10, 0, .int 1) := by decide +kernel
theorem i_137_40 : aIns 137 40 = some (.aload_n 0, 1, 0, 0, .null) := by decide +kernel
theorem i_137_41 : aIns 137 41 = some (.getfield 35, 3, 11, 3, .null) := by decide +kernel
theorem i_137_44 : aIns 137 44 = some (.getfield 118, 3, 10, 1, .null) := by decide +kernel
theorem i_137_47 : aIns 137 47 = some (.getfield 246, 3, 7, 13, .null) := by decide +kernel
theorem i_137_50 : aIns 137 50 = some (.ireturn, 1, 0, 0, .null) := by decide +kernel
theorem i_139_0 : aIns 139 0 = some (.aload_n 0, 1, 0, 0, .null) := by decide +kernel
theorem i_139_1 : aIns 139 1 = some (.invokespecial 1, 3, 1000, 0, .null) := by decide +kernel
theorem i_139_4 : aIns 139 4 = some (.aload_n 0, 1, 0, 0, .null) := by decide +kernel
theorem i_139_5 : aIns 139 5 = some (.sipush 400, 3, 0, 0, .int (400)) := by decide +kernel
theorem i_139_8 : aIns 139 8 = some (.newarray .byte, 2, 1, 0, .null) := by decide +kernel
theorem i_139_10 : aIns 139 10 = some (.putfield 7, 3, 12, 0, .null) := by decide +kernel
theorem i_139_13 : aIns 139 13 = some (.aload_n 0, 1, 0, 0, .null) := by decide +kernel
theorem i_139_14 : aIns 139 14 = some (.sipush 2400, 3, 0, 0, .int (2400)) := by decide +kernel
theorem i_139_17 : aIns 139 17 = some (.newarray .int, 2, 0, 0, .null) := by decide +kernel
theorem i_139_19 : aIns 139 19 = some (.putfield 13, 3, 12, 3, .null) := by decide +kernel
theorem i_139_22 : aIns 139 22 = some (.aload_n 0, 1, 0, 0, .null) := by decide +kernel
theorem i_139_23 : aIns 139 23 = some (.bipush 7, 2, 0, 0, .int (7)) := by decide +kernel
theorem i_139_25 : aIns 139 25 = some (.newarray .int, 2, 0, 0, .null) := by decide +kernel
theorem i_139_27 : aIns 139 27 = some (.putfield 17, 3, 12, 4, .null) := by decide +kernel
theorem i_139_30 : aIns 139 30 = some (.aload_n 0, 1, 0, 0, .null) := by decide +kernel
theorem i_139_31 : aIns 139 31 = some (.sipush 288, 3, 0, 0, .int (288)) := by decide +kernel
theorem i_139_34 : aIns 139 34 = some (.newarray .int, 2, 0, 0, .null) := by decide +kernel
theorem i_139_36 : aIns 139 36 = some (.putfield 20, 3, 12, 5, .null) := by decide +kernel
theorem i_139_39 : aIns 139 39 = some (.aload_n 0, 1, 0, 0, .null) := by decide +kernel
theorem i_139_40 : aIns 139 40 = some (.bipush 6, 2, 0, 0, .int (6)) := by decide +kernel
theorem i_139_42 : aIns 139 42 = some (.newarray .int, 2, 0, 0, .null) := by decide +kernel
theorem i_139_44 : aIns 139 44 = some (.putfield 23, 3, 12, 6, .null) := by decide +kernel
theorem i_139_47 : aIns 139 47 = some (.aload_n 0, 1, 0, 0, .null) := by decide +kernel
theorem i_139_48 : aIns 139 48 = some (.sipush 140, 3, 0, 0, .int (140)) := by decide +kernel
theorem i_139_51 : aIns 139 51 = some (.newarray .int, 2, 0, 0, .null) := by decide +kernel
theorem i_139_53 : aIns 139 53 = some (.putfield 26, 3, 12, 7, .null) := by decide +kernel
theorem i_139_56 : aIns 139 56 = some (.aload_n 0, 1, 0, 0, .null) := by decide +kernel
theorem i_139_57 : aIns 139 57 = some (.sipush 400, 3, 0, 0, .int (400)) := by decide +kernel
theorem i_139_60 : aIns 139 60 = some (.newarray .int, 2, 0, 0, .null) := by decide +kernel
theorem i_139_62 : aIns 139 62 = some (.putfield 29, 3, 12, 15, .null) := by decide +kernel
theorem i_139_65 : aIns 139 65 = some (.aload_n 0, 1, 0, 0, .null) := by decide +kernel
theorem i_139_66 : aIns 139 66 = some (.bipush 64, 2, 0, 0, .int (64)) := by decide +kernel
theorem i_139_68 : aIns 139 68 = some (.newarray .long, 2, 3, 0, .null) := by decide +kernel
theorem i_139_70 : aIns 139 70 = some (.putfield 32, 3, 12, 17, .null) := by decide +kernel
theorem i_139_73 : aIns 139 73 = some (.aload_n 0, 1, 0, 0, .null) := by decide +kernel
theorem i_139_74 : aIns 139 74 = some (.bipush 8, 2, 0, 0, .int (8)) := by decide +kernel
theorem i_139_76 : aIns 139 76 = some (.newarray .long, 2, 3, 0, .null) := by decide +kernel
theorem i_139_78 : aIns 139 78 = some (.putfield 36, 3, 12, 19, .null) := by decide +kernel
theorem i_139_81 : aIns 139 81 = some (.aload_n 0, 1, 0, 0, .null) := by decide +kernel
theorem i_139_82 : aIns 139 82 = some (.sipush 181, 3, 0, 0, .int (181)) := by decide +kernel
theorem i_139_85 : aIns 139 85 = some (.newarray .int, 2, 0, 0, .null) := by decide +kernel
theorem i_139_87 : aIns 139 87 = some (.putfield 39, 3, 12, 20, .null) := by decide +kernel
theorem i_139_90 : aIns 139 90 = some (.aload_n 0, 1, 0, 0, .null) := by decide +kernel
theorem i_139_91 : aIns 139 91 = some (.iconst (-1), 1, 0, 0, .int (-1)) := by decide +kernel
theorem i_139_92 : aIns 139 92 = some (.putfield 42, 3, 12, 21, .null) := by decide +kernel
theorem i_139_95 : aIns 139 95 = some (.aload_n 0, 1, 0, 0, .null) := by decide +kernel
theorem i_139_96 : aIns 139 96 = some (.iconst 5, 1, 0, 0, .int (5)) := by decide +kernel
theorem i_139_97 : aIns 139 97 = some (.newarray .int, 2, 0, 0, .null) := by decide +kernel
theorem i_139_99 : aIns 139 99 = some (.putfield 46, 3, 12, 23, .null) := by decide +kernel
theorem i_139_102 : aIns 139 102 = some (.aload_n 0, 1, 0, 0, .null) := by decide +kernel
theorem i_139_103 : aIns 139 103 = some (.sipush 1600, 3, 0, 0, .int (1600)) := by decide +kernel
theorem i_139_106 : aIns 139 106 = some (.newarray .int, 2, 0, 0, .null) := by decide +kernel
theorem i_139_108 : aIns 139 108 = some (.putfield 49, 3, 12, 26, .null) := by decide +kernel
theorem i_139_111 : aIns 139 111 = some (.aload_n 0, 1, 0, 0, .null) := by decide +kernel
theorem i_139_112 : aIns 139 112 = some (.bipush 8, 2, 0, 0, .int (8)) := by decide +kernel
theorem i_139_114 : aIns 139 114 = some (.newarray .int, 2, 0, 0, .null) := by decide +kernel
theorem i_139_116 : aIns 139 116 = some (.putfield 52, 3, 12, 28, .null) := by decide +kernel
theorem i_139_119 : aIns 139 119 = some (.aload_n 0, 1, 0, 0, .null) := by decide +kernel
theorem i_139_120 : aIns 139 120 = some (.iconst 4, 1, 0, 0, .int (4)) := by decide +kernel
theorem i_139_121 : aIns 139 121 = some (.newarray .int, 2, 0, 0, .null) := by decide +kernel
theorem i_139_123 : aIns 139 123 = some (.putfield 55, 3, 12, 31, .null) := by decide +kernel
theorem i_139_126 : aIns 139 126 = some (.aload_n 0, 1, 0, 0, .null) := by decide +kernel
theorem i_139_127 : aIns 139 127 = some (.bipush 6, 2, 0, 0, .int (6)) := by decide +kernel
theorem i_139_129 : aIns 139 129 = some (.newarray .int, 2, 0, 0, .null) := by decide +kernel
theorem i_139_131 : aIns 139 131 = some (.putfield 58, 3, 12, 32, .null) := by decide +kernel
theorem i_139_134 : aIns 139 134 = some (.aload_n 0, 1, 0, 0, .null) := by decide +kernel
theorem i_139_135 : aIns 139 135 = some (.bipush 6, 2, 0, 0, .int (6)) := by decide +kernel
theorem i_139_137 : aIns 139 137 = some (.newarray .int, 2, 0, 0, .null) := by decide +kernel
theorem i_139_139 : aIns 139 139 = some (.putfield 61, 3, 12, 33, .null) := by decide +kernel
theorem i_139_142 : aIns 139 142 = some (.aload_n 0, 1, 0, 0, .null) := by decide +kernel
theorem i_139_143 : aIns 139 143 = some (.bipush 80, 2, 0, 0, .int (80)) := by decide +kernel
theorem i_139_145 : aIns 139 145 = some (.newarray .int, 2, 0, 0, .null) := by decide +kernel
theorem i_139_147 : aIns 139 147 = some (.putfield 64, 3, 12, 34, .null) := by decide +kernel
theorem i_139_150 : aIns 139 150 = some (.aload_n 0, 1, 0, 0, .null) := by decide +kernel
theorem i_139_151 : aIns 139 151 = some (.bipush 8, 2, 0, 0, .int (8)) := by decide +kernel
theorem i_139_153 : aIns 139 153 = some (.newarray .int, 2, 0, 0, .null) := by decide +kernel
theorem i_139_155 : aIns 139 155 = some (.putfield 67, 3, 12, 35, .null) := by decide +kernel
theorem i_139_158 : aIns 139 158 = some (.aload_n 0, 1, 0, 0, .null) := by decide +kernel
theorem i_139_159 : aIns 139 159 = some (.bipush 7, 2, 0, 0, .int (7)) := by decide +kernel
theorem i_139_161 : aIns 139 161 = some (.newarray .int, 2, 0, 0, .null) := by decide +kernel
theorem i_139_163 : aIns 139 163 = some (.putfield 70, 3, 12, 39, .null) := by decide +kernel
theorem i_139_166 : aIns 139 166 = some (.aload_n 0, 1, 0, 0, .null) := by decide +kernel
theorem i_139_167 : aIns 139 167 = some (.sipush 724, 3, 0, 0, .int (724)) := by decide +kernel
theorem i_139_170 : aIns 139 170 = some (.newarray .int, 2, 0, 0, .null) := by decide +kernel
theorem i_139_172 : aIns 139 172 = some (.putfield 73, 3, 12, 43, .null) := by decide +kernel
theorem i_139_175 : aIns 139 175 = some (.aload_n 0, 1, 0, 0, .null) := by decide +kernel
theorem i_139_176 : aIns 139 176 = some (.iconst 4, 1, 0, 0, .int (4)) := by decide +kernel
theorem i_139_177 : aIns 139 177 = some (.newarray .int, 2, 0, 0, .null) := by decide +kernel
theorem i_139_179 : aIns 139 179 = some (.putfield 76, 3, 12, 44, .null) := by decide +kernel
theorem i_139_182 : aIns 139 182 = some (.aload_n 0, 1, 0, 0, .null) := by decide +kernel
theorem i_139_183 : aIns 139 183 = some (.iconst 4, 1, 0, 0, .int (4)) := by decide +kernel
theorem i_139_184 : aIns 139 184 = some (.newarray .int, 2, 0, 0, .null) := by decide +kernel
theorem i_139_186 : aIns 139 186 = some (.putfield 79, 3, 12, 45, .null) := by decide +kernel
theorem i_139_189 : aIns 139 189 = some (.aload_n 0, 1, 0, 0, .null) := by decide +kernel
theorem i_139_190 : aIns 139 190 = some (.iconst 4, 1, 0, 0, .int (4)) := by decide +kernel
theorem i_139_191 : aIns 139 191 = some (.newarray .boolean, 2, 2, 0, .null) := by decide +kernel
theorem i_139_193 : aIns 139 193 = some (.putfield 82, 3, 12, 46, .null) := by decide +kernel
theorem i_139_196 : aIns 139 196 = some (.return_, 1, 0, 0, .null) := by decide +kernel
def d_124 (g : Nat) (a0 : Nat) (x1 : Int32) (h0 : aH) : Option (Int32 × aH) := ((gR h0 a0 11 3).bind (fun f_1 => ((gR h0 f_1 10 0).bind (fun f_3 => ((gI h0 f_3 5 0).bind (fun f_5 => (if f_5 = 0 then some ((-3 : Int32), h0) else (if x1 < 0 then some ((-3 : Int32), h0) else (if x1 ≤ (6 : Int32) then ((gR h0 a0 11 5).bind (fun f_10 => (if isO h0 f_10 2 = true then ((d_26 g f_10 h0).bind (fun z_15 => ((gR z_15 a0 11 5).bind (fun f_19 => ((gR z_15 f_19 2 2).bind (fun f_21 => (if isO z_15 f_21 0 = true then ((d_4 g f_21 x1 z_15).bind (fun z_26 => some (z_26.1, z_26.2))) else none))))))) else none))) else some ((-3 : Int32), h0))))))))))
set_option maxHeartbeats 4000000 in
set_option maxRecDepth 100000 in
theorem d_124_ok {X : aX} {g : Nat} {a0 : Nat} {x1 : Int32} {h0 : aH} {zz : Int32 × aH} {d : Nat} (hdp : 12 ≤ d) (hd : d_124 g a0 x1 h0 = some zz) : aWp X d 124 0 (aEntL [.ref a0, .int x1] 2) [] h0 (fun w h' => w = some (.int zz.1) ∧ h' = zz.2) := by
  unfold d_124 at hd
  refine wp_lv (l2 := [some (.ref a0), some (.int x1)]) rfl ?_
  obtain ⟨e, rfl⟩ : ∃ e, d = e + 1 := ⟨d - 1, by omega⟩
  refine wp_s 1 [some (.ref a0), some (.int x1)] [.ref a0] h0 i_124_0 rfl ?_
  obtain ⟨f_1, q_2, hd⟩ := dk_bind hd
  refine hp_gR 4 rfl i_124_1 q_2 ?_
  obtain ⟨f_3, q_4, hd⟩ := dk_bind hd
  refine hp_gR 7 rfl i_124_4 q_4 ?_
  obtain ⟨f_5, q_6, hd⟩ := dk_bind hd
  refine hp_gI 10 rfl i_124_7 q_6 ?_
  refine wp_if_eq 23 13 rfl rfl i_124_10 (fun c_7 => ?_) (fun c_7 => ?_)
  · rw [if_pos c_7] at hd
    refine wp_s 25 [some (.ref a0), some (.int x1)] [.int (-3 : Int32)] h0 i_124_23 rfl ?_
    obtain rfl := Option.some.inj hd
    exact wp_iret i_124_25 ⟨rfl, rfl⟩
  · rw [if_neg c_7] at hd
    refine wp_s 14 [some (.ref a0), some (.int x1)] [.int x1] h0 i_124_13 rfl ?_
    refine wp_if_lt 23 17 rfl rfl i_124_14 (fun c_8 => ?_) (fun c_8 => ?_)
    · rw [if_pos c_8] at hd
      refine wp_s 25 [some (.ref a0), some (.int x1)] [.int (-3 : Int32)] h0 i_124_23 rfl ?_
      obtain rfl := Option.some.inj hd
      exact wp_iret i_124_25 ⟨rfl, rfl⟩
    · rw [if_neg c_8] at hd
      refine wp_s 18 [some (.ref a0), some (.int x1)] [.int x1] h0 i_124_17 rfl ?_
      refine wp_s 20 [some (.ref a0), some (.int x1)] [.int (6 : Int32), .int x1] h0 i_124_18 rfl ?_
      refine wp_cmp_le 26 23 rfl rfl i_124_20 (fun c_9 => ?_) (fun c_9 => ?_)
      · rw [if_pos c_9] at hd
        refine wp_s 27 [some (.ref a0), some (.int x1)] [.ref a0] h0 i_124_26 rfl ?_
        obtain ⟨f_10, q_11, hd⟩ := dk_bind hd
        refine hp_gR 30 rfl i_124_27 q_11 ?_
        obtain ⟨k_12, hd⟩ := dk_if hd
        obtain ⟨fs_13, o_14⟩ := isO_of k_12
        obtain ⟨z_15, q_16, hd⟩ := dk_bind hd
        refine wp_callV 33 rfl i_124_30 (by decide) rfl (vs := []) (rest := []) rfl rfl rfl o_14 (y := m_26) rfl (Nat.le_of_ble_eq_true rfl) (d_26_ok (d := e) (by omega) q_16) ?_
        rintro v_17 h_18 ⟨rfl, hz⟩
        have hz := hz.symm
        subst hz
        refine wp_s 34 [some (.ref a0), some (.int x1)] [.ref a0] z_15 i_124_33 rfl ?_
        obtain ⟨f_19, q_20, hd⟩ := dk_bind hd
        refine hp_gR 37 rfl i_124_34 q_20 ?_
        obtain ⟨f_21, q_22, hd⟩ := dk_bind hd
        refine hp_gR 40 rfl i_124_37 q_22 ?_
        refine wp_s 41 [some (.ref a0), some (.int x1)] [.int x1, .ref f_21] z_15 i_124_40 rfl ?_
        obtain ⟨k_23, hd⟩ := dk_if hd
        obtain ⟨fs_24, o_25⟩ := isO_of k_23
        obtain ⟨z_26, q_27, hd⟩ := dk_bind hd
        refine wp_callV 44 rfl i_124_41 (by decide) rfl (vs := [.int x1]) (rest := []) rfl rfl rfl o_25 (y := m_4) rfl (Nat.le_of_ble_eq_true rfl) (d_4_ok (d := e) (by omega) q_27) ?_
        rintro v_28 h_29 ⟨rfl, rfl⟩
        obtain rfl := Option.some.inj hd
        exact wp_iret i_124_44 ⟨rfl, rfl⟩
      · rw [if_neg c_9] at hd
        refine wp_s 25 [some (.ref a0), some (.int x1)] [.int (-3 : Int32)] h0 i_124_23 rfl ?_
        obtain rfl := Option.some.inj hd
        exact wp_iret i_124_25 ⟨rfl, rfl⟩
def d_125 (g : Nat) (a0 : Nat) (x1 : Int32) (h0 : aH) : Option (Int32 × aH) := ((gR h0 a0 11 3).bind (fun f_1 => ((gR h0 f_1 10 0).bind (fun f_3 => ((gI h0 f_3 5 0).bind (fun f_5 => (if f_5 = 0 then some ((-1000000 : Int32), h0) else (if x1 < 0 then some ((-1000000 : Int32), h0) else (if x1 ≤ (8 : Int32) then ((gR h0 a0 11 5).bind (fun f_10 => (if isO h0 f_10 2 = true then ((d_28 g f_10 h0).bind (fun z_15 => (if ¬ x1 = 0 then ((gR z_15 a0 11 5).bind (fun f_20 => ((gR z_15 f_20 2 2).bind (fun f_22 => (if isO z_15 f_22 0 = true then ((d_4 g f_22 x1 z_15).bind (fun z_27 => some (z_27.1, z_27.2))) else none))))) else ((gR z_15 a0 11 5).bind (fun f_31 => ((gR z_15 f_31 2 2).bind (fun f_33 => ((gI z_15 f_33 0 1).bind (fun f_35 => some ((-f_35), z_15)))))))))) else none))) else some ((-1000000 : Int32), h0))))))))))
set_option maxHeartbeats 4000000 in
set_option maxRecDepth 100000 in
theorem d_125_ok {X : aX} {g : Nat} {a0 : Nat} {x1 : Int32} {h0 : aH} {zz : Int32 × aH} {d : Nat} (hdp : 13 ≤ d) (hd : d_125 g a0 x1 h0 = some zz) : aWp X d 125 0 (aEntL [.ref a0, .int x1] 2) [] h0 (fun w h' => w = some (.int zz.1) ∧ h' = zz.2) := by
  unfold d_125 at hd
  refine wp_lv (l2 := [some (.ref a0), some (.int x1)]) rfl ?_
  obtain ⟨e, rfl⟩ : ∃ e, d = e + 1 := ⟨d - 1, by omega⟩
  refine wp_s 1 [some (.ref a0), some (.int x1)] [.ref a0] h0 i_125_0 rfl ?_
  obtain ⟨f_1, q_2, hd⟩ := dk_bind hd
  refine hp_gR 4 rfl i_125_1 q_2 ?_
  obtain ⟨f_3, q_4, hd⟩ := dk_bind hd
  refine hp_gR 7 rfl i_125_4 q_4 ?_
  obtain ⟨f_5, q_6, hd⟩ := dk_bind hd
  refine hp_gI 10 rfl i_125_7 q_6 ?_
  refine wp_if_eq 23 13 rfl rfl i_125_10 (fun c_7 => ?_) (fun c_7 => ?_)
  · rw [if_pos c_7] at hd
    refine wp_s 26 [some (.ref a0), some (.int x1)] [.int (-1000000 : Int32)] h0 i_125_23 rfl ?_
    obtain rfl := Option.some.inj hd
    exact wp_iret i_125_26 ⟨rfl, rfl⟩
  · rw [if_neg c_7] at hd
    refine wp_s 14 [some (.ref a0), some (.int x1)] [.int x1] h0 i_125_13 rfl ?_
    refine wp_if_lt 23 17 rfl rfl i_125_14 (fun c_8 => ?_) (fun c_8 => ?_)
    · rw [if_pos c_8] at hd
      refine wp_s 26 [some (.ref a0), some (.int x1)] [.int (-1000000 : Int32)] h0 i_125_23 rfl ?_
      obtain rfl := Option.some.inj hd
      exact wp_iret i_125_26 ⟨rfl, rfl⟩
    · rw [if_neg c_8] at hd
      refine wp_s 18 [some (.ref a0), some (.int x1)] [.int x1] h0 i_125_17 rfl ?_
      refine wp_s 20 [some (.ref a0), some (.int x1)] [.int (8 : Int32), .int x1] h0 i_125_18 rfl ?_
      refine wp_cmp_le 27 23 rfl rfl i_125_20 (fun c_9 => ?_) (fun c_9 => ?_)
      · rw [if_pos c_9] at hd
        refine wp_s 28 [some (.ref a0), some (.int x1)] [.ref a0] h0 i_125_27 rfl ?_
        obtain ⟨f_10, q_11, hd⟩ := dk_bind hd
        refine hp_gR 31 rfl i_125_28 q_11 ?_
        obtain ⟨k_12, hd⟩ := dk_if hd
        obtain ⟨fs_13, o_14⟩ := isO_of k_12
        obtain ⟨z_15, q_16, hd⟩ := dk_bind hd
        refine wp_callV 34 rfl i_125_31 (by decide) rfl (vs := []) (rest := []) rfl rfl rfl o_14 (y := m_28) rfl (Nat.le_of_ble_eq_true rfl) (d_28_ok (d := e) (by omega) q_16) ?_
        rintro v_17 h_18 ⟨rfl, hz⟩
        have hz := hz.symm
        subst hz
        refine wp_s 35 [some (.ref a0), some (.int x1)] [.int x1] z_15 i_125_34 rfl ?_
        refine wp_if_ne 52 38 rfl rfl i_125_35 (fun c_19 => ?_) (fun c_19 => ?_)
        · rw [if_pos c_19] at hd
          refine wp_s 53 [some (.ref a0), some (.int x1)] [.ref a0] z_15 i_125_52 rfl ?_
          obtain ⟨f_20, q_21, hd⟩ := dk_bind hd
          refine hp_gR 56 rfl i_125_53 q_21 ?_
          obtain ⟨f_22, q_23, hd⟩ := dk_bind hd
          refine hp_gR 59 rfl i_125_56 q_23 ?_
          refine wp_s 60 [some (.ref a0), some (.int x1)] [.int x1, .ref f_22] z_15 i_125_59 rfl ?_
          obtain ⟨k_24, hd⟩ := dk_if hd
          obtain ⟨fs_25, o_26⟩ := isO_of k_24
          obtain ⟨z_27, q_28, hd⟩ := dk_bind hd
          refine wp_callV 63 rfl i_125_60 (by decide) rfl (vs := [.int x1]) (rest := []) rfl rfl rfl o_26 (y := m_4) rfl (Nat.le_of_ble_eq_true rfl) (d_4_ok (d := e) (by omega) q_28) ?_
          rintro v_29 h_30 ⟨rfl, rfl⟩
          obtain rfl := Option.some.inj hd
          exact wp_iret i_125_63 ⟨rfl, rfl⟩
        · rw [if_neg c_19] at hd
          refine wp_s 39 [some (.ref a0), some (.int x1)] [.ref a0] z_15 i_125_38 rfl ?_
          obtain ⟨f_31, q_32, hd⟩ := dk_bind hd
          refine hp_gR 42 rfl i_125_39 q_32 ?_
          obtain ⟨f_33, q_34, hd⟩ := dk_bind hd
          refine hp_gR 45 rfl i_125_42 q_34 ?_
          obtain ⟨f_35, q_36, hd⟩ := dk_bind hd
          refine hp_gI 48 rfl i_125_45 q_36 ?_
          refine wp_s 49 [some (.ref a0), some (.int x1)] [.int (-f_35)] z_15 i_125_48 rfl ?_
          refine wp_s 63 [some (.ref a0), some (.int x1)] [.int (-f_35)] z_15 i_125_49 rfl ?_
          obtain rfl := Option.some.inj hd
          exact wp_iret i_125_63 ⟨rfl, rfl⟩
      · rw [if_neg c_9] at hd
        refine wp_s 26 [some (.ref a0), some (.int x1)] [.int (-1000000 : Int32)] h0 i_125_23 rfl ?_
        obtain rfl := Option.some.inj hd
        exact wp_iret i_125_26 ⟨rfl, rfl⟩
def d_126 (g : Nat) (a0 : Nat) (x1 : Int32) (h0 : aH) : Option (Int32 × aH) := ((gR h0 a0 11 3).bind (fun f_1 => ((gR h0 f_1 10 0).bind (fun f_3 => ((gI h0 f_3 5 0).bind (fun f_5 => (if f_5 = 0 then some ((-1000000 : Int32), h0) else ((d_138 g x1 (1 : Int32) (9999 : Int32) h0).bind (fun z_8 => (if ¬ z_8.1 = 0 then ((gR z_8.2 a0 11 3).bind (fun f_13 => ((gR z_8.2 f_13 10 1).bind (fun f_15 => ((gR z_8.2 a0 11 4).bind (fun f_17 => (if isO z_8.2 f_17 9 = true then ((d_93 g f_17 z_8.2).bind (fun z_22 => ((gR z_22.2 a0 11 4).bind (fun f_26 => (if isO z_22.2 f_26 9 = true then ((d_95 g f_26 x1 z_22.2).bind (fun z_31 => (if isO z_31.2 f_15 7 = true then ((d_73 g f_15 z_31.2).bind (fun z_38 => ((gR z_38.2 a0 11 4).bind (fun f_42 => ((gR z_38.2 a0 11 4).bind (fun f_44 => (if isO z_38.2 f_44 9 = true then ((d_92 g f_44 z_38.2).bind (fun z_49 => ((gR z_49.2 f_15 7 6).bind (fun f_53 => ((gI z_49.2 f_15 7 8).bind (fun f_55 => ((gR z_49.2 a0 11 3).bind (fun f_57 => ((gR z_49.2 f_57 10 0).bind (fun f_59 => ((gI z_49.2 f_59 5 2).bind (fun f_61 => (if isO z_49.2 f_42 9 = true then ((d_94 g f_42 (z_38.1 + (1 : Int32)) (z_49.1 + x1) f_53 f_55 f_61 z_49.2).bind (fun z_66 => some (((z_22.1 + z_31.1) - z_66.1), z_66.2))) else none))))))))))))) else none))))))) else none))) else none))))) else none))))))) else some ((-1000000 : Int32), z_8.2)))))))))))
set_option maxHeartbeats 4000000 in
set_option maxRecDepth 100000 in
theorem d_126_ok {X : aX} {g : Nat} {a0 : Nat} {x1 : Int32} {h0 : aH} {zz : Int32 × aH} {d : Nat} (hdp : 7 ≤ d) (hd : d_126 g a0 x1 h0 = some zz) : aWp X d 126 0 (aEntL [.ref a0, .int x1] 5) [] h0 (fun w h' => w = some (.int zz.1) ∧ h' = zz.2) := by
  unfold d_126 at hd
  refine wp_lv (l2 := [some (.ref a0), some (.int x1), none, none, none]) rfl ?_
  obtain ⟨e, rfl⟩ : ∃ e, d = e + 1 := ⟨d - 1, by omega⟩
  refine wp_s 1 [some (.ref a0), some (.int x1), none, none, none] [.ref a0] h0 i_126_0 rfl ?_
  obtain ⟨f_1, q_2, hd⟩ := dk_bind hd
  refine hp_gR 4 rfl i_126_1 q_2 ?_
  obtain ⟨f_3, q_4, hd⟩ := dk_bind hd
  refine hp_gR 7 rfl i_126_4 q_4 ?_
  obtain ⟨f_5, q_6, hd⟩ := dk_bind hd
  refine hp_gI 10 rfl i_126_7 q_6 ?_
  refine wp_if_eq 24 13 rfl rfl i_126_10 (fun c_7 => ?_) (fun c_7 => ?_)
  · rw [if_pos c_7] at hd
    refine wp_s 27 [some (.ref a0), some (.int x1), none, none, none] [.int (-1000000 : Int32)] h0 i_126_24 rfl ?_
    obtain rfl := Option.some.inj hd
    exact wp_iret i_126_27 ⟨rfl, rfl⟩
  · rw [if_neg c_7] at hd
    refine wp_s 14 [some (.ref a0), some (.int x1), none, none, none] [.int x1] h0 i_126_13 rfl ?_
    refine wp_s 15 [some (.ref a0), some (.int x1), none, none, none] [.int (1 : Int32), .int x1] h0 i_126_14 rfl ?_
    refine wp_s 18 [some (.ref a0), some (.int x1), none, none, none] [.int (9999 : Int32), .int (1 : Int32), .int x1] h0 i_126_15 rfl ?_
    obtain ⟨z_8, q_9, hd⟩ := dk_bind hd
    refine wp_callS 21 rfl i_126_18 (by decide) (vs := [.int x1, .int (1 : Int32), .int (9999 : Int32)]) (rest := []) rfl rfl rfl (y := m_138) rfl (Nat.le_of_ble_eq_true rfl) (d_138_ok (d := e) (by omega) q_9) ?_
    rintro v_10 h_11 ⟨rfl, rfl⟩
    refine wp_if_ne 28 24 rfl rfl i_126_21 (fun c_12 => ?_) (fun c_12 => ?_)
    · rw [if_pos c_12] at hd
      refine wp_s 29 [some (.ref a0), some (.int x1), none, none, none] [.ref a0] z_8.2 i_126_28 rfl ?_
      obtain ⟨f_13, q_14, hd⟩ := dk_bind hd
      refine hp_gR 32 rfl i_126_29 q_14 ?_
      obtain ⟨f_15, q_16, hd⟩ := dk_bind hd
      refine hp_gR 35 rfl i_126_32 q_16 ?_
      refine wp_s 36 [some (.ref a0), some (.int x1), some (.ref f_15), none, none] [] z_8.2 i_126_35 rfl ?_
      refine wp_s 37 [some (.ref a0), some (.int x1), some (.ref f_15), none, none] [.ref a0] z_8.2 i_126_36 rfl ?_
      obtain ⟨f_17, q_18, hd⟩ := dk_bind hd
      refine hp_gR 40 rfl i_126_37 q_18 ?_
      obtain ⟨k_19, hd⟩ := dk_if hd
      obtain ⟨fs_20, o_21⟩ := isO_of k_19
      obtain ⟨z_22, q_23, hd⟩ := dk_bind hd
      refine wp_callV 43 rfl i_126_40 (by decide) rfl (vs := []) (rest := []) rfl rfl rfl o_21 (y := m_93) rfl (Nat.le_of_ble_eq_true rfl) (d_93_ok (d := e) (by omega) q_23) ?_
      rintro v_24 h_25 ⟨rfl, rfl⟩
      refine wp_s 44 [some (.ref a0), some (.int x1), some (.ref f_15), none, none] [.ref a0, .int z_22.1] z_22.2 i_126_43 rfl ?_
      obtain ⟨f_26, q_27, hd⟩ := dk_bind hd
      refine hp_gR 47 rfl i_126_44 q_27 ?_
      refine wp_s 48 [some (.ref a0), some (.int x1), some (.ref f_15), none, none] [.int x1, .ref f_26, .int z_22.1] z_22.2 i_126_47 rfl ?_
      obtain ⟨k_28, hd⟩ := dk_if hd
      obtain ⟨fs_29, o_30⟩ := isO_of k_28
      obtain ⟨z_31, q_32, hd⟩ := dk_bind hd
      refine wp_callV 51 rfl i_126_48 (by decide) rfl (vs := [.int x1]) (rest := [.int z_22.1]) rfl rfl rfl o_30 (y := m_95) rfl (Nat.le_of_ble_eq_true rfl) (d_95_ok (d := e) (by omega) q_32) ?_
      rintro v_33 h_34 ⟨rfl, rfl⟩
      refine wp_s 52 [some (.ref a0), some (.int x1), some (.ref f_15), none, none] [.int (z_22.1 + z_31.1)] z_31.2 i_126_51 rfl ?_
      refine wp_s 53 [some (.ref a0), some (.int x1), some (.ref f_15), some (.int (z_22.1 + z_31.1)), none] [] z_31.2 i_126_52 rfl ?_
      refine wp_s 54 [some (.ref a0), some (.int x1), some (.ref f_15), some (.int (z_22.1 + z_31.1)), none] [.ref f_15] z_31.2 i_126_53 rfl ?_
      obtain ⟨k_35, hd⟩ := dk_if hd
      obtain ⟨fs_36, o_37⟩ := isO_of k_35
      obtain ⟨z_38, q_39, hd⟩ := dk_bind hd
      refine wp_callV 57 rfl i_126_54 (by decide) rfl (vs := []) (rest := []) rfl rfl rfl o_37 (y := m_73) rfl (Nat.le_of_ble_eq_true rfl) (d_73_ok (d := e) (by omega) q_39) ?_
      rintro v_40 h_41 ⟨rfl, rfl⟩
      refine wp_s 58 [some (.ref a0), some (.int x1), some (.ref f_15), some (.int (z_22.1 + z_31.1)), none] [.int (1 : Int32), .int z_38.1] z_38.2 i_126_57 rfl ?_
      refine wp_s 59 [some (.ref a0), some (.int x1), some (.ref f_15), some (.int (z_22.1 + z_31.1)), none] [.int (z_38.1 + (1 : Int32))] z_38.2 i_126_58 rfl ?_
      refine wp_s 61 [some (.ref a0), some (.int x1), some (.ref f_15), some (.int (z_22.1 + z_31.1)), some (.int (z_38.1 + (1 : Int32)))] [] z_38.2 i_126_59 rfl ?_
      refine wp_s 62 [some (.ref a0), some (.int x1), some (.ref f_15), some (.int (z_22.1 + z_31.1)), some (.int (z_38.1 + (1 : Int32)))] [.int (z_22.1 + z_31.1)] z_38.2 i_126_61 rfl ?_
      refine wp_s 63 [some (.ref a0), some (.int x1), some (.ref f_15), some (.int (z_22.1 + z_31.1)), some (.int (z_38.1 + (1 : Int32)))] [.ref a0, .int (z_22.1 + z_31.1)] z_38.2 i_126_62 rfl ?_
      obtain ⟨f_42, q_43, hd⟩ := dk_bind hd
      refine hp_gR 66 rfl i_126_63 q_43 ?_
      refine wp_s 68 [some (.ref a0), some (.int x1), some (.ref f_15), some (.int (z_22.1 + z_31.1)), some (.int (z_38.1 + (1 : Int32)))] [.int (z_38.1 + (1 : Int32)), .ref f_42, .int (z_22.1 + z_31.1)] z_38.2 i_126_66 rfl ?_
      refine wp_s 69 [some (.ref a0), some (.int x1), some (.ref f_15), some (.int (z_22.1 + z_31.1)), some (.int (z_38.1 + (1 : Int32)))] [.ref a0, .int (z_38.1 + (1 : Int32)), .ref f_42, .int (z_22.1 + z_31.1)] z_38.2 i_126_68 rfl ?_
      obtain ⟨f_44, q_45, hd⟩ := dk_bind hd
      refine hp_gR 72 rfl i_126_69 q_45 ?_
      obtain ⟨k_46, hd⟩ := dk_if hd
      obtain ⟨fs_47, o_48⟩ := isO_of k_46
      obtain ⟨z_49, q_50, hd⟩ := dk_bind hd
      refine wp_callV 75 rfl i_126_72 (by decide) rfl (vs := []) (rest := [.int (z_38.1 + (1 : Int32)), .ref f_42, .int (z_22.1 + z_31.1)]) rfl rfl rfl o_48 (y := m_92) rfl (Nat.le_of_ble_eq_true rfl) (d_92_ok (d := e) (by omega) q_50) ?_
      rintro v_51 h_52 ⟨rfl, rfl⟩
      refine wp_s 76 [some (.ref a0), some (.int x1), some (.ref f_15), some (.int (z_22.1 + z_31.1)), some (.int (z_38.1 + (1 : Int32)))] [.int x1, .int z_49.1, .int (z_38.1 + (1 : Int32)), .ref f_42, .int (z_22.1 + z_31.1)] z_49.2 i_126_75 rfl ?_
      refine wp_s 77 [some (.ref a0), some (.int x1), some (.ref f_15), some (.int (z_22.1 + z_31.1)), some (.int (z_38.1 + (1 : Int32)))] [.int (z_49.1 + x1), .int (z_38.1 + (1 : Int32)), .ref f_42, .int (z_22.1 + z_31.1)] z_49.2 i_126_76 rfl ?_
      refine wp_s 78 [some (.ref a0), some (.int x1), some (.ref f_15), some (.int (z_22.1 + z_31.1)), some (.int (z_38.1 + (1 : Int32)))] [.ref f_15, .int (z_49.1 + x1), .int (z_38.1 + (1 : Int32)), .ref f_42, .int (z_22.1 + z_31.1)] z_49.2 i_126_77 rfl ?_
      obtain ⟨f_53, q_54, hd⟩ := dk_bind hd
      refine hp_gR 81 rfl i_126_78 q_54 ?_
      refine wp_s 82 [some (.ref a0), some (.int x1), some (.ref f_15), some (.int (z_22.1 + z_31.1)), some (.int (z_38.1 + (1 : Int32)))] [.ref f_15, .ref f_53, .int (z_49.1 + x1), .int (z_38.1 + (1 : Int32)), .ref f_42, .int (z_22.1 + z_31.1)] z_49.2 i_126_81 rfl ?_
      obtain ⟨f_55, q_56, hd⟩ := dk_bind hd
      refine hp_gI 85 rfl i_126_82 q_56 ?_
      refine wp_s 86 [some (.ref a0), some (.int x1), some (.ref f_15), some (.int (z_22.1 + z_31.1)), some (.int (z_38.1 + (1 : Int32)))] [.ref a0, .int f_55, .ref f_53, .int (z_49.1 + x1), .int (z_38.1 + (1 : Int32)), .ref f_42, .int (z_22.1 + z_31.1)] z_49.2 i_126_85 rfl ?_
      obtain ⟨f_57, q_58, hd⟩ := dk_bind hd
      refine hp_gR 89 rfl i_126_86 q_58 ?_
      obtain ⟨f_59, q_60, hd⟩ := dk_bind hd
      refine hp_gR 92 rfl i_126_89 q_60 ?_
      obtain ⟨f_61, q_62, hd⟩ := dk_bind hd
      refine hp_gI 95 rfl i_126_92 q_62 ?_
      obtain ⟨k_63, hd⟩ := dk_if hd
      obtain ⟨fs_64, o_65⟩ := isO_of k_63
      obtain ⟨z_66, q_67, hd⟩ := dk_bind hd
      refine wp_callV 98 rfl i_126_95 (by decide) rfl (vs := [.int (z_38.1 + (1 : Int32)), .int (z_49.1 + x1), .ref f_53, .int f_55, .int f_61]) (rest := [.int (z_22.1 + z_31.1)]) rfl rfl rfl o_65 (y := m_94) rfl (Nat.le_of_ble_eq_true rfl) (d_94_ok (d := e) (by omega) q_67) ?_
      rintro v_68 h_69 ⟨rfl, rfl⟩
      refine wp_s 99 [some (.ref a0), some (.int x1), some (.ref f_15), some (.int (z_22.1 + z_31.1)), some (.int (z_38.1 + (1 : Int32)))] [.int ((z_22.1 + z_31.1) - z_66.1)] z_66.2 i_126_98 rfl ?_
      obtain rfl := Option.some.inj hd
      exact wp_iret i_126_99 ⟨rfl, rfl⟩
    · rw [if_neg c_12] at hd
      refine wp_s 27 [some (.ref a0), some (.int x1), none, none, none] [.int (-1000000 : Int32)] z_8.2 i_126_24 rfl ?_
      obtain rfl := Option.some.inj hd
      exact wp_iret i_126_27 ⟨rfl, rfl⟩
def d_127 (g : Nat) (a0 : Nat) (x1 : Int32) (h0 : aH) : Option (Int32 × aH) := ((gR h0 a0 11 3).bind (fun f_1 => ((gR h0 f_1 10 0).bind (fun f_3 => ((gI h0 f_3 5 0).bind (fun f_5 => (if f_5 = 0 then some ((-1000000 : Int32), h0) else (if x1 < 0 then some ((-1000000 : Int32), h0) else (if x1 ≤ (1 : Int32) then ((gR h0 a0 11 5).bind (fun f_10 => (if isO h0 f_10 2 = true then ((d_22 g f_10 h0).bind (fun z_15 => (if ¬ x1 = 0 then ((gR z_15 a0 11 5).bind (fun f_20 => ((gI z_15 f_20 2 14).bind (fun f_22 => some (f_22, z_15))))) else ((gR z_15 a0 11 5).bind (fun f_24 => ((gI z_15 f_24 2 13).bind (fun f_26 => some (f_26, z_15)))))))) else none))) else some ((-1000000 : Int32), h0))))))))))
set_option maxHeartbeats 4000000 in
set_option maxRecDepth 100000 in
theorem d_127_ok {X : aX} {g : Nat} {a0 : Nat} {x1 : Int32} {h0 : aH} {zz : Int32 × aH} {d : Nat} (hdp : 7 ≤ d) (hd : d_127 g a0 x1 h0 = some zz) : aWp X d 127 0 (aEntL [.ref a0, .int x1] 2) [] h0 (fun w h' => w = some (.int zz.1) ∧ h' = zz.2) := by
  unfold d_127 at hd
  refine wp_lv (l2 := [some (.ref a0), some (.int x1)]) rfl ?_
  obtain ⟨e, rfl⟩ : ∃ e, d = e + 1 := ⟨d - 1, by omega⟩
  refine wp_s 1 [some (.ref a0), some (.int x1)] [.ref a0] h0 i_127_0 rfl ?_
  obtain ⟨f_1, q_2, hd⟩ := dk_bind hd
  refine hp_gR 4 rfl i_127_1 q_2 ?_
  obtain ⟨f_3, q_4, hd⟩ := dk_bind hd
  refine hp_gR 7 rfl i_127_4 q_4 ?_
  obtain ⟨f_5, q_6, hd⟩ := dk_bind hd
  refine hp_gI 10 rfl i_127_7 q_6 ?_
  refine wp_if_eq 22 13 rfl rfl i_127_10 (fun c_7 => ?_) (fun c_7 => ?_)
  · rw [if_pos c_7] at hd
    refine wp_s 25 [some (.ref a0), some (.int x1)] [.int (-1000000 : Int32)] h0 i_127_22 rfl ?_
    obtain rfl := Option.some.inj hd
    exact wp_iret i_127_25 ⟨rfl, rfl⟩
  · rw [if_neg c_7] at hd
    refine wp_s 14 [some (.ref a0), some (.int x1)] [.int x1] h0 i_127_13 rfl ?_
    refine wp_if_lt 22 17 rfl rfl i_127_14 (fun c_8 => ?_) (fun c_8 => ?_)
    · rw [if_pos c_8] at hd
      refine wp_s 25 [some (.ref a0), some (.int x1)] [.int (-1000000 : Int32)] h0 i_127_22 rfl ?_
      obtain rfl := Option.some.inj hd
      exact wp_iret i_127_25 ⟨rfl, rfl⟩
    · rw [if_neg c_8] at hd
      refine wp_s 18 [some (.ref a0), some (.int x1)] [.int x1] h0 i_127_17 rfl ?_
      refine wp_s 19 [some (.ref a0), some (.int x1)] [.int (1 : Int32), .int x1] h0 i_127_18 rfl ?_
      refine wp_cmp_le 26 22 rfl rfl i_127_19 (fun c_9 => ?_) (fun c_9 => ?_)
      · rw [if_pos c_9] at hd
        refine wp_s 27 [some (.ref a0), some (.int x1)] [.ref a0] h0 i_127_26 rfl ?_
        obtain ⟨f_10, q_11, hd⟩ := dk_bind hd
        refine hp_gR 30 rfl i_127_27 q_11 ?_
        obtain ⟨k_12, hd⟩ := dk_if hd
        obtain ⟨fs_13, o_14⟩ := isO_of k_12
        obtain ⟨z_15, q_16, hd⟩ := dk_bind hd
        refine wp_callV 33 rfl i_127_30 (by decide) rfl (vs := []) (rest := []) rfl rfl rfl o_14 (y := m_22) rfl (Nat.le_of_ble_eq_true rfl) (d_22_ok (d := e) (by omega) q_16) ?_
        rintro v_17 h_18 ⟨rfl, hz⟩
        have hz := hz.symm
        subst hz
        refine wp_s 34 [some (.ref a0), some (.int x1)] [.int x1] z_15 i_127_33 rfl ?_
        refine wp_if_ne 47 37 rfl rfl i_127_34 (fun c_19 => ?_) (fun c_19 => ?_)
        · rw [if_pos c_19] at hd
          refine wp_s 48 [some (.ref a0), some (.int x1)] [.ref a0] z_15 i_127_47 rfl ?_
          obtain ⟨f_20, q_21, hd⟩ := dk_bind hd
          refine hp_gR 51 rfl i_127_48 q_21 ?_
          obtain ⟨f_22, q_23, hd⟩ := dk_bind hd
          refine hp_gI 54 rfl i_127_51 q_23 ?_
          obtain rfl := Option.some.inj hd
          exact wp_iret i_127_54 ⟨rfl, rfl⟩
        · rw [if_neg c_19] at hd
          refine wp_s 38 [some (.ref a0), some (.int x1)] [.ref a0] z_15 i_127_37 rfl ?_
          obtain ⟨f_24, q_25, hd⟩ := dk_bind hd
          refine hp_gR 41 rfl i_127_38 q_25 ?_
          obtain ⟨f_26, q_27, hd⟩ := dk_bind hd
          refine hp_gI 44 rfl i_127_41 q_27 ?_
          refine wp_s 54 [some (.ref a0), some (.int x1)] [.int f_26] z_15 i_127_44 rfl ?_
          obtain rfl := Option.some.inj hd
          exact wp_iret i_127_54 ⟨rfl, rfl⟩
      · rw [if_neg c_9] at hd
        refine wp_s 25 [some (.ref a0), some (.int x1)] [.int (-1000000 : Int32)] h0 i_127_22 rfl ?_
        obtain rfl := Option.some.inj hd
        exact wp_iret i_127_25 ⟨rfl, rfl⟩
def d_128 (g : Nat) (a0 : Nat) (x1 : Int32) (x2 : Int32) (x3 : Int32) (h0 : aH) : Option (Int32 × aH) := ((gR h0 a0 11 3).bind (fun f_1 => ((gR h0 f_1 10 0).bind (fun f_3 => ((gI h0 f_3 5 0).bind (fun f_5 => (if f_5 = 0 then some ((-3 : Int32), h0) else ((d_138 g x1 (0 : Int32) (30000 : Int32) h0).bind (fun z_8 => (if z_8.1 = 0 then some ((-3 : Int32), z_8.2) else ((d_138 g x2 (0 : Int32) (99 : Int32) z_8.2).bind (fun z_13 => (if z_13.1 = 0 then some ((-3 : Int32), z_13.2) else ((d_138 g x3 (0 : Int32) (5 : Int32) z_13.2).bind (fun z_18 => (if ¬ z_18.1 = 0 then ((gR z_18.2 a0 11 5).bind (fun f_23 => (if isO z_18.2 f_23 2 = true then ((d_30 g f_23 x1 x2 z_18.2).bind (fun z_28 => (if ¬ x3 = 0 then (if x3 ≤ (4 : Int32) then ((gR z_28 a0 11 5).bind (fun f_34 => ((gR z_28 f_34 2 2).bind (fun f_36 => (if isO z_28 f_36 0 = true then ((d_4 g f_36 x3 z_28).bind (fun z_41 => some (z_41.1, z_41.2))) else none))))) else ((gR z_28 a0 11 5).bind (fun f_45 => ((gI z_28 f_45 2 16).bind (fun f_47 => some (f_47, z_28)))))) else ((gR z_28 a0 11 5).bind (fun f_49 => ((gI z_28 f_49 2 15).bind (fun f_51 => some (f_51, z_28)))))))) else none))) else some ((-3 : Int32), z_18.2)))))))))))))))))
set_option maxHeartbeats 4000000 in
set_option maxRecDepth 100000 in
theorem d_128_ok {X : aX} {g : Nat} {a0 : Nat} {x1 : Int32} {x2 : Int32} {x3 : Int32} {h0 : aH} {zz : Int32 × aH} {d : Nat} (hdp : 7 ≤ d) (hd : d_128 g a0 x1 x2 x3 h0 = some zz) : aWp X d 128 0 (aEntL [.ref a0, .int x1, .int x2, .int x3] 4) [] h0 (fun w h' => w = some (.int zz.1) ∧ h' = zz.2) := by
  unfold d_128 at hd
  refine wp_lv (l2 := [some (.ref a0), some (.int x1), some (.int x2), some (.int x3)]) rfl ?_
  obtain ⟨e, rfl⟩ : ∃ e, d = e + 1 := ⟨d - 1, by omega⟩
  refine wp_s 1 [some (.ref a0), some (.int x1), some (.int x2), some (.int x3)] [.ref a0] h0 i_128_0 rfl ?_
  obtain ⟨f_1, q_2, hd⟩ := dk_bind hd
  refine hp_gR 4 rfl i_128_1 q_2 ?_
  obtain ⟨f_3, q_4, hd⟩ := dk_bind hd
  refine hp_gR 7 rfl i_128_4 q_4 ?_
  obtain ⟨f_5, q_6, hd⟩ := dk_bind hd
  refine hp_gI 10 rfl i_128_7 q_6 ?_
  refine wp_if_eq 43 13 rfl rfl i_128_10 (fun c_7 => ?_) (fun c_7 => ?_)
  · rw [if_pos c_7] at hd
    refine wp_s 45 [some (.ref a0), some (.int x1), some (.int x2), some (.int x3)] [.int (-3 : Int32)] h0 i_128_43 rfl ?_
    obtain rfl := Option.some.inj hd
    exact wp_iret i_128_45 ⟨rfl, rfl⟩
  · rw [if_neg c_7] at hd
    refine wp_s 14 [some (.ref a0), some (.int x1), some (.int x2), some (.int x3)] [.int x1] h0 i_128_13 rfl ?_
    refine wp_s 15 [some (.ref a0), some (.int x1), some (.int x2), some (.int x3)] [.int (0 : Int32), .int x1] h0 i_128_14 rfl ?_
    refine wp_s 18 [some (.ref a0), some (.int x1), some (.int x2), some (.int x3)] [.int (30000 : Int32), .int (0 : Int32), .int x1] h0 i_128_15 rfl ?_
    obtain ⟨z_8, q_9, hd⟩ := dk_bind hd
    refine wp_callS 21 rfl i_128_18 (by decide) (vs := [.int x1, .int (0 : Int32), .int (30000 : Int32)]) (rest := []) rfl rfl rfl (y := m_138) rfl (Nat.le_of_ble_eq_true rfl) (d_138_ok (d := e) (by omega) q_9) ?_
    rintro v_10 h_11 ⟨rfl, rfl⟩
    refine wp_if_eq 43 24 rfl rfl i_128_21 (fun c_12 => ?_) (fun c_12 => ?_)
    · rw [if_pos c_12] at hd
      refine wp_s 45 [some (.ref a0), some (.int x1), some (.int x2), some (.int x3)] [.int (-3 : Int32)] z_8.2 i_128_43 rfl ?_
      obtain rfl := Option.some.inj hd
      exact wp_iret i_128_45 ⟨rfl, rfl⟩
    · rw [if_neg c_12] at hd
      refine wp_s 25 [some (.ref a0), some (.int x1), some (.int x2), some (.int x3)] [.int x2] z_8.2 i_128_24 rfl ?_
      refine wp_s 26 [some (.ref a0), some (.int x1), some (.int x2), some (.int x3)] [.int (0 : Int32), .int x2] z_8.2 i_128_25 rfl ?_
      refine wp_s 28 [some (.ref a0), some (.int x1), some (.int x2), some (.int x3)] [.int (99 : Int32), .int (0 : Int32), .int x2] z_8.2 i_128_26 rfl ?_
      obtain ⟨z_13, q_14, hd⟩ := dk_bind hd
      refine wp_callS 31 rfl i_128_28 (by decide) (vs := [.int x2, .int (0 : Int32), .int (99 : Int32)]) (rest := []) rfl rfl rfl (y := m_138) rfl (Nat.le_of_ble_eq_true rfl) (d_138_ok (d := e) (by omega) q_14) ?_
      rintro v_15 h_16 ⟨rfl, rfl⟩
      refine wp_if_eq 43 34 rfl rfl i_128_31 (fun c_17 => ?_) (fun c_17 => ?_)
      · rw [if_pos c_17] at hd
        refine wp_s 45 [some (.ref a0), some (.int x1), some (.int x2), some (.int x3)] [.int (-3 : Int32)] z_13.2 i_128_43 rfl ?_
        obtain rfl := Option.some.inj hd
        exact wp_iret i_128_45 ⟨rfl, rfl⟩
      · rw [if_neg c_17] at hd
        refine wp_s 35 [some (.ref a0), some (.int x1), some (.int x2), some (.int x3)] [.int x3] z_13.2 i_128_34 rfl ?_
        refine wp_s 36 [some (.ref a0), some (.int x1), some (.int x2), some (.int x3)] [.int (0 : Int32), .int x3] z_13.2 i_128_35 rfl ?_
        refine wp_s 37 [some (.ref a0), some (.int x1), some (.int x2), some (.int x3)] [.int (5 : Int32), .int (0 : Int32), .int x3] z_13.2 i_128_36 rfl ?_
        obtain ⟨z_18, q_19, hd⟩ := dk_bind hd
        refine wp_callS 40 rfl i_128_37 (by decide) (vs := [.int x3, .int (0 : Int32), .int (5 : Int32)]) (rest := []) rfl rfl rfl (y := m_138) rfl (Nat.le_of_ble_eq_true rfl) (d_138_ok (d := e) (by omega) q_19) ?_
        rintro v_20 h_21 ⟨rfl, rfl⟩
        refine wp_if_ne 46 43 rfl rfl i_128_40 (fun c_22 => ?_) (fun c_22 => ?_)
        · rw [if_pos c_22] at hd
          refine wp_s 47 [some (.ref a0), some (.int x1), some (.int x2), some (.int x3)] [.ref a0] z_18.2 i_128_46 rfl ?_
          obtain ⟨f_23, q_24, hd⟩ := dk_bind hd
          refine hp_gR 50 rfl i_128_47 q_24 ?_
          refine wp_s 51 [some (.ref a0), some (.int x1), some (.int x2), some (.int x3)] [.int x1, .ref f_23] z_18.2 i_128_50 rfl ?_
          refine wp_s 52 [some (.ref a0), some (.int x1), some (.int x2), some (.int x3)] [.int x2, .int x1, .ref f_23] z_18.2 i_128_51 rfl ?_
          obtain ⟨k_25, hd⟩ := dk_if hd
          obtain ⟨fs_26, o_27⟩ := isO_of k_25
          obtain ⟨z_28, q_29, hd⟩ := dk_bind hd
          refine wp_callV 55 rfl i_128_52 (by decide) rfl (vs := [.int x1, .int x2]) (rest := []) rfl rfl rfl o_27 (y := m_30) rfl (Nat.le_of_ble_eq_true rfl) (d_30_ok (d := e) (by omega) q_29) ?_
          rintro v_30 h_31 ⟨rfl, hz⟩
          have hz := hz.symm
          subst hz
          refine wp_s 56 [some (.ref a0), some (.int x1), some (.int x2), some (.int x3)] [.int x3] z_28 i_128_55 rfl ?_
          refine wp_if_ne 67 59 rfl rfl i_128_56 (fun c_32 => ?_) (fun c_32 => ?_)
          · rw [if_pos c_32] at hd
            refine wp_s 68 [some (.ref a0), some (.int x1), some (.int x2), some (.int x3)] [.int x3] z_28 i_128_67 rfl ?_
            refine wp_s 69 [some (.ref a0), some (.int x1), some (.int x2), some (.int x3)] [.int (4 : Int32), .int x3] z_28 i_128_68 rfl ?_
            refine wp_cmp_le 82 72 rfl rfl i_128_69 (fun c_33 => ?_) (fun c_33 => ?_)
            · rw [if_pos c_33] at hd
              refine wp_s 83 [some (.ref a0), some (.int x1), some (.int x2), some (.int x3)] [.ref a0] z_28 i_128_82 rfl ?_
              obtain ⟨f_34, q_35, hd⟩ := dk_bind hd
              refine hp_gR 86 rfl i_128_83 q_35 ?_
              obtain ⟨f_36, q_37, hd⟩ := dk_bind hd
              refine hp_gR 89 rfl i_128_86 q_37 ?_
              refine wp_s 90 [some (.ref a0), some (.int x1), some (.int x2), some (.int x3)] [.int x3, .ref f_36] z_28 i_128_89 rfl ?_
              obtain ⟨k_38, hd⟩ := dk_if hd
              obtain ⟨fs_39, o_40⟩ := isO_of k_38
              obtain ⟨z_41, q_42, hd⟩ := dk_bind hd
              refine wp_callV 93 rfl i_128_90 (by decide) rfl (vs := [.int x3]) (rest := []) rfl rfl rfl o_40 (y := m_4) rfl (Nat.le_of_ble_eq_true rfl) (d_4_ok (d := e) (by omega) q_42) ?_
              rintro v_43 h_44 ⟨rfl, rfl⟩
              obtain rfl := Option.some.inj hd
              exact wp_iret i_128_93 ⟨rfl, rfl⟩
            · rw [if_neg c_33] at hd
              refine wp_s 73 [some (.ref a0), some (.int x1), some (.int x2), some (.int x3)] [.ref a0] z_28 i_128_72 rfl ?_
              obtain ⟨f_45, q_46, hd⟩ := dk_bind hd
              refine hp_gR 76 rfl i_128_73 q_46 ?_
              obtain ⟨f_47, q_48, hd⟩ := dk_bind hd
              refine hp_gI 79 rfl i_128_76 q_48 ?_
              refine wp_s 93 [some (.ref a0), some (.int x1), some (.int x2), some (.int x3)] [.int f_47] z_28 i_128_79 rfl ?_
              obtain rfl := Option.some.inj hd
              exact wp_iret i_128_93 ⟨rfl, rfl⟩
          · rw [if_neg c_32] at hd
            refine wp_s 60 [some (.ref a0), some (.int x1), some (.int x2), some (.int x3)] [.ref a0] z_28 i_128_59 rfl ?_
            obtain ⟨f_49, q_50, hd⟩ := dk_bind hd
            refine hp_gR 63 rfl i_128_60 q_50 ?_
            obtain ⟨f_51, q_52, hd⟩ := dk_bind hd
            refine hp_gI 66 rfl i_128_63 q_52 ?_
            obtain rfl := Option.some.inj hd
            exact wp_iret i_128_66 ⟨rfl, rfl⟩
        · rw [if_neg c_22] at hd
          refine wp_s 45 [some (.ref a0), some (.int x1), some (.int x2), some (.int x3)] [.int (-3 : Int32)] z_18.2 i_128_43 rfl ?_
          obtain rfl := Option.some.inj hd
          exact wp_iret i_128_45 ⟨rfl, rfl⟩
def d_129 (g : Nat) (a0 : Nat) (x1 : Int32) (x2 : Int32) (x3 : Int32) (x4 : Int32) (h0 : aH) : Option (Int32 × aH) := (if ¬ x1 = (-1 : Int32) then ((gR h0 a0 11 3).bind (fun f_2 => ((gR h0 f_2 10 0).bind (fun f_4 => (if isO h0 f_4 5 = true then ((d_55 g f_4 x1 h0).bind (fun z_9 => (if z_9.1 = 0 then some ((-2 : Int32), z_9.2) else ((d_138 g x2 (0 : Int32) (99 : Int32) z_9.2).bind (fun z_14 => (if z_14.1 = 0 then some ((-2 : Int32), z_14.2) else ((d_138 g x3 (0 : Int32) (99 : Int32) z_14.2).bind (fun z_19 => (if z_19.1 = 0 then some ((-2 : Int32), z_19.2) else ((d_138 g x4 (1 : Int32) (9999 : Int32) z_19.2).bind (fun z_24 => (if z_24.1 = 0 then some ((-2 : Int32), z_24.2) else ((gR z_24.2 a0 11 3).bind (fun f_29 => ((gI z_24.2 f_29 10 8).bind (fun f_31 => (if f_31 < (10 : Int32) then ((gR z_24.2 a0 11 3).bind (fun f_34 => (if isO z_24.2 f_34 10 = true then ((d_100 g f_34 x1 x2 x3 x4 z_24.2).bind (fun z_39 => ((gR z_39 a0 11 3).bind (fun f_43 => ((gI z_39 f_43 10 8).bind (fun f_45 => some (f_45, z_39))))))) else none))) else some ((-2 : Int32), z_24.2)))))))))))))))))) else none))))) else ((gR h0 a0 11 3).bind (fun f_47 => ((sF h0 f_47 10 8 (.int (0 : Int32))).bind (fun h_49 => some ((0 : Int32), h_49))))))
set_option maxHeartbeats 4000000 in
set_option maxRecDepth 100000 in
theorem d_129_ok {X : aX} {g : Nat} {a0 : Nat} {x1 : Int32} {x2 : Int32} {x3 : Int32} {x4 : Int32} {h0 : aH} {zz : Int32 × aH} {d : Nat} (hdp : 1 ≤ d) (hd : d_129 g a0 x1 x2 x3 x4 h0 = some zz) : aWp X d 129 0 (aEntL [.ref a0, .int x1, .int x2, .int x3, .int x4] 5) [] h0 (fun w h' => w = some (.int zz.1) ∧ h' = zz.2) := by
  unfold d_129 at hd
  refine wp_lv (l2 := [some (.ref a0), some (.int x1), some (.int x2), some (.int x3), some (.int x4)]) rfl ?_
  obtain ⟨e, rfl⟩ : ∃ e, d = e + 1 := ⟨d - 1, by omega⟩
  refine wp_s 1 [some (.ref a0), some (.int x1), some (.int x2), some (.int x3), some (.int x4)] [.int x1] h0 i_129_0 rfl ?_
  refine wp_s 2 [some (.ref a0), some (.int x1), some (.int x2), some (.int x3), some (.int x4)] [.int (-1 : Int32), .int x1] h0 i_129_1 rfl ?_
  refine wp_cmp_ne 15 5 rfl rfl i_129_2 (fun c_1 => ?_) (fun c_1 => ?_)
  · rw [if_pos c_1] at hd
    refine wp_s 16 [some (.ref a0), some (.int x1), some (.int x2), some (.int x3), some (.int x4)] [.ref a0] h0 i_129_15 rfl ?_
    obtain ⟨f_2, q_3, hd⟩ := dk_bind hd
    refine hp_gR 19 rfl i_129_16 q_3 ?_
    obtain ⟨f_4, q_5, hd⟩ := dk_bind hd
    refine hp_gR 22 rfl i_129_19 q_5 ?_
    refine wp_s 23 [some (.ref a0), some (.int x1), some (.int x2), some (.int x3), some (.int x4)] [.int x1, .ref f_4] h0 i_129_22 rfl ?_
    obtain ⟨k_6, hd⟩ := dk_if hd
    obtain ⟨fs_7, o_8⟩ := isO_of k_6
    obtain ⟨z_9, q_10, hd⟩ := dk_bind hd
    refine wp_callV 26 rfl i_129_23 (by decide) rfl (vs := [.int x1]) (rest := []) rfl rfl rfl o_8 (y := m_55) rfl (Nat.le_of_ble_eq_true rfl) (d_55_ok (d := e) (by omega) q_10) ?_
    rintro v_11 h_12 ⟨rfl, rfl⟩
    refine wp_if_eq 73 29 rfl rfl i_129_26 (fun c_13 => ?_) (fun c_13 => ?_)
    · rw [if_pos c_13] at hd
      refine wp_s 75 [some (.ref a0), some (.int x1), some (.int x2), some (.int x3), some (.int x4)] [.int (-2 : Int32)] z_9.2 i_129_73 rfl ?_
      obtain rfl := Option.some.inj hd
      exact wp_iret i_129_75 ⟨rfl, rfl⟩
    · rw [if_neg c_13] at hd
      refine wp_s 30 [some (.ref a0), some (.int x1), some (.int x2), some (.int x3), some (.int x4)] [.int x2] z_9.2 i_129_29 rfl ?_
      refine wp_s 31 [some (.ref a0), some (.int x1), some (.int x2), some (.int x3), some (.int x4)] [.int (0 : Int32), .int x2] z_9.2 i_129_30 rfl ?_
      refine wp_s 33 [some (.ref a0), some (.int x1), some (.int x2), some (.int x3), some (.int x4)] [.int (99 : Int32), .int (0 : Int32), .int x2] z_9.2 i_129_31 rfl ?_
      obtain ⟨z_14, q_15, hd⟩ := dk_bind hd
      refine wp_callS 36 rfl i_129_33 (by decide) (vs := [.int x2, .int (0 : Int32), .int (99 : Int32)]) (rest := []) rfl rfl rfl (y := m_138) rfl (Nat.le_of_ble_eq_true rfl) (d_138_ok (d := e) (by omega) q_15) ?_
      rintro v_16 h_17 ⟨rfl, rfl⟩
      refine wp_if_eq 73 39 rfl rfl i_129_36 (fun c_18 => ?_) (fun c_18 => ?_)
      · rw [if_pos c_18] at hd
        refine wp_s 75 [some (.ref a0), some (.int x1), some (.int x2), some (.int x3), some (.int x4)] [.int (-2 : Int32)] z_14.2 i_129_73 rfl ?_
        obtain rfl := Option.some.inj hd
        exact wp_iret i_129_75 ⟨rfl, rfl⟩
      · rw [if_neg c_18] at hd
        refine wp_s 40 [some (.ref a0), some (.int x1), some (.int x2), some (.int x3), some (.int x4)] [.int x3] z_14.2 i_129_39 rfl ?_
        refine wp_s 41 [some (.ref a0), some (.int x1), some (.int x2), some (.int x3), some (.int x4)] [.int (0 : Int32), .int x3] z_14.2 i_129_40 rfl ?_
        refine wp_s 43 [some (.ref a0), some (.int x1), some (.int x2), some (.int x3), some (.int x4)] [.int (99 : Int32), .int (0 : Int32), .int x3] z_14.2 i_129_41 rfl ?_
        obtain ⟨z_19, q_20, hd⟩ := dk_bind hd
        refine wp_callS 46 rfl i_129_43 (by decide) (vs := [.int x3, .int (0 : Int32), .int (99 : Int32)]) (rest := []) rfl rfl rfl (y := m_138) rfl (Nat.le_of_ble_eq_true rfl) (d_138_ok (d := e) (by omega) q_20) ?_
        rintro v_21 h_22 ⟨rfl, rfl⟩
        refine wp_if_eq 73 49 rfl rfl i_129_46 (fun c_23 => ?_) (fun c_23 => ?_)
        · rw [if_pos c_23] at hd
          refine wp_s 75 [some (.ref a0), some (.int x1), some (.int x2), some (.int x3), some (.int x4)] [.int (-2 : Int32)] z_19.2 i_129_73 rfl ?_
          obtain rfl := Option.some.inj hd
          exact wp_iret i_129_75 ⟨rfl, rfl⟩
        · rw [if_neg c_23] at hd
          refine wp_s 51 [some (.ref a0), some (.int x1), some (.int x2), some (.int x3), some (.int x4)] [.int x4] z_19.2 i_129_49 rfl ?_
          refine wp_s 52 [some (.ref a0), some (.int x1), some (.int x2), some (.int x3), some (.int x4)] [.int (1 : Int32), .int x4] z_19.2 i_129_51 rfl ?_
          refine wp_s 55 [some (.ref a0), some (.int x1), some (.int x2), some (.int x3), some (.int x4)] [.int (9999 : Int32), .int (1 : Int32), .int x4] z_19.2 i_129_52 rfl ?_
          obtain ⟨z_24, q_25, hd⟩ := dk_bind hd
          refine wp_callS 58 rfl i_129_55 (by decide) (vs := [.int x4, .int (1 : Int32), .int (9999 : Int32)]) (rest := []) rfl rfl rfl (y := m_138) rfl (Nat.le_of_ble_eq_true rfl) (d_138_ok (d := e) (by omega) q_25) ?_
          rintro v_26 h_27 ⟨rfl, rfl⟩
          refine wp_if_eq 73 61 rfl rfl i_129_58 (fun c_28 => ?_) (fun c_28 => ?_)
          · rw [if_pos c_28] at hd
            refine wp_s 75 [some (.ref a0), some (.int x1), some (.int x2), some (.int x3), some (.int x4)] [.int (-2 : Int32)] z_24.2 i_129_73 rfl ?_
            obtain rfl := Option.some.inj hd
            exact wp_iret i_129_75 ⟨rfl, rfl⟩
          · rw [if_neg c_28] at hd
            refine wp_s 62 [some (.ref a0), some (.int x1), some (.int x2), some (.int x3), some (.int x4)] [.ref a0] z_24.2 i_129_61 rfl ?_
            obtain ⟨f_29, q_30, hd⟩ := dk_bind hd
            refine hp_gR 65 rfl i_129_62 q_30 ?_
            obtain ⟨f_31, q_32, hd⟩ := dk_bind hd
            refine hp_gI 68 rfl i_129_65 q_32 ?_
            refine wp_s 70 [some (.ref a0), some (.int x1), some (.int x2), some (.int x3), some (.int x4)] [.int (10 : Int32), .int f_31] z_24.2 i_129_68 rfl ?_
            refine wp_cmp_lt 76 73 rfl rfl i_129_70 (fun c_33 => ?_) (fun c_33 => ?_)
            · rw [if_pos c_33] at hd
              refine wp_s 77 [some (.ref a0), some (.int x1), some (.int x2), some (.int x3), some (.int x4)] [.ref a0] z_24.2 i_129_76 rfl ?_
              obtain ⟨f_34, q_35, hd⟩ := dk_bind hd
              refine hp_gR 80 rfl i_129_77 q_35 ?_
              refine wp_s 81 [some (.ref a0), some (.int x1), some (.int x2), some (.int x3), some (.int x4)] [.int x1, .ref f_34] z_24.2 i_129_80 rfl ?_
              refine wp_s 82 [some (.ref a0), some (.int x1), some (.int x2), some (.int x3), some (.int x4)] [.int x2, .int x1, .ref f_34] z_24.2 i_129_81 rfl ?_
              refine wp_s 83 [some (.ref a0), some (.int x1), some (.int x2), some (.int x3), some (.int x4)] [.int x3, .int x2, .int x1, .ref f_34] z_24.2 i_129_82 rfl ?_
              refine wp_s 85 [some (.ref a0), some (.int x1), some (.int x2), some (.int x3), some (.int x4)] [.int x4, .int x3, .int x2, .int x1, .ref f_34] z_24.2 i_129_83 rfl ?_
              obtain ⟨k_36, hd⟩ := dk_if hd
              obtain ⟨fs_37, o_38⟩ := isO_of k_36
              obtain ⟨z_39, q_40, hd⟩ := dk_bind hd
              refine wp_callV 88 rfl i_129_85 (by decide) rfl (vs := [.int x1, .int x2, .int x3, .int x4]) (rest := []) rfl rfl rfl o_38 (y := m_100) rfl (Nat.le_of_ble_eq_true rfl) (d_100_ok (d := e) (by omega) q_40) ?_
              rintro v_41 h_42 ⟨rfl, hz⟩
              have hz := hz.symm
              subst hz
              refine wp_s 89 [some (.ref a0), some (.int x1), some (.int x2), some (.int x3), some (.int x4)] [.ref a0] z_39 i_129_88 rfl ?_
              obtain ⟨f_43, q_44, hd⟩ := dk_bind hd
              refine hp_gR 92 rfl i_129_89 q_44 ?_
              obtain ⟨f_45, q_46, hd⟩ := dk_bind hd
              refine hp_gI 95 rfl i_129_92 q_46 ?_
              obtain rfl := Option.some.inj hd
              exact wp_iret i_129_95 ⟨rfl, rfl⟩
            · rw [if_neg c_33] at hd
              refine wp_s 75 [some (.ref a0), some (.int x1), some (.int x2), some (.int x3), some (.int x4)] [.int (-2 : Int32)] z_24.2 i_129_73 rfl ?_
              obtain rfl := Option.some.inj hd
              exact wp_iret i_129_75 ⟨rfl, rfl⟩
  · rw [if_neg c_1] at hd
    refine wp_s 6 [some (.ref a0), some (.int x1), some (.int x2), some (.int x3), some (.int x4)] [.ref a0] h0 i_129_5 rfl ?_
    obtain ⟨f_47, q_48, hd⟩ := dk_bind hd
    refine hp_gR 9 rfl i_129_6 q_48 ?_
    refine wp_s 10 [some (.ref a0), some (.int x1), some (.int x2), some (.int x3), some (.int x4)] [.int (0 : Int32), .ref f_47] h0 i_129_9 rfl ?_
    obtain ⟨h_49, q_50, hd⟩ := dk_bind hd
    refine hp_sF 13 rfl i_129_10 q_50 ?_
    refine wp_s 14 [some (.ref a0), some (.int x1), some (.int x2), some (.int x3), some (.int x4)] [.int (0 : Int32)] h_49 i_129_13 rfl ?_
    obtain rfl := Option.some.inj hd
    exact wp_iret i_129_14 ⟨rfl, rfl⟩
def d_130 (g : Nat) (a0 : Nat) (x1 : Int32) (h0 : aH) : Option (Int32 × aH) := ((gR h0 a0 11 3).bind (fun f_1 => ((gR h0 f_1 10 0).bind (fun f_3 => ((gI h0 f_3 5 0).bind (fun f_5 => (if f_5 = 0 then some ((-3 : Int32), h0) else (if x1 < 0 then some ((-3 : Int32), h0) else (if x1 ≤ (1 : Int32) then ((gR h0 a0 11 5).bind (fun f_10 => (if isO h0 f_10 2 = true then ((d_32 g f_10 h0).bind (fun z_15 => (if ¬ x1 = 0 then ((gR z_15 a0 11 5).bind (fun f_20 => ((gI z_15 f_20 2 17).bind (fun f_22 => (if f_22 ≤ 0 then some ((-2 : Int32), z_15) else ((gR z_15 a0 11 5).bind (fun f_25 => ((gR z_15 f_25 2 8).bind (fun f_27 => ((gA z_15 f_27 (0 : Int32)).bind (fun f_29 => some (f_29, z_15)))))))))))) else ((gR z_15 a0 11 5).bind (fun f_31 => ((gI z_15 f_31 2 17).bind (fun f_33 => some (f_33, z_15)))))))) else none))) else some ((-3 : Int32), h0))))))))))
set_option maxHeartbeats 4000000 in
set_option maxRecDepth 100000 in
theorem d_130_ok {X : aX} {g : Nat} {a0 : Nat} {x1 : Int32} {h0 : aH} {zz : Int32 × aH} {d : Nat} (hdp : 6 ≤ d) (hd : d_130 g a0 x1 h0 = some zz) : aWp X d 130 0 (aEntL [.ref a0, .int x1] 2) [] h0 (fun w h' => w = some (.int zz.1) ∧ h' = zz.2) := by
  unfold d_130 at hd
  refine wp_lv (l2 := [some (.ref a0), some (.int x1)]) rfl ?_
  obtain ⟨e, rfl⟩ : ∃ e, d = e + 1 := ⟨d - 1, by omega⟩
  refine wp_s 1 [some (.ref a0), some (.int x1)] [.ref a0] h0 i_130_0 rfl ?_
  obtain ⟨f_1, q_2, hd⟩ := dk_bind hd
  refine hp_gR 4 rfl i_130_1 q_2 ?_
  obtain ⟨f_3, q_4, hd⟩ := dk_bind hd
  refine hp_gR 7 rfl i_130_4 q_4 ?_
  obtain ⟨f_5, q_6, hd⟩ := dk_bind hd
  refine hp_gI 10 rfl i_130_7 q_6 ?_
  refine wp_if_eq 22 13 rfl rfl i_130_10 (fun c_7 => ?_) (fun c_7 => ?_)
  · rw [if_pos c_7] at hd
    refine wp_s 24 [some (.ref a0), some (.int x1)] [.int (-3 : Int32)] h0 i_130_22 rfl ?_
    obtain rfl := Option.some.inj hd
    exact wp_iret i_130_24 ⟨rfl, rfl⟩
  · rw [if_neg c_7] at hd
    refine wp_s 14 [some (.ref a0), some (.int x1)] [.int x1] h0 i_130_13 rfl ?_
    refine wp_if_lt 22 17 rfl rfl i_130_14 (fun c_8 => ?_) (fun c_8 => ?_)
    · rw [if_pos c_8] at hd
      refine wp_s 24 [some (.ref a0), some (.int x1)] [.int (-3 : Int32)] h0 i_130_22 rfl ?_
      obtain rfl := Option.some.inj hd
      exact wp_iret i_130_24 ⟨rfl, rfl⟩
    · rw [if_neg c_8] at hd
      refine wp_s 18 [some (.ref a0), some (.int x1)] [.int x1] h0 i_130_17 rfl ?_
      refine wp_s 19 [some (.ref a0), some (.int x1)] [.int (1 : Int32), .int x1] h0 i_130_18 rfl ?_
      refine wp_cmp_le 25 22 rfl rfl i_130_19 (fun c_9 => ?_) (fun c_9 => ?_)
      · rw [if_pos c_9] at hd
        refine wp_s 26 [some (.ref a0), some (.int x1)] [.ref a0] h0 i_130_25 rfl ?_
        obtain ⟨f_10, q_11, hd⟩ := dk_bind hd
        refine hp_gR 29 rfl i_130_26 q_11 ?_
        obtain ⟨k_12, hd⟩ := dk_if hd
        obtain ⟨fs_13, o_14⟩ := isO_of k_12
        obtain ⟨z_15, q_16, hd⟩ := dk_bind hd
        refine wp_callV 32 rfl i_130_29 (by decide) rfl (vs := []) (rest := []) rfl rfl rfl o_14 (y := m_32) rfl (Nat.le_of_ble_eq_true rfl) (d_32_ok (d := e) (by omega) q_16) ?_
        rintro v_17 h_18 ⟨rfl, hz⟩
        have hz := hz.symm
        subst hz
        refine wp_s 33 [some (.ref a0), some (.int x1)] [.int x1] z_15 i_130_32 rfl ?_
        refine wp_if_ne 44 36 rfl rfl i_130_33 (fun c_19 => ?_) (fun c_19 => ?_)
        · rw [if_pos c_19] at hd
          refine wp_s 45 [some (.ref a0), some (.int x1)] [.ref a0] z_15 i_130_44 rfl ?_
          obtain ⟨f_20, q_21, hd⟩ := dk_bind hd
          refine hp_gR 48 rfl i_130_45 q_21 ?_
          obtain ⟨f_22, q_23, hd⟩ := dk_bind hd
          refine hp_gI 51 rfl i_130_48 q_23 ?_
          refine wp_if_le 66 54 rfl rfl i_130_51 (fun c_24 => ?_) (fun c_24 => ?_)
          · rw [if_pos c_24] at hd
            refine wp_s 68 [some (.ref a0), some (.int x1)] [.int (-2 : Int32)] z_15 i_130_66 rfl ?_
            obtain rfl := Option.some.inj hd
            exact wp_iret i_130_68 ⟨rfl, rfl⟩
          · rw [if_neg c_24] at hd
            refine wp_s 55 [some (.ref a0), some (.int x1)] [.ref a0] z_15 i_130_54 rfl ?_
            obtain ⟨f_25, q_26, hd⟩ := dk_bind hd
            refine hp_gR 58 rfl i_130_55 q_26 ?_
            obtain ⟨f_27, q_28, hd⟩ := dk_bind hd
            refine hp_gR 61 rfl i_130_58 q_28 ?_
            refine wp_s 62 [some (.ref a0), some (.int x1)] [.int (0 : Int32), .ref f_27] z_15 i_130_61 rfl ?_
            obtain ⟨f_29, q_30, hd⟩ := dk_bind hd
            refine hp_gA 63 rfl i_130_62 q_30 ?_
            refine wp_s 68 [some (.ref a0), some (.int x1)] [.int f_29] z_15 i_130_63 rfl ?_
            obtain rfl := Option.some.inj hd
            exact wp_iret i_130_68 ⟨rfl, rfl⟩
        · rw [if_neg c_19] at hd
          refine wp_s 37 [some (.ref a0), some (.int x1)] [.ref a0] z_15 i_130_36 rfl ?_
          obtain ⟨f_31, q_32, hd⟩ := dk_bind hd
          refine hp_gR 40 rfl i_130_37 q_32 ?_
          obtain ⟨f_33, q_34, hd⟩ := dk_bind hd
          refine hp_gI 43 rfl i_130_40 q_34 ?_
          obtain rfl := Option.some.inj hd
          exact wp_iret i_130_43 ⟨rfl, rfl⟩
      · rw [if_neg c_9] at hd
        refine wp_s 24 [some (.ref a0), some (.int x1)] [.int (-3 : Int32)] h0 i_130_22 rfl ?_
        obtain rfl := Option.some.inj hd
        exact wp_iret i_130_24 ⟨rfl, rfl⟩
def d_131 (g : Nat) (a0 : Nat) (x1 : Int32) (x2 : Int32) (x3 : Int32) (h0 : aH) : Option (Int32 × aH) := ((gR h0 a0 11 3).bind (fun f_1 => ((gR h0 f_1 10 0).bind (fun f_3 => (if isO h0 f_3 5 = true then ((d_55 g f_3 x1 h0).bind (fun z_8 => (if z_8.1 = 0 then some ((-1 : Int32), z_8.2) else ((d_138 g x2 (0 : Int32) (99 : Int32) z_8.2).bind (fun z_13 => (if z_13.1 = 0 then some ((-1 : Int32), z_13.2) else (if x3 < 0 then some ((-1 : Int32), z_13.2) else (if x3 ≤ (1 : Int32) then ((gR z_13.2 a0 11 5).bind (fun f_20 => (if isO z_13.2 f_20 2 = true then ((d_32 g f_20 z_13.2).bind (fun z_25 => ((gR z_25 a0 11 5).bind (fun f_29 => ((gI z_25 f_29 2 17).bind (fun f_31 => (if (1 : Int32) ≤ f_31 then ((gR z_25 a0 11 5).bind (fun f_34 => (if isO z_25 f_34 2 = true then ((d_34 g f_34 x1 x2 z_25).bind (fun z_39 => ((gR z_39 a0 11 5).bind (fun f_43 => ((gR z_39 f_43 2 2).bind (fun f_45 => (if isO z_39 f_45 0 = true then ((d_4 g f_45 ((1 : Int32) - x3) z_39).bind (fun z_50 => some (z_50.1, z_50.2))) else none))))))) else none))) else some ((-2 : Int32), z_25)))))))) else none))) else some ((-1 : Int32), z_13.2))))))))) else none)))))
set_option maxHeartbeats 4000000 in
set_option maxRecDepth 100000 in
theorem d_131_ok {X : aX} {g : Nat} {a0 : Nat} {x1 : Int32} {x2 : Int32} {x3 : Int32} {h0 : aH} {zz : Int32 × aH} {d : Nat} (hdp : 6 ≤ d) (hd : d_131 g a0 x1 x2 x3 h0 = some zz) : aWp X d 131 0 (aEntL [.ref a0, .int x1, .int x2, .int x3] 4) [] h0 (fun w h' => w = some (.int zz.1) ∧ h' = zz.2) := by
  unfold d_131 at hd
  refine wp_lv (l2 := [some (.ref a0), some (.int x1), some (.int x2), some (.int x3)]) rfl ?_
  obtain ⟨e, rfl⟩ : ∃ e, d = e + 1 := ⟨d - 1, by omega⟩
  refine wp_s 1 [some (.ref a0), some (.int x1), some (.int x2), some (.int x3)] [.ref a0] h0 i_131_0 rfl ?_
  obtain ⟨f_1, q_2, hd⟩ := dk_bind hd
  refine hp_gR 4 rfl i_131_1 q_2 ?_
  obtain ⟨f_3, q_4, hd⟩ := dk_bind hd
  refine hp_gR 7 rfl i_131_4 q_4 ?_
  refine wp_s 8 [some (.ref a0), some (.int x1), some (.int x2), some (.int x3)] [.int x1, .ref f_3] h0 i_131_7 rfl ?_
  obtain ⟨k_5, hd⟩ := dk_if hd
  obtain ⟨fs_6, o_7⟩ := isO_of k_5
  obtain ⟨z_8, q_9, hd⟩ := dk_bind hd
  refine wp_callV 11 rfl i_131_8 (by decide) rfl (vs := [.int x1]) (rest := []) rfl rfl rfl o_7 (y := m_55) rfl (Nat.le_of_ble_eq_true rfl) (d_55_ok (d := e) (by omega) q_9) ?_
  rintro v_10 h_11 ⟨rfl, rfl⟩
  refine wp_if_eq 33 14 rfl rfl i_131_11 (fun c_12 => ?_) (fun c_12 => ?_)
  · rw [if_pos c_12] at hd
    refine wp_s 34 [some (.ref a0), some (.int x1), some (.int x2), some (.int x3)] [.int (-1 : Int32)] z_8.2 i_131_33 rfl ?_
    obtain rfl := Option.some.inj hd
    exact wp_iret i_131_34 ⟨rfl, rfl⟩
  · rw [if_neg c_12] at hd
    refine wp_s 15 [some (.ref a0), some (.int x1), some (.int x2), some (.int x3)] [.int x2] z_8.2 i_131_14 rfl ?_
    refine wp_s 16 [some (.ref a0), some (.int x1), some (.int x2), some (.int x3)] [.int (0 : Int32), .int x2] z_8.2 i_131_15 rfl ?_
    refine wp_s 18 [some (.ref a0), some (.int x1), some (.int x2), some (.int x3)] [.int (99 : Int32), .int (0 : Int32), .int x2] z_8.2 i_131_16 rfl ?_
    obtain ⟨z_13, q_14, hd⟩ := dk_bind hd
    refine wp_callS 21 rfl i_131_18 (by decide) (vs := [.int x2, .int (0 : Int32), .int (99 : Int32)]) (rest := []) rfl rfl rfl (y := m_138) rfl (Nat.le_of_ble_eq_true rfl) (d_138_ok (d := e) (by omega) q_14) ?_
    rintro v_15 h_16 ⟨rfl, rfl⟩
    refine wp_if_eq 33 24 rfl rfl i_131_21 (fun c_17 => ?_) (fun c_17 => ?_)
    · rw [if_pos c_17] at hd
      refine wp_s 34 [some (.ref a0), some (.int x1), some (.int x2), some (.int x3)] [.int (-1 : Int32)] z_13.2 i_131_33 rfl ?_
      obtain rfl := Option.some.inj hd
      exact wp_iret i_131_34 ⟨rfl, rfl⟩
    · rw [if_neg c_17] at hd
      refine wp_s 25 [some (.ref a0), some (.int x1), some (.int x2), some (.int x3)] [.int x3] z_13.2 i_131_24 rfl ?_
      refine wp_if_lt 33 28 rfl rfl i_131_25 (fun c_18 => ?_) (fun c_18 => ?_)
      · rw [if_pos c_18] at hd
        refine wp_s 34 [some (.ref a0), some (.int x1), some (.int x2), some (.int x3)] [.int (-1 : Int32)] z_13.2 i_131_33 rfl ?_
        obtain rfl := Option.some.inj hd
        exact wp_iret i_131_34 ⟨rfl, rfl⟩
      · rw [if_neg c_18] at hd
        refine wp_s 29 [some (.ref a0), some (.int x1), some (.int x2), some (.int x3)] [.int x3] z_13.2 i_131_28 rfl ?_
        refine wp_s 30 [some (.ref a0), some (.int x1), some (.int x2), some (.int x3)] [.int (1 : Int32), .int x3] z_13.2 i_131_29 rfl ?_
        refine wp_cmp_le 35 33 rfl rfl i_131_30 (fun c_19 => ?_) (fun c_19 => ?_)
        · rw [if_pos c_19] at hd
          refine wp_s 36 [some (.ref a0), some (.int x1), some (.int x2), some (.int x3)] [.ref a0] z_13.2 i_131_35 rfl ?_
          obtain ⟨f_20, q_21, hd⟩ := dk_bind hd
          refine hp_gR 39 rfl i_131_36 q_21 ?_
          obtain ⟨k_22, hd⟩ := dk_if hd
          obtain ⟨fs_23, o_24⟩ := isO_of k_22
          obtain ⟨z_25, q_26, hd⟩ := dk_bind hd
          refine wp_callV 42 rfl i_131_39 (by decide) rfl (vs := []) (rest := []) rfl rfl rfl o_24 (y := m_32) rfl (Nat.le_of_ble_eq_true rfl) (d_32_ok (d := e) (by omega) q_26) ?_
          rintro v_27 h_28 ⟨rfl, hz⟩
          have hz := hz.symm
          subst hz
          refine wp_s 43 [some (.ref a0), some (.int x1), some (.int x2), some (.int x3)] [.ref a0] z_25 i_131_42 rfl ?_
          obtain ⟨f_29, q_30, hd⟩ := dk_bind hd
          refine hp_gR 46 rfl i_131_43 q_30 ?_
          obtain ⟨f_31, q_32, hd⟩ := dk_bind hd
          refine hp_gI 49 rfl i_131_46 q_32 ?_
          refine wp_s 50 [some (.ref a0), some (.int x1), some (.int x2), some (.int x3)] [.int (1 : Int32), .int f_31] z_25 i_131_49 rfl ?_
          refine wp_cmp_ge 56 53 rfl rfl i_131_50 (fun c_33 => ?_) (fun c_33 => ?_)
          · rw [if_pos c_33] at hd
            refine wp_s 57 [some (.ref a0), some (.int x1), some (.int x2), some (.int x3)] [.ref a0] z_25 i_131_56 rfl ?_
            obtain ⟨f_34, q_35, hd⟩ := dk_bind hd
            refine hp_gR 60 rfl i_131_57 q_35 ?_
            refine wp_s 61 [some (.ref a0), some (.int x1), some (.int x2), some (.int x3)] [.int x1, .ref f_34] z_25 i_131_60 rfl ?_
            refine wp_s 62 [some (.ref a0), some (.int x1), some (.int x2), some (.int x3)] [.int x2, .int x1, .ref f_34] z_25 i_131_61 rfl ?_
            obtain ⟨k_36, hd⟩ := dk_if hd
            obtain ⟨fs_37, o_38⟩ := isO_of k_36
            obtain ⟨z_39, q_40, hd⟩ := dk_bind hd
            refine wp_callV 65 rfl i_131_62 (by decide) rfl (vs := [.int x1, .int x2]) (rest := []) rfl rfl rfl o_38 (y := m_34) rfl (Nat.le_of_ble_eq_true rfl) (d_34_ok (d := e) (by omega) q_40) ?_
            rintro v_41 h_42 ⟨rfl, hz⟩
            have hz := hz.symm
            subst hz
            refine wp_s 66 [some (.ref a0), some (.int x1), some (.int x2), some (.int x3)] [.ref a0] z_39 i_131_65 rfl ?_
            obtain ⟨f_43, q_44, hd⟩ := dk_bind hd
            refine hp_gR 69 rfl i_131_66 q_44 ?_
            obtain ⟨f_45, q_46, hd⟩ := dk_bind hd
            refine hp_gR 72 rfl i_131_69 q_46 ?_
            refine wp_s 73 [some (.ref a0), some (.int x1), some (.int x2), some (.int x3)] [.int (1 : Int32), .ref f_45] z_39 i_131_72 rfl ?_
            refine wp_s 74 [some (.ref a0), some (.int x1), some (.int x2), some (.int x3)] [.int x3, .int (1 : Int32), .ref f_45] z_39 i_131_73 rfl ?_
            refine wp_s 75 [some (.ref a0), some (.int x1), some (.int x2), some (.int x3)] [.int ((1 : Int32) - x3), .ref f_45] z_39 i_131_74 rfl ?_
            obtain ⟨k_47, hd⟩ := dk_if hd
            obtain ⟨fs_48, o_49⟩ := isO_of k_47
            obtain ⟨z_50, q_51, hd⟩ := dk_bind hd
            refine wp_callV 78 rfl i_131_75 (by decide) rfl (vs := [.int ((1 : Int32) - x3)]) (rest := []) rfl rfl rfl o_49 (y := m_4) rfl (Nat.le_of_ble_eq_true rfl) (d_4_ok (d := e) (by omega) q_51) ?_
            rintro v_52 h_53 ⟨rfl, rfl⟩
            obtain rfl := Option.some.inj hd
            exact wp_iret i_131_78 ⟨rfl, rfl⟩
          · rw [if_neg c_33] at hd
            refine wp_s 55 [some (.ref a0), some (.int x1), some (.int x2), some (.int x3)] [.int (-2 : Int32)] z_25 i_131_53 rfl ?_
            obtain rfl := Option.some.inj hd
            exact wp_iret i_131_55 ⟨rfl, rfl⟩
        · rw [if_neg c_19] at hd
          refine wp_s 34 [some (.ref a0), some (.int x1), some (.int x2), some (.int x3)] [.int (-1 : Int32)] z_13.2 i_131_33 rfl ?_
          obtain rfl := Option.some.inj hd
          exact wp_iret i_131_34 ⟨rfl, rfl⟩
def d_132 (g : Nat) (a0 : Nat) (x1 : Int32) (x2 : Int32) (h0 : aH) : Option (Int32 × aH) := ((gR h0 a0 11 3).bind (fun f_1 => ((gR h0 f_1 10 0).bind (fun f_3 => (if isO h0 f_3 5 = true then ((d_55 g f_3 x1 h0).bind (fun z_8 => (if z_8.1 = 0 then some ((-1 : Int32), z_8.2) else (if x2 < 0 then some ((-1 : Int32), z_8.2) else (if x2 ≤ (1 : Int32) then ((gR z_8.2 a0 11 5).bind (fun f_15 => (if isO z_8.2 f_15 2 = true then ((d_36 g f_15 x1 z_8.2).bind (fun z_20 => ((gR z_20 a0 11 5).bind (fun f_24 => ((gR z_20 f_24 2 2).bind (fun f_26 => (if isO z_20 f_26 0 = true then ((d_4 g f_26 ((1 : Int32) - x2) z_20).bind (fun z_31 => some (z_31.1, z_31.2))) else none))))))) else none))) else some ((-1 : Int32), z_8.2)))))) else none)))))
set_option maxHeartbeats 4000000 in
set_option maxRecDepth 100000 in
theorem d_132_ok {X : aX} {g : Nat} {a0 : Nat} {x1 : Int32} {x2 : Int32} {h0 : aH} {zz : Int32 × aH} {d : Nat} (hdp : 6 ≤ d) (hd : d_132 g a0 x1 x2 h0 = some zz) : aWp X d 132 0 (aEntL [.ref a0, .int x1, .int x2] 3) [] h0 (fun w h' => w = some (.int zz.1) ∧ h' = zz.2) := by
  unfold d_132 at hd
  refine wp_lv (l2 := [some (.ref a0), some (.int x1), some (.int x2)]) rfl ?_
  obtain ⟨e, rfl⟩ : ∃ e, d = e + 1 := ⟨d - 1, by omega⟩
  refine wp_s 1 [some (.ref a0), some (.int x1), some (.int x2)] [.ref a0] h0 i_132_0 rfl ?_
  obtain ⟨f_1, q_2, hd⟩ := dk_bind hd
  refine hp_gR 4 rfl i_132_1 q_2 ?_
  obtain ⟨f_3, q_4, hd⟩ := dk_bind hd
  refine hp_gR 7 rfl i_132_4 q_4 ?_
  refine wp_s 8 [some (.ref a0), some (.int x1), some (.int x2)] [.int x1, .ref f_3] h0 i_132_7 rfl ?_
  obtain ⟨k_5, hd⟩ := dk_if hd
  obtain ⟨fs_6, o_7⟩ := isO_of k_5
  obtain ⟨z_8, q_9, hd⟩ := dk_bind hd
  refine wp_callV 11 rfl i_132_8 (by decide) rfl (vs := [.int x1]) (rest := []) rfl rfl rfl o_7 (y := m_55) rfl (Nat.le_of_ble_eq_true rfl) (d_55_ok (d := e) (by omega) q_9) ?_
  rintro v_10 h_11 ⟨rfl, rfl⟩
  refine wp_if_eq 23 14 rfl rfl i_132_11 (fun c_12 => ?_) (fun c_12 => ?_)
  · rw [if_pos c_12] at hd
    refine wp_s 24 [some (.ref a0), some (.int x1), some (.int x2)] [.int (-1 : Int32)] z_8.2 i_132_23 rfl ?_
    obtain rfl := Option.some.inj hd
    exact wp_iret i_132_24 ⟨rfl, rfl⟩
  · rw [if_neg c_12] at hd
    refine wp_s 15 [some (.ref a0), some (.int x1), some (.int x2)] [.int x2] z_8.2 i_132_14 rfl ?_
    refine wp_if_lt 23 18 rfl rfl i_132_15 (fun c_13 => ?_) (fun c_13 => ?_)
    · rw [if_pos c_13] at hd
      refine wp_s 24 [some (.ref a0), some (.int x1), some (.int x2)] [.int (-1 : Int32)] z_8.2 i_132_23 rfl ?_
      obtain rfl := Option.some.inj hd
      exact wp_iret i_132_24 ⟨rfl, rfl⟩
    · rw [if_neg c_13] at hd
      refine wp_s 19 [some (.ref a0), some (.int x1), some (.int x2)] [.int x2] z_8.2 i_132_18 rfl ?_
      refine wp_s 20 [some (.ref a0), some (.int x1), some (.int x2)] [.int (1 : Int32), .int x2] z_8.2 i_132_19 rfl ?_
      refine wp_cmp_le 25 23 rfl rfl i_132_20 (fun c_14 => ?_) (fun c_14 => ?_)
      · rw [if_pos c_14] at hd
        refine wp_s 26 [some (.ref a0), some (.int x1), some (.int x2)] [.ref a0] z_8.2 i_132_25 rfl ?_
        obtain ⟨f_15, q_16, hd⟩ := dk_bind hd
        refine hp_gR 29 rfl i_132_26 q_16 ?_
        refine wp_s 30 [some (.ref a0), some (.int x1), some (.int x2)] [.int x1, .ref f_15] z_8.2 i_132_29 rfl ?_
        obtain ⟨k_17, hd⟩ := dk_if hd
        obtain ⟨fs_18, o_19⟩ := isO_of k_17
        obtain ⟨z_20, q_21, hd⟩ := dk_bind hd
        refine wp_callV 33 rfl i_132_30 (by decide) rfl (vs := [.int x1]) (rest := []) rfl rfl rfl o_19 (y := m_36) rfl (Nat.le_of_ble_eq_true rfl) (d_36_ok (d := e) (by omega) q_21) ?_
        rintro v_22 h_23 ⟨rfl, hz⟩
        have hz := hz.symm
        subst hz
        refine wp_s 34 [some (.ref a0), some (.int x1), some (.int x2)] [.ref a0] z_20 i_132_33 rfl ?_
        obtain ⟨f_24, q_25, hd⟩ := dk_bind hd
        refine hp_gR 37 rfl i_132_34 q_25 ?_
        obtain ⟨f_26, q_27, hd⟩ := dk_bind hd
        refine hp_gR 40 rfl i_132_37 q_27 ?_
        refine wp_s 41 [some (.ref a0), some (.int x1), some (.int x2)] [.int (1 : Int32), .ref f_26] z_20 i_132_40 rfl ?_
        refine wp_s 42 [some (.ref a0), some (.int x1), some (.int x2)] [.int x2, .int (1 : Int32), .ref f_26] z_20 i_132_41 rfl ?_
        refine wp_s 43 [some (.ref a0), some (.int x1), some (.int x2)] [.int ((1 : Int32) - x2), .ref f_26] z_20 i_132_42 rfl ?_
        obtain ⟨k_28, hd⟩ := dk_if hd
        obtain ⟨fs_29, o_30⟩ := isO_of k_28
        obtain ⟨z_31, q_32, hd⟩ := dk_bind hd
        refine wp_callV 46 rfl i_132_43 (by decide) rfl (vs := [.int ((1 : Int32) - x2)]) (rest := []) rfl rfl rfl o_30 (y := m_4) rfl (Nat.le_of_ble_eq_true rfl) (d_4_ok (d := e) (by omega) q_32) ?_
        rintro v_33 h_34 ⟨rfl, rfl⟩
        obtain rfl := Option.some.inj hd
        exact wp_iret i_132_46 ⟨rfl, rfl⟩
      · rw [if_neg c_14] at hd
        refine wp_s 24 [some (.ref a0), some (.int x1), some (.int x2)] [.int (-1 : Int32)] z_8.2 i_132_23 rfl ?_
        obtain rfl := Option.some.inj hd
        exact wp_iret i_132_24 ⟨rfl, rfl⟩
def d_133 (g : Nat) (a0 : Nat) (x1 : Int32) (h0 : aH) : Option (Int32 × aH) := (if 0 ≤ x1 then ((gR h0 a0 11 3).bind (fun f_2 => ((gI h0 f_2 10 3).bind (fun f_4 => ((gR h0 a0 11 3).bind (fun f_6 => ((sF h0 f_6 10 3 (.int x1)).bind (fun h_8 => some (f_4, h_8))))))))) else some ((-1 : Int32), h0))
set_option maxHeartbeats 4000000 in
set_option maxRecDepth 100000 in
theorem d_133_ok {X : aX} {g : Nat} {a0 : Nat} {x1 : Int32} {h0 : aH} {zz : Int32 × aH} {d : Nat} (hdp : 0 ≤ d) (hd : d_133 g a0 x1 h0 = some zz) : aWp X d 133 0 (aEntL [.ref a0, .int x1] 3) [] h0 (fun w h' => w = some (.int zz.1) ∧ h' = zz.2) := by
  unfold d_133 at hd
  refine wp_lv (l2 := [some (.ref a0), some (.int x1), none]) rfl ?_
  refine wp_s 1 [some (.ref a0), some (.int x1), none] [.int x1] h0 i_133_0 rfl ?_
  refine wp_if_ge 6 4 rfl rfl i_133_1 (fun c_1 => ?_) (fun c_1 => ?_)
  · rw [if_pos c_1] at hd
    refine wp_s 7 [some (.ref a0), some (.int x1), none] [.ref a0] h0 i_133_6 rfl ?_
    obtain ⟨f_2, q_3, hd⟩ := dk_bind hd
    refine hp_gR 10 rfl i_133_7 q_3 ?_
    obtain ⟨f_4, q_5, hd⟩ := dk_bind hd
    refine hp_gI 13 rfl i_133_10 q_5 ?_
    refine wp_s 14 [some (.ref a0), some (.int x1), some (.int f_4)] [] h0 i_133_13 rfl ?_
    refine wp_s 15 [some (.ref a0), some (.int x1), some (.int f_4)] [.ref a0] h0 i_133_14 rfl ?_
    obtain ⟨f_6, q_7, hd⟩ := dk_bind hd
    refine hp_gR 18 rfl i_133_15 q_7 ?_
    refine wp_s 19 [some (.ref a0), some (.int x1), some (.int f_4)] [.int x1, .ref f_6] h0 i_133_18 rfl ?_
    obtain ⟨h_8, q_9, hd⟩ := dk_bind hd
    refine hp_sF 22 rfl i_133_19 q_9 ?_
    refine wp_s 23 [some (.ref a0), some (.int x1), some (.int f_4)] [.int f_4] h_8 i_133_22 rfl ?_
    obtain rfl := Option.some.inj hd
    exact wp_iret i_133_23 ⟨rfl, rfl⟩
  · rw [if_neg c_1] at hd
    refine wp_s 5 [some (.ref a0), some (.int x1), none] [.int (-1 : Int32)] h0 i_133_4 rfl ?_
    obtain rfl := Option.some.inj hd
    exact wp_iret i_133_5 ⟨rfl, rfl⟩
def d_134 (g : Nat) (a0 : Nat) (x1 : Int32) (x2 : Int32) (x3 : Int32) (h0 : aH) : Option (Int32 × aH) := ((gR h0 a0 11 3).bind (fun f_1 => ((gR h0 f_1 10 0).bind (fun f_3 => ((gI h0 f_3 5 0).bind (fun f_5 => (if f_5 = 0 then some ((-1 : Int32), h0) else ((d_138 g x1 (1 : Int32) (10 : Int32) h0).bind (fun z_8 => (if z_8.1 = 0 then some ((-1 : Int32), z_8.2) else ((d_138 g x2 (1 : Int32) (60 : Int32) z_8.2).bind (fun z_13 => (if z_13.1 = 0 then some ((-1 : Int32), z_13.2) else (if x3 < 0 then some ((-1 : Int32), z_13.2) else (if x3 ≤ (1 : Int32) then ((gR z_13.2 a0 11 5).bind (fun f_20 => (if isO z_13.2 f_20 2 = true then ((d_37 g f_20 x1 x2 z_13.2).bind (fun z_25 => (if ¬ x3 = 0 then ((gR z_25 a0 11 5).bind (fun f_30 => ((gI z_25 f_30 2 19).bind (fun f_32 => some (f_32, z_25))))) else ((gR z_25 a0 11 5).bind (fun f_34 => ((gI z_25 f_34 2 18).bind (fun f_36 => some (f_36, z_25)))))))) else none))) else some ((-1 : Int32), z_13.2))))))))))))))))
set_option maxHeartbeats 4000000 in
set_option maxRecDepth 100000 in
theorem d_134_ok {X : aX} {g : Nat} {a0 : Nat} {x1 : Int32} {x2 : Int32} {x3 : Int32} {h0 : aH} {zz : Int32 × aH} {d : Nat} (hdp : 7 ≤ d) (hd : d_134 g a0 x1 x2 x3 h0 = some zz) : aWp X d 134 0 (aEntL [.ref a0, .int x1, .int x2, .int x3] 4) [] h0 (fun w h' => w = some (.int zz.1) ∧ h' = zz.2) := by
  unfold d_134 at hd
  refine wp_lv (l2 := [some (.ref a0), some (.int x1), some (.int x2), some (.int x3)]) rfl ?_
  obtain ⟨e, rfl⟩ : ∃ e, d = e + 1 := ⟨d - 1, by omega⟩
  refine wp_s 1 [some (.ref a0), some (.int x1), some (.int x2), some (.int x3)] [.ref a0] h0 i_134_0 rfl ?_
  obtain ⟨f_1, q_2, hd⟩ := dk_bind hd
  refine hp_gR 4 rfl i_134_1 q_2 ?_
  obtain ⟨f_3, q_4, hd⟩ := dk_bind hd
  refine hp_gR 7 rfl i_134_4 q_4 ?_
  obtain ⟨f_5, q_6, hd⟩ := dk_bind hd
  refine hp_gI 10 rfl i_134_7 q_6 ?_
  refine wp_if_eq 42 13 rfl rfl i_134_10 (fun c_7 => ?_) (fun c_7 => ?_)
  · rw [if_pos c_7] at hd
    refine wp_s 43 [some (.ref a0), some (.int x1), some (.int x2), some (.int x3)] [.int (-1 : Int32)] h0 i_134_42 rfl ?_
    obtain rfl := Option.some.inj hd
    exact wp_iret i_134_43 ⟨rfl, rfl⟩
  · rw [if_neg c_7] at hd
    refine wp_s 14 [some (.ref a0), some (.int x1), some (.int x2), some (.int x3)] [.int x1] h0 i_134_13 rfl ?_
    refine wp_s 15 [some (.ref a0), some (.int x1), some (.int x2), some (.int x3)] [.int (1 : Int32), .int x1] h0 i_134_14 rfl ?_
    refine wp_s 17 [some (.ref a0), some (.int x1), some (.int x2), some (.int x3)] [.int (10 : Int32), .int (1 : Int32), .int x1] h0 i_134_15 rfl ?_
    obtain ⟨z_8, q_9, hd⟩ := dk_bind hd
    refine wp_callS 20 rfl i_134_17 (by decide) (vs := [.int x1, .int (1 : Int32), .int (10 : Int32)]) (rest := []) rfl rfl rfl (y := m_138) rfl (Nat.le_of_ble_eq_true rfl) (d_138_ok (d := e) (by omega) q_9) ?_
    rintro v_10 h_11 ⟨rfl, rfl⟩
    refine wp_if_eq 42 23 rfl rfl i_134_20 (fun c_12 => ?_) (fun c_12 => ?_)
    · rw [if_pos c_12] at hd
      refine wp_s 43 [some (.ref a0), some (.int x1), some (.int x2), some (.int x3)] [.int (-1 : Int32)] z_8.2 i_134_42 rfl ?_
      obtain rfl := Option.some.inj hd
      exact wp_iret i_134_43 ⟨rfl, rfl⟩
    · rw [if_neg c_12] at hd
      refine wp_s 24 [some (.ref a0), some (.int x1), some (.int x2), some (.int x3)] [.int x2] z_8.2 i_134_23 rfl ?_
      refine wp_s 25 [some (.ref a0), some (.int x1), some (.int x2), some (.int x3)] [.int (1 : Int32), .int x2] z_8.2 i_134_24 rfl ?_
      refine wp_s 27 [some (.ref a0), some (.int x1), some (.int x2), some (.int x3)] [.int (60 : Int32), .int (1 : Int32), .int x2] z_8.2 i_134_25 rfl ?_
      obtain ⟨z_13, q_14, hd⟩ := dk_bind hd
      refine wp_callS 30 rfl i_134_27 (by decide) (vs := [.int x2, .int (1 : Int32), .int (60 : Int32)]) (rest := []) rfl rfl rfl (y := m_138) rfl (Nat.le_of_ble_eq_true rfl) (d_138_ok (d := e) (by omega) q_14) ?_
      rintro v_15 h_16 ⟨rfl, rfl⟩
      refine wp_if_eq 42 33 rfl rfl i_134_30 (fun c_17 => ?_) (fun c_17 => ?_)
      · rw [if_pos c_17] at hd
        refine wp_s 43 [some (.ref a0), some (.int x1), some (.int x2), some (.int x3)] [.int (-1 : Int32)] z_13.2 i_134_42 rfl ?_
        obtain rfl := Option.some.inj hd
        exact wp_iret i_134_43 ⟨rfl, rfl⟩
      · rw [if_neg c_17] at hd
        refine wp_s 34 [some (.ref a0), some (.int x1), some (.int x2), some (.int x3)] [.int x3] z_13.2 i_134_33 rfl ?_
        refine wp_if_lt 42 37 rfl rfl i_134_34 (fun c_18 => ?_) (fun c_18 => ?_)
        · rw [if_pos c_18] at hd
          refine wp_s 43 [some (.ref a0), some (.int x1), some (.int x2), some (.int x3)] [.int (-1 : Int32)] z_13.2 i_134_42 rfl ?_
          obtain rfl := Option.some.inj hd
          exact wp_iret i_134_43 ⟨rfl, rfl⟩
        · rw [if_neg c_18] at hd
          refine wp_s 38 [some (.ref a0), some (.int x1), some (.int x2), some (.int x3)] [.int x3] z_13.2 i_134_37 rfl ?_
          refine wp_s 39 [some (.ref a0), some (.int x1), some (.int x2), some (.int x3)] [.int (1 : Int32), .int x3] z_13.2 i_134_38 rfl ?_
          refine wp_cmp_le 44 42 rfl rfl i_134_39 (fun c_19 => ?_) (fun c_19 => ?_)
          · rw [if_pos c_19] at hd
            refine wp_s 45 [some (.ref a0), some (.int x1), some (.int x2), some (.int x3)] [.ref a0] z_13.2 i_134_44 rfl ?_
            obtain ⟨f_20, q_21, hd⟩ := dk_bind hd
            refine hp_gR 48 rfl i_134_45 q_21 ?_
            refine wp_s 49 [some (.ref a0), some (.int x1), some (.int x2), some (.int x3)] [.int x1, .ref f_20] z_13.2 i_134_48 rfl ?_
            refine wp_s 50 [some (.ref a0), some (.int x1), some (.int x2), some (.int x3)] [.int x2, .int x1, .ref f_20] z_13.2 i_134_49 rfl ?_
            obtain ⟨k_22, hd⟩ := dk_if hd
            obtain ⟨fs_23, o_24⟩ := isO_of k_22
            obtain ⟨z_25, q_26, hd⟩ := dk_bind hd
            refine wp_callV 53 rfl i_134_50 (by decide) rfl (vs := [.int x1, .int x2]) (rest := []) rfl rfl rfl o_24 (y := m_37) rfl (Nat.le_of_ble_eq_true rfl) (d_37_ok (d := e) (by omega) q_26) ?_
            rintro v_27 h_28 ⟨rfl, hz⟩
            have hz := hz.symm
            subst hz
            refine wp_s 54 [some (.ref a0), some (.int x1), some (.int x2), some (.int x3)] [.int x3] z_25 i_134_53 rfl ?_
            refine wp_if_ne 67 57 rfl rfl i_134_54 (fun c_29 => ?_) (fun c_29 => ?_)
            · rw [if_pos c_29] at hd
              refine wp_s 68 [some (.ref a0), some (.int x1), some (.int x2), some (.int x3)] [.ref a0] z_25 i_134_67 rfl ?_
              obtain ⟨f_30, q_31, hd⟩ := dk_bind hd
              refine hp_gR 71 rfl i_134_68 q_31 ?_
              obtain ⟨f_32, q_33, hd⟩ := dk_bind hd
              refine hp_gI 74 rfl i_134_71 q_33 ?_
              obtain rfl := Option.some.inj hd
              exact wp_iret i_134_74 ⟨rfl, rfl⟩
            · rw [if_neg c_29] at hd
              refine wp_s 58 [some (.ref a0), some (.int x1), some (.int x2), some (.int x3)] [.ref a0] z_25 i_134_57 rfl ?_
              obtain ⟨f_34, q_35, hd⟩ := dk_bind hd
              refine hp_gR 61 rfl i_134_58 q_35 ?_
              obtain ⟨f_36, q_37, hd⟩ := dk_bind hd
              refine hp_gI 64 rfl i_134_61 q_37 ?_
              refine wp_s 74 [some (.ref a0), some (.int x1), some (.int x2), some (.int x3)] [.int f_36] z_25 i_134_64 rfl ?_
              obtain rfl := Option.some.inj hd
              exact wp_iret i_134_74 ⟨rfl, rfl⟩
          · rw [if_neg c_19] at hd
            refine wp_s 43 [some (.ref a0), some (.int x1), some (.int x2), some (.int x3)] [.int (-1 : Int32)] z_13.2 i_134_42 rfl ?_
            obtain rfl := Option.some.inj hd
            exact wp_iret i_134_43 ⟨rfl, rfl⟩
def d_135 (g : Nat) (a0 : Nat) (x1 : Int32) (h0 : aH) : Option (Int32 × aH) := (if x1 = (0 : Int32) then ((gR h0 a0 11 3).bind (fun f_2 => ((gR h0 f_2 10 0).bind (fun f_4 => ((gI h0 f_4 5 1).bind (fun f_6 => some (f_6, h0))))))) else (if x1 = (1 : Int32) then ((gR h0 a0 11 3).bind (fun f_9 => ((gR h0 f_9 10 0).bind (fun f_11 => ((gI h0 f_11 5 2).bind (fun f_13 => some (f_13, h0))))))) else (if x1 = (2 : Int32) then ((gR h0 a0 11 3).bind (fun f_16 => ((gR h0 f_16 10 0).bind (fun f_18 => ((gI h0 f_18 5 4).bind (fun f_20 => some (f_20, h0))))))) else (if x1 = (3 : Int32) then ((gR h0 a0 11 3).bind (fun f_23 => ((gR h0 f_23 10 0).bind (fun f_25 => ((gI h0 f_25 5 8).bind (fun f_27 => some (f_27, h0))))))) else (if x1 = (4 : Int32) then ((gR h0 a0 11 3).bind (fun f_30 => ((gR h0 f_30 10 0).bind (fun f_32 => ((gI h0 f_32 5 15).bind (fun f_34 => some (f_34, h0))))))) else (if x1 = (5 : Int32) then ((gR h0 a0 11 4).bind (fun f_37 => ((gI h0 f_37 9 2).bind (fun f_39 => some (f_39, h0))))) else (if x1 = (6 : Int32) then ((gR h0 a0 11 3).bind (fun f_42 => ((gI h0 f_42 10 2).bind (fun f_44 => some (f_44, h0))))) else (if x1 = (7 : Int32) then ((gR h0 a0 11 3).bind (fun f_47 => ((gR h0 f_47 10 1).bind (fun f_49 => ((gI h0 f_49 7 13).bind (fun f_51 => some (f_51, h0))))))) else (if x1 = (8 : Int32) then ((gR h0 a0 11 3).bind (fun f_54 => ((gR h0 f_54 10 1).bind (fun f_56 => ((gI h0 f_56 7 11).bind (fun f_58 => some (f_58, h0))))))) else (if x1 = (9 : Int32) then ((gR h0 a0 11 3).bind (fun f_61 => ((gR h0 f_61 10 1).bind (fun f_63 => (if isO h0 f_63 7 = true then ((d_73 g f_63 h0).bind (fun z_68 => some (z_68.1, z_68.2))) else none))))) else (if x1 = (10 : Int32) then ((gR h0 a0 11 3).bind (fun f_73 => ((gR h0 f_73 10 1).bind (fun f_75 => ((gI h0 f_75 7 8).bind (fun f_77 => some (f_77, h0))))))) else (if x1 = (11 : Int32) then ((gR h0 a0 11 3).bind (fun f_80 => ((gI h0 f_80 10 8).bind (fun f_82 => some (f_82, h0))))) else (if x1 = (12 : Int32) then ((gR h0 a0 11 6).bind (fun f_85 => ((gI h0 f_85 1 2).bind (fun f_87 => some (f_87, h0))))) else (if x1 = (13 : Int32) then ((gR h0 a0 11 3).bind (fun f_90 => ((gI h0 f_90 10 3).bind (fun f_92 => some (f_92, h0))))) else (if x1 = (14 : Int32) then ((gR h0 a0 11 0).bind (fun f_95 => ((gI h0 f_95 8 1).bind (fun f_97 => some (f_97, h0))))) else some ((-1 : Int32), h0))))))))))))))))
set_option maxHeartbeats 4000000 in
set_option maxRecDepth 100000 in
theorem d_135_ok {X : aX} {g : Nat} {a0 : Nat} {x1 : Int32} {h0 : aH} {zz : Int32 × aH} {d : Nat} (hdp : 1 ≤ d) (hd : d_135 g a0 x1 h0 = some zz) : aWp X d 135 0 (aEntL [.ref a0, .int x1] 2) [] h0 (fun w h' => w = some (.int zz.1) ∧ h' = zz.2) := by
  unfold d_135 at hd
  refine wp_lv (l2 := [some (.ref a0), some (.int x1)]) rfl ?_
  obtain ⟨e, rfl⟩ : ∃ e, d = e + 1 := ⟨d - 1, by omega⟩
  refine wp_s 1 [some (.ref a0), some (.int x1)] [.int x1] h0 i_135_0 rfl ?_
  by_cases c_1 : x1 = (0 : Int32)
  · rw [if_pos c_1] at hd
    refine wp_tswC (j := 0) 76 i_135_1 (by rw [c_1]; decide) (by decide) rfl rfl ?_
    refine wp_s 77 [some (.ref a0), some (.int x1)] [.ref a0] h0 i_135_76 rfl ?_
    obtain ⟨f_2, q_3, hd⟩ := dk_bind hd
    refine hp_gR 80 rfl i_135_77 q_3 ?_
    obtain ⟨f_4, q_5, hd⟩ := dk_bind hd
    refine hp_gR 83 rfl i_135_80 q_5 ?_
    obtain ⟨f_6, q_7, hd⟩ := dk_bind hd
    refine hp_gI 86 rfl i_135_83 q_7 ?_
    obtain rfl := Option.some.inj hd
    exact wp_iret i_135_86 ⟨rfl, rfl⟩
  rw [if_neg c_1] at hd
  by_cases c_8 : x1 = (1 : Int32)
  · rw [if_pos c_8] at hd
    refine wp_tswC (j := 1) 87 i_135_1 (by rw [c_8]; decide) (by decide) rfl rfl ?_
    refine wp_s 88 [some (.ref a0), some (.int x1)] [.ref a0] h0 i_135_87 rfl ?_
    obtain ⟨f_9, q_10, hd⟩ := dk_bind hd
    refine hp_gR 91 rfl i_135_88 q_10 ?_
    obtain ⟨f_11, q_12, hd⟩ := dk_bind hd
    refine hp_gR 94 rfl i_135_91 q_12 ?_
    obtain ⟨f_13, q_14, hd⟩ := dk_bind hd
    refine hp_gI 97 rfl i_135_94 q_14 ?_
    obtain rfl := Option.some.inj hd
    exact wp_iret i_135_97 ⟨rfl, rfl⟩
  rw [if_neg c_8] at hd
  by_cases c_15 : x1 = (2 : Int32)
  · rw [if_pos c_15] at hd
    refine wp_tswC (j := 2) 98 i_135_1 (by rw [c_15]; decide) (by decide) rfl rfl ?_
    refine wp_s 99 [some (.ref a0), some (.int x1)] [.ref a0] h0 i_135_98 rfl ?_
    obtain ⟨f_16, q_17, hd⟩ := dk_bind hd
    refine hp_gR 102 rfl i_135_99 q_17 ?_
    obtain ⟨f_18, q_19, hd⟩ := dk_bind hd
    refine hp_gR 105 rfl i_135_102 q_19 ?_
    obtain ⟨f_20, q_21, hd⟩ := dk_bind hd
    refine hp_gI 108 rfl i_135_105 q_21 ?_
    obtain rfl := Option.some.inj hd
    exact wp_iret i_135_108 ⟨rfl, rfl⟩
  rw [if_neg c_15] at hd
  by_cases c_22 : x1 = (3 : Int32)
  · rw [if_pos c_22] at hd
    refine wp_tswC (j := 3) 109 i_135_1 (by rw [c_22]; decide) (by decide) rfl rfl ?_
    refine wp_s 110 [some (.ref a0), some (.int x1)] [.ref a0] h0 i_135_109 rfl ?_
    obtain ⟨f_23, q_24, hd⟩ := dk_bind hd
    refine hp_gR 113 rfl i_135_110 q_24 ?_
    obtain ⟨f_25, q_26, hd⟩ := dk_bind hd
    refine hp_gR 116 rfl i_135_113 q_26 ?_
    obtain ⟨f_27, q_28, hd⟩ := dk_bind hd
    refine hp_gI 119 rfl i_135_116 q_28 ?_
    obtain rfl := Option.some.inj hd
    exact wp_iret i_135_119 ⟨rfl, rfl⟩
  rw [if_neg c_22] at hd
  by_cases c_29 : x1 = (4 : Int32)
  · rw [if_pos c_29] at hd
    refine wp_tswC (j := 4) 120 i_135_1 (by rw [c_29]; decide) (by decide) rfl rfl ?_
    refine wp_s 121 [some (.ref a0), some (.int x1)] [.ref a0] h0 i_135_120 rfl ?_
    obtain ⟨f_30, q_31, hd⟩ := dk_bind hd
    refine hp_gR 124 rfl i_135_121 q_31 ?_
    obtain ⟨f_32, q_33, hd⟩ := dk_bind hd
    refine hp_gR 127 rfl i_135_124 q_33 ?_
    obtain ⟨f_34, q_35, hd⟩ := dk_bind hd
    refine hp_gI 130 rfl i_135_127 q_35 ?_
    obtain rfl := Option.some.inj hd
    exact wp_iret i_135_130 ⟨rfl, rfl⟩
  rw [if_neg c_29] at hd
  by_cases c_36 : x1 = (5 : Int32)
  · rw [if_pos c_36] at hd
    refine wp_tswC (j := 5) 131 i_135_1 (by rw [c_36]; decide) (by decide) rfl rfl ?_
    refine wp_s 132 [some (.ref a0), some (.int x1)] [.ref a0] h0 i_135_131 rfl ?_
    obtain ⟨f_37, q_38, hd⟩ := dk_bind hd
    refine hp_gR 135 rfl i_135_132 q_38 ?_
    obtain ⟨f_39, q_40, hd⟩ := dk_bind hd
    refine hp_gI 138 rfl i_135_135 q_40 ?_
    obtain rfl := Option.some.inj hd
    exact wp_iret i_135_138 ⟨rfl, rfl⟩
  rw [if_neg c_36] at hd
  by_cases c_41 : x1 = (6 : Int32)
  · rw [if_pos c_41] at hd
    refine wp_tswC (j := 6) 139 i_135_1 (by rw [c_41]; decide) (by decide) rfl rfl ?_
    refine wp_s 140 [some (.ref a0), some (.int x1)] [.ref a0] h0 i_135_139 rfl ?_
    obtain ⟨f_42, q_43, hd⟩ := dk_bind hd
    refine hp_gR 143 rfl i_135_140 q_43 ?_
    obtain ⟨f_44, q_45, hd⟩ := dk_bind hd
    refine hp_gI 146 rfl i_135_143 q_45 ?_
    obtain rfl := Option.some.inj hd
    exact wp_iret i_135_146 ⟨rfl, rfl⟩
  rw [if_neg c_41] at hd
  by_cases c_46 : x1 = (7 : Int32)
  · rw [if_pos c_46] at hd
    refine wp_tswC (j := 7) 147 i_135_1 (by rw [c_46]; decide) (by decide) rfl rfl ?_
    refine wp_s 148 [some (.ref a0), some (.int x1)] [.ref a0] h0 i_135_147 rfl ?_
    obtain ⟨f_47, q_48, hd⟩ := dk_bind hd
    refine hp_gR 151 rfl i_135_148 q_48 ?_
    obtain ⟨f_49, q_50, hd⟩ := dk_bind hd
    refine hp_gR 154 rfl i_135_151 q_50 ?_
    obtain ⟨f_51, q_52, hd⟩ := dk_bind hd
    refine hp_gI 157 rfl i_135_154 q_52 ?_
    obtain rfl := Option.some.inj hd
    exact wp_iret i_135_157 ⟨rfl, rfl⟩
  rw [if_neg c_46] at hd
  by_cases c_53 : x1 = (8 : Int32)
  · rw [if_pos c_53] at hd
    refine wp_tswC (j := 8) 158 i_135_1 (by rw [c_53]; decide) (by decide) rfl rfl ?_
    refine wp_s 159 [some (.ref a0), some (.int x1)] [.ref a0] h0 i_135_158 rfl ?_
    obtain ⟨f_54, q_55, hd⟩ := dk_bind hd
    refine hp_gR 162 rfl i_135_159 q_55 ?_
    obtain ⟨f_56, q_57, hd⟩ := dk_bind hd
    refine hp_gR 165 rfl i_135_162 q_57 ?_
    obtain ⟨f_58, q_59, hd⟩ := dk_bind hd
    refine hp_gI 168 rfl i_135_165 q_59 ?_
    obtain rfl := Option.some.inj hd
    exact wp_iret i_135_168 ⟨rfl, rfl⟩
  rw [if_neg c_53] at hd
  by_cases c_60 : x1 = (9 : Int32)
  · rw [if_pos c_60] at hd
    refine wp_tswC (j := 9) 169 i_135_1 (by rw [c_60]; decide) (by decide) rfl rfl ?_
    refine wp_s 170 [some (.ref a0), some (.int x1)] [.ref a0] h0 i_135_169 rfl ?_
    obtain ⟨f_61, q_62, hd⟩ := dk_bind hd
    refine hp_gR 173 rfl i_135_170 q_62 ?_
    obtain ⟨f_63, q_64, hd⟩ := dk_bind hd
    refine hp_gR 176 rfl i_135_173 q_64 ?_
    obtain ⟨k_65, hd⟩ := dk_if hd
    obtain ⟨fs_66, o_67⟩ := isO_of k_65
    obtain ⟨z_68, q_69, hd⟩ := dk_bind hd
    refine wp_callV 179 rfl i_135_176 (by decide) rfl (vs := []) (rest := []) rfl rfl rfl o_67 (y := m_73) rfl (Nat.le_of_ble_eq_true rfl) (d_73_ok (d := e) (by omega) q_69) ?_
    rintro v_70 h_71 ⟨rfl, rfl⟩
    obtain rfl := Option.some.inj hd
    exact wp_iret i_135_179 ⟨rfl, rfl⟩
  rw [if_neg c_60] at hd
  by_cases c_72 : x1 = (10 : Int32)
  · rw [if_pos c_72] at hd
    refine wp_tswC (j := 10) 180 i_135_1 (by rw [c_72]; decide) (by decide) rfl rfl ?_
    refine wp_s 181 [some (.ref a0), some (.int x1)] [.ref a0] h0 i_135_180 rfl ?_
    obtain ⟨f_73, q_74, hd⟩ := dk_bind hd
    refine hp_gR 184 rfl i_135_181 q_74 ?_
    obtain ⟨f_75, q_76, hd⟩ := dk_bind hd
    refine hp_gR 187 rfl i_135_184 q_76 ?_
    obtain ⟨f_77, q_78, hd⟩ := dk_bind hd
    refine hp_gI 190 rfl i_135_187 q_78 ?_
    obtain rfl := Option.some.inj hd
    exact wp_iret i_135_190 ⟨rfl, rfl⟩
  rw [if_neg c_72] at hd
  by_cases c_79 : x1 = (11 : Int32)
  · rw [if_pos c_79] at hd
    refine wp_tswC (j := 11) 191 i_135_1 (by rw [c_79]; decide) (by decide) rfl rfl ?_
    refine wp_s 192 [some (.ref a0), some (.int x1)] [.ref a0] h0 i_135_191 rfl ?_
    obtain ⟨f_80, q_81, hd⟩ := dk_bind hd
    refine hp_gR 195 rfl i_135_192 q_81 ?_
    obtain ⟨f_82, q_83, hd⟩ := dk_bind hd
    refine hp_gI 198 rfl i_135_195 q_83 ?_
    obtain rfl := Option.some.inj hd
    exact wp_iret i_135_198 ⟨rfl, rfl⟩
  rw [if_neg c_79] at hd
  by_cases c_84 : x1 = (12 : Int32)
  · rw [if_pos c_84] at hd
    refine wp_tswC (j := 12) 199 i_135_1 (by rw [c_84]; decide) (by decide) rfl rfl ?_
    refine wp_s 200 [some (.ref a0), some (.int x1)] [.ref a0] h0 i_135_199 rfl ?_
    obtain ⟨f_85, q_86, hd⟩ := dk_bind hd
    refine hp_gR 203 rfl i_135_200 q_86 ?_
    obtain ⟨f_87, q_88, hd⟩ := dk_bind hd
    refine hp_gI 206 rfl i_135_203 q_88 ?_
    obtain rfl := Option.some.inj hd
    exact wp_iret i_135_206 ⟨rfl, rfl⟩
  rw [if_neg c_84] at hd
  by_cases c_89 : x1 = (13 : Int32)
  · rw [if_pos c_89] at hd
    refine wp_tswC (j := 13) 207 i_135_1 (by rw [c_89]; decide) (by decide) rfl rfl ?_
    refine wp_s 208 [some (.ref a0), some (.int x1)] [.ref a0] h0 i_135_207 rfl ?_
    obtain ⟨f_90, q_91, hd⟩ := dk_bind hd
    refine hp_gR 211 rfl i_135_208 q_91 ?_
    obtain ⟨f_92, q_93, hd⟩ := dk_bind hd
    refine hp_gI 214 rfl i_135_211 q_93 ?_
    obtain rfl := Option.some.inj hd
    exact wp_iret i_135_214 ⟨rfl, rfl⟩
  rw [if_neg c_89] at hd
  by_cases c_94 : x1 = (14 : Int32)
  · rw [if_pos c_94] at hd
    refine wp_tswC (j := 14) 215 i_135_1 (by rw [c_94]; decide) (by decide) rfl rfl ?_
    refine wp_s 216 [some (.ref a0), some (.int x1)] [.ref a0] h0 i_135_215 rfl ?_
    obtain ⟨f_95, q_96, hd⟩ := dk_bind hd
    refine hp_gR 219 rfl i_135_216 q_96 ?_
    obtain ⟨f_97, q_98, hd⟩ := dk_bind hd
    refine hp_gI 222 rfl i_135_219 q_98 ?_
    obtain rfl := Option.some.inj hd
    exact wp_iret i_135_222 ⟨rfl, rfl⟩
  rw [if_neg c_94] at hd
  have o_99 : (x1).toInt < (0 : Int) ∨ (14 : Int) < (x1).toInt := by
    have e_0 := lv_neT c_1 (a := 0) (by decide)
    have e_1 := lv_neT c_8 (a := 1) (by decide)
    have e_2 := lv_neT c_15 (a := 2) (by decide)
    have e_3 := lv_neT c_22 (a := 3) (by decide)
    have e_4 := lv_neT c_29 (a := 4) (by decide)
    have e_5 := lv_neT c_36 (a := 5) (by decide)
    have e_6 := lv_neT c_41 (a := 6) (by decide)
    have e_7 := lv_neT c_46 (a := 7) (by decide)
    have e_8 := lv_neT c_53 (a := 8) (by decide)
    have e_9 := lv_neT c_60 (a := 9) (by decide)
    have e_10 := lv_neT c_72 (a := 10) (by decide)
    have e_11 := lv_neT c_79 (a := 11) (by decide)
    have e_12 := lv_neT c_84 (a := 12) (by decide)
    have e_13 := lv_neT c_89 (a := 13) (by decide)
    have e_14 := lv_neT c_94 (a := 14) (by decide)
    omega
  refine wp_tswD 223 i_135_1 o_99 rfl ?_
  refine wp_s 224 [some (.ref a0), some (.int x1)] [.int (-1 : Int32)] h0 i_135_223 rfl ?_
  obtain rfl := Option.some.inj hd
  exact wp_iret i_135_224 ⟨rfl, rfl⟩
def d_136 (g : Nat) (a0 : Nat) (x1 : Int32) (h0 : aH) : Option (Int32 × aH) := (if x1 < 0 then some ((-1 : Int32), h0) else (if x1 < (4 : Int32) then ((gR h0 a0 11 7).bind (fun f_3 => ((gQ h0 f_3 x1).bind (fun f_5 => ((gR h0 a0 11 3).bind (fun f_7 => (if isO h0 f_5 10 = true then ((d_99 g f_5 f_7 h0).bind (fun z_12 => ((gR z_12 a0 11 8).bind (fun f_16 => ((sB z_12 f_16 x1 (1 : Int32)).bind (fun h_18 => ((gR h_18 a0 11 3).bind (fun f_20 => ((gR h_18 f_20 10 1).bind (fun f_22 => ((gI h_18 f_22 7 13).bind (fun f_24 => some (f_24, h_18))))))))))))) else none))))))) else some ((-1 : Int32), h0)))
set_option maxHeartbeats 4000000 in
set_option maxRecDepth 100000 in
theorem d_136_ok {X : aX} {g : Nat} {a0 : Nat} {x1 : Int32} {h0 : aH} {zz : Int32 × aH} {d : Nat} (hdp : 2 ≤ d) (hd : d_136 g a0 x1 h0 = some zz) : aWp X d 136 0 (aEntL [.ref a0, .int x1] 2) [] h0 (fun w h' => w = some (.int zz.1) ∧ h' = zz.2) := by
  unfold d_136 at hd
  refine wp_lv (l2 := [some (.ref a0), some (.int x1)]) rfl ?_
  obtain ⟨e, rfl⟩ : ∃ e, d = e + 1 := ⟨d - 1, by omega⟩
  refine wp_s 1 [some (.ref a0), some (.int x1)] [.int x1] h0 i_136_0 rfl ?_
  refine wp_if_lt 9 4 rfl rfl i_136_1 (fun c_1 => ?_) (fun c_1 => ?_)
  · rw [if_pos c_1] at hd
    refine wp_s 10 [some (.ref a0), some (.int x1)] [.int (-1 : Int32)] h0 i_136_9 rfl ?_
    obtain rfl := Option.some.inj hd
    exact wp_iret i_136_10 ⟨rfl, rfl⟩
  · rw [if_neg c_1] at hd
    refine wp_s 5 [some (.ref a0), some (.int x1)] [.int x1] h0 i_136_4 rfl ?_
    refine wp_s 6 [some (.ref a0), some (.int x1)] [.int (4 : Int32), .int x1] h0 i_136_5 rfl ?_
    refine wp_cmp_lt 11 9 rfl rfl i_136_6 (fun c_2 => ?_) (fun c_2 => ?_)
    · rw [if_pos c_2] at hd
      refine wp_s 12 [some (.ref a0), some (.int x1)] [.ref a0] h0 i_136_11 rfl ?_
      obtain ⟨f_3, q_4, hd⟩ := dk_bind hd
      refine hp_gR 15 rfl i_136_12 q_4 ?_
      refine wp_s 16 [some (.ref a0), some (.int x1)] [.int x1, .ref f_3] h0 i_136_15 rfl ?_
      obtain ⟨f_5, q_6, hd⟩ := dk_bind hd
      refine hp_gQ 17 rfl i_136_16 q_6 ?_
      refine wp_s 18 [some (.ref a0), some (.int x1)] [.ref a0, .ref f_5] h0 i_136_17 rfl ?_
      obtain ⟨f_7, q_8, hd⟩ := dk_bind hd
      refine hp_gR 21 rfl i_136_18 q_8 ?_
      obtain ⟨k_9, hd⟩ := dk_if hd
      obtain ⟨fs_10, o_11⟩ := isO_of k_9
      obtain ⟨z_12, q_13, hd⟩ := dk_bind hd
      refine wp_callV 24 rfl i_136_21 (by decide) rfl (vs := [.ref f_7]) (rest := []) rfl rfl rfl o_11 (y := m_99) rfl (Nat.le_of_ble_eq_true rfl) (d_99_ok (d := e) (by omega) q_13) ?_
      rintro v_14 h_15 ⟨rfl, hz⟩
      have hz := hz.symm
      subst hz
      refine wp_s 25 [some (.ref a0), some (.int x1)] [.ref a0] z_12 i_136_24 rfl ?_
      obtain ⟨f_16, q_17, hd⟩ := dk_bind hd
      refine hp_gR 28 rfl i_136_25 q_17 ?_
      refine wp_s 29 [some (.ref a0), some (.int x1)] [.int x1, .ref f_16] z_12 i_136_28 rfl ?_
      refine wp_s 30 [some (.ref a0), some (.int x1)] [.int (1 : Int32), .int x1, .ref f_16] z_12 i_136_29 rfl ?_
      obtain ⟨h_18, q_19, hd⟩ := dk_bind hd
      refine hp_sB 31 rfl i_136_30 q_19 ?_
      refine wp_s 32 [some (.ref a0), some (.int x1)] [.ref a0] h_18 i_136_31 rfl ?_
      obtain ⟨f_20, q_21, hd⟩ := dk_bind hd
      refine hp_gR 35 rfl i_136_32 q_21 ?_
      obtain ⟨f_22, q_23, hd⟩ := dk_bind hd
      refine hp_gR 38 rfl i_136_35 q_23 ?_
      obtain ⟨f_24, q_25, hd⟩ := dk_bind hd
      refine hp_gI 41 rfl i_136_38 q_25 ?_
      obtain rfl := Option.some.inj hd
      exact wp_iret i_136_41 ⟨rfl, rfl⟩
    · rw [if_neg c_2] at hd
      refine wp_s 10 [some (.ref a0), some (.int x1)] [.int (-1 : Int32)] h0 i_136_9 rfl ?_
      obtain rfl := Option.some.inj hd
      exact wp_iret i_136_10 ⟨rfl, rfl⟩
def d_137 (g : Nat) (a0 : Nat) (x1 : Int32) (h0 : aH) : Option (Int32 × aH) := (if x1 < 0 then some ((-1 : Int32), h0) else (if (4 : Int32) ≤ x1 then some ((-1 : Int32), h0) else ((gR h0 a0 11 8).bind (fun f_3 => ((gB h0 f_3 x1).bind (fun f_5 => (if ¬ f_5 = 0 then ((gR h0 a0 11 3).bind (fun f_8 => ((gR h0 a0 11 7).bind (fun f_10 => ((gQ h0 f_10 x1).bind (fun f_12 => (if isO h0 f_8 10 = true then ((d_99 g f_8 f_12 h0).bind (fun z_17 => ((gR z_17 a0 11 6).bind (fun f_21 => (if isO z_17 f_21 1 = true then ((d_10 g f_21 z_17).bind (fun z_26 => ((gR z_26 a0 11 3).bind (fun f_30 => ((gR z_26 f_30 10 1).bind (fun f_32 => ((gI z_26 f_32 7 13).bind (fun f_34 => some (f_34, z_26))))))))) else none))))) else none))))))) else some ((-1 : Int32), h0))))))))
set_option maxHeartbeats 4000000 in
set_option maxRecDepth 100000 in
theorem d_137_ok {X : aX} {g : Nat} {a0 : Nat} {x1 : Int32} {h0 : aH} {zz : Int32 × aH} {d : Nat} (hdp : 2 ≤ d) (hd : d_137 g a0 x1 h0 = some zz) : aWp X d 137 0 (aEntL [.ref a0, .int x1] 2) [] h0 (fun w h' => w = some (.int zz.1) ∧ h' = zz.2) := by
  unfold d_137 at hd
  refine wp_lv (l2 := [some (.ref a0), some (.int x1)]) rfl ?_
  obtain ⟨e, rfl⟩ : ∃ e, d = e + 1 := ⟨d - 1, by omega⟩
  refine wp_s 1 [some (.ref a0), some (.int x1)] [.int x1] h0 i_137_0 rfl ?_
  refine wp_if_lt 18 4 rfl rfl i_137_1 (fun c_1 => ?_) (fun c_1 => ?_)
  · rw [if_pos c_1] at hd
    refine wp_s 19 [some (.ref a0), some (.int x1)] [.int (-1 : Int32)] h0 i_137_18 rfl ?_
    obtain rfl := Option.some.inj hd
    exact wp_iret i_137_19 ⟨rfl, rfl⟩
  · rw [if_neg c_1] at hd
    refine wp_s 5 [some (.ref a0), some (.int x1)] [.int x1] h0 i_137_4 rfl ?_
    refine wp_s 6 [some (.ref a0), some (.int x1)] [.int (4 : Int32), .int x1] h0 i_137_5 rfl ?_
    refine wp_cmp_ge 18 9 rfl rfl i_137_6 (fun c_2 => ?_) (fun c_2 => ?_)
    · rw [if_pos c_2] at hd
      refine wp_s 19 [some (.ref a0), some (.int x1)] [.int (-1 : Int32)] h0 i_137_18 rfl ?_
      obtain rfl := Option.some.inj hd
      exact wp_iret i_137_19 ⟨rfl, rfl⟩
    · rw [if_neg c_2] at hd
      refine wp_s 10 [some (.ref a0), some (.int x1)] [.ref a0] h0 i_137_9 rfl ?_
      obtain ⟨f_3, q_4, hd⟩ := dk_bind hd
      refine hp_gR 13 rfl i_137_10 q_4 ?_
      refine wp_s 14 [some (.ref a0), some (.int x1)] [.int x1, .ref f_3] h0 i_137_13 rfl ?_
      obtain ⟨f_5, q_6, hd⟩ := dk_bind hd
      refine hp_gB 15 rfl i_137_14 q_6 ?_
      refine wp_if_ne 20 18 rfl rfl i_137_15 (fun c_7 => ?_) (fun c_7 => ?_)
      · rw [if_pos c_7] at hd
        refine wp_s 21 [some (.ref a0), some (.int x1)] [.ref a0] h0 i_137_20 rfl ?_
        obtain ⟨f_8, q_9, hd⟩ := dk_bind hd
        refine hp_gR 24 rfl i_137_21 q_9 ?_
        refine wp_s 25 [some (.ref a0), some (.int x1)] [.ref a0, .ref f_8] h0 i_137_24 rfl ?_
        obtain ⟨f_10, q_11, hd⟩ := dk_bind hd
        refine hp_gR 28 rfl i_137_25 q_11 ?_
        refine wp_s 29 [some (.ref a0), some (.int x1)] [.int x1, .ref f_10, .ref f_8] h0 i_137_28 rfl ?_
        obtain ⟨f_12, q_13, hd⟩ := dk_bind hd
        refine hp_gQ 30 rfl i_137_29 q_13 ?_
        obtain ⟨k_14, hd⟩ := dk_if hd
        obtain ⟨fs_15, o_16⟩ := isO_of k_14
        obtain ⟨z_17, q_18, hd⟩ := dk_bind hd
        refine wp_callV 33 rfl i_137_30 (by decide) rfl (vs := [.ref f_12]) (rest := []) rfl rfl rfl o_16 (y := m_99) rfl (Nat.le_of_ble_eq_true rfl) (d_99_ok (d := e) (by omega) q_18) ?_
        rintro v_19 h_20 ⟨rfl, hz⟩
        have hz := hz.symm
        subst hz
        refine wp_s 34 [some (.ref a0), some (.int x1)] [.ref a0] z_17 i_137_33 rfl ?_
        obtain ⟨f_21, q_22, hd⟩ := dk_bind hd
        refine hp_gR 37 rfl i_137_34 q_22 ?_
        obtain ⟨k_23, hd⟩ := dk_if hd
        obtain ⟨fs_24, o_25⟩ := isO_of k_23
        obtain ⟨z_26, q_27, hd⟩ := dk_bind hd
        refine wp_callV 40 rfl i_137_37 (by decide) rfl (vs := []) (rest := []) rfl rfl rfl o_25 (y := m_10) rfl (Nat.le_of_ble_eq_true rfl) (d_10_ok (d := e) (by omega) q_27) ?_
        rintro v_28 h_29 ⟨rfl, hz⟩
        have hz := hz.symm
        subst hz
        refine wp_s 41 [some (.ref a0), some (.int x1)] [.ref a0] z_26 i_137_40 rfl ?_
        obtain ⟨f_30, q_31, hd⟩ := dk_bind hd
        refine hp_gR 44 rfl i_137_41 q_31 ?_
        obtain ⟨f_32, q_33, hd⟩ := dk_bind hd
        refine hp_gR 47 rfl i_137_44 q_33 ?_
        obtain ⟨f_34, q_35, hd⟩ := dk_bind hd
        refine hp_gI 50 rfl i_137_47 q_35 ?_
        obtain rfl := Option.some.inj hd
        exact wp_iret i_137_50 ⟨rfl, rfl⟩
      · rw [if_neg c_7] at hd
        refine wp_s 19 [some (.ref a0), some (.int x1)] [.int (-1 : Int32)] h0 i_137_18 rfl ?_
        obtain rfl := Option.some.inj hd
        exact wp_iret i_137_19 ⟨rfl, rfl⟩
def d_139 (g : Nat) (a0 : Nat) (h0 : aH) : Option (aH) := ((sF (nA h0 1 400) a0 12 0 (.ref (h0).length)).bind (fun h_1 => ((sF (nA h_1 0 2400) a0 12 3 (.ref (h_1).length)).bind (fun h_3 => ((sF (nA h_3 0 7) a0 12 4 (.ref (h_3).length)).bind (fun h_5 => ((sF (nA h_5 0 288) a0 12 5 (.ref (h_5).length)).bind (fun h_7 => ((sF (nA h_7 0 6) a0 12 6 (.ref (h_7).length)).bind (fun h_9 => ((sF (nA h_9 0 140) a0 12 7 (.ref (h_9).length)).bind (fun h_11 => ((sF (nA h_11 0 400) a0 12 15 (.ref (h_11).length)).bind (fun h_13 => ((sF (nA h_13 3 64) a0 12 17 (.ref (h_13).length)).bind (fun h_15 => ((sF (nA h_15 3 8) a0 12 19 (.ref (h_15).length)).bind (fun h_17 => ((sF (nA h_17 0 181) a0 12 20 (.ref (h_17).length)).bind (fun h_19 => ((sF h_19 a0 12 21 (.int (-1 : Int32))).bind (fun h_21 => ((sF (nA h_21 0 5) a0 12 23 (.ref (h_21).length)).bind (fun h_23 => ((sF (nA h_23 0 1600) a0 12 26 (.ref (h_23).length)).bind (fun h_25 => ((sF (nA h_25 0 8) a0 12 28 (.ref (h_25).length)).bind (fun h_27 => ((sF (nA h_27 0 4) a0 12 31 (.ref (h_27).length)).bind (fun h_29 => ((sF (nA h_29 0 6) a0 12 32 (.ref (h_29).length)).bind (fun h_31 => ((sF (nA h_31 0 6) a0 12 33 (.ref (h_31).length)).bind (fun h_33 => ((sF (nA h_33 0 80) a0 12 34 (.ref (h_33).length)).bind (fun h_35 => ((sF (nA h_35 0 8) a0 12 35 (.ref (h_35).length)).bind (fun h_37 => ((sF (nA h_37 0 7) a0 12 39 (.ref (h_37).length)).bind (fun h_39 => ((sF (nA h_39 0 724) a0 12 43 (.ref (h_39).length)).bind (fun h_41 => ((sF (nA h_41 0 4) a0 12 44 (.ref (h_41).length)).bind (fun h_43 => ((sF (nA h_43 0 4) a0 12 45 (.ref (h_43).length)).bind (fun h_45 => ((sF (nA h_45 2 4) a0 12 46 (.ref (h_45).length)).bind (fun h_47 => some h_47))))))))))))))))))))))))))))))))))))))))))))))))
set_option maxHeartbeats 4000000 in
set_option maxRecDepth 100000 in
theorem d_139_ok {X : aX} {g : Nat} {a0 : Nat} {h0 : aH} {zz : aH} {d : Nat} (hdp : 0 ≤ d) (hd : d_139 g a0 h0 = some zz) : aWp X d 139 0 (aEntL [.ref a0] 1) [] h0 (fun w h' => w = none ∧ h' = zz) := by
  unfold d_139 at hd
  refine wp_lv (l2 := [some (.ref a0)]) rfl ?_
  refine wp_s 1 [some (.ref a0)] [.ref a0] h0 i_139_0 rfl ?_
  refine hp_obj 4 rfl i_139_1 rfl ?_
  refine wp_s 5 [some (.ref a0)] [.ref a0] h0 i_139_4 rfl ?_
  refine wp_s 8 [some (.ref a0)] [.int (400 : Int32), .ref a0] h0 i_139_5 rfl ?_
  refine hp_newa (N := 400) 10 rfl i_139_8 (by decide) (by decide) (by decide) ?_
  obtain ⟨h_1, q_2, hd⟩ := dk_bind hd
  refine hp_sF 13 rfl i_139_10 q_2 ?_
  refine wp_s 14 [some (.ref a0)] [.ref a0] h_1 i_139_13 rfl ?_
  refine wp_s 17 [some (.ref a0)] [.int (2400 : Int32), .ref a0] h_1 i_139_14 rfl ?_
  refine hp_newa (N := 2400) 19 rfl i_139_17 (by decide) (by decide) (by decide) ?_
  obtain ⟨h_3, q_4, hd⟩ := dk_bind hd
  refine hp_sF 22 rfl i_139_19 q_4 ?_
  refine wp_s 23 [some (.ref a0)] [.ref a0] h_3 i_139_22 rfl ?_
  refine wp_s 25 [some (.ref a0)] [.int (7 : Int32), .ref a0] h_3 i_139_23 rfl ?_
  refine hp_newa (N := 7) 27 rfl i_139_25 (by decide) (by decide) (by decide) ?_
  obtain ⟨h_5, q_6, hd⟩ := dk_bind hd
  refine hp_sF 30 rfl i_139_27 q_6 ?_
  refine wp_s 31 [some (.ref a0)] [.ref a0] h_5 i_139_30 rfl ?_
  refine wp_s 34 [some (.ref a0)] [.int (288 : Int32), .ref a0] h_5 i_139_31 rfl ?_
  refine hp_newa (N := 288) 36 rfl i_139_34 (by decide) (by decide) (by decide) ?_
  obtain ⟨h_7, q_8, hd⟩ := dk_bind hd
  refine hp_sF 39 rfl i_139_36 q_8 ?_
  refine wp_s 40 [some (.ref a0)] [.ref a0] h_7 i_139_39 rfl ?_
  refine wp_s 42 [some (.ref a0)] [.int (6 : Int32), .ref a0] h_7 i_139_40 rfl ?_
  refine hp_newa (N := 6) 44 rfl i_139_42 (by decide) (by decide) (by decide) ?_
  obtain ⟨h_9, q_10, hd⟩ := dk_bind hd
  refine hp_sF 47 rfl i_139_44 q_10 ?_
  refine wp_s 48 [some (.ref a0)] [.ref a0] h_9 i_139_47 rfl ?_
  refine wp_s 51 [some (.ref a0)] [.int (140 : Int32), .ref a0] h_9 i_139_48 rfl ?_
  refine hp_newa (N := 140) 53 rfl i_139_51 (by decide) (by decide) (by decide) ?_
  obtain ⟨h_11, q_12, hd⟩ := dk_bind hd
  refine hp_sF 56 rfl i_139_53 q_12 ?_
  refine wp_s 57 [some (.ref a0)] [.ref a0] h_11 i_139_56 rfl ?_
  refine wp_s 60 [some (.ref a0)] [.int (400 : Int32), .ref a0] h_11 i_139_57 rfl ?_
  refine hp_newa (N := 400) 62 rfl i_139_60 (by decide) (by decide) (by decide) ?_
  obtain ⟨h_13, q_14, hd⟩ := dk_bind hd
  refine hp_sF 65 rfl i_139_62 q_14 ?_
  refine wp_s 66 [some (.ref a0)] [.ref a0] h_13 i_139_65 rfl ?_
  refine wp_s 68 [some (.ref a0)] [.int (64 : Int32), .ref a0] h_13 i_139_66 rfl ?_
  refine hp_newa (N := 64) 70 rfl i_139_68 (by decide) (by decide) (by decide) ?_
  obtain ⟨h_15, q_16, hd⟩ := dk_bind hd
  refine hp_sF 73 rfl i_139_70 q_16 ?_
  refine wp_s 74 [some (.ref a0)] [.ref a0] h_15 i_139_73 rfl ?_
  refine wp_s 76 [some (.ref a0)] [.int (8 : Int32), .ref a0] h_15 i_139_74 rfl ?_
  refine hp_newa (N := 8) 78 rfl i_139_76 (by decide) (by decide) (by decide) ?_
  obtain ⟨h_17, q_18, hd⟩ := dk_bind hd
  refine hp_sF 81 rfl i_139_78 q_18 ?_
  refine wp_s 82 [some (.ref a0)] [.ref a0] h_17 i_139_81 rfl ?_
  refine wp_s 85 [some (.ref a0)] [.int (181 : Int32), .ref a0] h_17 i_139_82 rfl ?_
  refine hp_newa (N := 181) 87 rfl i_139_85 (by decide) (by decide) (by decide) ?_
  obtain ⟨h_19, q_20, hd⟩ := dk_bind hd
  refine hp_sF 90 rfl i_139_87 q_20 ?_
  refine wp_s 91 [some (.ref a0)] [.ref a0] h_19 i_139_90 rfl ?_
  refine wp_s 92 [some (.ref a0)] [.int (-1 : Int32), .ref a0] h_19 i_139_91 rfl ?_
  obtain ⟨h_21, q_22, hd⟩ := dk_bind hd
  refine hp_sF 95 rfl i_139_92 q_22 ?_
  refine wp_s 96 [some (.ref a0)] [.ref a0] h_21 i_139_95 rfl ?_
  refine wp_s 97 [some (.ref a0)] [.int (5 : Int32), .ref a0] h_21 i_139_96 rfl ?_
  refine hp_newa (N := 5) 99 rfl i_139_97 (by decide) (by decide) (by decide) ?_
  obtain ⟨h_23, q_24, hd⟩ := dk_bind hd
  refine hp_sF 102 rfl i_139_99 q_24 ?_
  refine wp_s 103 [some (.ref a0)] [.ref a0] h_23 i_139_102 rfl ?_
  refine wp_s 106 [some (.ref a0)] [.int (1600 : Int32), .ref a0] h_23 i_139_103 rfl ?_
  refine hp_newa (N := 1600) 108 rfl i_139_106 (by decide) (by decide) (by decide) ?_
  obtain ⟨h_25, q_26, hd⟩ := dk_bind hd
  refine hp_sF 111 rfl i_139_108 q_26 ?_
  refine wp_s 112 [some (.ref a0)] [.ref a0] h_25 i_139_111 rfl ?_
  refine wp_s 114 [some (.ref a0)] [.int (8 : Int32), .ref a0] h_25 i_139_112 rfl ?_
  refine hp_newa (N := 8) 116 rfl i_139_114 (by decide) (by decide) (by decide) ?_
  obtain ⟨h_27, q_28, hd⟩ := dk_bind hd
  refine hp_sF 119 rfl i_139_116 q_28 ?_
  refine wp_s 120 [some (.ref a0)] [.ref a0] h_27 i_139_119 rfl ?_
  refine wp_s 121 [some (.ref a0)] [.int (4 : Int32), .ref a0] h_27 i_139_120 rfl ?_
  refine hp_newa (N := 4) 123 rfl i_139_121 (by decide) (by decide) (by decide) ?_
  obtain ⟨h_29, q_30, hd⟩ := dk_bind hd
  refine hp_sF 126 rfl i_139_123 q_30 ?_
  refine wp_s 127 [some (.ref a0)] [.ref a0] h_29 i_139_126 rfl ?_
  refine wp_s 129 [some (.ref a0)] [.int (6 : Int32), .ref a0] h_29 i_139_127 rfl ?_
  refine hp_newa (N := 6) 131 rfl i_139_129 (by decide) (by decide) (by decide) ?_
  obtain ⟨h_31, q_32, hd⟩ := dk_bind hd
  refine hp_sF 134 rfl i_139_131 q_32 ?_
  refine wp_s 135 [some (.ref a0)] [.ref a0] h_31 i_139_134 rfl ?_
  refine wp_s 137 [some (.ref a0)] [.int (6 : Int32), .ref a0] h_31 i_139_135 rfl ?_
  refine hp_newa (N := 6) 139 rfl i_139_137 (by decide) (by decide) (by decide) ?_
  obtain ⟨h_33, q_34, hd⟩ := dk_bind hd
  refine hp_sF 142 rfl i_139_139 q_34 ?_
  refine wp_s 143 [some (.ref a0)] [.ref a0] h_33 i_139_142 rfl ?_
  refine wp_s 145 [some (.ref a0)] [.int (80 : Int32), .ref a0] h_33 i_139_143 rfl ?_
  refine hp_newa (N := 80) 147 rfl i_139_145 (by decide) (by decide) (by decide) ?_
  obtain ⟨h_35, q_36, hd⟩ := dk_bind hd
  refine hp_sF 150 rfl i_139_147 q_36 ?_
  refine wp_s 151 [some (.ref a0)] [.ref a0] h_35 i_139_150 rfl ?_
  refine wp_s 153 [some (.ref a0)] [.int (8 : Int32), .ref a0] h_35 i_139_151 rfl ?_
  refine hp_newa (N := 8) 155 rfl i_139_153 (by decide) (by decide) (by decide) ?_
  obtain ⟨h_37, q_38, hd⟩ := dk_bind hd
  refine hp_sF 158 rfl i_139_155 q_38 ?_
  refine wp_s 159 [some (.ref a0)] [.ref a0] h_37 i_139_158 rfl ?_
  refine wp_s 161 [some (.ref a0)] [.int (7 : Int32), .ref a0] h_37 i_139_159 rfl ?_
  refine hp_newa (N := 7) 163 rfl i_139_161 (by decide) (by decide) (by decide) ?_
  obtain ⟨h_39, q_40, hd⟩ := dk_bind hd
  refine hp_sF 166 rfl i_139_163 q_40 ?_
  refine wp_s 167 [some (.ref a0)] [.ref a0] h_39 i_139_166 rfl ?_
  refine wp_s 170 [some (.ref a0)] [.int (724 : Int32), .ref a0] h_39 i_139_167 rfl ?_
  refine hp_newa (N := 724) 172 rfl i_139_170 (by decide) (by decide) (by decide) ?_
  obtain ⟨h_41, q_42, hd⟩ := dk_bind hd
  refine hp_sF 175 rfl i_139_172 q_42 ?_
  refine wp_s 176 [some (.ref a0)] [.ref a0] h_41 i_139_175 rfl ?_
  refine wp_s 177 [some (.ref a0)] [.int (4 : Int32), .ref a0] h_41 i_139_176 rfl ?_
  refine hp_newa (N := 4) 179 rfl i_139_177 (by decide) (by decide) (by decide) ?_
  obtain ⟨h_43, q_44, hd⟩ := dk_bind hd
  refine hp_sF 182 rfl i_139_179 q_44 ?_
  refine wp_s 183 [some (.ref a0)] [.ref a0] h_43 i_139_182 rfl ?_
  refine wp_s 184 [some (.ref a0)] [.int (4 : Int32), .ref a0] h_43 i_139_183 rfl ?_
  refine hp_newa (N := 4) 186 rfl i_139_184 (by decide) (by decide) (by decide) ?_
  obtain ⟨h_45, q_46, hd⟩ := dk_bind hd
  refine hp_sF 189 rfl i_139_186 q_46 ?_
  refine wp_s 190 [some (.ref a0)] [.ref a0] h_45 i_139_189 rfl ?_
  refine wp_s 191 [some (.ref a0)] [.int (4 : Int32), .ref a0] h_45 i_139_190 rfl ?_
  refine hp_newa (N := 4) 193 rfl i_139_191 (by decide) (by decide) (by decide) ?_
  obtain ⟨h_47, q_48, hd⟩ := dk_bind hd
  refine hp_sF 196 rfl i_139_193 q_48 ?_
  obtain rfl := Option.some.inj hd
  exact wp_ret i_139_196 rfl ⟨rfl, rfl⟩
