theorem i_114_0 : aIns 114 0 = some (.aload_n 0, 1, 0, 0, .null) := by decide +kernel
theorem i_114_1 : aIns 114 1 = some (.getfield 35, 3, 11, 3, .null) := by decide +kernel
theorem i_114_4 : aIns 114 4 = some (.getfield 118, 3, 10, 1, .null) := by decide +kernel
theorem i_114_7 : aIns 114 7 = some (.astore_n 2, 1, 0, 0, .null) := by decide +kernel
theorem i_114_8 : aIns 114 8 = some (.aload_n 0, 1, 0, 0, .null) := by decide +kernel
theorem i_114_9 : aIns 114 9 = some (.getfield 35, 3, 11, 3, .null) := by decide +kernel
theorem i_114_12 : aIns 114 12 = some (.getfield 110, 3, 10, 0, .null) := by decide +kernel
theorem i_114_15 : aIns 114 15 = some (.iload_n 1, 1, 0, 0, .null) := by decide +kernel
theorem i_114_16 : aIns 114 16 = some (.invokevirtual 150, 3, 56, 1, .int 5) := by decide +kernel
theorem i_114_19 : aIns 114 19 = some (.ifCond .eq 33, 3, 0, 0, .null) := by decide +kernel
theorem i_114_22 : aIns 114 22 = some (.aload_n 2, 1, 0, 0, .null) := by decide +kernel
theorem i_114_23 : aIns 114 23 = some (.iload_n 1, 1, 0, 0, .null) := by decide +kernel
theorem i_114_24 : aIns 114 24 = some (.invokevirtual 165, 3, 77, 1, .int 7) := by decide +kernel
theorem i_114_27 : aIns 114 27 = some (.ifCond .ne 25, 3, 0, 0, .null) := by decide +kernel
theorem i_114_30 : aIns 114 30 = some (.aload_n 0, 1, 0, 0, .null) := by decide +kernel
theorem i_114_31 : aIns 114 31 = some (.getfield 35, 3, 11, 3, .null) := by decide +kernel
theorem i_114_34 : aIns 114 34 = some (.getfield 110, 3, 10, 0, .null) := by decide +kernel
theorem i_114_37 : aIns 114 37 = some (.iload_n 1, 1, 0, 0, .null) := by decide +kernel
theorem i_114_38 : aIns 114 38 = some (.aload_n 2, 1, 0, 0, .null) := by decide +kernel
theorem i_114_39 : aIns 114 39 = some (.getfield 205, 3, 7, 6, .null) := by decide +kernel
theorem i_114_42 : aIns 114 42 = some (.aload_n 2, 1, 0, 0, .null) := by decide +kernel
theorem i_114_43 : aIns 114 43 = some (.getfield 208, 3, 7, 8, .null) := by decide +kernel
theorem i_114_46 : aIns 114 46 = some (.invokevirtual 211, 3, 58, 3, .int 5) := by decide +kernel
theorem i_114_49 : aIns 114 49 = some (.ifCond .ne 5, 3, 0, 0, .null) := by decide +kernel
theorem i_114_52 : aIns 114 52 = some (.iconst (-1), 1, 0, 0, .int (-1)) := by decide +kernel
theorem i_114_53 : aIns 114 53 = some (.ireturn, 1, 0, 0, .null) := by decide +kernel
theorem i_114_54 : aIns 114 54 = some (.aload_n 0, 1, 0, 0, .null) := by decide +kernel
theorem i_114_55 : aIns 114 55 = some (.getfield 60, 3, 11, 6, .null) := by decide +kernel
theorem i_114_58 : aIns 114 58 = some (.aload_n 2, 1, 0, 0, .null) := by decide +kernel
theorem i_114_59 : aIns 114 59 = some (.invokevirtual 201, 3, 8, 1, .int 1) := by decide +kernel
theorem i_114_62 : aIns 114 62 = some (.aload_n 2, 1, 0, 0, .null) := by decide +kernel
theorem i_114_63 : aIns 114 63 = some (.getfield 205, 3, 7, 6, .null) := by decide +kernel
theorem i_114_66 : aIns 114 66 = some (.aload_n 2, 1, 0, 0, .null) := by decide +kernel
theorem i_114_67 : aIns 114 67 = some (.getfield 208, 3, 7, 8, .null) := by decide +kernel
theorem i_114_70 : aIns 114 70 = some (.iload_n 1, 1, 0, 0, .null) := by decide +kernel
theorem i_114_71 : aIns 114 71 = some (.iastore, 1, 0, 0, .null) := by decide +kernel
theorem i_114_72 : aIns 114 72 = some (.aload_n 2, 1, 0, 0, .null) := by decide +kernel
theorem i_114_73 : aIns 114 73 = some (.dup, 1, 0, 0, .null) := by decide +kernel
theorem i_114_74 : aIns 114 74 = some (.getfield 208, 3, 7, 8, .null) := by decide +kernel
theorem i_114_77 : aIns 114 77 = some (.iconst 1, 1, 0, 0, .int (1)) := by decide +kernel
theorem i_114_78 : aIns 114 78 = some (.iadd, 1, 0, 0, .null) := by decide +kernel
theorem i_114_79 : aIns 114 79 = some (.putfield 208, 3, 7, 8, .null) := by decide +kernel
theorem i_114_82 : aIns 114 82 = some (.aload_n 2, 1, 0, 0, .null) := by decide +kernel
theorem i_114_83 : aIns 114 83 = some (.getfield 208, 3, 7, 8, .null) := by decide +kernel
theorem i_114_86 : aIns 114 86 = some (.ireturn, 1, 0, 0, .null) := by decide +kernel
theorem i_115_0 : aIns 115 0 = some (.aload_n 0, 1, 0, 0, .null) := by decide +kernel
theorem i_115_1 : aIns 115 1 = some (.getfield 35, 3, 11, 3, .null) := by decide +kernel
theorem i_115_4 : aIns 115 4 = some (.getfield 118, 3, 10, 1, .null) := by decide +kernel
theorem i_115_7 : aIns 115 7 = some (.astore_n 2, 1, 0, 0, .null) := by decide +kernel
theorem i_115_8 : aIns 115 8 = some (.aload_n 2, 1, 0, 0, .null) := by decide +kernel
theorem i_115_9 : aIns 115 9 = some (.iload_n 1, 1, 0, 0, .null) := by decide +kernel
theorem i_115_10 : aIns 115 10 = some (.invokevirtual 162, 3, 76, 1, .int 7) := by decide +kernel
theorem i_115_13 : aIns 115 13 = some (.istore_n 3, 1, 0, 0, .null) := by decide +kernel
theorem i_115_14 : aIns 115 14 = some (.iload_n 3, 1, 0, 0, .null) := by decide +kernel
theorem i_115_15 : aIns 115 15 = some (.ifCond .ge 5, 3, 0, 0, .null) := by decide +kernel
theorem i_115_18 : aIns 115 18 = some (.iconst (-1), 1, 0, 0, .int (-1)) := by decide +kernel
theorem i_115_19 : aIns 115 19 = some (.ireturn, 1, 0, 0, .null) := by decide +kernel
theorem i_115_20 : aIns 115 20 = some (.aload_n 0, 1, 0, 0, .null) := by decide +kernel
theorem i_115_21 : aIns 115 21 = some (.getfield 60, 3, 11, 6, .null) := by decide +kernel
theorem i_115_24 : aIns 115 24 = some (.aload_n 2, 1, 0, 0, .null) := by decide +kernel
theorem i_115_25 : aIns 115 25 = some (.invokevirtual 201, 3, 8, 1, .int 1) := by decide +kernel
theorem i_115_28 : aIns 115 28 = some (.iload_n 3, 1, 0, 0, .null) := by decide +kernel
theorem i_115_29 : aIns 115 29 = some (.istore 4, 2, 0, 0, .null) := by decide +kernel
theorem i_115_31 : aIns 115 31 = some (.iload 4, 2, 0, 0, .null) := by decide +kernel
theorem i_115_33 : aIns 115 33 = some (.iconst 1, 1, 0, 0, .int (1)) := by decide +kernel
theorem i_115_34 : aIns 115 34 = some (.iadd, 1, 0, 0, .null) := by decide +kernel
theorem i_115_35 : aIns 115 35 = some (.aload_n 2, 1, 0, 0, .null) := by decide +kernel
theorem i_115_36 : aIns 115 36 = some (.getfield 208, 3, 7, 8, .null) := by decide +kernel
theorem i_115_39 : aIns 115 39 = some (.if_icmp .ge 25, 3, 0, 0, .null) := by decide +kernel
theorem i_115_42 : aIns 115 42 = some (.aload_n 2, 1, 0, 0, .null) := by decide +kernel
theorem i_115_43 : aIns 115 43 = some (.getfield 205, 3, 7, 6, .null) := by decide +kernel
theorem i_115_46 : aIns 115 46 = some (.iload 4, 2, 0, 0, .null) := by decide +kernel
theorem i_115_48 : aIns 115 48 = some (.aload_n 2, 1, 0, 0, .null) := by decide +kernel
theorem i_115_49 : aIns 115 49 = some (.getfield 205, 3, 7, 6, .null) := by decide +kernel
theorem i_115_52 : aIns 115 52 = some (.iload 4, 2, 0, 0, .null) := by decide +kernel
theorem i_115_54 : aIns 115 54 = some (.iconst 1, 1, 0, 0, .int (1)) := by decide +kernel
theorem i_115_55 : aIns 115 55 = some (.iadd, 1, 0, 0, .null) := by decide +kernel
theorem i_115_56 : aIns 115 56 = some (.iaload, 1, 0, 0, .null) := by decide +kernel
theorem i_115_57 : aIns 115 57 = some (.iastore, 1, 0, 0, .null) := by decide +kernel
theorem i_115_58 : aIns 115 58 = some (.iinc 4 1, 3, 0, 0, .null) := by decide +kernel
theorem i_115_61 : aIns 115 61 = some (.goto (-30), 3, 0, 0, .null) := by decide +kernel
theorem i_115_64 : aIns 115 64 = some (.aload_n 2, 1, 0, 0, .null) := by decide +kernel
theorem i_115_65 : aIns 115 65 = some (.dup, 1, 0, 0, .null) := by decide +kernel
theorem i_115_66 : aIns 115 66 = some (.getfield 208, 3, 7, 8, .null) := by decide +kernel
theorem i_115_69 : aIns 115 69 = some (.iconst 1, 1, 0, 0, .int (1)) := by decide +kernel
theorem i_115_70 : aIns 115 70 = some (.isub, 1, 0, 0, .null) := by decide +kernel
theorem i_115_71 : aIns 115 71 = some (.putfield 208, 3, 7, 8, .null) := by decide +kernel
theorem i_115_74 : aIns 115 74 = some (.aload_n 2, 1, 0, 0, .null) := by decide +kernel
theorem i_115_75 : aIns 115 75 = some (.getfield 208, 3, 7, 8, .null) := by decide +kernel
theorem i_115_78 : aIns 115 78 = some (.ireturn, 1, 0, 0, .null) := by decide +kernel
theorem i_116_0 : aIns 116 0 = some (.aload_n 0, 1, 0, 0, .null) := by decide +kernel
theorem i_116_1 : aIns 116 1 = some (.getfield 35, 3, 11, 3, .null) := by decide +kernel
theorem i_116_4 : aIns 116 4 = some (.getfield 110, 3, 10, 0, .null) := by decide +kernel
theorem i_116_7 : aIns 116 7 = some (.iload_n 1, 1, 0, 0, .null) := by decide +kernel
theorem i_116_8 : aIns 116 8 = some (.invokevirtual 114, 3, 55, 1, .int 5) := by decide +kernel
theorem i_116_11 : aIns 116 11 = some (.ifCond .ne 5, 3, 0, 0, .null) := by decide +kernel
theorem i_116_14 : aIns 116 14 = some (.iconst (-1), 1, 0, 0, .int (-1)) := by decide +kernel
theorem i_116_15 : aIns 116 15 = some (.ireturn, 1, 0, 0, .null) := by decide +kernel
theorem i_116_16 : aIns 116 16 = some (.aload_n 0, 1, 0, 0, .null) := by decide +kernel
theorem i_116_17 : aIns 116 17 = some (.getfield 60, 3, 11, 6, .null) := by decide +kernel
theorem i_116_20 : aIns 116 20 = some (.aload_n 0, 1, 0, 0, .null) := by decide +kernel
theorem i_116_21 : aIns 116 21 = some (.getfield 35, 3, 11, 3, .null) := by decide +kernel
theorem i_116_24 : aIns 116 24 = some (.getfield 118, 3, 10, 1, .null) := by decide +kernel
theorem i_116_27 : aIns 116 27 = some (.invokevirtual 201, 3, 8, 1, .int 1) := by decide +kernel
theorem i_116_30 : aIns 116 30 = some (.aload_n 0, 1, 0, 0, .null) := by decide +kernel
theorem i_116_31 : aIns 116 31 = some (.getfield 35, 3, 11, 3, .null) := by decide +kernel
theorem i_116_34 : aIns 116 34 = some (.getfield 118, 3, 10, 1, .null) := by decide +kernel
theorem i_116_37 : aIns 116 37 = some (.iload_n 1, 1, 0, 0, .null) := by decide +kernel
theorem i_116_38 : aIns 116 38 = some (.invokevirtual 215, 3, 75, 1, .int 7) := by decide +kernel
theorem i_116_41 : aIns 116 41 = some (.aload_n 0, 1, 0, 0, .null) := by decide +kernel
theorem i_116_42 : aIns 116 42 = some (.getfield 44, 3, 11, 4, .null) := by decide +kernel
theorem i_116_45 : aIns 116 45 = some (.iload_n 1, 1, 0, 0, .null) := by decide +kernel
theorem i_116_46 : aIns 116 46 = some (.invokevirtual 122, 3, 91, 1, .int 9) := by decide +kernel
theorem i_116_49 : aIns 116 49 = some (.ireturn, 1, 0, 0, .null) := by decide +kernel
theorem i_117_0 : aIns 117 0 = some (.aload_n 0, 1, 0, 0, .null) := by decide +kernel
theorem i_117_1 : aIns 117 1 = some (.getfield 35, 3, 11, 3, .null) := by decide +kernel
theorem i_117_4 : aIns 117 4 = some (.getfield 118, 3, 10, 1, .null) := by decide +kernel
theorem i_117_7 : aIns 117 7 = some (.astore_n 1, 1, 0, 0, .null) := by decide +kernel
theorem i_117_8 : aIns 117 8 = some (.aload_n 1, 1, 0, 0, .null) := by decide +kernel
theorem i_117_9 : aIns 117 9 = some (.invokevirtual 218, 3, 73, 0, .int 7) := by decide +kernel
theorem i_117_12 : aIns 117 12 = some (.iconst 1, 1, 0, 0, .int (1)) := by decide +kernel
theorem i_117_13 : aIns 117 13 = some (.if_icmp .ge 5, 3, 0, 0, .null) := by decide +kernel
theorem i_117_16 : aIns 117 16 = some (.iconst (-1), 1, 0, 0, .int (-1)) := by decide +kernel
theorem i_117_17 : aIns 117 17 = some (.ireturn, 1, 0, 0, .null) := by decide +kernel
theorem i_117_18 : aIns 117 18 = some (.aload_n 0, 1, 0, 0, .null) := by decide +kernel
theorem i_117_19 : aIns 117 19 = some (.getfield 60, 3, 11, 6, .null) := by decide +kernel
theorem i_117_22 : aIns 117 22 = some (.aload_n 1, 1, 0, 0, .null) := by decide +kernel
theorem i_117_23 : aIns 117 23 = some (.invokevirtual 201, 3, 8, 1, .int 1) := by decide +kernel
theorem i_117_26 : aIns 117 26 = some (.aload_n 0, 1, 0, 0, .null) := by decide +kernel
theorem i_117_27 : aIns 117 27 = some (.getfield 44, 3, 11, 4, .null) := by decide +kernel
theorem i_117_30 : aIns 117 30 = some (.invokevirtual 191, 3, 93, 0, .int 9) := by decide +kernel
theorem i_117_33 : aIns 117 33 = some (.istore_n 2, 1, 0, 0, .null) := by decide +kernel
theorem i_117_34 : aIns 117 34 = some (.iconst 0, 1, 0, 0, .int (0)) := by decide +kernel
theorem i_117_35 : aIns 117 35 = some (.istore_n 3, 1, 0, 0, .null) := by decide +kernel
theorem i_117_36 : aIns 117 36 = some (.iload_n 3, 1, 0, 0, .null) := by decide +kernel
theorem i_117_37 : aIns 117 37 = some (.aload_n 0, 1, 0, 0, .null) := by decide +kernel
theorem i_117_38 : aIns 117 38 = some (.getfield 35, 3, 11, 3, .null) := by decide +kernel
theorem i_117_41 : aIns 117 41 = some (.getfield 110, 3, 10, 0, .null) := by decide +kernel
theorem i_117_44 : aIns 117 44 = some (.getfield 94, 3, 5, 4, .null) := by decide +kernel
theorem i_117_47 : aIns 117 47 = some (.if_icmp .ge 23, 3, 0, 0, .null) := by decide +kernel
theorem i_117_50 : aIns 117 50 = some (.aload_n 1, 1, 0, 0, .null) := by decide +kernel
theorem i_117_51 : aIns 117 51 = some (.getfield 221, 3, 7, 5, .null) := by decide +kernel
theorem i_117_54 : aIns 117 54 = some (.iload_n 3, 1, 0, 0, .null) := by decide +kernel
theorem i_117_55 : aIns 117 55 = some (.aload_n 0, 1, 0, 0, .null) := by decide +kernel
theorem i_117_56 : aIns 117 56 = some (.getfield 44, 3, 11, 4, .null) := by decide +kernel
theorem i_117_59 : aIns 117 59 = some (.iload_n 3, 1, 0, 0, .null) := by decide +kernel
theorem i_117_60 : aIns 117 60 = some (.invokevirtual 122, 3, 91, 1, .int 9) := by decide +kernel
theorem i_117_63 : aIns 117 63 = some (.iastore, 1, 0, 0, .null) := by decide +kernel
theorem i_117_64 : aIns 117 64 = some (.iinc 3 1, 3, 0, 0, .null) := by decide +kernel
theorem i_117_67 : aIns 117 67 = some (.goto (-31), 3, 0, 0, .null) := by decide +kernel
theorem i_117_70 : aIns 117 70 = some (.aload_n 1, 1, 0, 0, .null) := by decide +kernel
theorem i_117_71 : aIns 117 71 = some (.iload_n 2, 1, 0, 0, .null) := by decide +kernel
theorem i_117_72 : aIns 117 72 = some (.invokevirtual 224, 3, 78, 1, .int 7) := by decide +kernel
theorem i_117_75 : aIns 117 75 = some (.aload_n 1, 1, 0, 0, .null) := by decide +kernel
theorem i_117_76 : aIns 117 76 = some (.invokevirtual 227, 3, 79, 0, .int 7) := by decide +kernel
theorem i_117_79 : aIns 117 79 = some (.iload_n 2, 1, 0, 0, .null) := by decide +kernel
theorem i_117_80 : aIns 117 80 = some (.ireturn, 1, 0, 0, .null) := by decide +kernel
theorem i_118_0 : aIns 118 0 = some (.aload_n 0, 1, 0, 0, .null) := by decide +kernel
theorem i_118_1 : aIns 118 1 = some (.getfield 35, 3, 11, 3, .null) := by decide +kernel
theorem i_118_4 : aIns 118 4 = some (.getfield 118, 3, 10, 1, .null) := by decide +kernel
theorem i_118_7 : aIns 118 7 = some (.astore_n 2, 1, 0, 0, .null) := by decide +kernel
theorem i_118_8 : aIns 118 8 = some (.aload_n 0, 1, 0, 0, .null) := by decide +kernel
theorem i_118_9 : aIns 118 9 = some (.getfield 35, 3, 11, 3, .null) := by decide +kernel
theorem i_118_12 : aIns 118 12 = some (.getfield 110, 3, 10, 0, .null) := by decide +kernel
theorem i_118_15 : aIns 118 15 = some (.iload_n 1, 1, 0, 0, .null) := by decide +kernel
theorem i_118_16 : aIns 118 16 = some (.invokevirtual 114, 3, 55, 1, .int 5) := by decide +kernel
theorem i_118_19 : aIns 118 19 = some (.ifCond .eq 13, 3, 0, 0, .null) := by decide +kernel
theorem i_118_22 : aIns 118 22 = some (.aload_n 2, 1, 0, 0, .null) := by decide +kernel
theorem i_118_23 : aIns 118 23 = some (.getfield 141, 3, 7, 4, .null) := by decide +kernel
theorem i_118_26 : aIns 118 26 = some (.iload_n 1, 1, 0, 0, .null) := by decide +kernel
theorem i_118_27 : aIns 118 27 = some (.iaload, 1, 0, 0, .null) := by decide +kernel
theorem i_118_28 : aIns 118 28 = some (.iconst 1, 1, 0, 0, .int (1)) := by decide +kernel
theorem i_118_29 : aIns 118 29 = some (.if_icmp .ge 5, 3, 0, 0, .null) := by decide +kernel
theorem i_118_32 : aIns 118 32 = some (.iconst (-1), 1, 0, 0, .int (-1)) := by decide +kernel
theorem i_118_33 : aIns 118 33 = some (.ireturn, 1, 0, 0, .null) := by decide +kernel
theorem i_118_34 : aIns 118 34 = some (.aload_n 0, 1, 0, 0, .null) := by decide +kernel
theorem i_118_35 : aIns 118 35 = some (.getfield 60, 3, 11, 6, .null) := by decide +kernel
theorem i_118_38 : aIns 118 38 = some (.aload_n 2, 1, 0, 0, .null) := by decide +kernel
theorem i_118_39 : aIns 118 39 = some (.invokevirtual 201, 3, 8, 1, .int 1) := by decide +kernel
theorem i_118_42 : aIns 118 42 = some (.aload_n 2, 1, 0, 0, .null) := by decide +kernel
theorem i_118_43 : aIns 118 43 = some (.getfield 141, 3, 7, 4, .null) := by decide +kernel
theorem i_118_46 : aIns 118 46 = some (.iload_n 1, 1, 0, 0, .null) := by decide +kernel
theorem i_118_47 : aIns 118 47 = some (.dup2, 1, 0, 0, .null) := by decide +kernel
theorem i_118_48 : aIns 118 48 = some (.iaload, 1, 0, 0, .null) := by decide +kernel
theorem i_118_49 : aIns 118 49 = some (.iconst 1, 1, 0, 0, .int (1)) := by decide +kernel
theorem i_118_50 : aIns 118 50 = some (.isub, 1, 0, 0, .null) := by decide +kernel
theorem i_118_51 : aIns 118 51 = some (.iastore, 1, 0, 0, .null) := by decide +kernel
theorem i_118_52 : aIns 118 52 = some (.aload_n 2, 1, 0, 0, .null) := by decide +kernel
theorem i_118_53 : aIns 118 53 = some (.getfield 135, 3, 7, 2, .null) := by decide +kernel
theorem i_118_56 : aIns 118 56 = some (.iload_n 1, 1, 0, 0, .null) := by decide +kernel
theorem i_118_57 : aIns 118 57 = some (.dup2, 1, 0, 0, .null) := by decide +kernel
theorem i_118_58 : aIns 118 58 = some (.iaload, 1, 0, 0, .null) := by decide +kernel
theorem i_118_59 : aIns 118 59 = some (.iconst 1, 1, 0, 0, .int (1)) := by decide +kernel
theorem i_118_60 : aIns 118 60 = some (.isub, 1, 0, 0, .null) := by decide +kernel
theorem i_118_61 : aIns 118 61 = some (.iastore, 1, 0, 0, .null) := by decide +kernel
theorem i_118_62 : aIns 118 62 = some (.aload_n 2, 1, 0, 0, .null) := by decide +kernel
theorem i_118_63 : aIns 118 63 = some (.getfield 126, 3, 7, 1, .null) := by decide +kernel
theorem i_118_66 : aIns 118 66 = some (.iload_n 1, 1, 0, 0, .null) := by decide +kernel
theorem i_118_67 : aIns 118 67 = some (.bipush 9, 2, 0, 0, .int (9)) := by decide +kernel
theorem i_118_69 : aIns 118 69 = some (.aload_n 2, 1, 0, 0, .null) := by decide +kernel
theorem i_118_70 : aIns 118 70 = some (.getfield 126, 3, 7, 1, .null) := by decide +kernel
theorem i_118_73 : aIns 118 73 = some (.iload_n 1, 1, 0, 0, .null) := by decide +kernel
theorem i_118_74 : aIns 118 74 = some (.iaload, 1, 0, 0, .null) := by decide +kernel
theorem i_118_75 : aIns 118 75 = some (.iconst 1, 1, 0, 0, .int (1)) := by decide +kernel
theorem i_118_76 : aIns 118 76 = some (.iadd, 1, 0, 0, .null) := by decide +kernel
theorem i_118_77 : aIns 118 77 = some (.invokestatic 230, 3, 1002, 0, .null) := by decide +kernel
theorem i_118_80 : aIns 118 80 = some (.iastore, 1, 0, 0, .null) := by decide +kernel
theorem i_118_81 : aIns 118 81 = some (.aload_n 0, 1, 0, 0, .null) := by decide +kernel
theorem i_118_82 : aIns 118 82 = some (.getfield 44, 3, 11, 4, .null) := by decide +kernel
theorem i_118_85 : aIns 118 85 = some (.iload_n 1, 1, 0, 0, .null) := by decide +kernel
theorem i_118_86 : aIns 118 86 = some (.aload_n 2, 1, 0, 0, .null) := by decide +kernel
theorem i_118_87 : aIns 118 87 = some (.getfield 141, 3, 7, 4, .null) := by decide +kernel
theorem i_118_90 : aIns 118 90 = some (.aload_n 2, 1, 0, 0, .null) := by decide +kernel
theorem i_118_91 : aIns 118 91 = some (.getfield 236, 3, 7, 12, .null) := by decide +kernel
theorem i_118_94 : aIns 118 94 = some (.invokevirtual 239, 3, 96, 3, .int 9) := by decide +kernel
theorem i_118_97 : aIns 118 97 = some (.istore_n 3, 1, 0, 0, .null) := by decide +kernel
theorem i_118_98 : aIns 118 98 = some (.aload_n 2, 1, 0, 0, .null) := by decide +kernel
theorem i_118_99 : aIns 118 99 = some (.dup, 1, 0, 0, .null) := by decide +kernel
theorem i_118_100 : aIns 118 100 = some (.getfield 236, 3, 7, 12, .null) := by decide +kernel
theorem i_118_103 : aIns 118 103 = some (.iload_n 3, 1, 0, 0, .null) := by decide +kernel
theorem i_118_104 : aIns 118 104 = some (.isub, 1, 0, 0, .null) := by decide +kernel
theorem i_118_105 : aIns 118 105 = some (.putfield 236, 3, 7, 12, .null) := by decide +kernel
theorem i_118_108 : aIns 118 108 = some (.aload_n 2, 1, 0, 0, .null) := by decide +kernel
theorem i_118_109 : aIns 118 109 = some (.dup, 1, 0, 0, .null) := by decide +kernel
theorem i_118_110 : aIns 118 110 = some (.getfield 243, 3, 7, 11, .null) := by decide +kernel
theorem i_118_113 : aIns 118 113 = some (.iload_n 3, 1, 0, 0, .null) := by decide +kernel
theorem i_118_114 : aIns 118 114 = some (.isub, 1, 0, 0, .null) := by decide +kernel
theorem i_118_115 : aIns 118 115 = some (.putfield 243, 3, 7, 11, .null) := by decide +kernel
theorem i_118_118 : aIns 118 118 = some (.iload_n 3, 1, 0, 0, .null) := by decide +kernel
theorem i_118_119 : aIns 118 119 = some (.ireturn, 1, 0, 0, .null) := by decide +kernel
theorem i_119_0 : aIns 119 0 = some (.aload_n 0, 1, 0, 0, .null) := by decide +kernel
theorem i_119_1 : aIns 119 1 = some (.getfield 35, 3, 11, 3, .null) := by decide +kernel
theorem i_119_4 : aIns 119 4 = some (.getfield 110, 3, 10, 0, .null) := by decide +kernel
theorem i_119_7 : aIns 119 7 = some (.getfield 188, 3, 5, 0, .null) := by decide +kernel
theorem i_119_10 : aIns 119 10 = some (.ifCond .eq 19, 3, 0, 0, .null) := by decide +kernel
theorem i_119_13 : aIns 119 13 = some (.aload_n 0, 1, 0, 0, .null) := by decide +kernel
theorem i_119_14 : aIns 119 14 = some (.getfield 35, 3, 11, 3, .null) := by decide +kernel
theorem i_119_17 : aIns 119 17 = some (.getfield 118, 3, 10, 1, .null) := by decide +kernel
theorem i_119_20 : aIns 119 20 = some (.getfield 246, 3, 7, 13, .null) := by decide +kernel
theorem i_119_23 : aIns 119 23 = some (.sipush 999, 3, 0, 0, .int (999)) := by decide +kernel
theorem i_119_26 : aIns 119 26 = some (.if_icmp .lt 5, 3, 0, 0, .null) := by decide +kernel
theorem i_119_29 : aIns 119 29 = some (.iconst (-1), 1, 0, 0, .int (-1)) := by decide +kernel
theorem i_119_30 : aIns 119 30 = some (.ireturn, 1, 0, 0, .null) := by decide +kernel
theorem i_119_31 : aIns 119 31 = some (.aload_n 0, 1, 0, 0, .null) := by decide +kernel
theorem i_119_32 : aIns 119 32 = some (.getfield 60, 3, 11, 6, .null) := by decide +kernel
theorem i_119_35 : aIns 119 35 = some (.aload_n 0, 1, 0, 0, .null) := by decide +kernel
theorem i_119_36 : aIns 119 36 = some (.getfield 35, 3, 11, 3, .null) := by decide +kernel
theorem i_119_39 : aIns 119 39 = some (.getfield 118, 3, 10, 1, .null) := by decide +kernel
theorem i_119_42 : aIns 119 42 = some (.invokevirtual 201, 3, 8, 1, .int 1) := by decide +kernel
theorem i_119_45 : aIns 119 45 = some (.aload_n 0, 1, 0, 0, .null) := by decide +kernel
theorem i_119_46 : aIns 119 46 = some (.getfield 35, 3, 11, 3, .null) := by decide +kernel
theorem i_119_49 : aIns 119 49 = some (.getfield 118, 3, 10, 1, .null) := by decide +kernel
theorem i_119_52 : aIns 119 52 = some (.dup, 1, 0, 0, .null) := by decide +kernel
theorem i_119_53 : aIns 119 53 = some (.getfield 246, 3, 7, 13, .null) := by decide +kernel
theorem i_119_56 : aIns 119 56 = some (.iconst 1, 1, 0, 0, .int (1)) := by decide +kernel
theorem i_119_57 : aIns 119 57 = some (.iadd, 1, 0, 0, .null) := by decide +kernel
theorem i_119_58 : aIns 119 58 = some (.putfield 246, 3, 7, 13, .null) := by decide +kernel
theorem i_119_61 : aIns 119 61 = some (.aload_n 0, 1, 0, 0, .null) := by decide +kernel
theorem i_119_62 : aIns 119 62 = some (.getfield 35, 3, 11, 3, .null) := by decide +kernel
theorem i_119_65 : aIns 119 65 = some (.getfield 110, 3, 10, 0, .null) := by decide +kernel
theorem i_119_68 : aIns 119 68 = some (.aload_n 0, 1, 0, 0, .null) := by decide +kernel
theorem i_119_69 : aIns 119 69 = some (.getfield 35, 3, 11, 3, .null) := by decide +kernel
theorem i_119_72 : aIns 119 72 = some (.getfield 118, 3, 10, 1, .null) := by decide +kernel
theorem i_119_75 : aIns 119 75 = some (.getfield 246, 3, 7, 13, .null) := by decide +kernel
theorem i_119_78 : aIns 119 78 = some (.invokevirtual 249, 3, 57, 1, .int 5) := by decide +kernel
theorem i_119_81 : aIns 119 81 = some (.ireturn, 1, 0, 0, .null) := by decide +kernel
theorem i_120_0 : aIns 120 0 = some (.aload_n 0, 1, 0, 0, .null) := by decide +kernel
theorem i_120_1 : aIns 120 1 = some (.getfield 60, 3, 11, 6, .null) := by decide +kernel
theorem i_120_4 : aIns 120 4 = some (.getfield 252, 3, 1, 2, .null) := by decide +kernel
theorem i_120_7 : aIns 120 7 = some (.iconst 1, 1, 0, 0, .int (1)) := by decide +kernel
theorem i_120_8 : aIns 120 8 = some (.if_icmp .ge 5, 3, 0, 0, .null) := by decide +kernel
theorem i_120_11 : aIns 120 11 = some (.iconst (-1), 1, 0, 0, .int (-1)) := by decide +kernel
theorem i_120_12 : aIns 120 12 = some (.ireturn, 1, 0, 0, .null) := by decide +kernel
theorem i_120_13 : aIns 120 13 = some (.aload_n 0, 1, 0, 0, .null) := by decide +kernel
theorem i_120_14 : aIns 120 14 = some (.getfield 60, 3, 11, 6, .null) := by decide +kernel
theorem i_120_17 : aIns 120 17 = some (.aload_n 0, 1, 0, 0, .null) := by decide +kernel
theorem i_120_18 : aIns 120 18 = some (.getfield 35, 3, 11, 3, .null) := by decide +kernel
theorem i_120_21 : aIns 120 21 = some (.getfield 118, 3, 10, 1, .null) := by decide +kernel
theorem i_120_24 : aIns 120 24 = some (.invokevirtual 255, 3, 9, 1, .int 1) := by decide +kernel
theorem i_120_27 : aIns 120 27 = some (.aload_n 0, 1, 0, 0, .null) := by decide +kernel
theorem i_120_28 : aIns 120 28 = some (.getfield 60, 3, 11, 6, .null) := by decide +kernel
theorem i_120_31 : aIns 120 31 = some (.getfield 252, 3, 1, 2, .null) := by decide +kernel
theorem i_120_34 : aIns 120 34 = some (.ireturn, 1, 0, 0, .null) := by decide +kernel
theorem i_121_0 : aIns 121 0 = some (.aload_n 0, 1, 0, 0, .null) := by decide +kernel
theorem i_121_1 : aIns 121 1 = some (.getfield 35, 3, 11, 3, .null) := by decide +kernel
theorem i_121_4 : aIns 121 4 = some (.getfield 110, 3, 10, 0, .null) := by decide +kernel
theorem i_121_7 : aIns 121 7 = some (.getfield 188, 3, 5, 0, .null) := by decide +kernel
theorem i_121_10 : aIns 121 10 = some (.ifCond .eq 12, 3, 0, 0, .null) := by decide +kernel
theorem i_121_13 : aIns 121 13 = some (.iload_n 1, 1, 0, 0, .null) := by decide +kernel
theorem i_121_14 : aIns 121 14 = some (.ifCond .lt 8, 3, 0, 0, .null) := by decide +kernel
theorem i_121_17 : aIns 121 17 = some (.iload_n 1, 1, 0, 0, .null) := by decide +kernel
theorem i_121_18 : aIns 121 18 = some (.iconst 5, 1, 0, 0, .int (5)) := by decide +kernel
theorem i_121_19 : aIns 121 19 = some (.if_icmp .le 6, 3, 0, 0, .null) := by decide +kernel
theorem i_121_22 : aIns 121 22 = some (.bipush (-3), 2, 0, 0, .int (-3)) := by decide +kernel
theorem i_121_24 : aIns 121 24 = some (.ireturn, 1, 0, 0, .null) := by decide +kernel
theorem i_121_25 : aIns 121 25 = some (.aload_n 0, 1, 0, 0, .null) := by decide +kernel
theorem i_121_26 : aIns 121 26 = some (.getfield 53, 3, 11, 5, .null) := by decide +kernel
theorem i_121_29 : aIns 121 29 = some (.invokevirtual 258, 3, 13, 0, .int 2) := by decide +kernel
theorem i_121_32 : aIns 121 32 = some (.aload_n 0, 1, 0, 0, .null) := by decide +kernel
theorem i_121_33 : aIns 121 33 = some (.getfield 53, 3, 11, 5, .null) := by decide +kernel
theorem i_121_36 : aIns 121 36 = some (.getfield 261, 3, 2, 2, .null) := by decide +kernel
theorem i_121_39 : aIns 121 39 = some (.iload_n 1, 1, 0, 0, .null) := by decide +kernel
theorem i_121_40 : aIns 121 40 = some (.invokevirtual 265, 3, 4, 1, .int 0) := by decide +kernel
theorem i_121_43 : aIns 121 43 = some (.ireturn, 1, 0, 0, .null) := by decide +kernel
theorem i_122_0 : aIns 122 0 = some (.aload_n 0, 1, 0, 0, .null) := by decide +kernel
theorem i_122_1 : aIns 122 1 = some (.getfield 35, 3, 11, 3, .null) := by decide +kernel
theorem i_122_4 : aIns 122 4 = some (.getfield 110, 3, 10, 0, .null) := by decide +kernel
theorem i_122_7 : aIns 122 7 = some (.getfield 188, 3, 5, 0, .null) := by decide +kernel
theorem i_122_10 : aIns 122 10 = some (.ifCond .eq 12, 3, 0, 0, .null) := by decide +kernel
theorem i_122_13 : aIns 122 13 = some (.iload_n 1, 1, 0, 0, .null) := by decide +kernel
theorem i_122_14 : aIns 122 14 = some (.ifCond .lt 8, 3, 0, 0, .null) := by decide +kernel
theorem i_122_17 : aIns 122 17 = some (.iload_n 1, 1, 0, 0, .null) := by decide +kernel
theorem i_122_18 : aIns 122 18 = some (.iconst 3, 1, 0, 0, .int (3)) := by decide +kernel
theorem i_122_19 : aIns 122 19 = some (.if_icmp .le 7, 3, 0, 0, .null) := by decide +kernel
theorem i_122_22 : aIns 122 22 = some (.ldc_w 270, 3, 0, 0, .int (-1000000)) := by decide +kernel
theorem i_122_25 : aIns 122 25 = some (.ireturn, 1, 0, 0, .null) := by decide +kernel
theorem i_122_26 : aIns 122 26 = some (.aload_n 0, 1, 0, 0, .null) := by decide +kernel
theorem i_122_27 : aIns 122 27 = some (.getfield 53, 3, 11, 5, .null) := by decide +kernel
theorem i_122_30 : aIns 122 30 = some (.aload_n 0, 1, 0, 0, .null) := by decide +kernel
theorem i_122_31 : aIns 122 31 = some (.getfield 35, 3, 11, 3, .null) := by decide +kernel
theorem i_122_34 : aIns 122 34 = some (.getfield 118, 3, 10, 1, .null) := by decide +kernel
theorem i_122_37 : aIns 122 37 = some (.getfield 246, 3, 7, 13, .null) := by decide +kernel
theorem i_122_40 : aIns 122 40 = some (.invokevirtual 271, 3, 12, 1, .int 2) := by decide +kernel
theorem i_122_43 : aIns 122 43 = some (.aload_n 0, 1, 0, 0, .null) := by decide +kernel
theorem i_122_44 : aIns 122 44 = some (.getfield 53, 3, 11, 5, .null) := by decide +kernel
theorem i_122_47 : aIns 122 47 = some (.aload_n 0, 1, 0, 0, .null) := by decide +kernel
theorem i_122_48 : aIns 122 48 = some (.getfield 35, 3, 11, 3, .null) := by decide +kernel
theorem i_122_51 : aIns 122 51 = some (.getfield 110, 3, 10, 0, .null) := by decide +kernel
theorem i_122_54 : aIns 122 54 = some (.getfield 274, 3, 5, 2, .null) := by decide +kernel
theorem i_122_57 : aIns 122 57 = some (.invokevirtual 277, 3, 15, 1, .int 2) := by decide +kernel
theorem i_122_60 : aIns 122 60 = some (.aload_n 0, 1, 0, 0, .null) := by decide +kernel
theorem i_122_61 : aIns 122 61 = some (.getfield 53, 3, 11, 5, .null) := by decide +kernel
theorem i_122_64 : aIns 122 64 = some (.getfield 261, 3, 2, 2, .null) := by decide +kernel
theorem i_122_67 : aIns 122 67 = some (.iload_n 1, 1, 0, 0, .null) := by decide +kernel
theorem i_122_68 : aIns 122 68 = some (.invokevirtual 265, 3, 4, 1, .int 0) := by decide +kernel
theorem i_122_71 : aIns 122 71 = some (.ireturn, 1, 0, 0, .null) := by decide +kernel
theorem i_123_0 : aIns 123 0 = some (.aload_n 0, 1, 0, 0, .null) := by decide +kernel
theorem i_123_1 : aIns 123 1 = some (.getfield 35, 3, 11, 3, .null) := by decide +kernel
theorem i_123_4 : aIns 123 4 = some (.getfield 110, 3, 10, 0, .null) := by decide +kernel
theorem i_123_7 : aIns 123 7 = some (.getfield 188, 3, 5, 0, .null) := by decide +kernel
theorem i_123_10 : aIns 123 10 = some (.ifCond .eq 13, 3, 0, 0, .null) := by decide +kernel
theorem i_123_13 : aIns 123 13 = some (.iload_n 1, 1, 0, 0, .null) := by decide +kernel
theorem i_123_14 : aIns 123 14 = some (.ifCond .lt 9, 3, 0, 0, .null) := by decide +kernel
theorem i_123_17 : aIns 123 17 = some (.iload_n 1, 1, 0, 0, .null) := by decide +kernel
theorem i_123_18 : aIns 123 18 = some (.bipush 7, 2, 0, 0, .int (7)) := by decide +kernel
theorem i_123_20 : aIns 123 20 = some (.if_icmp .le 6, 3, 0, 0, .null) := by decide +kernel
theorem i_123_23 : aIns 123 23 = some (.bipush (-3), 2, 0, 0, .int (-3)) := by decide +kernel
theorem i_123_25 : aIns 123 25 = some (.ireturn, 1, 0, 0, .null) := by decide +kernel
theorem i_123_26 : aIns 123 26 = some (.aload_n 0, 1, 0, 0, .null) := by decide +kernel
theorem i_123_27 : aIns 123 27 = some (.getfield 53, 3, 11, 5, .null) := by decide +kernel
theorem i_123_30 : aIns 123 30 = some (.invokevirtual 280, 3, 23, 0, .int 2) := by decide +kernel
theorem i_123_33 : aIns 123 33 = some (.iload_n 1, 1, 0, 0, .null) := by decide +kernel
theorem i_123_34 : aIns 123 34 = some (.bipush 6, 2, 0, 0, .int (6)) := by decide +kernel
theorem i_123_36 : aIns 123 36 = some (.if_icmp .le 18, 3, 0, 0, .null) := by decide +kernel
theorem i_123_39 : aIns 123 39 = some (.aload_n 0, 1, 0, 0, .null) := by decide +kernel
theorem i_123_40 : aIns 123 40 = some (.getfield 53, 3, 11, 5, .null) := by decide +kernel
theorem i_123_43 : aIns 123 43 = some (.getfield 261, 3, 2, 2, .null) := by decide +kernel
theorem i_123_46 : aIns 123 46 = some (.invokevirtual 283, 3, 6, 0, .int 0) := by decide +kernel
theorem i_123_49 : aIns 123 49 = some (.iconst 1, 1, 0, 0, .int (1)) := by decide +kernel
theorem i_123_50 : aIns 123 50 = some (.iadd, 1, 0, 0, .null) := by decide +kernel
theorem i_123_51 : aIns 123 51 = some (.goto 14, 3, 0, 0, .null) := by decide +kernel
theorem i_123_54 : aIns 123 54 = some (.aload_n 0, 1, 0, 0, .null) := by decide +kernel
theorem i_123_55 : aIns 123 55 = some (.getfield 53, 3, 11, 5, .null) := by decide +kernel
theorem i_123_58 : aIns 123 58 = some (.getfield 261, 3, 2, 2, .null) := by decide +kernel
theorem i_123_61 : aIns 123 61 = some (.iload_n 1, 1, 0, 0, .null) := by decide +kernel
theorem i_123_62 : aIns 123 62 = some (.invokevirtual 265, 3, 4, 1, .int 0) := by decide +kernel
theorem i_123_65 : aIns 123 65 = some (.ireturn, 1, 0, 0, .null) := by decide +kernel
theorem i_124_0 : aIns 124 0 = some (.aload_n 0, 1, 0, 0, .null) := by decide +kernel
theorem i_124_1 : aIns 124 1 = some (.getfield 35, 3, 11, 3, .null) := by decide +kernel
theorem i_124_4 : aIns 124 4 = some (.getfield 110, 3, 10, 0, .null) := by decide +kernel
theorem i_124_7 : aIns 124 7 = some (.getfield 188, 3, 5, 0, .null) := by decide +kernel
theorem i_124_10 : aIns 124 10 = some (.ifCond .eq 13, 3, 0, 0, .null) := by decide +kernel
theorem i_124_13 : aIns 124 13 = some (.iload_n 1, 1, 0, 0, .null) := by decide +kernel
theorem i_124_14 : aIns 124 14 = some (.ifCond .lt 9, 3, 0, 0, .null) := by decide +kernel
theorem i_124_17 : aIns 124 17 = some (.iload_n 1, 1, 0, 0, .null) := by decide +kernel
theorem i_124_18 : aIns 124 18 = some (.bipush 6, 2, 0, 0, .int (6)) := by decide +kernel
theorem i_124_20 : aIns 124 20 = some (.if_icmp .le 6, 3, 0, 0, .null) := by decide +kernel
theorem i_124_23 : aIns 124 23 = some (.bipush (-3), 2, 0, 0, .int (-3)) := by decide +kernel
theorem i_124_25 : aIns 124 25 = some (.ireturn, 1, 0, 0, .null) := by decide +kernel
theorem i_124_26 : aIns 124 26 = some (.aload_n 0, 1, 0, 0, .null) := by decide +kernel
theorem i_124_27 : aIns 124 27 = some (.getfield 53, 3, 11, 5, .null) := by decide +kernel
theorem i_124_30 : aIns 124 30 = some (.invokevirtual 286, 3, 26, 0, .int 2) := by decide +kernel
theorem i_124_33 : aIns 124 33 = some (.aload_n 0, 1, 0, 0, .null) := by decide +kernel
theorem i_124_34 : aIns 124 34 = some (.getfield 53, 3, 11, 5, .null) := by decide +kernel
theorem i_124_37 : aIns 124 37 = some (.getfield 261, 3, 2, 2, .null) := by decide +kernel
theorem i_124_40 : aIns 124 40 = some (.iload_n 1, 1, 0, 0, .null) := by decide +kernel
theorem i_124_41 : aIns 124 41 = some (.invokevirtual 265, 3, 4, 1, .int 0) := by decide +kernel
theorem i_124_44 : aIns 124 44 = some (.ireturn, 1, 0, 0, .null) := by decide +kernel
theorem i_125_0 : aIns 125 0 = some (.aload_n 0, 1, 0, 0, .null) := by decide +kernel
theorem i_125_1 : aIns 125 1 = some (.getfield 35, 3, 11, 3, .null) := by decide +kernel
theorem i_125_4 : aIns 125 4 = some (.getfield 110, 3, 10, 0, .null) := by decide +kernel
theorem i_125_7 : aIns 125 7 = some (.getfield 188, 3, 5, 0, .null) := by decide +kernel
theorem i_125_10 : aIns 125 10 = some (.ifCond .eq 13, 3, 0, 0, .null) := by decide +kernel
theorem i_125_13 : aIns 125 13 = some (.iload_n 1, 1, 0, 0, .null) := by decide +kernel
theorem i_125_14 : aIns 125 14 = some (.ifCond .lt 9, 3, 0, 0, .null) := by decide +kernel
theorem i_125_17 : aIns 125 17 = some (.iload_n 1, 1, 0, 0, .null) := by decide +kernel
theorem i_125_18 : aIns 125 18 = some (.bipush 8, 2, 0, 0, .int (8)) := by decide +kernel
theorem i_125_20 : aIns 125 20 = some (.if_icmp .le 7, 3, 0, 0, .null) := by decide +kernel
theorem i_125_23 : aIns 125 23 = some (.ldc_w 270, 3, 0, 0, .int (-1000000)) := by decide +kernel
theorem i_125_26 : aIns 125 26 = some (.ireturn, 1, 0, 0, .null) := by decide +kernel
theorem i_125_27 : aIns 125 27 = some (.aload_n 0, 1, 0, 0, .null) := by decide +kernel
theorem i_125_28 : aIns 125 28 = some (.getfield 53, 3, 11, 5, .null) := by decide +kernel
theorem i_125_31 : aIns 125 31 = some (.invokevirtual 289, 3, 28, 0, .int 2) := by decide +kernel
theorem i_125_34 : aIns 125 34 = some (.iload_n 1, 1, 0, 0, .null) := by decide +kernel
theorem i_125_35 : aIns 125 35 = some (.ifCond .ne 17, 3, 0, 0, .null) := by decide +kernel
theorem i_125_38 : aIns 125 38 = some (.aload_n 0, 1, 0, 0, .null) := by decide +kernel
theorem i_125_39 : aIns 125 39 = some (.getfield 53, 3, 11, 5, .null) := by decide +kernel
theorem i_125_42 : aIns 125 42 = some (.getfield 261, 3, 2, 2, .null) := by decide +kernel
theorem i_125_45 : aIns 125 45 = some (.getfield 292, 3, 0, 1, .null) := by decide +kernel
theorem i_125_48 : aIns 125 48 = some (.ineg, 1, 0, 0, .null) := by decide +kernel
theorem i_125_49 : aIns 125 49 = some (.goto 14, 3, 0, 0, .null) := by decide +kernel
theorem i_125_52 : aIns 125 52 = some (.aload_n 0, 1, 0, 0, .null) := by decide +kernel
theorem i_125_53 : aIns 125 53 = some (.getfield 53, 3, 11, 5, .null) := by decide +kernel
theorem i_125_56 : aIns 125 56 = some (.getfield 261, 3, 2, 2, .null) := by decide +kernel
theorem i_125_59 : aIns 125 59 = some (.iload_n 1, 1, 0, 0, .null) := by decide +kernel
theorem i_125_60 : aIns 125 60 = some (.invokevirtual 265, 3, 4, 1, .int 0) := by decide +kernel
theorem i_125_63 : aIns 125 63 = some (.ireturn, 1, 0, 0, .null) := by decide +kernel
theorem i_126_0 : aIns 126 0 = some (.aload_n 0, 1, 0, 0, .null) := by decide +kernel
theorem i_126_1 : aIns 126 1 = some (.getfield 35, 3, 11, 3, .null) := by decide +kernel
theorem i_126_4 : aIns 126 4 = some (.getfield 110, 3, 10, 0, .null) := by decide +kernel
theorem i_126_7 : aIns 126 7 = some (.getfield 188, 3, 5, 0, .null) := by decide +kernel
theorem i_126_10 : aIns 126 10 = some (.ifCond .eq 14, 3, 0, 0, .null) := by decide +kernel
theorem i_126_13 : aIns 126 13 = some (.iload_n 1, 1, 0, 0, .null) := by decide +kernel
theorem i_126_14 : aIns 126 14 = some (.iconst 1, 1, 0, 0, .int (1)) := by decide +kernel
theorem i_126_15 : aIns 126 15 = some (.sipush 9999, 3, 0, 0, .int (9999)) := by decide +kernel
theorem i_126_18 : aIns 126 18 = some (.invokestatic 180, 3, 138, 3, .null) := by decide +kernel
theorem i_126_21 : aIns 126 21 = some (.ifCond .ne 7, 3, 0, 0, .null) := by decide +kernel
theorem i_126_24 : aIns 126 24 = some (.ldc_w 270, 3, 0, 0, .int (-1000000)) := by decide +kernel
theorem i_126_27 : aIns 126 27 = some (.ireturn, 1, 0, 0, .null) := by decide +kernel
theorem i_126_28 : aIns 126 28 = some (.aload_n 0, 1, 0, 0, .null) := by decide +kernel
theorem i_126_29 : aIns 126 29 = some (.getfield 35, 3, 11, 3, .null) := by decide +kernel
theorem i_126_32 : aIns 126 32 = some (.getfield 118, 3, 10, 1, .null) := by decide +kernel
theorem i_126_35 : aIns 126 35 = some (.astore_n 2, 1, 0, 0, .null) := by decide +kernel
theorem i_126_36 : aIns 126 36 = some (.aload_n 0, 1, 0, 0, .null) := by decide +kernel
theorem i_126_37 : aIns 126 37 = some (.getfield 44, 3, 11, 4, .null) := by decide +kernel
theorem i_126_40 : aIns 126 40 = some (.invokevirtual 191, 3, 93, 0, .int 9) := by decide +kernel
theorem i_126_43 : aIns 126 43 = some (.aload_n 0, 1, 0, 0, .null) := by decide +kernel
theorem i_126_44 : aIns 126 44 = some (.getfield 44, 3, 11, 4, .null) := by decide +kernel
theorem i_126_47 : aIns 126 47 = some (.iload_n 1, 1, 0, 0, .null) := by decide +kernel
theorem i_126_48 : aIns 126 48 = some (.invokevirtual 295, 3, 95, 1, .int 9) := by decide +kernel
theorem i_126_51 : aIns 126 51 = some (.iadd, 1, 0, 0, .null) := by decide +kernel
theorem i_126_52 : aIns 126 52 = some (.istore_n 3, 1, 0, 0, .null) := by decide +kernel
theorem i_126_53 : aIns 126 53 = some (.aload_n 2, 1, 0, 0, .null) := by decide +kernel
theorem i_126_54 : aIns 126 54 = some (.invokevirtual 218, 3, 73, 0, .int 7) := by decide +kernel
theorem i_126_57 : aIns 126 57 = some (.iconst 1, 1, 0, 0, .int (1)) := by decide +kernel
theorem i_126_58 : aIns 126 58 = some (.iadd, 1, 0, 0, .null) := by decide +kernel
theorem i_126_59 : aIns 126 59 = some (.istore 4, 2, 0, 0, .null) := by decide +kernel
theorem i_126_61 : aIns 126 61 = some (.iload_n 3, 1, 0, 0, .null) := by decide +kernel
theorem i_126_62 : aIns 126 62 = some (.aload_n 0, 1, 0, 0, .null) := by decide +kernel
theorem i_126_63 : aIns 126 63 = some (.getfield 44, 3, 11, 4, .null) := by decide +kernel
theorem i_126_66 : aIns 126 66 = some (.iload 4, 2, 0, 0, .null) := by decide +kernel
theorem i_126_68 : aIns 126 68 = some (.aload_n 0, 1, 0, 0, .null) := by decide +kernel
theorem i_126_69 : aIns 126 69 = some (.getfield 44, 3, 11, 4, .null) := by decide +kernel
theorem i_126_72 : aIns 126 72 = some (.invokevirtual 298, 3, 92, 0, .int 9) := by decide +kernel
theorem i_126_75 : aIns 126 75 = some (.iload_n 1, 1, 0, 0, .null) := by decide +kernel
theorem i_126_76 : aIns 126 76 = some (.iadd, 1, 0, 0, .null) := by decide +kernel
theorem i_126_77 : aIns 126 77 = some (.aload_n 2, 1, 0, 0, .null) := by decide +kernel
theorem i_126_78 : aIns 126 78 = some (.getfield 205, 3, 7, 6, .null) := by decide +kernel
theorem i_126_81 : aIns 126 81 = some (.aload_n 2, 1, 0, 0, .null) := by decide +kernel
theorem i_126_82 : aIns 126 82 = some (.getfield 208, 3, 7, 8, .null) := by decide +kernel
theorem i_126_85 : aIns 126 85 = some (.aload_n 0, 1, 0, 0, .null) := by decide +kernel
theorem i_126_86 : aIns 126 86 = some (.getfield 35, 3, 11, 3, .null) := by decide +kernel
theorem i_126_89 : aIns 126 89 = some (.getfield 110, 3, 10, 0, .null) := by decide +kernel
theorem i_126_92 : aIns 126 92 = some (.getfield 274, 3, 5, 2, .null) := by decide +kernel
theorem i_126_95 : aIns 126 95 = some (.invokevirtual 301, 3, 94, 5, .int 9) := by decide +kernel
theorem i_126_98 : aIns 126 98 = some (.isub, 1, 0, 0, .null) := by decide +kernel
theorem i_126_99 : aIns 126 99 = some (.ireturn, 1, 0, 0, .null) := by decide +kernel
theorem i_127_0 : aIns 127 0 = some (.aload_n 0, 1, 0, 0, .null) := by decide +kernel
theorem i_127_1 : aIns 127 1 = some (.getfield 35, 3, 11, 3, .null) := by decide +kernel
theorem i_127_4 : aIns 127 4 = some (.getfield 110, 3, 10, 0, .null) := by decide +kernel
theorem i_127_7 : aIns 127 7 = some (.getfield 188, 3, 5, 0, .null) := by decide +kernel
theorem i_127_10 : aIns 127 10 = some (.ifCond .eq 12, 3, 0, 0, .null) := by decide +kernel
theorem i_127_13 : aIns 127 13 = some (.iload_n 1, 1, 0, 0, .null) := by decide +kernel
theorem i_127_14 : aIns 127 14 = some (.ifCond .lt 8, 3, 0, 0, .null) := by decide +kernel
theorem i_127_17 : aIns 127 17 = some (.iload_n 1, 1, 0, 0, .null) := by decide +kernel
theorem i_127_18 : aIns 127 18 = some (.iconst 1, 1, 0, 0, .int (1)) := by decide +kernel
theorem i_127_19 : aIns 127 19 = some (.if_icmp .le 7, 3, 0, 0, .null) := by decide +kernel
theorem i_127_22 : aIns 127 22 = some (.ldc_w 270, 3, 0, 0, .int (-1000000)) := by decide +kernel
theorem i_127_25 : aIns 127 25 = some (.ireturn, 1, 0, 0, .null) := by decide +kernel
theorem i_127_26 : aIns 127 26 = some (.aload_n 0, 1, 0, 0, .null) := by decide +kernel
theorem i_127_27 : aIns 127 27 = some (.getfield 53, 3, 11, 5, .null) := by decide +kernel
theorem i_127_30 : aIns 127 30 = some (.invokevirtual 305, 3, 22, 0, .int 2) := by decide +kernel
theorem i_127_33 : aIns 127 33 = some (.iload_n 1, 1, 0, 0, .null) := by decide +kernel
theorem i_127_34 : aIns 127 34 = some (.ifCond .ne 13, 3, 0, 0, .null) := by decide +kernel
theorem i_127_37 : aIns 127 37 = some (.aload_n 0, 1, 0, 0, .null) := by decide +kernel
theorem i_127_38 : aIns 127 38 = some (.getfield 53, 3, 11, 5, .null) := by decide +kernel
theorem i_127_41 : aIns 127 41 = some (.getfield 308, 3, 2, 13, .null) := by decide +kernel
theorem i_127_44 : aIns 127 44 = some (.goto 10, 3, 0, 0, .null) := by decide +kernel
theorem i_127_47 : aIns 127 47 = some (.aload_n 0, 1, 0, 0, .null) := by decide +kernel
theorem i_127_48 : aIns 127 48 = some (.getfield 53, 3, 11, 5, .null) := by decide +kernel
theorem i_127_51 : aIns 127 51 = some (.getfield 311, 3, 2, 14, .null) := by decide +kernel
theorem i_127_54 : aIns 127 54 = some (.ireturn, 1, 0, 0, .null) := by decide +kernel
theorem i_128_0 : aIns 128 0 = some (.aload_n 0, 1, 0, 0, .null) := by decide +kernel
theorem i_128_1 : aIns 128 1 = some (.getfield 35, 3, 11, 3, .null) := by decide +kernel
theorem i_128_4 : aIns 128 4 = some (.getfield 110, 3, 10, 0, .null) := by decide +kernel
theorem i_128_7 : aIns 128 7 = some (.getfield 188, 3, 5, 0, .null) := by decide +kernel
theorem i_128_10 : aIns 128 10 = some (.ifCond .eq 33, 3, 0, 0, .null) := by decide +kernel
theorem i_128_13 : aIns 128 13 = some (.iload_n 1, 1, 0, 0, .null) := by decide +kernel
theorem i_128_14 : aIns 128 14 = some (.iconst 0, 1, 0, 0, .int (0)) := by decide +kernel
theorem i_128_15 : aIns 128 15 = some (.sipush 30000, 3, 0, 0, .int (30000)) := by decide +kernel
theorem i_128_18 : aIns 128 18 = some (.invokestatic 180, 3, 138, 3, .null) := by decide +kernel
theorem i_128_21 : aIns 128 21 = some (.ifCond .eq 22, 3, 0, 0, .null) := by decide +kernel
theorem i_128_24 : aIns 128 24 = some (.iload_n 2, 1, 0, 0, .null) := by decide +kernel
theorem i_128_25 : aIns 128 25 = some (.iconst 0, 1, 0, 0, .int (0)) := by decide +kernel
theorem i_128_26 : aIns 128 26 = some (.bipush 99, 2, 0, 0, .int (99)) := by decide +kernel
theorem i_128_28 : aIns 128 28 = some (.invokestatic 180, 3, 138, 3, .null) := by decide +kernel
theorem i_128_31 : aIns 128 31 = some (.ifCond .eq 12, 3, 0, 0, .null) := by decide +kernel
theorem i_128_34 : aIns 128 34 = some (.iload_n 3, 1, 0, 0, .null) := by decide +kernel
theorem i_128_35 : aIns 128 35 = some (.iconst 0, 1, 0, 0, .int (0)) := by decide +kernel
theorem i_128_36 : aIns 128 36 = some (.iconst 5, 1, 0, 0, .int (5)) := by decide +kernel
theorem i_128_37 : aIns 128 37 = some (.invokestatic 180, 3, 138, 3, .null) := by decide +kernel
theorem i_128_40 : aIns 128 40 = some (.ifCond .ne 6, 3, 0, 0, .null) := by decide +kernel
theorem i_128_43 : aIns 128 43 = some (.bipush (-3), 2, 0, 0, .int (-3)) := by decide +kernel
theorem i_128_45 : aIns 128 45 = some (.ireturn, 1, 0, 0, .null) := by decide +kernel
theorem i_128_46 : aIns 128 46 = some (.aload_n 0, 1, 0, 0, .null) := by decide +kernel
theorem i_128_47 : aIns 128 47 = some (.getfield 53, 3, 11, 5, .null) := by decide +kernel
theorem i_128_50 : aIns 128 50 = some (.iload_n 1, 1, 0, 0, .null) := by decide +kernel
theorem i_128_51 : aIns 128 51 = some (.iload_n 2, 1, 0, 0, .null) := by decide +kernel
theorem i_128_52 : aIns 128 52 = some (.invokevirtual 314, 3, 30, 2, .int 2) := by decide +kernel
theorem i_128_55 : aIns 128 55 = some (.iload_n 3, 1, 0, 0, .null) := by decide +kernel
theorem i_128_56 : aIns 128 56 = some (.ifCond .ne 11, 3, 0, 0, .null) := by decide +kernel
theorem i_128_59 : aIns 128 59 = some (.aload_n 0, 1, 0, 0, .null) := by decide +kernel
theorem i_128_60 : aIns 128 60 = some (.getfield 53, 3, 11, 5, .null) := by decide +kernel
theorem i_128_63 : aIns 128 63 = some (.getfield 318, 3, 2, 15, .null) := by decide +kernel
theorem i_128_66 : aIns 128 66 = some (.ireturn, 1, 0, 0, .null) := by decide +kernel
theorem i_128_67 : aIns 128 67 = some (.iload_n 3, 1, 0, 0, .null) := by decide +kernel
theorem i_128_68 : aIns 128 68 = some (.iconst 4, 1, 0, 0, .int (4)) := by decide +kernel
theorem i_128_69 : aIns 128 69 = some (.if_icmp .le 13, 3, 0, 0, .null) := by decide +kernel
theorem i_128_72 : aIns 128 72 = some (.aload_n 0, 1, 0, 0, .null) := by decide +kernel
theorem i_128_73 : aIns 128 73 = some (.getfield 53, 3, 11, 5, .null) := by decide +kernel
theorem i_128_76 : aIns 128 76 = some (.getfield 321, 3, 2, 16, .null) := by decide +kernel
theorem i_128_79 : aIns 128 79 = some (.goto 14, 3, 0, 0, .null) := by decide +kernel
theorem i_128_82 : aIns 128 82 = some (.aload_n 0, 1, 0, 0, .null) := by decide +kernel
theorem i_128_83 : aIns 128 83 = some (.getfield 53, 3, 11, 5, .null) := by decide +kernel
theorem i_128_86 : aIns 128 86 = some (.getfield 261, 3, 2, 2, .null) := by decide +kernel
theorem i_128_89 : aIns 128 89 = some (.iload_n 3, 1, 0, 0, .null) := by decide +kernel
theorem i_128_90 : aIns 128 90 = some (.invokevirtual 265, 3, 4, 1, .int 0) := by decide +kernel
theorem i_128_93 : aIns 128 93 = some (.ireturn, 1, 0, 0, .null) := by decide +kernel
theorem i_129_0 : aIns 129 0 = some (.iload_n 1, 1, 0, 0, .null) := by decide +kernel
theorem i_129_1 : aIns 129 1 = some (.iconst (-1), 1, 0, 0, .int (-1)) := by decide +kernel
theorem i_129_2 : aIns 129 2 = some (.if_icmp .ne 13, 3, 0, 0, .null) := by decide +kernel
theorem i_129_5 : aIns 129 5 = some (.aload_n 0, 1, 0, 0, .null) := by decide +kernel
theorem i_129_6 : aIns 129 6 = some (.getfield 35, 3, 11, 3, .null) := by decide +kernel
theorem i_129_9 : aIns 129 9 = some (.iconst 0, 1, 0, 0, .int (0)) := by decide +kernel
theorem i_129_10 : aIns 129 10 = some (.putfield 324, 3, 10, 8, .null) := by decide +kernel
theorem i_129_13 : aIns 129 13 = some (.iconst 0, 1, 0, 0, .int (0)) := by decide +kernel
theorem i_129_14 : aIns 129 14 = some (.ireturn, 1, 0, 0, .null) := by decide +kernel
theorem i_129_15 : aIns 129 15 = some (.aload_n 0, 1, 0, 0, .null) := by decide +kernel
theorem i_129_16 : aIns 129 16 = some (.getfield 35, 3, 11, 3, .null) := by decide +kernel
theorem i_129_19 : aIns 129 19 = some (.getfield 110, 3, 10, 0, .null) := by decide +kernel
theorem i_129_22 : aIns 129 22 = some (.iload_n 1, 1, 0, 0, .null) := by decide +kernel
theorem i_129_23 : aIns 129 23 = some (.invokevirtual 114, 3, 55, 1, .int 5) := by decide +kernel
theorem i_129_26 : aIns 129 26 = some (.ifCond .eq 47, 3, 0, 0, .null) := by decide +kernel
theorem i_129_29 : aIns 129 29 = some (.iload_n 2, 1, 0, 0, .null) := by decide +kernel
theorem i_129_30 : aIns 129 30 = some (.iconst 0, 1, 0, 0, .int (0)) := by decide +kernel
theorem i_129_31 : aIns 129 31 = some (.bipush 99, 2, 0, 0, .int (99)) := by decide +kernel
theorem i_129_33 : aIns 129 33 = some (.invokestatic 180, 3, 138, 3, .null) := by decide +kernel
theorem i_129_36 : aIns 129 36 = some (.ifCond .eq 37, 3, 0, 0, .null) := by decide +kernel
theorem i_129_39 : aIns 129 39 = some (.iload_n 3, 1, 0, 0, .null) := by decide +kernel
theorem i_129_40 : aIns 129 40 = some (.iconst 0, 1, 0, 0, .int (0)) := by decide +kernel
theorem i_129_41 : aIns 129 41 = some (.bipush 99, 2, 0, 0, .int (99)) := by decide +kernel
theorem i_129_43 : aIns 129 43 = some (.invokestatic 180, 3, 138, 3, .null) := by decide +kernel
theorem i_129_46 : aIns 129 46 = some (.ifCond .eq 27, 3, 0, 0, .null) := by decide +kernel
theorem i_129_49 : aIns 129 49 = some (.iload 4, 2, 0, 0, .null) := by decide +kernel
theorem i_129_51 : aIns 129 51 = some (.iconst 1, 1, 0, 0, .int (1)) := by decide +kernel
theorem i_129_52 : aIns 129 52 = some (.sipush 9999, 3, 0, 0, .int (9999)) := by decide +kernel
theorem i_129_55 : aIns 129 55 = some (.invokestatic 180, 3, 138, 3, .null) := by decide +kernel
theorem i_129_58 : aIns 129 58 = some (.ifCond .eq 15, 3, 0, 0, .null) := by decide +kernel
theorem i_129_61 : aIns 129 61 = some (.aload_n 0, 1, 0, 0, .null) := by decide +kernel
theorem i_129_62 : aIns 129 62 = some (.getfield 35, 3, 11, 3, .null) := by decide +kernel
theorem i_129_65 : aIns 129 65 = some (.getfield 324, 3, 10, 8, .null) := by decide +kernel
theorem i_129_68 : aIns 129 68 = some (.bipush 10, 2, 0, 0, .int (10)) := by decide +kernel
theorem i_129_70 : aIns 129 70 = some (.if_icmp .lt 6, 3, 0, 0, .null) := by decide +kernel
theorem i_129_73 : aIns 129 73 = some (.bipush (-2), 2, 0, 0, .int (-2)) := by decide +kernel
theorem i_129_75 : aIns 129 75 = some (.ireturn, 1, 0, 0, .null) := by decide +kernel
theorem i_129_76 : aIns 129 76 = some (.aload_n 0, 1, 0, 0, .null) := by decide +kernel
theorem i_129_77 : aIns 129 77 = some (.getfield 35, 3, 11, 3, .null) := by decide +kernel
theorem i_129_80 : aIns 129 80 = some (.iload_n 1, 1, 0, 0, .null) := by decide +kernel
theorem i_129_81 : aIns 129 81 = some (.iload_n 2, 1, 0, 0, .null) := by decide +kernel
theorem i_129_82 : aIns 129 82 = some (.iload_n 3, 1, 0, 0, .null) := by decide +kernel
theorem i_129_83 : aIns 129 83 = some (.iload 4, 2, 0, 0, .null) := by decide +kernel
theorem i_129_85 : aIns 129 85 = some (.invokevirtual 327, 3, 100, 4, .int 10) := by decide +kernel
theorem i_129_88 : aIns 129 88 = some (.aload_n 0, 1, 0, 0, .null) := by decide +kernel
theorem i_129_89 : aIns 129 89 = some (.getfield 35, 3, 11, 3, .null) := by decide +kernel
theorem i_129_92 : aIns 129 92 = some (.getfield 324, 3, 10, 8, .null) := by decide +kernel
theorem i_129_95 : aIns 129 95 = some (.ireturn, 1, 0, 0, .null) := by decide +kernel
theorem i_130_0 : aIns 130 0 = some (.aload_n 0, 1, 0, 0, .null) := by decide +kernel
theorem i_130_1 : aIns 130 1 = some (.getfield 35, 3, 11, 3, .null) := by decide +kernel
theorem i_130_4 : aIns 130 4 = some (.getfield 110, 3, 10, 0, .null) := by decide +kernel
theorem i_130_7 : aIns 130 7 = some (.getfield 188, 3, 5, 0, .null) := by decide +kernel
theorem i_130_10 : aIns 130 10 = some (.ifCond .eq 12, 3, 0, 0, .null) := by decide +kernel
theorem i_130_13 : aIns 130 13 = some (.iload_n 1, 1, 0, 0, .null) := by decide +kernel
theorem i_130_14 : aIns 130 14 = some (.ifCond .lt 8, 3, 0, 0, .null) := by decide +kernel
theorem i_130_17 : aIns 130 17 = some (.iload_n 1, 1, 0, 0, .null) := by decide +kernel
theorem i_130_18 : aIns 130 18 = some (.iconst 1, 1, 0, 0, .int (1)) := by decide +kernel
theorem i_130_19 : aIns 130 19 = some (.if_icmp .le 6, 3, 0, 0, .null) := by decide +kernel
theorem i_130_22 : aIns 130 22 = some (.bipush (-3), 2, 0, 0, .int (-3)) := by decide +kernel
theorem i_130_24 : aIns 130 24 = some (.ireturn, 1, 0, 0, .null) := by decide +kernel
theorem i_130_25 : aIns 130 25 = some (.aload_n 0, 1, 0, 0, .null) := by decide +kernel
theorem i_130_26 : aIns 130 26 = some (.getfield 53, 3, 11, 5, .null) := by decide +kernel
theorem i_130_29 : aIns 130 29 = some (.invokevirtual 331, 3, 32, 0, .int 2) := by decide +kernel
theorem i_130_32 : aIns 130 32 = some (.iload_n 1, 1, 0, 0, .null) := by decide +kernel
theorem i_130_33 : aIns 130 33 = some (.ifCond .ne 11, 3, 0, 0, .null) := by decide +kernel
theorem i_130_36 : aIns 130 36 = some (.aload_n 0, 1, 0, 0, .null) := by decide +kernel
theorem i_130_37 : aIns 130 37 = some (.getfield 53, 3, 11, 5, .null) := by decide +kernel
theorem i_130_40 : aIns 130 40 = some (.getfield 334, 3, 2, 17, .null) := by decide +kernel
theorem i_130_43 : aIns 130 43 = some (.ireturn, 1, 0, 0, .null) := by decide +kernel
theorem i_130_44 : aIns 130 44 = some (.aload_n 0, 1, 0, 0, .null) := by decide +kernel
theorem i_130_45 : aIns 130 45 = some (.getfield 53, 3, 11, 5, .null) := by decide +kernel
theorem i_130_48 : aIns 130 48 = some (.getfield 334, 3, 2, 17, .null) := by decide +kernel
theorem i_130_51 : aIns 130 51 = some (.ifCond .le 15, 3, 0, 0, .null) := by decide +kernel
theorem i_130_54 : aIns 130 54 = some (.aload_n 0, 1, 0, 0, .null) := by decide +kernel
theorem i_130_55 : aIns 130 55 = some (.getfield 53, 3, 11, 5, .null) := by decide +kernel
theorem i_130_58 : aIns 130 58 = some (.getfield 337, 3, 2, 8, .null) := by decide +kernel
theorem i_130_61 : aIns 130 61 = some (.iconst 0, 1, 0, 0, .int (0)) := by decide +kernel
theorem i_130_62 : aIns 130 62 = some (.iaload, 1, 0, 0, .null) := by decide +kernel
theorem i_130_63 : aIns 130 63 = some (.goto 5, 3, 0, 0, .null) := by decide +kernel
theorem i_130_66 : aIns 130 66 = some (.bipush (-2), 2, 0, 0, .int (-2)) := by decide +kernel
theorem i_130_68 : aIns 130 68 = some (.ireturn, 1, 0, 0, .null) := by decide +kernel
theorem i_131_0 : aIns 131 0 = some (.aload_n 0, 1, 0, 0, .null) := by decide +kernel
theorem i_131_1 : aIns 131 1 = some (.getfield 35, 3, 11, 3, .null) := by decide +kernel
theorem i_131_4 : aIns 131 4 = some (.getfield 110, 3, 10, 0, .null) := by decide +kernel
theorem i_131_7 : aIns 131 7 = some (.iload_n 1, 1, 0, 0, .null) := by decide +kernel
theorem i_131_8 : aIns 131 8 = some (.invokevirtual 114, 3, 55, 1, .int 5) := by decide +kernel
theorem i_131_11 : aIns 131 11 = some (.ifCond .eq 22, 3, 0, 0, .null) := by decide +kernel
theorem i_131_14 : aIns 131 14 = some (.iload_n 2, 1, 0, 0, .null) := by decide +kernel
theorem i_131_15 : aIns 131 15 = some (.iconst 0, 1, 0, 0, .int (0)) := by decide +kernel
theorem i_131_16 : aIns 131 16 = some (.bipush 99, 2, 0, 0, .int (99)) := by decide +kernel
theorem i_131_18 : aIns 131 18 = some (.invokestatic 180, 3, 138, 3, .null) := by decide +kernel
theorem i_131_21 : aIns 131 21 = some (.ifCond .eq 12, 3, 0, 0, .null) := by decide +kernel
theorem i_131_24 : aIns 131 24 = some (.iload_n 3, 1, 0, 0, .null) := by decide +kernel
theorem i_131_25 : aIns 131 25 = some (.ifCond .lt 8, 3, 0, 0, .null) := by decide +kernel
theorem i_131_28 : aIns 131 28 = some (.iload_n 3, 1, 0, 0, .null) := by decide +kernel
theorem i_131_29 : aIns 131 29 = some (.iconst 1, 1, 0, 0, .int (1)) := by decide +kernel
theorem i_131_30 : aIns 131 30 = some (.if_icmp .le 5, 3, 0, 0, .null) := by decide +kernel
theorem i_131_33 : aIns 131 33 = some (.iconst (-1), 1, 0, 0, .int (-1)) := by decide +kernel
theorem i_131_34 : aIns 131 34 = some (.ireturn, 1, 0, 0, .null) := by decide +kernel
theorem i_131_35 : aIns 131 35 = some (.aload_n 0, 1, 0, 0, .null) := by decide +kernel
theorem i_131_36 : aIns 131 36 = some (.getfield 53, 3, 11, 5, .null) := by decide +kernel
theorem i_131_39 : aIns 131 39 = some (.invokevirtual 331, 3, 32, 0, .int 2) := by decide +kernel
theorem i_131_42 : aIns 131 42 = some (.aload_n 0, 1, 0, 0, .null) := by decide +kernel
theorem i_131_43 : aIns 131 43 = some (.getfield 53, 3, 11, 5, .null) := by decide +kernel
theorem i_131_46 : aIns 131 46 = some (.getfield 334, 3, 2, 17, .null) := by decide +kernel
theorem i_131_49 : aIns 131 49 = some (.iconst 1, 1, 0, 0, .int (1)) := by decide +kernel
theorem i_131_50 : aIns 131 50 = some (.if_icmp .ge 6, 3, 0, 0, .null) := by decide +kernel
theorem i_131_53 : aIns 131 53 = some (.bipush (-2), 2, 0, 0, .int (-2)) := by decide +kernel
theorem i_131_55 : aIns 131 55 = some (.ireturn, 1, 0, 0, .null) := by decide +kernel
theorem i_131_56 : aIns 131 56 = some (.aload_n 0, 1, 0, 0, .null) := by decide +kernel
theorem i_131_57 : aIns 131 57 = some (.getfield 53, 3, 11, 5, .null) := by decide +kernel
theorem i_131_60 : aIns 131 60 = some (.iload_n 1, 1, 0, 0, .null) := by decide +kernel
theorem i_131_61 : aIns 131 61 = some (.iload_n 2, 1, 0, 0, .null) := by decide +kernel
theorem i_131_62 : aIns 131 62 = some (.invokevirtual 340, 3, 34, 2, .int 2) := by decide +kernel
theorem i_131_65 : aIns 131 65 = some (.aload_n 0, 1, 0, 0, .null) := by decide +kernel
theorem i_131_66 : aIns 131 66 = some (.getfield 53, 3, 11, 5, .null) := by decide +kernel
theorem i_131_69 : aIns 131 69 = some (.getfield 261, 3, 2, 2, .null) := by decide +kernel
theorem i_131_72 : aIns 131 72 = some (.iconst 1, 1, 0, 0, .int (1)) := by decide +kernel
theorem i_131_73 : aIns 131 73 = some (.iload_n 3, 1, 0, 0, .null) := by decide +kernel
theorem i_131_74 : aIns 131 74 = some (.isub, 1, 0, 0, .null) := by decide +kernel
theorem i_131_75 : aIns 131 75 = some (.invokevirtual 265, 3, 4, 1, .int 0) := by decide +kernel
theorem i_131_78 : aIns 131 78 = some (.ireturn, 1, 0, 0, .null) := by decide +kernel
set_option maxHeartbeats 4000000 in
set_option maxRecDepth 100000 in
theorem d_114_ok {X : aX} {S : rS} {g : Nat} {x1 : Int32} {m : cM} {zz : Int32 × cM} {d : Nat} (hdp : 2 ≤ d) (hd : d_114 g x1 m = some zz) : aWp X d 114 0 (aEntL [.ref 0, .int x1] 3) [] (hr m S) (fun w h' => w = some (.int zz.1) ∧ h' = hr zz.2 S) := by
  unfold d_114 at hd
  refine wp_lv (l2 := [some (.ref 0), some (.int x1), none]) rfl ?_
  obtain ⟨e, rfl⟩ : ∃ e, d = e + 1 := ⟨d - 1, by omega⟩
  refine wp_s 1 [some (.ref 0), some (.int x1), none] [.ref 0] _ i_114_0 rfl ?_
  refine hm_get (w := .ref 5) 4 rfl i_114_1 (cb rfl) kk_0 rfl ?_
  refine hm_get (w := .ref 19) 7 rfl i_114_4 (cb rfl) kk_5 rfl ?_
  refine wp_s 8 [some (.ref 0), some (.int x1), some (.ref 19)] [] _ i_114_7 rfl ?_
  refine wp_s 9 [some (.ref 0), some (.int x1), some (.ref 19)] [.ref 0] _ i_114_8 rfl ?_
  refine hm_get (w := .ref 5) 12 rfl i_114_9 (cb rfl) kk_0 rfl ?_
  obtain ⟨k_1, hd⟩ := dk_if hd
  refine hm_dyn 15 rfl i_114_12 (cb rfl) kk_5 (fun _ _ => rfl) (kd_ne0 (cO_iff k_1).2 (by decide)) ?_
  refine wp_s 16 [some (.ref 0), some (.int x1), some (.ref 19)] [.int x1, .ref (m.2.2.1 5)] _ i_114_15 rfl ?_
  obtain ⟨z_2, q_3, hd⟩ := dk_bind hd
  refine wp_callV 19 rfl i_114_16 (by decide) rfl (vs := [.int x1]) (rest := []) rfl rfl rfl (hm_isO (cO_iff k_1).1 (cO_iff k_1).2) (y := m_56) rfl (Nat.le_of_ble_eq_true rfl) (d_56_ok (S := S) (d := e) (by omega) q_3) ?_
  rintro v_4 h_5 ⟨rfl, rfl⟩
  refine wp_if_eq 52 22 rfl rfl i_114_19 (fun c_6 => ?_) (fun c_6 => ?_)
  · rw [if_pos c_6] at hd
    refine wp_s 53 [some (.ref 0), some (.int x1), some (.ref 19)] [.int (-1 : Int32)] _ i_114_52 rfl ?_
    obtain rfl := Option.some.inj hd
    exact wp_iret i_114_53 ⟨rfl, rfl⟩
  · rw [if_neg c_6] at hd
    refine wp_s 23 [some (.ref 0), some (.int x1), some (.ref 19)] [.ref 19] _ i_114_22 rfl ?_
    refine wp_s 24 [some (.ref 0), some (.int x1), some (.ref 19)] [.int x1, .ref 19] _ i_114_23 rfl ?_
    obtain ⟨z_7, q_8, hd⟩ := dk_bind hd
    refine wp_callV 27 rfl i_114_24 (by decide) rfl (vs := [.int x1]) (rest := []) rfl rfl rfl (hm_isO (cb rfl) kk_19) (y := m_77) rfl (Nat.le_of_ble_eq_true rfl) (d_77_ok (S := S) (d := e) (by omega) q_8) ?_
    rintro v_9 h_10 ⟨rfl, rfl⟩
    refine wp_if_ne 52 30 rfl rfl i_114_27 (fun c_11 => ?_) (fun c_11 => ?_)
    · rw [if_pos c_11] at hd
      refine wp_s 53 [some (.ref 0), some (.int x1), some (.ref 19)] [.int (-1 : Int32)] _ i_114_52 rfl ?_
      obtain rfl := Option.some.inj hd
      exact wp_iret i_114_53 ⟨rfl, rfl⟩
    · rw [if_neg c_11] at hd
      refine wp_s 31 [some (.ref 0), some (.int x1), some (.ref 19)] [.ref 0] _ i_114_30 rfl ?_
      refine hm_get (w := .ref 5) 34 rfl i_114_31 (cb rfl) kk_0 rfl ?_
      refine hm_dyn 37 rfl i_114_34 (cb rfl) kk_5 (fun _ _ => rfl) (kd_ne0 (cO_iff k_1).2 (by decide)) ?_
      refine wp_s 38 [some (.ref 0), some (.int x1), some (.ref 19)] [.int x1, .ref (m.2.2.1 5)] _ i_114_37 rfl ?_
      refine wp_s 39 [some (.ref 0), some (.int x1), some (.ref 19)] [.ref 19, .int x1, .ref (m.2.2.1 5)] _ i_114_38 rfl ?_
      refine hm_get (w := .ref 26) 42 rfl i_114_39 (cb rfl) kk_19 rfl ?_
      refine wp_s 43 [some (.ref 0), some (.int x1), some (.ref 19)] [.ref 19, .ref 26, .int x1, .ref (m.2.2.1 5)] _ i_114_42 rfl ?_
      refine hm_get (w := .int (m.1 19 8)) 46 rfl i_114_43 (cb rfl) kk_19 rfl ?_
      obtain ⟨z_12, q_13, hd⟩ := dk_bind hd
      refine wp_callV 49 rfl i_114_46 (by decide) rfl (vs := [.int x1, .ref 26, .int (m.1 19 8)]) (rest := []) rfl rfl rfl (hm_isO (cO_iff k_1).1 (cO_iff k_1).2) (y := m_58) rfl (Nat.le_of_ble_eq_true rfl) (d_58_ok (S := S) (d := e) (by omega) q_13) ?_
      rintro v_14 h_15 ⟨rfl, rfl⟩
      refine wp_if_ne 54 52 rfl rfl i_114_49 (fun c_16 => ?_) (fun c_16 => ?_)
      · rw [if_pos c_16] at hd
        refine wp_s 55 [some (.ref 0), some (.int x1), some (.ref 19)] [.ref 0] _ i_114_54 rfl ?_
        refine hm_get (w := .ref 90) 58 rfl i_114_55 (cb rfl) kk_0 rfl ?_
        refine wp_s 59 [some (.ref 0), some (.int x1), some (.ref 19)] [.ref 19, .ref 90] _ i_114_58 rfl ?_
        obtain ⟨z_17, q_18, hd⟩ := dk_bind hd
        refine wp_callV 62 rfl i_114_59 (by decide) rfl (vs := [.ref 19]) (rest := []) rfl rfl rfl (hm_isO (cb rfl) kk_90) (y := m_8) rfl (Nat.le_of_ble_eq_true rfl) (d_8_ok (S := S) (d := e) (by omega) q_18) ?_
        rintro v_19 h_20 ⟨rfl, rfl⟩
        refine wp_s 63 [some (.ref 0), some (.int x1), some (.ref 19)] [.ref 19] _ i_114_62 rfl ?_
        refine hm_get (w := .ref 26) 66 rfl i_114_63 (cb rfl) kk_19 rfl ?_
        refine wp_s 67 [some (.ref 0), some (.int x1), some (.ref 19)] [.ref 19, .ref 26] _ i_114_66 rfl ?_
        refine hm_get (w := .int (z_17.1 19 8)) 70 rfl i_114_67 (cb rfl) kk_19 rfl ?_
        refine wp_s 71 [some (.ref 0), some (.int x1), some (.ref 19)] [.int x1, .int (z_17.1 19 8), .ref 26] _ i_114_70 rfl ?_
        obtain ⟨k_21, hd⟩ := dk_if hd
        obtain ⟨mm_22, q_23, hd⟩ := dk_bind hd
        refine hm_iast 72 rfl i_114_71 (cb rfl) kk_26 k_21 ?_
        rw [Option.some.inj q_23]
        refine wp_s 73 [some (.ref 0), some (.int x1), some (.ref 19)] [.ref 19] _ i_114_72 rfl ?_
        refine wp_s 74 [some (.ref 0), some (.int x1), some (.ref 19)] [.ref 19, .ref 19] _ i_114_73 rfl ?_
        refine hm_get (w := .int (mm_22.1 19 8)) 77 rfl i_114_74 (cb rfl) kk_19 rfl ?_
        refine wp_s 78 [some (.ref 0), some (.int x1), some (.ref 19)] [.int (1 : Int32), .int (mm_22.1 19 8), .ref 19] _ i_114_77 rfl ?_
        refine wp_s 79 [some (.ref 0), some (.int x1), some (.ref 19)] [.int ((mm_22.1 19 8) + (1 : Int32)), .ref 19] _ i_114_78 rfl ?_
        obtain ⟨mm_24, q_25, hd⟩ := dk_bind hd
        refine hm_put 82 rfl i_114_79 (cb rfl) kk_19 (fun _ _ => rfl) (fun _ _ => Nat.le_of_ble_eq_true rfl) rfl ?_
        rw [Option.some.inj q_25]
        refine wp_s 83 [some (.ref 0), some (.int x1), some (.ref 19)] [.ref 19] _ i_114_82 rfl ?_
        refine hm_get (w := .int (mm_24.1 19 8)) 86 rfl i_114_83 (cb rfl) kk_19 rfl ?_
        obtain rfl := Option.some.inj hd
        exact wp_iret i_114_86 ⟨rfl, rfl⟩
      · rw [if_neg c_16] at hd
        refine wp_s 53 [some (.ref 0), some (.int x1), some (.ref 19)] [.int (-1 : Int32)] _ i_114_52 rfl ?_
        obtain rfl := Option.some.inj hd
        exact wp_iret i_114_53 ⟨rfl, rfl⟩
set_option maxHeartbeats 4000000 in
set_option maxRecDepth 100000 in
theorem l_115_ok {X : aX} {S : rS} {g : Nat} {d : Nat} (hdp : 2 ≤ d) : ∀ n, (∀ (x1 : Int32) (x3 : Int32) (x4 : Int32) (m : cM) (zz : Int32 × cM), l_115 g n 0 x1 x3 x4 m = some zz → aWp X d 115 31 [some (.ref 0), some (.int x1), some (.ref 19), some (.int x3), some (.int x4)] [] (hr m S) (fun w h' => w = some (.int zz.1) ∧ h' = hr zz.2 S)) := by
  intro n
  induction n with
  | zero => exact fun _ _ _ _ _ hd => by simp [l_115] at hd
  | succ n ih =>
    intro x1 x3 x4 m zz hd
    unfold l_115 at hd
    rw [if_pos rfl] at hd
    obtain ⟨e, rfl⟩ : ∃ e, d = e + 1 := ⟨d - 1, by omega⟩
    refine wp_s 33 [some (.ref 0), some (.int x1), some (.ref 19), some (.int x3), some (.int x4)] [.int x4] _ i_115_31 rfl ?_
    refine wp_s 34 [some (.ref 0), some (.int x1), some (.ref 19), some (.int x3), some (.int x4)] [.int (1 : Int32), .int x4] _ i_115_33 rfl ?_
    refine wp_s 35 [some (.ref 0), some (.int x1), some (.ref 19), some (.int x3), some (.int x4)] [.int (x4 + (1 : Int32))] _ i_115_34 rfl ?_
    refine wp_s 36 [some (.ref 0), some (.int x1), some (.ref 19), some (.int x3), some (.int x4)] [.ref 19, .int (x4 + (1 : Int32))] _ i_115_35 rfl ?_
    refine hm_get (w := .int (m.1 19 8)) 39 rfl i_115_36 (cb rfl) kk_19 rfl ?_
    refine wp_cmp_ge 64 42 rfl rfl i_115_39 (fun c_1 => ?_) (fun c_1 => ?_)
    · rw [if_pos c_1] at hd
      refine wp_s 65 [some (.ref 0), some (.int x1), some (.ref 19), some (.int x3), some (.int x4)] [.ref 19] _ i_115_64 rfl ?_
      refine wp_s 66 [some (.ref 0), some (.int x1), some (.ref 19), some (.int x3), some (.int x4)] [.ref 19, .ref 19] _ i_115_65 rfl ?_
      refine hm_get (w := .int (m.1 19 8)) 69 rfl i_115_66 (cb rfl) kk_19 rfl ?_
      refine wp_s 70 [some (.ref 0), some (.int x1), some (.ref 19), some (.int x3), some (.int x4)] [.int (1 : Int32), .int (m.1 19 8), .ref 19] _ i_115_69 rfl ?_
      refine wp_s 71 [some (.ref 0), some (.int x1), some (.ref 19), some (.int x3), some (.int x4)] [.int ((m.1 19 8) - (1 : Int32)), .ref 19] _ i_115_70 rfl ?_
      obtain ⟨mm_2, q_3, hd⟩ := dk_bind hd
      refine hm_put 74 rfl i_115_71 (cb rfl) kk_19 (fun _ _ => rfl) (fun _ _ => Nat.le_of_ble_eq_true rfl) rfl ?_
      rw [Option.some.inj q_3]
      refine wp_s 75 [some (.ref 0), some (.int x1), some (.ref 19), some (.int x3), some (.int x4)] [.ref 19] _ i_115_74 rfl ?_
      refine hm_get (w := .int (mm_2.1 19 8)) 78 rfl i_115_75 (cb rfl) kk_19 rfl ?_
      obtain rfl := Option.some.inj hd
      exact wp_iret i_115_78 ⟨rfl, rfl⟩
    · rw [if_neg c_1] at hd
      refine wp_s 43 [some (.ref 0), some (.int x1), some (.ref 19), some (.int x3), some (.int x4)] [.ref 19] _ i_115_42 rfl ?_
      refine hm_get (w := .ref 26) 46 rfl i_115_43 (cb rfl) kk_19 rfl ?_
      refine wp_s 48 [some (.ref 0), some (.int x1), some (.ref 19), some (.int x3), some (.int x4)] [.int x4, .ref 26] _ i_115_46 rfl ?_
      refine wp_s 49 [some (.ref 0), some (.int x1), some (.ref 19), some (.int x3), some (.int x4)] [.ref 19, .int x4, .ref 26] _ i_115_48 rfl ?_
      refine hm_get (w := .ref 26) 52 rfl i_115_49 (cb rfl) kk_19 rfl ?_
      refine wp_s 54 [some (.ref 0), some (.int x1), some (.ref 19), some (.int x3), some (.int x4)] [.int x4, .ref 26, .int x4, .ref 26] _ i_115_52 rfl ?_
      refine wp_s 55 [some (.ref 0), some (.int x1), some (.ref 19), some (.int x3), some (.int x4)] [.int (1 : Int32), .int x4, .ref 26, .int x4, .ref 26] _ i_115_54 rfl ?_
      refine wp_s 56 [some (.ref 0), some (.int x1), some (.ref 19), some (.int x3), some (.int x4)] [.int (x4 + (1 : Int32)), .ref 26, .int x4, .ref 26] _ i_115_55 rfl ?_
      obtain ⟨k_4, hd⟩ := dk_if hd
      refine hm_iald 57 rfl i_115_56 (cb rfl) kk_26 k_4 ?_
      obtain ⟨k_5, hd⟩ := dk_if hd
      obtain ⟨mm_6, q_7, hd⟩ := dk_bind hd
      refine hm_iast 58 rfl i_115_57 (cb rfl) kk_26 k_5 ?_
      rw [Option.some.inj q_7]
      refine wp_s 61 [some (.ref 0), some (.int x1), some (.ref 19), some (.int x3), some (.int (x4 + (1 : Int32)))] [] _ i_115_58 rfl ?_
      refine wp_s 31 [some (.ref 0), some (.int x1), some (.ref 19), some (.int x3), some (.int (x4 + (1 : Int32)))] [] _ i_115_61 rfl ?_
      exact aWp.forget (ih _ _ _ _ _ hd) (lvS (lvS (lvS (lvS (lvS lvE)))))
set_option maxHeartbeats 4000000 in
set_option maxRecDepth 100000 in
theorem d_115_ok {X : aX} {S : rS} {g : Nat} {x1 : Int32} {m : cM} {zz : Int32 × cM} {d : Nat} (hdp : 2 ≤ d) (hd : d_115 g x1 m = some zz) : aWp X d 115 0 (aEntL [.ref 0, .int x1] 5) [] (hr m S) (fun w h' => w = some (.int zz.1) ∧ h' = hr zz.2 S) := by
  unfold d_115 at hd
  refine wp_lv (l2 := [some (.ref 0), some (.int x1), none, none, none]) rfl ?_
  obtain ⟨e, rfl⟩ : ∃ e, d = e + 1 := ⟨d - 1, by omega⟩
  refine wp_s 1 [some (.ref 0), some (.int x1), none, none, none] [.ref 0] _ i_115_0 rfl ?_
  refine hm_get (w := .ref 5) 4 rfl i_115_1 (cb rfl) kk_0 rfl ?_
  refine hm_get (w := .ref 19) 7 rfl i_115_4 (cb rfl) kk_5 rfl ?_
  refine wp_s 8 [some (.ref 0), some (.int x1), some (.ref 19), none, none] [] _ i_115_7 rfl ?_
  refine wp_s 9 [some (.ref 0), some (.int x1), some (.ref 19), none, none] [.ref 19] _ i_115_8 rfl ?_
  refine wp_s 10 [some (.ref 0), some (.int x1), some (.ref 19), none, none] [.int x1, .ref 19] _ i_115_9 rfl ?_
  obtain ⟨z_1001, q_1002, hd⟩ := dk_bind hd
  refine wp_callV 13 rfl i_115_10 (by decide) rfl (vs := [.int x1]) (rest := []) rfl rfl rfl (hm_isO (cb rfl) kk_19) (y := m_76) rfl (Nat.le_of_ble_eq_true rfl) (d_76_ok (S := S) (d := e) (by omega) q_1002) ?_
  rintro v_1003 h_1004 ⟨rfl, rfl⟩
  refine wp_s 14 [some (.ref 0), some (.int x1), some (.ref 19), some (.int z_1001), none] [] _ i_115_13 rfl ?_
  refine wp_s 15 [some (.ref 0), some (.int x1), some (.ref 19), some (.int z_1001), none] [.int z_1001] _ i_115_14 rfl ?_
  refine wp_if_ge 20 18 rfl rfl i_115_15 (fun c_1005 => ?_) (fun c_1005 => ?_)
  · rw [if_pos c_1005] at hd
    refine wp_s 21 [some (.ref 0), some (.int x1), some (.ref 19), some (.int z_1001), none] [.ref 0] _ i_115_20 rfl ?_
    refine hm_get (w := .ref 90) 24 rfl i_115_21 (cb rfl) kk_0 rfl ?_
    refine wp_s 25 [some (.ref 0), some (.int x1), some (.ref 19), some (.int z_1001), none] [.ref 19, .ref 90] _ i_115_24 rfl ?_
    obtain ⟨z_1006, q_1007, hd⟩ := dk_bind hd
    refine wp_callV 28 rfl i_115_25 (by decide) rfl (vs := [.ref 19]) (rest := []) rfl rfl rfl (hm_isO (cb rfl) kk_90) (y := m_8) rfl (Nat.le_of_ble_eq_true rfl) (d_8_ok (S := S) (d := e) (by omega) q_1007) ?_
    rintro v_1008 h_1009 ⟨rfl, rfl⟩
    refine wp_s 29 [some (.ref 0), some (.int x1), some (.ref 19), some (.int z_1001), none] [.int z_1001] _ i_115_28 rfl ?_
    refine wp_s 31 [some (.ref 0), some (.int x1), some (.ref 19), some (.int z_1001), some (.int z_1001)] [] _ i_115_29 rfl ?_
    exact aWp.forget ((l_115_ok hdp g) _ _ _ _ _ hd) (lvS (lvS (lvS (lvS (lvS lvE)))))
  · rw [if_neg c_1005] at hd
    refine wp_s 19 [some (.ref 0), some (.int x1), some (.ref 19), some (.int z_1001), none] [.int (-1 : Int32)] _ i_115_18 rfl ?_
    obtain rfl := Option.some.inj hd
    exact wp_iret i_115_19 ⟨rfl, rfl⟩
set_option maxHeartbeats 4000000 in
set_option maxRecDepth 100000 in
theorem d_116_ok {X : aX} {S : rS} {g : Nat} {x1 : Int32} {m : cM} {zz : Int32 × cM} {d : Nat} (hdp : 6 ≤ d) (hd : d_116 g x1 m = some zz) : aWp X d 116 0 (aEntL [.ref 0, .int x1] 2) [] (hr m S) (fun w h' => w = some (.int zz.1) ∧ h' = hr zz.2 S) := by
  unfold d_116 at hd
  refine wp_lv (l2 := [some (.ref 0), some (.int x1)]) rfl ?_
  obtain ⟨e, rfl⟩ : ∃ e, d = e + 1 := ⟨d - 1, by omega⟩
  refine wp_s 1 [some (.ref 0), some (.int x1)] [.ref 0] _ i_116_0 rfl ?_
  refine hm_get (w := .ref 5) 4 rfl i_116_1 (cb rfl) kk_0 rfl ?_
  obtain ⟨k_1, hd⟩ := dk_if hd
  refine hm_dyn 7 rfl i_116_4 (cb rfl) kk_5 (fun _ _ => rfl) (kd_ne0 (cO_iff k_1).2 (by decide)) ?_
  refine wp_s 8 [some (.ref 0), some (.int x1)] [.int x1, .ref (m.2.2.1 5)] _ i_116_7 rfl ?_
  obtain ⟨z_2, q_3, hd⟩ := dk_bind hd
  refine wp_callV 11 rfl i_116_8 (by decide) rfl (vs := [.int x1]) (rest := []) rfl rfl rfl (hm_isO (cO_iff k_1).1 (cO_iff k_1).2) (y := m_55) rfl (Nat.le_of_ble_eq_true rfl) (d_55_ok (S := S) (d := e) (by omega) q_3) ?_
  rintro v_4 h_5 ⟨rfl, rfl⟩
  refine wp_if_ne 16 14 rfl rfl i_116_11 (fun c_6 => ?_) (fun c_6 => ?_)
  · rw [if_pos c_6] at hd
    refine wp_s 17 [some (.ref 0), some (.int x1)] [.ref 0] _ i_116_16 rfl ?_
    refine hm_get (w := .ref 90) 20 rfl i_116_17 (cb rfl) kk_0 rfl ?_
    refine wp_s 21 [some (.ref 0), some (.int x1)] [.ref 0, .ref 90] _ i_116_20 rfl ?_
    refine hm_get (w := .ref 5) 24 rfl i_116_21 (cb rfl) kk_0 rfl ?_
    refine hm_get (w := .ref 19) 27 rfl i_116_24 (cb rfl) kk_5 rfl ?_
    obtain ⟨z_7, q_8, hd⟩ := dk_bind hd
    refine wp_callV 30 rfl i_116_27 (by decide) rfl (vs := [.ref 19]) (rest := []) rfl rfl rfl (hm_isO (cb rfl) kk_90) (y := m_8) rfl (Nat.le_of_ble_eq_true rfl) (d_8_ok (S := S) (d := e) (by omega) q_8) ?_
    rintro v_9 h_10 ⟨rfl, rfl⟩
    refine wp_s 31 [some (.ref 0), some (.int x1)] [.ref 0] _ i_116_30 rfl ?_
    refine hm_get (w := .ref 5) 34 rfl i_116_31 (cb rfl) kk_0 rfl ?_
    refine hm_get (w := .ref 19) 37 rfl i_116_34 (cb rfl) kk_5 rfl ?_
    refine wp_s 38 [some (.ref 0), some (.int x1)] [.int x1, .ref 19] _ i_116_37 rfl ?_
    obtain ⟨z_11, q_12, hd⟩ := dk_bind hd
    refine wp_callV 41 rfl i_116_38 (by decide) rfl (vs := [.int x1]) (rest := []) rfl rfl rfl (hm_isO (cb rfl) kk_19) (y := m_75) rfl (Nat.le_of_ble_eq_true rfl) (d_75_ok (S := S) (d := e) (by omega) q_12) ?_
    rintro v_13 h_14 ⟨rfl, rfl⟩
    refine wp_s 42 [some (.ref 0), some (.int x1)] [.ref 0] _ i_116_41 rfl ?_
    refine hm_get (w := .ref 32) 45 rfl i_116_42 (cb rfl) kk_0 rfl ?_
    refine wp_s 46 [some (.ref 0), some (.int x1)] [.int x1, .ref 32] _ i_116_45 rfl ?_
    obtain ⟨z_15, q_16, hd⟩ := dk_bind hd
    refine wp_callV 49 rfl i_116_46 (by decide) rfl (vs := [.int x1]) (rest := []) rfl rfl rfl (hm_isO (cb rfl) kk_32) (y := m_91) rfl (Nat.le_of_ble_eq_true rfl) (d_91_ok (S := S) (d := e) (by omega) q_16) ?_
    rintro v_17 h_18 ⟨rfl, rfl⟩
    obtain rfl := Option.some.inj hd
    exact wp_iret i_116_49 ⟨rfl, rfl⟩
  · rw [if_neg c_6] at hd
    refine wp_s 15 [some (.ref 0), some (.int x1)] [.int (-1 : Int32)] _ i_116_14 rfl ?_
    obtain rfl := Option.some.inj hd
    exact wp_iret i_116_15 ⟨rfl, rfl⟩
set_option maxHeartbeats 4000000 in
set_option maxRecDepth 100000 in
theorem l_117_ok {X : aX} {S : rS} {g : Nat} {d : Nat} (hdp : 7 ≤ d) : ∀ n, (∀ (x2 : Int32) (x3 : Int32) (m : cM) (zz : Int32 × cM), l_117 g n 0 x2 x3 m = some zz → aWp X d 117 36 [some (.ref 0), some (.ref 19), some (.int x2), some (.int x3)] [] (hr m S) (fun w h' => w = some (.int zz.1) ∧ h' = hr zz.2 S)) := by
  intro n
  induction n with
  | zero => exact fun _ _ _ _ hd => by simp [l_117] at hd
  | succ n ih =>
    intro x2 x3 m zz hd
    unfold l_117 at hd
    rw [if_pos rfl] at hd
    obtain ⟨e, rfl⟩ : ∃ e, d = e + 1 := ⟨d - 1, by omega⟩
    refine wp_s 37 [some (.ref 0), some (.ref 19), some (.int x2), some (.int x3)] [.int x3] _ i_117_36 rfl ?_
    refine wp_s 38 [some (.ref 0), some (.ref 19), some (.int x2), some (.int x3)] [.ref 0, .int x3] _ i_117_37 rfl ?_
    refine hm_get (w := .ref 5) 41 rfl i_117_38 (cb rfl) kk_0 rfl ?_
    obtain ⟨k_1, hd⟩ := dk_if hd
    refine hm_dyn 44 rfl i_117_41 (cb rfl) kk_5 (fun _ _ => rfl) (kd_ne0 (cO_iff k_1).2 (by decide)) ?_
    refine hm_get (w := .int (m.1 (m.2.2.1 5) 4)) 47 rfl i_117_44 (cO_iff k_1).1 (cO_iff k_1).2 rfl ?_
    refine wp_cmp_ge 70 50 rfl rfl i_117_47 (fun c_2 => ?_) (fun c_2 => ?_)
    · rw [if_pos c_2] at hd
      refine wp_s 71 [some (.ref 0), some (.ref 19), some (.int x2), some (.int x3)] [.ref 19] _ i_117_70 rfl ?_
      refine wp_s 72 [some (.ref 0), some (.ref 19), some (.int x2), some (.int x3)] [.int x2, .ref 19] _ i_117_71 rfl ?_
      obtain ⟨z_3, q_4, hd⟩ := dk_bind hd
      refine wp_callV 75 rfl i_117_72 (by decide) rfl (vs := [.int x2]) (rest := []) rfl rfl rfl (hm_isO (cb rfl) kk_19) (y := m_78) rfl (Nat.le_of_ble_eq_true rfl) (d_78_ok (S := S) (d := e) (by omega) q_4) ?_
      rintro v_5 h_6 ⟨rfl, rfl⟩
      refine wp_s 76 [some (.ref 0), some (.ref 19), some (.int x2), some (.int x3)] [.ref 19] _ i_117_75 rfl ?_
      obtain ⟨z_7, q_8, hd⟩ := dk_bind hd
      refine wp_callV 79 rfl i_117_76 (by decide) rfl (vs := []) (rest := []) rfl rfl rfl (hm_isO (cb rfl) kk_19) (y := m_79) rfl (Nat.le_of_ble_eq_true rfl) (d_79_ok (S := S) (d := e) (by omega) q_8) ?_
      rintro v_9 h_10 ⟨rfl, rfl⟩
      refine wp_s 80 [some (.ref 0), some (.ref 19), some (.int x2), some (.int x3)] [.int x2] _ i_117_79 rfl ?_
      obtain rfl := Option.some.inj hd
      exact wp_iret i_117_80 ⟨rfl, rfl⟩
    · rw [if_neg c_2] at hd
      refine wp_s 51 [some (.ref 0), some (.ref 19), some (.int x2), some (.int x3)] [.ref 19] _ i_117_50 rfl ?_
      refine hm_get (w := .ref 25) 54 rfl i_117_51 (cb rfl) kk_19 rfl ?_
      refine wp_s 55 [some (.ref 0), some (.ref 19), some (.int x2), some (.int x3)] [.int x3, .ref 25] _ i_117_54 rfl ?_
      refine wp_s 56 [some (.ref 0), some (.ref 19), some (.int x2), some (.int x3)] [.ref 0, .int x3, .ref 25] _ i_117_55 rfl ?_
      refine hm_get (w := .ref 32) 59 rfl i_117_56 (cb rfl) kk_0 rfl ?_
      refine wp_s 60 [some (.ref 0), some (.ref 19), some (.int x2), some (.int x3)] [.int x3, .ref 32, .int x3, .ref 25] _ i_117_59 rfl ?_
      obtain ⟨z_11, q_12, hd⟩ := dk_bind hd
      refine wp_callV 63 rfl i_117_60 (by decide) rfl (vs := [.int x3]) (rest := [.int x3, .ref 25]) rfl rfl rfl (hm_isO (cb rfl) kk_32) (y := m_91) rfl (Nat.le_of_ble_eq_true rfl) (d_91_ok (S := S) (d := e) (by omega) q_12) ?_
      rintro v_13 h_14 ⟨rfl, rfl⟩
      obtain ⟨k_15, hd⟩ := dk_if hd
      obtain ⟨mm_16, q_17, hd⟩ := dk_bind hd
      refine hm_iast 64 rfl i_117_63 (cb rfl) kk_25 k_15 ?_
      rw [Option.some.inj q_17]
      refine wp_s 67 [some (.ref 0), some (.ref 19), some (.int x2), some (.int (x3 + (1 : Int32)))] [] _ i_117_64 rfl ?_
      refine wp_s 36 [some (.ref 0), some (.ref 19), some (.int x2), some (.int (x3 + (1 : Int32)))] [] _ i_117_67 rfl ?_
      exact aWp.forget (ih _ _ _ _ hd) (lvS (lvS (lvS (lvS lvE))))
set_option maxHeartbeats 4000000 in
set_option maxRecDepth 100000 in
theorem d_117_ok {X : aX} {S : rS} {g : Nat}  {m : cM} {zz : Int32 × cM} {d : Nat} (hdp : 7 ≤ d) (hd : d_117 g  m = some zz) : aWp X d 117 0 (aEntL [.ref 0] 4) [] (hr m S) (fun w h' => w = some (.int zz.1) ∧ h' = hr zz.2 S) := by
  unfold d_117 at hd
  refine wp_lv (l2 := [some (.ref 0), none, none, none]) rfl ?_
  obtain ⟨e, rfl⟩ : ∃ e, d = e + 1 := ⟨d - 1, by omega⟩
  refine wp_s 1 [some (.ref 0), none, none, none] [.ref 0] _ i_117_0 rfl ?_
  refine hm_get (w := .ref 5) 4 rfl i_117_1 (cb rfl) kk_0 rfl ?_
  refine hm_get (w := .ref 19) 7 rfl i_117_4 (cb rfl) kk_5 rfl ?_
  refine wp_s 8 [some (.ref 0), some (.ref 19), none, none] [] _ i_117_7 rfl ?_
  refine wp_s 9 [some (.ref 0), some (.ref 19), none, none] [.ref 19] _ i_117_8 rfl ?_
  obtain ⟨z_1001, q_1002, hd⟩ := dk_bind hd
  refine wp_callV 12 rfl i_117_9 (by decide) rfl (vs := []) (rest := []) rfl rfl rfl (hm_isO (cb rfl) kk_19) (y := m_73) rfl (Nat.le_of_ble_eq_true rfl) (d_73_ok (S := S) (d := e) (by omega) q_1002) ?_
  rintro v_1003 h_1004 ⟨rfl, rfl⟩
  refine wp_s 13 [some (.ref 0), some (.ref 19), none, none] [.int (1 : Int32), .int z_1001] _ i_117_12 rfl ?_
  refine wp_cmp_ge 18 16 rfl rfl i_117_13 (fun c_1005 => ?_) (fun c_1005 => ?_)
  · rw [if_pos c_1005] at hd
    refine wp_s 19 [some (.ref 0), some (.ref 19), none, none] [.ref 0] _ i_117_18 rfl ?_
    refine hm_get (w := .ref 90) 22 rfl i_117_19 (cb rfl) kk_0 rfl ?_
    refine wp_s 23 [some (.ref 0), some (.ref 19), none, none] [.ref 19, .ref 90] _ i_117_22 rfl ?_
    obtain ⟨z_1006, q_1007, hd⟩ := dk_bind hd
    refine wp_callV 26 rfl i_117_23 (by decide) rfl (vs := [.ref 19]) (rest := []) rfl rfl rfl (hm_isO (cb rfl) kk_90) (y := m_8) rfl (Nat.le_of_ble_eq_true rfl) (d_8_ok (S := S) (d := e) (by omega) q_1007) ?_
    rintro v_1008 h_1009 ⟨rfl, rfl⟩
    refine wp_s 27 [some (.ref 0), some (.ref 19), none, none] [.ref 0] _ i_117_26 rfl ?_
    refine hm_get (w := .ref 32) 30 rfl i_117_27 (cb rfl) kk_0 rfl ?_
    obtain ⟨z_1010, q_1011, hd⟩ := dk_bind hd
    refine wp_callV 33 rfl i_117_30 (by decide) rfl (vs := []) (rest := []) rfl rfl rfl (hm_isO (cb rfl) kk_32) (y := m_93) rfl (Nat.le_of_ble_eq_true rfl) (d_93_ok (S := S) (d := e) (by omega) q_1011) ?_
    rintro v_1012 h_1013 ⟨rfl, rfl⟩
    refine wp_s 34 [some (.ref 0), some (.ref 19), some (.int z_1010.1), none] [] _ i_117_33 rfl ?_
    refine wp_s 35 [some (.ref 0), some (.ref 19), some (.int z_1010.1), none] [.int (0 : Int32)] _ i_117_34 rfl ?_
    refine wp_s 36 [some (.ref 0), some (.ref 19), some (.int z_1010.1), some (.int (0 : Int32))] [] _ i_117_35 rfl ?_
    exact aWp.forget ((l_117_ok hdp g) _ _ _ _ hd) (lvS (lvS (lvS (lvS lvE))))
  · rw [if_neg c_1005] at hd
    refine wp_s 17 [some (.ref 0), some (.ref 19), none, none] [.int (-1 : Int32)] _ i_117_16 rfl ?_
    obtain rfl := Option.some.inj hd
    exact wp_iret i_117_17 ⟨rfl, rfl⟩
set_option maxHeartbeats 4000000 in
set_option maxRecDepth 100000 in
theorem d_118_ok {X : aX} {S : rS} {g : Nat} {x1 : Int32} {m : cM} {zz : Int32 × cM} {d : Nat} (hdp : 2 ≤ d) (hd : d_118 g x1 m = some zz) : aWp X d 118 0 (aEntL [.ref 0, .int x1] 4) [] (hr m S) (fun w h' => w = some (.int zz.1) ∧ h' = hr zz.2 S) := by
  unfold d_118 at hd
  refine wp_lv (l2 := [some (.ref 0), some (.int x1), none, none]) rfl ?_
  obtain ⟨e, rfl⟩ : ∃ e, d = e + 1 := ⟨d - 1, by omega⟩
  refine wp_s 1 [some (.ref 0), some (.int x1), none, none] [.ref 0] _ i_118_0 rfl ?_
  refine hm_get (w := .ref 5) 4 rfl i_118_1 (cb rfl) kk_0 rfl ?_
  refine hm_get (w := .ref 19) 7 rfl i_118_4 (cb rfl) kk_5 rfl ?_
  refine wp_s 8 [some (.ref 0), some (.int x1), some (.ref 19), none] [] _ i_118_7 rfl ?_
  refine wp_s 9 [some (.ref 0), some (.int x1), some (.ref 19), none] [.ref 0] _ i_118_8 rfl ?_
  refine hm_get (w := .ref 5) 12 rfl i_118_9 (cb rfl) kk_0 rfl ?_
  obtain ⟨k_1, hd⟩ := dk_if hd
  refine hm_dyn 15 rfl i_118_12 (cb rfl) kk_5 (fun _ _ => rfl) (kd_ne0 (cO_iff k_1).2 (by decide)) ?_
  refine wp_s 16 [some (.ref 0), some (.int x1), some (.ref 19), none] [.int x1, .ref (m.2.2.1 5)] _ i_118_15 rfl ?_
  obtain ⟨z_2, q_3, hd⟩ := dk_bind hd
  refine wp_callV 19 rfl i_118_16 (by decide) rfl (vs := [.int x1]) (rest := []) rfl rfl rfl (hm_isO (cO_iff k_1).1 (cO_iff k_1).2) (y := m_55) rfl (Nat.le_of_ble_eq_true rfl) (d_55_ok (S := S) (d := e) (by omega) q_3) ?_
  rintro v_4 h_5 ⟨rfl, rfl⟩
  refine wp_if_eq 32 22 rfl rfl i_118_19 (fun c_6 => ?_) (fun c_6 => ?_)
  · rw [if_pos c_6] at hd
    refine wp_s 33 [some (.ref 0), some (.int x1), some (.ref 19), none] [.int (-1 : Int32)] _ i_118_32 rfl ?_
    obtain rfl := Option.some.inj hd
    exact wp_iret i_118_33 ⟨rfl, rfl⟩
  · rw [if_neg c_6] at hd
    refine wp_s 23 [some (.ref 0), some (.int x1), some (.ref 19), none] [.ref 19] _ i_118_22 rfl ?_
    refine hm_get (w := .ref 24) 26 rfl i_118_23 (cb rfl) kk_19 rfl ?_
    refine wp_s 27 [some (.ref 0), some (.int x1), some (.ref 19), none] [.int x1, .ref 24] _ i_118_26 rfl ?_
    obtain ⟨k_7, hd⟩ := dk_if hd
    refine hm_iald 28 rfl i_118_27 (cb rfl) kk_24 k_7 ?_
    refine wp_s 29 [some (.ref 0), some (.int x1), some (.ref 19), none] [.int (1 : Int32), .int (m.1 24 x1.toNatClampNeg)] _ i_118_28 rfl ?_
    refine wp_cmp_ge 34 32 rfl rfl i_118_29 (fun c_8 => ?_) (fun c_8 => ?_)
    · rw [if_pos c_8] at hd
      refine wp_s 35 [some (.ref 0), some (.int x1), some (.ref 19), none] [.ref 0] _ i_118_34 rfl ?_
      refine hm_get (w := .ref 90) 38 rfl i_118_35 (cb rfl) kk_0 rfl ?_
      refine wp_s 39 [some (.ref 0), some (.int x1), some (.ref 19), none] [.ref 19, .ref 90] _ i_118_38 rfl ?_
      obtain ⟨z_9, q_10, hd⟩ := dk_bind hd
      refine wp_callV 42 rfl i_118_39 (by decide) rfl (vs := [.ref 19]) (rest := []) rfl rfl rfl (hm_isO (cb rfl) kk_90) (y := m_8) rfl (Nat.le_of_ble_eq_true rfl) (d_8_ok (S := S) (d := e) (by omega) q_10) ?_
      rintro v_11 h_12 ⟨rfl, rfl⟩
      refine wp_s 43 [some (.ref 0), some (.int x1), some (.ref 19), none] [.ref 19] _ i_118_42 rfl ?_
      refine hm_get (w := .ref 24) 46 rfl i_118_43 (cb rfl) kk_19 rfl ?_
      refine wp_s 47 [some (.ref 0), some (.int x1), some (.ref 19), none] [.int x1, .ref 24] _ i_118_46 rfl ?_
      refine wp_s 48 [some (.ref 0), some (.int x1), some (.ref 19), none] [.int x1, .ref 24, .int x1, .ref 24] _ i_118_47 rfl ?_
      obtain ⟨k_13, hd⟩ := dk_if hd
      refine hm_iald 49 rfl i_118_48 (cb rfl) kk_24 k_13 ?_
      refine wp_s 50 [some (.ref 0), some (.int x1), some (.ref 19), none] [.int (1 : Int32), .int (z_9.1 24 x1.toNatClampNeg), .int x1, .ref 24] _ i_118_49 rfl ?_
      refine wp_s 51 [some (.ref 0), some (.int x1), some (.ref 19), none] [.int ((z_9.1 24 x1.toNatClampNeg) - (1 : Int32)), .int x1, .ref 24] _ i_118_50 rfl ?_
      obtain ⟨k_14, hd⟩ := dk_if hd
      obtain ⟨mm_15, q_16, hd⟩ := dk_bind hd
      refine hm_iast 52 rfl i_118_51 (cb rfl) kk_24 k_14 ?_
      rw [Option.some.inj q_16]
      refine wp_s 53 [some (.ref 0), some (.int x1), some (.ref 19), none] [.ref 19] _ i_118_52 rfl ?_
      refine hm_get (w := .ref 22) 56 rfl i_118_53 (cb rfl) kk_19 rfl ?_
      refine wp_s 57 [some (.ref 0), some (.int x1), some (.ref 19), none] [.int x1, .ref 22] _ i_118_56 rfl ?_
      refine wp_s 58 [some (.ref 0), some (.int x1), some (.ref 19), none] [.int x1, .ref 22, .int x1, .ref 22] _ i_118_57 rfl ?_
      obtain ⟨k_17, hd⟩ := dk_if hd
      refine hm_iald 59 rfl i_118_58 (cb rfl) kk_22 k_17 ?_
      refine wp_s 60 [some (.ref 0), some (.int x1), some (.ref 19), none] [.int (1 : Int32), .int (mm_15.1 22 x1.toNatClampNeg), .int x1, .ref 22] _ i_118_59 rfl ?_
      refine wp_s 61 [some (.ref 0), some (.int x1), some (.ref 19), none] [.int ((mm_15.1 22 x1.toNatClampNeg) - (1 : Int32)), .int x1, .ref 22] _ i_118_60 rfl ?_
      obtain ⟨k_18, hd⟩ := dk_if hd
      obtain ⟨mm_19, q_20, hd⟩ := dk_bind hd
      refine hm_iast 62 rfl i_118_61 (cb rfl) kk_22 k_18 ?_
      rw [Option.some.inj q_20]
      refine wp_s 63 [some (.ref 0), some (.int x1), some (.ref 19), none] [.ref 19] _ i_118_62 rfl ?_
      refine hm_get (w := .ref 21) 66 rfl i_118_63 (cb rfl) kk_19 rfl ?_
      refine wp_s 67 [some (.ref 0), some (.int x1), some (.ref 19), none] [.int x1, .ref 21] _ i_118_66 rfl ?_
      refine wp_s 69 [some (.ref 0), some (.int x1), some (.ref 19), none] [.int (9 : Int32), .int x1, .ref 21] _ i_118_67 rfl ?_
      refine wp_s 70 [some (.ref 0), some (.int x1), some (.ref 19), none] [.ref 19, .int (9 : Int32), .int x1, .ref 21] _ i_118_69 rfl ?_
      refine hm_get (w := .ref 21) 73 rfl i_118_70 (cb rfl) kk_19 rfl ?_
      refine wp_s 74 [some (.ref 0), some (.int x1), some (.ref 19), none] [.int x1, .ref 21, .int (9 : Int32), .int x1, .ref 21] _ i_118_73 rfl ?_
      obtain ⟨k_21, hd⟩ := dk_if hd
      refine hm_iald 75 rfl i_118_74 (cb rfl) kk_21 k_21 ?_
      refine wp_s 76 [some (.ref 0), some (.int x1), some (.ref 19), none] [.int (1 : Int32), .int (mm_19.1 21 x1.toNatClampNeg), .int (9 : Int32), .int x1, .ref 21] _ i_118_75 rfl ?_
      refine wp_s 77 [some (.ref 0), some (.int x1), some (.ref 19), none] [.int ((mm_19.1 21 x1.toNatClampNeg) + (1 : Int32)), .int (9 : Int32), .int x1, .ref 21] _ i_118_76 rfl ?_
      refine hp_min 80 rfl i_118_77 rfl ?_
      obtain ⟨k_22, hd⟩ := dk_if hd
      obtain ⟨mm_23, q_24, hd⟩ := dk_bind hd
      refine hm_iast 81 rfl i_118_80 (cb rfl) kk_21 k_22 ?_
      rw [Option.some.inj q_24]
      refine wp_s 82 [some (.ref 0), some (.int x1), some (.ref 19), none] [.ref 0] _ i_118_81 rfl ?_
      refine hm_get (w := .ref 32) 85 rfl i_118_82 (cb rfl) kk_0 rfl ?_
      refine wp_s 86 [some (.ref 0), some (.int x1), some (.ref 19), none] [.int x1, .ref 32] _ i_118_85 rfl ?_
      refine wp_s 87 [some (.ref 0), some (.int x1), some (.ref 19), none] [.ref 19, .int x1, .ref 32] _ i_118_86 rfl ?_
      refine hm_get (w := .ref 24) 90 rfl i_118_87 (cb rfl) kk_19 rfl ?_
      refine wp_s 91 [some (.ref 0), some (.int x1), some (.ref 19), none] [.ref 19, .ref 24, .int x1, .ref 32] _ i_118_90 rfl ?_
      refine hm_get (w := .int (mm_23.1 19 12)) 94 rfl i_118_91 (cb rfl) kk_19 rfl ?_
      obtain ⟨z_25, q_26, hd⟩ := dk_bind hd
      refine wp_callV 97 rfl i_118_94 (by decide) rfl (vs := [.int x1, .ref 24, .int (mm_23.1 19 12)]) (rest := []) rfl rfl rfl (hm_isO (cb rfl) kk_32) (y := m_96) rfl (Nat.le_of_ble_eq_true rfl) (d_96_ok (S := S) (d := e) (by omega) q_26) ?_
      rintro v_27 h_28 ⟨rfl, rfl⟩
      refine wp_s 98 [some (.ref 0), some (.int x1), some (.ref 19), some (.int z_25.1)] [] _ i_118_97 rfl ?_
      refine wp_s 99 [some (.ref 0), some (.int x1), some (.ref 19), some (.int z_25.1)] [.ref 19] _ i_118_98 rfl ?_
      refine wp_s 100 [some (.ref 0), some (.int x1), some (.ref 19), some (.int z_25.1)] [.ref 19, .ref 19] _ i_118_99 rfl ?_
      refine hm_get (w := .int (z_25.2.1 19 12)) 103 rfl i_118_100 (cb rfl) kk_19 rfl ?_
      refine wp_s 104 [some (.ref 0), some (.int x1), some (.ref 19), some (.int z_25.1)] [.int z_25.1, .int (z_25.2.1 19 12), .ref 19] _ i_118_103 rfl ?_
      refine wp_s 105 [some (.ref 0), some (.int x1), some (.ref 19), some (.int z_25.1)] [.int ((z_25.2.1 19 12) - z_25.1), .ref 19] _ i_118_104 rfl ?_
      obtain ⟨mm_29, q_30, hd⟩ := dk_bind hd
      refine hm_put 108 rfl i_118_105 (cb rfl) kk_19 (fun _ _ => rfl) (fun _ _ => Nat.le_of_ble_eq_true rfl) rfl ?_
      rw [Option.some.inj q_30]
      refine wp_s 109 [some (.ref 0), some (.int x1), some (.ref 19), some (.int z_25.1)] [.ref 19] _ i_118_108 rfl ?_
      refine wp_s 110 [some (.ref 0), some (.int x1), some (.ref 19), some (.int z_25.1)] [.ref 19, .ref 19] _ i_118_109 rfl ?_
      refine hm_get (w := .int (mm_29.1 19 11)) 113 rfl i_118_110 (cb rfl) kk_19 rfl ?_
      refine wp_s 114 [some (.ref 0), some (.int x1), some (.ref 19), some (.int z_25.1)] [.int z_25.1, .int (mm_29.1 19 11), .ref 19] _ i_118_113 rfl ?_
      refine wp_s 115 [some (.ref 0), some (.int x1), some (.ref 19), some (.int z_25.1)] [.int ((mm_29.1 19 11) - z_25.1), .ref 19] _ i_118_114 rfl ?_
      obtain ⟨mm_31, q_32, hd⟩ := dk_bind hd
      refine hm_put 118 rfl i_118_115 (cb rfl) kk_19 (fun _ _ => rfl) (fun _ _ => Nat.le_of_ble_eq_true rfl) rfl ?_
      rw [Option.some.inj q_32]
      refine wp_s 119 [some (.ref 0), some (.int x1), some (.ref 19), some (.int z_25.1)] [.int z_25.1] _ i_118_118 rfl ?_
      obtain rfl := Option.some.inj hd
      exact wp_iret i_118_119 ⟨rfl, rfl⟩
    · rw [if_neg c_8] at hd
      refine wp_s 33 [some (.ref 0), some (.int x1), some (.ref 19), none] [.int (-1 : Int32)] _ i_118_32 rfl ?_
      obtain rfl := Option.some.inj hd
      exact wp_iret i_118_33 ⟨rfl, rfl⟩
set_option maxHeartbeats 4000000 in
set_option maxRecDepth 100000 in
theorem d_119_ok {X : aX} {S : rS} {g : Nat}  {m : cM} {zz : Int32 × cM} {d : Nat} (hdp : 2 ≤ d) (hd : d_119 g  m = some zz) : aWp X d 119 0 (aEntL [.ref 0] 1) [] (hr m S) (fun w h' => w = some (.int zz.1) ∧ h' = hr zz.2 S) := by
  unfold d_119 at hd
  refine wp_lv (l2 := [some (.ref 0)]) rfl ?_
  obtain ⟨e, rfl⟩ : ∃ e, d = e + 1 := ⟨d - 1, by omega⟩
  refine wp_s 1 [some (.ref 0)] [.ref 0] _ i_119_0 rfl ?_
  refine hm_get (w := .ref 5) 4 rfl i_119_1 (cb rfl) kk_0 rfl ?_
  obtain ⟨k_1, hd⟩ := dk_if hd
  refine hm_dyn 7 rfl i_119_4 (cb rfl) kk_5 (fun _ _ => rfl) (kd_ne0 (cO_iff k_1).2 (by decide)) ?_
  refine hm_get (w := .int (m.1 (m.2.2.1 5) 0)) 10 rfl i_119_7 (cO_iff k_1).1 (cO_iff k_1).2 rfl ?_
  refine wp_if_eq 29 13 rfl rfl i_119_10 (fun c_2 => ?_) (fun c_2 => ?_)
  · rw [if_pos c_2] at hd
    refine wp_s 30 [some (.ref 0)] [.int (-1 : Int32)] _ i_119_29 rfl ?_
    obtain rfl := Option.some.inj hd
    exact wp_iret i_119_30 ⟨rfl, rfl⟩
  · rw [if_neg c_2] at hd
    refine wp_s 14 [some (.ref 0)] [.ref 0] _ i_119_13 rfl ?_
    refine hm_get (w := .ref 5) 17 rfl i_119_14 (cb rfl) kk_0 rfl ?_
    refine hm_get (w := .ref 19) 20 rfl i_119_17 (cb rfl) kk_5 rfl ?_
    refine hm_get (w := .int (m.1 19 13)) 23 rfl i_119_20 (cb rfl) kk_19 rfl ?_
    refine wp_s 26 [some (.ref 0)] [.int (999 : Int32), .int (m.1 19 13)] _ i_119_23 rfl ?_
    refine wp_cmp_lt 31 29 rfl rfl i_119_26 (fun c_3 => ?_) (fun c_3 => ?_)
    · rw [if_pos c_3] at hd
      refine wp_s 32 [some (.ref 0)] [.ref 0] _ i_119_31 rfl ?_
      refine hm_get (w := .ref 90) 35 rfl i_119_32 (cb rfl) kk_0 rfl ?_
      refine wp_s 36 [some (.ref 0)] [.ref 0, .ref 90] _ i_119_35 rfl ?_
      refine hm_get (w := .ref 5) 39 rfl i_119_36 (cb rfl) kk_0 rfl ?_
      refine hm_get (w := .ref 19) 42 rfl i_119_39 (cb rfl) kk_5 rfl ?_
      obtain ⟨z_4, q_5, hd⟩ := dk_bind hd
      refine wp_callV 45 rfl i_119_42 (by decide) rfl (vs := [.ref 19]) (rest := []) rfl rfl rfl (hm_isO (cb rfl) kk_90) (y := m_8) rfl (Nat.le_of_ble_eq_true rfl) (d_8_ok (S := S) (d := e) (by omega) q_5) ?_
      rintro v_6 h_7 ⟨rfl, rfl⟩
      refine wp_s 46 [some (.ref 0)] [.ref 0] _ i_119_45 rfl ?_
      refine hm_get (w := .ref 5) 49 rfl i_119_46 (cb rfl) kk_0 rfl ?_
      refine hm_get (w := .ref 19) 52 rfl i_119_49 (cb rfl) kk_5 rfl ?_
      refine wp_s 53 [some (.ref 0)] [.ref 19, .ref 19] _ i_119_52 rfl ?_
      refine hm_get (w := .int (z_4.1 19 13)) 56 rfl i_119_53 (cb rfl) kk_19 rfl ?_
      refine wp_s 57 [some (.ref 0)] [.int (1 : Int32), .int (z_4.1 19 13), .ref 19] _ i_119_56 rfl ?_
      refine wp_s 58 [some (.ref 0)] [.int ((z_4.1 19 13) + (1 : Int32)), .ref 19] _ i_119_57 rfl ?_
      obtain ⟨mm_8, q_9, hd⟩ := dk_bind hd
      refine hm_put 61 rfl i_119_58 (cb rfl) kk_19 (fun _ _ => rfl) (fun _ _ => Nat.le_of_ble_eq_true rfl) rfl ?_
      rw [Option.some.inj q_9]
      refine wp_s 62 [some (.ref 0)] [.ref 0] _ i_119_61 rfl ?_
      refine hm_get (w := .ref 5) 65 rfl i_119_62 (cb rfl) kk_0 rfl ?_
      obtain ⟨k_10, hd⟩ := dk_if hd
      refine hm_dyn 68 rfl i_119_65 (cb rfl) kk_5 (fun _ _ => rfl) (kd_ne0 (cO_iff k_10).2 (by decide)) ?_
      refine wp_s 69 [some (.ref 0)] [.ref 0, .ref (mm_8.2.2.1 5)] _ i_119_68 rfl ?_
      refine hm_get (w := .ref 5) 72 rfl i_119_69 (cb rfl) kk_0 rfl ?_
      refine hm_get (w := .ref 19) 75 rfl i_119_72 (cb rfl) kk_5 rfl ?_
      refine hm_get (w := .int (mm_8.1 19 13)) 78 rfl i_119_75 (cb rfl) kk_19 rfl ?_
      obtain ⟨z_11, q_12, hd⟩ := dk_bind hd
      refine wp_callV 81 rfl i_119_78 (by decide) rfl (vs := [.int (mm_8.1 19 13)]) (rest := []) rfl rfl rfl (hm_isO (cO_iff k_10).1 (cO_iff k_10).2) (y := m_57) rfl (Nat.le_of_ble_eq_true rfl) (d_57_ok (S := S) (d := e) (by omega) q_12) ?_
      rintro v_13 h_14 ⟨rfl, rfl⟩
      obtain rfl := Option.some.inj hd
      exact wp_iret i_119_81 ⟨rfl, rfl⟩
    · rw [if_neg c_3] at hd
      refine wp_s 30 [some (.ref 0)] [.int (-1 : Int32)] _ i_119_29 rfl ?_
      obtain rfl := Option.some.inj hd
      exact wp_iret i_119_30 ⟨rfl, rfl⟩
set_option maxHeartbeats 4000000 in
set_option maxRecDepth 100000 in
theorem d_120_ok {X : aX} {S : rS} {g : Nat}  {m : cM} {zz : Int32 × cM} {d : Nat} (hdp : 2 ≤ d) (hd : d_120 g  m = some zz) : aWp X d 120 0 (aEntL [.ref 0] 1) [] (hr m S) (fun w h' => w = some (.int zz.1) ∧ h' = hr zz.2 S) := by
  unfold d_120 at hd
  refine wp_lv (l2 := [some (.ref 0)]) rfl ?_
  obtain ⟨e, rfl⟩ : ∃ e, d = e + 1 := ⟨d - 1, by omega⟩
  refine wp_s 1 [some (.ref 0)] [.ref 0] _ i_120_0 rfl ?_
  refine hm_get (w := .ref 90) 4 rfl i_120_1 (cb rfl) kk_0 rfl ?_
  refine hm_get (w := .int (m.1 90 2)) 7 rfl i_120_4 (cb rfl) kk_90 rfl ?_
  refine wp_s 8 [some (.ref 0)] [.int (1 : Int32), .int (m.1 90 2)] _ i_120_7 rfl ?_
  refine wp_cmp_ge 13 11 rfl rfl i_120_8 (fun c_1 => ?_) (fun c_1 => ?_)
  · rw [if_pos c_1] at hd
    refine wp_s 14 [some (.ref 0)] [.ref 0] _ i_120_13 rfl ?_
    refine hm_get (w := .ref 90) 17 rfl i_120_14 (cb rfl) kk_0 rfl ?_
    refine wp_s 18 [some (.ref 0)] [.ref 0, .ref 90] _ i_120_17 rfl ?_
    refine hm_get (w := .ref 5) 21 rfl i_120_18 (cb rfl) kk_0 rfl ?_
    refine hm_get (w := .ref 19) 24 rfl i_120_21 (cb rfl) kk_5 rfl ?_
    obtain ⟨z_2, q_3, hd⟩ := dk_bind hd
    refine wp_callV 27 rfl i_120_24 (by decide) rfl (vs := [.ref 19]) (rest := []) rfl rfl rfl (hm_isO (cb rfl) kk_90) (y := m_9) rfl (Nat.le_of_ble_eq_true rfl) (d_9_ok (S := S) (d := e) (by omega) q_3) ?_
    rintro v_4 h_5 ⟨rfl, rfl⟩
    refine wp_s 28 [some (.ref 0)] [.ref 0] _ i_120_27 rfl ?_
    refine hm_get (w := .ref 90) 31 rfl i_120_28 (cb rfl) kk_0 rfl ?_
    refine hm_get (w := .int (z_2.1 90 2)) 34 rfl i_120_31 (cb rfl) kk_90 rfl ?_
    obtain rfl := Option.some.inj hd
    exact wp_iret i_120_34 ⟨rfl, rfl⟩
  · rw [if_neg c_1] at hd
    refine wp_s 12 [some (.ref 0)] [.int (-1 : Int32)] _ i_120_11 rfl ?_
    obtain rfl := Option.some.inj hd
    exact wp_iret i_120_12 ⟨rfl, rfl⟩
set_option maxHeartbeats 4000000 in
set_option maxRecDepth 100000 in
theorem d_121_ok {X : aX} {S : rS} {g : Nat} {x1 : Int32} {m : cM} {zz : Int32 × cM} {d : Nat} (hdp : 11 ≤ d) (hd : d_121 g x1 m = some zz) : aWp X d 121 0 (aEntL [.ref 0, .int x1] 2) [] (hr m S) (fun w h' => w = some (.int zz.1) ∧ h' = hr zz.2 S) := by
  unfold d_121 at hd
  refine wp_lv (l2 := [some (.ref 0), some (.int x1)]) rfl ?_
  obtain ⟨e, rfl⟩ : ∃ e, d = e + 1 := ⟨d - 1, by omega⟩
  refine wp_s 1 [some (.ref 0), some (.int x1)] [.ref 0] _ i_121_0 rfl ?_
  refine hm_get (w := .ref 5) 4 rfl i_121_1 (cb rfl) kk_0 rfl ?_
  obtain ⟨k_1, hd⟩ := dk_if hd
  refine hm_dyn 7 rfl i_121_4 (cb rfl) kk_5 (fun _ _ => rfl) (kd_ne0 (cO_iff k_1).2 (by decide)) ?_
  refine hm_get (w := .int (m.1 (m.2.2.1 5) 0)) 10 rfl i_121_7 (cO_iff k_1).1 (cO_iff k_1).2 rfl ?_
  refine wp_if_eq 22 13 rfl rfl i_121_10 (fun c_2 => ?_) (fun c_2 => ?_)
  · rw [if_pos c_2] at hd
    refine wp_s 24 [some (.ref 0), some (.int x1)] [.int (-3 : Int32)] _ i_121_22 rfl ?_
    obtain rfl := Option.some.inj hd
    exact wp_iret i_121_24 ⟨rfl, rfl⟩
  · rw [if_neg c_2] at hd
    refine wp_s 14 [some (.ref 0), some (.int x1)] [.int x1] _ i_121_13 rfl ?_
    refine wp_if_lt 22 17 rfl rfl i_121_14 (fun c_3 => ?_) (fun c_3 => ?_)
    · rw [if_pos c_3] at hd
      refine wp_s 24 [some (.ref 0), some (.int x1)] [.int (-3 : Int32)] _ i_121_22 rfl ?_
      obtain rfl := Option.some.inj hd
      exact wp_iret i_121_24 ⟨rfl, rfl⟩
    · rw [if_neg c_3] at hd
      refine wp_s 18 [some (.ref 0), some (.int x1)] [.int x1] _ i_121_17 rfl ?_
      refine wp_s 19 [some (.ref 0), some (.int x1)] [.int (5 : Int32), .int x1] _ i_121_18 rfl ?_
      refine wp_cmp_le 25 22 rfl rfl i_121_19 (fun c_4 => ?_) (fun c_4 => ?_)
      · rw [if_pos c_4] at hd
        refine wp_s 26 [some (.ref 0), some (.int x1)] [.ref 0] _ i_121_25 rfl ?_
        refine hm_get (w := .ref 71) 29 rfl i_121_26 (cb rfl) kk_0 rfl ?_
        obtain ⟨z_5, q_6, hd⟩ := dk_bind hd
        refine wp_callV 32 rfl i_121_29 (by decide) rfl (vs := []) (rest := []) rfl rfl rfl (hm_isO (cb rfl) kk_71) (y := m_13) rfl (Nat.le_of_ble_eq_true rfl) (d_13_ok (S := S) (d := e) (by omega) q_6) ?_
        rintro v_7 h_8 ⟨rfl, rfl⟩
        refine wp_s 33 [some (.ref 0), some (.int x1)] [.ref 0] _ i_121_32 rfl ?_
        refine hm_get (w := .ref 71) 36 rfl i_121_33 (cb rfl) kk_0 rfl ?_
        refine hm_get (w := .ref 72) 39 rfl i_121_36 (cb rfl) kk_71 rfl ?_
        refine wp_s 40 [some (.ref 0), some (.int x1)] [.int x1, .ref 72] _ i_121_39 rfl ?_
        obtain ⟨z_9, q_10, hd⟩ := dk_bind hd
        refine wp_callV 43 rfl i_121_40 (by decide) rfl (vs := [.int x1]) (rest := []) rfl rfl rfl (hm_isO (cb rfl) kk_72) (y := m_4) rfl (Nat.le_of_ble_eq_true rfl) (d_4_ok (S := S) (d := e) (by omega) q_10) ?_
        rintro v_11 h_12 ⟨rfl, rfl⟩
        obtain rfl := Option.some.inj hd
        exact wp_iret i_121_43 ⟨rfl, rfl⟩
      · rw [if_neg c_4] at hd
        refine wp_s 24 [some (.ref 0), some (.int x1)] [.int (-3 : Int32)] _ i_121_22 rfl ?_
        obtain rfl := Option.some.inj hd
        exact wp_iret i_121_24 ⟨rfl, rfl⟩
set_option maxHeartbeats 4000000 in
set_option maxRecDepth 100000 in
theorem d_122_ok {X : aX} {S : rS} {g : Nat} {x1 : Int32} {m : cM} {zz : Int32 × cM} {d : Nat} (hdp : 6 ≤ d) (hd : d_122 g x1 m = some zz) : aWp X d 122 0 (aEntL [.ref 0, .int x1] 2) [] (hr m S) (fun w h' => w = some (.int zz.1) ∧ h' = hr zz.2 S) := by
  unfold d_122 at hd
  refine wp_lv (l2 := [some (.ref 0), some (.int x1)]) rfl ?_
  obtain ⟨e, rfl⟩ : ∃ e, d = e + 1 := ⟨d - 1, by omega⟩
  refine wp_s 1 [some (.ref 0), some (.int x1)] [.ref 0] _ i_122_0 rfl ?_
  refine hm_get (w := .ref 5) 4 rfl i_122_1 (cb rfl) kk_0 rfl ?_
  obtain ⟨k_1, hd⟩ := dk_if hd
  refine hm_dyn 7 rfl i_122_4 (cb rfl) kk_5 (fun _ _ => rfl) (kd_ne0 (cO_iff k_1).2 (by decide)) ?_
  refine hm_get (w := .int (m.1 (m.2.2.1 5) 0)) 10 rfl i_122_7 (cO_iff k_1).1 (cO_iff k_1).2 rfl ?_
  refine wp_if_eq 22 13 rfl rfl i_122_10 (fun c_2 => ?_) (fun c_2 => ?_)
  · rw [if_pos c_2] at hd
    refine wp_s 25 [some (.ref 0), some (.int x1)] [.int (-1000000 : Int32)] _ i_122_22 rfl ?_
    obtain rfl := Option.some.inj hd
    exact wp_iret i_122_25 ⟨rfl, rfl⟩
  · rw [if_neg c_2] at hd
    refine wp_s 14 [some (.ref 0), some (.int x1)] [.int x1] _ i_122_13 rfl ?_
    refine wp_if_lt 22 17 rfl rfl i_122_14 (fun c_3 => ?_) (fun c_3 => ?_)
    · rw [if_pos c_3] at hd
      refine wp_s 25 [some (.ref 0), some (.int x1)] [.int (-1000000 : Int32)] _ i_122_22 rfl ?_
      obtain rfl := Option.some.inj hd
      exact wp_iret i_122_25 ⟨rfl, rfl⟩
    · rw [if_neg c_3] at hd
      refine wp_s 18 [some (.ref 0), some (.int x1)] [.int x1] _ i_122_17 rfl ?_
      refine wp_s 19 [some (.ref 0), some (.int x1)] [.int (3 : Int32), .int x1] _ i_122_18 rfl ?_
      refine wp_cmp_le 26 22 rfl rfl i_122_19 (fun c_4 => ?_) (fun c_4 => ?_)
      · rw [if_pos c_4] at hd
        refine wp_s 27 [some (.ref 0), some (.int x1)] [.ref 0] _ i_122_26 rfl ?_
        refine hm_get (w := .ref 71) 30 rfl i_122_27 (cb rfl) kk_0 rfl ?_
        refine wp_s 31 [some (.ref 0), some (.int x1)] [.ref 0, .ref 71] _ i_122_30 rfl ?_
        refine hm_get (w := .ref 5) 34 rfl i_122_31 (cb rfl) kk_0 rfl ?_
        refine hm_get (w := .ref 19) 37 rfl i_122_34 (cb rfl) kk_5 rfl ?_
        refine hm_get (w := .int (m.1 19 13)) 40 rfl i_122_37 (cb rfl) kk_19 rfl ?_
        obtain ⟨z_5, q_6, hd⟩ := dk_bind hd
        refine wp_callV 43 rfl i_122_40 (by decide) rfl (vs := [.int (m.1 19 13)]) (rest := []) rfl rfl rfl (hm_isO (cb rfl) kk_71) (y := m_12) rfl (Nat.le_of_ble_eq_true rfl) (d_12_ok (S := S) (d := e) (by omega) q_6) ?_
        rintro v_7 h_8 ⟨rfl, rfl⟩
        refine wp_s 44 [some (.ref 0), some (.int x1)] [.ref 0] _ i_122_43 rfl ?_
        refine hm_get (w := .ref 71) 47 rfl i_122_44 (cb rfl) kk_0 rfl ?_
        refine wp_s 48 [some (.ref 0), some (.int x1)] [.ref 0, .ref 71] _ i_122_47 rfl ?_
        refine hm_get (w := .ref 5) 51 rfl i_122_48 (cb rfl) kk_0 rfl ?_
        obtain ⟨k_9, hd⟩ := dk_if hd
        refine hm_dyn 54 rfl i_122_51 (cb rfl) kk_5 (fun _ _ => rfl) (kd_ne0 (cO_iff k_9).2 (by decide)) ?_
        refine hm_get (w := .int (z_5.1 (z_5.2.2.1 5) 2)) 57 rfl i_122_54 (cO_iff k_9).1 (cO_iff k_9).2 rfl ?_
        obtain ⟨z_10, q_11, hd⟩ := dk_bind hd
        refine wp_callV 60 rfl i_122_57 (by decide) rfl (vs := [.int (z_5.1 (z_5.2.2.1 5) 2)]) (rest := []) rfl rfl rfl (hm_isO (cb rfl) kk_71) (y := m_15) rfl (Nat.le_of_ble_eq_true rfl) (d_15_ok (S := S) (d := e) (by omega) q_11) ?_
        rintro v_12 h_13 ⟨rfl, rfl⟩
        refine wp_s 61 [some (.ref 0), some (.int x1)] [.ref 0] _ i_122_60 rfl ?_
        refine hm_get (w := .ref 71) 64 rfl i_122_61 (cb rfl) kk_0 rfl ?_
        refine hm_get (w := .ref 72) 67 rfl i_122_64 (cb rfl) kk_71 rfl ?_
        refine wp_s 68 [some (.ref 0), some (.int x1)] [.int x1, .ref 72] _ i_122_67 rfl ?_
        obtain ⟨z_14, q_15, hd⟩ := dk_bind hd
        refine wp_callV 71 rfl i_122_68 (by decide) rfl (vs := [.int x1]) (rest := []) rfl rfl rfl (hm_isO (cb rfl) kk_72) (y := m_4) rfl (Nat.le_of_ble_eq_true rfl) (d_4_ok (S := S) (d := e) (by omega) q_15) ?_
        rintro v_16 h_17 ⟨rfl, rfl⟩
        obtain rfl := Option.some.inj hd
        exact wp_iret i_122_71 ⟨rfl, rfl⟩
      · rw [if_neg c_4] at hd
        refine wp_s 25 [some (.ref 0), some (.int x1)] [.int (-1000000 : Int32)] _ i_122_22 rfl ?_
        obtain rfl := Option.some.inj hd
        exact wp_iret i_122_25 ⟨rfl, rfl⟩
set_option maxHeartbeats 4000000 in
set_option maxRecDepth 100000 in
theorem d_123_ok {X : aX} {S : rS} {g : Nat} {x1 : Int32} {m : cM} {zz : Int32 × cM} {d : Nat} (hdp : 12 ≤ d) (hd : d_123 g x1 m = some zz) : aWp X d 123 0 (aEntL [.ref 0, .int x1] 2) [] (hr m S) (fun w h' => w = some (.int zz.1) ∧ h' = hr zz.2 S) := by
  unfold d_123 at hd
  refine wp_lv (l2 := [some (.ref 0), some (.int x1)]) rfl ?_
  obtain ⟨e, rfl⟩ : ∃ e, d = e + 1 := ⟨d - 1, by omega⟩
  refine wp_s 1 [some (.ref 0), some (.int x1)] [.ref 0] _ i_123_0 rfl ?_
  refine hm_get (w := .ref 5) 4 rfl i_123_1 (cb rfl) kk_0 rfl ?_
  obtain ⟨k_1, hd⟩ := dk_if hd
  refine hm_dyn 7 rfl i_123_4 (cb rfl) kk_5 (fun _ _ => rfl) (kd_ne0 (cO_iff k_1).2 (by decide)) ?_
  refine hm_get (w := .int (m.1 (m.2.2.1 5) 0)) 10 rfl i_123_7 (cO_iff k_1).1 (cO_iff k_1).2 rfl ?_
  refine wp_if_eq 23 13 rfl rfl i_123_10 (fun c_2 => ?_) (fun c_2 => ?_)
  · rw [if_pos c_2] at hd
    refine wp_s 25 [some (.ref 0), some (.int x1)] [.int (-3 : Int32)] _ i_123_23 rfl ?_
    obtain rfl := Option.some.inj hd
    exact wp_iret i_123_25 ⟨rfl, rfl⟩
  · rw [if_neg c_2] at hd
    refine wp_s 14 [some (.ref 0), some (.int x1)] [.int x1] _ i_123_13 rfl ?_
    refine wp_if_lt 23 17 rfl rfl i_123_14 (fun c_3 => ?_) (fun c_3 => ?_)
    · rw [if_pos c_3] at hd
      refine wp_s 25 [some (.ref 0), some (.int x1)] [.int (-3 : Int32)] _ i_123_23 rfl ?_
      obtain rfl := Option.some.inj hd
      exact wp_iret i_123_25 ⟨rfl, rfl⟩
    · rw [if_neg c_3] at hd
      refine wp_s 18 [some (.ref 0), some (.int x1)] [.int x1] _ i_123_17 rfl ?_
      refine wp_s 20 [some (.ref 0), some (.int x1)] [.int (7 : Int32), .int x1] _ i_123_18 rfl ?_
      refine wp_cmp_le 26 23 rfl rfl i_123_20 (fun c_4 => ?_) (fun c_4 => ?_)
      · rw [if_pos c_4] at hd
        refine wp_s 27 [some (.ref 0), some (.int x1)] [.ref 0] _ i_123_26 rfl ?_
        refine hm_get (w := .ref 71) 30 rfl i_123_27 (cb rfl) kk_0 rfl ?_
        obtain ⟨z_5, q_6, hd⟩ := dk_bind hd
        refine wp_callV 33 rfl i_123_30 (by decide) rfl (vs := []) (rest := []) rfl rfl rfl (hm_isO (cb rfl) kk_71) (y := m_23) rfl (Nat.le_of_ble_eq_true rfl) (d_23_ok (S := S) (d := e) (by omega) q_6) ?_
        rintro v_7 h_8 ⟨rfl, rfl⟩
        refine wp_s 34 [some (.ref 0), some (.int x1)] [.int x1] _ i_123_33 rfl ?_
        refine wp_s 36 [some (.ref 0), some (.int x1)] [.int (6 : Int32), .int x1] _ i_123_34 rfl ?_
        refine wp_cmp_le 54 39 rfl rfl i_123_36 (fun c_9 => ?_) (fun c_9 => ?_)
        · rw [if_pos c_9] at hd
          refine wp_s 55 [some (.ref 0), some (.int x1)] [.ref 0] _ i_123_54 rfl ?_
          refine hm_get (w := .ref 71) 58 rfl i_123_55 (cb rfl) kk_0 rfl ?_
          refine hm_get (w := .ref 72) 61 rfl i_123_58 (cb rfl) kk_71 rfl ?_
          refine wp_s 62 [some (.ref 0), some (.int x1)] [.int x1, .ref 72] _ i_123_61 rfl ?_
          obtain ⟨z_10, q_11, hd⟩ := dk_bind hd
          refine wp_callV 65 rfl i_123_62 (by decide) rfl (vs := [.int x1]) (rest := []) rfl rfl rfl (hm_isO (cb rfl) kk_72) (y := m_4) rfl (Nat.le_of_ble_eq_true rfl) (d_4_ok (S := S) (d := e) (by omega) q_11) ?_
          rintro v_12 h_13 ⟨rfl, rfl⟩
          obtain rfl := Option.some.inj hd
          exact wp_iret i_123_65 ⟨rfl, rfl⟩
        · rw [if_neg c_9] at hd
          refine wp_s 40 [some (.ref 0), some (.int x1)] [.ref 0] _ i_123_39 rfl ?_
          refine hm_get (w := .ref 71) 43 rfl i_123_40 (cb rfl) kk_0 rfl ?_
          refine hm_get (w := .ref 72) 46 rfl i_123_43 (cb rfl) kk_71 rfl ?_
          obtain ⟨z_14, q_15, hd⟩ := dk_bind hd
          refine wp_callV 49 rfl i_123_46 (by decide) rfl (vs := []) (rest := []) rfl rfl rfl (hm_isO (cb rfl) kk_72) (y := m_6) rfl (Nat.le_of_ble_eq_true rfl) (d_6_ok (S := S) (d := e) (by omega) q_15) ?_
          rintro v_16 h_17 ⟨rfl, rfl⟩
          refine wp_s 50 [some (.ref 0), some (.int x1)] [.int (1 : Int32), .int z_14] _ i_123_49 rfl ?_
          refine wp_s 51 [some (.ref 0), some (.int x1)] [.int (z_14 + (1 : Int32))] _ i_123_50 rfl ?_
          refine wp_s 65 [some (.ref 0), some (.int x1)] [.int (z_14 + (1 : Int32))] _ i_123_51 rfl ?_
          obtain rfl := Option.some.inj hd
          exact wp_iret i_123_65 ⟨rfl, rfl⟩
      · rw [if_neg c_4] at hd
        refine wp_s 25 [some (.ref 0), some (.int x1)] [.int (-3 : Int32)] _ i_123_23 rfl ?_
        obtain rfl := Option.some.inj hd
        exact wp_iret i_123_25 ⟨rfl, rfl⟩
set_option maxHeartbeats 4000000 in
set_option maxRecDepth 100000 in
theorem d_124_ok {X : aX} {S : rS} {g : Nat} {x1 : Int32} {m : cM} {zz : Int32 × cM} {d : Nat} (hdp : 12 ≤ d) (hd : d_124 g x1 m = some zz) : aWp X d 124 0 (aEntL [.ref 0, .int x1] 2) [] (hr m S) (fun w h' => w = some (.int zz.1) ∧ h' = hr zz.2 S) := by
  unfold d_124 at hd
  refine wp_lv (l2 := [some (.ref 0), some (.int x1)]) rfl ?_
  obtain ⟨e, rfl⟩ : ∃ e, d = e + 1 := ⟨d - 1, by omega⟩
  refine wp_s 1 [some (.ref 0), some (.int x1)] [.ref 0] _ i_124_0 rfl ?_
  refine hm_get (w := .ref 5) 4 rfl i_124_1 (cb rfl) kk_0 rfl ?_
  obtain ⟨k_1, hd⟩ := dk_if hd
  refine hm_dyn 7 rfl i_124_4 (cb rfl) kk_5 (fun _ _ => rfl) (kd_ne0 (cO_iff k_1).2 (by decide)) ?_
  refine hm_get (w := .int (m.1 (m.2.2.1 5) 0)) 10 rfl i_124_7 (cO_iff k_1).1 (cO_iff k_1).2 rfl ?_
  refine wp_if_eq 23 13 rfl rfl i_124_10 (fun c_2 => ?_) (fun c_2 => ?_)
  · rw [if_pos c_2] at hd
    refine wp_s 25 [some (.ref 0), some (.int x1)] [.int (-3 : Int32)] _ i_124_23 rfl ?_
    obtain rfl := Option.some.inj hd
    exact wp_iret i_124_25 ⟨rfl, rfl⟩
  · rw [if_neg c_2] at hd
    refine wp_s 14 [some (.ref 0), some (.int x1)] [.int x1] _ i_124_13 rfl ?_
    refine wp_if_lt 23 17 rfl rfl i_124_14 (fun c_3 => ?_) (fun c_3 => ?_)
    · rw [if_pos c_3] at hd
      refine wp_s 25 [some (.ref 0), some (.int x1)] [.int (-3 : Int32)] _ i_124_23 rfl ?_
      obtain rfl := Option.some.inj hd
      exact wp_iret i_124_25 ⟨rfl, rfl⟩
    · rw [if_neg c_3] at hd
      refine wp_s 18 [some (.ref 0), some (.int x1)] [.int x1] _ i_124_17 rfl ?_
      refine wp_s 20 [some (.ref 0), some (.int x1)] [.int (6 : Int32), .int x1] _ i_124_18 rfl ?_
      refine wp_cmp_le 26 23 rfl rfl i_124_20 (fun c_4 => ?_) (fun c_4 => ?_)
      · rw [if_pos c_4] at hd
        refine wp_s 27 [some (.ref 0), some (.int x1)] [.ref 0] _ i_124_26 rfl ?_
        refine hm_get (w := .ref 71) 30 rfl i_124_27 (cb rfl) kk_0 rfl ?_
        obtain ⟨z_5, q_6, hd⟩ := dk_bind hd
        refine wp_callV 33 rfl i_124_30 (by decide) rfl (vs := []) (rest := []) rfl rfl rfl (hm_isO (cb rfl) kk_71) (y := m_26) rfl (Nat.le_of_ble_eq_true rfl) (d_26_ok (S := S) (d := e) (by omega) q_6) ?_
        rintro v_7 h_8 ⟨rfl, rfl⟩
        refine wp_s 34 [some (.ref 0), some (.int x1)] [.ref 0] _ i_124_33 rfl ?_
        refine hm_get (w := .ref 71) 37 rfl i_124_34 (cb rfl) kk_0 rfl ?_
        refine hm_get (w := .ref 72) 40 rfl i_124_37 (cb rfl) kk_71 rfl ?_
        refine wp_s 41 [some (.ref 0), some (.int x1)] [.int x1, .ref 72] _ i_124_40 rfl ?_
        obtain ⟨z_9, q_10, hd⟩ := dk_bind hd
        refine wp_callV 44 rfl i_124_41 (by decide) rfl (vs := [.int x1]) (rest := []) rfl rfl rfl (hm_isO (cb rfl) kk_72) (y := m_4) rfl (Nat.le_of_ble_eq_true rfl) (d_4_ok (S := S) (d := e) (by omega) q_10) ?_
        rintro v_11 h_12 ⟨rfl, rfl⟩
        obtain rfl := Option.some.inj hd
        exact wp_iret i_124_44 ⟨rfl, rfl⟩
      · rw [if_neg c_4] at hd
        refine wp_s 25 [some (.ref 0), some (.int x1)] [.int (-3 : Int32)] _ i_124_23 rfl ?_
        obtain rfl := Option.some.inj hd
        exact wp_iret i_124_25 ⟨rfl, rfl⟩
set_option maxHeartbeats 4000000 in
set_option maxRecDepth 100000 in
theorem d_125_ok {X : aX} {S : rS} {g : Nat} {x1 : Int32} {m : cM} {zz : Int32 × cM} {d : Nat} (hdp : 13 ≤ d) (hd : d_125 g x1 m = some zz) : aWp X d 125 0 (aEntL [.ref 0, .int x1] 2) [] (hr m S) (fun w h' => w = some (.int zz.1) ∧ h' = hr zz.2 S) := by
  unfold d_125 at hd
  refine wp_lv (l2 := [some (.ref 0), some (.int x1)]) rfl ?_
  obtain ⟨e, rfl⟩ : ∃ e, d = e + 1 := ⟨d - 1, by omega⟩
  refine wp_s 1 [some (.ref 0), some (.int x1)] [.ref 0] _ i_125_0 rfl ?_
  refine hm_get (w := .ref 5) 4 rfl i_125_1 (cb rfl) kk_0 rfl ?_
  obtain ⟨k_1, hd⟩ := dk_if hd
  refine hm_dyn 7 rfl i_125_4 (cb rfl) kk_5 (fun _ _ => rfl) (kd_ne0 (cO_iff k_1).2 (by decide)) ?_
  refine hm_get (w := .int (m.1 (m.2.2.1 5) 0)) 10 rfl i_125_7 (cO_iff k_1).1 (cO_iff k_1).2 rfl ?_
  refine wp_if_eq 23 13 rfl rfl i_125_10 (fun c_2 => ?_) (fun c_2 => ?_)
  · rw [if_pos c_2] at hd
    refine wp_s 26 [some (.ref 0), some (.int x1)] [.int (-1000000 : Int32)] _ i_125_23 rfl ?_
    obtain rfl := Option.some.inj hd
    exact wp_iret i_125_26 ⟨rfl, rfl⟩
  · rw [if_neg c_2] at hd
    refine wp_s 14 [some (.ref 0), some (.int x1)] [.int x1] _ i_125_13 rfl ?_
    refine wp_if_lt 23 17 rfl rfl i_125_14 (fun c_3 => ?_) (fun c_3 => ?_)
    · rw [if_pos c_3] at hd
      refine wp_s 26 [some (.ref 0), some (.int x1)] [.int (-1000000 : Int32)] _ i_125_23 rfl ?_
      obtain rfl := Option.some.inj hd
      exact wp_iret i_125_26 ⟨rfl, rfl⟩
    · rw [if_neg c_3] at hd
      refine wp_s 18 [some (.ref 0), some (.int x1)] [.int x1] _ i_125_17 rfl ?_
      refine wp_s 20 [some (.ref 0), some (.int x1)] [.int (8 : Int32), .int x1] _ i_125_18 rfl ?_
      refine wp_cmp_le 27 23 rfl rfl i_125_20 (fun c_4 => ?_) (fun c_4 => ?_)
      · rw [if_pos c_4] at hd
        refine wp_s 28 [some (.ref 0), some (.int x1)] [.ref 0] _ i_125_27 rfl ?_
        refine hm_get (w := .ref 71) 31 rfl i_125_28 (cb rfl) kk_0 rfl ?_
        obtain ⟨z_5, q_6, hd⟩ := dk_bind hd
        refine wp_callV 34 rfl i_125_31 (by decide) rfl (vs := []) (rest := []) rfl rfl rfl (hm_isO (cb rfl) kk_71) (y := m_28) rfl (Nat.le_of_ble_eq_true rfl) (d_28_ok (S := S) (d := e) (by omega) q_6) ?_
        rintro v_7 h_8 ⟨rfl, rfl⟩
        refine wp_s 35 [some (.ref 0), some (.int x1)] [.int x1] _ i_125_34 rfl ?_
        refine wp_if_ne 52 38 rfl rfl i_125_35 (fun c_9 => ?_) (fun c_9 => ?_)
        · rw [if_pos c_9] at hd
          refine wp_s 53 [some (.ref 0), some (.int x1)] [.ref 0] _ i_125_52 rfl ?_
          refine hm_get (w := .ref 71) 56 rfl i_125_53 (cb rfl) kk_0 rfl ?_
          refine hm_get (w := .ref 72) 59 rfl i_125_56 (cb rfl) kk_71 rfl ?_
          refine wp_s 60 [some (.ref 0), some (.int x1)] [.int x1, .ref 72] _ i_125_59 rfl ?_
          obtain ⟨z_10, q_11, hd⟩ := dk_bind hd
          refine wp_callV 63 rfl i_125_60 (by decide) rfl (vs := [.int x1]) (rest := []) rfl rfl rfl (hm_isO (cb rfl) kk_72) (y := m_4) rfl (Nat.le_of_ble_eq_true rfl) (d_4_ok (S := S) (d := e) (by omega) q_11) ?_
          rintro v_12 h_13 ⟨rfl, rfl⟩
          obtain rfl := Option.some.inj hd
          exact wp_iret i_125_63 ⟨rfl, rfl⟩
        · rw [if_neg c_9] at hd
          refine wp_s 39 [some (.ref 0), some (.int x1)] [.ref 0] _ i_125_38 rfl ?_
          refine hm_get (w := .ref 71) 42 rfl i_125_39 (cb rfl) kk_0 rfl ?_
          refine hm_get (w := .ref 72) 45 rfl i_125_42 (cb rfl) kk_71 rfl ?_
          refine hm_get (w := .int (z_5.1 72 1)) 48 rfl i_125_45 (cb rfl) kk_72 rfl ?_
          refine wp_s 49 [some (.ref 0), some (.int x1)] [.int (-(z_5.1 72 1))] _ i_125_48 rfl ?_
          refine wp_s 63 [some (.ref 0), some (.int x1)] [.int (-(z_5.1 72 1))] _ i_125_49 rfl ?_
          obtain rfl := Option.some.inj hd
          exact wp_iret i_125_63 ⟨rfl, rfl⟩
      · rw [if_neg c_4] at hd
        refine wp_s 26 [some (.ref 0), some (.int x1)] [.int (-1000000 : Int32)] _ i_125_23 rfl ?_
        obtain rfl := Option.some.inj hd
        exact wp_iret i_125_26 ⟨rfl, rfl⟩
set_option maxHeartbeats 4000000 in
set_option maxRecDepth 100000 in
theorem d_126_ok {X : aX} {S : rS} {g : Nat} {x1 : Int32} {m : cM} {zz : Int32 × cM} {d : Nat} (hdp : 7 ≤ d) (hd : d_126 g x1 m = some zz) : aWp X d 126 0 (aEntL [.ref 0, .int x1] 5) [] (hr m S) (fun w h' => w = some (.int zz.1) ∧ h' = hr zz.2 S) := by
  unfold d_126 at hd
  refine wp_lv (l2 := [some (.ref 0), some (.int x1), none, none, none]) rfl ?_
  obtain ⟨e, rfl⟩ : ∃ e, d = e + 1 := ⟨d - 1, by omega⟩
  refine wp_s 1 [some (.ref 0), some (.int x1), none, none, none] [.ref 0] _ i_126_0 rfl ?_
  refine hm_get (w := .ref 5) 4 rfl i_126_1 (cb rfl) kk_0 rfl ?_
  obtain ⟨k_1, hd⟩ := dk_if hd
  refine hm_dyn 7 rfl i_126_4 (cb rfl) kk_5 (fun _ _ => rfl) (kd_ne0 (cO_iff k_1).2 (by decide)) ?_
  refine hm_get (w := .int (m.1 (m.2.2.1 5) 0)) 10 rfl i_126_7 (cO_iff k_1).1 (cO_iff k_1).2 rfl ?_
  refine wp_if_eq 24 13 rfl rfl i_126_10 (fun c_2 => ?_) (fun c_2 => ?_)
  · rw [if_pos c_2] at hd
    refine wp_s 27 [some (.ref 0), some (.int x1), none, none, none] [.int (-1000000 : Int32)] _ i_126_24 rfl ?_
    obtain rfl := Option.some.inj hd
    exact wp_iret i_126_27 ⟨rfl, rfl⟩
  · rw [if_neg c_2] at hd
    refine wp_s 14 [some (.ref 0), some (.int x1), none, none, none] [.int x1] _ i_126_13 rfl ?_
    refine wp_s 15 [some (.ref 0), some (.int x1), none, none, none] [.int (1 : Int32), .int x1] _ i_126_14 rfl ?_
    refine wp_s 18 [some (.ref 0), some (.int x1), none, none, none] [.int (9999 : Int32), .int (1 : Int32), .int x1] _ i_126_15 rfl ?_
    obtain ⟨z_3, q_4, hd⟩ := dk_bind hd
    refine wp_callS 21 rfl i_126_18 (by decide) (vs := [.int x1, .int (1 : Int32), .int (9999 : Int32)]) (rest := []) rfl rfl rfl (y := m_138) rfl (Nat.le_of_ble_eq_true rfl) (d_138_ok (S := S) (d := e) (by omega) q_4) ?_
    rintro v_5 h_6 ⟨rfl, rfl⟩
    refine wp_if_ne 28 24 rfl rfl i_126_21 (fun c_7 => ?_) (fun c_7 => ?_)
    · rw [if_pos c_7] at hd
      refine wp_s 29 [some (.ref 0), some (.int x1), none, none, none] [.ref 0] _ i_126_28 rfl ?_
      refine hm_get (w := .ref 5) 32 rfl i_126_29 (cb rfl) kk_0 rfl ?_
      refine hm_get (w := .ref 19) 35 rfl i_126_32 (cb rfl) kk_5 rfl ?_
      refine wp_s 36 [some (.ref 0), some (.int x1), some (.ref 19), none, none] [] _ i_126_35 rfl ?_
      refine wp_s 37 [some (.ref 0), some (.int x1), some (.ref 19), none, none] [.ref 0] _ i_126_36 rfl ?_
      refine hm_get (w := .ref 32) 40 rfl i_126_37 (cb rfl) kk_0 rfl ?_
      obtain ⟨z_8, q_9, hd⟩ := dk_bind hd
      refine wp_callV 43 rfl i_126_40 (by decide) rfl (vs := []) (rest := []) rfl rfl rfl (hm_isO (cb rfl) kk_32) (y := m_93) rfl (Nat.le_of_ble_eq_true rfl) (d_93_ok (S := S) (d := e) (by omega) q_9) ?_
      rintro v_10 h_11 ⟨rfl, rfl⟩
      refine wp_s 44 [some (.ref 0), some (.int x1), some (.ref 19), none, none] [.ref 0, .int z_8.1] _ i_126_43 rfl ?_
      refine hm_get (w := .ref 32) 47 rfl i_126_44 (cb rfl) kk_0 rfl ?_
      refine wp_s 48 [some (.ref 0), some (.int x1), some (.ref 19), none, none] [.int x1, .ref 32, .int z_8.1] _ i_126_47 rfl ?_
      obtain ⟨z_12, q_13, hd⟩ := dk_bind hd
      refine wp_callV 51 rfl i_126_48 (by decide) rfl (vs := [.int x1]) (rest := [.int z_8.1]) rfl rfl rfl (hm_isO (cb rfl) kk_32) (y := m_95) rfl (Nat.le_of_ble_eq_true rfl) (d_95_ok (S := S) (d := e) (by omega) q_13) ?_
      rintro v_14 h_15 ⟨rfl, rfl⟩
      refine wp_s 52 [some (.ref 0), some (.int x1), some (.ref 19), none, none] [.int (z_8.1 + z_12)] _ i_126_51 rfl ?_
      refine wp_s 53 [some (.ref 0), some (.int x1), some (.ref 19), some (.int (z_8.1 + z_12)), none] [] _ i_126_52 rfl ?_
      refine wp_s 54 [some (.ref 0), some (.int x1), some (.ref 19), some (.int (z_8.1 + z_12)), none] [.ref 19] _ i_126_53 rfl ?_
      obtain ⟨z_16, q_17, hd⟩ := dk_bind hd
      refine wp_callV 57 rfl i_126_54 (by decide) rfl (vs := []) (rest := []) rfl rfl rfl (hm_isO (cb rfl) kk_19) (y := m_73) rfl (Nat.le_of_ble_eq_true rfl) (d_73_ok (S := S) (d := e) (by omega) q_17) ?_
      rintro v_18 h_19 ⟨rfl, rfl⟩
      refine wp_s 58 [some (.ref 0), some (.int x1), some (.ref 19), some (.int (z_8.1 + z_12)), none] [.int (1 : Int32), .int z_16] _ i_126_57 rfl ?_
      refine wp_s 59 [some (.ref 0), some (.int x1), some (.ref 19), some (.int (z_8.1 + z_12)), none] [.int (z_16 + (1 : Int32))] _ i_126_58 rfl ?_
      refine wp_s 61 [some (.ref 0), some (.int x1), some (.ref 19), some (.int (z_8.1 + z_12)), some (.int (z_16 + (1 : Int32)))] [] _ i_126_59 rfl ?_
      refine wp_s 62 [some (.ref 0), some (.int x1), some (.ref 19), some (.int (z_8.1 + z_12)), some (.int (z_16 + (1 : Int32)))] [.int (z_8.1 + z_12)] _ i_126_61 rfl ?_
      refine wp_s 63 [some (.ref 0), some (.int x1), some (.ref 19), some (.int (z_8.1 + z_12)), some (.int (z_16 + (1 : Int32)))] [.ref 0, .int (z_8.1 + z_12)] _ i_126_62 rfl ?_
      refine hm_get (w := .ref 32) 66 rfl i_126_63 (cb rfl) kk_0 rfl ?_
      refine wp_s 68 [some (.ref 0), some (.int x1), some (.ref 19), some (.int (z_8.1 + z_12)), some (.int (z_16 + (1 : Int32)))] [.int (z_16 + (1 : Int32)), .ref 32, .int (z_8.1 + z_12)] _ i_126_66 rfl ?_
      refine wp_s 69 [some (.ref 0), some (.int x1), some (.ref 19), some (.int (z_8.1 + z_12)), some (.int (z_16 + (1 : Int32)))] [.ref 0, .int (z_16 + (1 : Int32)), .ref 32, .int (z_8.1 + z_12)] _ i_126_68 rfl ?_
      refine hm_get (w := .ref 32) 72 rfl i_126_69 (cb rfl) kk_0 rfl ?_
      obtain ⟨z_20, q_21, hd⟩ := dk_bind hd
      refine wp_callV 75 rfl i_126_72 (by decide) rfl (vs := []) (rest := [.int (z_16 + (1 : Int32)), .ref 32, .int (z_8.1 + z_12)]) rfl rfl rfl (hm_isO (cb rfl) kk_32) (y := m_92) rfl (Nat.le_of_ble_eq_true rfl) (d_92_ok (S := S) (d := e) (by omega) q_21) ?_
      rintro v_22 h_23 ⟨rfl, rfl⟩
      refine wp_s 76 [some (.ref 0), some (.int x1), some (.ref 19), some (.int (z_8.1 + z_12)), some (.int (z_16 + (1 : Int32)))] [.int x1, .int z_20.1, .int (z_16 + (1 : Int32)), .ref 32, .int (z_8.1 + z_12)] _ i_126_75 rfl ?_
      refine wp_s 77 [some (.ref 0), some (.int x1), some (.ref 19), some (.int (z_8.1 + z_12)), some (.int (z_16 + (1 : Int32)))] [.int (z_20.1 + x1), .int (z_16 + (1 : Int32)), .ref 32, .int (z_8.1 + z_12)] _ i_126_76 rfl ?_
      refine wp_s 78 [some (.ref 0), some (.int x1), some (.ref 19), some (.int (z_8.1 + z_12)), some (.int (z_16 + (1 : Int32)))] [.ref 19, .int (z_20.1 + x1), .int (z_16 + (1 : Int32)), .ref 32, .int (z_8.1 + z_12)] _ i_126_77 rfl ?_
      refine hm_get (w := .ref 26) 81 rfl i_126_78 (cb rfl) kk_19 rfl ?_
      refine wp_s 82 [some (.ref 0), some (.int x1), some (.ref 19), some (.int (z_8.1 + z_12)), some (.int (z_16 + (1 : Int32)))] [.ref 19, .ref 26, .int (z_20.1 + x1), .int (z_16 + (1 : Int32)), .ref 32, .int (z_8.1 + z_12)] _ i_126_81 rfl ?_
      refine hm_get (w := .int (z_20.2.1 19 8)) 85 rfl i_126_82 (cb rfl) kk_19 rfl ?_
      refine wp_s 86 [some (.ref 0), some (.int x1), some (.ref 19), some (.int (z_8.1 + z_12)), some (.int (z_16 + (1 : Int32)))] [.ref 0, .int (z_20.2.1 19 8), .ref 26, .int (z_20.1 + x1), .int (z_16 + (1 : Int32)), .ref 32, .int (z_8.1 + z_12)] _ i_126_85 rfl ?_
      refine hm_get (w := .ref 5) 89 rfl i_126_86 (cb rfl) kk_0 rfl ?_
      obtain ⟨k_24, hd⟩ := dk_if hd
      refine hm_dyn 92 rfl i_126_89 (cb rfl) kk_5 (fun _ _ => rfl) (kd_ne0 (cO_iff k_24).2 (by decide)) ?_
      refine hm_get (w := .int (z_20.2.1 (z_20.2.2.2.1 5) 2)) 95 rfl i_126_92 (cO_iff k_24).1 (cO_iff k_24).2 rfl ?_
      obtain ⟨z_25, q_26, hd⟩ := dk_bind hd
      refine wp_callV 98 rfl i_126_95 (by decide) rfl (vs := [.int (z_16 + (1 : Int32)), .int (z_20.1 + x1), .ref 26, .int (z_20.2.1 19 8), .int (z_20.2.1 (z_20.2.2.2.1 5) 2)]) (rest := [.int (z_8.1 + z_12)]) rfl rfl rfl (hm_isO (cb rfl) kk_32) (y := m_94) rfl (Nat.le_of_ble_eq_true rfl) (d_94_ok (S := S) (d := e) (by omega) q_26) ?_
      rintro v_27 h_28 ⟨rfl, rfl⟩
      refine wp_s 99 [some (.ref 0), some (.int x1), some (.ref 19), some (.int (z_8.1 + z_12)), some (.int (z_16 + (1 : Int32)))] [.int ((z_8.1 + z_12) - z_25.1)] _ i_126_98 rfl ?_
      obtain rfl := Option.some.inj hd
      exact wp_iret i_126_99 ⟨rfl, rfl⟩
    · rw [if_neg c_7] at hd
      refine wp_s 27 [some (.ref 0), some (.int x1), none, none, none] [.int (-1000000 : Int32)] _ i_126_24 rfl ?_
      obtain rfl := Option.some.inj hd
      exact wp_iret i_126_27 ⟨rfl, rfl⟩
set_option maxHeartbeats 4000000 in
set_option maxRecDepth 100000 in
theorem d_127_ok {X : aX} {S : rS} {g : Nat} {x1 : Int32} {m : cM} {zz : Int32 × cM} {d : Nat} (hdp : 7 ≤ d) (hd : d_127 g x1 m = some zz) : aWp X d 127 0 (aEntL [.ref 0, .int x1] 2) [] (hr m S) (fun w h' => w = some (.int zz.1) ∧ h' = hr zz.2 S) := by
  unfold d_127 at hd
  refine wp_lv (l2 := [some (.ref 0), some (.int x1)]) rfl ?_
  obtain ⟨e, rfl⟩ : ∃ e, d = e + 1 := ⟨d - 1, by omega⟩
  refine wp_s 1 [some (.ref 0), some (.int x1)] [.ref 0] _ i_127_0 rfl ?_
  refine hm_get (w := .ref 5) 4 rfl i_127_1 (cb rfl) kk_0 rfl ?_
  obtain ⟨k_1, hd⟩ := dk_if hd
  refine hm_dyn 7 rfl i_127_4 (cb rfl) kk_5 (fun _ _ => rfl) (kd_ne0 (cO_iff k_1).2 (by decide)) ?_
  refine hm_get (w := .int (m.1 (m.2.2.1 5) 0)) 10 rfl i_127_7 (cO_iff k_1).1 (cO_iff k_1).2 rfl ?_
  refine wp_if_eq 22 13 rfl rfl i_127_10 (fun c_2 => ?_) (fun c_2 => ?_)
  · rw [if_pos c_2] at hd
    refine wp_s 25 [some (.ref 0), some (.int x1)] [.int (-1000000 : Int32)] _ i_127_22 rfl ?_
    obtain rfl := Option.some.inj hd
    exact wp_iret i_127_25 ⟨rfl, rfl⟩
  · rw [if_neg c_2] at hd
    refine wp_s 14 [some (.ref 0), some (.int x1)] [.int x1] _ i_127_13 rfl ?_
    refine wp_if_lt 22 17 rfl rfl i_127_14 (fun c_3 => ?_) (fun c_3 => ?_)
    · rw [if_pos c_3] at hd
      refine wp_s 25 [some (.ref 0), some (.int x1)] [.int (-1000000 : Int32)] _ i_127_22 rfl ?_
      obtain rfl := Option.some.inj hd
      exact wp_iret i_127_25 ⟨rfl, rfl⟩
    · rw [if_neg c_3] at hd
      refine wp_s 18 [some (.ref 0), some (.int x1)] [.int x1] _ i_127_17 rfl ?_
      refine wp_s 19 [some (.ref 0), some (.int x1)] [.int (1 : Int32), .int x1] _ i_127_18 rfl ?_
      refine wp_cmp_le 26 22 rfl rfl i_127_19 (fun c_4 => ?_) (fun c_4 => ?_)
      · rw [if_pos c_4] at hd
        refine wp_s 27 [some (.ref 0), some (.int x1)] [.ref 0] _ i_127_26 rfl ?_
        refine hm_get (w := .ref 71) 30 rfl i_127_27 (cb rfl) kk_0 rfl ?_
        obtain ⟨z_5, q_6, hd⟩ := dk_bind hd
        refine wp_callV 33 rfl i_127_30 (by decide) rfl (vs := []) (rest := []) rfl rfl rfl (hm_isO (cb rfl) kk_71) (y := m_22) rfl (Nat.le_of_ble_eq_true rfl) (d_22_ok (S := S) (d := e) (by omega) q_6) ?_
        rintro v_7 h_8 ⟨rfl, rfl⟩
        refine wp_s 34 [some (.ref 0), some (.int x1)] [.int x1] _ i_127_33 rfl ?_
        refine wp_if_ne 47 37 rfl rfl i_127_34 (fun c_9 => ?_) (fun c_9 => ?_)
        · rw [if_pos c_9] at hd
          refine wp_s 48 [some (.ref 0), some (.int x1)] [.ref 0] _ i_127_47 rfl ?_
          refine hm_get (w := .ref 71) 51 rfl i_127_48 (cb rfl) kk_0 rfl ?_
          refine hm_get (w := .int (z_5.1 71 14)) 54 rfl i_127_51 (cb rfl) kk_71 rfl ?_
          obtain rfl := Option.some.inj hd
          exact wp_iret i_127_54 ⟨rfl, rfl⟩
        · rw [if_neg c_9] at hd
          refine wp_s 38 [some (.ref 0), some (.int x1)] [.ref 0] _ i_127_37 rfl ?_
          refine hm_get (w := .ref 71) 41 rfl i_127_38 (cb rfl) kk_0 rfl ?_
          refine hm_get (w := .int (z_5.1 71 13)) 44 rfl i_127_41 (cb rfl) kk_71 rfl ?_
          refine wp_s 54 [some (.ref 0), some (.int x1)] [.int (z_5.1 71 13)] _ i_127_44 rfl ?_
          obtain rfl := Option.some.inj hd
          exact wp_iret i_127_54 ⟨rfl, rfl⟩
      · rw [if_neg c_4] at hd
        refine wp_s 25 [some (.ref 0), some (.int x1)] [.int (-1000000 : Int32)] _ i_127_22 rfl ?_
        obtain rfl := Option.some.inj hd
        exact wp_iret i_127_25 ⟨rfl, rfl⟩
set_option maxHeartbeats 4000000 in
set_option maxRecDepth 100000 in
theorem d_128_ok {X : aX} {S : rS} {g : Nat} {x1 : Int32} {x2 : Int32} {x3 : Int32} {m : cM} {zz : Int32 × cM} {d : Nat} (hdp : 7 ≤ d) (hd : d_128 g x1 x2 x3 m = some zz) : aWp X d 128 0 (aEntL [.ref 0, .int x1, .int x2, .int x3] 4) [] (hr m S) (fun w h' => w = some (.int zz.1) ∧ h' = hr zz.2 S) := by
  unfold d_128 at hd
  refine wp_lv (l2 := [some (.ref 0), some (.int x1), some (.int x2), some (.int x3)]) rfl ?_
  obtain ⟨e, rfl⟩ : ∃ e, d = e + 1 := ⟨d - 1, by omega⟩
  refine wp_s 1 [some (.ref 0), some (.int x1), some (.int x2), some (.int x3)] [.ref 0] _ i_128_0 rfl ?_
  refine hm_get (w := .ref 5) 4 rfl i_128_1 (cb rfl) kk_0 rfl ?_
  obtain ⟨k_1, hd⟩ := dk_if hd
  refine hm_dyn 7 rfl i_128_4 (cb rfl) kk_5 (fun _ _ => rfl) (kd_ne0 (cO_iff k_1).2 (by decide)) ?_
  refine hm_get (w := .int (m.1 (m.2.2.1 5) 0)) 10 rfl i_128_7 (cO_iff k_1).1 (cO_iff k_1).2 rfl ?_
  refine wp_if_eq 43 13 rfl rfl i_128_10 (fun c_2 => ?_) (fun c_2 => ?_)
  · rw [if_pos c_2] at hd
    refine wp_s 45 [some (.ref 0), some (.int x1), some (.int x2), some (.int x3)] [.int (-3 : Int32)] _ i_128_43 rfl ?_
    obtain rfl := Option.some.inj hd
    exact wp_iret i_128_45 ⟨rfl, rfl⟩
  · rw [if_neg c_2] at hd
    refine wp_s 14 [some (.ref 0), some (.int x1), some (.int x2), some (.int x3)] [.int x1] _ i_128_13 rfl ?_
    refine wp_s 15 [some (.ref 0), some (.int x1), some (.int x2), some (.int x3)] [.int (0 : Int32), .int x1] _ i_128_14 rfl ?_
    refine wp_s 18 [some (.ref 0), some (.int x1), some (.int x2), some (.int x3)] [.int (30000 : Int32), .int (0 : Int32), .int x1] _ i_128_15 rfl ?_
    obtain ⟨z_3, q_4, hd⟩ := dk_bind hd
    refine wp_callS 21 rfl i_128_18 (by decide) (vs := [.int x1, .int (0 : Int32), .int (30000 : Int32)]) (rest := []) rfl rfl rfl (y := m_138) rfl (Nat.le_of_ble_eq_true rfl) (d_138_ok (S := S) (d := e) (by omega) q_4) ?_
    rintro v_5 h_6 ⟨rfl, rfl⟩
    refine wp_if_eq 43 24 rfl rfl i_128_21 (fun c_7 => ?_) (fun c_7 => ?_)
    · rw [if_pos c_7] at hd
      refine wp_s 45 [some (.ref 0), some (.int x1), some (.int x2), some (.int x3)] [.int (-3 : Int32)] _ i_128_43 rfl ?_
      obtain rfl := Option.some.inj hd
      exact wp_iret i_128_45 ⟨rfl, rfl⟩
    · rw [if_neg c_7] at hd
      refine wp_s 25 [some (.ref 0), some (.int x1), some (.int x2), some (.int x3)] [.int x2] _ i_128_24 rfl ?_
      refine wp_s 26 [some (.ref 0), some (.int x1), some (.int x2), some (.int x3)] [.int (0 : Int32), .int x2] _ i_128_25 rfl ?_
      refine wp_s 28 [some (.ref 0), some (.int x1), some (.int x2), some (.int x3)] [.int (99 : Int32), .int (0 : Int32), .int x2] _ i_128_26 rfl ?_
      obtain ⟨z_8, q_9, hd⟩ := dk_bind hd
      refine wp_callS 31 rfl i_128_28 (by decide) (vs := [.int x2, .int (0 : Int32), .int (99 : Int32)]) (rest := []) rfl rfl rfl (y := m_138) rfl (Nat.le_of_ble_eq_true rfl) (d_138_ok (S := S) (d := e) (by omega) q_9) ?_
      rintro v_10 h_11 ⟨rfl, rfl⟩
      refine wp_if_eq 43 34 rfl rfl i_128_31 (fun c_12 => ?_) (fun c_12 => ?_)
      · rw [if_pos c_12] at hd
        refine wp_s 45 [some (.ref 0), some (.int x1), some (.int x2), some (.int x3)] [.int (-3 : Int32)] _ i_128_43 rfl ?_
        obtain rfl := Option.some.inj hd
        exact wp_iret i_128_45 ⟨rfl, rfl⟩
      · rw [if_neg c_12] at hd
        refine wp_s 35 [some (.ref 0), some (.int x1), some (.int x2), some (.int x3)] [.int x3] _ i_128_34 rfl ?_
        refine wp_s 36 [some (.ref 0), some (.int x1), some (.int x2), some (.int x3)] [.int (0 : Int32), .int x3] _ i_128_35 rfl ?_
        refine wp_s 37 [some (.ref 0), some (.int x1), some (.int x2), some (.int x3)] [.int (5 : Int32), .int (0 : Int32), .int x3] _ i_128_36 rfl ?_
        obtain ⟨z_13, q_14, hd⟩ := dk_bind hd
        refine wp_callS 40 rfl i_128_37 (by decide) (vs := [.int x3, .int (0 : Int32), .int (5 : Int32)]) (rest := []) rfl rfl rfl (y := m_138) rfl (Nat.le_of_ble_eq_true rfl) (d_138_ok (S := S) (d := e) (by omega) q_14) ?_
        rintro v_15 h_16 ⟨rfl, rfl⟩
        refine wp_if_ne 46 43 rfl rfl i_128_40 (fun c_17 => ?_) (fun c_17 => ?_)
        · rw [if_pos c_17] at hd
          refine wp_s 47 [some (.ref 0), some (.int x1), some (.int x2), some (.int x3)] [.ref 0] _ i_128_46 rfl ?_
          refine hm_get (w := .ref 71) 50 rfl i_128_47 (cb rfl) kk_0 rfl ?_
          refine wp_s 51 [some (.ref 0), some (.int x1), some (.int x2), some (.int x3)] [.int x1, .ref 71] _ i_128_50 rfl ?_
          refine wp_s 52 [some (.ref 0), some (.int x1), some (.int x2), some (.int x3)] [.int x2, .int x1, .ref 71] _ i_128_51 rfl ?_
          obtain ⟨z_18, q_19, hd⟩ := dk_bind hd
          refine wp_callV 55 rfl i_128_52 (by decide) rfl (vs := [.int x1, .int x2]) (rest := []) rfl rfl rfl (hm_isO (cb rfl) kk_71) (y := m_30) rfl (Nat.le_of_ble_eq_true rfl) (d_30_ok (S := S) (d := e) (by omega) q_19) ?_
          rintro v_20 h_21 ⟨rfl, rfl⟩
          refine wp_s 56 [some (.ref 0), some (.int x1), some (.int x2), some (.int x3)] [.int x3] _ i_128_55 rfl ?_
          refine wp_if_ne 67 59 rfl rfl i_128_56 (fun c_22 => ?_) (fun c_22 => ?_)
          · rw [if_pos c_22] at hd
            refine wp_s 68 [some (.ref 0), some (.int x1), some (.int x2), some (.int x3)] [.int x3] _ i_128_67 rfl ?_
            refine wp_s 69 [some (.ref 0), some (.int x1), some (.int x2), some (.int x3)] [.int (4 : Int32), .int x3] _ i_128_68 rfl ?_
            refine wp_cmp_le 82 72 rfl rfl i_128_69 (fun c_23 => ?_) (fun c_23 => ?_)
            · rw [if_pos c_23] at hd
              refine wp_s 83 [some (.ref 0), some (.int x1), some (.int x2), some (.int x3)] [.ref 0] _ i_128_82 rfl ?_
              refine hm_get (w := .ref 71) 86 rfl i_128_83 (cb rfl) kk_0 rfl ?_
              refine hm_get (w := .ref 72) 89 rfl i_128_86 (cb rfl) kk_71 rfl ?_
              refine wp_s 90 [some (.ref 0), some (.int x1), some (.int x2), some (.int x3)] [.int x3, .ref 72] _ i_128_89 rfl ?_
              obtain ⟨z_24, q_25, hd⟩ := dk_bind hd
              refine wp_callV 93 rfl i_128_90 (by decide) rfl (vs := [.int x3]) (rest := []) rfl rfl rfl (hm_isO (cb rfl) kk_72) (y := m_4) rfl (Nat.le_of_ble_eq_true rfl) (d_4_ok (S := S) (d := e) (by omega) q_25) ?_
              rintro v_26 h_27 ⟨rfl, rfl⟩
              obtain rfl := Option.some.inj hd
              exact wp_iret i_128_93 ⟨rfl, rfl⟩
            · rw [if_neg c_23] at hd
              refine wp_s 73 [some (.ref 0), some (.int x1), some (.int x2), some (.int x3)] [.ref 0] _ i_128_72 rfl ?_
              refine hm_get (w := .ref 71) 76 rfl i_128_73 (cb rfl) kk_0 rfl ?_
              refine hm_get (w := .int (z_18.1 71 16)) 79 rfl i_128_76 (cb rfl) kk_71 rfl ?_
              refine wp_s 93 [some (.ref 0), some (.int x1), some (.int x2), some (.int x3)] [.int (z_18.1 71 16)] _ i_128_79 rfl ?_
              obtain rfl := Option.some.inj hd
              exact wp_iret i_128_93 ⟨rfl, rfl⟩
          · rw [if_neg c_22] at hd
            refine wp_s 60 [some (.ref 0), some (.int x1), some (.int x2), some (.int x3)] [.ref 0] _ i_128_59 rfl ?_
            refine hm_get (w := .ref 71) 63 rfl i_128_60 (cb rfl) kk_0 rfl ?_
            refine hm_get (w := .int (z_18.1 71 15)) 66 rfl i_128_63 (cb rfl) kk_71 rfl ?_
            obtain rfl := Option.some.inj hd
            exact wp_iret i_128_66 ⟨rfl, rfl⟩
        · rw [if_neg c_17] at hd
          refine wp_s 45 [some (.ref 0), some (.int x1), some (.int x2), some (.int x3)] [.int (-3 : Int32)] _ i_128_43 rfl ?_
          obtain rfl := Option.some.inj hd
          exact wp_iret i_128_45 ⟨rfl, rfl⟩
set_option maxHeartbeats 4000000 in
set_option maxRecDepth 100000 in
theorem d_129_ok {X : aX} {S : rS} {g : Nat} {x1 : Int32} {x2 : Int32} {x3 : Int32} {x4 : Int32} {m : cM} {zz : Int32 × cM} {d : Nat} (hdp : 1 ≤ d) (hd : d_129 g x1 x2 x3 x4 m = some zz) : aWp X d 129 0 (aEntL [.ref 0, .int x1, .int x2, .int x3, .int x4] 5) [] (hr m S) (fun w h' => w = some (.int zz.1) ∧ h' = hr zz.2 S) := by
  unfold d_129 at hd
  refine wp_lv (l2 := [some (.ref 0), some (.int x1), some (.int x2), some (.int x3), some (.int x4)]) rfl ?_
  obtain ⟨e, rfl⟩ : ∃ e, d = e + 1 := ⟨d - 1, by omega⟩
  refine wp_s 1 [some (.ref 0), some (.int x1), some (.int x2), some (.int x3), some (.int x4)] [.int x1] _ i_129_0 rfl ?_
  refine wp_s 2 [some (.ref 0), some (.int x1), some (.int x2), some (.int x3), some (.int x4)] [.int (-1 : Int32), .int x1] _ i_129_1 rfl ?_
  refine wp_cmp_ne 15 5 rfl rfl i_129_2 (fun c_1 => ?_) (fun c_1 => ?_)
  · rw [if_pos c_1] at hd
    refine wp_s 16 [some (.ref 0), some (.int x1), some (.int x2), some (.int x3), some (.int x4)] [.ref 0] _ i_129_15 rfl ?_
    refine hm_get (w := .ref 5) 19 rfl i_129_16 (cb rfl) kk_0 rfl ?_
    obtain ⟨k_2, hd⟩ := dk_if hd
    refine hm_dyn 22 rfl i_129_19 (cb rfl) kk_5 (fun _ _ => rfl) (kd_ne0 (cO_iff k_2).2 (by decide)) ?_
    refine wp_s 23 [some (.ref 0), some (.int x1), some (.int x2), some (.int x3), some (.int x4)] [.int x1, .ref (m.2.2.1 5)] _ i_129_22 rfl ?_
    obtain ⟨z_3, q_4, hd⟩ := dk_bind hd
    refine wp_callV 26 rfl i_129_23 (by decide) rfl (vs := [.int x1]) (rest := []) rfl rfl rfl (hm_isO (cO_iff k_2).1 (cO_iff k_2).2) (y := m_55) rfl (Nat.le_of_ble_eq_true rfl) (d_55_ok (S := S) (d := e) (by omega) q_4) ?_
    rintro v_5 h_6 ⟨rfl, rfl⟩
    refine wp_if_eq 73 29 rfl rfl i_129_26 (fun c_7 => ?_) (fun c_7 => ?_)
    · rw [if_pos c_7] at hd
      refine wp_s 75 [some (.ref 0), some (.int x1), some (.int x2), some (.int x3), some (.int x4)] [.int (-2 : Int32)] _ i_129_73 rfl ?_
      obtain rfl := Option.some.inj hd
      exact wp_iret i_129_75 ⟨rfl, rfl⟩
    · rw [if_neg c_7] at hd
      refine wp_s 30 [some (.ref 0), some (.int x1), some (.int x2), some (.int x3), some (.int x4)] [.int x2] _ i_129_29 rfl ?_
      refine wp_s 31 [some (.ref 0), some (.int x1), some (.int x2), some (.int x3), some (.int x4)] [.int (0 : Int32), .int x2] _ i_129_30 rfl ?_
      refine wp_s 33 [some (.ref 0), some (.int x1), some (.int x2), some (.int x3), some (.int x4)] [.int (99 : Int32), .int (0 : Int32), .int x2] _ i_129_31 rfl ?_
      obtain ⟨z_8, q_9, hd⟩ := dk_bind hd
      refine wp_callS 36 rfl i_129_33 (by decide) (vs := [.int x2, .int (0 : Int32), .int (99 : Int32)]) (rest := []) rfl rfl rfl (y := m_138) rfl (Nat.le_of_ble_eq_true rfl) (d_138_ok (S := S) (d := e) (by omega) q_9) ?_
      rintro v_10 h_11 ⟨rfl, rfl⟩
      refine wp_if_eq 73 39 rfl rfl i_129_36 (fun c_12 => ?_) (fun c_12 => ?_)
      · rw [if_pos c_12] at hd
        refine wp_s 75 [some (.ref 0), some (.int x1), some (.int x2), some (.int x3), some (.int x4)] [.int (-2 : Int32)] _ i_129_73 rfl ?_
        obtain rfl := Option.some.inj hd
        exact wp_iret i_129_75 ⟨rfl, rfl⟩
      · rw [if_neg c_12] at hd
        refine wp_s 40 [some (.ref 0), some (.int x1), some (.int x2), some (.int x3), some (.int x4)] [.int x3] _ i_129_39 rfl ?_
        refine wp_s 41 [some (.ref 0), some (.int x1), some (.int x2), some (.int x3), some (.int x4)] [.int (0 : Int32), .int x3] _ i_129_40 rfl ?_
        refine wp_s 43 [some (.ref 0), some (.int x1), some (.int x2), some (.int x3), some (.int x4)] [.int (99 : Int32), .int (0 : Int32), .int x3] _ i_129_41 rfl ?_
        obtain ⟨z_13, q_14, hd⟩ := dk_bind hd
        refine wp_callS 46 rfl i_129_43 (by decide) (vs := [.int x3, .int (0 : Int32), .int (99 : Int32)]) (rest := []) rfl rfl rfl (y := m_138) rfl (Nat.le_of_ble_eq_true rfl) (d_138_ok (S := S) (d := e) (by omega) q_14) ?_
        rintro v_15 h_16 ⟨rfl, rfl⟩
        refine wp_if_eq 73 49 rfl rfl i_129_46 (fun c_17 => ?_) (fun c_17 => ?_)
        · rw [if_pos c_17] at hd
          refine wp_s 75 [some (.ref 0), some (.int x1), some (.int x2), some (.int x3), some (.int x4)] [.int (-2 : Int32)] _ i_129_73 rfl ?_
          obtain rfl := Option.some.inj hd
          exact wp_iret i_129_75 ⟨rfl, rfl⟩
        · rw [if_neg c_17] at hd
          refine wp_s 51 [some (.ref 0), some (.int x1), some (.int x2), some (.int x3), some (.int x4)] [.int x4] _ i_129_49 rfl ?_
          refine wp_s 52 [some (.ref 0), some (.int x1), some (.int x2), some (.int x3), some (.int x4)] [.int (1 : Int32), .int x4] _ i_129_51 rfl ?_
          refine wp_s 55 [some (.ref 0), some (.int x1), some (.int x2), some (.int x3), some (.int x4)] [.int (9999 : Int32), .int (1 : Int32), .int x4] _ i_129_52 rfl ?_
          obtain ⟨z_18, q_19, hd⟩ := dk_bind hd
          refine wp_callS 58 rfl i_129_55 (by decide) (vs := [.int x4, .int (1 : Int32), .int (9999 : Int32)]) (rest := []) rfl rfl rfl (y := m_138) rfl (Nat.le_of_ble_eq_true rfl) (d_138_ok (S := S) (d := e) (by omega) q_19) ?_
          rintro v_20 h_21 ⟨rfl, rfl⟩
          refine wp_if_eq 73 61 rfl rfl i_129_58 (fun c_22 => ?_) (fun c_22 => ?_)
          · rw [if_pos c_22] at hd
            refine wp_s 75 [some (.ref 0), some (.int x1), some (.int x2), some (.int x3), some (.int x4)] [.int (-2 : Int32)] _ i_129_73 rfl ?_
            obtain rfl := Option.some.inj hd
            exact wp_iret i_129_75 ⟨rfl, rfl⟩
          · rw [if_neg c_22] at hd
            refine wp_s 62 [some (.ref 0), some (.int x1), some (.int x2), some (.int x3), some (.int x4)] [.ref 0] _ i_129_61 rfl ?_
            refine hm_get (w := .ref 5) 65 rfl i_129_62 (cb rfl) kk_0 rfl ?_
            refine hm_get (w := .int (m.1 5 8)) 68 rfl i_129_65 (cb rfl) kk_5 rfl ?_
            refine wp_s 70 [some (.ref 0), some (.int x1), some (.int x2), some (.int x3), some (.int x4)] [.int (10 : Int32), .int (m.1 5 8)] _ i_129_68 rfl ?_
            refine wp_cmp_lt 76 73 rfl rfl i_129_70 (fun c_23 => ?_) (fun c_23 => ?_)
            · rw [if_pos c_23] at hd
              refine wp_s 77 [some (.ref 0), some (.int x1), some (.int x2), some (.int x3), some (.int x4)] [.ref 0] _ i_129_76 rfl ?_
              refine hm_get (w := .ref 5) 80 rfl i_129_77 (cb rfl) kk_0 rfl ?_
              refine wp_s 81 [some (.ref 0), some (.int x1), some (.int x2), some (.int x3), some (.int x4)] [.int x1, .ref 5] _ i_129_80 rfl ?_
              refine wp_s 82 [some (.ref 0), some (.int x1), some (.int x2), some (.int x3), some (.int x4)] [.int x2, .int x1, .ref 5] _ i_129_81 rfl ?_
              refine wp_s 83 [some (.ref 0), some (.int x1), some (.int x2), some (.int x3), some (.int x4)] [.int x3, .int x2, .int x1, .ref 5] _ i_129_82 rfl ?_
              refine wp_s 85 [some (.ref 0), some (.int x1), some (.int x2), some (.int x3), some (.int x4)] [.int x4, .int x3, .int x2, .int x1, .ref 5] _ i_129_83 rfl ?_
              obtain ⟨z_24, q_25, hd⟩ := dk_bind hd
              refine wp_callV 88 rfl i_129_85 (by decide) rfl (vs := [.int x1, .int x2, .int x3, .int x4]) (rest := []) rfl rfl rfl (hm_isO (cb rfl) kk_5) (y := m_100) rfl (Nat.le_of_ble_eq_true rfl) (d_100_ok (S := S) (d := e) (by omega) q_25) ?_
              rintro v_26 h_27 ⟨rfl, rfl⟩
              refine wp_s 89 [some (.ref 0), some (.int x1), some (.int x2), some (.int x3), some (.int x4)] [.ref 0] _ i_129_88 rfl ?_
              refine hm_get (w := .ref 5) 92 rfl i_129_89 (cb rfl) kk_0 rfl ?_
              refine hm_get (w := .int (z_24.1 5 8)) 95 rfl i_129_92 (cb rfl) kk_5 rfl ?_
              obtain rfl := Option.some.inj hd
              exact wp_iret i_129_95 ⟨rfl, rfl⟩
            · rw [if_neg c_23] at hd
              refine wp_s 75 [some (.ref 0), some (.int x1), some (.int x2), some (.int x3), some (.int x4)] [.int (-2 : Int32)] _ i_129_73 rfl ?_
              obtain rfl := Option.some.inj hd
              exact wp_iret i_129_75 ⟨rfl, rfl⟩
  · rw [if_neg c_1] at hd
    refine wp_s 6 [some (.ref 0), some (.int x1), some (.int x2), some (.int x3), some (.int x4)] [.ref 0] _ i_129_5 rfl ?_
    refine hm_get (w := .ref 5) 9 rfl i_129_6 (cb rfl) kk_0 rfl ?_
    refine wp_s 10 [some (.ref 0), some (.int x1), some (.int x2), some (.int x3), some (.int x4)] [.int (0 : Int32), .ref 5] _ i_129_9 rfl ?_
    obtain ⟨mm_28, q_29, hd⟩ := dk_bind hd
    refine hm_put 13 rfl i_129_10 (cb rfl) kk_5 (fun _ _ => rfl) (fun _ _ => Nat.le_of_ble_eq_true rfl) rfl ?_
    rw [Option.some.inj q_29]
    refine wp_s 14 [some (.ref 0), some (.int x1), some (.int x2), some (.int x3), some (.int x4)] [.int (0 : Int32)] _ i_129_13 rfl ?_
    obtain rfl := Option.some.inj hd
    exact wp_iret i_129_14 ⟨rfl, rfl⟩
set_option maxHeartbeats 4000000 in
set_option maxRecDepth 100000 in
theorem d_130_ok {X : aX} {S : rS} {g : Nat} {x1 : Int32} {m : cM} {zz : Int32 × cM} {d : Nat} (hdp : 6 ≤ d) (hd : d_130 g x1 m = some zz) : aWp X d 130 0 (aEntL [.ref 0, .int x1] 2) [] (hr m S) (fun w h' => w = some (.int zz.1) ∧ h' = hr zz.2 S) := by
  unfold d_130 at hd
  refine wp_lv (l2 := [some (.ref 0), some (.int x1)]) rfl ?_
  obtain ⟨e, rfl⟩ : ∃ e, d = e + 1 := ⟨d - 1, by omega⟩
  refine wp_s 1 [some (.ref 0), some (.int x1)] [.ref 0] _ i_130_0 rfl ?_
  refine hm_get (w := .ref 5) 4 rfl i_130_1 (cb rfl) kk_0 rfl ?_
  obtain ⟨k_1, hd⟩ := dk_if hd
  refine hm_dyn 7 rfl i_130_4 (cb rfl) kk_5 (fun _ _ => rfl) (kd_ne0 (cO_iff k_1).2 (by decide)) ?_
  refine hm_get (w := .int (m.1 (m.2.2.1 5) 0)) 10 rfl i_130_7 (cO_iff k_1).1 (cO_iff k_1).2 rfl ?_
  refine wp_if_eq 22 13 rfl rfl i_130_10 (fun c_2 => ?_) (fun c_2 => ?_)
  · rw [if_pos c_2] at hd
    refine wp_s 24 [some (.ref 0), some (.int x1)] [.int (-3 : Int32)] _ i_130_22 rfl ?_
    obtain rfl := Option.some.inj hd
    exact wp_iret i_130_24 ⟨rfl, rfl⟩
  · rw [if_neg c_2] at hd
    refine wp_s 14 [some (.ref 0), some (.int x1)] [.int x1] _ i_130_13 rfl ?_
    refine wp_if_lt 22 17 rfl rfl i_130_14 (fun c_3 => ?_) (fun c_3 => ?_)
    · rw [if_pos c_3] at hd
      refine wp_s 24 [some (.ref 0), some (.int x1)] [.int (-3 : Int32)] _ i_130_22 rfl ?_
      obtain rfl := Option.some.inj hd
      exact wp_iret i_130_24 ⟨rfl, rfl⟩
    · rw [if_neg c_3] at hd
      refine wp_s 18 [some (.ref 0), some (.int x1)] [.int x1] _ i_130_17 rfl ?_
      refine wp_s 19 [some (.ref 0), some (.int x1)] [.int (1 : Int32), .int x1] _ i_130_18 rfl ?_
      refine wp_cmp_le 25 22 rfl rfl i_130_19 (fun c_4 => ?_) (fun c_4 => ?_)
      · rw [if_pos c_4] at hd
        refine wp_s 26 [some (.ref 0), some (.int x1)] [.ref 0] _ i_130_25 rfl ?_
        refine hm_get (w := .ref 71) 29 rfl i_130_26 (cb rfl) kk_0 rfl ?_
        obtain ⟨z_5, q_6, hd⟩ := dk_bind hd
        refine wp_callV 32 rfl i_130_29 (by decide) rfl (vs := []) (rest := []) rfl rfl rfl (hm_isO (cb rfl) kk_71) (y := m_32) rfl (Nat.le_of_ble_eq_true rfl) (d_32_ok (S := S) (d := e) (by omega) q_6) ?_
        rintro v_7 h_8 ⟨rfl, rfl⟩
        refine wp_s 33 [some (.ref 0), some (.int x1)] [.int x1] _ i_130_32 rfl ?_
        refine wp_if_ne 44 36 rfl rfl i_130_33 (fun c_9 => ?_) (fun c_9 => ?_)
        · rw [if_pos c_9] at hd
          refine wp_s 45 [some (.ref 0), some (.int x1)] [.ref 0] _ i_130_44 rfl ?_
          refine hm_get (w := .ref 71) 48 rfl i_130_45 (cb rfl) kk_0 rfl ?_
          refine hm_get (w := .int (z_5.1 71 17)) 51 rfl i_130_48 (cb rfl) kk_71 rfl ?_
          refine wp_if_le 66 54 rfl rfl i_130_51 (fun c_10 => ?_) (fun c_10 => ?_)
          · rw [if_pos c_10] at hd
            refine wp_s 68 [some (.ref 0), some (.int x1)] [.int (-2 : Int32)] _ i_130_66 rfl ?_
            obtain rfl := Option.some.inj hd
            exact wp_iret i_130_68 ⟨rfl, rfl⟩
          · rw [if_neg c_10] at hd
            refine wp_s 55 [some (.ref 0), some (.int x1)] [.ref 0] _ i_130_54 rfl ?_
            refine hm_get (w := .ref 71) 58 rfl i_130_55 (cb rfl) kk_0 rfl ?_
            refine hm_get (w := .ref 79) 61 rfl i_130_58 (cb rfl) kk_71 rfl ?_
            refine wp_s 62 [some (.ref 0), some (.int x1)] [.int (0 : Int32), .ref 79] _ i_130_61 rfl ?_
            obtain ⟨k_11, hd⟩ := dk_if hd
            refine hm_iald 63 rfl i_130_62 (cb rfl) kk_79 k_11 ?_
            refine wp_s 68 [some (.ref 0), some (.int x1)] [.int (z_5.1 79 (0 : Int32).toNatClampNeg)] _ i_130_63 rfl ?_
            obtain rfl := Option.some.inj hd
            exact wp_iret i_130_68 ⟨rfl, rfl⟩
        · rw [if_neg c_9] at hd
          refine wp_s 37 [some (.ref 0), some (.int x1)] [.ref 0] _ i_130_36 rfl ?_
          refine hm_get (w := .ref 71) 40 rfl i_130_37 (cb rfl) kk_0 rfl ?_
          refine hm_get (w := .int (z_5.1 71 17)) 43 rfl i_130_40 (cb rfl) kk_71 rfl ?_
          obtain rfl := Option.some.inj hd
          exact wp_iret i_130_43 ⟨rfl, rfl⟩
      · rw [if_neg c_4] at hd
        refine wp_s 24 [some (.ref 0), some (.int x1)] [.int (-3 : Int32)] _ i_130_22 rfl ?_
        obtain rfl := Option.some.inj hd
        exact wp_iret i_130_24 ⟨rfl, rfl⟩
set_option maxHeartbeats 4000000 in
set_option maxRecDepth 100000 in
theorem d_131_ok {X : aX} {S : rS} {g : Nat} {x1 : Int32} {x2 : Int32} {x3 : Int32} {m : cM} {zz : Int32 × cM} {d : Nat} (hdp : 6 ≤ d) (hd : d_131 g x1 x2 x3 m = some zz) : aWp X d 131 0 (aEntL [.ref 0, .int x1, .int x2, .int x3] 4) [] (hr m S) (fun w h' => w = some (.int zz.1) ∧ h' = hr zz.2 S) := by
  unfold d_131 at hd
  refine wp_lv (l2 := [some (.ref 0), some (.int x1), some (.int x2), some (.int x3)]) rfl ?_
  obtain ⟨e, rfl⟩ : ∃ e, d = e + 1 := ⟨d - 1, by omega⟩
  refine wp_s 1 [some (.ref 0), some (.int x1), some (.int x2), some (.int x3)] [.ref 0] _ i_131_0 rfl ?_
  refine hm_get (w := .ref 5) 4 rfl i_131_1 (cb rfl) kk_0 rfl ?_
  obtain ⟨k_1, hd⟩ := dk_if hd
  refine hm_dyn 7 rfl i_131_4 (cb rfl) kk_5 (fun _ _ => rfl) (kd_ne0 (cO_iff k_1).2 (by decide)) ?_
  refine wp_s 8 [some (.ref 0), some (.int x1), some (.int x2), some (.int x3)] [.int x1, .ref (m.2.2.1 5)] _ i_131_7 rfl ?_
  obtain ⟨z_2, q_3, hd⟩ := dk_bind hd
  refine wp_callV 11 rfl i_131_8 (by decide) rfl (vs := [.int x1]) (rest := []) rfl rfl rfl (hm_isO (cO_iff k_1).1 (cO_iff k_1).2) (y := m_55) rfl (Nat.le_of_ble_eq_true rfl) (d_55_ok (S := S) (d := e) (by omega) q_3) ?_
  rintro v_4 h_5 ⟨rfl, rfl⟩
  refine wp_if_eq 33 14 rfl rfl i_131_11 (fun c_6 => ?_) (fun c_6 => ?_)
  · rw [if_pos c_6] at hd
    refine wp_s 34 [some (.ref 0), some (.int x1), some (.int x2), some (.int x3)] [.int (-1 : Int32)] _ i_131_33 rfl ?_
    obtain rfl := Option.some.inj hd
    exact wp_iret i_131_34 ⟨rfl, rfl⟩
  · rw [if_neg c_6] at hd
    refine wp_s 15 [some (.ref 0), some (.int x1), some (.int x2), some (.int x3)] [.int x2] _ i_131_14 rfl ?_
    refine wp_s 16 [some (.ref 0), some (.int x1), some (.int x2), some (.int x3)] [.int (0 : Int32), .int x2] _ i_131_15 rfl ?_
    refine wp_s 18 [some (.ref 0), some (.int x1), some (.int x2), some (.int x3)] [.int (99 : Int32), .int (0 : Int32), .int x2] _ i_131_16 rfl ?_
    obtain ⟨z_7, q_8, hd⟩ := dk_bind hd
    refine wp_callS 21 rfl i_131_18 (by decide) (vs := [.int x2, .int (0 : Int32), .int (99 : Int32)]) (rest := []) rfl rfl rfl (y := m_138) rfl (Nat.le_of_ble_eq_true rfl) (d_138_ok (S := S) (d := e) (by omega) q_8) ?_
    rintro v_9 h_10 ⟨rfl, rfl⟩
    refine wp_if_eq 33 24 rfl rfl i_131_21 (fun c_11 => ?_) (fun c_11 => ?_)
    · rw [if_pos c_11] at hd
      refine wp_s 34 [some (.ref 0), some (.int x1), some (.int x2), some (.int x3)] [.int (-1 : Int32)] _ i_131_33 rfl ?_
      obtain rfl := Option.some.inj hd
      exact wp_iret i_131_34 ⟨rfl, rfl⟩
    · rw [if_neg c_11] at hd
      refine wp_s 25 [some (.ref 0), some (.int x1), some (.int x2), some (.int x3)] [.int x3] _ i_131_24 rfl ?_
      refine wp_if_lt 33 28 rfl rfl i_131_25 (fun c_12 => ?_) (fun c_12 => ?_)
      · rw [if_pos c_12] at hd
        refine wp_s 34 [some (.ref 0), some (.int x1), some (.int x2), some (.int x3)] [.int (-1 : Int32)] _ i_131_33 rfl ?_
        obtain rfl := Option.some.inj hd
        exact wp_iret i_131_34 ⟨rfl, rfl⟩
      · rw [if_neg c_12] at hd
        refine wp_s 29 [some (.ref 0), some (.int x1), some (.int x2), some (.int x3)] [.int x3] _ i_131_28 rfl ?_
        refine wp_s 30 [some (.ref 0), some (.int x1), some (.int x2), some (.int x3)] [.int (1 : Int32), .int x3] _ i_131_29 rfl ?_
        refine wp_cmp_le 35 33 rfl rfl i_131_30 (fun c_13 => ?_) (fun c_13 => ?_)
        · rw [if_pos c_13] at hd
          refine wp_s 36 [some (.ref 0), some (.int x1), some (.int x2), some (.int x3)] [.ref 0] _ i_131_35 rfl ?_
          refine hm_get (w := .ref 71) 39 rfl i_131_36 (cb rfl) kk_0 rfl ?_
          obtain ⟨z_14, q_15, hd⟩ := dk_bind hd
          refine wp_callV 42 rfl i_131_39 (by decide) rfl (vs := []) (rest := []) rfl rfl rfl (hm_isO (cb rfl) kk_71) (y := m_32) rfl (Nat.le_of_ble_eq_true rfl) (d_32_ok (S := S) (d := e) (by omega) q_15) ?_
          rintro v_16 h_17 ⟨rfl, rfl⟩
          refine wp_s 43 [some (.ref 0), some (.int x1), some (.int x2), some (.int x3)] [.ref 0] _ i_131_42 rfl ?_
          refine hm_get (w := .ref 71) 46 rfl i_131_43 (cb rfl) kk_0 rfl ?_
          refine hm_get (w := .int (z_14.1 71 17)) 49 rfl i_131_46 (cb rfl) kk_71 rfl ?_
          refine wp_s 50 [some (.ref 0), some (.int x1), some (.int x2), some (.int x3)] [.int (1 : Int32), .int (z_14.1 71 17)] _ i_131_49 rfl ?_
          refine wp_cmp_ge 56 53 rfl rfl i_131_50 (fun c_18 => ?_) (fun c_18 => ?_)
          · rw [if_pos c_18] at hd
            refine wp_s 57 [some (.ref 0), some (.int x1), some (.int x2), some (.int x3)] [.ref 0] _ i_131_56 rfl ?_
            refine hm_get (w := .ref 71) 60 rfl i_131_57 (cb rfl) kk_0 rfl ?_
            refine wp_s 61 [some (.ref 0), some (.int x1), some (.int x2), some (.int x3)] [.int x1, .ref 71] _ i_131_60 rfl ?_
            refine wp_s 62 [some (.ref 0), some (.int x1), some (.int x2), some (.int x3)] [.int x2, .int x1, .ref 71] _ i_131_61 rfl ?_
            obtain ⟨z_19, q_20, hd⟩ := dk_bind hd
            refine wp_callV 65 rfl i_131_62 (by decide) rfl (vs := [.int x1, .int x2]) (rest := []) rfl rfl rfl (hm_isO (cb rfl) kk_71) (y := m_34) rfl (Nat.le_of_ble_eq_true rfl) (d_34_ok (S := S) (d := e) (by omega) q_20) ?_
            rintro v_21 h_22 ⟨rfl, rfl⟩
            refine wp_s 66 [some (.ref 0), some (.int x1), some (.int x2), some (.int x3)] [.ref 0] _ i_131_65 rfl ?_
            refine hm_get (w := .ref 71) 69 rfl i_131_66 (cb rfl) kk_0 rfl ?_
            refine hm_get (w := .ref 72) 72 rfl i_131_69 (cb rfl) kk_71 rfl ?_
            refine wp_s 73 [some (.ref 0), some (.int x1), some (.int x2), some (.int x3)] [.int (1 : Int32), .ref 72] _ i_131_72 rfl ?_
            refine wp_s 74 [some (.ref 0), some (.int x1), some (.int x2), some (.int x3)] [.int x3, .int (1 : Int32), .ref 72] _ i_131_73 rfl ?_
            refine wp_s 75 [some (.ref 0), some (.int x1), some (.int x2), some (.int x3)] [.int ((1 : Int32) - x3), .ref 72] _ i_131_74 rfl ?_
            obtain ⟨z_23, q_24, hd⟩ := dk_bind hd
            refine wp_callV 78 rfl i_131_75 (by decide) rfl (vs := [.int ((1 : Int32) - x3)]) (rest := []) rfl rfl rfl (hm_isO (cb rfl) kk_72) (y := m_4) rfl (Nat.le_of_ble_eq_true rfl) (d_4_ok (S := S) (d := e) (by omega) q_24) ?_
            rintro v_25 h_26 ⟨rfl, rfl⟩
            obtain rfl := Option.some.inj hd
            exact wp_iret i_131_78 ⟨rfl, rfl⟩
          · rw [if_neg c_18] at hd
            refine wp_s 55 [some (.ref 0), some (.int x1), some (.int x2), some (.int x3)] [.int (-2 : Int32)] _ i_131_53 rfl ?_
            obtain rfl := Option.some.inj hd
            exact wp_iret i_131_55 ⟨rfl, rfl⟩
        · rw [if_neg c_13] at hd
          refine wp_s 34 [some (.ref 0), some (.int x1), some (.int x2), some (.int x3)] [.int (-1 : Int32)] _ i_131_33 rfl ?_
          obtain rfl := Option.some.inj hd
          exact wp_iret i_131_34 ⟨rfl, rfl⟩
